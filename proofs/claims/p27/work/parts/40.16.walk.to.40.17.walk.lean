section
-- WorkMeterModel.period
noncomputable def f237_1 (a1 a2 : Int) (m : zM) : Int :=
  if a1 = (-1) then
  (zn (f209_1 0 m) fun v506 =>
  zn (f209_1 1 m) fun v510 =>
  zn ((v506 * v506)) fun z511 =>
  zn ((v510 * v510)) fun z512 =>
  zn (f214_1 (z511 + z512) m) fun v515 =>
  if a2 = 0 then
  (v506)
  else
  (if a2 = 1 then
  (v510)
  else
  (if a2 = 2 then
  (zn (f209_1 2 m) fun v522 =>
  v522)
  else
  (if a2 = 3 then
  (zn (f209_1 3 m) fun v527 =>
  v527)
  else
  (if a2 = 4 then
  (v515)
  else
  (if a2 = 5 then
  (zn (f221_1 v506 v510 m) fun v532 =>
  v532)
  else
  (if a2 = 6 then
  (zn (f238_1 95 m) fun v537 =>
  v537)
  else
  (if a2 = 7 then
  (zn (f238_1 143 m) fun v542 =>
  v542)
  else
  (if a2 = 8 then
  (zn (f239_1 v506 v515 m) fun v546 =>
  v546)
  else
  ((-10000000000)))))))))))
  else
  (if a1 < 0 then
  ((-10000000000))
  else
  (if a1 ≤ ((m 4 45 1) - 1) then
  (zn (f210_1 a1 m) fun v559 =>
  zn (f212_1 a1 m) fun v563 =>
  zn ((v559 * v559)) fun z564 =>
  zn ((v563 * v563)) fun z565 =>
  zn (f214_1 (z564 + z565) m) fun v568 =>
  if a2 = 0 then
  (v559)
  else
  (if a2 = 1 then
  (v563)
  else
  (if a2 = 2 then
  (zn (f213_1 95 a1 m) fun v575 =>
  v575)
  else
  (if a2 = 3 then
  (zn (f213_1 143 a1 m) fun v580 =>
  v580)
  else
  (if a2 = 4 then
  (v568)
  else
  (if a2 = 5 then
  (zn (f221_1 v559 v563 m) fun v585 =>
  v585)
  else
  (if a2 = 6 then
  (zn (f213_1 95 a1 m) fun v590 =>
  zn ((v590 / (m 4 45 2))) fun z592 =>
  zn (f214_1 z592 m) fun v595 =>
  v595)
  else
  (if a2 = 7 then
  (zn (f213_1 143 a1 m) fun v600 =>
  zn ((v600 / (m 4 45 2))) fun z602 =>
  zn (f214_1 z602 m) fun v605 =>
  v605)
  else
  (if a2 = 8 then
  (zn (f239_1 v559 v568 m) fun v609 =>
  v609)
  else
  ((-10000000000)))))))))))
  else
  ((-10000000000))))
-- WorkMeterModel.period
theorem c237_1 {s : Nat × (Nat → Int32)} {S : zS} {m0 m : zM} {B : Int} {d : Nat} {Q : Option zV → zM → Prop} (a1 a2 : Int) (hd : 15 ≤ d) (hJ : J S m0 B m) (hB : B + 0 ≤ 1000000000) (ha1 : (-2147483648) ≤ a1 ∧ a1 ≤ 2147483647) (ha2 : (-2147483648) ≤ a2 ∧ a2 ≤ 2147483647) (hQ : ∀ (v : Int), ((-12000000000) ≤ v ∧ v ≤ 12000000000) → f237_1 a1 a2 m = v → Q (some (zl v)) m) : X (EE s) d 237 0 [(0, zr 4 44), (1, zi a1), (2, zi a2)] [] m Q := by
  refine X.iload_n 1 i237_0 rfl rfl rfl ?_
  refine X.iconst 2 i237_1 rfl rfl (by decide) ?_
  refine X.icmpeq 25 5 i237_2 rfl rfl rfl (fun h501 => ?_) (fun h501 => ?_)
  · refine X.iload_n 26 i237_25 rfl rfl rfl ?_
    refine X.iconst 27 i237_26 rfl rfl (by decide) ?_
    refine X.icmpne 34 30 i237_27 rfl rfl rfl (fun h502 => (by exfalso; omega)) (fun h502 => ?_)
    refine X.iconst 31 i237_30 rfl rfl (by decide) ?_
    refine X.goto 35 i237_31 rfl rfl ?_
    refine X.istore_n 36 [(0, zr 4 44), (1, zi a1), (2, zi a2), (3, zi 1)] i237_35 rfl rfl rfl ?_
    refine X.iload_n 37 i237_36 rfl rfl rfl ?_
    refine X.ifeq 48 40 i237_37 rfl rfl rfl (fun h503 => (by exfalso; omega)) (fun h503 => ?_)
    refine X.aload_n 41 i237_40 rfl rfl rfl ?_
    refine X.iconst 42 i237_41 rfl rfl (by decide) ?_
    refine X.callv 45 [zi 0] [] [(0, zr 4 44), (1, zi 0)] i237_42 rfl (by decide) rfl rfl (by omega) rfl rfl (by decide) rfl t209 (Nat.le_of_ble_eq_true rfl) (Nat.le_of_ble_eq_true rfl) rfl ?_
    refine c209_1 (B := B)  0 (by omega) (hJ.up (by omega)) (by omega) (by omega) (fun v506 hv506 hFv506 => ?_)
    show X (EE s) d 237 45 [(0, zr 4 44), (1, zi a1), (2, zi a2), (3, zi 1)] [zl v506] m _
    refine X.goto 53 i237_45 rfl rfl ?_
    refine X.lstore 55 [(0, zr 4 44), (1, zi a1), (2, zi a2), (3, zi 1), (4, zl v506)] i237_53 rfl rfl rfl ?_
    refine X.iload_n 56 i237_55 rfl rfl rfl ?_
    refine X.ifeq 67 59 i237_56 rfl rfl rfl (fun h507 => (by exfalso; omega)) (fun h507 => ?_)
    refine X.aload_n 60 i237_59 rfl rfl rfl ?_
    refine X.iconst 61 i237_60 rfl rfl (by decide) ?_
    refine X.callv 64 [zi 1] [] [(0, zr 4 44), (1, zi 1)] i237_61 rfl (by decide) rfl rfl (by omega) rfl rfl (by decide) rfl t209 (Nat.le_of_ble_eq_true rfl) (Nat.le_of_ble_eq_true rfl) rfl ?_
    refine c209_1 (B := B)  1 (by omega) (hJ.up (by omega)) (by omega) (by omega) (fun v510 hv510 hFv510 => ?_)
    show X (EE s) d 237 64 [(0, zr 4 44), (1, zi a1), (2, zi a2), (3, zi 1), (4, zl v506)] [zl v510] m _
    refine X.goto 72 i237_64 rfl rfl ?_
    refine X.lstore 74 [(0, zr 4 44), (1, zi a1), (2, zi a2), (3, zi 1), (4, zl v506), (6, zl v510)] i237_72 rfl rfl rfl ?_
    refine X.lload 76 i237_74 rfl rfl rfl ?_
    refine X.lload 78 i237_76 rfl rfl rfl ?_
    have hz511 := z_sqr (e := 12000000) (x := v506) (by omega)
    refine X.lmul 79 i237_78 rfl rfl (z_in3 hz511 (by decide) (by decide)) ?_
    obtain ⟨z511, ez511⟩ : ∃ z, z = (v506 * v506) := ⟨_, rfl⟩
    rw [← ez511] at hz511 ⊢
    have gz511 : 0 ≤ z511 ∧ z511 ≤ 144000000000000 := z_in3 hz511 (by decide) (by decide)
    clear hz511
    refine X.lload 81 i237_79 rfl rfl rfl ?_
    refine X.lload 83 i237_81 rfl rfl rfl ?_
    have hz512 := z_sqr (e := 12000000) (x := v510) (by omega)
    refine X.lmul 84 i237_83 rfl rfl (z_in3 hz512 (by decide) (by decide)) ?_
    obtain ⟨z512, ez512⟩ : ∃ z, z = (v510 * v510) := ⟨_, rfl⟩
    rw [← ez512] at hz512 ⊢
    have gz512 : 0 ≤ z512 ∧ z512 ≤ 144000000000000 := z_in3 hz512 (by decide) (by decide)
    clear hz512
    refine X.ladd 85 i237_84 rfl rfl (by omega) ?_
    refine X.calls 88 [zl (z511 + z512)] [] [(0, zl (z511 + z512))] i237_85 (by decide) rfl rfl (by omega) rfl rfl t214 (Nat.le_of_ble_eq_true rfl) (Nat.le_of_ble_eq_true rfl) rfl ?_
    refine c214_1 (B := B)  (z511 + z512) (by omega) (hJ.up (by omega)) (by omega) (by omega) (fun v515 hv515 hFv515 => ?_)
    show X (EE s) d 237 88 [(0, zr 4 44), (1, zi a1), (2, zi a2), (3, zi 1), (4, zl v506), (6, zl v510)] [zl v515] m _
    refine X.lstore 90 [(0, zr 4 44), (1, zi a1), (2, zi a2), (3, zi 1), (4, zl v506), (6, zl v510), (8, zl v515)] i237_88 rfl rfl rfl ?_
    refine X.iload_n 91 i237_90 rfl rfl rfl ?_
    by_cases h516 : a2 = 0
    · refine X.tsIn 140 0 i237_91 rfl (by omega) rfl rfl ?_
      refine X.cut [(4, zl v506)] i237_140 rfl ?_
      refine X.lload 142 i237_140 rfl rfl rfl ?_
      refine X.retl i237_142 rfl t237 ?_
      exact hQ v506 (by first | trivial | omega) (Eq.trans (if_pos h501) (Eq.trans (zn_eq hFv506.symm) (Eq.trans (zn_eq hFv510.symm) (Eq.trans (zn_eq ez511) (Eq.trans (zn_eq ez512) (Eq.trans (zn_eq hFv515.symm) (Eq.trans (if_pos h516) rfl))))))) 
    by_cases h517 : a2 = 1
    · refine X.tsIn 143 1 i237_91 rfl (by omega) rfl rfl ?_
      refine X.cut [(6, zl v510)] i237_143 rfl ?_
      refine X.lload 145 i237_143 rfl rfl rfl ?_
      refine X.retl i237_145 rfl t237 ?_
      exact hQ v510 (by first | trivial | omega) (Eq.trans (if_pos h501) (Eq.trans (zn_eq hFv506.symm) (Eq.trans (zn_eq hFv510.symm) (Eq.trans (zn_eq ez511) (Eq.trans (zn_eq ez512) (Eq.trans (zn_eq hFv515.symm) (Eq.trans (if_neg h516) (Eq.trans (if_pos h517) rfl)))))))) 
    by_cases h518 : a2 = 2
    · refine X.tsIn 146 2 i237_91 rfl (by omega) rfl rfl ?_
      refine X.cut [(0, zr 4 44), (1, zi a1), (3, zi 1)] i237_146 rfl ?_
      refine X.iload_n 147 i237_146 rfl rfl rfl ?_
      refine X.ifeq 158 150 i237_147 rfl rfl rfl (fun h519 => (by exfalso; omega)) (fun h519 => ?_)
      refine X.aload_n 151 i237_150 rfl rfl rfl ?_
      refine X.iconst 152 i237_151 rfl rfl (by decide) ?_
      refine X.callv 155 [zi 2] [] [(0, zr 4 44), (1, zi 2)] i237_152 rfl (by decide) rfl rfl (by omega) rfl rfl (by decide) rfl t209 (Nat.le_of_ble_eq_true rfl) (Nat.le_of_ble_eq_true rfl) rfl ?_
      refine c209_1 (B := B)  2 (by omega) (hJ.up (by omega)) (by omega) (by omega) (fun v522 hv522 hFv522 => ?_)
      show X (EE s) d 237 155 [(0, zr 4 44), (1, zi a1), (3, zi 1)] [zl v522] m _
      refine X.goto 165 i237_155 rfl rfl ?_
      refine X.cut [] i237_165 rfl ?_
      refine X.retl i237_165 rfl t237 ?_
      exact hQ v522 (by first | trivial | omega) (Eq.trans (if_pos h501) (Eq.trans (zn_eq hFv506.symm) (Eq.trans (zn_eq hFv510.symm) (Eq.trans (zn_eq ez511) (Eq.trans (zn_eq ez512) (Eq.trans (zn_eq hFv515.symm) (Eq.trans (if_neg h516) (Eq.trans (if_neg h517) (Eq.trans (if_pos h518) (Eq.trans (zn_eq hFv522.symm) rfl)))))))))) 
    by_cases h523 : a2 = 3
    · refine X.tsIn 166 3 i237_91 rfl (by omega) rfl rfl ?_
      refine X.cut [(0, zr 4 44), (1, zi a1), (3, zi 1)] i237_166 rfl ?_
      refine X.iload_n 167 i237_166 rfl rfl rfl ?_
      refine X.ifeq 178 170 i237_167 rfl rfl rfl (fun h524 => (by exfalso; omega)) (fun h524 => ?_)
      refine X.aload_n 171 i237_170 rfl rfl rfl ?_
      refine X.iconst 172 i237_171 rfl rfl (by decide) ?_
      refine X.callv 175 [zi 3] [] [(0, zr 4 44), (1, zi 3)] i237_172 rfl (by decide) rfl rfl (by omega) rfl rfl (by decide) rfl t209 (Nat.le_of_ble_eq_true rfl) (Nat.le_of_ble_eq_true rfl) rfl ?_
      refine c209_1 (B := B)  3 (by omega) (hJ.up (by omega)) (by omega) (by omega) (fun v527 hv527 hFv527 => ?_)
      show X (EE s) d 237 175 [(0, zr 4 44), (1, zi a1), (3, zi 1)] [zl v527] m _
      refine X.goto 186 i237_175 rfl rfl ?_
      refine X.cut [] i237_186 rfl ?_
      refine X.retl i237_186 rfl t237 ?_
      exact hQ v527 (by first | trivial | omega) (Eq.trans (if_pos h501) (Eq.trans (zn_eq hFv506.symm) (Eq.trans (zn_eq hFv510.symm) (Eq.trans (zn_eq ez511) (Eq.trans (zn_eq ez512) (Eq.trans (zn_eq hFv515.symm) (Eq.trans (if_neg h516) (Eq.trans (if_neg h517) (Eq.trans (if_neg h518) (Eq.trans (if_pos h523) (Eq.trans (zn_eq hFv527.symm) rfl))))))))))) 
    by_cases h528 : a2 = 4
    · refine X.tsIn 187 4 i237_91 rfl (by omega) rfl rfl ?_
      refine X.cut [(8, zl v515)] i237_187 rfl ?_
      refine X.lload 189 i237_187 rfl rfl rfl ?_
      refine X.retl i237_189 rfl t237 ?_
      exact hQ v515 (by first | trivial | omega) (Eq.trans (if_pos h501) (Eq.trans (zn_eq hFv506.symm) (Eq.trans (zn_eq hFv510.symm) (Eq.trans (zn_eq ez511) (Eq.trans (zn_eq ez512) (Eq.trans (zn_eq hFv515.symm) (Eq.trans (if_neg h516) (Eq.trans (if_neg h517) (Eq.trans (if_neg h518) (Eq.trans (if_neg h523) (Eq.trans (if_pos h528) rfl))))))))))) 
    by_cases h529 : a2 = 5
    · refine X.tsIn 190 5 i237_91 rfl (by omega) rfl rfl ?_
      refine X.cut [(4, zl v506), (6, zl v510)] i237_190 rfl ?_
      refine X.lload 192 i237_190 rfl rfl rfl ?_
      refine X.lload 194 i237_192 rfl rfl rfl ?_
      refine X.calls 197 [zl v506, zl v510] [] [(0, zl v506), (2, zl v510)] i237_194 (by decide) rfl rfl (by omega) rfl rfl t221 (Nat.le_of_ble_eq_true rfl) (Nat.le_of_ble_eq_true rfl) rfl ?_
      refine c221_1 (B := B)  v506 v510 (by omega) (hJ.up (by omega)) (by omega) (by omega) (by omega) (fun v532 hv532 hFv532 => ?_)
      show X (EE s) d 237 197 [(4, zl v506), (6, zl v510)] [zi v532] m _
      refine X.i2l 198 i237_197 rfl rfl ?_
      refine X.retl i237_198 rfl t237 ?_
      exact hQ v532 (by first | trivial | omega) (Eq.trans (if_pos h501) (Eq.trans (zn_eq hFv506.symm) (Eq.trans (zn_eq hFv510.symm) (Eq.trans (zn_eq ez511) (Eq.trans (zn_eq ez512) (Eq.trans (zn_eq hFv515.symm) (Eq.trans (if_neg h516) (Eq.trans (if_neg h517) (Eq.trans (if_neg h518) (Eq.trans (if_neg h523) (Eq.trans (if_neg h528) (Eq.trans (if_pos h529) (Eq.trans (zn_eq hFv532.symm) rfl))))))))))))) 
    by_cases h533 : a2 = 6
    · refine X.tsIn 199 6 i237_91 rfl (by omega) rfl rfl ?_
      refine X.cut [(0, zr 4 44), (1, zi a1), (3, zi 1)] i237_199 rfl ?_
      refine X.iload_n 200 i237_199 rfl rfl rfl ?_
      refine X.ifeq 212 203 i237_200 rfl rfl rfl (fun h534 => (by exfalso; omega)) (fun h534 => ?_)
      refine X.aload_n 204 i237_203 rfl rfl rfl ?_
      refine X.bipush 206 i237_204 rfl rfl (by decide) ?_
      refine X.callv 209 [zi 95] [] [(0, zr 4 44), (1, zi 95)] i237_206 rfl (by decide) rfl rfl (by omega) rfl rfl (by decide) rfl t238 (Nat.le_of_ble_eq_true rfl) (Nat.le_of_ble_eq_true rfl) rfl ?_
      refine c238_1 (B := B)  95 (by omega) (hJ.up (by omega)) (by omega) (by omega) (fun v537 hv537 hFv537 => ?_)
      show X (EE s) d 237 209 [(0, zr 4 44), (1, zi a1), (3, zi 1)] [zl v537] m _
      refine X.goto 228 i237_209 rfl rfl ?_
      refine X.cut [] i237_228 rfl ?_
      refine X.retl i237_228 rfl t237 ?_
      exact hQ v537 (by first | trivial | omega) (Eq.trans (if_pos h501) (Eq.trans (zn_eq hFv506.symm) (Eq.trans (zn_eq hFv510.symm) (Eq.trans (zn_eq ez511) (Eq.trans (zn_eq ez512) (Eq.trans (zn_eq hFv515.symm) (Eq.trans (if_neg h516) (Eq.trans (if_neg h517) (Eq.trans (if_neg h518) (Eq.trans (if_neg h523) (Eq.trans (if_neg h528) (Eq.trans (if_neg h529) (Eq.trans (if_pos h533) (Eq.trans (zn_eq hFv537.symm) rfl)))))))))))))) 
    by_cases h538 : a2 = 7
    · refine X.tsIn 229 7 i237_91 rfl (by omega) rfl rfl ?_
      refine X.cut [(0, zr 4 44), (1, zi a1), (3, zi 1)] i237_229 rfl ?_
      refine X.iload_n 230 i237_229 rfl rfl rfl ?_
      refine X.ifeq 243 233 i237_230 rfl rfl rfl (fun h539 => (by exfalso; omega)) (fun h539 => ?_)
      refine X.aload_n 234 i237_233 rfl rfl rfl ?_
      refine X.sipush 237 i237_234 rfl rfl (by decide) ?_
      refine X.callv 240 [zi 143] [] [(0, zr 4 44), (1, zi 143)] i237_237 rfl (by decide) rfl rfl (by omega) rfl rfl (by decide) rfl t238 (Nat.le_of_ble_eq_true rfl) (Nat.le_of_ble_eq_true rfl) rfl ?_
      refine c238_2 (B := B)  143 (by omega) (hJ.up (by omega)) (by omega) (by omega) (fun v542 hv542 hFv542 => ?_)
      show X (EE s) d 237 240 [(0, zr 4 44), (1, zi a1), (3, zi 1)] [zl v542] m _
      refine X.goto 260 i237_240 rfl rfl ?_
      refine X.cut [] i237_260 rfl ?_
      refine X.retl i237_260 rfl t237 ?_
      exact hQ v542 (by first | trivial | omega) (Eq.trans (if_pos h501) (Eq.trans (zn_eq hFv506.symm) (Eq.trans (zn_eq hFv510.symm) (Eq.trans (zn_eq ez511) (Eq.trans (zn_eq ez512) (Eq.trans (zn_eq hFv515.symm) (Eq.trans (if_neg h516) (Eq.trans (if_neg h517) (Eq.trans (if_neg h518) (Eq.trans (if_neg h523) (Eq.trans (if_neg h528) (Eq.trans (if_neg h529) (Eq.trans (if_neg h533) (Eq.trans (if_pos h538) (Eq.trans (zn_eq hFv542.symm) rfl))))))))))))))) 
    by_cases h543 : a2 = 8
    · refine X.tsIn 261 8 i237_91 rfl (by omega) rfl rfl ?_
      refine X.cut [(4, zl v506), (8, zl v515)] i237_261 rfl ?_
      refine X.lload 263 i237_261 rfl rfl rfl ?_
      refine X.lload 265 i237_263 rfl rfl rfl ?_
      refine X.calls 268 [zl v506, zl v515] [] [(0, zl v506), (2, zl v515)] i237_265 (by decide) rfl rfl (by omega) rfl rfl t239 (Nat.le_of_ble_eq_true rfl) (Nat.le_of_ble_eq_true rfl) rfl ?_
      refine c239_1 (B := B)  v506 v515 (by omega) (hJ.up (by omega)) (by omega) (by omega) (by omega) (fun v546 hv546 hFv546 => ?_)
      show X (EE s) d 237 268 [(4, zl v506), (8, zl v515)] [zl v546] m _
      refine X.retl i237_268 rfl t237 ?_
      exact hQ v546 (by first | trivial | omega) (Eq.trans (if_pos h501) (Eq.trans (zn_eq hFv506.symm) (Eq.trans (zn_eq hFv510.symm) (Eq.trans (zn_eq ez511) (Eq.trans (zn_eq ez512) (Eq.trans (zn_eq hFv515.symm) (Eq.trans (if_neg h516) (Eq.trans (if_neg h517) (Eq.trans (if_neg h518) (Eq.trans (if_neg h523) (Eq.trans (if_neg h528) (Eq.trans (if_neg h529) (Eq.trans (if_neg h533) (Eq.trans (if_neg h538) (Eq.trans (if_pos h543) (Eq.trans (zn_eq hFv546.symm) rfl)))))))))))))))) 
    refine X.tsOut 269 i237_91 rfl (by omega) rfl ?_
    refine X.cut [] i237_269 rfl ?_
    refine X.ldc2 272 i237_269 rfl rfl (by decide) ?_
    refine X.retl i237_272 rfl t237 ?_
    exact hQ (-10000000000) (by first | trivial | omega) (Eq.trans (if_pos h501) (Eq.trans (zn_eq hFv506.symm) (Eq.trans (zn_eq hFv510.symm) (Eq.trans (zn_eq ez511) (Eq.trans (zn_eq ez512) (Eq.trans (zn_eq hFv515.symm) (Eq.trans (if_neg h516) (Eq.trans (if_neg h517) (Eq.trans (if_neg h518) (Eq.trans (if_neg h523) (Eq.trans (if_neg h528) (Eq.trans (if_neg h529) (Eq.trans (if_neg h533) (Eq.trans (if_neg h538) (Eq.trans (if_neg h543) rfl))))))))))))))) 
  · refine X.iload_n 6 i237_5 rfl rfl rfl ?_
    refine X.i2l 7 i237_6 rfl rfl ?_
    refine X.lconst (y := 0) 8 i237_7 rfl rfl rfl ?_
    refine X.aload_n 9 i237_8 rfl rfl rfl ?_
    refine X.callv 12 [] [zl 0, zl a1] [(0, zr 4 44)] i237_9 rfl (by decide) rfl rfl (by omega) rfl rfl (by decide) rfl t206 (Nat.le_of_ble_eq_true rfl) (Nat.le_of_ble_eq_true rfl) rfl ?_
    refine X.aload_n 1 i206_0 rfl rfl rfl ?_
    refine X.getF 4 i206_1 rfl rfl (by decide) rfl rfl ?_
    refine X.iconst 5 i206_4 rfl rfl (by decide) ?_
    refine X.lald 6 i206_5 rfl rfl (by decide) rfl (by omega) ?_
    have h547 := r45_1 hJ 4
    refine X.l2i 7 i206_6 rfl rfl (by omega) ?_
    refine X.reti i206_7 rfl t206 ?_
    show X (EE s) d 237 12 [(0, zr 4 44), (1, zi a1), (2, zi a2)] [zi (m 4 45 1), zl 0, zl a1] m _
    refine X.iconst 13 i237_12 rfl rfl (by decide) ?_
    refine X.isub 14 i237_13 rfl rfl (by omega) ?_
    refine X.i2l 15 i237_14 rfl rfl ?_
    refine X.calls 18 [zl a1, zl 0, zl ((m 4 45 1) - 1)] [] [(0, zl a1), (2, zl 0), (4, zl ((m 4 45 1) - 1))] i237_15 (by decide) rfl rfl (by omega) rfl rfl t204 (Nat.le_of_ble_eq_true rfl) (Nat.le_of_ble_eq_true rfl) rfl ?_
    refine X.lload_n 1 i204_0 rfl rfl rfl ?_
    refine X.lload_n 2 i204_1 rfl rfl rfl ?_
    refine X.lcmp 3 i204_2 rfl rfl (fun z548 hz548 => ?_)
    refine X.iflt 17 6 i204_3 rfl rfl rfl (fun h549 => ?_) (fun h549 => ?_)
    · have h549c : a1 < 0 := by omega
      clear h549 hz548
      refine X.cut [] i204_17 rfl ?_
      refine X.iconst 18 i204_17 rfl rfl (by decide) ?_
      refine X.retz i204_18 rfl t204 (by omega) ?_
      show X (EE s) d 237 18 [(0, zr 4 44), (1, zi a1), (2, zi a2)] [zi 0] m _
      refine X.ifne 25 21 i237_18 rfl rfl rfl (fun h550 => (by exfalso; omega)) (fun h550 => ?_)
      refine X.ldc2 24 i237_21 rfl rfl (by decide) ?_
      refine X.retl i237_24 rfl t237 ?_
      exact hQ (-10000000000) (by first | trivial | omega) (Eq.trans (if_neg h501) (Eq.trans (if_pos h549c) rfl)) 
    · have h549c : ¬ a1 < 0 := by omega
      clear h549 hz548
      refine X.lload_n 7 i204_6 rfl rfl rfl ?_
      refine X.lload 9 i204_7 rfl rfl rfl ?_
      refine X.lcmp 10 i204_9 rfl rfl (fun z551 hz551 => ?_)
      refine X.ifgt 17 13 i204_10 rfl rfl rfl (fun h552 => ?_) (fun h552 => ?_)
      · have h552c : ¬ a1 ≤ ((m 4 45 1) - 1) := by omega
        clear h552 hz551
        refine X.cut [] i204_17 rfl ?_
        refine X.iconst 18 i204_17 rfl rfl (by decide) ?_
        refine X.retz i204_18 rfl t204 (by omega) ?_
        show X (EE s) d 237 18 [(0, zr 4 44), (1, zi a1), (2, zi a2)] [zi 0] m _
        refine X.ifne 25 21 i237_18 rfl rfl rfl (fun h553 => (by exfalso; omega)) (fun h553 => ?_)
        refine X.ldc2 24 i237_21 rfl rfl (by decide) ?_
        refine X.retl i237_24 rfl t237 ?_
        exact hQ (-10000000000) (by first | trivial | omega) (Eq.trans (if_neg h501) (Eq.trans (if_neg h549c) (Eq.trans (if_neg h552c) rfl))) 
      · have h552c : a1 ≤ ((m 4 45 1) - 1) := by omega
        clear h552 hz551
        refine X.iconst 14 i204_13 rfl rfl (by decide) ?_
        refine X.goto 18 i204_14 rfl rfl ?_
        refine X.cut [] i204_18 rfl ?_
        refine X.retz i204_18 rfl t204 (by omega) ?_
        show X (EE s) d 237 18 [(0, zr 4 44), (1, zi a1), (2, zi a2)] [zi 1] m _
        refine X.ifne 25 21 i237_18 rfl rfl rfl (fun h554 => ?_) (fun h554 => (by exfalso; omega))
        refine X.iload_n 26 i237_25 rfl rfl rfl ?_
        refine X.iconst 27 i237_26 rfl rfl (by decide) ?_
        refine X.icmpne 34 30 i237_27 rfl rfl rfl (fun h555 => ?_) (fun h555 => (by exfalso; omega))
        refine X.iconst 35 i237_34 rfl rfl (by decide) ?_
        refine X.istore_n 36 [(0, zr 4 44), (1, zi a1), (2, zi a2), (3, zi 0)] i237_35 rfl rfl rfl ?_
        refine X.iload_n 37 i237_36 rfl rfl rfl ?_
        refine X.ifeq 48 40 i237_37 rfl rfl rfl (fun h556 => ?_) (fun h556 => (by exfalso; omega))
        refine X.aload_n 49 i237_48 rfl rfl rfl ?_
        refine X.iload_n 50 i237_49 rfl rfl rfl ?_
        refine X.callv 53 [zi a1] [] [(0, zr 4 44), (1, zi a1)] i237_50 rfl (by decide) rfl rfl (by omega) rfl rfl (by decide) rfl t210 (Nat.le_of_ble_eq_true rfl) (Nat.le_of_ble_eq_true rfl) rfl ?_
        refine c210_1 (B := B)  a1 (by omega) (hJ.up (by omega)) (by omega) (by omega) (fun v559 hv559 hFv559 => ?_)
        show X (EE s) d 237 53 [(0, zr 4 44), (1, zi a1), (2, zi a2), (3, zi 0)] [zl v559] m _
        refine X.lstore 55 [(0, zr 4 44), (1, zi a1), (2, zi a2), (3, zi 0), (4, zl v559)] i237_53 rfl rfl rfl ?_
        refine X.iload_n 56 i237_55 rfl rfl rfl ?_
        refine X.ifeq 67 59 i237_56 rfl rfl rfl (fun h560 => ?_) (fun h560 => (by exfalso; omega))
        refine X.aload_n 68 i237_67 rfl rfl rfl ?_
        refine X.iload_n 69 i237_68 rfl rfl rfl ?_
        refine X.callv 72 [zi a1] [] [(0, zr 4 44), (1, zi a1)] i237_69 rfl (by decide) rfl rfl (by omega) rfl rfl (by decide) rfl t212 (Nat.le_of_ble_eq_true rfl) (Nat.le_of_ble_eq_true rfl) rfl ?_
        refine c212_1 (B := B)  a1 (by omega) (hJ.up (by omega)) (by omega) (by omega) (fun v563 hv563 hFv563 => ?_)
        show X (EE s) d 237 72 [(0, zr 4 44), (1, zi a1), (2, zi a2), (3, zi 0), (4, zl v559)] [zl v563] m _
        refine X.lstore 74 [(0, zr 4 44), (1, zi a1), (2, zi a2), (3, zi 0), (4, zl v559), (6, zl v563)] i237_72 rfl rfl rfl ?_
        refine X.lload 76 i237_74 rfl rfl rfl ?_
        refine X.lload 78 i237_76 rfl rfl rfl ?_
        have hz564 := z_sqr (e := 4000000) (x := v559) (by omega)
        refine X.lmul 79 i237_78 rfl rfl (z_in3 hz564 (by decide) (by decide)) ?_
        obtain ⟨z564, ez564⟩ : ∃ z, z = (v559 * v559) := ⟨_, rfl⟩
        rw [← ez564] at hz564 ⊢
        have gz564 : 0 ≤ z564 ∧ z564 ≤ 16000000000000 := z_in3 hz564 (by decide) (by decide)
        clear hz564
        refine X.lload 81 i237_79 rfl rfl rfl ?_
        refine X.lload 83 i237_81 rfl rfl rfl ?_
        have hz565 := z_sqr (e := 4000000) (x := v563) (by omega)
        refine X.lmul 84 i237_83 rfl rfl (z_in3 hz565 (by decide) (by decide)) ?_
        obtain ⟨z565, ez565⟩ : ∃ z, z = (v563 * v563) := ⟨_, rfl⟩
        rw [← ez565] at hz565 ⊢
        have gz565 : 0 ≤ z565 ∧ z565 ≤ 16000000000000 := z_in3 hz565 (by decide) (by decide)
        clear hz565
        refine X.ladd 85 i237_84 rfl rfl (by omega) ?_
        refine X.calls 88 [zl (z564 + z565)] [] [(0, zl (z564 + z565))] i237_85 (by decide) rfl rfl (by omega) rfl rfl t214 (Nat.le_of_ble_eq_true rfl) (Nat.le_of_ble_eq_true rfl) rfl ?_
        refine c214_1 (B := B)  (z564 + z565) (by omega) (hJ.up (by omega)) (by omega) (by omega) (fun v568 hv568 hFv568 => ?_)
        show X (EE s) d 237 88 [(0, zr 4 44), (1, zi a1), (2, zi a2), (3, zi 0), (4, zl v559), (6, zl v563)] [zl v568] m _
        refine X.lstore 90 [(0, zr 4 44), (1, zi a1), (2, zi a2), (3, zi 0), (4, zl v559), (6, zl v563), (8, zl v568)] i237_88 rfl rfl rfl ?_
        refine X.iload_n 91 i237_90 rfl rfl rfl ?_
        by_cases h569 : a2 = 0
        · refine X.tsIn 140 0 i237_91 rfl (by omega) rfl rfl ?_
          refine X.cut [(4, zl v559)] i237_140 rfl ?_
          refine X.lload 142 i237_140 rfl rfl rfl ?_
          refine X.retl i237_142 rfl t237 ?_
          exact hQ v559 (by first | trivial | omega) (Eq.trans (if_neg h501) (Eq.trans (if_neg h549c) (Eq.trans (if_pos h552c) (Eq.trans (zn_eq hFv559.symm) (Eq.trans (zn_eq hFv563.symm) (Eq.trans (zn_eq ez564) (Eq.trans (zn_eq ez565) (Eq.trans (zn_eq hFv568.symm) (Eq.trans (if_pos h569) rfl))))))))) 
        by_cases h570 : a2 = 1
        · refine X.tsIn 143 1 i237_91 rfl (by omega) rfl rfl ?_
          refine X.cut [(6, zl v563)] i237_143 rfl ?_
          refine X.lload 145 i237_143 rfl rfl rfl ?_
          refine X.retl i237_145 rfl t237 ?_
          exact hQ v563 (by first | trivial | omega) (Eq.trans (if_neg h501) (Eq.trans (if_neg h549c) (Eq.trans (if_pos h552c) (Eq.trans (zn_eq hFv559.symm) (Eq.trans (zn_eq hFv563.symm) (Eq.trans (zn_eq ez564) (Eq.trans (zn_eq ez565) (Eq.trans (zn_eq hFv568.symm) (Eq.trans (if_neg h569) (Eq.trans (if_pos h570) rfl)))))))))) 
        by_cases h571 : a2 = 2
        · refine X.tsIn 146 2 i237_91 rfl (by omega) rfl rfl ?_
          refine X.cut [(0, zr 4 44), (1, zi a1), (3, zi 0)] i237_146 rfl ?_
          refine X.iload_n 147 i237_146 rfl rfl rfl ?_
          refine X.ifeq 158 150 i237_147 rfl rfl rfl (fun h572 => ?_) (fun h572 => (by exfalso; omega))
          refine X.cut [(0, zr 4 44), (1, zi a1)] i237_158 rfl ?_
          refine X.aload_n 159 i237_158 rfl rfl rfl ?_
          refine X.bipush 161 i237_159 rfl rfl (by decide) ?_
          refine X.iload_n 162 i237_161 rfl rfl rfl ?_
          refine X.callv 165 [zi 95, zi a1] [] [(0, zr 4 44), (1, zi 95), (2, zi a1)] i237_162 rfl (by decide) rfl rfl (by omega) rfl rfl (by decide) rfl t213 (Nat.le_of_ble_eq_true rfl) (Nat.le_of_ble_eq_true rfl) rfl ?_
          refine c213_1 (B := B)  95 a1 (by omega) (hJ.up (by omega)) (by omega) (by omega) (by omega) (fun v575 hv575 hFv575 => ?_)
          show X (EE s) d 237 165 [(0, zr 4 44), (1, zi a1)] [zl v575] m _
          refine X.cut [] i237_165 rfl ?_
          refine X.retl i237_165 rfl t237 ?_
          exact hQ v575 (by first | trivial | omega) (Eq.trans (if_neg h501) (Eq.trans (if_neg h549c) (Eq.trans (if_pos h552c) (Eq.trans (zn_eq hFv559.symm) (Eq.trans (zn_eq hFv563.symm) (Eq.trans (zn_eq ez564) (Eq.trans (zn_eq ez565) (Eq.trans (zn_eq hFv568.symm) (Eq.trans (if_neg h569) (Eq.trans (if_neg h570) (Eq.trans (if_pos h571) (Eq.trans (zn_eq hFv575.symm) rfl)))))))))))) 
        by_cases h576 : a2 = 3
        · refine X.tsIn 166 3 i237_91 rfl (by omega) rfl rfl ?_
          refine X.cut [(0, zr 4 44), (1, zi a1), (3, zi 0)] i237_166 rfl ?_
          refine X.iload_n 167 i237_166 rfl rfl rfl ?_
          refine X.ifeq 178 170 i237_167 rfl rfl rfl (fun h577 => ?_) (fun h577 => (by exfalso; omega))
          refine X.cut [(0, zr 4 44), (1, zi a1)] i237_178 rfl ?_
          refine X.aload_n 179 i237_178 rfl rfl rfl ?_
          refine X.sipush 182 i237_179 rfl rfl (by decide) ?_
          refine X.iload_n 183 i237_182 rfl rfl rfl ?_
          refine X.callv 186 [zi 143, zi a1] [] [(0, zr 4 44), (1, zi 143), (2, zi a1)] i237_183 rfl (by decide) rfl rfl (by omega) rfl rfl (by decide) rfl t213 (Nat.le_of_ble_eq_true rfl) (Nat.le_of_ble_eq_true rfl) rfl ?_
          refine c213_1 (B := B)  143 a1 (by omega) (hJ.up (by omega)) (by omega) (by omega) (by omega) (fun v580 hv580 hFv580 => ?_)
          show X (EE s) d 237 186 [(0, zr 4 44), (1, zi a1)] [zl v580] m _
          refine X.cut [] i237_186 rfl ?_
          refine X.retl i237_186 rfl t237 ?_
          exact hQ v580 (by first | trivial | omega) (Eq.trans (if_neg h501) (Eq.trans (if_neg h549c) (Eq.trans (if_pos h552c) (Eq.trans (zn_eq hFv559.symm) (Eq.trans (zn_eq hFv563.symm) (Eq.trans (zn_eq ez564) (Eq.trans (zn_eq ez565) (Eq.trans (zn_eq hFv568.symm) (Eq.trans (if_neg h569) (Eq.trans (if_neg h570) (Eq.trans (if_neg h571) (Eq.trans (if_pos h576) (Eq.trans (zn_eq hFv580.symm) rfl))))))))))))) 
        by_cases h581 : a2 = 4
        · refine X.tsIn 187 4 i237_91 rfl (by omega) rfl rfl ?_
          refine X.cut [(8, zl v568)] i237_187 rfl ?_
          refine X.lload 189 i237_187 rfl rfl rfl ?_
          refine X.retl i237_189 rfl t237 ?_
          exact hQ v568 (by first | trivial | omega) (Eq.trans (if_neg h501) (Eq.trans (if_neg h549c) (Eq.trans (if_pos h552c) (Eq.trans (zn_eq hFv559.symm) (Eq.trans (zn_eq hFv563.symm) (Eq.trans (zn_eq ez564) (Eq.trans (zn_eq ez565) (Eq.trans (zn_eq hFv568.symm) (Eq.trans (if_neg h569) (Eq.trans (if_neg h570) (Eq.trans (if_neg h571) (Eq.trans (if_neg h576) (Eq.trans (if_pos h581) rfl))))))))))))) 
        by_cases h582 : a2 = 5
        · refine X.tsIn 190 5 i237_91 rfl (by omega) rfl rfl ?_
          refine X.cut [(4, zl v559), (6, zl v563)] i237_190 rfl ?_
          refine X.lload 192 i237_190 rfl rfl rfl ?_
          refine X.lload 194 i237_192 rfl rfl rfl ?_
          refine X.calls 197 [zl v559, zl v563] [] [(0, zl v559), (2, zl v563)] i237_194 (by decide) rfl rfl (by omega) rfl rfl t221 (Nat.le_of_ble_eq_true rfl) (Nat.le_of_ble_eq_true rfl) rfl ?_
          refine c221_1 (B := B)  v559 v563 (by omega) (hJ.up (by omega)) (by omega) (by omega) (by omega) (fun v585 hv585 hFv585 => ?_)
          show X (EE s) d 237 197 [(4, zl v559), (6, zl v563)] [zi v585] m _
          refine X.i2l 198 i237_197 rfl rfl ?_
          refine X.retl i237_198 rfl t237 ?_
          exact hQ v585 (by first | trivial | omega) (Eq.trans (if_neg h501) (Eq.trans (if_neg h549c) (Eq.trans (if_pos h552c) (Eq.trans (zn_eq hFv559.symm) (Eq.trans (zn_eq hFv563.symm) (Eq.trans (zn_eq ez564) (Eq.trans (zn_eq ez565) (Eq.trans (zn_eq hFv568.symm) (Eq.trans (if_neg h569) (Eq.trans (if_neg h570) (Eq.trans (if_neg h571) (Eq.trans (if_neg h576) (Eq.trans (if_neg h581) (Eq.trans (if_pos h582) (Eq.trans (zn_eq hFv585.symm) rfl))))))))))))))) 
        by_cases h586 : a2 = 6
        · refine X.tsIn 199 6 i237_91 rfl (by omega) rfl rfl ?_
          refine X.cut [(0, zr 4 44), (1, zi a1), (3, zi 0)] i237_199 rfl ?_
          refine X.iload_n 200 i237_199 rfl rfl rfl ?_
          refine X.ifeq 212 203 i237_200 rfl rfl rfl (fun h587 => ?_) (fun h587 => (by exfalso; omega))
          refine X.cut [(0, zr 4 44), (1, zi a1)] i237_212 rfl ?_
          refine X.aload_n 213 i237_212 rfl rfl rfl ?_
          refine X.bipush 215 i237_213 rfl rfl (by decide) ?_
          refine X.iload_n 216 i237_215 rfl rfl rfl ?_
          refine X.callv 219 [zi 95, zi a1] [] [(0, zr 4 44), (1, zi 95), (2, zi a1)] i237_216 rfl (by decide) rfl rfl (by omega) rfl rfl (by decide) rfl t213 (Nat.le_of_ble_eq_true rfl) (Nat.le_of_ble_eq_true rfl) rfl ?_
          refine c213_1 (B := B)  95 a1 (by omega) (hJ.up (by omega)) (by omega) (by omega) (by omega) (fun v590 hv590 hFv590 => ?_)
          show X (EE s) d 237 219 [(0, zr 4 44), (1, zi a1)] [zl v590] m _
          refine X.aload_n 220 i237_219 rfl rfl rfl ?_
          refine X.callv 223 [] [zl v590] [(0, zr 4 44)] i237_220 rfl (by decide) rfl rfl (by omega) rfl rfl (by decide) rfl t211 (Nat.le_of_ble_eq_true rfl) (Nat.le_of_ble_eq_true rfl) rfl ?_
          refine X.aload_n 1 i211_0 rfl rfl rfl ?_
          refine X.getF 4 i211_1 rfl rfl (by decide) rfl rfl ?_
          refine X.iconst 5 i211_4 rfl rfl (by decide) ?_
          refine X.lald 6 i211_5 rfl rfl (by decide) rfl (by omega) ?_
          have h591 := r45_2 hJ 4
          refine X.l2i 7 i211_6 rfl rfl (by omega) ?_
          refine X.reti i211_7 rfl t211 ?_
          show X (EE s) d 237 223 [(0, zr 4 44), (1, zi a1)] [zi (m 4 45 2), zl v590] m _
          refine X.i2l 224 i237_223 rfl rfl ?_
          refine X.ldivp 225 i237_224 rfl rfl (by omega) ?_
          have hz592 := z_divb (x := v590) (y := (m 4 45 2)) (by omega) (by omega)
          obtain ⟨z592, ez592⟩ : ∃ z, z = (v590 / (m 4 45 2)) := ⟨_, rfl⟩
          rw [← ez592] at hz592 ⊢
          refine X.calls 228 [zl z592] [] [(0, zl z592)] i237_225 (by decide) rfl rfl (by omega) rfl rfl t214 (Nat.le_of_ble_eq_true rfl) (Nat.le_of_ble_eq_true rfl) rfl ?_
          refine c214_1 (B := B)  z592 (by omega) (hJ.up (by omega)) (by omega) (by omega) (fun v595 hv595 hFv595 => ?_)
          show X (EE s) d 237 228 [(0, zr 4 44), (1, zi a1)] [zl v595] m _
          refine X.cut [] i237_228 rfl ?_
          refine X.retl i237_228 rfl t237 ?_
          exact hQ v595 (by first | trivial | omega) (Eq.trans (if_neg h501) (Eq.trans (if_neg h549c) (Eq.trans (if_pos h552c) (Eq.trans (zn_eq hFv559.symm) (Eq.trans (zn_eq hFv563.symm) (Eq.trans (zn_eq ez564) (Eq.trans (zn_eq ez565) (Eq.trans (zn_eq hFv568.symm) (Eq.trans (if_neg h569) (Eq.trans (if_neg h570) (Eq.trans (if_neg h571) (Eq.trans (if_neg h576) (Eq.trans (if_neg h581) (Eq.trans (if_neg h582) (Eq.trans (if_pos h586) (Eq.trans (zn_eq hFv590.symm) (Eq.trans (zn_eq ez592) (Eq.trans (zn_eq hFv595.symm) rfl)))))))))))))))))) 
        by_cases h596 : a2 = 7
        · refine X.tsIn 229 7 i237_91 rfl (by omega) rfl rfl ?_
          refine X.cut [(0, zr 4 44), (1, zi a1), (3, zi 0)] i237_229 rfl ?_
          refine X.iload_n 230 i237_229 rfl rfl rfl ?_
          refine X.ifeq 243 233 i237_230 rfl rfl rfl (fun h597 => ?_) (fun h597 => (by exfalso; omega))
          refine X.cut [(0, zr 4 44), (1, zi a1)] i237_243 rfl ?_
          refine X.aload_n 244 i237_243 rfl rfl rfl ?_
          refine X.sipush 247 i237_244 rfl rfl (by decide) ?_
          refine X.iload_n 248 i237_247 rfl rfl rfl ?_
          refine X.callv 251 [zi 143, zi a1] [] [(0, zr 4 44), (1, zi 143), (2, zi a1)] i237_248 rfl (by decide) rfl rfl (by omega) rfl rfl (by decide) rfl t213 (Nat.le_of_ble_eq_true rfl) (Nat.le_of_ble_eq_true rfl) rfl ?_
          refine c213_1 (B := B)  143 a1 (by omega) (hJ.up (by omega)) (by omega) (by omega) (by omega) (fun v600 hv600 hFv600 => ?_)
          show X (EE s) d 237 251 [(0, zr 4 44), (1, zi a1)] [zl v600] m _
          refine X.aload_n 252 i237_251 rfl rfl rfl ?_
          refine X.callv 255 [] [zl v600] [(0, zr 4 44)] i237_252 rfl (by decide) rfl rfl (by omega) rfl rfl (by decide) rfl t211 (Nat.le_of_ble_eq_true rfl) (Nat.le_of_ble_eq_true rfl) rfl ?_
          refine X.aload_n 1 i211_0 rfl rfl rfl ?_
          refine X.getF 4 i211_1 rfl rfl (by decide) rfl rfl ?_
          refine X.iconst 5 i211_4 rfl rfl (by decide) ?_
          refine X.lald 6 i211_5 rfl rfl (by decide) rfl (by omega) ?_
          have h601 := r45_2 hJ 4
          refine X.l2i 7 i211_6 rfl rfl (by omega) ?_
          refine X.reti i211_7 rfl t211 ?_
          show X (EE s) d 237 255 [(0, zr 4 44), (1, zi a1)] [zi (m 4 45 2), zl v600] m _
          refine X.i2l 256 i237_255 rfl rfl ?_
          refine X.ldivp 257 i237_256 rfl rfl (by omega) ?_
          have hz602 := z_divb (x := v600) (y := (m 4 45 2)) (by omega) (by omega)
          obtain ⟨z602, ez602⟩ : ∃ z, z = (v600 / (m 4 45 2)) := ⟨_, rfl⟩
          rw [← ez602] at hz602 ⊢
          refine X.calls 260 [zl z602] [] [(0, zl z602)] i237_257 (by decide) rfl rfl (by omega) rfl rfl t214 (Nat.le_of_ble_eq_true rfl) (Nat.le_of_ble_eq_true rfl) rfl ?_
          refine c214_1 (B := B)  z602 (by omega) (hJ.up (by omega)) (by omega) (by omega) (fun v605 hv605 hFv605 => ?_)
          show X (EE s) d 237 260 [(0, zr 4 44), (1, zi a1)] [zl v605] m _
          refine X.cut [] i237_260 rfl ?_
          refine X.retl i237_260 rfl t237 ?_
          exact hQ v605 (by first | trivial | omega) (Eq.trans (if_neg h501) (Eq.trans (if_neg h549c) (Eq.trans (if_pos h552c) (Eq.trans (zn_eq hFv559.symm) (Eq.trans (zn_eq hFv563.symm) (Eq.trans (zn_eq ez564) (Eq.trans (zn_eq ez565) (Eq.trans (zn_eq hFv568.symm) (Eq.trans (if_neg h569) (Eq.trans (if_neg h570) (Eq.trans (if_neg h571) (Eq.trans (if_neg h576) (Eq.trans (if_neg h581) (Eq.trans (if_neg h582) (Eq.trans (if_neg h586) (Eq.trans (if_pos h596) (Eq.trans (zn_eq hFv600.symm) (Eq.trans (zn_eq ez602) (Eq.trans (zn_eq hFv605.symm) rfl))))))))))))))))))) 
        by_cases h606 : a2 = 8
        · refine X.tsIn 261 8 i237_91 rfl (by omega) rfl rfl ?_
          refine X.cut [(4, zl v559), (8, zl v568)] i237_261 rfl ?_
          refine X.lload 263 i237_261 rfl rfl rfl ?_
          refine X.lload 265 i237_263 rfl rfl rfl ?_
          refine X.calls 268 [zl v559, zl v568] [] [(0, zl v559), (2, zl v568)] i237_265 (by decide) rfl rfl (by omega) rfl rfl t239 (Nat.le_of_ble_eq_true rfl) (Nat.le_of_ble_eq_true rfl) rfl ?_
          refine c239_1 (B := B)  v559 v568 (by omega) (hJ.up (by omega)) (by omega) (by omega) (by omega) (fun v609 hv609 hFv609 => ?_)
          show X (EE s) d 237 268 [(4, zl v559), (8, zl v568)] [zl v609] m _
          refine X.retl i237_268 rfl t237 ?_
          exact hQ v609 (by first | trivial | omega) (Eq.trans (if_neg h501) (Eq.trans (if_neg h549c) (Eq.trans (if_pos h552c) (Eq.trans (zn_eq hFv559.symm) (Eq.trans (zn_eq hFv563.symm) (Eq.trans (zn_eq ez564) (Eq.trans (zn_eq ez565) (Eq.trans (zn_eq hFv568.symm) (Eq.trans (if_neg h569) (Eq.trans (if_neg h570) (Eq.trans (if_neg h571) (Eq.trans (if_neg h576) (Eq.trans (if_neg h581) (Eq.trans (if_neg h582) (Eq.trans (if_neg h586) (Eq.trans (if_neg h596) (Eq.trans (if_pos h606) (Eq.trans (zn_eq hFv609.symm) rfl)))))))))))))))))) 
        refine X.tsOut 269 i237_91 rfl (by omega) rfl ?_
        refine X.cut [] i237_269 rfl ?_
        refine X.ldc2 272 i237_269 rfl rfl (by decide) ?_
        refine X.retl i237_272 rfl t237 ?_
        exact hQ (-10000000000) (by first | trivial | omega) (Eq.trans (if_neg h501) (Eq.trans (if_neg h549c) (Eq.trans (if_pos h552c) (Eq.trans (zn_eq hFv559.symm) (Eq.trans (zn_eq hFv563.symm) (Eq.trans (zn_eq ez564) (Eq.trans (zn_eq ez565) (Eq.trans (zn_eq hFv568.symm) (Eq.trans (if_neg h569) (Eq.trans (if_neg h570) (Eq.trans (if_neg h571) (Eq.trans (if_neg h576) (Eq.trans (if_neg h581) (Eq.trans (if_neg h582) (Eq.trans (if_neg h586) (Eq.trans (if_neg h596) (Eq.trans (if_neg h606) rfl))))))))))))))))) 
-- WorkMeter$Registers.sum
theorem c71_2 {s : Nat × (Nat → Int32)} {S : zS} {m0 m : zM} {B : Int} {d : Nat} {Q : Option zV → zM → Prop} (g0 : Nat) (a1 a2 : Int) (hd : 14 ≤ d) (hJ : J S m0 B m) (hB : B + 0 ≤ 1000000000) (ha1 : 0 ≤ a1 ∧ a1 ≤ 6) (ha2 : (-1) ≤ a2 ∧ a2 ≤ (-1)) (hQ : ∀ (v : Int), (True) → f71_1 g0 a1 a2 m = v → Q (some (zl v)) m) : X (EE s) d 71 0 [(0, zr g0 23), (1, zi a1), (2, zi a2)] [] m Q := by
  refine X.aload_n 1 i71_0 rfl rfl rfl ?_
  refine X.getR 4 i71_1 rfl rfl (by decide) rfl rfl ?_
  refine X.iload_n 5 i71_4 rfl rfl rfl ?_
  refine X.iconst 6 i71_5 rfl rfl (by decide) ?_
  refine X.imul 7 i71_6 rfl rfl (by omega) ?_
  refine X.iload_n 8 i71_7 rfl rfl rfl ?_
  refine X.calls 11 [zr g0 24, zi (a1 * 4), zi a2] [] [(0, zr g0 24), (1, zi (a1 * 4)), (2, zi a2)] i71_8 (by decide) rfl rfl (by omega) rfl rfl t72 (Nat.le_of_ble_eq_true rfl) (Nat.le_of_ble_eq_true rfl) rfl ?_
  refine c72_1 (B := B) g0 (a1 * 4) a2 (by omega) (hJ.up (by omega)) (by omega) (by omega) (by omega) (fun v503 hv503 hFv503 => ?_)
  show X (EE s) d 71 11 [(0, zr g0 23), (1, zi a1), (2, zi a2)] [zl v503] m _
  refine X.retl i71_11 rfl t71 ?_
  exact hQ v503 (by first | trivial | omega) (Eq.trans (zn_eq hFv503.symm) rfl) 
-- WorkMeter$Registers.sum
theorem c71_3 {s : Nat × (Nat → Int32)} {S : zS} {m0 m : zM} {B : Int} {d : Nat} {Q : Option zV → zM → Prop} (g0 : Nat) (a1 a2 : Int) (hd : 14 ≤ d) (hJ : J S m0 B m) (hB : B + 0 ≤ 1000000000) (ha1 : 0 ≤ a1 ∧ a1 ≤ 6) (ha2 : 0 ≤ a2 ∧ a2 ≤ 3) (hQ : ∀ (v : Int), (True) → f71_1 g0 a1 a2 m = v → Q (some (zl v)) m) : X (EE s) d 71 0 [(0, zr g0 23), (1, zi a1), (2, zi a2)] [] m Q := by
  refine X.aload_n 1 i71_0 rfl rfl rfl ?_
  refine X.getR 4 i71_1 rfl rfl (by decide) rfl rfl ?_
  refine X.iload_n 5 i71_4 rfl rfl rfl ?_
  refine X.iconst 6 i71_5 rfl rfl (by decide) ?_
  refine X.imul 7 i71_6 rfl rfl (by omega) ?_
  refine X.iload_n 8 i71_7 rfl rfl rfl ?_
  refine X.calls 11 [zr g0 24, zi (a1 * 4), zi a2] [] [(0, zr g0 24), (1, zi (a1 * 4)), (2, zi a2)] i71_8 (by decide) rfl rfl (by omega) rfl rfl t72 (Nat.le_of_ble_eq_true rfl) (Nat.le_of_ble_eq_true rfl) rfl ?_
  refine c72_1 (B := B) g0 (a1 * 4) a2 (by omega) (hJ.up (by omega)) (by omega) (by omega) (by omega) (fun v503 hv503 hFv503 => ?_)
  show X (EE s) d 71 11 [(0, zr g0 23), (1, zi a1), (2, zi a2)] [zl v503] m _
  refine X.retl i71_11 rfl t71 ?_
  exact hQ v503 (by first | trivial | omega) (Eq.trans (zn_eq hFv503.symm) rfl) 
-- WorkMeter.raw
noncomputable def f144_1 (a1 a2 : Int) (m : zM) : Int :=
  if a1 < 0 then
  ((-1))
  else
  (if 7 ≤ a1 then
  ((-1))
  else
  (if a2 = (-1) then
  (zn (f71_1 0 a1 a2 m) fun v510 =>
  v510)
  else
  (if a2 < 0 then
  ((-1))
  else
  (if 4 ≤ a2 then
  ((-1))
  else
  (zn (f71_1 0 a1 a2 m) fun v521 =>
  v521)))))
-- WorkMeter.raw
theorem c144_1 {s : Nat × (Nat → Int32)} {S : zS} {m0 m : zM} {B : Int} {d : Nat} {Q : Option zV → zM → Prop} (a1 a2 : Int) (hd : 15 ≤ d) (hJ : J S m0 B m) (hB : B + 0 ≤ 1000000000) (ha1 : (-2147483648) ≤ a1 ∧ a1 ≤ 2147483647) (ha2 : (-2147483648) ≤ a2 ∧ a2 ≤ 2147483647) (hQ : ∀ (v : Int), (True) → f144_1 a1 a2 m = v → Q (some (zl v)) m) : X (EE s) d 144 0 [(0, zr 4 40), (1, zi a1), (2, zi a2)] [] m Q := by
  refine X.iload_n 1 i144_0 rfl rfl rfl ?_
  refine X.calls 4 [zi a1] [] [(0, zi a1)] i144_1 (by decide) rfl rfl (by omega) rfl rfl t145 (Nat.le_of_ble_eq_true rfl) (Nat.le_of_ble_eq_true rfl) rfl ?_
  refine X.iload_n 1 i145_0 rfl rfl rfl ?_
  refine X.iflt 14 4 i145_1 rfl rfl rfl (fun h501 => ?_) (fun h501 => ?_)
  · refine X.cut [] i145_14 rfl ?_
    refine X.iconst 15 i145_14 rfl rfl (by decide) ?_
    refine X.retz i145_15 rfl t145 (by omega) ?_
    show X (EE s) d 144 4 [(0, zr 4 40), (1, zi a1), (2, zi a2)] [zi 0] m _
    refine X.ifeq 14 7 i144_4 rfl rfl rfl (fun h502 => ?_) (fun h502 => (by exfalso; omega))
    refine X.cut [] i144_14 rfl ?_
    refine X.ldc2 17 i144_14 rfl rfl (by decide) ?_
    refine X.retl i144_17 rfl t144 ?_
    exact hQ (-1) (by first | trivial | omega) (Eq.trans (if_pos h501) rfl) 
  · refine X.iload_n 5 i145_4 rfl rfl rfl ?_
    refine X.bipush 7 i145_5 rfl rfl (by decide) ?_
    refine X.icmpge 14 10 i145_7 rfl rfl rfl (fun h503 => ?_) (fun h503 => ?_)
    · refine X.cut [] i145_14 rfl ?_
      refine X.iconst 15 i145_14 rfl rfl (by decide) ?_
      refine X.retz i145_15 rfl t145 (by omega) ?_
      show X (EE s) d 144 4 [(0, zr 4 40), (1, zi a1), (2, zi a2)] [zi 0] m _
      refine X.ifeq 14 7 i144_4 rfl rfl rfl (fun h504 => ?_) (fun h504 => (by exfalso; omega))
      refine X.cut [] i144_14 rfl ?_
      refine X.ldc2 17 i144_14 rfl rfl (by decide) ?_
      refine X.retl i144_17 rfl t144 ?_
      exact hQ (-1) (by first | trivial | omega) (Eq.trans (if_neg h501) (Eq.trans (if_pos h503) rfl)) 
    · refine X.iconst 11 i145_10 rfl rfl (by decide) ?_
      refine X.goto 15 i145_11 rfl rfl ?_
      refine X.cut [] i145_15 rfl ?_
      refine X.retz i145_15 rfl t145 (by omega) ?_
      show X (EE s) d 144 4 [(0, zr 4 40), (1, zi a1), (2, zi a2)] [zi 1] m _
      refine X.ifeq 14 7 i144_4 rfl rfl rfl (fun h505 => (by exfalso; omega)) (fun h505 => ?_)
      refine X.iload_n 8 i144_7 rfl rfl rfl ?_
      refine X.calls 11 [zi a2] [] [(0, zi a2)] i144_8 (by decide) rfl rfl (by omega) rfl rfl t146 (Nat.le_of_ble_eq_true rfl) (Nat.le_of_ble_eq_true rfl) rfl ?_
      refine X.iload_n 1 i146_0 rfl rfl rfl ?_
      refine X.iconst 2 i146_1 rfl rfl (by decide) ?_
      refine X.icmpeq 12 5 i146_2 rfl rfl rfl (fun h506 => ?_) (fun h506 => ?_)
      · refine X.cut [] i146_12 rfl ?_
        refine X.iconst 13 i146_12 rfl rfl (by decide) ?_
        refine X.goto 17 i146_13 rfl rfl ?_
        refine X.retz i146_17 rfl t146 (by omega) ?_
        show X (EE s) d 144 11 [(0, zr 4 40), (1, zi a1), (2, zi a2)] [zi 1] m _
        refine X.ifne 18 14 i144_11 rfl rfl rfl (fun h507 => ?_) (fun h507 => (by exfalso; omega))
        refine X.aload_n 19 i144_18 rfl rfl rfl ?_
        refine X.getF 22 i144_19 rfl rfl (by decide) rfl rfl ?_
        refine X.getR 25 i144_22 rfl rfl (by decide) rfl rfl ?_
        refine X.iload_n 26 i144_25 rfl rfl rfl ?_
        refine X.iload_n 27 i144_26 rfl rfl rfl ?_
        refine X.callv 30 [zi a1, zi a2] [] [(0, zr 0 23), (1, zi a1), (2, zi a2)] i144_27 rfl (by decide) rfl rfl (by omega) rfl rfl (by decide) rfl t71 (Nat.le_of_ble_eq_true rfl) (Nat.le_of_ble_eq_true rfl) rfl ?_
        refine c71_2 (B := B) 0 a1 a2 (by omega) (hJ.up (by omega)) (by omega) (by omega) (by omega) (fun v510 hv510 hFv510 => ?_)
        show X (EE s) d 144 30 [(0, zr 4 40), (1, zi a1), (2, zi a2)] [zl v510] m _
        refine X.retl i144_30 rfl t144 ?_
        exact hQ v510 (by first | trivial | omega) (Eq.trans (if_neg h501) (Eq.trans (if_neg h503) (Eq.trans (if_pos h506) (Eq.trans (zn_eq hFv510.symm) rfl)))) 
      · refine X.iload_n 6 i146_5 rfl rfl rfl ?_
        refine X.calls 9 [zi a2] [] [(0, zi a2)] i146_6 (by decide) rfl rfl (by omega) rfl rfl t80 (Nat.le_of_ble_eq_true rfl) (Nat.le_of_ble_eq_true rfl) rfl ?_
        refine X.iload_n 1 i80_0 rfl rfl rfl ?_
        refine X.iflt 13 4 i80_1 rfl rfl rfl (fun h511 => ?_) (fun h511 => ?_)
        · refine X.cut [] i80_13 rfl ?_
          refine X.iconst 14 i80_13 rfl rfl (by decide) ?_
          refine X.retz i80_14 rfl t80 (by omega) ?_
          show X (EE s) (d - 1) 146 9 [(0, zi a2)] [zi 0] m _
          refine X.ifeq 16 12 i146_9 rfl rfl rfl (fun h512 => ?_) (fun h512 => (by exfalso; omega))
          refine X.cut [] i146_16 rfl ?_
          refine X.iconst 17 i146_16 rfl rfl (by decide) ?_
          refine X.retz i146_17 rfl t146 (by omega) ?_
          show X (EE s) d 144 11 [(0, zr 4 40), (1, zi a1), (2, zi a2)] [zi 0] m _
          refine X.ifne 18 14 i144_11 rfl rfl rfl (fun h513 => (by exfalso; omega)) (fun h513 => ?_)
          refine X.cut [] i144_14 rfl ?_
          refine X.ldc2 17 i144_14 rfl rfl (by decide) ?_
          refine X.retl i144_17 rfl t144 ?_
          exact hQ (-1) (by first | trivial | omega) (Eq.trans (if_neg h501) (Eq.trans (if_neg h503) (Eq.trans (if_neg h506) (Eq.trans (if_pos h511) rfl)))) 
        · refine X.iload_n 5 i80_4 rfl rfl rfl ?_
          refine X.iconst 6 i80_5 rfl rfl (by decide) ?_
          refine X.icmpge 13 9 i80_6 rfl rfl rfl (fun h514 => ?_) (fun h514 => ?_)
          · refine X.cut [] i80_13 rfl ?_
            refine X.iconst 14 i80_13 rfl rfl (by decide) ?_
            refine X.retz i80_14 rfl t80 (by omega) ?_
            show X (EE s) (d - 1) 146 9 [(0, zi a2)] [zi 0] m _
            refine X.ifeq 16 12 i146_9 rfl rfl rfl (fun h515 => ?_) (fun h515 => (by exfalso; omega))
            refine X.cut [] i146_16 rfl ?_
            refine X.iconst 17 i146_16 rfl rfl (by decide) ?_
            refine X.retz i146_17 rfl t146 (by omega) ?_
            show X (EE s) d 144 11 [(0, zr 4 40), (1, zi a1), (2, zi a2)] [zi 0] m _
            refine X.ifne 18 14 i144_11 rfl rfl rfl (fun h516 => (by exfalso; omega)) (fun h516 => ?_)
            refine X.cut [] i144_14 rfl ?_
            refine X.ldc2 17 i144_14 rfl rfl (by decide) ?_
            refine X.retl i144_17 rfl t144 ?_
            exact hQ (-1) (by first | trivial | omega) (Eq.trans (if_neg h501) (Eq.trans (if_neg h503) (Eq.trans (if_neg h506) (Eq.trans (if_neg h511) (Eq.trans (if_pos h514) rfl))))) 
          · refine X.iconst 10 i80_9 rfl rfl (by decide) ?_
            refine X.goto 14 i80_10 rfl rfl ?_
            refine X.cut [] i80_14 rfl ?_
            refine X.retz i80_14 rfl t80 (by omega) ?_
            show X (EE s) (d - 1) 146 9 [(0, zi a2)] [zi 1] m _
            refine X.ifeq 16 12 i146_9 rfl rfl rfl (fun h517 => (by exfalso; omega)) (fun h517 => ?_)
            refine X.cut [] i146_12 rfl ?_
            refine X.iconst 13 i146_12 rfl rfl (by decide) ?_
            refine X.goto 17 i146_13 rfl rfl ?_
            refine X.retz i146_17 rfl t146 (by omega) ?_
            show X (EE s) d 144 11 [(0, zr 4 40), (1, zi a1), (2, zi a2)] [zi 1] m _
            refine X.ifne 18 14 i144_11 rfl rfl rfl (fun h518 => ?_) (fun h518 => (by exfalso; omega))
            refine X.aload_n 19 i144_18 rfl rfl rfl ?_
            refine X.getF 22 i144_19 rfl rfl (by decide) rfl rfl ?_
            refine X.getR 25 i144_22 rfl rfl (by decide) rfl rfl ?_
            refine X.iload_n 26 i144_25 rfl rfl rfl ?_
            refine X.iload_n 27 i144_26 rfl rfl rfl ?_
            refine X.callv 30 [zi a1, zi a2] [] [(0, zr 0 23), (1, zi a1), (2, zi a2)] i144_27 rfl (by decide) rfl rfl (by omega) rfl rfl (by decide) rfl t71 (Nat.le_of_ble_eq_true rfl) (Nat.le_of_ble_eq_true rfl) rfl ?_
            refine c71_3 (B := B) 0 a1 a2 (by omega) (hJ.up (by omega)) (by omega) (by omega) (by omega) (fun v521 hv521 hFv521 => ?_)
            show X (EE s) d 144 30 [(0, zr 4 40), (1, zi a1), (2, zi a2)] [zl v521] m _
            refine X.retl i144_30 rfl t144 ?_
            exact hQ v521 (by first | trivial | omega) (Eq.trans (if_neg h501) (Eq.trans (if_neg h503) (Eq.trans (if_neg h506) (Eq.trans (if_neg h511) (Eq.trans (if_neg h514) (Eq.trans (zn_eq hFv521.symm) rfl)))))) 
-- WorkMeterModel.rawAt
noncomputable def f291_1 (a0 a1 : Int) (m : zM) : Int :=
  zn (if a1 = (-1) then
  (4)
  else
  (a1)) fun v502 =>
  ((5 * a0) + v502)
-- WorkMeterModel.rawAt
theorem c291_1 {s : Nat × (Nat → Int32)} {S : zS} {m0 m : zM} {B : Int} {d : Nat} {Q : Option zV → zM → Prop} (a0 a1 : Int) (hd : 13 ≤ d) (hJ : J S m0 B m) (hB : B + 0 ≤ 1000000000) (ha0 : 0 ≤ a0 ∧ a0 ≤ 6) (ha1 : (-1) ≤ a1 ∧ a1 ≤ 3) (hQ : ∀ (v : Int), (0 ≤ v ∧ v ≤ 34) → f291_1 a0 a1 m = v → Q (some (zi v)) m) : X (EE s) d 291 0 [(0, zi a0), (1, zi a1)] [] m Q := by
  refine X.iconst 1 i291_0 rfl rfl (by decide) ?_
  refine X.iload_n 2 i291_1 rfl rfl rfl ?_
  refine X.imul 3 i291_2 rfl rfl (by omega) ?_
  refine X.iload_n 4 i291_3 rfl rfl rfl ?_
  refine X.iconst 5 i291_4 rfl rfl (by decide) ?_
  have hK505 : ∀ (v : Int) , (0 ≤ v ∧ v ≤ 4) → (if a1 = (-1) then
      (4)
      else
      (a1)) = v → X (EE s) d 291 13 [] [zi v, zi (5 * a0)] m Q := by
    intro v502 hv502 hT506
    refine X.iadd 14 i291_13 rfl rfl (by omega) ?_
    refine X.reti i291_14 rfl t291 ?_
    exact hQ ((5 * a0) + v502) (by first | trivial | omega) (Eq.trans (zn_eq hT506.symm) rfl) 
  refine X.icmpne 12 8 i291_5 rfl rfl rfl (fun h501 => ?_) (fun h501 => ?_)
  · refine X.cut [(1, zi a1)] i291_12 rfl ?_
    refine X.iload_n 13 i291_12 rfl rfl rfl ?_
    refine X.cut [] i291_13 rfl ?_
    exact hK505 a1 (by first | trivial | omega) (Eq.trans (if_neg h501) rfl)
  · refine X.iconst 9 i291_8 rfl rfl (by decide) ?_
    refine X.goto 13 i291_9 rfl rfl ?_
    refine X.cut [] i291_13 rfl ?_
    exact hK505 4 (by first | trivial | omega) (Eq.trans (if_pos h501) rfl)
-- WorkMeterModel.raw
noncomputable def f295_1 (a1 a2 : Int) (m : zM) : Int :=
  if a1 < 0 then
  ((-1))
  else
  (if a1 ≤ 6 then
  (if a2 = (-1) then
  (zn (f291_1 a1 a2 m) fun v514 =>
  (m 4 45 (60 + v514)))
  else
  (if a2 < 0 then
  ((-1))
  else
  (if a2 ≤ 3 then
  (zn (f291_1 a1 a2 m) fun v527 =>
  (m 4 45 (60 + v527)))
  else
  ((-1)))))
  else
  ((-1)))
-- WorkMeterModel.raw
theorem c295_1 {s : Nat × (Nat → Int32)} {S : zS} {m0 m : zM} {B : Int} {d : Nat} {Q : Option zV → zM → Prop} (a1 a2 : Int) (hd : 14 ≤ d) (hJ : J S m0 B m) (hB : B + 0 ≤ 1000000000) (ha1 : (-2147483648) ≤ a1 ∧ a1 ≤ 2147483647) (ha2 : (-2147483648) ≤ a2 ∧ a2 ≤ 2147483647) (hQ : ∀ (v : Int), (True) → f295_1 a1 a2 m = v → Q (some (zl v)) m) : X (EE s) d 295 0 [(0, zr 4 44), (1, zi a1), (2, zi a2)] [] m Q := by
  refine X.iload_n 1 i295_0 rfl rfl rfl ?_
  refine X.iload_n 2 i295_1 rfl rfl rfl ?_
  refine X.calls 5 [zi a1, zi a2] [] [(0, zi a1), (1, zi a2)] i295_2 (by decide) rfl rfl (by omega) rfl rfl t290 (Nat.le_of_ble_eq_true rfl) (Nat.le_of_ble_eq_true rfl) rfl ?_
  refine X.iload_n 1 i290_0 rfl rfl rfl ?_
  refine X.i2l 2 i290_1 rfl rfl ?_
  refine X.lconst (y := 0) 3 i290_2 rfl rfl rfl ?_
  refine X.ldc2 6 i290_3 rfl rfl (by decide) ?_
  refine X.calls 9 [zl a1, zl 0, zl 6] [] [(0, zl a1), (2, zl 0), (4, zl 6)] i290_6 (by decide) rfl rfl (by omega) rfl rfl t204 (Nat.le_of_ble_eq_true rfl) (Nat.le_of_ble_eq_true rfl) rfl ?_
  refine X.lload_n 1 i204_0 rfl rfl rfl ?_
  refine X.lload_n 2 i204_1 rfl rfl rfl ?_
  refine X.lcmp 3 i204_2 rfl rfl (fun z501 hz501 => ?_)
  refine X.iflt 17 6 i204_3 rfl rfl rfl (fun h502 => ?_) (fun h502 => ?_)
  · have h502c : a1 < 0 := by omega
    clear h502 hz501
    refine X.cut [] i204_17 rfl ?_
    refine X.iconst 18 i204_17 rfl rfl (by decide) ?_
    refine X.retz i204_18 rfl t204 (by omega) ?_
    show X (EE s) (d - 1) 290 9 [(0, zi a1), (1, zi a2)] [zi 0] m _
    refine X.ifeq 28 12 i290_9 rfl rfl rfl (fun h503 => ?_) (fun h503 => (by exfalso; omega))
    refine X.cut [] i290_28 rfl ?_
    refine X.iconst 29 i290_28 rfl rfl (by decide) ?_
    refine X.retz i290_29 rfl t290 (by omega) ?_
    show X (EE s) d 295 5 [(0, zr 4 44), (1, zi a1), (2, zi a2)] [zi 0] m _
    refine X.ifeq 24 8 i295_5 rfl rfl rfl (fun h504 => ?_) (fun h504 => (by exfalso; omega))
    refine X.cut [] i295_24 rfl ?_
    refine X.ldc2 27 i295_24 rfl rfl (by decide) ?_
    refine X.retl i295_27 rfl t295 ?_
    exact hQ (-1) (by first | trivial | omega) (Eq.trans (if_pos h502c) rfl) 
  · have h502c : ¬ a1 < 0 := by omega
    clear h502 hz501
    refine X.lload_n 7 i204_6 rfl rfl rfl ?_
    refine X.lload 9 i204_7 rfl rfl rfl ?_
    refine X.lcmp 10 i204_9 rfl rfl (fun z505 hz505 => ?_)
    refine X.ifgt 17 13 i204_10 rfl rfl rfl (fun h506 => ?_) (fun h506 => ?_)
    · have h506c : ¬ a1 ≤ 6 := by omega
      clear h506 hz505
      refine X.cut [] i204_17 rfl ?_
      refine X.iconst 18 i204_17 rfl rfl (by decide) ?_
      refine X.retz i204_18 rfl t204 (by omega) ?_
      show X (EE s) (d - 1) 290 9 [(0, zi a1), (1, zi a2)] [zi 0] m _
      refine X.ifeq 28 12 i290_9 rfl rfl rfl (fun h507 => ?_) (fun h507 => (by exfalso; omega))
      refine X.cut [] i290_28 rfl ?_
      refine X.iconst 29 i290_28 rfl rfl (by decide) ?_
      refine X.retz i290_29 rfl t290 (by omega) ?_
      show X (EE s) d 295 5 [(0, zr 4 44), (1, zi a1), (2, zi a2)] [zi 0] m _
      refine X.ifeq 24 8 i295_5 rfl rfl rfl (fun h508 => ?_) (fun h508 => (by exfalso; omega))
      refine X.cut [] i295_24 rfl ?_
      refine X.ldc2 27 i295_24 rfl rfl (by decide) ?_
      refine X.retl i295_27 rfl t295 ?_
      exact hQ (-1) (by first | trivial | omega) (Eq.trans (if_neg h502c) (Eq.trans (if_neg h506c) rfl)) 
    · have h506c : a1 ≤ 6 := by omega
      clear h506 hz505
      refine X.iconst 14 i204_13 rfl rfl (by decide) ?_
      refine X.goto 18 i204_14 rfl rfl ?_
      refine X.cut [] i204_18 rfl ?_
      refine X.retz i204_18 rfl t204 (by omega) ?_
      show X (EE s) (d - 1) 290 9 [(0, zi a1), (1, zi a2)] [zi 1] m _
      refine X.ifeq 28 12 i290_9 rfl rfl rfl (fun h509 => (by exfalso; omega)) (fun h509 => ?_)
      refine X.iload_n 13 i290_12 rfl rfl rfl ?_
      refine X.iconst 14 i290_13 rfl rfl (by decide) ?_
      refine X.icmpeq 24 17 i290_14 rfl rfl rfl (fun h510 => ?_) (fun h510 => ?_)
      · refine X.cut [] i290_24 rfl ?_
        refine X.iconst 25 i290_24 rfl rfl (by decide) ?_
        refine X.goto 29 i290_25 rfl rfl ?_
        refine X.retz i290_29 rfl t290 (by omega) ?_
        show X (EE s) d 295 5 [(0, zr 4 44), (1, zi a1), (2, zi a2)] [zi 1] m _
        refine X.ifeq 24 8 i295_5 rfl rfl rfl (fun h511 => (by exfalso; omega)) (fun h511 => ?_)
        refine X.aload_n 9 i295_8 rfl rfl rfl ?_
        refine X.getF 12 i295_9 rfl rfl (by decide) rfl rfl ?_
        refine X.bipush 14 i295_12 rfl rfl (by decide) ?_
        refine X.iload_n 15 i295_14 rfl rfl rfl ?_
        refine X.iload_n 16 i295_15 rfl rfl rfl ?_
        refine X.calls 19 [zi a1, zi a2] [zi 60, zr 4 45] [(0, zi a1), (1, zi a2)] i295_16 (by decide) rfl rfl (by omega) rfl rfl t291 (Nat.le_of_ble_eq_true rfl) (Nat.le_of_ble_eq_true rfl) rfl ?_
        refine c291_1 (B := B)  a1 a2 (by omega) (hJ.up (by omega)) (by omega) (by omega) (by omega) (fun v514 hv514 hFv514 => ?_)
        show X (EE s) d 295 19 [(0, zr 4 44), (1, zi a1), (2, zi a2)] [zi v514, zi 60, zr 4 45] m _
        refine X.iadd 20 i295_19 rfl rfl (by omega) ?_
        refine X.lald 21 i295_20 rfl rfl (by decide) rfl (by omega) ?_
        refine X.goto 27 i295_21 rfl rfl ?_
        refine X.cut [] i295_27 rfl ?_
        refine X.retl i295_27 rfl t295 ?_
        exact hQ (m 4 45 (60 + v514)) (by first | trivial | omega) (Eq.trans (if_neg h502c) (Eq.trans (if_pos h506c) (Eq.trans (if_pos h510) (Eq.trans (zn_eq hFv514.symm) rfl)))) 
      · refine X.iload_n 18 i290_17 rfl rfl rfl ?_
        refine X.calls 21 [zi a2] [] [(0, zi a2)] i290_18 (by decide) rfl rfl (by omega) rfl rfl t242 (Nat.le_of_ble_eq_true rfl) (Nat.le_of_ble_eq_true rfl) rfl ?_
        refine X.iload_n 1 i242_0 rfl rfl rfl ?_
        refine X.i2l 2 i242_1 rfl rfl ?_
        refine X.lconst (y := 0) 3 i242_2 rfl rfl rfl ?_
        refine X.ldc2 6 i242_3 rfl rfl (by decide) ?_
        refine X.calls 9 [zl a2, zl 0, zl 3] [] [(0, zl a2), (2, zl 0), (4, zl 3)] i242_6 (by decide) rfl rfl (by omega) rfl rfl t204 (Nat.le_of_ble_eq_true rfl) (Nat.le_of_ble_eq_true rfl) rfl ?_
        refine X.lload_n 1 i204_0 rfl rfl rfl ?_
        refine X.lload_n 2 i204_1 rfl rfl rfl ?_
        refine X.lcmp 3 i204_2 rfl rfl (fun z515 hz515 => ?_)
        refine X.iflt 17 6 i204_3 rfl rfl rfl (fun h516 => ?_) (fun h516 => ?_)
        · have h516c : a2 < 0 := by omega
          clear h516 hz515
          refine X.cut [] i204_17 rfl ?_
          refine X.iconst 18 i204_17 rfl rfl (by decide) ?_
          refine X.retz i204_18 rfl t204 (by omega) ?_
          show X (EE s) ((d - 1) - 1) 242 9 [(0, zi a2)] [zi 0] m _
          refine X.retz i242_9 rfl t242 (by omega) ?_
          show X (EE s) (d - 1) 290 21 [(0, zi a1), (1, zi a2)] [zi 0] m _
          refine X.ifeq 28 24 i290_21 rfl rfl rfl (fun h517 => ?_) (fun h517 => (by exfalso; omega))
          refine X.cut [] i290_28 rfl ?_
          refine X.iconst 29 i290_28 rfl rfl (by decide) ?_
          refine X.retz i290_29 rfl t290 (by omega) ?_
          show X (EE s) d 295 5 [(0, zr 4 44), (1, zi a1), (2, zi a2)] [zi 0] m _
          refine X.ifeq 24 8 i295_5 rfl rfl rfl (fun h518 => ?_) (fun h518 => (by exfalso; omega))
          refine X.cut [] i295_24 rfl ?_
          refine X.ldc2 27 i295_24 rfl rfl (by decide) ?_
          refine X.retl i295_27 rfl t295 ?_
          exact hQ (-1) (by first | trivial | omega) (Eq.trans (if_neg h502c) (Eq.trans (if_pos h506c) (Eq.trans (if_neg h510) (Eq.trans (if_pos h516c) rfl)))) 
        · have h516c : ¬ a2 < 0 := by omega
          clear h516 hz515
          refine X.lload_n 7 i204_6 rfl rfl rfl ?_
          refine X.lload 9 i204_7 rfl rfl rfl ?_
          refine X.lcmp 10 i204_9 rfl rfl (fun z519 hz519 => ?_)
          refine X.ifgt 17 13 i204_10 rfl rfl rfl (fun h520 => ?_) (fun h520 => ?_)
          · have h520c : ¬ a2 ≤ 3 := by omega
            clear h520 hz519
            refine X.cut [] i204_17 rfl ?_
            refine X.iconst 18 i204_17 rfl rfl (by decide) ?_
            refine X.retz i204_18 rfl t204 (by omega) ?_
            show X (EE s) ((d - 1) - 1) 242 9 [(0, zi a2)] [zi 0] m _
            refine X.retz i242_9 rfl t242 (by omega) ?_
            show X (EE s) (d - 1) 290 21 [(0, zi a1), (1, zi a2)] [zi 0] m _
            refine X.ifeq 28 24 i290_21 rfl rfl rfl (fun h521 => ?_) (fun h521 => (by exfalso; omega))
            refine X.cut [] i290_28 rfl ?_
            refine X.iconst 29 i290_28 rfl rfl (by decide) ?_
            refine X.retz i290_29 rfl t290 (by omega) ?_
            show X (EE s) d 295 5 [(0, zr 4 44), (1, zi a1), (2, zi a2)] [zi 0] m _
            refine X.ifeq 24 8 i295_5 rfl rfl rfl (fun h522 => ?_) (fun h522 => (by exfalso; omega))
            refine X.cut [] i295_24 rfl ?_
            refine X.ldc2 27 i295_24 rfl rfl (by decide) ?_
            refine X.retl i295_27 rfl t295 ?_
            exact hQ (-1) (by first | trivial | omega) (Eq.trans (if_neg h502c) (Eq.trans (if_pos h506c) (Eq.trans (if_neg h510) (Eq.trans (if_neg h516c) (Eq.trans (if_neg h520c) rfl))))) 
          · have h520c : a2 ≤ 3 := by omega
            clear h520 hz519
            refine X.iconst 14 i204_13 rfl rfl (by decide) ?_
            refine X.goto 18 i204_14 rfl rfl ?_
            refine X.cut [] i204_18 rfl ?_
            refine X.retz i204_18 rfl t204 (by omega) ?_
            show X (EE s) ((d - 1) - 1) 242 9 [(0, zi a2)] [zi 1] m _
            refine X.retz i242_9 rfl t242 (by omega) ?_
            show X (EE s) (d - 1) 290 21 [(0, zi a1), (1, zi a2)] [zi 1] m _
            refine X.ifeq 28 24 i290_21 rfl rfl rfl (fun h523 => (by exfalso; omega)) (fun h523 => ?_)
            refine X.cut [] i290_24 rfl ?_
            refine X.iconst 25 i290_24 rfl rfl (by decide) ?_
            refine X.goto 29 i290_25 rfl rfl ?_
            refine X.retz i290_29 rfl t290 (by omega) ?_
            show X (EE s) d 295 5 [(0, zr 4 44), (1, zi a1), (2, zi a2)] [zi 1] m _
            refine X.ifeq 24 8 i295_5 rfl rfl rfl (fun h524 => (by exfalso; omega)) (fun h524 => ?_)
            refine X.aload_n 9 i295_8 rfl rfl rfl ?_
            refine X.getF 12 i295_9 rfl rfl (by decide) rfl rfl ?_
            refine X.bipush 14 i295_12 rfl rfl (by decide) ?_
            refine X.iload_n 15 i295_14 rfl rfl rfl ?_
            refine X.iload_n 16 i295_15 rfl rfl rfl ?_
            refine X.calls 19 [zi a1, zi a2] [zi 60, zr 4 45] [(0, zi a1), (1, zi a2)] i295_16 (by decide) rfl rfl (by omega) rfl rfl t291 (Nat.le_of_ble_eq_true rfl) (Nat.le_of_ble_eq_true rfl) rfl ?_
            refine c291_1 (B := B)  a1 a2 (by omega) (hJ.up (by omega)) (by omega) (by omega) (by omega) (fun v527 hv527 hFv527 => ?_)
            show X (EE s) d 295 19 [(0, zr 4 44), (1, zi a1), (2, zi a2)] [zi v527, zi 60, zr 4 45] m _
            refine X.iadd 20 i295_19 rfl rfl (by omega) ?_
            refine X.lald 21 i295_20 rfl rfl (by decide) rfl (by omega) ?_
            refine X.goto 27 i295_21 rfl rfl ?_
            refine X.cut [] i295_27 rfl ?_
            refine X.retl i295_27 rfl t295 ?_
            exact hQ (m 4 45 (60 + v527)) (by first | trivial | omega) (Eq.trans (if_neg h502c) (Eq.trans (if_pos h506c) (Eq.trans (if_neg h510) (Eq.trans (if_neg h516c) (Eq.trans (if_pos h520c) (Eq.trans (zn_eq hFv527.symm) rfl)))))) 
-- WorkMeter.reading
noncomputable def f147_1 (a1 a2 : Int) (m : zM) : Int :=
  if a1 < 0 then
  ((-1))
  else
  (if 7 ≤ a1 then
  ((-1))
  else
  (if a2 = (-1) then
  (zn (f71_1 0 a1 a2 m) fun v510 =>
  zn (w64 ((v510).tdiv (max 1 (m 0 10 1)))) fun z512 =>
  z512)
  else
  (if a2 < 0 then
  ((-1))
  else
  (if 4 ≤ a2 then
  ((-1))
  else
  (zn (f71_1 0 a1 a2 m) fun v523 =>
  zn (w64 ((v523).tdiv (max 1 (m 0 10 1)))) fun z525 =>
  z525)))))
-- WorkMeter.reading
theorem c147_1 {s : Nat × (Nat → Int32)} {S : zS} {m0 m : zM} {B : Int} {d : Nat} {Q : Option zV → zM → Prop} (a1 a2 : Int) (hd : 15 ≤ d) (hJ : J S m0 B m) (hB : B + 0 ≤ 1000000000) (ha1 : (-2147483648) ≤ a1 ∧ a1 ≤ 2147483647) (ha2 : (-2147483648) ≤ a2 ∧ a2 ≤ 2147483647) (hQ : ∀ (v : Int), (True) → f147_1 a1 a2 m = v → Q (some (zl v)) m) : X (EE s) d 147 0 [(0, zr 4 40), (1, zi a1), (2, zi a2)] [] m Q := by
  refine X.iload_n 1 i147_0 rfl rfl rfl ?_
  refine X.calls 4 [zi a1] [] [(0, zi a1)] i147_1 (by decide) rfl rfl (by omega) rfl rfl t145 (Nat.le_of_ble_eq_true rfl) (Nat.le_of_ble_eq_true rfl) rfl ?_
  refine X.iload_n 1 i145_0 rfl rfl rfl ?_
  refine X.iflt 14 4 i145_1 rfl rfl rfl (fun h501 => ?_) (fun h501 => ?_)
  · refine X.cut [] i145_14 rfl ?_
    refine X.iconst 15 i145_14 rfl rfl (by decide) ?_
    refine X.retz i145_15 rfl t145 (by omega) ?_
    show X (EE s) d 147 4 [(0, zr 4 40), (1, zi a1), (2, zi a2)] [zi 0] m _
    refine X.ifeq 14 7 i147_4 rfl rfl rfl (fun h502 => ?_) (fun h502 => (by exfalso; omega))
    refine X.cut [] i147_14 rfl ?_
    refine X.ldc2 17 i147_14 rfl rfl (by decide) ?_
    refine X.retl i147_17 rfl t147 ?_
    exact hQ (-1) (by first | trivial | omega) (Eq.trans (if_pos h501) rfl) 
  · refine X.iload_n 5 i145_4 rfl rfl rfl ?_
    refine X.bipush 7 i145_5 rfl rfl (by decide) ?_
    refine X.icmpge 14 10 i145_7 rfl rfl rfl (fun h503 => ?_) (fun h503 => ?_)
    · refine X.cut [] i145_14 rfl ?_
      refine X.iconst 15 i145_14 rfl rfl (by decide) ?_
      refine X.retz i145_15 rfl t145 (by omega) ?_
      show X (EE s) d 147 4 [(0, zr 4 40), (1, zi a1), (2, zi a2)] [zi 0] m _
      refine X.ifeq 14 7 i147_4 rfl rfl rfl (fun h504 => ?_) (fun h504 => (by exfalso; omega))
      refine X.cut [] i147_14 rfl ?_
      refine X.ldc2 17 i147_14 rfl rfl (by decide) ?_
      refine X.retl i147_17 rfl t147 ?_
      exact hQ (-1) (by first | trivial | omega) (Eq.trans (if_neg h501) (Eq.trans (if_pos h503) rfl)) 
    · refine X.iconst 11 i145_10 rfl rfl (by decide) ?_
      refine X.goto 15 i145_11 rfl rfl ?_
      refine X.cut [] i145_15 rfl ?_
      refine X.retz i145_15 rfl t145 (by omega) ?_
      show X (EE s) d 147 4 [(0, zr 4 40), (1, zi a1), (2, zi a2)] [zi 1] m _
      refine X.ifeq 14 7 i147_4 rfl rfl rfl (fun h505 => (by exfalso; omega)) (fun h505 => ?_)
      refine X.iload_n 8 i147_7 rfl rfl rfl ?_
      refine X.calls 11 [zi a2] [] [(0, zi a2)] i147_8 (by decide) rfl rfl (by omega) rfl rfl t146 (Nat.le_of_ble_eq_true rfl) (Nat.le_of_ble_eq_true rfl) rfl ?_
      refine X.iload_n 1 i146_0 rfl rfl rfl ?_
      refine X.iconst 2 i146_1 rfl rfl (by decide) ?_
      refine X.icmpeq 12 5 i146_2 rfl rfl rfl (fun h506 => ?_) (fun h506 => ?_)
      · refine X.cut [] i146_12 rfl ?_
        refine X.iconst 13 i146_12 rfl rfl (by decide) ?_
        refine X.goto 17 i146_13 rfl rfl ?_
        refine X.retz i146_17 rfl t146 (by omega) ?_
        show X (EE s) d 147 11 [(0, zr 4 40), (1, zi a1), (2, zi a2)] [zi 1] m _
        refine X.ifne 18 14 i147_11 rfl rfl rfl (fun h507 => ?_) (fun h507 => (by exfalso; omega))
        refine X.aload_n 19 i147_18 rfl rfl rfl ?_
        refine X.getF 22 i147_19 rfl rfl (by decide) rfl rfl ?_
        refine X.getR 25 i147_22 rfl rfl (by decide) rfl rfl ?_
        refine X.iload_n 26 i147_25 rfl rfl rfl ?_
        refine X.iload_n 27 i147_26 rfl rfl rfl ?_
        refine X.callv 30 [zi a1, zi a2] [] [(0, zr 0 23), (1, zi a1), (2, zi a2)] i147_27 rfl (by decide) rfl rfl (by omega) rfl rfl (by decide) rfl t71 (Nat.le_of_ble_eq_true rfl) (Nat.le_of_ble_eq_true rfl) rfl ?_
        refine c71_2 (B := B) 0 a1 a2 (by omega) (hJ.up (by omega)) (by omega) (by omega) (by omega) (fun v510 hv510 hFv510 => ?_)
        show X (EE s) d 147 30 [(0, zr 4 40), (1, zi a1), (2, zi a2)] [zl v510] m _
        refine X.aload_n 31 i147_30 rfl rfl rfl ?_
        refine X.getF 34 i147_31 rfl rfl (by decide) rfl rfl ?_
        refine X.getR 37 i147_34 rfl rfl (by decide) rfl rfl ?_
        refine X.callv 40 [] [zl v510] [(0, zr 0 9)] i147_37 rfl (by decide) rfl rfl (by omega) rfl rfl (by decide) rfl t48 (Nat.le_of_ble_eq_true rfl) (Nat.le_of_ble_eq_true rfl) rfl ?_
        refine X.iconst 1 i48_0 rfl rfl (by decide) ?_
        refine X.aload_n 2 i48_1 rfl rfl rfl ?_
        refine X.getR 5 i48_2 rfl rfl (by decide) rfl rfl ?_
        refine X.iconst 6 i48_5 rfl rfl (by decide) ?_
        refine X.iald 7 i48_6 rfl rfl (by decide) rfl (by omega) ?_
        have h511 := r10_0 hJ 0 (i := 1) (by omega)
        refine X.maxI 10 i48_7 rfl rfl (by omega) (Nat.le_of_ble_eq_true rfl) ?_
        refine X.reti i48_10 rfl t48 ?_
        show X (EE s) d 147 40 [(0, zr 4 40), (1, zi a1), (2, zi a2)] [zi (max 1 (m 0 10 1)), zl v510] m _
        refine X.i2l 41 i147_40 rfl rfl ?_
        refine X.ldivW 42 i147_41 rfl rfl (by omega) (fun z512 ez512 hz512 => ?_)
        refine X.retl i147_42 rfl t147 ?_
        exact hQ z512 (by first | trivial | omega) (Eq.trans (if_neg h501) (Eq.trans (if_neg h503) (Eq.trans (if_pos h506) (Eq.trans (zn_eq hFv510.symm) (Eq.trans (zn_eq ez512) rfl))))) 
      · refine X.iload_n 6 i146_5 rfl rfl rfl ?_
        refine X.calls 9 [zi a2] [] [(0, zi a2)] i146_6 (by decide) rfl rfl (by omega) rfl rfl t80 (Nat.le_of_ble_eq_true rfl) (Nat.le_of_ble_eq_true rfl) rfl ?_
        refine X.iload_n 1 i80_0 rfl rfl rfl ?_
        refine X.iflt 13 4 i80_1 rfl rfl rfl (fun h513 => ?_) (fun h513 => ?_)
        · refine X.cut [] i80_13 rfl ?_
          refine X.iconst 14 i80_13 rfl rfl (by decide) ?_
          refine X.retz i80_14 rfl t80 (by omega) ?_
          show X (EE s) (d - 1) 146 9 [(0, zi a2)] [zi 0] m _
          refine X.ifeq 16 12 i146_9 rfl rfl rfl (fun h514 => ?_) (fun h514 => (by exfalso; omega))
          refine X.cut [] i146_16 rfl ?_
          refine X.iconst 17 i146_16 rfl rfl (by decide) ?_
          refine X.retz i146_17 rfl t146 (by omega) ?_
          show X (EE s) d 147 11 [(0, zr 4 40), (1, zi a1), (2, zi a2)] [zi 0] m _
          refine X.ifne 18 14 i147_11 rfl rfl rfl (fun h515 => (by exfalso; omega)) (fun h515 => ?_)
          refine X.cut [] i147_14 rfl ?_
          refine X.ldc2 17 i147_14 rfl rfl (by decide) ?_
          refine X.retl i147_17 rfl t147 ?_
          exact hQ (-1) (by first | trivial | omega) (Eq.trans (if_neg h501) (Eq.trans (if_neg h503) (Eq.trans (if_neg h506) (Eq.trans (if_pos h513) rfl)))) 
        · refine X.iload_n 5 i80_4 rfl rfl rfl ?_
          refine X.iconst 6 i80_5 rfl rfl (by decide) ?_
          refine X.icmpge 13 9 i80_6 rfl rfl rfl (fun h516 => ?_) (fun h516 => ?_)
          · refine X.cut [] i80_13 rfl ?_
            refine X.iconst 14 i80_13 rfl rfl (by decide) ?_
            refine X.retz i80_14 rfl t80 (by omega) ?_
            show X (EE s) (d - 1) 146 9 [(0, zi a2)] [zi 0] m _
            refine X.ifeq 16 12 i146_9 rfl rfl rfl (fun h517 => ?_) (fun h517 => (by exfalso; omega))
            refine X.cut [] i146_16 rfl ?_
            refine X.iconst 17 i146_16 rfl rfl (by decide) ?_
            refine X.retz i146_17 rfl t146 (by omega) ?_
            show X (EE s) d 147 11 [(0, zr 4 40), (1, zi a1), (2, zi a2)] [zi 0] m _
            refine X.ifne 18 14 i147_11 rfl rfl rfl (fun h518 => (by exfalso; omega)) (fun h518 => ?_)
            refine X.cut [] i147_14 rfl ?_
            refine X.ldc2 17 i147_14 rfl rfl (by decide) ?_
            refine X.retl i147_17 rfl t147 ?_
            exact hQ (-1) (by first | trivial | omega) (Eq.trans (if_neg h501) (Eq.trans (if_neg h503) (Eq.trans (if_neg h506) (Eq.trans (if_neg h513) (Eq.trans (if_pos h516) rfl))))) 
          · refine X.iconst 10 i80_9 rfl rfl (by decide) ?_
            refine X.goto 14 i80_10 rfl rfl ?_
            refine X.cut [] i80_14 rfl ?_
            refine X.retz i80_14 rfl t80 (by omega) ?_
            show X (EE s) (d - 1) 146 9 [(0, zi a2)] [zi 1] m _
            refine X.ifeq 16 12 i146_9 rfl rfl rfl (fun h519 => (by exfalso; omega)) (fun h519 => ?_)
            refine X.cut [] i146_12 rfl ?_
            refine X.iconst 13 i146_12 rfl rfl (by decide) ?_
            refine X.goto 17 i146_13 rfl rfl ?_
            refine X.retz i146_17 rfl t146 (by omega) ?_
            show X (EE s) d 147 11 [(0, zr 4 40), (1, zi a1), (2, zi a2)] [zi 1] m _
            refine X.ifne 18 14 i147_11 rfl rfl rfl (fun h520 => ?_) (fun h520 => (by exfalso; omega))
            refine X.aload_n 19 i147_18 rfl rfl rfl ?_
            refine X.getF 22 i147_19 rfl rfl (by decide) rfl rfl ?_
            refine X.getR 25 i147_22 rfl rfl (by decide) rfl rfl ?_
            refine X.iload_n 26 i147_25 rfl rfl rfl ?_
            refine X.iload_n 27 i147_26 rfl rfl rfl ?_
            refine X.callv 30 [zi a1, zi a2] [] [(0, zr 0 23), (1, zi a1), (2, zi a2)] i147_27 rfl (by decide) rfl rfl (by omega) rfl rfl (by decide) rfl t71 (Nat.le_of_ble_eq_true rfl) (Nat.le_of_ble_eq_true rfl) rfl ?_
            refine c71_3 (B := B) 0 a1 a2 (by omega) (hJ.up (by omega)) (by omega) (by omega) (by omega) (fun v523 hv523 hFv523 => ?_)
            show X (EE s) d 147 30 [(0, zr 4 40), (1, zi a1), (2, zi a2)] [zl v523] m _
            refine X.aload_n 31 i147_30 rfl rfl rfl ?_
            refine X.getF 34 i147_31 rfl rfl (by decide) rfl rfl ?_
            refine X.getR 37 i147_34 rfl rfl (by decide) rfl rfl ?_
            refine X.callv 40 [] [zl v523] [(0, zr 0 9)] i147_37 rfl (by decide) rfl rfl (by omega) rfl rfl (by decide) rfl t48 (Nat.le_of_ble_eq_true rfl) (Nat.le_of_ble_eq_true rfl) rfl ?_
            refine X.iconst 1 i48_0 rfl rfl (by decide) ?_
            refine X.aload_n 2 i48_1 rfl rfl rfl ?_
            refine X.getR 5 i48_2 rfl rfl (by decide) rfl rfl ?_
            refine X.iconst 6 i48_5 rfl rfl (by decide) ?_
            refine X.iald 7 i48_6 rfl rfl (by decide) rfl (by omega) ?_
            have h524 := r10_0 hJ 0 (i := 1) (by omega)
            refine X.maxI 10 i48_7 rfl rfl (by omega) (Nat.le_of_ble_eq_true rfl) ?_
            refine X.reti i48_10 rfl t48 ?_
            show X (EE s) d 147 40 [(0, zr 4 40), (1, zi a1), (2, zi a2)] [zi (max 1 (m 0 10 1)), zl v523] m _
            refine X.i2l 41 i147_40 rfl rfl ?_
            refine X.ldivW 42 i147_41 rfl rfl (by omega) (fun z525 ez525 hz525 => ?_)
            refine X.retl i147_42 rfl t147 ?_
            exact hQ z525 (by first | trivial | omega) (Eq.trans (if_neg h501) (Eq.trans (if_neg h503) (Eq.trans (if_neg h506) (Eq.trans (if_neg h513) (Eq.trans (if_neg h516) (Eq.trans (zn_eq hFv523.symm) (Eq.trans (zn_eq ez525) rfl))))))) 
-- WorkMeterModel.reading
noncomputable def f296_1 (a1 a2 : Int) (m : zM) : Int :=
  if a1 < 0 then
  ((-1))
  else
  (if a1 ≤ 6 then
  (if a2 = (-1) then
  (zn (f291_1 a1 a2 m) fun v514 =>
  zn (w64 (((m 4 45 (60 + v514))).tdiv (m 4 45 5))) fun z516 =>
  z516)
  else
  (if a2 < 0 then
  ((-1))
  else
  (if a2 ≤ 3 then
  (zn (f291_1 a1 a2 m) fun v529 =>
  zn (w64 (((m 4 45 (60 + v529))).tdiv (m 4 45 5))) fun z531 =>
  z531)
  else
  ((-1)))))
  else
  ((-1)))
-- WorkMeterModel.reading
theorem c296_1 {s : Nat × (Nat → Int32)} {S : zS} {m0 m : zM} {B : Int} {d : Nat} {Q : Option zV → zM → Prop} (a1 a2 : Int) (hd : 14 ≤ d) (hJ : J S m0 B m) (hB : B + 0 ≤ 1000000000) (ha1 : (-2147483648) ≤ a1 ∧ a1 ≤ 2147483647) (ha2 : (-2147483648) ≤ a2 ∧ a2 ≤ 2147483647) (hQ : ∀ (v : Int), (True) → f296_1 a1 a2 m = v → Q (some (zl v)) m) : X (EE s) d 296 0 [(0, zr 4 44), (1, zi a1), (2, zi a2)] [] m Q := by
  refine X.iload_n 1 i296_0 rfl rfl rfl ?_
  refine X.iload_n 2 i296_1 rfl rfl rfl ?_
  refine X.calls 5 [zi a1, zi a2] [] [(0, zi a1), (1, zi a2)] i296_2 (by decide) rfl rfl (by omega) rfl rfl t290 (Nat.le_of_ble_eq_true rfl) (Nat.le_of_ble_eq_true rfl) rfl ?_
  refine X.iload_n 1 i290_0 rfl rfl rfl ?_
  refine X.i2l 2 i290_1 rfl rfl ?_
  refine X.lconst (y := 0) 3 i290_2 rfl rfl rfl ?_
  refine X.ldc2 6 i290_3 rfl rfl (by decide) ?_
  refine X.calls 9 [zl a1, zl 0, zl 6] [] [(0, zl a1), (2, zl 0), (4, zl 6)] i290_6 (by decide) rfl rfl (by omega) rfl rfl t204 (Nat.le_of_ble_eq_true rfl) (Nat.le_of_ble_eq_true rfl) rfl ?_
  refine X.lload_n 1 i204_0 rfl rfl rfl ?_
  refine X.lload_n 2 i204_1 rfl rfl rfl ?_
  refine X.lcmp 3 i204_2 rfl rfl (fun z501 hz501 => ?_)
  refine X.iflt 17 6 i204_3 rfl rfl rfl (fun h502 => ?_) (fun h502 => ?_)
  · have h502c : a1 < 0 := by omega
    clear h502 hz501
    refine X.cut [] i204_17 rfl ?_
    refine X.iconst 18 i204_17 rfl rfl (by decide) ?_
    refine X.retz i204_18 rfl t204 (by omega) ?_
    show X (EE s) (d - 1) 290 9 [(0, zi a1), (1, zi a2)] [zi 0] m _
    refine X.ifeq 28 12 i290_9 rfl rfl rfl (fun h503 => ?_) (fun h503 => (by exfalso; omega))
    refine X.cut [] i290_28 rfl ?_
    refine X.iconst 29 i290_28 rfl rfl (by decide) ?_
    refine X.retz i290_29 rfl t290 (by omega) ?_
    show X (EE s) d 296 5 [(0, zr 4 44), (1, zi a1), (2, zi a2)] [zi 0] m _
    refine X.ifeq 31 8 i296_5 rfl rfl rfl (fun h504 => ?_) (fun h504 => (by exfalso; omega))
    refine X.cut [] i296_31 rfl ?_
    refine X.ldc2 34 i296_31 rfl rfl (by decide) ?_
    refine X.retl i296_34 rfl t296 ?_
    exact hQ (-1) (by first | trivial | omega) (Eq.trans (if_pos h502c) rfl) 
  · have h502c : ¬ a1 < 0 := by omega
    clear h502 hz501
    refine X.lload_n 7 i204_6 rfl rfl rfl ?_
    refine X.lload 9 i204_7 rfl rfl rfl ?_
    refine X.lcmp 10 i204_9 rfl rfl (fun z505 hz505 => ?_)
    refine X.ifgt 17 13 i204_10 rfl rfl rfl (fun h506 => ?_) (fun h506 => ?_)
    · have h506c : ¬ a1 ≤ 6 := by omega
      clear h506 hz505
      refine X.cut [] i204_17 rfl ?_
      refine X.iconst 18 i204_17 rfl rfl (by decide) ?_
      refine X.retz i204_18 rfl t204 (by omega) ?_
      show X (EE s) (d - 1) 290 9 [(0, zi a1), (1, zi a2)] [zi 0] m _
      refine X.ifeq 28 12 i290_9 rfl rfl rfl (fun h507 => ?_) (fun h507 => (by exfalso; omega))
      refine X.cut [] i290_28 rfl ?_
      refine X.iconst 29 i290_28 rfl rfl (by decide) ?_
      refine X.retz i290_29 rfl t290 (by omega) ?_
      show X (EE s) d 296 5 [(0, zr 4 44), (1, zi a1), (2, zi a2)] [zi 0] m _
      refine X.ifeq 31 8 i296_5 rfl rfl rfl (fun h508 => ?_) (fun h508 => (by exfalso; omega))
      refine X.cut [] i296_31 rfl ?_
      refine X.ldc2 34 i296_31 rfl rfl (by decide) ?_
      refine X.retl i296_34 rfl t296 ?_
      exact hQ (-1) (by first | trivial | omega) (Eq.trans (if_neg h502c) (Eq.trans (if_neg h506c) rfl)) 
    · have h506c : a1 ≤ 6 := by omega
      clear h506 hz505
      refine X.iconst 14 i204_13 rfl rfl (by decide) ?_
      refine X.goto 18 i204_14 rfl rfl ?_
      refine X.cut [] i204_18 rfl ?_
      refine X.retz i204_18 rfl t204 (by omega) ?_
      show X (EE s) (d - 1) 290 9 [(0, zi a1), (1, zi a2)] [zi 1] m _
      refine X.ifeq 28 12 i290_9 rfl rfl rfl (fun h509 => (by exfalso; omega)) (fun h509 => ?_)
      refine X.iload_n 13 i290_12 rfl rfl rfl ?_
      refine X.iconst 14 i290_13 rfl rfl (by decide) ?_
      refine X.icmpeq 24 17 i290_14 rfl rfl rfl (fun h510 => ?_) (fun h510 => ?_)
      · refine X.cut [] i290_24 rfl ?_
        refine X.iconst 25 i290_24 rfl rfl (by decide) ?_
        refine X.goto 29 i290_25 rfl rfl ?_
        refine X.retz i290_29 rfl t290 (by omega) ?_
        show X (EE s) d 296 5 [(0, zr 4 44), (1, zi a1), (2, zi a2)] [zi 1] m _
        refine X.ifeq 31 8 i296_5 rfl rfl rfl (fun h511 => (by exfalso; omega)) (fun h511 => ?_)
        refine X.aload_n 9 i296_8 rfl rfl rfl ?_
        refine X.getF 12 i296_9 rfl rfl (by decide) rfl rfl ?_
        refine X.bipush 14 i296_12 rfl rfl (by decide) ?_
        refine X.iload_n 15 i296_14 rfl rfl rfl ?_
        refine X.iload_n 16 i296_15 rfl rfl rfl ?_
        refine X.calls 19 [zi a1, zi a2] [zi 60, zr 4 45] [(0, zi a1), (1, zi a2)] i296_16 (by decide) rfl rfl (by omega) rfl rfl t291 (Nat.le_of_ble_eq_true rfl) (Nat.le_of_ble_eq_true rfl) rfl ?_
        refine c291_1 (B := B)  a1 a2 (by omega) (hJ.up (by omega)) (by omega) (by omega) (by omega) (fun v514 hv514 hFv514 => ?_)
        show X (EE s) d 296 19 [(0, zr 4 44), (1, zi a1), (2, zi a2)] [zi v514, zi 60, zr 4 45] m _
        refine X.iadd 20 i296_19 rfl rfl (by omega) ?_
        refine X.lald 21 i296_20 rfl rfl (by decide) rfl (by omega) ?_
        refine X.aload_n 22 i296_21 rfl rfl rfl ?_
        refine X.getF 25 i296_22 rfl rfl (by decide) rfl rfl ?_
        refine X.iconst 26 i296_25 rfl rfl (by decide) ?_
        refine X.lald 27 i296_26 rfl rfl (by decide) rfl (by omega) ?_
        have h515 := r45_5 hJ 4
        refine X.ldivW 28 i296_27 rfl rfl (by omega) (fun z516 ez516 hz516 => ?_)
        refine X.goto 34 i296_28 rfl rfl ?_
        refine X.cut [] i296_34 rfl ?_
        refine X.retl i296_34 rfl t296 ?_
        exact hQ z516 (by first | trivial | omega) (Eq.trans (if_neg h502c) (Eq.trans (if_pos h506c) (Eq.trans (if_pos h510) (Eq.trans (zn_eq hFv514.symm) (Eq.trans (zn_eq ez516) rfl))))) 
      · refine X.iload_n 18 i290_17 rfl rfl rfl ?_
        refine X.calls 21 [zi a2] [] [(0, zi a2)] i290_18 (by decide) rfl rfl (by omega) rfl rfl t242 (Nat.le_of_ble_eq_true rfl) (Nat.le_of_ble_eq_true rfl) rfl ?_
        refine X.iload_n 1 i242_0 rfl rfl rfl ?_
        refine X.i2l 2 i242_1 rfl rfl ?_
        refine X.lconst (y := 0) 3 i242_2 rfl rfl rfl ?_
        refine X.ldc2 6 i242_3 rfl rfl (by decide) ?_
        refine X.calls 9 [zl a2, zl 0, zl 3] [] [(0, zl a2), (2, zl 0), (4, zl 3)] i242_6 (by decide) rfl rfl (by omega) rfl rfl t204 (Nat.le_of_ble_eq_true rfl) (Nat.le_of_ble_eq_true rfl) rfl ?_
        refine X.lload_n 1 i204_0 rfl rfl rfl ?_
        refine X.lload_n 2 i204_1 rfl rfl rfl ?_
        refine X.lcmp 3 i204_2 rfl rfl (fun z517 hz517 => ?_)
        refine X.iflt 17 6 i204_3 rfl rfl rfl (fun h518 => ?_) (fun h518 => ?_)
        · have h518c : a2 < 0 := by omega
          clear h518 hz517
          refine X.cut [] i204_17 rfl ?_
          refine X.iconst 18 i204_17 rfl rfl (by decide) ?_
          refine X.retz i204_18 rfl t204 (by omega) ?_
          show X (EE s) ((d - 1) - 1) 242 9 [(0, zi a2)] [zi 0] m _
          refine X.retz i242_9 rfl t242 (by omega) ?_
          show X (EE s) (d - 1) 290 21 [(0, zi a1), (1, zi a2)] [zi 0] m _
          refine X.ifeq 28 24 i290_21 rfl rfl rfl (fun h519 => ?_) (fun h519 => (by exfalso; omega))
          refine X.cut [] i290_28 rfl ?_
          refine X.iconst 29 i290_28 rfl rfl (by decide) ?_
          refine X.retz i290_29 rfl t290 (by omega) ?_
          show X (EE s) d 296 5 [(0, zr 4 44), (1, zi a1), (2, zi a2)] [zi 0] m _
          refine X.ifeq 31 8 i296_5 rfl rfl rfl (fun h520 => ?_) (fun h520 => (by exfalso; omega))
          refine X.cut [] i296_31 rfl ?_
          refine X.ldc2 34 i296_31 rfl rfl (by decide) ?_
          refine X.retl i296_34 rfl t296 ?_
          exact hQ (-1) (by first | trivial | omega) (Eq.trans (if_neg h502c) (Eq.trans (if_pos h506c) (Eq.trans (if_neg h510) (Eq.trans (if_pos h518c) rfl)))) 
        · have h518c : ¬ a2 < 0 := by omega
          clear h518 hz517
          refine X.lload_n 7 i204_6 rfl rfl rfl ?_
          refine X.lload 9 i204_7 rfl rfl rfl ?_
          refine X.lcmp 10 i204_9 rfl rfl (fun z521 hz521 => ?_)
          refine X.ifgt 17 13 i204_10 rfl rfl rfl (fun h522 => ?_) (fun h522 => ?_)
          · have h522c : ¬ a2 ≤ 3 := by omega
            clear h522 hz521
            refine X.cut [] i204_17 rfl ?_
            refine X.iconst 18 i204_17 rfl rfl (by decide) ?_
            refine X.retz i204_18 rfl t204 (by omega) ?_
            show X (EE s) ((d - 1) - 1) 242 9 [(0, zi a2)] [zi 0] m _
            refine X.retz i242_9 rfl t242 (by omega) ?_
            show X (EE s) (d - 1) 290 21 [(0, zi a1), (1, zi a2)] [zi 0] m _
            refine X.ifeq 28 24 i290_21 rfl rfl rfl (fun h523 => ?_) (fun h523 => (by exfalso; omega))
            refine X.cut [] i290_28 rfl ?_
            refine X.iconst 29 i290_28 rfl rfl (by decide) ?_
            refine X.retz i290_29 rfl t290 (by omega) ?_
            show X (EE s) d 296 5 [(0, zr 4 44), (1, zi a1), (2, zi a2)] [zi 0] m _
            refine X.ifeq 31 8 i296_5 rfl rfl rfl (fun h524 => ?_) (fun h524 => (by exfalso; omega))
            refine X.cut [] i296_31 rfl ?_
            refine X.ldc2 34 i296_31 rfl rfl (by decide) ?_
            refine X.retl i296_34 rfl t296 ?_
            exact hQ (-1) (by first | trivial | omega) (Eq.trans (if_neg h502c) (Eq.trans (if_pos h506c) (Eq.trans (if_neg h510) (Eq.trans (if_neg h518c) (Eq.trans (if_neg h522c) rfl))))) 
          · have h522c : a2 ≤ 3 := by omega
            clear h522 hz521
            refine X.iconst 14 i204_13 rfl rfl (by decide) ?_
            refine X.goto 18 i204_14 rfl rfl ?_
            refine X.cut [] i204_18 rfl ?_
            refine X.retz i204_18 rfl t204 (by omega) ?_
            show X (EE s) ((d - 1) - 1) 242 9 [(0, zi a2)] [zi 1] m _
            refine X.retz i242_9 rfl t242 (by omega) ?_
            show X (EE s) (d - 1) 290 21 [(0, zi a1), (1, zi a2)] [zi 1] m _
            refine X.ifeq 28 24 i290_21 rfl rfl rfl (fun h525 => (by exfalso; omega)) (fun h525 => ?_)
            refine X.cut [] i290_24 rfl ?_
            refine X.iconst 25 i290_24 rfl rfl (by decide) ?_
            refine X.goto 29 i290_25 rfl rfl ?_
            refine X.retz i290_29 rfl t290 (by omega) ?_
            show X (EE s) d 296 5 [(0, zr 4 44), (1, zi a1), (2, zi a2)] [zi 1] m _
            refine X.ifeq 31 8 i296_5 rfl rfl rfl (fun h526 => (by exfalso; omega)) (fun h526 => ?_)
            refine X.aload_n 9 i296_8 rfl rfl rfl ?_
            refine X.getF 12 i296_9 rfl rfl (by decide) rfl rfl ?_
            refine X.bipush 14 i296_12 rfl rfl (by decide) ?_
            refine X.iload_n 15 i296_14 rfl rfl rfl ?_
            refine X.iload_n 16 i296_15 rfl rfl rfl ?_
            refine X.calls 19 [zi a1, zi a2] [zi 60, zr 4 45] [(0, zi a1), (1, zi a2)] i296_16 (by decide) rfl rfl (by omega) rfl rfl t291 (Nat.le_of_ble_eq_true rfl) (Nat.le_of_ble_eq_true rfl) rfl ?_
            refine c291_1 (B := B)  a1 a2 (by omega) (hJ.up (by omega)) (by omega) (by omega) (by omega) (fun v529 hv529 hFv529 => ?_)
            show X (EE s) d 296 19 [(0, zr 4 44), (1, zi a1), (2, zi a2)] [zi v529, zi 60, zr 4 45] m _
            refine X.iadd 20 i296_19 rfl rfl (by omega) ?_
            refine X.lald 21 i296_20 rfl rfl (by decide) rfl (by omega) ?_
            refine X.aload_n 22 i296_21 rfl rfl rfl ?_
            refine X.getF 25 i296_22 rfl rfl (by decide) rfl rfl ?_
            refine X.iconst 26 i296_25 rfl rfl (by decide) ?_
            refine X.lald 27 i296_26 rfl rfl (by decide) rfl (by omega) ?_
            have h530 := r45_5 hJ 4
            refine X.ldivW 28 i296_27 rfl rfl (by omega) (fun z531 ez531 hz531 => ?_)
            refine X.goto 34 i296_28 rfl rfl ?_
            refine X.cut [] i296_34 rfl ?_
            refine X.retl i296_34 rfl t296 ?_
            exact hQ z531 (by first | trivial | omega) (Eq.trans (if_neg h502c) (Eq.trans (if_pos h506c) (Eq.trans (if_neg h510) (Eq.trans (if_neg h518c) (Eq.trans (if_pos h522c) (Eq.trans (zn_eq hFv529.symm) (Eq.trans (zn_eq ez531) rfl))))))) 
-- WorkMeter.tariffAt
noncomputable def f148_1 (a1 : Int) (m : zM) : Int :=
  if a1 < 0 then
  ((-1))
  else
  (if 2000000000 < a1 then
  ((-1))
  else
  (zn (f27_1 0 a1 m) fun v508 =>
  v508))
-- WorkMeter.tariffAt
theorem c148_1 {s : Nat × (Nat → Int32)} {S : zS} {m0 m : zM} {B : Int} {d : Nat} {Q : Option zV → zM → Prop} (a1 : Int) (hd : 16 ≤ d) (hJ : J S m0 B m) (hB : B + 0 ≤ 1000000000) (ha1 : (-2147483648) ≤ a1 ∧ a1 ≤ 2147483647) (hQ : ∀ (v : Int), ((-1) ≤ v ∧ v ≤ 3) → f148_1 a1 m = v → Q (some (zi v)) m) : X (EE s) d 148 0 [(0, zr 4 40), (1, zi a1)] [] m Q := by
  refine X.iload_n 1 i148_0 rfl rfl rfl ?_
  refine X.calls 4 [zi a1] [] [(0, zi a1)] i148_1 (by decide) rfl rfl (by omega) rfl rfl t128 (Nat.le_of_ble_eq_true rfl) (Nat.le_of_ble_eq_true rfl) rfl ?_
  refine X.iload_n 1 i128_0 rfl rfl rfl ?_
  refine X.iflt 14 4 i128_1 rfl rfl rfl (fun h501 => ?_) (fun h501 => ?_)
  · refine X.cut [] i128_14 rfl ?_
    refine X.iconst 15 i128_14 rfl rfl (by decide) ?_
    refine X.retz i128_15 rfl t128 (by omega) ?_
    show X (EE s) d 148 4 [(0, zr 4 40), (1, zi a1)] [zi 0] m _
    refine X.ifeq 21 7 i148_4 rfl rfl rfl (fun h502 => ?_) (fun h502 => (by exfalso; omega))
    refine X.cut [] i148_21 rfl ?_
    refine X.iconst 22 i148_21 rfl rfl (by decide) ?_
    refine X.reti i148_22 rfl t148 ?_
    exact hQ (-1) (by first | trivial | omega) (Eq.trans (if_pos h501) rfl) 
  · refine X.iload_n 5 i128_4 rfl rfl rfl ?_
    refine X.ldc 7 i128_5 rfl rfl (by decide) ?_
    refine X.icmpgt 14 10 i128_7 rfl rfl rfl (fun h503 => ?_) (fun h503 => ?_)
    · refine X.cut [] i128_14 rfl ?_
      refine X.iconst 15 i128_14 rfl rfl (by decide) ?_
      refine X.retz i128_15 rfl t128 (by omega) ?_
      show X (EE s) d 148 4 [(0, zr 4 40), (1, zi a1)] [zi 0] m _
      refine X.ifeq 21 7 i148_4 rfl rfl rfl (fun h504 => ?_) (fun h504 => (by exfalso; omega))
      refine X.cut [] i148_21 rfl ?_
      refine X.iconst 22 i148_21 rfl rfl (by decide) ?_
      refine X.reti i148_22 rfl t148 ?_
      exact hQ (-1) (by first | trivial | omega) (Eq.trans (if_neg h501) (Eq.trans (if_pos h503) rfl)) 
    · refine X.iconst 11 i128_10 rfl rfl (by decide) ?_
      refine X.goto 15 i128_11 rfl rfl ?_
      refine X.cut [] i128_15 rfl ?_
      refine X.retz i128_15 rfl t128 (by omega) ?_
      show X (EE s) d 148 4 [(0, zr 4 40), (1, zi a1)] [zi 1] m _
      refine X.ifeq 21 7 i148_4 rfl rfl rfl (fun h505 => (by exfalso; omega)) (fun h505 => ?_)
      refine X.aload_n 8 i148_7 rfl rfl rfl ?_
      refine X.getF 11 i148_8 rfl rfl (by decide) rfl rfl ?_
      refine X.getR 14 i148_11 rfl rfl (by decide) rfl rfl ?_
      refine X.iload_n 15 i148_14 rfl rfl rfl ?_
      refine X.callv 18 [zi a1] [] [(0, zr 0 11), (1, zi a1)] i148_15 rfl (by decide) rfl rfl (by omega) rfl rfl (by decide) rfl t27 (Nat.le_of_ble_eq_true rfl) (Nat.le_of_ble_eq_true rfl) rfl ?_
      refine c27_1 (B := B) 0 a1 (by omega) (hJ.up (by omega)) (by omega) (by omega) (fun v508 hv508 hFv508 => ?_)
      show X (EE s) d 148 18 [(0, zr 4 40), (1, zi a1)] [zi v508] m _
      refine X.goto 22 i148_18 rfl rfl ?_
      refine X.cut [] i148_22 rfl ?_
      refine X.reti i148_22 rfl t148 ?_
      exact hQ v508 (by first | trivial | omega) (Eq.trans (if_neg h501) (Eq.trans (if_neg h503) (Eq.trans (zn_eq hFv508.symm) rfl))) 
-- WorkMeterModel.tariffAt
noncomputable def f250_1 (a1 : Int) (m : zM) : Int :=
  if a1 < 0 then
  ((-1))
  else
  (if a1 ≤ 2000000000 then
  (zn (f217_1 a1 m) fun v510 =>
  v510)
  else
  ((-1)))
-- WorkMeterModel.tariffAt
theorem c250_1 {s : Nat × (Nat → Int32)} {S : zS} {m0 m : zM} {B : Int} {d : Nat} {Q : Option zV → zM → Prop} (a1 : Int) (hd : 16 ≤ d) (hJ : J S m0 B m) (hB : B + 0 ≤ 1000000000) (ha1 : (-2147483648) ≤ a1 ∧ a1 ≤ 2147483647) (hQ : ∀ (v : Int), ((-1) ≤ v ∧ v ≤ 3) → f250_1 a1 m = v → Q (some (zi v)) m) : X (EE s) d 250 0 [(0, zr 4 44), (1, zi a1)] [] m Q := by
  refine X.iload_n 1 i250_0 rfl rfl rfl ?_
  refine X.i2l 2 i250_1 rfl rfl ?_
  refine X.lconst (y := 0) 3 i250_2 rfl rfl rfl ?_
  refine X.ldc2 6 i250_3 rfl rfl (by decide) ?_
  refine X.calls 9 [zl a1, zl 0, zl 2000000000] [] [(0, zl a1), (2, zl 0), (4, zl 2000000000)] i250_6 (by decide) rfl rfl (by omega) rfl rfl t204 (Nat.le_of_ble_eq_true rfl) (Nat.le_of_ble_eq_true rfl) rfl ?_
  refine X.lload_n 1 i204_0 rfl rfl rfl ?_
  refine X.lload_n 2 i204_1 rfl rfl rfl ?_
  refine X.lcmp 3 i204_2 rfl rfl (fun z501 hz501 => ?_)
  refine X.iflt 17 6 i204_3 rfl rfl rfl (fun h502 => ?_) (fun h502 => ?_)
  · have h502c : a1 < 0 := by omega
    clear h502 hz501
    refine X.cut [] i204_17 rfl ?_
    refine X.iconst 18 i204_17 rfl rfl (by decide) ?_
    refine X.retz i204_18 rfl t204 (by omega) ?_
    show X (EE s) d 250 9 [(0, zr 4 44), (1, zi a1)] [zi 0] m _
    refine X.ifeq 20 12 i250_9 rfl rfl rfl (fun h503 => ?_) (fun h503 => (by exfalso; omega))
    refine X.cut [] i250_20 rfl ?_
    refine X.iconst 21 i250_20 rfl rfl (by decide) ?_
    refine X.reti i250_21 rfl t250 ?_
    exact hQ (-1) (by first | trivial | omega) (Eq.trans (if_pos h502c) rfl) 
  · have h502c : ¬ a1 < 0 := by omega
    clear h502 hz501
    refine X.lload_n 7 i204_6 rfl rfl rfl ?_
    refine X.lload 9 i204_7 rfl rfl rfl ?_
    refine X.lcmp 10 i204_9 rfl rfl (fun z504 hz504 => ?_)
    refine X.ifgt 17 13 i204_10 rfl rfl rfl (fun h505 => ?_) (fun h505 => ?_)
    · have h505c : ¬ a1 ≤ 2000000000 := by omega
      clear h505 hz504
      refine X.cut [] i204_17 rfl ?_
      refine X.iconst 18 i204_17 rfl rfl (by decide) ?_
      refine X.retz i204_18 rfl t204 (by omega) ?_
      show X (EE s) d 250 9 [(0, zr 4 44), (1, zi a1)] [zi 0] m _
      refine X.ifeq 20 12 i250_9 rfl rfl rfl (fun h506 => ?_) (fun h506 => (by exfalso; omega))
      refine X.cut [] i250_20 rfl ?_
      refine X.iconst 21 i250_20 rfl rfl (by decide) ?_
      refine X.reti i250_21 rfl t250 ?_
      exact hQ (-1) (by first | trivial | omega) (Eq.trans (if_neg h502c) (Eq.trans (if_neg h505c) rfl)) 
    · have h505c : a1 ≤ 2000000000 := by omega
      clear h505 hz504
      refine X.iconst 14 i204_13 rfl rfl (by decide) ?_
      refine X.goto 18 i204_14 rfl rfl ?_
      refine X.cut [] i204_18 rfl ?_
      refine X.retz i204_18 rfl t204 (by omega) ?_
      show X (EE s) d 250 9 [(0, zr 4 44), (1, zi a1)] [zi 1] m _
      refine X.ifeq 20 12 i250_9 rfl rfl rfl (fun h507 => (by exfalso; omega)) (fun h507 => ?_)
      refine X.aload_n 13 i250_12 rfl rfl rfl ?_
      refine X.iload_n 14 i250_13 rfl rfl rfl ?_
      refine X.callv 17 [zi a1] [] [(0, zr 4 44), (1, zi a1)] i250_14 rfl (by decide) rfl rfl (by omega) rfl rfl (by decide) rfl t217 (Nat.le_of_ble_eq_true rfl) (Nat.le_of_ble_eq_true rfl) rfl ?_
      refine c217_1 (B := B)  a1 (by omega) (hJ.up (by omega)) (by omega) (by omega) (fun v510 hv510 hFv510 => ?_)
      show X (EE s) d 250 17 [(0, zr 4 44), (1, zi a1)] [zi v510] m _
      refine X.goto 21 i250_17 rfl rfl ?_
      refine X.cut [] i250_21 rfl ?_
      refine X.reti i250_21 rfl t250 ?_
      exact hQ v510 (by first | trivial | omega) (Eq.trans (if_neg h502c) (Eq.trans (if_pos h505c) (Eq.trans (zn_eq hFv510.symm) rfl))) 
-- WorkMeter.tableOf
noncomputable def f149_1 (a1 : Int) (m : zM) : Int :=
  if a1 < 0 then
  ((-1))
  else
  (if 23148 < a1 then
  ((-1))
  else
  (zn (f28_1 0 a1 m) fun v508 =>
  v508))
-- WorkMeter.tableOf
theorem c149_1 {s : Nat × (Nat → Int32)} {S : zS} {m0 m : zM} {B : Int} {d : Nat} {Q : Option zV → zM → Prop} (a1 : Int) (hd : 15 ≤ d) (hJ : J S m0 B m) (hB : B + 0 ≤ 1000000000) (ha1 : (-2147483648) ≤ a1 ∧ a1 ≤ 2147483647) (hQ : ∀ (v : Int), ((-1) ≤ v ∧ v ≤ 7) → f149_1 a1 m = v → Q (some (zi v)) m) : X (EE s) d 149 0 [(0, zr 4 40), (1, zi a1)] [] m Q := by
  refine X.iload_n 1 i149_0 rfl rfl rfl ?_
  refine X.calls 4 [zi a1] [] [(0, zi a1)] i149_1 (by decide) rfl rfl (by omega) rfl rfl t150 (Nat.le_of_ble_eq_true rfl) (Nat.le_of_ble_eq_true rfl) rfl ?_
  refine X.iload_n 1 i150_0 rfl rfl rfl ?_
  refine X.iflt 15 4 i150_1 rfl rfl rfl (fun h501 => ?_) (fun h501 => ?_)
  · refine X.cut [] i150_15 rfl ?_
    refine X.iconst 16 i150_15 rfl rfl (by decide) ?_
    refine X.retz i150_16 rfl t150 (by omega) ?_
    show X (EE s) d 149 4 [(0, zr 4 40), (1, zi a1)] [zi 0] m _
    refine X.ifeq 21 7 i149_4 rfl rfl rfl (fun h502 => ?_) (fun h502 => (by exfalso; omega))
    refine X.cut [] i149_21 rfl ?_
    refine X.iconst 22 i149_21 rfl rfl (by decide) ?_
    refine X.reti i149_22 rfl t149 ?_
    exact hQ (-1) (by first | trivial | omega) (Eq.trans (if_pos h501) rfl) 
  · refine X.iload_n 5 i150_4 rfl rfl rfl ?_
    refine X.sipush 8 i150_5 rfl rfl (by decide) ?_
    refine X.icmpgt 15 11 i150_8 rfl rfl rfl (fun h503 => ?_) (fun h503 => ?_)
    · refine X.cut [] i150_15 rfl ?_
      refine X.iconst 16 i150_15 rfl rfl (by decide) ?_
      refine X.retz i150_16 rfl t150 (by omega) ?_
      show X (EE s) d 149 4 [(0, zr 4 40), (1, zi a1)] [zi 0] m _
      refine X.ifeq 21 7 i149_4 rfl rfl rfl (fun h504 => ?_) (fun h504 => (by exfalso; omega))
      refine X.cut [] i149_21 rfl ?_
      refine X.iconst 22 i149_21 rfl rfl (by decide) ?_
      refine X.reti i149_22 rfl t149 ?_
      exact hQ (-1) (by first | trivial | omega) (Eq.trans (if_neg h501) (Eq.trans (if_pos h503) rfl)) 
    · refine X.iconst 12 i150_11 rfl rfl (by decide) ?_
      refine X.goto 16 i150_12 rfl rfl ?_
      refine X.cut [] i150_16 rfl ?_
      refine X.retz i150_16 rfl t150 (by omega) ?_
      show X (EE s) d 149 4 [(0, zr 4 40), (1, zi a1)] [zi 1] m _
      refine X.ifeq 21 7 i149_4 rfl rfl rfl (fun h505 => (by exfalso; omega)) (fun h505 => ?_)
      refine X.aload_n 8 i149_7 rfl rfl rfl ?_
      refine X.getF 11 i149_8 rfl rfl (by decide) rfl rfl ?_
      refine X.getR 14 i149_11 rfl rfl (by decide) rfl rfl ?_
      refine X.iload_n 15 i149_14 rfl rfl rfl ?_
      refine X.callv 18 [zi a1] [] [(0, zr 0 11), (1, zi a1)] i149_15 rfl (by decide) rfl rfl (by omega) rfl rfl (by decide) rfl t28 (Nat.le_of_ble_eq_true rfl) (Nat.le_of_ble_eq_true rfl) rfl ?_
      refine c28_1 (B := B) 0 a1 (by omega) (hJ.up (by omega)) (by omega) (by omega) (fun v508 hv508 hFv508 => ?_)
      show X (EE s) d 149 18 [(0, zr 4 40), (1, zi a1)] [zi v508] m _
      refine X.goto 22 i149_18 rfl rfl ?_
      refine X.cut [] i149_22 rfl ?_
      refine X.reti i149_22 rfl t149 ?_
      exact hQ v508 (by first | trivial | omega) (Eq.trans (if_neg h501) (Eq.trans (if_neg h503) (Eq.trans (zn_eq hFv508.symm) rfl))) 
-- WorkMeterModel.tableOf
noncomputable def f251_1 (a1 : Int) (m : zM) : Int :=
  if a1 < 0 then
  ((-1))
  else
  (if a1 ≤ 23148 then
  (zn (f218_1 a1 m) fun v510 =>
  v510)
  else
  ((-1)))
-- WorkMeterModel.tableOf
theorem c251_1 {s : Nat × (Nat → Int32)} {S : zS} {m0 m : zM} {B : Int} {d : Nat} {Q : Option zV → zM → Prop} (a1 : Int) (hd : 15 ≤ d) (hJ : J S m0 B m) (hB : B + 0 ≤ 1000000000) (ha1 : (-2147483648) ≤ a1 ∧ a1 ≤ 2147483647) (hQ : ∀ (v : Int), ((-1) ≤ v ∧ v ≤ 7) → f251_1 a1 m = v → Q (some (zi v)) m) : X (EE s) d 251 0 [(0, zr 4 44), (1, zi a1)] [] m Q := by
  refine X.iload_n 1 i251_0 rfl rfl rfl ?_
  refine X.i2l 2 i251_1 rfl rfl ?_
  refine X.lconst (y := 0) 3 i251_2 rfl rfl rfl ?_
  refine X.ldc2 6 i251_3 rfl rfl (by decide) ?_
  refine X.calls 9 [zl a1, zl 0, zl 23148] [] [(0, zl a1), (2, zl 0), (4, zl 23148)] i251_6 (by decide) rfl rfl (by omega) rfl rfl t204 (Nat.le_of_ble_eq_true rfl) (Nat.le_of_ble_eq_true rfl) rfl ?_
  refine X.lload_n 1 i204_0 rfl rfl rfl ?_
  refine X.lload_n 2 i204_1 rfl rfl rfl ?_
  refine X.lcmp 3 i204_2 rfl rfl (fun z501 hz501 => ?_)
  refine X.iflt 17 6 i204_3 rfl rfl rfl (fun h502 => ?_) (fun h502 => ?_)
  · have h502c : a1 < 0 := by omega
    clear h502 hz501
    refine X.cut [] i204_17 rfl ?_
    refine X.iconst 18 i204_17 rfl rfl (by decide) ?_
    refine X.retz i204_18 rfl t204 (by omega) ?_
    show X (EE s) d 251 9 [(0, zr 4 44), (1, zi a1)] [zi 0] m _
    refine X.ifeq 20 12 i251_9 rfl rfl rfl (fun h503 => ?_) (fun h503 => (by exfalso; omega))
    refine X.cut [] i251_20 rfl ?_
    refine X.iconst 21 i251_20 rfl rfl (by decide) ?_
    refine X.reti i251_21 rfl t251 ?_
    exact hQ (-1) (by first | trivial | omega) (Eq.trans (if_pos h502c) rfl) 
  · have h502c : ¬ a1 < 0 := by omega
    clear h502 hz501
    refine X.lload_n 7 i204_6 rfl rfl rfl ?_
    refine X.lload 9 i204_7 rfl rfl rfl ?_
    refine X.lcmp 10 i204_9 rfl rfl (fun z504 hz504 => ?_)
    refine X.ifgt 17 13 i204_10 rfl rfl rfl (fun h505 => ?_) (fun h505 => ?_)
    · have h505c : ¬ a1 ≤ 23148 := by omega
      clear h505 hz504
      refine X.cut [] i204_17 rfl ?_
      refine X.iconst 18 i204_17 rfl rfl (by decide) ?_
      refine X.retz i204_18 rfl t204 (by omega) ?_
      show X (EE s) d 251 9 [(0, zr 4 44), (1, zi a1)] [zi 0] m _
      refine X.ifeq 20 12 i251_9 rfl rfl rfl (fun h506 => ?_) (fun h506 => (by exfalso; omega))
      refine X.cut [] i251_20 rfl ?_
      refine X.iconst 21 i251_20 rfl rfl (by decide) ?_
      refine X.reti i251_21 rfl t251 ?_
      exact hQ (-1) (by first | trivial | omega) (Eq.trans (if_neg h502c) (Eq.trans (if_neg h505c) rfl)) 
    · have h505c : a1 ≤ 23148 := by omega
      clear h505 hz504
      refine X.iconst 14 i204_13 rfl rfl (by decide) ?_
      refine X.goto 18 i204_14 rfl rfl ?_
      refine X.cut [] i204_18 rfl ?_
      refine X.retz i204_18 rfl t204 (by omega) ?_
      show X (EE s) d 251 9 [(0, zr 4 44), (1, zi a1)] [zi 1] m _
      refine X.ifeq 20 12 i251_9 rfl rfl rfl (fun h507 => (by exfalso; omega)) (fun h507 => ?_)
      refine X.aload_n 13 i251_12 rfl rfl rfl ?_
      refine X.iload_n 14 i251_13 rfl rfl rfl ?_
      refine X.callv 17 [zi a1] [] [(0, zr 4 44), (1, zi a1)] i251_14 rfl (by decide) rfl rfl (by omega) rfl rfl (by decide) rfl t218 (Nat.le_of_ble_eq_true rfl) (Nat.le_of_ble_eq_true rfl) rfl ?_
      refine c218_1 (B := B)  a1 (by omega) (hJ.up (by omega)) (by omega) (by omega) (fun v510 hv510 hFv510 => ?_)
      show X (EE s) d 251 17 [(0, zr 4 44), (1, zi a1)] [zi v510] m _
      refine X.goto 21 i251_17 rfl rfl ?_
      refine X.cut [] i251_21 rfl ?_
      refine X.reti i251_21 rfl t251 ?_
      exact hQ v510 (by first | trivial | omega) (Eq.trans (if_neg h502c) (Eq.trans (if_pos h505c) (Eq.trans (zn_eq hFv510.symm) rfl))) 
-- WorkMeter.switching
noncomputable def f151_1 (a1 a2 a3 : Int) (m : zM) : Int :=
  if a1 < 0 then
  ((-1))
  else
  (if 8 ≤ a1 then
  ((-1))
  else
  (if a2 = (-1) then
  ((m 0 12 a1))
  else
  (if a2 < 0 then
  ((-1))
  else
  (if (m 0 12 a1) ≤ a2 then
  ((-1))
  else
  (if a3 < 0 then
  ((-1))
  else
  (if a3 ≤ 1 then
  (zn (if a3 = 0 then
  ((m 0 13 ((a1 * 6) + a2)))
  else
  ((m 0 14 ((a1 * 6) + a2)))) fun v515 =>
  v515)
  else
  ((-1))))))))
end
section
-- WorkMeter.switching
theorem c151_1 {s : Nat × (Nat → Int32)} {S : zS} {m0 m : zM} {B : Int} {d : Nat} {Q : Option zV → zM → Prop} (a1 a2 a3 : Int) (hd : 13 ≤ d) (hJ : J S m0 B m) (hB : B + 0 ≤ 1000000000) (ha1 : (-2147483648) ≤ a1 ∧ a1 ≤ 2147483647) (ha2 : (-2147483648) ≤ a2 ∧ a2 ≤ 2147483647) (ha3 : (-2147483648) ≤ a3 ∧ a3 ≤ 2147483647) (hQ : ∀ (v : Int), ((-1) ≤ v ∧ v ≤ 86399) → f151_1 a1 a2 a3 m = v → Q (some (zi v)) m) : X (EE s) d 151 0 [(0, zr 4 40), (1, zi a1), (2, zi a2), (3, zi a3)] [] m Q := by
  refine X.iload_n 1 i151_0 rfl rfl rfl ?_
  refine X.calls 4 [zi a1] [] [(0, zi a1)] i151_1 (by decide) rfl rfl (by omega) rfl rfl t79 (Nat.le_of_ble_eq_true rfl) (Nat.le_of_ble_eq_true rfl) rfl ?_
  refine X.iload_n 1 i79_0 rfl rfl rfl ?_
  refine X.iflt 14 4 i79_1 rfl rfl rfl (fun h501 => ?_) (fun h501 => ?_)
  · refine X.cut [] i79_14 rfl ?_
    refine X.iconst 15 i79_14 rfl rfl (by decide) ?_
    refine X.retz i79_15 rfl t79 (by omega) ?_
    show X (EE s) d 151 4 [(0, zr 4 40), (1, zi a1), (2, zi a2), (3, zi a3)] [zi 0] m _
    refine X.ifne 9 7 i151_4 rfl rfl rfl (fun h502 => (by exfalso; omega)) (fun h502 => ?_)
    refine X.iconst 8 i151_7 rfl rfl (by decide) ?_
    refine X.reti i151_8 rfl t151 ?_
    exact hQ (-1) (by first | trivial | omega) (Eq.trans (if_pos h501) rfl) 
  · refine X.iload_n 5 i79_4 rfl rfl rfl ?_
    refine X.bipush 7 i79_5 rfl rfl (by decide) ?_
    refine X.icmpge 14 10 i79_7 rfl rfl rfl (fun h503 => ?_) (fun h503 => ?_)
    · refine X.cut [] i79_14 rfl ?_
      refine X.iconst 15 i79_14 rfl rfl (by decide) ?_
      refine X.retz i79_15 rfl t79 (by omega) ?_
      show X (EE s) d 151 4 [(0, zr 4 40), (1, zi a1), (2, zi a2), (3, zi a3)] [zi 0] m _
      refine X.ifne 9 7 i151_4 rfl rfl rfl (fun h504 => (by exfalso; omega)) (fun h504 => ?_)
      refine X.iconst 8 i151_7 rfl rfl (by decide) ?_
      refine X.reti i151_8 rfl t151 ?_
      exact hQ (-1) (by first | trivial | omega) (Eq.trans (if_neg h501) (Eq.trans (if_pos h503) rfl)) 
    · refine X.iconst 11 i79_10 rfl rfl (by decide) ?_
      refine X.goto 15 i79_11 rfl rfl ?_
      refine X.cut [] i79_15 rfl ?_
      refine X.retz i79_15 rfl t79 (by omega) ?_
      show X (EE s) d 151 4 [(0, zr 4 40), (1, zi a1), (2, zi a2), (3, zi a3)] [zi 1] m _
      refine X.ifne 9 7 i151_4 rfl rfl rfl (fun h505 => ?_) (fun h505 => (by exfalso; omega))
      refine X.aload_n 10 i151_9 rfl rfl rfl ?_
      refine X.getF 13 i151_10 rfl rfl (by decide) rfl rfl ?_
      refine X.getR 16 i151_13 rfl rfl (by decide) rfl rfl ?_
      refine X.getR 19 i151_16 rfl rfl (by decide) rfl rfl ?_
      refine X.iload_n 20 i151_19 rfl rfl rfl ?_
      refine X.iald 21 i151_20 rfl rfl (by decide) rfl (by omega) ?_
      have h506 := r12_0 hJ 0 (i := a1) (by omega)
      refine X.istore 23 [(0, zr 4 40), (1, zi a1), (2, zi a2), (3, zi a3), (4, zi (m 0 12 a1))] i151_21 rfl rfl rfl ?_
      refine X.iload_n 24 i151_23 rfl rfl rfl ?_
      refine X.iconst 25 i151_24 rfl rfl (by decide) ?_
      refine X.icmpne 31 28 i151_25 rfl rfl rfl (fun h507 => ?_) (fun h507 => ?_)
      · refine X.iload_n 32 i151_31 rfl rfl rfl ?_
        refine X.iflt 50 35 i151_32 rfl rfl rfl (fun h508 => ?_) (fun h508 => ?_)
        · refine X.cut [] i151_50 rfl ?_
          refine X.iconst 51 i151_50 rfl rfl (by decide) ?_
          refine X.reti i151_51 rfl t151 ?_
          exact hQ (-1) (by first | trivial | omega) (Eq.trans (if_neg h501) (Eq.trans (if_neg h503) (Eq.trans (if_neg h507) (Eq.trans (if_pos h508) rfl)))) 
        · refine X.iload_n 36 i151_35 rfl rfl rfl ?_
          refine X.iload 38 i151_36 rfl rfl rfl ?_
          refine X.icmpge 50 41 i151_38 rfl rfl rfl (fun h509 => ?_) (fun h509 => ?_)
          · refine X.cut [] i151_50 rfl ?_
            refine X.iconst 51 i151_50 rfl rfl (by decide) ?_
            refine X.reti i151_51 rfl t151 ?_
            exact hQ (-1) (by first | trivial | omega) (Eq.trans (if_neg h501) (Eq.trans (if_neg h503) (Eq.trans (if_neg h507) (Eq.trans (if_neg h508) (Eq.trans (if_pos h509) rfl))))) 
          · refine X.iload_n 42 i151_41 rfl rfl rfl ?_
            refine X.iflt 50 45 i151_42 rfl rfl rfl (fun h510 => ?_) (fun h510 => ?_)
            · refine X.cut [] i151_50 rfl ?_
              refine X.iconst 51 i151_50 rfl rfl (by decide) ?_
              refine X.reti i151_51 rfl t151 ?_
              exact hQ (-1) (by first | trivial | omega) (Eq.trans (if_neg h501) (Eq.trans (if_neg h503) (Eq.trans (if_neg h507) (Eq.trans (if_neg h508) (Eq.trans (if_neg h509) (Eq.trans (if_pos h510) rfl)))))) 
            · refine X.iload_n 46 i151_45 rfl rfl rfl ?_
              refine X.iconst 47 i151_46 rfl rfl (by decide) ?_
              refine X.icmple 52 50 i151_47 rfl rfl rfl (fun h511 => ?_) (fun h511 => ?_)
              · refine X.cut [(0, zr 4 40), (1, zi a1), (2, zi a2), (3, zi a3)] i151_52 rfl ?_
                refine X.iload_n 53 i151_52 rfl rfl rfl ?_
                refine X.bipush 55 i151_53 rfl rfl (by decide) ?_
                refine X.imul 56 i151_55 rfl rfl (by omega) ?_
                refine X.iload_n 57 i151_56 rfl rfl rfl ?_
                refine X.iadd 58 i151_57 rfl rfl (by omega) ?_
                refine X.istore 60 [(0, zr 4 40), (1, zi a1), (2, zi a2), (3, zi a3), (5, zi ((a1 * 6) + a2))] i151_58 rfl rfl rfl ?_
                refine X.iload_n 61 i151_60 rfl rfl rfl ?_
                have hK518 : ∀ (v : Int) , (0 ≤ v ∧ v ≤ 86399) → (if a3 = 0 then
                    ((m 0 13 ((a1 * 6) + a2)))
                    else
                    ((m 0 14 ((a1 * 6) + a2)))) = v → X (EE s) d 151 93 [] [zi v] m Q := by
                  intro v515 hv515 hT519
                  refine X.reti i151_93 rfl t151 ?_
                  exact hQ v515 (by first | trivial | omega) (Eq.trans (if_neg h501) (Eq.trans (if_neg h503) (Eq.trans (if_neg h507) (Eq.trans (if_neg h508) (Eq.trans (if_neg h509) (Eq.trans (if_neg h510) (Eq.trans (if_pos h511) (Eq.trans (zn_eq hT519.symm) rfl)))))))) 
                refine X.ifne 80 64 i151_61 rfl rfl rfl (fun h512 => ?_) (fun h512 => ?_)
                · refine X.cut [(0, zr 4 40), (5, zi ((a1 * 6) + a2))] i151_80 rfl ?_
                  refine X.aload_n 81 i151_80 rfl rfl rfl ?_
                  refine X.getF 84 i151_81 rfl rfl (by decide) rfl rfl ?_
                  refine X.getR 87 i151_84 rfl rfl (by decide) rfl rfl ?_
                  refine X.getR 90 i151_87 rfl rfl (by decide) rfl rfl ?_
                  refine X.iload 92 i151_90 rfl rfl rfl ?_
                  refine X.iald 93 i151_92 rfl rfl (by decide) rfl (by omega) ?_
                  have h513 := r14_0 hJ 0 (i := ((a1 * 6) + a2)) (by omega)
                  refine X.cut [] i151_93 rfl ?_
                  exact hK518 (m 0 14 ((a1 * 6) + a2)) (by first | trivial | omega) (Eq.trans (if_neg h512) rfl)
                · refine X.aload_n 65 i151_64 rfl rfl rfl ?_
                  refine X.getF 68 i151_65 rfl rfl (by decide) rfl rfl ?_
                  refine X.getR 71 i151_68 rfl rfl (by decide) rfl rfl ?_
                  refine X.getR 74 i151_71 rfl rfl (by decide) rfl rfl ?_
                  refine X.iload 76 i151_74 rfl rfl rfl ?_
                  refine X.iald 77 i151_76 rfl rfl (by decide) rfl (by omega) ?_
                  have h514 := r13_0 hJ 0 (i := ((a1 * 6) + a2)) (by omega)
                  refine X.goto 93 i151_77 rfl rfl ?_
                  refine X.cut [] i151_93 rfl ?_
                  exact hK518 (m 0 13 ((a1 * 6) + a2)) (by first | trivial | omega) (Eq.trans (if_pos h512) rfl)
              · refine X.cut [] i151_50 rfl ?_
                refine X.iconst 51 i151_50 rfl rfl (by decide) ?_
                refine X.reti i151_51 rfl t151 ?_
                exact hQ (-1) (by first | trivial | omega) (Eq.trans (if_neg h501) (Eq.trans (if_neg h503) (Eq.trans (if_neg h507) (Eq.trans (if_neg h508) (Eq.trans (if_neg h509) (Eq.trans (if_neg h510) (Eq.trans (if_neg h511) rfl))))))) 
      · refine X.iload 30 i151_28 rfl rfl rfl ?_
        refine X.reti i151_30 rfl t151 ?_
        exact hQ (m 0 12 a1) (by first | trivial | omega) (Eq.trans (if_neg h501) (Eq.trans (if_neg h503) (Eq.trans (if_pos h507) rfl))) 
-- WorkMeterModel.switching
noncomputable def f252_1 (a1 a2 a3 : Int) (m : zM) : Int :=
  if a1 < 0 then
  ((-1))
  else
  (if a1 ≤ 7 then
  (if a2 = (-1) then
  ((m 4 45 (287 + a1)))
  else
  (if a2 < 0 then
  ((-1))
  else
  (if a2 ≤ ((m 4 45 (287 + a1)) - 1) then
  (if a3 < 0 then
  ((-1))
  else
  (if a3 ≤ 1 then
  (if a3 = 0 then
  ((m 4 45 ((295 + (6 * a1)) + a2)))
  else
  ((m 4 45 ((343 + (6 * a1)) + a2))))
  else
  ((-1))))
  else
  ((-1)))))
  else
  ((-1)))
-- WorkMeterModel.switching
theorem c252_1 {s : Nat × (Nat → Int32)} {S : zS} {m0 m : zM} {B : Int} {d : Nat} {Q : Option zV → zM → Prop} (a1 a2 a3 : Int) (hd : 13 ≤ d) (hJ : J S m0 B m) (hB : B + 0 ≤ 1000000000) (ha1 : (-2147483648) ≤ a1 ∧ a1 ≤ 2147483647) (ha2 : (-2147483648) ≤ a2 ∧ a2 ≤ 2147483647) (ha3 : (-2147483648) ≤ a3 ∧ a3 ≤ 2147483647) (hQ : ∀ (v : Int), ((-1) ≤ v ∧ v ≤ 86399) → f252_1 a1 a2 a3 m = v → Q (some (zi v)) m) : X (EE s) d 252 0 [(0, zr 4 44), (1, zi a1), (2, zi a2), (3, zi a3)] [] m Q := by
  refine X.iload_n 1 i252_0 rfl rfl rfl ?_
  refine X.calls 4 [zi a1] [] [(0, zi a1)] i252_1 (by decide) rfl rfl (by omega) rfl rfl t241 (Nat.le_of_ble_eq_true rfl) (Nat.le_of_ble_eq_true rfl) rfl ?_
  refine X.iload_n 1 i241_0 rfl rfl rfl ?_
  refine X.i2l 2 i241_1 rfl rfl ?_
  refine X.lconst (y := 0) 3 i241_2 rfl rfl rfl ?_
  refine X.ldc2 6 i241_3 rfl rfl (by decide) ?_
  refine X.calls 9 [zl a1, zl 0, zl 7] [] [(0, zl a1), (2, zl 0), (4, zl 7)] i241_6 (by decide) rfl rfl (by omega) rfl rfl t204 (Nat.le_of_ble_eq_true rfl) (Nat.le_of_ble_eq_true rfl) rfl ?_
  refine X.lload_n 1 i204_0 rfl rfl rfl ?_
  refine X.lload_n 2 i204_1 rfl rfl rfl ?_
  refine X.lcmp 3 i204_2 rfl rfl (fun z501 hz501 => ?_)
  refine X.iflt 17 6 i204_3 rfl rfl rfl (fun h502 => ?_) (fun h502 => ?_)
  · have h502c : a1 < 0 := by omega
    clear h502 hz501
    refine X.cut [] i204_17 rfl ?_
    refine X.iconst 18 i204_17 rfl rfl (by decide) ?_
    refine X.retz i204_18 rfl t204 (by omega) ?_
    show X (EE s) (d - 1) 241 9 [(0, zi a1)] [zi 0] m _
    refine X.retz i241_9 rfl t241 (by omega) ?_
    show X (EE s) d 252 4 [(0, zr 4 44), (1, zi a1), (2, zi a2), (3, zi a3)] [zi 0] m _
    refine X.ifne 9 7 i252_4 rfl rfl rfl (fun h503 => (by exfalso; omega)) (fun h503 => ?_)
    refine X.iconst 8 i252_7 rfl rfl (by decide) ?_
    refine X.reti i252_8 rfl t252 ?_
    exact hQ (-1) (by first | trivial | omega) (Eq.trans (if_pos h502c) rfl) 
  · have h502c : ¬ a1 < 0 := by omega
    clear h502 hz501
    refine X.lload_n 7 i204_6 rfl rfl rfl ?_
    refine X.lload 9 i204_7 rfl rfl rfl ?_
    refine X.lcmp 10 i204_9 rfl rfl (fun z504 hz504 => ?_)
    refine X.ifgt 17 13 i204_10 rfl rfl rfl (fun h505 => ?_) (fun h505 => ?_)
    · have h505c : ¬ a1 ≤ 7 := by omega
      clear h505 hz504
      refine X.cut [] i204_17 rfl ?_
      refine X.iconst 18 i204_17 rfl rfl (by decide) ?_
      refine X.retz i204_18 rfl t204 (by omega) ?_
      show X (EE s) (d - 1) 241 9 [(0, zi a1)] [zi 0] m _
      refine X.retz i241_9 rfl t241 (by omega) ?_
      show X (EE s) d 252 4 [(0, zr 4 44), (1, zi a1), (2, zi a2), (3, zi a3)] [zi 0] m _
      refine X.ifne 9 7 i252_4 rfl rfl rfl (fun h506 => (by exfalso; omega)) (fun h506 => ?_)
      refine X.iconst 8 i252_7 rfl rfl (by decide) ?_
      refine X.reti i252_8 rfl t252 ?_
      exact hQ (-1) (by first | trivial | omega) (Eq.trans (if_neg h502c) (Eq.trans (if_neg h505c) rfl)) 
    · have h505c : a1 ≤ 7 := by omega
      clear h505 hz504
      refine X.iconst 14 i204_13 rfl rfl (by decide) ?_
      refine X.goto 18 i204_14 rfl rfl ?_
      refine X.cut [] i204_18 rfl ?_
      refine X.retz i204_18 rfl t204 (by omega) ?_
      show X (EE s) (d - 1) 241 9 [(0, zi a1)] [zi 1] m _
      refine X.retz i241_9 rfl t241 (by omega) ?_
      show X (EE s) d 252 4 [(0, zr 4 44), (1, zi a1), (2, zi a2), (3, zi a3)] [zi 1] m _
      refine X.ifne 9 7 i252_4 rfl rfl rfl (fun h507 => ?_) (fun h507 => (by exfalso; omega))
      refine X.iload_n 10 i252_9 rfl rfl rfl ?_
      refine X.iconst 11 i252_10 rfl rfl (by decide) ?_
      refine X.icmpne 26 14 i252_11 rfl rfl rfl (fun h508 => ?_) (fun h508 => ?_)
      · refine X.iload_n 27 i252_26 rfl rfl rfl ?_
        refine X.i2l 28 i252_27 rfl rfl ?_
        refine X.lconst (y := 0) 29 i252_28 rfl rfl rfl ?_
        refine X.aload_n 30 i252_29 rfl rfl rfl ?_
        refine X.getF 33 i252_30 rfl rfl (by decide) rfl rfl ?_
        refine X.sipush 36 i252_33 rfl rfl (by decide) ?_
        refine X.iload_n 37 i252_36 rfl rfl rfl ?_
        refine X.iadd 38 i252_37 rfl rfl (by omega) ?_
        refine X.lald 39 i252_38 rfl rfl (by decide) rfl (by omega) ?_
        have h509 := r45_287 hJ 4 (i := (287 + a1)) (by omega)
        refine X.lconst (y := 1) 40 i252_39 rfl rfl rfl ?_
        refine X.lsub 41 i252_40 rfl rfl (by omega) ?_
        refine X.calls 44 [zl a2, zl 0, zl ((m 4 45 (287 + a1)) - 1)] [] [(0, zl a2), (2, zl 0), (4, zl ((m 4 45 (287 + a1)) - 1))] i252_41 (by decide) rfl rfl (by omega) rfl rfl t204 (Nat.le_of_ble_eq_true rfl) (Nat.le_of_ble_eq_true rfl) rfl ?_
        refine X.lload_n 1 i204_0 rfl rfl rfl ?_
        refine X.lload_n 2 i204_1 rfl rfl rfl ?_
        refine X.lcmp 3 i204_2 rfl rfl (fun z510 hz510 => ?_)
        refine X.iflt 17 6 i204_3 rfl rfl rfl (fun h511 => ?_) (fun h511 => ?_)
        · have h511c : a2 < 0 := by omega
          clear h511 hz510
          refine X.cut [] i204_17 rfl ?_
          refine X.iconst 18 i204_17 rfl rfl (by decide) ?_
          refine X.retz i204_18 rfl t204 (by omega) ?_
          show X (EE s) d 252 44 [(0, zr 4 44), (1, zi a1), (2, zi a2), (3, zi a3)] [zi 0] m _
          refine X.ifeq 57 47 i252_44 rfl rfl rfl (fun h512 => ?_) (fun h512 => (by exfalso; omega))
          refine X.cut [] i252_57 rfl ?_
          refine X.iconst 58 i252_57 rfl rfl (by decide) ?_
          refine X.reti i252_58 rfl t252 ?_
          exact hQ (-1) (by first | trivial | omega) (Eq.trans (if_neg h502c) (Eq.trans (if_pos h505c) (Eq.trans (if_neg h508) (Eq.trans (if_pos h511c) rfl)))) 
        · have h511c : ¬ a2 < 0 := by omega
          clear h511 hz510
          refine X.lload_n 7 i204_6 rfl rfl rfl ?_
          refine X.lload 9 i204_7 rfl rfl rfl ?_
          refine X.lcmp 10 i204_9 rfl rfl (fun z513 hz513 => ?_)
          refine X.ifgt 17 13 i204_10 rfl rfl rfl (fun h514 => ?_) (fun h514 => ?_)
          · have h514c : ¬ a2 ≤ ((m 4 45 (287 + a1)) - 1) := by omega
            clear h514 hz513
            refine X.cut [] i204_17 rfl ?_
            refine X.iconst 18 i204_17 rfl rfl (by decide) ?_
            refine X.retz i204_18 rfl t204 (by omega) ?_
            show X (EE s) d 252 44 [(0, zr 4 44), (1, zi a1), (2, zi a2), (3, zi a3)] [zi 0] m _
            refine X.ifeq 57 47 i252_44 rfl rfl rfl (fun h515 => ?_) (fun h515 => (by exfalso; omega))
            refine X.cut [] i252_57 rfl ?_
            refine X.iconst 58 i252_57 rfl rfl (by decide) ?_
            refine X.reti i252_58 rfl t252 ?_
            exact hQ (-1) (by first | trivial | omega) (Eq.trans (if_neg h502c) (Eq.trans (if_pos h505c) (Eq.trans (if_neg h508) (Eq.trans (if_neg h511c) (Eq.trans (if_neg h514c) rfl))))) 
          · have h514c : a2 ≤ ((m 4 45 (287 + a1)) - 1) := by omega
            clear h514 hz513
            refine X.iconst 14 i204_13 rfl rfl (by decide) ?_
            refine X.goto 18 i204_14 rfl rfl ?_
            refine X.cut [] i204_18 rfl ?_
            refine X.retz i204_18 rfl t204 (by omega) ?_
            show X (EE s) d 252 44 [(0, zr 4 44), (1, zi a1), (2, zi a2), (3, zi a3)] [zi 1] m _
            refine X.ifeq 57 47 i252_44 rfl rfl rfl (fun h516 => (by exfalso; omega)) (fun h516 => ?_)
            refine X.iload_n 48 i252_47 rfl rfl rfl ?_
            refine X.i2l 49 i252_48 rfl rfl ?_
            refine X.lconst (y := 0) 50 i252_49 rfl rfl rfl ?_
            refine X.lconst (y := 1) 51 i252_50 rfl rfl rfl ?_
            refine X.calls 54 [zl a3, zl 0, zl 1] [] [(0, zl a3), (2, zl 0), (4, zl 1)] i252_51 (by decide) rfl rfl (by omega) rfl rfl t204 (Nat.le_of_ble_eq_true rfl) (Nat.le_of_ble_eq_true rfl) rfl ?_
            refine X.lload_n 1 i204_0 rfl rfl rfl ?_
            refine X.lload_n 2 i204_1 rfl rfl rfl ?_
            refine X.lcmp 3 i204_2 rfl rfl (fun z517 hz517 => ?_)
            refine X.iflt 17 6 i204_3 rfl rfl rfl (fun h518 => ?_) (fun h518 => ?_)
            · have h518c : a3 < 0 := by omega
              clear h518 hz517
              refine X.cut [] i204_17 rfl ?_
              refine X.iconst 18 i204_17 rfl rfl (by decide) ?_
              refine X.retz i204_18 rfl t204 (by omega) ?_
              show X (EE s) d 252 54 [(0, zr 4 44), (1, zi a1), (2, zi a2), (3, zi a3)] [zi 0] m _
              refine X.ifne 59 57 i252_54 rfl rfl rfl (fun h519 => (by exfalso; omega)) (fun h519 => ?_)
              refine X.cut [] i252_57 rfl ?_
              refine X.iconst 58 i252_57 rfl rfl (by decide) ?_
              refine X.reti i252_58 rfl t252 ?_
              exact hQ (-1) (by first | trivial | omega) (Eq.trans (if_neg h502c) (Eq.trans (if_pos h505c) (Eq.trans (if_neg h508) (Eq.trans (if_neg h511c) (Eq.trans (if_pos h514c) (Eq.trans (if_pos h518c) rfl)))))) 
            · have h518c : ¬ a3 < 0 := by omega
              clear h518 hz517
              refine X.lload_n 7 i204_6 rfl rfl rfl ?_
              refine X.lload 9 i204_7 rfl rfl rfl ?_
              refine X.lcmp 10 i204_9 rfl rfl (fun z520 hz520 => ?_)
              refine X.ifgt 17 13 i204_10 rfl rfl rfl (fun h521 => ?_) (fun h521 => ?_)
              · have h521c : ¬ a3 ≤ 1 := by omega
                clear h521 hz520
                refine X.cut [] i204_17 rfl ?_
                refine X.iconst 18 i204_17 rfl rfl (by decide) ?_
                refine X.retz i204_18 rfl t204 (by omega) ?_
                show X (EE s) d 252 54 [(0, zr 4 44), (1, zi a1), (2, zi a2), (3, zi a3)] [zi 0] m _
                refine X.ifne 59 57 i252_54 rfl rfl rfl (fun h522 => (by exfalso; omega)) (fun h522 => ?_)
                refine X.cut [] i252_57 rfl ?_
                refine X.iconst 58 i252_57 rfl rfl (by decide) ?_
                refine X.reti i252_58 rfl t252 ?_
                exact hQ (-1) (by first | trivial | omega) (Eq.trans (if_neg h502c) (Eq.trans (if_pos h505c) (Eq.trans (if_neg h508) (Eq.trans (if_neg h511c) (Eq.trans (if_pos h514c) (Eq.trans (if_neg h518c) (Eq.trans (if_neg h521c) rfl))))))) 
              · have h521c : a3 ≤ 1 := by omega
                clear h521 hz520
                refine X.iconst 14 i204_13 rfl rfl (by decide) ?_
                refine X.goto 18 i204_14 rfl rfl ?_
                refine X.cut [] i204_18 rfl ?_
                refine X.retz i204_18 rfl t204 (by omega) ?_
                show X (EE s) d 252 54 [(0, zr 4 44), (1, zi a1), (2, zi a2), (3, zi a3)] [zi 1] m _
                refine X.ifne 59 57 i252_54 rfl rfl rfl (fun h523 => ?_) (fun h523 => (by exfalso; omega))
                refine X.aload_n 60 i252_59 rfl rfl rfl ?_
                refine X.getF 63 i252_60 rfl rfl (by decide) rfl rfl ?_
                refine X.iload_n 64 i252_63 rfl rfl rfl ?_
                refine X.ifne 73 67 i252_64 rfl rfl rfl (fun h524 => ?_) (fun h524 => ?_)
                · refine X.cut [(1, zi a1), (2, zi a2)] i252_73 rfl ?_
                  refine X.sipush 76 i252_73 rfl rfl (by decide) ?_
                  refine X.bipush 78 i252_76 rfl rfl (by decide) ?_
                  refine X.iload_n 79 i252_78 rfl rfl rfl ?_
                  refine X.imul 80 i252_79 rfl rfl (by omega) ?_
                  refine X.iadd 81 i252_80 rfl rfl (by omega) ?_
                  refine X.iload_n 82 i252_81 rfl rfl rfl ?_
                  refine X.iadd 83 i252_82 rfl rfl (by omega) ?_
                  refine X.lald 84 i252_83 rfl rfl (by decide) rfl (by omega) ?_
                  have h525 := r45_343 hJ 4 (i := ((343 + (6 * a1)) + a2)) (by omega)
                  refine X.l2i 85 i252_84 rfl rfl (by omega) ?_
                  refine X.reti i252_85 rfl t252 ?_
                  exact hQ (m 4 45 ((343 + (6 * a1)) + a2)) (by first | trivial | omega) (Eq.trans (if_neg h502c) (Eq.trans (if_pos h505c) (Eq.trans (if_neg h508) (Eq.trans (if_neg h511c) (Eq.trans (if_pos h514c) (Eq.trans (if_neg h518c) (Eq.trans (if_pos h521c) (Eq.trans (if_neg h524) rfl)))))))) 
                · refine X.sipush 70 i252_67 rfl rfl (by decide) ?_
                  refine X.goto 76 i252_70 rfl rfl ?_
                  refine X.cut [(1, zi a1), (2, zi a2)] i252_76 rfl ?_
                  refine X.bipush 78 i252_76 rfl rfl (by decide) ?_
                  refine X.iload_n 79 i252_78 rfl rfl rfl ?_
                  refine X.imul 80 i252_79 rfl rfl (by omega) ?_
                  refine X.iadd 81 i252_80 rfl rfl (by omega) ?_
                  refine X.iload_n 82 i252_81 rfl rfl rfl ?_
                  refine X.iadd 83 i252_82 rfl rfl (by omega) ?_
                  refine X.lald 84 i252_83 rfl rfl (by decide) rfl (by omega) ?_
                  have h526 := r45_295 hJ 4 (i := ((295 + (6 * a1)) + a2)) (by omega)
                  refine X.l2i 85 i252_84 rfl rfl (by omega) ?_
                  refine X.reti i252_85 rfl t252 ?_
                  exact hQ (m 4 45 ((295 + (6 * a1)) + a2)) (by first | trivial | omega) (Eq.trans (if_neg h502c) (Eq.trans (if_pos h505c) (Eq.trans (if_neg h508) (Eq.trans (if_neg h511c) (Eq.trans (if_pos h514c) (Eq.trans (if_neg h518c) (Eq.trans (if_pos h521c) (Eq.trans (if_pos h524) rfl)))))))) 
      · refine X.aload_n 15 i252_14 rfl rfl rfl ?_
        refine X.getF 18 i252_15 rfl rfl (by decide) rfl rfl ?_
        refine X.sipush 21 i252_18 rfl rfl (by decide) ?_
        refine X.iload_n 22 i252_21 rfl rfl rfl ?_
        refine X.iadd 23 i252_22 rfl rfl (by omega) ?_
        refine X.lald 24 i252_23 rfl rfl (by decide) rfl (by omega) ?_
        have h527 := r45_287 hJ 4 (i := (287 + a1)) (by omega)
        refine X.l2i 25 i252_24 rfl rfl (by omega) ?_
        refine X.reti i252_25 rfl t252 ?_
        exact hQ (m 4 45 (287 + a1)) (by first | trivial | omega) (Eq.trans (if_neg h502c) (Eq.trans (if_pos h505c) (Eq.trans (if_pos h508) rfl))) 
noncomputable def fl153_36_1_b (self : Int → Int → Int) (k59 : Int → Int → Int) (k76 : Int) (g0 : Nat) (y2 y3 : Int) (m : zM) (y4 y5 : Int) : Int :=
  if 105 ≤ y5 then
  (k76)
  else
  (if y2 < y4 then
  (k76)
  else
  (zn (f27_1 g0 y4 m) fun v514 =>
  if v514 = y3 then
  (zn (f37_1 g0 y4 m) fun v518 =>
  self v518 (y5 + 1))
  else
  (k59 y4 y5)))
noncomputable def fl153_36_1 (k59 : Int → Int → Int) (k76 : Int) (g0 : Nat) (y2 y3 : Int) (m : zM) : Nat → Int → Int → Int
  | 0 => fun y4 y5 => 0
  | n + 1 => fl153_36_1_b (fl153_36_1 k59 k76 g0 y2 y3 m n) k59 k76 g0 y2 y3 m
theorem l153_36_1 {s : Nat × (Nat → Int32)} {S : zS} {m0 : zM} {m : zM} {B : Int} {d : Nat} {Q : Option zV → zM → Prop} {R0 : Int} {k59 : Int → Int → Int} {k76 : Int} (g0 : Nat) (y2 y3 : Int) (hd : 16 ≤ d) (hJ : J S m0 B m) (hB9 : B ≤ 1000000000) (hy2 : 1295999 ≤ y2 ∧ y2 ≤ 2000000000) (hy3 : 0 ≤ y3 ∧ y3 ≤ 3)
    (K59 : ∀ (x4 x5 : Int) , (0 ≤ x4 ∧ x4 ≤ 2000000000) → (0 ≤ x5 ∧ x5 ≤ 104) → R0 = k59 x4 x5 → X (EE s) d 153 59 [(0, zr g0 11), (2, zi y2), (3, zi y3), (4, zi x4), (5, zi x5)] [] m Q)
    (K76 : R0 = k76 → X (EE s) d 153 76 [] [] m Q) :
    ∀ (n : Nat) (y4 y5 : Int) , (0 ≤ y4 ∧ y4 ≤ 2000246400) → (0 ≤ y5 ∧ y5 ≤ 105) → 105 - y5 < (n : Int) → R0 = fl153_36_1 k59 k76 g0 y2 y3 m n y4 y5 → X (EE s) d 153 36 [(0, zr g0 11), (2, zi y2), (3, zi y3), (4, zi y4), (5, zi y5)] [] m Q := by
  intro n
  induction n with
  | zero =>
    intro y4 y5 hy4 hy5 hn hR
    exfalso
    omega
  | succ n ih =>
    intro y4 y5 hy4 hy5 hn hR
    replace hR : R0 = fl153_36_1_b (fl153_36_1 k59 k76 g0 y2 y3 m n) k59 k76 g0 y2 y3 m y4 y5 := hR
    refine X.iload 38 i153_36 rfl rfl rfl ?_
    refine X.bipush 40 i153_38 rfl rfl (by decide) ?_
    refine X.icmpge 76 43 i153_40 rfl rfl rfl (fun h510 => ?_) (fun h510 => ?_)
    · refine X.cut [] i153_76 rfl ?_
      exact K76   (Eq.trans hR (Eq.trans (if_pos h510) rfl))
    · refine X.iload 45 i153_43 rfl rfl rfl ?_
      refine X.iload_n 46 i153_45 rfl rfl rfl ?_
      refine X.icmpgt 76 49 i153_46 rfl rfl rfl (fun h511 => ?_) (fun h511 => ?_)
      · refine X.cut [] i153_76 rfl ?_
        exact K76   (Eq.trans hR (Eq.trans (if_neg h510) (Eq.trans (if_pos h511) rfl)))
      · refine X.aload_n 50 i153_49 rfl rfl rfl ?_
        refine X.iload 52 i153_50 rfl rfl rfl ?_
        refine X.callv 55 [zi y4] [] [(0, zr g0 11), (1, zi y4)] i153_52 rfl (by decide) rfl rfl (by omega) rfl rfl (by decide) rfl t27 (Nat.le_of_ble_eq_true rfl) (Nat.le_of_ble_eq_true rfl) rfl ?_
        refine c27_1 (B := B) g0 y4 (by omega) (hJ.up (by omega)) (by omega) (by omega) (fun v514 hv514 hFv514 => ?_)
        show X (EE s) d 153 55 [(0, zr g0 11), (2, zi y2), (3, zi y3), (4, zi y4), (5, zi y5)] [zi v514] m _
        refine X.iload_n 56 i153_55 rfl rfl rfl ?_
        refine X.icmpeq 62 59 i153_56 rfl rfl rfl (fun h515 => ?_) (fun h515 => ?_)
        · refine X.aload_n 63 i153_62 rfl rfl rfl ?_
          refine X.iload 65 i153_63 rfl rfl rfl ?_
          refine X.callv 68 [zi y4] [] [(0, zr g0 11), (1, zi y4)] i153_65 rfl (by decide) rfl rfl (by omega) rfl rfl (by decide) rfl t37 (Nat.le_of_ble_eq_true rfl) (Nat.le_of_ble_eq_true rfl) rfl ?_
          refine c37_1 (B := B) g0 y4 (by omega) (hJ.up (by omega)) (by omega) (by omega) (fun v518 hv518 hFv518 hqv518_0 => ?_)
          show X (EE s) d 153 68 [(0, zr g0 11), (2, zi y2), (3, zi y3), (4, zi y4), (5, zi y5)] [zi v518] m _
          refine X.istore 70 [(0, zr g0 11), (2, zi y2), (3, zi y3), (4, zi v518), (5, zi y5)] i153_68 rfl rfl rfl ?_
          refine X.iinc 73 [(0, zr g0 11), (2, zi y2), (3, zi y3), (4, zi v518), (5, zi (y5 + 1))] i153_70 rfl rfl rfl (by omega) rfl ?_
          refine X.goto 36 i153_73 rfl rfl ?_
          exact ih v518 (y5 + 1) (by omega) (by omega) (by omega) (Eq.trans hR (Eq.trans (if_neg h510) (Eq.trans (if_neg h511) (Eq.trans (zn_eq hFv514.symm) (Eq.trans (if_pos h515) (Eq.trans (zn_eq hFv518.symm) rfl))))))
        · exact K59 y4 y5 (by first | trivial | omega) (by first | trivial | omega) (Eq.trans hR (Eq.trans (if_neg h510) (Eq.trans (if_neg h511) (Eq.trans (zn_eq hFv514.symm) (Eq.trans (if_neg h515) rfl)))))
-- WorkMeter$Calendar.changeAfter
noncomputable def f153_1 (g0 : Nat) (a1 : Int) (m : zM) : Int :=
  zn (f27_1 g0 a1 m) fun v503 =>
  zn (f37_1 g0 a1 m) fun v506 =>
  fl153_36_1 (fun y507 y508 =>
  y507) ((-1)) g0 (min (((((a1 / 86400) + 14) + 1) * 86400) - 1) 2000000000) v503 m (zfu 106) v506 0
-- WorkMeter$Calendar.changeAfter
theorem c153_1 {s : Nat × (Nat → Int32)} {S : zS} {m0 m : zM} {B : Int} {d : Nat} {Q : Option zV → zM → Prop} (g0 : Nat) (a1 : Int) (hd : 16 ≤ d) (hJ : J S m0 B m) (hB : B + 0 ≤ 1000000000) (ha1 : 0 ≤ a1 ∧ a1 ≤ 2000000000) (hQ : ∀ (v : Int), ((-1) ≤ v ∧ v ≤ 2000000000) → f153_1 g0 a1 m = v → Q (some (zi v)) m) : X (EE s) d 153 0 [(0, zr g0 11), (1, zi a1)] [] m Q := by
  refine X.iload_n 1 i153_0 rfl rfl rfl ?_
  refine X.ldc 3 i153_1 rfl rfl (by decide) ?_
  refine X.idiv 4 i153_3 rfl rfl (by omega) ?_
  refine X.bipush 6 i153_4 rfl rfl (by decide) ?_
  refine X.iadd 7 i153_6 rfl rfl (by omega) ?_
  refine X.iconst 8 i153_7 rfl rfl (by decide) ?_
  refine X.iadd 9 i153_8 rfl rfl (by omega) ?_
  refine X.ldc 11 i153_9 rfl rfl (by decide) ?_
  refine X.imul 12 i153_11 rfl rfl (by omega) ?_
  refine X.iconst 13 i153_12 rfl rfl (by decide) ?_
  refine X.isub 14 i153_13 rfl rfl (by omega) ?_
  refine X.ldc 16 i153_14 rfl rfl (by decide) ?_
  refine X.minI 19 i153_16 rfl rfl (by omega) (Nat.le_of_ble_eq_true rfl) ?_
  refine X.istore_n 20 [(0, zr g0 11), (1, zi a1), (2, zi (min (((((a1 / 86400) + 14) + 1) * 86400) - 1) 2000000000))] i153_19 rfl rfl rfl ?_
  refine X.aload_n 21 i153_20 rfl rfl rfl ?_
  refine X.iload_n 22 i153_21 rfl rfl rfl ?_
  refine X.callv 25 [zi a1] [] [(0, zr g0 11), (1, zi a1)] i153_22 rfl (by decide) rfl rfl (by omega) rfl rfl (by decide) rfl t27 (Nat.le_of_ble_eq_true rfl) (Nat.le_of_ble_eq_true rfl) rfl ?_
  refine c27_1 (B := B) g0 a1 (by omega) (hJ.up (by omega)) (by omega) (by omega) (fun v503 hv503 hFv503 => ?_)
  show X (EE s) d 153 25 [(0, zr g0 11), (1, zi a1), (2, zi (min (((((a1 / 86400) + 14) + 1) * 86400) - 1) 2000000000))] [zi v503] m _
  refine X.istore_n 26 [(0, zr g0 11), (1, zi a1), (2, zi (min (((((a1 / 86400) + 14) + 1) * 86400) - 1) 2000000000)), (3, zi v503)] i153_25 rfl rfl rfl ?_
  refine X.aload_n 27 i153_26 rfl rfl rfl ?_
  refine X.iload_n 28 i153_27 rfl rfl rfl ?_
  refine X.callv 31 [zi a1] [] [(0, zr g0 11), (1, zi a1)] i153_28 rfl (by decide) rfl rfl (by omega) rfl rfl (by decide) rfl t37 (Nat.le_of_ble_eq_true rfl) (Nat.le_of_ble_eq_true rfl) rfl ?_
  refine c37_1 (B := B) g0 a1 (by omega) (hJ.up (by omega)) (by omega) (by omega) (fun v506 hv506 hFv506 hqv506_0 => ?_)
  show X (EE s) d 153 31 [(0, zr g0 11), (1, zi a1), (2, zi (min (((((a1 / 86400) + 14) + 1) * 86400) - 1) 2000000000)), (3, zi v503)] [zi v506] m _
  refine X.istore 33 [(0, zr g0 11), (1, zi a1), (2, zi (min (((((a1 / 86400) + 14) + 1) * 86400) - 1) 2000000000)), (3, zi v503), (4, zi v506)] i153_31 rfl rfl rfl ?_
  refine X.iconst 34 i153_33 rfl rfl (by decide) ?_
  refine X.istore 36 [(0, zr g0 11), (1, zi a1), (2, zi (min (((((a1 / 86400) + 14) + 1) * 86400) - 1) 2000000000)), (3, zi v503), (4, zi v506), (5, zi 0)] i153_34 rfl rfl rfl ?_
  refine X.cut [(0, zr g0 11), (2, zi (min (((((a1 / 86400) + 14) + 1) * 86400) - 1) 2000000000)), (3, zi v503), (4, zi v506), (5, zi 0)] i153_36 rfl ?_
  have hz106 := zfu_eq 106
  refine l153_36_1 (s := s) (m := m) (B := B) (d := d) (R0 := (f153_1 g0 a1 m)) g0 (min (((((a1 / 86400) + 14) + 1) * 86400) - 1) 2000000000) v503  (by omega) (hJ.up (by omega)) (by omega) (by omega) (by omega) (fun y507 y508 hby507 hby508 hR512 => ?_) (fun  hR516 => ?_) (zfu 106) v506 0 (by omega) (by omega) (by omega) (Eq.trans (zn_eq hFv503.symm) (Eq.trans (zn_eq hFv506.symm) rfl))
  · refine X.iload 61 i153_59 rfl rfl rfl ?_
    refine X.reti i153_61 rfl t153 ?_
    exact hQ y507 (by first | trivial | omega) (Eq.trans hR512 rfl) 
  · refine X.iconst 77 i153_76 rfl rfl (by decide) ?_
    refine X.reti i153_77 rfl t153 ?_
    exact hQ (-1) (by first | trivial | omega) (Eq.trans hR516 rfl) 
-- WorkMeter.next
noncomputable def f152_1 (a1 : Int) (m : zM) : Int :=
  if a1 < 0 then
  ((-1))
  else
  (if a1 ≤ 1 then
  (zn (f153_1 0 (m 0 8 9) m) fun v506 =>
  if v506 = (-1) then
  (v506)
  else
  (if a1 = 0 then
  (v506)
  else
  (zn (f27_1 0 v506 m) fun v511 =>
  v511)))
  else
  ((-1)))
-- WorkMeter.next
theorem c152_1 {s : Nat × (Nat → Int32)} {S : zS} {m0 m : zM} {B : Int} {d : Nat} {Q : Option zV → zM → Prop} (a1 : Int) (hd : 17 ≤ d) (hJ : J S m0 B m) (hB : B + 0 ≤ 1000000000) (ha1 : (-2147483648) ≤ a1 ∧ a1 ≤ 2147483647) (hQ : ∀ (v : Int), ((-1) ≤ v ∧ v ≤ 2000000000) → f152_1 a1 m = v → Q (some (zi v)) m) : X (EE s) d 152 0 [(0, zr 4 40), (1, zi a1)] [] m Q := by
  refine X.iload_n 1 i152_0 rfl rfl rfl ?_
  refine X.iflt 9 4 i152_1 rfl rfl rfl (fun h501 => ?_) (fun h501 => ?_)
  · refine X.cut [] i152_9 rfl ?_
    refine X.iconst 10 i152_9 rfl rfl (by decide) ?_
    refine X.reti i152_10 rfl t152 ?_
    exact hQ (-1) (by first | trivial | omega) (Eq.trans (if_pos h501) rfl) 
  · refine X.iload_n 5 i152_4 rfl rfl rfl ?_
    refine X.iconst 6 i152_5 rfl rfl (by decide) ?_
    refine X.icmple 11 9 i152_6 rfl rfl rfl (fun h502 => ?_) (fun h502 => ?_)
    · refine X.aload_n 12 i152_11 rfl rfl rfl ?_
      refine X.getF 15 i152_12 rfl rfl (by decide) rfl rfl ?_
      refine X.getR 18 i152_15 rfl rfl (by decide) rfl rfl ?_
      refine X.aload_n 19 i152_18 rfl rfl rfl ?_
      refine X.getF 22 i152_19 rfl rfl (by decide) rfl rfl ?_
      refine X.getI 25 9 i152_22 rfl rfl (by decide) rfl rfl rfl ?_
      have h503 := r8_9 hJ 0
      refine X.callv 28 [zi (m 0 8 9)] [] [(0, zr 0 11), (1, zi (m 0 8 9))] i152_25 rfl (by decide) rfl rfl (by omega) rfl rfl (by decide) rfl t153 (Nat.le_of_ble_eq_true rfl) (Nat.le_of_ble_eq_true rfl) rfl ?_
      refine c153_1 (B := B) 0 (m 0 8 9) (by omega) (hJ.up (by omega)) (by omega) (by omega) (fun v506 hv506 hFv506 => ?_)
      show X (EE s) d 152 28 [(0, zr 4 40), (1, zi a1)] [zi v506] m _
      refine X.istore_n 29 [(0, zr 4 40), (1, zi a1), (2, zi v506)] i152_28 rfl rfl rfl ?_
      refine X.iload_n 30 i152_29 rfl rfl rfl ?_
      refine X.iconst 31 i152_30 rfl rfl (by decide) ?_
      refine X.icmpeq 38 34 i152_31 rfl rfl rfl (fun h507 => ?_) (fun h507 => ?_)
      · refine X.cut [(2, zi v506)] i152_38 rfl ?_
        refine X.iload_n 39 i152_38 rfl rfl rfl ?_
        refine X.reti i152_39 rfl t152 ?_
        exact hQ v506 (by first | trivial | omega) (Eq.trans (if_neg h501) (Eq.trans (if_pos h502) (Eq.trans (zn_eq hFv506.symm) (Eq.trans (if_pos h507) rfl)))) 
      · refine X.iload_n 35 i152_34 rfl rfl rfl ?_
        refine X.ifne 40 38 i152_35 rfl rfl rfl (fun h508 => ?_) (fun h508 => ?_)
        · refine X.cut [(0, zr 4 40), (2, zi v506)] i152_40 rfl ?_
          refine X.aload_n 41 i152_40 rfl rfl rfl ?_
          refine X.getF 44 i152_41 rfl rfl (by decide) rfl rfl ?_
          refine X.getR 47 i152_44 rfl rfl (by decide) rfl rfl ?_
          refine X.iload_n 48 i152_47 rfl rfl rfl ?_
          refine X.callv 51 [zi v506] [] [(0, zr 0 11), (1, zi v506)] i152_48 rfl (by decide) rfl rfl (by omega) rfl rfl (by decide) rfl t27 (Nat.le_of_ble_eq_true rfl) (Nat.le_of_ble_eq_true rfl) rfl ?_
          refine c27_1 (B := B) 0 v506 (by omega) (hJ.up (by omega)) (by omega) (by omega) (fun v511 hv511 hFv511 => ?_)
          show X (EE s) d 152 51 [(0, zr 4 40), (2, zi v506)] [zi v511] m _
          refine X.reti i152_51 rfl t152 ?_
          exact hQ v511 (by first | trivial | omega) (Eq.trans (if_neg h501) (Eq.trans (if_pos h502) (Eq.trans (zn_eq hFv506.symm) (Eq.trans (if_neg h507) (Eq.trans (if_neg h508) (Eq.trans (zn_eq hFv511.symm) rfl)))))) 
        · refine X.cut [(2, zi v506)] i152_38 rfl ?_
          refine X.iload_n 39 i152_38 rfl rfl rfl ?_
          refine X.reti i152_39 rfl t152 ?_
          exact hQ v506 (by first | trivial | omega) (Eq.trans (if_neg h501) (Eq.trans (if_pos h502) (Eq.trans (zn_eq hFv506.symm) (Eq.trans (if_neg h507) (Eq.trans (if_pos h508) rfl))))) 
    · refine X.cut [] i152_9 rfl ?_
      refine X.iconst 10 i152_9 rfl rfl (by decide) ?_
      refine X.reti i152_10 rfl t152 ?_
      exact hQ (-1) (by first | trivial | omega) (Eq.trans (if_neg h501) (Eq.trans (if_neg h502) rfl)) 
-- WorkMeterModel.tableAt
theorem c218_2 {s : Nat × (Nat → Int32)} {S : zS} {m0 m : zM} {B : Int} {d : Nat} {Q : Option zV → zM → Prop} (a1 : Int) (hd : 14 ≤ d) (hJ : J S m0 B m) (hB : B + 0 ≤ 1000000000) (ha1 : 0 ≤ a1 ∧ a1 ≤ 23150) (hQ : ∀ (v : Int), (0 ≤ v ∧ v ≤ 7) → f218_1 a1 m = v → Q (some (zi v)) m) : X (EE s) d 218 0 [(0, zr 4 44), (1, zi a1)] [] m Q := by
  refine X.iload_n 1 i218_0 rfl rfl rfl ?_
  refine X.sipush 4 i218_1 rfl rfl (by decide) ?_
  refine X.irem 5 i218_4 rfl rfl (by omega) ?_
  refine X.istore_n 6 [(0, zr 4 44), (1, zi a1), (2, zi (a1 % 365))] i218_5 rfl rfl rfl ?_
  refine X.aload_n 7 i218_6 rfl rfl rfl ?_
  refine X.getF 10 i218_7 rfl rfl (by decide) rfl rfl ?_
  refine X.sipush 13 i218_10 rfl rfl (by decide) ?_
  refine X.iload_n 14 i218_13 rfl rfl rfl ?_
  refine X.iadd 15 i218_14 rfl rfl (by omega) ?_
  refine X.lald 16 i218_15 rfl rfl (by decide) rfl (by omega) ?_
  have h501 := r45_423 hJ 4 (i := (423 + (a1 % 365))) (by omega)
  refine X.ldc2 19 i218_16 rfl rfl (by decide) ?_
  refine X.lcmp 20 i218_19 rfl rfl (fun z502 hz502 => ?_)
  refine X.ifeq 35 23 i218_20 rfl rfl rfl (fun h503 => ?_) (fun h503 => ?_)
  · have h503c : (m 4 45 (423 + (a1 % 365))) = (-1) := by omega
    clear h503 hz502
    refine X.aload_n 36 i218_35 rfl rfl rfl ?_
    refine X.getF 39 i218_36 rfl rfl (by decide) rfl rfl ?_
    refine X.sipush 42 i218_39 rfl rfl (by decide) ?_
    refine X.bipush 44 i218_42 rfl rfl (by decide) ?_
    refine X.aload_n 45 i218_44 rfl rfl rfl ?_
    refine X.iload_n 46 i218_45 rfl rfl rfl ?_
    refine X.callv 49 [zi (a1 % 365)] [zi 7, zi 395, zr 4 45] [(0, zr 4 44), (1, zi (a1 % 365))] i218_46 rfl (by decide) rfl rfl (by omega) rfl rfl (by decide) rfl t219 (Nat.le_of_ble_eq_true rfl) (Nat.le_of_ble_eq_true rfl) rfl ?_
    refine c219_1 (B := B)  (a1 % 365) (by omega) (hJ.up (by omega)) (by omega) (by omega) (fun v506 hv506 hFv506 => ?_)
    show X (EE s) d 218 49 [(0, zr 4 44), (1, zi a1), (2, zi (a1 % 365))] [zi v506, zi 7, zi 395, zr 4 45] m _
    refine X.imul 50 i218_49 rfl rfl (by omega) ?_
    refine X.iadd 51 i218_50 rfl rfl (by omega) ?_
    refine X.iload_n 52 i218_51 rfl rfl rfl ?_
    refine X.bipush 54 i218_52 rfl rfl (by decide) ?_
    refine X.irem 55 i218_54 rfl rfl (by omega) ?_
    refine X.iadd 56 i218_55 rfl rfl (by omega) ?_
    refine X.lald 57 i218_56 rfl rfl (by decide) rfl (by omega) ?_
    have h507 := r45_395 hJ 4 (i := ((395 + (7 * v506)) + (a1 % 7))) (by omega)
    refine X.l2i 58 i218_57 rfl rfl (by omega) ?_
    refine X.reti i218_58 rfl t218 ?_
    exact hQ (m 4 45 ((395 + (7 * v506)) + (a1 % 7))) (by first | trivial | omega) (Eq.trans (if_pos h503c) (Eq.trans (zn_eq hFv506.symm) rfl)) 
  · have h503c : ¬ (m 4 45 (423 + (a1 % 365))) = (-1) := by omega
    clear h503 hz502
    refine X.aload_n 24 i218_23 rfl rfl rfl ?_
    refine X.getF 27 i218_24 rfl rfl (by decide) rfl rfl ?_
    refine X.sipush 30 i218_27 rfl rfl (by decide) ?_
    refine X.iload_n 31 i218_30 rfl rfl rfl ?_
    refine X.iadd 32 i218_31 rfl rfl (by omega) ?_
    refine X.lald 33 i218_32 rfl rfl (by decide) rfl (by omega) ?_
    refine X.l2i 34 i218_33 rfl rfl (by omega) ?_
    refine X.reti i218_34 rfl t218 ?_
    exact hQ (m 4 45 (423 + (a1 % 365))) (by first | trivial | omega) (Eq.trans (if_neg h503c) rfl) 
noncomputable def fl255_45_1_b (self : Int → Int) (k136 : Int → Int → Int) (k146 : Int) (y1 y2 y3 : Int) (m : zM) (y4 : Int) : Int :=
  if y4 < (m 4 45 (287 + y3)) then
  (zn (if 0 ≤ y4 then
  ((m 4 45 ((295 + (6 * y3)) + y4)))
  else
  (0)) fun v530 =>
  if ((y2 * 86400) + v530) ≤ (m 4 45 0) then
  (self (y4 + 1))
  else
  (if ((y2 * 86400) + v530) ≤ 2000000000 then
  (zn (f217_1 ((y2 * 86400) + v530) m) fun v542 =>
  zn (f217_1 (((y2 * 86400) + v530) - 1) m) fun v545 =>
  if v542 = v545 then
  (self (y4 + 1))
  else
  (k136 y4 ((y2 * 86400) + v530)))
  else
  (self (y4 + 1))))
  else
  (k146)
noncomputable def fl255_45_1 (k136 : Int → Int → Int) (k146 : Int) (y1 y2 y3 : Int) (m : zM) : Nat → Int → Int
  | 0 => fun y4 => 0
  | n + 1 => fl255_45_1_b (fl255_45_1 k136 k146 y1 y2 y3 m n) k136 k146 y1 y2 y3 m
theorem l255_45_1 {s : Nat × (Nat → Int32)} {S : zS} {m0 : zM} {m : zM} {B : Int} {d : Nat} {Q : Option zV → zM → Prop} {R0 : Int} {k136 : Int → Int → Int} {k146 : Int} (y1 y2 y3 : Int) (hd : 16 ≤ d) (hJ : J S m0 B m) (hB9 : B ≤ 1000000000) (hy1 : 0 ≤ y1 ∧ y1 ≤ 23148) (hy2 : 0 ≤ y2 ∧ y2 ≤ 23162) (hy3 : 0 ≤ y3 ∧ y3 ≤ 7)
    (K136 : ∀ (x4 x5 : Int) , ((-1) ≤ x4 ∧ x4 ≤ 5) → (1 ≤ x5 ∧ x5 ≤ 2000000000) → R0 = k136 x4 x5 → X (EE s) d 255 136 [(0, zr 4 44), (1, zi y1), (2, zi y2), (3, zi y3), (4, zi x4), (5, zl x5)] [] m Q)
    (K146 : R0 = k146 → X (EE s) d 255 146 [(0, zr 4 44), (1, zi y1), (2, zi y2)] [] m Q) :
    ∀ (n : Nat) (y4 : Int) , ((-1) ≤ y4 ∧ y4 ≤ 6) → 6 - y4 < (n : Int) → R0 = fl255_45_1 k136 k146 y1 y2 y3 m n y4 → X (EE s) d 255 45 [(0, zr 4 44), (1, zi y1), (2, zi y2), (3, zi y3), (4, zi y4)] [] m Q := by
  intro n
  induction n with
  | zero =>
    intro y4 hy4 hn hR
    exfalso
    omega
  | succ n ih =>
    intro y4 hy4 hn hR
    replace hR : R0 = fl255_45_1_b (fl255_45_1 k136 k146 y1 y2 y3 m n) k136 k146 y1 y2 y3 m y4 := hR
    refine X.iload 47 i255_45 rfl rfl rfl ?_
    refine X.i2l 48 i255_47 rfl rfl ?_
    refine X.aload_n 49 i255_48 rfl rfl rfl ?_
    refine X.getF 52 i255_49 rfl rfl (by decide) rfl rfl ?_
    refine X.sipush 55 i255_52 rfl rfl (by decide) ?_
    refine X.iload_n 56 i255_55 rfl rfl rfl ?_
    refine X.iadd 57 i255_56 rfl rfl (by omega) ?_
    refine X.lald 58 i255_57 rfl rfl (by decide) rfl (by omega) ?_
    have h525 := r45_287 hJ 4 (i := (287 + y3)) (by omega)
    refine X.lcmp 59 i255_58 rfl rfl (fun z526 hz526 => ?_)
    refine X.ifge 146 62 i255_59 rfl rfl rfl (fun h527 => ?_) (fun h527 => ?_)
    · have h527c : ¬ y4 < (m 4 45 (287 + y3)) := by omega
      clear h527 hz526
      refine X.cut [(0, zr 4 44), (1, zi y1), (2, zi y2)] i255_146 rfl ?_
      exact K146   (Eq.trans hR (Eq.trans (if_neg h527c) rfl))
    · have h527c : y4 < (m 4 45 (287 + y3)) := by omega
      clear h527 hz526
      refine X.iload_n 63 i255_62 rfl rfl rfl ?_
      refine X.i2l 64 i255_63 rfl rfl ?_
      refine X.ldc2 67 i255_64 rfl rfl (by decide) ?_
      refine X.lmul 68 i255_67 rfl rfl (by omega) ?_
      refine X.iload 70 i255_68 rfl rfl rfl ?_
      have hK533 : ∀ (v : Int) , (0 ≤ v ∧ v ≤ 86399) → (if 0 ≤ y4 then
          ((m 4 45 ((295 + (6 * y3)) + y4)))
          else
          (0)) = v → X (EE s) d 255 93 [(0, zr 4 44), (1, zi y1), (2, zi y2), (3, zi y3), (4, zi y4)] [zl v, zl (y2 * 86400)] m Q := by
        intro v530 hv530 hT534
        refine X.ladd 94 i255_93 rfl rfl (by omega) ?_
        refine X.lstore 96 [(0, zr 4 44), (1, zi y1), (2, zi y2), (3, zi y3), (4, zi y4), (5, zl ((y2 * 86400) + v530))] i255_94 rfl rfl rfl ?_
        refine X.lload 98 i255_96 rfl rfl rfl ?_
        refine X.aload_n 99 i255_98 rfl rfl rfl ?_
        refine X.getF 102 i255_99 rfl rfl (by decide) rfl rfl ?_
        refine X.iconst 103 i255_102 rfl rfl (by decide) ?_
        refine X.lald 104 i255_103 rfl rfl (by decide) rfl (by omega) ?_
        have h535 := r45_0 hJ 4
        refine X.lcmp 105 i255_104 rfl rfl (fun z536 hz536 => ?_)
        refine X.ifle 140 108 i255_105 rfl rfl rfl (fun h537 => ?_) (fun h537 => ?_)
        · have h537c : ((y2 * 86400) + v530) ≤ (m 4 45 0) := by omega
          clear h537 hz536
          refine X.cut [(0, zr 4 44), (1, zi y1), (2, zi y2), (3, zi y3), (4, zi y4)] i255_140 rfl ?_
          refine X.iinc 143 [(0, zr 4 44), (1, zi y1), (2, zi y2), (3, zi y3), (4, zi (y4 + 1))] i255_140 rfl rfl rfl (by omega) rfl ?_
          refine X.goto 45 i255_143 rfl rfl ?_
          exact ih (y4 + 1) (by omega) (by omega) (Eq.trans hR (Eq.trans (if_pos h527c) (Eq.trans (zn_eq hT534.symm) (Eq.trans (if_pos h537c) rfl))))
        · have h537c : ¬ ((y2 * 86400) + v530) ≤ (m 4 45 0) := by omega
          clear h537 hz536
          refine X.lload 110 i255_108 rfl rfl rfl ?_
          refine X.ldc2 113 i255_110 rfl rfl (by decide) ?_
          refine X.lcmp 114 i255_113 rfl rfl (fun z538 hz538 => ?_)
          refine X.ifgt 140 117 i255_114 rfl rfl rfl (fun h539 => ?_) (fun h539 => ?_)
          · have h539c : ¬ ((y2 * 86400) + v530) ≤ 2000000000 := by omega
            clear h539 hz538
            refine X.cut [(0, zr 4 44), (1, zi y1), (2, zi y2), (3, zi y3), (4, zi y4)] i255_140 rfl ?_
            refine X.iinc 143 [(0, zr 4 44), (1, zi y1), (2, zi y2), (3, zi y3), (4, zi (y4 + 1))] i255_140 rfl rfl rfl (by omega) rfl ?_
            refine X.goto 45 i255_143 rfl rfl ?_
            exact ih (y4 + 1) (by omega) (by omega) (Eq.trans hR (Eq.trans (if_pos h527c) (Eq.trans (zn_eq hT534.symm) (Eq.trans (if_neg h537c) (Eq.trans (if_neg h539c) rfl)))))
          · have h539c : ((y2 * 86400) + v530) ≤ 2000000000 := by omega
            clear h539 hz538
            refine X.aload_n 118 i255_117 rfl rfl rfl ?_
            refine X.lload 120 i255_118 rfl rfl rfl ?_
            refine X.l2i 121 i255_120 rfl rfl (by omega) ?_
            refine X.callv 124 [zi ((y2 * 86400) + v530)] [] [(0, zr 4 44), (1, zi ((y2 * 86400) + v530))] i255_121 rfl (by decide) rfl rfl (by omega) rfl rfl (by decide) rfl t217 (Nat.le_of_ble_eq_true rfl) (Nat.le_of_ble_eq_true rfl) rfl ?_
            refine c217_1 (B := B)  ((y2 * 86400) + v530) (by omega) (hJ.up (by omega)) (by omega) (by omega) (fun v542 hv542 hFv542 => ?_)
            show X (EE s) d 255 124 [(0, zr 4 44), (1, zi y1), (2, zi y2), (3, zi y3), (4, zi y4), (5, zl ((y2 * 86400) + v530))] [zi v542] m _
            refine X.aload_n 125 i255_124 rfl rfl rfl ?_
            refine X.lload 127 i255_125 rfl rfl rfl ?_
            refine X.l2i 128 i255_127 rfl rfl (by omega) ?_
            refine X.iconst 129 i255_128 rfl rfl (by decide) ?_
            refine X.isub 130 i255_129 rfl rfl (by omega) ?_
            refine X.callv 133 [zi (((y2 * 86400) + v530) - 1)] [zi v542] [(0, zr 4 44), (1, zi (((y2 * 86400) + v530) - 1))] i255_130 rfl (by decide) rfl rfl (by omega) rfl rfl (by decide) rfl t217 (Nat.le_of_ble_eq_true rfl) (Nat.le_of_ble_eq_true rfl) rfl ?_
            refine c217_1 (B := B)  (((y2 * 86400) + v530) - 1) (by omega) (hJ.up (by omega)) (by omega) (by omega) (fun v545 hv545 hFv545 => ?_)
            show X (EE s) d 255 133 [(0, zr 4 44), (1, zi y1), (2, zi y2), (3, zi y3), (4, zi y4), (5, zl ((y2 * 86400) + v530))] [zi v545, zi v542] m _
            refine X.icmpeq 140 136 i255_133 rfl rfl rfl (fun h546 => ?_) (fun h546 => ?_)
            · refine X.cut [(0, zr 4 44), (1, zi y1), (2, zi y2), (3, zi y3), (4, zi y4)] i255_140 rfl ?_
              refine X.iinc 143 [(0, zr 4 44), (1, zi y1), (2, zi y2), (3, zi y3), (4, zi (y4 + 1))] i255_140 rfl rfl rfl (by omega) rfl ?_
              refine X.goto 45 i255_143 rfl rfl ?_
              exact ih (y4 + 1) (by omega) (by omega) (Eq.trans hR (Eq.trans (if_pos h527c) (Eq.trans (zn_eq hT534.symm) (Eq.trans (if_neg h537c) (Eq.trans (if_pos h539c) (Eq.trans (zn_eq hFv542.symm) (Eq.trans (zn_eq hFv545.symm) (Eq.trans (if_pos h546) rfl))))))))
            · exact K136 y4 ((y2 * 86400) + v530) (by first | trivial | omega) (by first | trivial | omega) (Eq.trans hR (Eq.trans (if_pos h527c) (Eq.trans (zn_eq hT534.symm) (Eq.trans (if_neg h537c) (Eq.trans (if_pos h539c) (Eq.trans (zn_eq hFv542.symm) (Eq.trans (zn_eq hFv545.symm) (Eq.trans (if_neg h546) rfl))))))))
      refine X.ifge 77 73 i255_70 rfl rfl rfl (fun h528 => ?_) (fun h528 => ?_)
      · refine X.aload_n 78 i255_77 rfl rfl rfl ?_
        refine X.getF 81 i255_78 rfl rfl (by decide) rfl rfl ?_
        refine X.sipush 84 i255_81 rfl rfl (by decide) ?_
        refine X.bipush 86 i255_84 rfl rfl (by decide) ?_
        refine X.iload_n 87 i255_86 rfl rfl rfl ?_
        refine X.imul 88 i255_87 rfl rfl (by omega) ?_
        refine X.iadd 89 i255_88 rfl rfl (by omega) ?_
        refine X.iload 91 i255_89 rfl rfl rfl ?_
        refine X.iadd 92 i255_91 rfl rfl (by omega) ?_
        refine X.lald 93 i255_92 rfl rfl (by decide) rfl (by omega) ?_
        have h529 := r45_295 hJ 4 (i := ((295 + (6 * y3)) + y4)) (by omega)
        exact hK533 (m 4 45 ((295 + (6 * y3)) + y4)) (by first | trivial | omega) (Eq.trans (if_pos h528) rfl)
      · refine X.lconst (y := 0) 74 i255_73 rfl rfl rfl ?_
        refine X.goto 93 i255_74 rfl rfl ?_
        exact hK533 0 (by first | trivial | omega) (Eq.trans (if_neg h528) rfl)
-- WorkMeterModel.tableAt
theorem c218_3 {s : Nat × (Nat → Int32)} {S : zS} {m0 m : zM} {B : Int} {d : Nat} {Q : Option zV → zM → Prop} (a1 : Int) (hd : 14 ≤ d) (hJ : J S m0 B m) (hB : B + 0 ≤ 1000000000) (ha1 : 0 ≤ a1 ∧ a1 ≤ 23150) (hQ : ∀ (v : Int), (0 ≤ v ∧ v ≤ 7) → f218_1 a1 m = v → Q (some (zi v)) m) : X (EE s) d 218 0 [(0, zr 4 44), (1, zi a1)] [] m Q := by
  refine X.iload_n 1 i218_0 rfl rfl rfl ?_
  refine X.sipush 4 i218_1 rfl rfl (by decide) ?_
  refine X.irem 5 i218_4 rfl rfl (by omega) ?_
  refine X.istore_n 6 [(0, zr 4 44), (1, zi a1), (2, zi (a1 % 365))] i218_5 rfl rfl rfl ?_
  refine X.aload_n 7 i218_6 rfl rfl rfl ?_
  refine X.getF 10 i218_7 rfl rfl (by decide) rfl rfl ?_
  refine X.sipush 13 i218_10 rfl rfl (by decide) ?_
  refine X.iload_n 14 i218_13 rfl rfl rfl ?_
  refine X.iadd 15 i218_14 rfl rfl (by omega) ?_
  refine X.lald 16 i218_15 rfl rfl (by decide) rfl (by omega) ?_
  have h501 := r45_423 hJ 4 (i := (423 + (a1 % 365))) (by omega)
  refine X.ldc2 19 i218_16 rfl rfl (by decide) ?_
  refine X.lcmp 20 i218_19 rfl rfl (fun z502 hz502 => ?_)
  refine X.ifeq 35 23 i218_20 rfl rfl rfl (fun h503 => ?_) (fun h503 => ?_)
  · have h503c : (m 4 45 (423 + (a1 % 365))) = (-1) := by omega
    clear h503 hz502
    refine X.aload_n 36 i218_35 rfl rfl rfl ?_
    refine X.getF 39 i218_36 rfl rfl (by decide) rfl rfl ?_
    refine X.sipush 42 i218_39 rfl rfl (by decide) ?_
    refine X.bipush 44 i218_42 rfl rfl (by decide) ?_
    refine X.aload_n 45 i218_44 rfl rfl rfl ?_
    refine X.iload_n 46 i218_45 rfl rfl rfl ?_
    refine X.callv 49 [zi (a1 % 365)] [zi 7, zi 395, zr 4 45] [(0, zr 4 44), (1, zi (a1 % 365))] i218_46 rfl (by decide) rfl rfl (by omega) rfl rfl (by decide) rfl t219 (Nat.le_of_ble_eq_true rfl) (Nat.le_of_ble_eq_true rfl) rfl ?_
    refine c219_1 (B := B)  (a1 % 365) (by omega) (hJ.up (by omega)) (by omega) (by omega) (fun v506 hv506 hFv506 => ?_)
    show X (EE s) d 218 49 [(0, zr 4 44), (1, zi a1), (2, zi (a1 % 365))] [zi v506, zi 7, zi 395, zr 4 45] m _
    refine X.imul 50 i218_49 rfl rfl (by omega) ?_
    refine X.iadd 51 i218_50 rfl rfl (by omega) ?_
    refine X.iload_n 52 i218_51 rfl rfl rfl ?_
    refine X.bipush 54 i218_52 rfl rfl (by decide) ?_
    refine X.irem 55 i218_54 rfl rfl (by omega) ?_
    refine X.iadd 56 i218_55 rfl rfl (by omega) ?_
    refine X.lald 57 i218_56 rfl rfl (by decide) rfl (by omega) ?_
    have h507 := r45_395 hJ 4 (i := ((395 + (7 * v506)) + (a1 % 7))) (by omega)
    refine X.l2i 58 i218_57 rfl rfl (by omega) ?_
    refine X.reti i218_58 rfl t218 ?_
    exact hQ (m 4 45 ((395 + (7 * v506)) + (a1 % 7))) (by first | trivial | omega) (Eq.trans (if_pos h503c) (Eq.trans (zn_eq hFv506.symm) rfl)) 
  · have h503c : ¬ (m 4 45 (423 + (a1 % 365))) = (-1) := by omega
    clear h503 hz502
    refine X.aload_n 24 i218_23 rfl rfl rfl ?_
    refine X.getF 27 i218_24 rfl rfl (by decide) rfl rfl ?_
    refine X.sipush 30 i218_27 rfl rfl (by decide) ?_
    refine X.iload_n 31 i218_30 rfl rfl rfl ?_
    refine X.iadd 32 i218_31 rfl rfl (by omega) ?_
    refine X.lald 33 i218_32 rfl rfl (by decide) rfl (by omega) ?_
    refine X.l2i 34 i218_33 rfl rfl (by omega) ?_
    refine X.reti i218_34 rfl t218 ?_
    exact hQ (m 4 45 (423 + (a1 % 365))) (by first | trivial | omega) (Eq.trans (if_neg h503c) rfl) 
noncomputable def fl255_13_1_b (self : Int → Int) (k34 : Int → Int) (k136 : Int → Int → Int → Int → Int) (k152 : Int) (y1 : Int) (m : zM) (y2 : Int) : Int :=
  if (y1 + 14) < y2 then
  (k152)
  else
  (if (y2 * 86400) ≤ 2000000000 then
  (zn (f218_1 y2 m) fun v522 =>
  fl255_45_1 (fun y523 y524 =>
  k136 y2 v522 y523 y524) (self (y2 + 1)) y1 y2 v522 m (zfu 8) (-1))
  else
  (k34 y2))
noncomputable def fl255_13_1 (k34 : Int → Int) (k136 : Int → Int → Int → Int → Int) (k152 : Int) (y1 : Int) (m : zM) : Nat → Int → Int
  | 0 => fun y2 => 0
  | n + 1 => fl255_13_1_b (fl255_13_1 k34 k136 k152 y1 m n) k34 k136 k152 y1 m
theorem l255_13_1 {s : Nat × (Nat → Int32)} {S : zS} {m0 : zM} {m : zM} {B : Int} {d : Nat} {Q : Option zV → zM → Prop} {R0 : Int} {k34 : Int → Int} {k136 : Int → Int → Int → Int → Int} {k152 : Int} (y1 : Int) (hd : 16 ≤ d) (hJ : J S m0 B m) (hB9 : B ≤ 1000000000) (hy1 : 0 ≤ y1 ∧ y1 ≤ 23148)
    (K34 : ∀ (x2 : Int) , (0 ≤ x2 ∧ x2 ≤ 23162) → R0 = k34 x2 → X (EE s) d 255 34 [(0, zr 4 44), (1, zi y1), (2, zi x2)] [] m Q)
    (K136 : ∀ (x2 x3 x4 x5 : Int) , (0 ≤ x2 ∧ x2 ≤ 23162) → (0 ≤ x3 ∧ x3 ≤ 7) → ((-1) ≤ x4 ∧ x4 ≤ 5) → (1 ≤ x5 ∧ x5 ≤ 2000000000) → R0 = k136 x2 x3 x4 x5 → X (EE s) d 255 136 [(0, zr 4 44), (1, zi y1), (2, zi x2), (3, zi x3), (4, zi x4), (5, zl x5)] [] m Q)
    (K152 : R0 = k152 → X (EE s) d 255 152 [] [] m Q) :
    ∀ (n : Nat) (y2 : Int) , (0 ≤ y2 ∧ y2 ≤ 23163) → 23163 - y2 < (n : Int) → R0 = fl255_13_1 k34 k136 k152 y1 m n y2 → X (EE s) d 255 13 [(0, zr 4 44), (1, zi y1), (2, zi y2)] [] m Q := by
  intro n
  induction n with
  | zero =>
    intro y2 hy2 hn hR
    exfalso
    omega
  | succ n ih =>
    intro y2 hy2 hn hR
    replace hR : R0 = fl255_13_1_b (fl255_13_1 k34 k136 k152 y1 m n) k34 k136 k152 y1 m y2 := hR
    refine X.iload_n 14 i255_13 rfl rfl rfl ?_
    refine X.iload_n 15 i255_14 rfl rfl rfl ?_
    refine X.bipush 17 i255_15 rfl rfl (by decide) ?_
    refine X.iadd 18 i255_17 rfl rfl (by omega) ?_
    refine X.icmpgt 152 21 i255_18 rfl rfl rfl (fun h517 => ?_) (fun h517 => ?_)
    · refine X.cut [] i255_152 rfl ?_
      exact K152   (Eq.trans hR (Eq.trans (if_pos h517) rfl))
    · refine X.iload_n 22 i255_21 rfl rfl rfl ?_
      refine X.i2l 23 i255_22 rfl rfl ?_
      refine X.ldc2 26 i255_23 rfl rfl (by decide) ?_
      refine X.lmul 27 i255_26 rfl rfl (by omega) ?_
      refine X.ldc2 30 i255_27 rfl rfl (by decide) ?_
      refine X.lcmp 31 i255_30 rfl rfl (fun z518 hz518 => ?_)
      refine X.ifle 36 34 i255_31 rfl rfl rfl (fun h519 => ?_) (fun h519 => ?_)
      · have h519c : (y2 * 86400) ≤ 2000000000 := by omega
        clear h519 hz518
        refine X.aload_n 37 i255_36 rfl rfl rfl ?_
        refine X.iload_n 38 i255_37 rfl rfl rfl ?_
        refine X.callv 41 [zi y2] [] [(0, zr 4 44), (1, zi y2)] i255_38 rfl (by decide) rfl rfl (by omega) rfl rfl (by decide) rfl t218 (Nat.le_of_ble_eq_true rfl) (Nat.le_of_ble_eq_true rfl) rfl ?_
        refine c218_3 (B := B)  y2 (by omega) (hJ.up (by omega)) (by omega) (by omega) (fun v522 hv522 hFv522 => ?_)
        show X (EE s) d 255 41 [(0, zr 4 44), (1, zi y1), (2, zi y2)] [zi v522] m _
        refine X.istore_n 42 [(0, zr 4 44), (1, zi y1), (2, zi y2), (3, zi v522)] i255_41 rfl rfl rfl ?_
        refine X.iconst 43 i255_42 rfl rfl (by decide) ?_
        refine X.istore 45 [(0, zr 4 44), (1, zi y1), (2, zi y2), (3, zi v522), (4, zi (-1))] i255_43 rfl rfl rfl ?_
        have hz8 := zfu_eq 8
        refine l255_45_1 (s := s) (m := m) (B := B) (d := d)  y1 y2 v522  (by omega) (hJ.up (by omega)) (by omega) (by omega) (by omega) (by omega) (fun y523 y524 hby523 hby524 hR528 => ?_) (fun  hR532 => ?_) (zfu 8) (-1) (by omega) (by omega) (Eq.trans hR (Eq.trans (if_neg h517) (Eq.trans (if_pos h519c) (Eq.trans (zn_eq hFv522.symm) rfl))))
        · exact K136 y2 v522 y523 y524 (by first | trivial | omega) (by first | trivial | omega) (by first | trivial | omega) (by first | trivial | omega) (Eq.trans hR528 rfl)
        · refine X.iinc 149 [(0, zr 4 44), (1, zi y1), (2, zi (y2 + 1))] i255_146 rfl rfl rfl (by omega) rfl ?_
          refine X.goto 13 i255_149 rfl rfl ?_
          exact ih (y2 + 1) (by omega) (by omega) (Eq.trans hR532 rfl)
      · have h519c : ¬ (y2 * 86400) ≤ 2000000000 := by omega
        clear h519 hz518
        exact K34 y2 (by first | trivial | omega) (Eq.trans hR (Eq.trans (if_neg h517) (Eq.trans (if_neg h519c) rfl)))
-- WorkMeterModel.nextTime
noncomputable def f255_1 (m : zM) : Int :=
  fl255_13_1 (fun y502 =>
  (-1)) (fun y507 y508 y509 y510 =>
  y510) ((-1)) ((m 4 45 0) / 86400) m (zfu 23164) ((m 4 45 0) / 86400)
-- WorkMeterModel.nextTime
theorem c255_1 {s : Nat × (Nat → Int32)} {S : zS} {m0 m : zM} {B : Int} {d : Nat} {Q : Option zV → zM → Prop} (hd : 16 ≤ d) (hJ : J S m0 B m) (hB : B + 0 ≤ 1000000000) (hQ : ∀ (v : Int), ((-1) ≤ v ∧ v ≤ 2000000000) → f255_1 m = v → Q (some (zi v)) m) : X (EE s) d 255 0 [(0, zr 4 44)] [] m Q := by
  refine X.aload_n 1 i255_0 rfl rfl rfl ?_
  refine X.getF 4 i255_1 rfl rfl (by decide) rfl rfl ?_
  refine X.iconst 5 i255_4 rfl rfl (by decide) ?_
  refine X.lald 6 i255_5 rfl rfl (by decide) rfl (by omega) ?_
  have h501 := r45_0 hJ 4
  refine X.l2i 7 i255_6 rfl rfl (by omega) ?_
  refine X.ldc 9 i255_7 rfl rfl (by decide) ?_
  refine X.idiv 10 i255_9 rfl rfl (by omega) ?_
  refine X.istore_n 11 [(0, zr 4 44), (1, zi ((m 4 45 0) / 86400))] i255_10 rfl rfl rfl ?_
  refine X.iload_n 12 i255_11 rfl rfl rfl ?_
  refine X.istore_n 13 [(0, zr 4 44), (1, zi ((m 4 45 0) / 86400)), (2, zi ((m 4 45 0) / 86400))] i255_12 rfl rfl rfl ?_
  have hz23164 := zfu_eq 23164
  refine l255_13_1 (s := s) (m := m) (B := B) (d := d) (R0 := (f255_1 m))  ((m 4 45 0) / 86400)  (by omega) (hJ.up (by omega)) (by omega) (by omega) (fun y502 hby502 hR506 => ?_) (fun y507 y508 y509 y510 hby507 hby508 hby509 hby510 hR514 => ?_) (fun  hR518 => ?_) (zfu 23164) ((m 4 45 0) / 86400) (by omega) (by omega) rfl
  · refine X.iconst 35 i255_34 rfl rfl (by decide) ?_
    refine X.reti i255_35 rfl t255 ?_
    exact hQ (-1) (by first | trivial | omega) (Eq.trans hR506 rfl) 
  · refine X.lload 138 i255_136 rfl rfl rfl ?_
    refine X.l2i 139 i255_138 rfl rfl (by omega) ?_
    refine X.reti i255_139 rfl t255 ?_
    exact hQ y510 (by first | trivial | omega) (Eq.trans hR514 rfl) 
  · refine X.iconst 153 i255_152 rfl rfl (by decide) ?_
    refine X.reti i255_153 rfl t255 ?_
    exact hQ (-1) (by first | trivial | omega) (Eq.trans hR518 rfl) 
-- WorkMeterModel.next
noncomputable def f254_1 (a1 : Int) (m : zM) : Int :=
  zn (f255_1 m) fun v503 =>
  zn (if v503 = (-1) then
  ((-1))
  else
  (if a1 = 0 then
  (v503)
  else
  (if a1 = 1 then
  (zn (f217_1 v503 m) fun v509 =>
  v509)
  else
  ((-1))))) fun v510 =>
  v510
-- WorkMeterModel.next
theorem c254_1 {s : Nat × (Nat → Int32)} {S : zS} {m0 m : zM} {B : Int} {d : Nat} {Q : Option zV → zM → Prop} (a1 : Int) (hd : 17 ≤ d) (hJ : J S m0 B m) (hB : B + 0 ≤ 1000000000) (ha1 : (-2147483648) ≤ a1 ∧ a1 ≤ 2147483647) (hQ : ∀ (v : Int), ((-1) ≤ v ∧ v ≤ 2000000000) → f254_1 a1 m = v → Q (some (zi v)) m) : X (EE s) d 254 0 [(0, zr 4 44), (1, zi a1)] [] m Q := by
  refine X.aload_n 1 i254_0 rfl rfl rfl ?_
  refine X.callv 4 [] [] [(0, zr 4 44)] i254_1 rfl (by decide) rfl rfl (by omega) rfl rfl (by decide) rfl t255 (Nat.le_of_ble_eq_true rfl) (Nat.le_of_ble_eq_true rfl) rfl ?_
  refine c255_1 (B := B)   (by omega) (hJ.up (by omega)) (by omega)  (fun v503 hv503 hFv503 => ?_)
  show X (EE s) d 254 4 [(0, zr 4 44), (1, zi a1)] [zi v503] m _
  refine X.istore_n 5 [(0, zr 4 44), (1, zi a1), (2, zi v503)] i254_4 rfl rfl rfl ?_
  refine X.iload_n 6 i254_5 rfl rfl rfl ?_
  refine X.iconst 7 i254_6 rfl rfl (by decide) ?_
  have hK513 : ∀ (v : Int) , ((-1) ≤ v ∧ v ≤ 2000000000) → (if v503 = (-1) then
      ((-1))
      else
      (if a1 = 0 then
      (v503)
      else
      (if a1 = 1 then
      (zn (f217_1 v503 m) fun v509 =>
      v509)
      else
      ((-1))))) = v → X (EE s) d 254 36 [] [zi v] m Q := by
    intro v510 hv510 hT514
    refine X.reti i254_36 rfl t254 ?_
    exact hQ v510 (by first | trivial | omega) (Eq.trans (zn_eq hFv503.symm) (Eq.trans (zn_eq hT514.symm) rfl)) 
  refine X.icmpne 14 10 i254_7 rfl rfl rfl (fun h504 => ?_) (fun h504 => ?_)
  · refine X.iload_n 15 i254_14 rfl rfl rfl ?_
    refine X.ifne 22 18 i254_15 rfl rfl rfl (fun h505 => ?_) (fun h505 => ?_)
    · refine X.iload_n 23 i254_22 rfl rfl rfl ?_
      refine X.iconst 24 i254_23 rfl rfl (by decide) ?_
      refine X.icmpne 35 27 i254_24 rfl rfl rfl (fun h506 => ?_) (fun h506 => ?_)
      · refine X.cut [] i254_35 rfl ?_
        refine X.iconst 36 i254_35 rfl rfl (by decide) ?_
        exact hK513 (-1) (by first | trivial | omega) (Eq.trans (if_neg h504) (Eq.trans (if_neg h505) (Eq.trans (if_neg h506) rfl)))
      · refine X.aload_n 28 i254_27 rfl rfl rfl ?_
        refine X.iload_n 29 i254_28 rfl rfl rfl ?_
        refine X.callv 32 [zi v503] [] [(0, zr 4 44), (1, zi v503)] i254_29 rfl (by decide) rfl rfl (by omega) rfl rfl (by decide) rfl t217 (Nat.le_of_ble_eq_true rfl) (Nat.le_of_ble_eq_true rfl) rfl ?_
        refine c217_1 (B := B)  v503 (by omega) (hJ.up (by omega)) (by omega) (by omega) (fun v509 hv509 hFv509 => ?_)
        show X (EE s) d 254 32 [(0, zr 4 44), (1, zi a1), (2, zi v503)] [zi v509] m _
        refine X.goto 36 i254_32 rfl rfl ?_
        refine X.cut [] i254_36 rfl ?_
        exact hK513 v509 (by first | trivial | omega) (Eq.trans (if_neg h504) (Eq.trans (if_neg h505) (Eq.trans (if_pos h506) (Eq.trans (zn_eq hFv509.symm) rfl))))
    · refine X.iload_n 19 i254_18 rfl rfl rfl ?_
      refine X.goto 36 i254_19 rfl rfl ?_
      refine X.cut [] i254_36 rfl ?_
      exact hK513 v503 (by first | trivial | omega) (Eq.trans (if_neg h504) (Eq.trans (if_pos h505) rfl))
  · refine X.iconst 11 i254_10 rfl rfl (by decide) ?_
    refine X.goto 36 i254_11 rfl rfl ?_
    refine X.cut [] i254_36 rfl ?_
    exact hK513 (-1) (by first | trivial | omega) (Eq.trans (if_pos h504) rfl)
-- WorkMeter.marked
noncomputable def f154_1 (a1 a2 : Int) (m : zM) : Int :=
  if a1 < 0 then
  ((-1))
  else
  (if a1 < 5 then
  (if a2 = 0 then
  (zn (f40_1 0 a1 m) fun v506 =>
  zn (if v506 = 0 then
  (0)
  else
  (1)) fun v508 =>
  v508)
  else
  (if a2 = 1 then
  ((m 0 34 a1))
  else
  (if a2 = 2 then
  ((m 0 35 a1))
  else
  (if a2 = 3 then
  ((m 0 36 a1))
  else
  ((-1))))))
  else
  ((-1)))
-- WorkMeter.marked
theorem c154_1 {s : Nat × (Nat → Int32)} {S : zS} {m0 m : zM} {B : Int} {d : Nat} {Q : Option zV → zM → Prop} (a1 a2 : Int) (hd : 14 ≤ d) (hJ : J S m0 B m) (hB : B + 0 ≤ 1000000000) (ha1 : (-2147483648) ≤ a1 ∧ a1 ≤ 2147483647) (ha2 : (-2147483648) ≤ a2 ∧ a2 ≤ 2147483647) (hQ : ∀ (v : Int), ((-2147483648) ≤ v ∧ v ≤ 2147483647) → f154_1 a1 a2 m = v → Q (some (zi v)) m) : X (EE s) d 154 0 [(0, zr 4 40), (1, zi a1), (2, zi a2)] [] m Q := by
  refine X.iload_n 1 i154_0 rfl rfl rfl ?_
  refine X.iflt 9 4 i154_1 rfl rfl rfl (fun h501 => ?_) (fun h501 => ?_)
  · refine X.cut [] i154_9 rfl ?_
    refine X.iconst 10 i154_9 rfl rfl (by decide) ?_
    refine X.reti i154_10 rfl t154 ?_
    exact hQ (-1) (by first | trivial | omega) (Eq.trans (if_pos h501) rfl) 
  · refine X.iload_n 5 i154_4 rfl rfl rfl ?_
    refine X.iconst 6 i154_5 rfl rfl (by decide) ?_
    refine X.icmplt 11 9 i154_6 rfl rfl rfl (fun h502 => ?_) (fun h502 => ?_)
    · refine X.iload_n 12 i154_11 rfl rfl rfl ?_
      by_cases h503 : a2 = 0
      · refine X.tsIn 44 0 i154_12 rfl (by omega) rfl rfl ?_
        refine X.cut [(0, zr 4 40), (1, zi a1)] i154_44 rfl ?_
        refine X.aload_n 45 i154_44 rfl rfl rfl ?_
        refine X.getF 48 i154_45 rfl rfl (by decide) rfl rfl ?_
        refine X.getR 51 i154_48 rfl rfl (by decide) rfl rfl ?_
        refine X.iload_n 52 i154_51 rfl rfl rfl ?_
        refine X.callv 55 [zi a1] [] [(0, zr 0 33), (1, zi a1)] i154_52 rfl (by decide) rfl rfl (by omega) rfl rfl (by decide) rfl t40 (Nat.le_of_ble_eq_true rfl) (Nat.le_of_ble_eq_true rfl) rfl ?_
        refine c40_2 (B := B) 0 a1 (by omega) (hJ.up (by omega)) (by omega) (by omega) (fun v506 hv506 hFv506 => ?_)
        show X (EE s) d 154 55 [(0, zr 4 40), (1, zi a1)] [zi v506] m _
        have hK511 : ∀ (v : Int) , (0 ≤ v ∧ v ≤ 1) → (if v506 = 0 then
            (0)
            else
            (1)) = v → X (EE s) d 154 63 [] [zi v] m Q := by
          intro v508 hv508 hT512
          refine X.reti i154_63 rfl t154 ?_
          exact hQ v508 (by first | trivial | omega) (Eq.trans (if_neg h501) (Eq.trans (if_pos h502) (Eq.trans (if_pos h503) (Eq.trans (zn_eq hFv506.symm) (Eq.trans (zn_eq hT512.symm) rfl))))) 
        refine X.ifeq 62 58 i154_55 rfl rfl rfl (fun h507 => ?_) (fun h507 => ?_)
        · refine X.cut [] i154_62 rfl ?_
          refine X.iconst 63 i154_62 rfl rfl (by decide) ?_
          exact hK511 0 (by first | trivial | omega) (Eq.trans (if_pos h507) rfl)
        · refine X.iconst 59 i154_58 rfl rfl (by decide) ?_
          refine X.goto 63 i154_59 rfl rfl ?_
          refine X.cut [] i154_63 rfl ?_
          exact hK511 1 (by first | trivial | omega) (Eq.trans (if_neg h507) rfl)
      by_cases h513 : a2 = 1
      · refine X.tsIn 64 1 i154_12 rfl (by omega) rfl rfl ?_
        refine X.cut [(0, zr 4 40), (1, zi a1)] i154_64 rfl ?_
        refine X.aload_n 65 i154_64 rfl rfl rfl ?_
        refine X.getF 68 i154_65 rfl rfl (by decide) rfl rfl ?_
        refine X.getR 71 i154_68 rfl rfl (by decide) rfl rfl ?_
        refine X.getR 74 i154_71 rfl rfl (by decide) rfl rfl ?_
        refine X.iload_n 75 i154_74 rfl rfl rfl ?_
        refine X.ialdr 76 i154_75 rfl rfl (by decide) rfl (by omega) (fun h514 => ?_)
        refine X.reti i154_76 rfl t154 ?_
        exact hQ (m 0 34 a1) (by first | trivial | omega) (Eq.trans (if_neg h501) (Eq.trans (if_pos h502) (Eq.trans (if_neg h503) (Eq.trans (if_pos h513) rfl)))) 
      by_cases h515 : a2 = 2
      · refine X.tsIn 77 2 i154_12 rfl (by omega) rfl rfl ?_
        refine X.cut [(0, zr 4 40), (1, zi a1)] i154_77 rfl ?_
        refine X.aload_n 78 i154_77 rfl rfl rfl ?_
        refine X.getF 81 i154_78 rfl rfl (by decide) rfl rfl ?_
        refine X.getR 84 i154_81 rfl rfl (by decide) rfl rfl ?_
        refine X.getR 87 i154_84 rfl rfl (by decide) rfl rfl ?_
        refine X.iload_n 88 i154_87 rfl rfl rfl ?_
        refine X.ialdr 89 i154_88 rfl rfl (by decide) rfl (by omega) (fun h516 => ?_)
        refine X.reti i154_89 rfl t154 ?_
        exact hQ (m 0 35 a1) (by first | trivial | omega) (Eq.trans (if_neg h501) (Eq.trans (if_pos h502) (Eq.trans (if_neg h503) (Eq.trans (if_neg h513) (Eq.trans (if_pos h515) rfl))))) 
      by_cases h517 : a2 = 3
      · refine X.tsIn 90 3 i154_12 rfl (by omega) rfl rfl ?_
        refine X.cut [(0, zr 4 40), (1, zi a1)] i154_90 rfl ?_
        refine X.aload_n 91 i154_90 rfl rfl rfl ?_
        refine X.getF 94 i154_91 rfl rfl (by decide) rfl rfl ?_
        refine X.getR 97 i154_94 rfl rfl (by decide) rfl rfl ?_
        refine X.getR 100 i154_97 rfl rfl (by decide) rfl rfl ?_
        refine X.iload_n 101 i154_100 rfl rfl rfl ?_
        refine X.ialdr 102 i154_101 rfl rfl (by decide) rfl (by omega) (fun h518 => ?_)
        refine X.reti i154_102 rfl t154 ?_
        exact hQ (m 0 36 a1) (by first | trivial | omega) (Eq.trans (if_neg h501) (Eq.trans (if_pos h502) (Eq.trans (if_neg h503) (Eq.trans (if_neg h513) (Eq.trans (if_neg h515) (Eq.trans (if_pos h517) rfl)))))) 
      refine X.tsOut 103 i154_12 rfl (by omega) rfl ?_
      refine X.cut [] i154_103 rfl ?_
      refine X.iconst 104 i154_103 rfl rfl (by decide) ?_
      refine X.reti i154_104 rfl t154 ?_
      exact hQ (-1) (by first | trivial | omega) (Eq.trans (if_neg h501) (Eq.trans (if_pos h502) (Eq.trans (if_neg h503) (Eq.trans (if_neg h513) (Eq.trans (if_neg h515) (Eq.trans (if_neg h517) rfl)))))) 
    · refine X.cut [] i154_9 rfl ?_
      refine X.iconst 10 i154_9 rfl rfl (by decide) ?_
      refine X.reti i154_10 rfl t154 ?_
      exact hQ (-1) (by first | trivial | omega) (Eq.trans (if_neg h501) (Eq.trans (if_neg h502) rfl)) 
-- WorkMeterModel.marked
noncomputable def f297_1 (a1 a2 : Int) (m : zM) : Int :=
  if a1 < 0 then
  ((-1))
  else
  (if a1 ≤ 4 then
  (if a2 = 0 then
  (zn (w32 (m 4 45 (40 + a1))) fun z509 =>
  z509)
  else
  (if a2 = 1 then
  (zn (w32 (m 4 45 (45 + a1))) fun z511 =>
  z511)
  else
  (if a2 = 2 then
  (zn (w32 (m 4 45 (50 + a1))) fun z513 =>
  z513)
  else
  (if a2 = 3 then
  (zn (w32 (m 4 45 (55 + a1))) fun z515 =>
  z515)
  else
  ((-1))))))
  else
  ((-1)))
-- WorkMeterModel.marked
theorem c297_1 {s : Nat × (Nat → Int32)} {S : zS} {m0 m : zM} {B : Int} {d : Nat} {Q : Option zV → zM → Prop} (a1 a2 : Int) (hd : 13 ≤ d) (hJ : J S m0 B m) (hB : B + 0 ≤ 1000000000) (ha1 : (-2147483648) ≤ a1 ∧ a1 ≤ 2147483647) (ha2 : (-2147483648) ≤ a2 ∧ a2 ≤ 2147483647) (hQ : ∀ (v : Int), ((-2147483648) ≤ v ∧ v ≤ 2147483647) → f297_1 a1 a2 m = v → Q (some (zi v)) m) : X (EE s) d 297 0 [(0, zr 4 44), (1, zi a1), (2, zi a2)] [] m Q := by
  refine X.iload_n 1 i297_0 rfl rfl rfl ?_
  refine X.i2l 2 i297_1 rfl rfl ?_
  refine X.lconst (y := 0) 3 i297_2 rfl rfl rfl ?_
  refine X.ldc2 6 i297_3 rfl rfl (by decide) ?_
  refine X.calls 9 [zl a1, zl 0, zl 4] [] [(0, zl a1), (2, zl 0), (4, zl 4)] i297_6 (by decide) rfl rfl (by omega) rfl rfl t204 (Nat.le_of_ble_eq_true rfl) (Nat.le_of_ble_eq_true rfl) rfl ?_
  refine X.lload_n 1 i204_0 rfl rfl rfl ?_
  refine X.lload_n 2 i204_1 rfl rfl rfl ?_
  refine X.lcmp 3 i204_2 rfl rfl (fun z501 hz501 => ?_)
  refine X.iflt 17 6 i204_3 rfl rfl rfl (fun h502 => ?_) (fun h502 => ?_)
  · have h502c : a1 < 0 := by omega
    clear h502 hz501
    refine X.cut [] i204_17 rfl ?_
    refine X.iconst 18 i204_17 rfl rfl (by decide) ?_
    refine X.retz i204_18 rfl t204 (by omega) ?_
    show X (EE s) d 297 9 [(0, zr 4 44), (1, zi a1), (2, zi a2)] [zi 0] m _
    refine X.ifne 14 12 i297_9 rfl rfl rfl (fun h503 => (by exfalso; omega)) (fun h503 => ?_)
    refine X.iconst 13 i297_12 rfl rfl (by decide) ?_
    refine X.reti i297_13 rfl t297 ?_
    exact hQ (-1) (by first | trivial | omega) (Eq.trans (if_pos h502c) rfl) 
  · have h502c : ¬ a1 < 0 := by omega
    clear h502 hz501
    refine X.lload_n 7 i204_6 rfl rfl rfl ?_
    refine X.lload 9 i204_7 rfl rfl rfl ?_
    refine X.lcmp 10 i204_9 rfl rfl (fun z504 hz504 => ?_)
    refine X.ifgt 17 13 i204_10 rfl rfl rfl (fun h505 => ?_) (fun h505 => ?_)
    · have h505c : ¬ a1 ≤ 4 := by omega
      clear h505 hz504
      refine X.cut [] i204_17 rfl ?_
      refine X.iconst 18 i204_17 rfl rfl (by decide) ?_
      refine X.retz i204_18 rfl t204 (by omega) ?_
      show X (EE s) d 297 9 [(0, zr 4 44), (1, zi a1), (2, zi a2)] [zi 0] m _
      refine X.ifne 14 12 i297_9 rfl rfl rfl (fun h506 => (by exfalso; omega)) (fun h506 => ?_)
      refine X.iconst 13 i297_12 rfl rfl (by decide) ?_
      refine X.reti i297_13 rfl t297 ?_
      exact hQ (-1) (by first | trivial | omega) (Eq.trans (if_neg h502c) (Eq.trans (if_neg h505c) rfl)) 
    · have h505c : a1 ≤ 4 := by omega
      clear h505 hz504
      refine X.iconst 14 i204_13 rfl rfl (by decide) ?_
      refine X.goto 18 i204_14 rfl rfl ?_
      refine X.cut [] i204_18 rfl ?_
      refine X.retz i204_18 rfl t204 (by omega) ?_
      show X (EE s) d 297 9 [(0, zr 4 44), (1, zi a1), (2, zi a2)] [zi 1] m _
      refine X.ifne 14 12 i297_9 rfl rfl rfl (fun h507 => ?_) (fun h507 => (by exfalso; omega))
      refine X.iload_n 15 i297_14 rfl rfl rfl ?_
      by_cases h508 : a2 = 0
      · refine X.tsIn 44 0 i297_15 rfl (by omega) rfl rfl ?_
        refine X.cut [(0, zr 4 44), (1, zi a1)] i297_44 rfl ?_
        refine X.aload_n 45 i297_44 rfl rfl rfl ?_
        refine X.getF 48 i297_45 rfl rfl (by decide) rfl rfl ?_
        refine X.bipush 50 i297_48 rfl rfl (by decide) ?_
        refine X.iload_n 51 i297_50 rfl rfl rfl ?_
        refine X.iadd 52 i297_51 rfl rfl (by omega) ?_
        refine X.lald 53 i297_52 rfl rfl (by decide) rfl (by omega) ?_
        refine X.l2iW 54 i297_53 rfl rfl (fun z509 ez509 hz509 => ?_)
        refine X.reti i297_54 rfl t297 ?_
        exact hQ z509 (by first | trivial | omega) (Eq.trans (if_neg h502c) (Eq.trans (if_pos h505c) (Eq.trans (if_pos h508) (Eq.trans (zn_eq ez509) rfl)))) 
      by_cases h510 : a2 = 1
      · refine X.tsIn 55 1 i297_15 rfl (by omega) rfl rfl ?_
        refine X.cut [(0, zr 4 44), (1, zi a1)] i297_55 rfl ?_
        refine X.aload_n 56 i297_55 rfl rfl rfl ?_
        refine X.getF 59 i297_56 rfl rfl (by decide) rfl rfl ?_
        refine X.bipush 61 i297_59 rfl rfl (by decide) ?_
        refine X.iload_n 62 i297_61 rfl rfl rfl ?_
        refine X.iadd 63 i297_62 rfl rfl (by omega) ?_
        refine X.lald 64 i297_63 rfl rfl (by decide) rfl (by omega) ?_
        refine X.l2iW 65 i297_64 rfl rfl (fun z511 ez511 hz511 => ?_)
        refine X.reti i297_65 rfl t297 ?_
        exact hQ z511 (by first | trivial | omega) (Eq.trans (if_neg h502c) (Eq.trans (if_pos h505c) (Eq.trans (if_neg h508) (Eq.trans (if_pos h510) (Eq.trans (zn_eq ez511) rfl))))) 
      by_cases h512 : a2 = 2
      · refine X.tsIn 66 2 i297_15 rfl (by omega) rfl rfl ?_
        refine X.cut [(0, zr 4 44), (1, zi a1)] i297_66 rfl ?_
        refine X.aload_n 67 i297_66 rfl rfl rfl ?_
        refine X.getF 70 i297_67 rfl rfl (by decide) rfl rfl ?_
        refine X.bipush 72 i297_70 rfl rfl (by decide) ?_
        refine X.iload_n 73 i297_72 rfl rfl rfl ?_
        refine X.iadd 74 i297_73 rfl rfl (by omega) ?_
        refine X.lald 75 i297_74 rfl rfl (by decide) rfl (by omega) ?_
        refine X.l2iW 76 i297_75 rfl rfl (fun z513 ez513 hz513 => ?_)
        refine X.reti i297_76 rfl t297 ?_
        exact hQ z513 (by first | trivial | omega) (Eq.trans (if_neg h502c) (Eq.trans (if_pos h505c) (Eq.trans (if_neg h508) (Eq.trans (if_neg h510) (Eq.trans (if_pos h512) (Eq.trans (zn_eq ez513) rfl)))))) 
      by_cases h514 : a2 = 3
      · refine X.tsIn 77 3 i297_15 rfl (by omega) rfl rfl ?_
        refine X.cut [(0, zr 4 44), (1, zi a1)] i297_77 rfl ?_
        refine X.aload_n 78 i297_77 rfl rfl rfl ?_
        refine X.getF 81 i297_78 rfl rfl (by decide) rfl rfl ?_
        refine X.bipush 83 i297_81 rfl rfl (by decide) ?_
        refine X.iload_n 84 i297_83 rfl rfl rfl ?_
        refine X.iadd 85 i297_84 rfl rfl (by omega) ?_
        refine X.lald 86 i297_85 rfl rfl (by decide) rfl (by omega) ?_
        refine X.l2iW 87 i297_86 rfl rfl (fun z515 ez515 hz515 => ?_)
        refine X.reti i297_87 rfl t297 ?_
        exact hQ z515 (by first | trivial | omega) (Eq.trans (if_neg h502c) (Eq.trans (if_pos h505c) (Eq.trans (if_neg h508) (Eq.trans (if_neg h510) (Eq.trans (if_neg h512) (Eq.trans (if_pos h514) (Eq.trans (zn_eq ez515) rfl))))))) 
      refine X.tsOut 88 i297_15 rfl (by omega) rfl ?_
      refine X.cut [] i297_88 rfl ?_
      refine X.iconst 89 i297_88 rfl rfl (by decide) ?_
      refine X.reti i297_89 rfl t297 ?_
      exact hQ (-1) (by first | trivial | omega) (Eq.trans (if_neg h502c) (Eq.trans (if_pos h505c) (Eq.trans (if_neg h508) (Eq.trans (if_neg h510) (Eq.trans (if_neg h512) (Eq.trans (if_neg h514) rfl)))))) 
-- WorkMeter.load
noncomputable def f155_1 (a1 a2 : Int) (m : zM) : Int :=
  if a1 = (-1) then
  ((min (m 0 27 2) 64))
  else
  (if a1 < 0 then
  ((-1))
  else
  (if (min (m 0 27 2) 64) ≤ a1 then
  ((-1))
  else
  (if a2 < 0 then
  ((-1))
  else
  (if a2 < 6 then
  ((m 0 28 ((((((m 0 27 2) - 1) - a1) % 64) * 6) + a2)))
  else
  ((-1))))))
-- WorkMeter.load
theorem c155_1 {s : Nat × (Nat → Int32)} {S : zS} {m0 m : zM} {B : Int} {d : Nat} {Q : Option zV → zM → Prop} (a1 a2 : Int) (hd : 14 ≤ d) (hJ : J S m0 B m) (hB : B + 0 ≤ 1000000000) (ha1 : (-2147483648) ≤ a1 ∧ a1 ≤ 2147483647) (ha2 : (-2147483648) ≤ a2 ∧ a2 ≤ 2147483647) (hQ : ∀ (v : Int), (True) → f155_1 a1 a2 m = v → Q (some (zl v)) m) : X (EE s) d 155 0 [(0, zr 4 40), (1, zi a1), (2, zi a2)] [] m Q := by
  refine X.aload_n 1 i155_0 rfl rfl rfl ?_
  refine X.getF 4 i155_1 rfl rfl (by decide) rfl rfl ?_
  refine X.getR 7 i155_4 rfl rfl (by decide) rfl rfl ?_
  refine X.callv 10 [] [] [(0, zr 0 27)] i155_7 rfl (by decide) rfl rfl (by omega) rfl rfl (by decide) rfl t66 (Nat.le_of_ble_eq_true rfl) (Nat.le_of_ble_eq_true rfl) rfl ?_
  refine X.aload_n 1 i66_0 rfl rfl rfl ?_
  refine X.getI 4 2 i66_1 rfl rfl (by decide) rfl rfl rfl ?_
  have h501 := r27_2 hJ 0
  refine X.bipush 6 i66_4 rfl rfl (by decide) ?_
  refine X.minI 9 i66_6 rfl rfl (by omega) (Nat.le_of_ble_eq_true rfl) ?_
  refine X.reti i66_9 rfl t66 ?_
  show X (EE s) d 155 10 [(0, zr 4 40), (1, zi a1), (2, zi a2)] [zi (min (m 0 27 2) 64)] m _
  refine X.istore_n 11 [(0, zr 4 40), (1, zi a1), (2, zi a2), (3, zi (min (m 0 27 2) 64))] i155_10 rfl rfl rfl ?_
  refine X.iload_n 12 i155_11 rfl rfl rfl ?_
  refine X.iconst 13 i155_12 rfl rfl (by decide) ?_
  refine X.icmpne 19 16 i155_13 rfl rfl rfl (fun h502 => ?_) (fun h502 => ?_)
  · refine X.iload_n 20 i155_19 rfl rfl rfl ?_
    refine X.iflt 38 23 i155_20 rfl rfl rfl (fun h503 => ?_) (fun h503 => ?_)
    · refine X.cut [] i155_38 rfl ?_
      refine X.ldc2 41 i155_38 rfl rfl (by decide) ?_
      refine X.retl i155_41 rfl t155 ?_
      exact hQ (-1) (by first | trivial | omega) (Eq.trans (if_neg h502) (Eq.trans (if_pos h503) rfl)) 
    · refine X.iload_n 24 i155_23 rfl rfl rfl ?_
      refine X.iload_n 25 i155_24 rfl rfl rfl ?_
      refine X.icmpge 38 28 i155_25 rfl rfl rfl (fun h504 => ?_) (fun h504 => ?_)
      · refine X.cut [] i155_38 rfl ?_
        refine X.ldc2 41 i155_38 rfl rfl (by decide) ?_
        refine X.retl i155_41 rfl t155 ?_
        exact hQ (-1) (by first | trivial | omega) (Eq.trans (if_neg h502) (Eq.trans (if_neg h503) (Eq.trans (if_pos h504) rfl))) 
      · refine X.iload_n 29 i155_28 rfl rfl rfl ?_
        refine X.iflt 38 32 i155_29 rfl rfl rfl (fun h505 => ?_) (fun h505 => ?_)
        · refine X.cut [] i155_38 rfl ?_
          refine X.ldc2 41 i155_38 rfl rfl (by decide) ?_
          refine X.retl i155_41 rfl t155 ?_
          exact hQ (-1) (by first | trivial | omega) (Eq.trans (if_neg h502) (Eq.trans (if_neg h503) (Eq.trans (if_neg h504) (Eq.trans (if_pos h505) rfl)))) 
        · refine X.iload_n 33 i155_32 rfl rfl rfl ?_
          refine X.bipush 35 i155_33 rfl rfl (by decide) ?_
          refine X.icmplt 42 38 i155_35 rfl rfl rfl (fun h506 => ?_) (fun h506 => ?_)
          · refine X.cut [(0, zr 4 40), (1, zi a1), (2, zi a2)] i155_42 rfl ?_
            refine X.aload_n 43 i155_42 rfl rfl rfl ?_
            refine X.getF 46 i155_43 rfl rfl (by decide) rfl rfl ?_
            refine X.getR 49 i155_46 rfl rfl (by decide) rfl rfl ?_
            refine X.iload_n 50 i155_49 rfl rfl rfl ?_
            refine X.iload_n 51 i155_50 rfl rfl rfl ?_
            refine X.callv 54 [zi a1, zi a2] [] [(0, zr 0 27), (1, zi a1), (2, zi a2)] i155_51 rfl (by decide) rfl rfl (by omega) rfl rfl (by decide) rfl t67 (Nat.le_of_ble_eq_true rfl) (Nat.le_of_ble_eq_true rfl) rfl ?_
            refine X.aload_n 1 i67_0 rfl rfl rfl ?_
            refine X.getR 4 i67_1 rfl rfl (by decide) rfl rfl ?_
            refine X.aload_n 5 i67_4 rfl rfl rfl ?_
            refine X.getI 8 2 i67_5 rfl rfl (by decide) rfl rfl rfl ?_
            refine X.iconst 9 i67_8 rfl rfl (by decide) ?_
            refine X.isub 10 i67_9 rfl rfl (by omega) ?_
            refine X.iload_n 11 i67_10 rfl rfl rfl ?_
            refine X.isub 12 i67_11 rfl rfl (by omega) ?_
            refine X.bipush 14 i67_12 rfl rfl (by decide) ?_
            refine X.irem 15 i67_14 rfl rfl (by omega) ?_
            refine X.bipush 17 i67_15 rfl rfl (by decide) ?_
            refine X.imul 18 i67_17 rfl rfl (by omega) ?_
            refine X.iload_n 19 i67_18 rfl rfl rfl ?_
            refine X.iadd 20 i67_19 rfl rfl (by omega) ?_
            refine X.lald 21 i67_20 rfl rfl (by decide) rfl (by omega) ?_
            refine X.retl i67_21 rfl t67 ?_
            show X (EE s) d 155 54 [(0, zr 4 40), (1, zi a1), (2, zi a2)] [zl (m 0 28 ((((((m 0 27 2) - 1) - a1) % 64) * 6) + a2))] m _
            refine X.retl i155_54 rfl t155 ?_
            exact hQ (m 0 28 ((((((m 0 27 2) - 1) - a1) % 64) * 6) + a2)) (by first | trivial | omega) (Eq.trans (if_neg h502) (Eq.trans (if_neg h503) (Eq.trans (if_neg h504) (Eq.trans (if_neg h505) (Eq.trans (if_pos h506) rfl))))) 
          · refine X.cut [] i155_38 rfl ?_
            refine X.ldc2 41 i155_38 rfl rfl (by decide) ?_
            refine X.retl i155_41 rfl t155 ?_
            exact hQ (-1) (by first | trivial | omega) (Eq.trans (if_neg h502) (Eq.trans (if_neg h503) (Eq.trans (if_neg h504) (Eq.trans (if_neg h505) (Eq.trans (if_neg h506) rfl))))) 
  · refine X.iload_n 17 i155_16 rfl rfl rfl ?_
    refine X.i2l 18 i155_17 rfl rfl ?_
    refine X.retl i155_18 rfl t155 ?_
    exact hQ (min (m 0 27 2) 64) (by first | trivial | omega) (Eq.trans (if_pos h502) rfl) 
-- WorkMeterModel.line
theorem c234_7 {s : Nat × (Nat → Int32)} {S : zS} {m0 m : zM} {B : Int} {d : Nat} {Q : Option zV → zM → Prop} (a1 a2 : Int) (hd : 13 ≤ d) (hJ : J S m0 B m) (hB : B + 0 ≤ 1000000000) (ha1 : (-64) ≤ a1 ∧ a1 ≤ 63) (ha2 : 0 ≤ a2 ∧ a2 ≤ 5) (hQ : ∀ (v : Int), (True) → f234_1 a1 a2 m = v → Q (some (zl v)) m) : X (EE s) d 234 0 [(0, zr 4 44), (1, zi a1), (2, zi a2)] [] m Q := by
  refine X.aload_n 1 i234_0 rfl rfl rfl ?_
  refine X.getF 4 i234_1 rfl rfl (by decide) rfl rfl ?_
  refine X.sipush 7 i234_4 rfl rfl (by decide) ?_
  refine X.bipush 9 i234_7 rfl rfl (by decide) ?_
  refine X.iload_n 10 i234_9 rfl rfl rfl ?_
  refine X.imul 11 i234_10 rfl rfl (by omega) ?_
  refine X.iadd 12 i234_11 rfl rfl (by omega) ?_
  refine X.iload_n 13 i234_12 rfl rfl rfl ?_
  refine X.iadd 14 i234_13 rfl rfl (by omega) ?_
  refine X.lald 15 i234_14 rfl rfl (by decide) rfl (by omega) ?_
  refine X.retl i234_15 rfl t234 ?_
  exact hQ (m 4 45 ((788 + (6 * a1)) + a2)) (by first | trivial | omega) rfl 
-- WorkMeterModel.load
noncomputable def f298_1 (a1 a2 : Int) (m : zM) : Int :=
  if a1 = (-1) then
  (zn (f235_1 m) fun v527 =>
  v527)
  else
  (zn (f235_1 m) fun v504 =>
  if a1 < 0 then
  ((-1))
  else
  (if a1 ≤ (v504 - 1) then
  (if a2 < 0 then
  ((-1))
  else
  (if a2 ≤ 5 then
  (zn (f235_1 m) fun v521 =>
  zn (f234_1 ((v521 - 1) - a1) a2 m) fun v524 =>
  v524)
  else
  ((-1))))
  else
  ((-1))))
-- WorkMeterModel.load
theorem c298_1 {s : Nat × (Nat → Int32)} {S : zS} {m0 m : zM} {B : Int} {d : Nat} {Q : Option zV → zM → Prop} (a1 a2 : Int) (hd : 14 ≤ d) (hJ : J S m0 B m) (hB : B + 0 ≤ 1000000000) (ha1 : (-2147483648) ≤ a1 ∧ a1 ≤ 2147483647) (ha2 : (-2147483648) ≤ a2 ∧ a2 ≤ 2147483647) (hQ : ∀ (v : Int), (True) → f298_1 a1 a2 m = v → Q (some (zl v)) m) : X (EE s) d 298 0 [(0, zr 4 44), (1, zi a1), (2, zi a2)] [] m Q := by
  refine X.iload_n 1 i298_0 rfl rfl rfl ?_
  refine X.iconst 2 i298_1 rfl rfl (by decide) ?_
  refine X.icmpne 11 5 i298_2 rfl rfl rfl (fun h501 => ?_) (fun h501 => ?_)
  · refine X.iload_n 12 i298_11 rfl rfl rfl ?_
    refine X.i2l 13 i298_12 rfl rfl ?_
    refine X.lconst (y := 0) 14 i298_13 rfl rfl rfl ?_
    refine X.aload_n 15 i298_14 rfl rfl rfl ?_
    refine X.callv 18 [] [zl 0, zl a1] [(0, zr 4 44)] i298_15 rfl (by decide) rfl rfl (by omega) rfl rfl (by decide) rfl t235 (Nat.le_of_ble_eq_true rfl) (Nat.le_of_ble_eq_true rfl) rfl ?_
    refine c235_1 (B := B)   (by omega) (hJ.up (by omega)) (by omega)  (fun v504 hv504 hFv504 => ?_)
    show X (EE s) d 298 18 [(0, zr 4 44), (1, zi a1), (2, zi a2)] [zi v504, zl 0, zl a1] m _
    refine X.iconst 19 i298_18 rfl rfl (by decide) ?_
    refine X.isub 20 i298_19 rfl rfl (by omega) ?_
    refine X.i2l 21 i298_20 rfl rfl ?_
    refine X.calls 24 [zl a1, zl 0, zl (v504 - 1)] [] [(0, zl a1), (2, zl 0), (4, zl (v504 - 1))] i298_21 (by decide) rfl rfl (by omega) rfl rfl t204 (Nat.le_of_ble_eq_true rfl) (Nat.le_of_ble_eq_true rfl) rfl ?_
    refine X.lload_n 1 i204_0 rfl rfl rfl ?_
    refine X.lload_n 2 i204_1 rfl rfl rfl ?_
    refine X.lcmp 3 i204_2 rfl rfl (fun z505 hz505 => ?_)
    refine X.iflt 17 6 i204_3 rfl rfl rfl (fun h506 => ?_) (fun h506 => ?_)
    · have h506c : a1 < 0 := by omega
      clear h506 hz505
      refine X.cut [] i204_17 rfl ?_
      refine X.iconst 18 i204_17 rfl rfl (by decide) ?_
      refine X.retz i204_18 rfl t204 (by omega) ?_
      show X (EE s) d 298 24 [(0, zr 4 44), (1, zi a1), (2, zi a2)] [zi 0] m _
      refine X.ifeq 55 27 i298_24 rfl rfl rfl (fun h507 => ?_) (fun h507 => (by exfalso; omega))
      refine X.cut [] i298_55 rfl ?_
      refine X.ldc2 58 i298_55 rfl rfl (by decide) ?_
      refine X.retl i298_58 rfl t298 ?_
      exact hQ (-1) (by first | trivial | omega) (Eq.trans (if_neg h501) (Eq.trans (zn_eq hFv504.symm) (Eq.trans (if_pos h506c) rfl))) 
    · have h506c : ¬ a1 < 0 := by omega
      clear h506 hz505
      refine X.lload_n 7 i204_6 rfl rfl rfl ?_
      refine X.lload 9 i204_7 rfl rfl rfl ?_
      refine X.lcmp 10 i204_9 rfl rfl (fun z508 hz508 => ?_)
      refine X.ifgt 17 13 i204_10 rfl rfl rfl (fun h509 => ?_) (fun h509 => ?_)
      · have h509c : ¬ a1 ≤ (v504 - 1) := by omega
        clear h509 hz508
        refine X.cut [] i204_17 rfl ?_
        refine X.iconst 18 i204_17 rfl rfl (by decide) ?_
        refine X.retz i204_18 rfl t204 (by omega) ?_
        show X (EE s) d 298 24 [(0, zr 4 44), (1, zi a1), (2, zi a2)] [zi 0] m _
        refine X.ifeq 55 27 i298_24 rfl rfl rfl (fun h510 => ?_) (fun h510 => (by exfalso; omega))
        refine X.cut [] i298_55 rfl ?_
        refine X.ldc2 58 i298_55 rfl rfl (by decide) ?_
        refine X.retl i298_58 rfl t298 ?_
        exact hQ (-1) (by first | trivial | omega) (Eq.trans (if_neg h501) (Eq.trans (zn_eq hFv504.symm) (Eq.trans (if_neg h506c) (Eq.trans (if_neg h509c) rfl)))) 
      · have h509c : a1 ≤ (v504 - 1) := by omega
        clear h509 hz508
        refine X.iconst 14 i204_13 rfl rfl (by decide) ?_
        refine X.goto 18 i204_14 rfl rfl ?_
        refine X.cut [] i204_18 rfl ?_
        refine X.retz i204_18 rfl t204 (by omega) ?_
        show X (EE s) d 298 24 [(0, zr 4 44), (1, zi a1), (2, zi a2)] [zi 1] m _
        refine X.ifeq 55 27 i298_24 rfl rfl rfl (fun h511 => (by exfalso; omega)) (fun h511 => ?_)
        refine X.iload_n 28 i298_27 rfl rfl rfl ?_
        refine X.i2l 29 i298_28 rfl rfl ?_
        refine X.lconst (y := 0) 30 i298_29 rfl rfl rfl ?_
        refine X.ldc2 33 i298_30 rfl rfl (by decide) ?_
        refine X.calls 36 [zl a2, zl 0, zl 5] [] [(0, zl a2), (2, zl 0), (4, zl 5)] i298_33 (by decide) rfl rfl (by omega) rfl rfl t204 (Nat.le_of_ble_eq_true rfl) (Nat.le_of_ble_eq_true rfl) rfl ?_
        refine X.lload_n 1 i204_0 rfl rfl rfl ?_
        refine X.lload_n 2 i204_1 rfl rfl rfl ?_
        refine X.lcmp 3 i204_2 rfl rfl (fun z512 hz512 => ?_)
        refine X.iflt 17 6 i204_3 rfl rfl rfl (fun h513 => ?_) (fun h513 => ?_)
        · have h513c : a2 < 0 := by omega
          clear h513 hz512
          refine X.cut [] i204_17 rfl ?_
          refine X.iconst 18 i204_17 rfl rfl (by decide) ?_
          refine X.retz i204_18 rfl t204 (by omega) ?_
          show X (EE s) d 298 36 [(0, zr 4 44), (1, zi a1), (2, zi a2)] [zi 0] m _
          refine X.ifeq 55 39 i298_36 rfl rfl rfl (fun h514 => ?_) (fun h514 => (by exfalso; omega))
          refine X.cut [] i298_55 rfl ?_
          refine X.ldc2 58 i298_55 rfl rfl (by decide) ?_
          refine X.retl i298_58 rfl t298 ?_
          exact hQ (-1) (by first | trivial | omega) (Eq.trans (if_neg h501) (Eq.trans (zn_eq hFv504.symm) (Eq.trans (if_neg h506c) (Eq.trans (if_pos h509c) (Eq.trans (if_pos h513c) rfl))))) 
        · have h513c : ¬ a2 < 0 := by omega
          clear h513 hz512
          refine X.lload_n 7 i204_6 rfl rfl rfl ?_
          refine X.lload 9 i204_7 rfl rfl rfl ?_
          refine X.lcmp 10 i204_9 rfl rfl (fun z515 hz515 => ?_)
          refine X.ifgt 17 13 i204_10 rfl rfl rfl (fun h516 => ?_) (fun h516 => ?_)
          · have h516c : ¬ a2 ≤ 5 := by omega
            clear h516 hz515
            refine X.cut [] i204_17 rfl ?_
            refine X.iconst 18 i204_17 rfl rfl (by decide) ?_
            refine X.retz i204_18 rfl t204 (by omega) ?_
            show X (EE s) d 298 36 [(0, zr 4 44), (1, zi a1), (2, zi a2)] [zi 0] m _
            refine X.ifeq 55 39 i298_36 rfl rfl rfl (fun h517 => ?_) (fun h517 => (by exfalso; omega))
            refine X.cut [] i298_55 rfl ?_
            refine X.ldc2 58 i298_55 rfl rfl (by decide) ?_
            refine X.retl i298_58 rfl t298 ?_
            exact hQ (-1) (by first | trivial | omega) (Eq.trans (if_neg h501) (Eq.trans (zn_eq hFv504.symm) (Eq.trans (if_neg h506c) (Eq.trans (if_pos h509c) (Eq.trans (if_neg h513c) (Eq.trans (if_neg h516c) rfl)))))) 
          · have h516c : a2 ≤ 5 := by omega
            clear h516 hz515
            refine X.iconst 14 i204_13 rfl rfl (by decide) ?_
            refine X.goto 18 i204_14 rfl rfl ?_
            refine X.cut [] i204_18 rfl ?_
            refine X.retz i204_18 rfl t204 (by omega) ?_
            show X (EE s) d 298 36 [(0, zr 4 44), (1, zi a1), (2, zi a2)] [zi 1] m _
            refine X.ifeq 55 39 i298_36 rfl rfl rfl (fun h518 => (by exfalso; omega)) (fun h518 => ?_)
            refine X.aload_n 40 i298_39 rfl rfl rfl ?_
            refine X.aload_n 41 i298_40 rfl rfl rfl ?_
            refine X.callv 44 [] [zr 4 44] [(0, zr 4 44)] i298_41 rfl (by decide) rfl rfl (by omega) rfl rfl (by decide) rfl t235 (Nat.le_of_ble_eq_true rfl) (Nat.le_of_ble_eq_true rfl) rfl ?_
            refine c235_1 (B := B)   (by omega) (hJ.up (by omega)) (by omega)  (fun v521 hv521 hFv521 => ?_)
            show X (EE s) d 298 44 [(0, zr 4 44), (1, zi a1), (2, zi a2)] [zi v521, zr 4 44] m _
            refine X.iconst 45 i298_44 rfl rfl (by decide) ?_
            refine X.isub 46 i298_45 rfl rfl (by omega) ?_
            refine X.iload_n 47 i298_46 rfl rfl rfl ?_
            refine X.isub 48 i298_47 rfl rfl (by omega) ?_
            refine X.iload_n 49 i298_48 rfl rfl rfl ?_
            refine X.callv 52 [zi ((v521 - 1) - a1), zi a2] [] [(0, zr 4 44), (1, zi ((v521 - 1) - a1)), (2, zi a2)] i298_49 rfl (by decide) rfl rfl (by omega) rfl rfl (by decide) rfl t234 (Nat.le_of_ble_eq_true rfl) (Nat.le_of_ble_eq_true rfl) rfl ?_
            refine c234_7 (B := B)  ((v521 - 1) - a1) a2 (by omega) (hJ.up (by omega)) (by omega) (by omega) (by omega) (fun v524 hv524 hFv524 => ?_)
            show X (EE s) d 298 52 [(0, zr 4 44), (1, zi a1), (2, zi a2)] [zl v524] m _
            refine X.goto 58 i298_52 rfl rfl ?_
            refine X.cut [] i298_58 rfl ?_
            refine X.retl i298_58 rfl t298 ?_
            exact hQ v524 (by first | trivial | omega) (Eq.trans (if_neg h501) (Eq.trans (zn_eq hFv504.symm) (Eq.trans (if_neg h506c) (Eq.trans (if_pos h509c) (Eq.trans (if_neg h513c) (Eq.trans (if_pos h516c) (Eq.trans (zn_eq hFv521.symm) (Eq.trans (zn_eq hFv524.symm) rfl)))))))) 
  · refine X.aload_n 6 i298_5 rfl rfl rfl ?_
    refine X.callv 9 [] [] [(0, zr 4 44)] i298_6 rfl (by decide) rfl rfl (by omega) rfl rfl (by decide) rfl t235 (Nat.le_of_ble_eq_true rfl) (Nat.le_of_ble_eq_true rfl) rfl ?_
    refine c235_1 (B := B)   (by omega) (hJ.up (by omega)) (by omega)  (fun v527 hv527 hFv527 => ?_)
    show X (EE s) d 298 9 [(0, zr 4 44), (1, zi a1), (2, zi a2)] [zi v527] m _
    refine X.i2l 10 i298_9 rfl rfl ?_
    refine X.retl i298_10 rfl t298 ?_
    exact hQ v527 (by first | trivial | omega) (Eq.trans (if_pos h501) (Eq.trans (zn_eq hFv527.symm) rfl)) 
-- WorkMeter.block
noncomputable def f156_1 (a1 : Int) (m : zM) : Int :=
  if a1 = 0 then
  ((m 0 27 3))
  else
  (if a1 = 1 then
  ((m 0 27 4))
  else
  (if a1 = 2 then
  ((m 0 27 5))
  else
  (if a1 = 3 then
  ((m 0 27 6))
  else
  (if a1 = 4 then
  ((m 0 27 7))
  else
  (if a1 = 5 then
  (zn (f61_1 0 (max 1 (m 0 10 4)) m) fun v512 =>
  v512)
  else
  ((-1)))))))
-- WorkMeter.block
theorem c156_1 {s : Nat × (Nat → Int32)} {S : zS} {m0 m : zM} {B : Int} {d : Nat} {Q : Option zV → zM → Prop} (a1 : Int) (hd : 14 ≤ d) (hJ : J S m0 B m) (hB : B + 0 ≤ 1000000000) (ha1 : (-2147483648) ≤ a1 ∧ a1 ≤ 2147483647) (hQ : ∀ (v : Int), (True) → f156_1 a1 m = v → Q (some (zl v)) m) : X (EE s) d 156 0 [(0, zr 4 40), (1, zi a1)] [] m Q := by
  refine X.iload_n 1 i156_0 rfl rfl rfl ?_
  by_cases h501 : a1 = 0
  · refine X.tsIn 40 0 i156_1 rfl (by omega) rfl rfl ?_
    refine X.cut [(0, zr 4 40)] i156_40 rfl ?_
    refine X.aload_n 41 i156_40 rfl rfl rfl ?_
    refine X.getF 44 i156_41 rfl rfl (by decide) rfl rfl ?_
    refine X.getR 47 i156_44 rfl rfl (by decide) rfl rfl ?_
    refine X.getL 50 3 i156_47 rfl rfl (by decide) rfl rfl rfl ?_
    refine X.retl i156_50 rfl t156 ?_
    exact hQ (m 0 27 3) (by first | trivial | omega) (Eq.trans (if_pos h501) rfl) 
  by_cases h502 : a1 = 1
  · refine X.tsIn 51 1 i156_1 rfl (by omega) rfl rfl ?_
    refine X.cut [(0, zr 4 40)] i156_51 rfl ?_
    refine X.aload_n 52 i156_51 rfl rfl rfl ?_
    refine X.getF 55 i156_52 rfl rfl (by decide) rfl rfl ?_
    refine X.getR 58 i156_55 rfl rfl (by decide) rfl rfl ?_
    refine X.getL 61 4 i156_58 rfl rfl (by decide) rfl rfl rfl ?_
    refine X.retl i156_61 rfl t156 ?_
    exact hQ (m 0 27 4) (by first | trivial | omega) (Eq.trans (if_neg h501) (Eq.trans (if_pos h502) rfl)) 
  by_cases h503 : a1 = 2
  · refine X.tsIn 62 2 i156_1 rfl (by omega) rfl rfl ?_
    refine X.cut [(0, zr 4 40)] i156_62 rfl ?_
    refine X.aload_n 63 i156_62 rfl rfl rfl ?_
    refine X.getF 66 i156_63 rfl rfl (by decide) rfl rfl ?_
    refine X.getR 69 i156_66 rfl rfl (by decide) rfl rfl ?_
    refine X.getL 72 5 i156_69 rfl rfl (by decide) rfl rfl rfl ?_
    refine X.retl i156_72 rfl t156 ?_
    exact hQ (m 0 27 5) (by first | trivial | omega) (Eq.trans (if_neg h501) (Eq.trans (if_neg h502) (Eq.trans (if_pos h503) rfl))) 
  by_cases h504 : a1 = 3
  · refine X.tsIn 73 3 i156_1 rfl (by omega) rfl rfl ?_
    refine X.cut [(0, zr 4 40)] i156_73 rfl ?_
    refine X.aload_n 74 i156_73 rfl rfl rfl ?_
    refine X.getF 77 i156_74 rfl rfl (by decide) rfl rfl ?_
    refine X.getR 80 i156_77 rfl rfl (by decide) rfl rfl ?_
    refine X.getIr 83 6 i156_80 rfl rfl (by decide) rfl rfl rfl (fun h505 => ?_)
    refine X.i2l 84 i156_83 rfl rfl ?_
    refine X.retl i156_84 rfl t156 ?_
    exact hQ (m 0 27 6) (by first | trivial | omega) (Eq.trans (if_neg h501) (Eq.trans (if_neg h502) (Eq.trans (if_neg h503) (Eq.trans (if_pos h504) rfl)))) 
  by_cases h506 : a1 = 4
  · refine X.tsIn 85 4 i156_1 rfl (by omega) rfl rfl ?_
    refine X.cut [(0, zr 4 40)] i156_85 rfl ?_
    refine X.aload_n 86 i156_85 rfl rfl rfl ?_
    refine X.getF 89 i156_86 rfl rfl (by decide) rfl rfl ?_
    refine X.getR 92 i156_89 rfl rfl (by decide) rfl rfl ?_
    refine X.getIr 95 7 i156_92 rfl rfl (by decide) rfl rfl rfl (fun h507 => ?_)
    refine X.i2l 96 i156_95 rfl rfl ?_
    refine X.retl i156_96 rfl t156 ?_
    exact hQ (m 0 27 7) (by first | trivial | omega) (Eq.trans (if_neg h501) (Eq.trans (if_neg h502) (Eq.trans (if_neg h503) (Eq.trans (if_neg h504) (Eq.trans (if_pos h506) rfl))))) 
  by_cases h508 : a1 = 5
  · refine X.tsIn 97 5 i156_1 rfl (by omega) rfl rfl ?_
    refine X.cut [(0, zr 4 40)] i156_97 rfl ?_
    refine X.aload_n 98 i156_97 rfl rfl rfl ?_
    refine X.getF 101 i156_98 rfl rfl (by decide) rfl rfl ?_
    refine X.getR 104 i156_101 rfl rfl (by decide) rfl rfl ?_
    refine X.aload_n 105 i156_104 rfl rfl rfl ?_
    refine X.getF 108 i156_105 rfl rfl (by decide) rfl rfl ?_
    refine X.getR 111 i156_108 rfl rfl (by decide) rfl rfl ?_
    refine X.callv 114 [] [zr 0 27] [(0, zr 0 9)] i156_111 rfl (by decide) rfl rfl (by omega) rfl rfl (by decide) rfl t36 (Nat.le_of_ble_eq_true rfl) (Nat.le_of_ble_eq_true rfl) rfl ?_
    refine X.iconst 1 i36_0 rfl rfl (by decide) ?_
    refine X.aload_n 2 i36_1 rfl rfl rfl ?_
    refine X.getR 5 i36_2 rfl rfl (by decide) rfl rfl ?_
    refine X.iconst 6 i36_5 rfl rfl (by decide) ?_
    refine X.iald 7 i36_6 rfl rfl (by decide) rfl (by omega) ?_
    have h509 := r10_0 hJ 0 (i := 4) (by omega)
    refine X.maxI 10 i36_7 rfl rfl (by omega) (Nat.le_of_ble_eq_true rfl) ?_
    refine X.reti i36_10 rfl t36 ?_
    show X (EE s) d 156 114 [(0, zr 4 40)] [zi (max 1 (m 0 10 4)), zr 0 27] m _
    refine X.callv 117 [zi (max 1 (m 0 10 4))] [] [(0, zr 0 27), (1, zi (max 1 (m 0 10 4)))] i156_114 rfl (by decide) rfl rfl (by omega) rfl rfl (by decide) rfl t61 (Nat.le_of_ble_eq_true rfl) (Nat.le_of_ble_eq_true rfl) rfl ?_
    refine c61_1 (B := B) 0 (max 1 (m 0 10 4)) (by omega) (hJ.up (by omega)) (by omega) (by omega) (fun v512 hv512 hFv512 => ?_)
    show X (EE s) d 156 117 [(0, zr 4 40)] [zi v512] m _
    refine X.i2l 118 i156_117 rfl rfl ?_
    refine X.retl i156_118 rfl t156 ?_
    exact hQ v512 (by first | trivial | omega) (Eq.trans (if_neg h501) (Eq.trans (if_neg h502) (Eq.trans (if_neg h503) (Eq.trans (if_neg h504) (Eq.trans (if_neg h506) (Eq.trans (if_pos h508) (Eq.trans (zn_eq hFv512.symm) rfl))))))) 
  refine X.tsOut 119 i156_1 rfl (by omega) rfl ?_
  refine X.cut [] i156_119 rfl ?_
  refine X.ldc2 122 i156_119 rfl rfl (by decide) ?_
  refine X.retl i156_122 rfl t156 ?_
  exact hQ (-1) (by first | trivial | omega) (Eq.trans (if_neg h501) (Eq.trans (if_neg h502) (Eq.trans (if_neg h503) (Eq.trans (if_neg h504) (Eq.trans (if_neg h506) (Eq.trans (if_neg h508) rfl)))))) 
-- WorkMeterModel.block
noncomputable def f299_1 (a1 : Int) (m : zM) : Int :=
  if a1 = 0 then
  ((m 4 45 22))
  else
  (if a1 = 1 then
  ((m 4 45 23))
  else
  (if a1 = 2 then
  ((m 4 45 24))
  else
  (if a1 = 3 then
  ((m 4 45 25))
  else
  (if a1 = 4 then
  ((m 4 45 26))
  else
  (if a1 = 5 then
  (zn (if (m 4 45 26) ≤ 0 then
  (0)
  else
  (32)) fun v509 =>
  zn (zorL (m 4 45 27) v509) fun z514 =>
  zn (if (m 4 45 21) = 1 then
  (128)
  else
  (0)) fun v517 =>
  zn (zorL z514 v517) fun z522 =>
  z522)
  else
  ((-1)))))))
end
