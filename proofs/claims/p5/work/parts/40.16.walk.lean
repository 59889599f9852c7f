-- WorkMeterModel.period
noncomputable def f237_1 (a1 a2 : Int) (m : zM) : Int :=
  if a1 = (-1) then
  (zn (f209_1 0 m) fun v506 =>
  zn (f209_1 1 m) fun v510 =>
  zn ((v506 * v506)) fun z511 =>
  zn ((v510 * v510)) fun z512 =>
  zn (f214_1 (z511 + z512) m) fun v515 =>
  if a2 = 0 then
  (v506)
  else
  (if a2 = 1 then
  (v510)
  else
  (if a2 = 2 then
  (zn (f209_1 2 m) fun v522 =>
  v522)
  else
  (if a2 = 3 then
  (zn (f209_1 3 m) fun v527 =>
  v527)
  else
  (if a2 = 4 then
  (v515)
  else
  (if a2 = 5 then
  (zn (f221_1 v506 v510 m) fun v532 =>
  v532)
  else
  (if a2 = 6 then
  (zn (f238_1 95 m) fun v537 =>
  v537)
  else
  (if a2 = 7 then
  (zn (f238_1 143 m) fun v542 =>
  v542)
  else
  (if a2 = 8 then
  (zn (f239_1 v506 v515 m) fun v546 =>
  v546)
  else
  ((-10000000000)))))))))))
  else
  (if a1 < 0 then
  ((-10000000000))
  else
  (if a1 ≤ ((m 4 45 1) - 1) then
  (zn (f210_1 a1 m) fun v559 =>
  zn (f212_1 a1 m) fun v563 =>
  zn ((v559 * v559)) fun z564 =>
  zn ((v563 * v563)) fun z565 =>
  zn (f214_1 (z564 + z565) m) fun v568 =>
  if a2 = 0 then
  (v559)
  else
  (if a2 = 1 then
  (v563)
  else
  (if a2 = 2 then
  (zn (f213_1 95 a1 m) fun v575 =>
  v575)
  else
  (if a2 = 3 then
  (zn (f213_1 143 a1 m) fun v580 =>
  v580)
  else
  (if a2 = 4 then
  (v568)
  else
  (if a2 = 5 then
  (zn (f221_1 v559 v563 m) fun v585 =>
  v585)
  else
  (if a2 = 6 then
  (zn (f213_1 95 a1 m) fun v590 =>
  zn ((v590 / (m 4 45 2))) fun z592 =>
  zn (f214_1 z592 m) fun v595 =>
  v595)
  else
  (if a2 = 7 then
  (zn (f213_1 143 a1 m) fun v600 =>
  zn ((v600 / (m 4 45 2))) fun z602 =>
  zn (f214_1 z602 m) fun v605 =>
  v605)
  else
  (if a2 = 8 then
  (zn (f239_1 v559 v568 m) fun v609 =>
  v609)
  else
  ((-10000000000)))))))))))
  else
  ((-10000000000))))
-- WorkMeterModel.period
theorem c237_1 {s : Nat × (Nat → Int32)} {S : zS} {m0 m : zM} {B : Int} {d : Nat} {Q : Option zV → zM → Prop} (a1 a2 : Int) (hd : 15 ≤ d) (hJ : J S m0 B m) (hB : B + 0 ≤ 1000000000) (ha1 : (-2147483648) ≤ a1 ∧ a1 ≤ 2147483647) (ha2 : (-2147483648) ≤ a2 ∧ a2 ≤ 2147483647) (hQ : ∀ (v : Int), ((-12000000000) ≤ v ∧ v ≤ 12000000000) → f237_1 a1 a2 m = v → Q (some (zl v)) m) : X (EE s) d 237 0 [(0, zr 4 44), (1, zi a1), (2, zi a2)] [] m Q := by
  refine X.iload_n 1 i237_0 rfl rfl rfl ?_
  refine X.iconst 2 i237_1 rfl rfl (by decide) ?_
  refine X.icmpeq 25 5 i237_2 rfl rfl rfl (fun h501 => ?_) (fun h501 => ?_)
  · refine X.iload_n 26 i237_25 rfl rfl rfl ?_
    refine X.iconst 27 i237_26 rfl rfl (by decide) ?_
    refine X.icmpne 34 30 i237_27 rfl rfl rfl (fun h502 => (by exfalso; omega)) (fun h502 => ?_)
    refine X.iconst 31 i237_30 rfl rfl (by decide) ?_
    refine X.goto 35 i237_31 rfl rfl ?_
    refine X.istore_n 36 [(0, zr 4 44), (1, zi a1), (2, zi a2), (3, zi 1)] i237_35 rfl rfl rfl ?_
    refine X.iload_n 37 i237_36 rfl rfl rfl ?_
    refine X.ifeq 48 40 i237_37 rfl rfl rfl (fun h503 => (by exfalso; omega)) (fun h503 => ?_)
    refine X.aload_n 41 i237_40 rfl rfl rfl ?_
    refine X.iconst 42 i237_41 rfl rfl (by decide) ?_
    refine X.callv 45 [zi 0] [] [(0, zr 4 44), (1, zi 0)] i237_42 rfl (by decide) rfl rfl (by omega) rfl rfl (by decide) rfl t209 (Nat.le_of_ble_eq_true rfl) (Nat.le_of_ble_eq_true rfl) rfl ?_
    refine c209_1 (B := B)  0 (by omega) (hJ.up (by omega)) (by omega) (by omega) (fun v506 hv506 hFv506 => ?_)
    show X (EE s) d 237 45 [(0, zr 4 44), (1, zi a1), (2, zi a2), (3, zi 1)] [zl v506] m _
    refine X.goto 53 i237_45 rfl rfl ?_
    refine X.lstore 55 [(0, zr 4 44), (1, zi a1), (2, zi a2), (3, zi 1), (4, zl v506)] i237_53 rfl rfl rfl ?_
    refine X.iload_n 56 i237_55 rfl rfl rfl ?_
    refine X.ifeq 67 59 i237_56 rfl rfl rfl (fun h507 => (by exfalso; omega)) (fun h507 => ?_)
    refine X.aload_n 60 i237_59 rfl rfl rfl ?_
    refine X.iconst 61 i237_60 rfl rfl (by decide) ?_
    refine X.callv 64 [zi 1] [] [(0, zr 4 44), (1, zi 1)] i237_61 rfl (by decide) rfl rfl (by omega) rfl rfl (by decide) rfl t209 (Nat.le_of_ble_eq_true rfl) (Nat.le_of_ble_eq_true rfl) rfl ?_
    refine c209_1 (B := B)  1 (by omega) (hJ.up (by omega)) (by omega) (by omega) (fun v510 hv510 hFv510 => ?_)
    show X (EE s) d 237 64 [(0, zr 4 44), (1, zi a1), (2, zi a2), (3, zi 1), (4, zl v506)] [zl v510] m _
    refine X.goto 72 i237_64 rfl rfl ?_
    refine X.lstore 74 [(0, zr 4 44), (1, zi a1), (2, zi a2), (3, zi 1), (4, zl v506), (6, zl v510)] i237_72 rfl rfl rfl ?_
    refine X.lload 76 i237_74 rfl rfl rfl ?_
    refine X.lload 78 i237_76 rfl rfl rfl ?_
    have hz511 := z_sqr (e := 12000000) (x := v506) (by omega)
    refine X.lmul 79 i237_78 rfl rfl (z_in3 hz511 (by decide) (by decide)) ?_
    obtain ⟨z511, ez511⟩ : ∃ z, z = (v506 * v506) := ⟨_, rfl⟩
    rw [← ez511] at hz511 ⊢
    have gz511 : 0 ≤ z511 ∧ z511 ≤ 144000000000000 := z_in3 hz511 (by decide) (by decide)
    clear hz511
    refine X.lload 81 i237_79 rfl rfl rfl ?_
    refine X.lload 83 i237_81 rfl rfl rfl ?_
    have hz512 := z_sqr (e := 12000000) (x := v510) (by omega)
    refine X.lmul 84 i237_83 rfl rfl (z_in3 hz512 (by decide) (by decide)) ?_
    obtain ⟨z512, ez512⟩ : ∃ z, z = (v510 * v510) := ⟨_, rfl⟩
    rw [← ez512] at hz512 ⊢
    have gz512 : 0 ≤ z512 ∧ z512 ≤ 144000000000000 := z_in3 hz512 (by decide) (by decide)
    clear hz512
    refine X.ladd 85 i237_84 rfl rfl (by omega) ?_
    refine X.calls 88 [zl (z511 + z512)] [] [(0, zl (z511 + z512))] i237_85 (by decide) rfl rfl (by omega) rfl rfl t214 (Nat.le_of_ble_eq_true rfl) (Nat.le_of_ble_eq_true rfl) rfl ?_
    refine c214_1 (B := B)  (z511 + z512) (by omega) (hJ.up (by omega)) (by omega) (by omega) (fun v515 hv515 hFv515 => ?_)
    show X (EE s) d 237 88 [(0, zr 4 44), (1, zi a1), (2, zi a2), (3, zi 1), (4, zl v506), (6, zl v510)] [zl v515] m _
    refine X.lstore 90 [(0, zr 4 44), (1, zi a1), (2, zi a2), (3, zi 1), (4, zl v506), (6, zl v510), (8, zl v515)] i237_88 rfl rfl rfl ?_
    refine X.iload_n 91 i237_90 rfl rfl rfl ?_
    by_cases h516 : a2 = 0
    · refine X.tsIn 140 0 i237_91 rfl (by omega) rfl rfl ?_
      refine X.cut [(4, zl v506)] i237_140 rfl ?_
      refine X.lload 142 i237_140 rfl rfl rfl ?_
      refine X.retl i237_142 rfl t237 ?_
      exact hQ v506 (by first | trivial | omega) (Eq.trans (if_pos h501) (Eq.trans (zn_eq hFv506.symm) (Eq.trans (zn_eq hFv510.symm) (Eq.trans (zn_eq ez511) (Eq.trans (zn_eq ez512) (Eq.trans (zn_eq hFv515.symm) (Eq.trans (if_pos h516) rfl))))))) 
    by_cases h517 : a2 = 1
    · refine X.tsIn 143 1 i237_91 rfl (by omega) rfl rfl ?_
      refine X.cut [(6, zl v510)] i237_143 rfl ?_
      refine X.lload 145 i237_143 rfl rfl rfl ?_
      refine X.retl i237_145 rfl t237 ?_
      exact hQ v510 (by first | trivial | omega) (Eq.trans (if_pos h501) (Eq.trans (zn_eq hFv506.symm) (Eq.trans (zn_eq hFv510.symm) (Eq.trans (zn_eq ez511) (Eq.trans (zn_eq ez512) (Eq.trans (zn_eq hFv515.symm) (Eq.trans (if_neg h516) (Eq.trans (if_pos h517) rfl)))))))) 
    by_cases h518 : a2 = 2
    · refine X.tsIn 146 2 i237_91 rfl (by omega) rfl rfl ?_
      refine X.cut [(0, zr 4 44), (1, zi a1), (3, zi 1)] i237_146 rfl ?_
      refine X.iload_n 147 i237_146 rfl rfl rfl ?_
      refine X.ifeq 158 150 i237_147 rfl rfl rfl (fun h519 => (by exfalso; omega)) (fun h519 => ?_)
      refine X.aload_n 151 i237_150 rfl rfl rfl ?_
      refine X.iconst 152 i237_151 rfl rfl (by decide) ?_
      refine X.callv 155 [zi 2] [] [(0, zr 4 44), (1, zi 2)] i237_152 rfl (by decide) rfl rfl (by omega) rfl rfl (by decide) rfl t209 (Nat.le_of_ble_eq_true rfl) (Nat.le_of_ble_eq_true rfl) rfl ?_
      refine c209_1 (B := B)  2 (by omega) (hJ.up (by omega)) (by omega) (by omega) (fun v522 hv522 hFv522 => ?_)
      show X (EE s) d 237 155 [(0, zr 4 44), (1, zi a1), (3, zi 1)] [zl v522] m _
      refine X.goto 165 i237_155 rfl rfl ?_
      refine X.cut [] i237_165 rfl ?_
      refine X.retl i237_165 rfl t237 ?_
      exact hQ v522 (by first | trivial | omega) (Eq.trans (if_pos h501) (Eq.trans (zn_eq hFv506.symm) (Eq.trans (zn_eq hFv510.symm) (Eq.trans (zn_eq ez511) (Eq.trans (zn_eq ez512) (Eq.trans (zn_eq hFv515.symm) (Eq.trans (if_neg h516) (Eq.trans (if_neg h517) (Eq.trans (if_pos h518) (Eq.trans (zn_eq hFv522.symm) rfl)))))))))) 
    by_cases h523 : a2 = 3
    · refine X.tsIn 166 3 i237_91 rfl (by omega) rfl rfl ?_
      refine X.cut [(0, zr 4 44), (1, zi a1), (3, zi 1)] i237_166 rfl ?_
      refine X.iload_n 167 i237_166 rfl rfl rfl ?_
      refine X.ifeq 178 170 i237_167 rfl rfl rfl (fun h524 => (by exfalso; omega)) (fun h524 => ?_)
      refine X.aload_n 171 i237_170 rfl rfl rfl ?_
      refine X.iconst 172 i237_171 rfl rfl (by decide) ?_
      refine X.callv 175 [zi 3] [] [(0, zr 4 44), (1, zi 3)] i237_172 rfl (by decide) rfl rfl (by omega) rfl rfl (by decide) rfl t209 (Nat.le_of_ble_eq_true rfl) (Nat.le_of_ble_eq_true rfl) rfl ?_
      refine c209_1 (B := B)  3 (by omega) (hJ.up (by omega)) (by omega) (by omega) (fun v527 hv527 hFv527 => ?_)
      show X (EE s) d 237 175 [(0, zr 4 44), (1, zi a1), (3, zi 1)] [zl v527] m _
      refine X.goto 186 i237_175 rfl rfl ?_
      refine X.cut [] i237_186 rfl ?_
      refine X.retl i237_186 rfl t237 ?_
      exact hQ v527 (by first | trivial | omega) (Eq.trans (if_pos h501) (Eq.trans (zn_eq hFv506.symm) (Eq.trans (zn_eq hFv510.symm) (Eq.trans (zn_eq ez511) (Eq.trans (zn_eq ez512) (Eq.trans (zn_eq hFv515.symm) (Eq.trans (if_neg h516) (Eq.trans (if_neg h517) (Eq.trans (if_neg h518) (Eq.trans (if_pos h523) (Eq.trans (zn_eq hFv527.symm) rfl))))))))))) 
    by_cases h528 : a2 = 4
    · refine X.tsIn 187 4 i237_91 rfl (by omega) rfl rfl ?_
      refine X.cut [(8, zl v515)] i237_187 rfl ?_
      refine X.lload 189 i237_187 rfl rfl rfl ?_
      refine X.retl i237_189 rfl t237 ?_
      exact hQ v515 (by first | trivial | omega) (Eq.trans (if_pos h501) (Eq.trans (zn_eq hFv506.symm) (Eq.trans (zn_eq hFv510.symm) (Eq.trans (zn_eq ez511) (Eq.trans (zn_eq ez512) (Eq.trans (zn_eq hFv515.symm) (Eq.trans (if_neg h516) (Eq.trans (if_neg h517) (Eq.trans (if_neg h518) (Eq.trans (if_neg h523) (Eq.trans (if_pos h528) rfl))))))))))) 
    by_cases h529 : a2 = 5
    · refine X.tsIn 190 5 i237_91 rfl (by omega) rfl rfl ?_
      refine X.cut [(4, zl v506), (6, zl v510)] i237_190 rfl ?_
      refine X.lload 192 i237_190 rfl rfl rfl ?_
      refine X.lload 194 i237_192 rfl rfl rfl ?_
      refine X.calls 197 [zl v506, zl v510] [] [(0, zl v506), (2, zl v510)] i237_194 (by decide) rfl rfl (by omega) rfl rfl t221 (Nat.le_of_ble_eq_true rfl) (Nat.le_of_ble_eq_true rfl) rfl ?_
      refine c221_1 (B := B)  v506 v510 (by omega) (hJ.up (by omega)) (by omega) (by omega) (by omega) (fun v532 hv532 hFv532 => ?_)
      show X (EE s) d 237 197 [(4, zl v506), (6, zl v510)] [zi v532] m _
      refine X.i2l 198 i237_197 rfl rfl ?_
      refine X.retl i237_198 rfl t237 ?_
      exact hQ v532 (by first | trivial | omega) (Eq.trans (if_pos h501) (Eq.trans (zn_eq hFv506.symm) (Eq.trans (zn_eq hFv510.symm) (Eq.trans (zn_eq ez511) (Eq.trans (zn_eq ez512) (Eq.trans (zn_eq hFv515.symm) (Eq.trans (if_neg h516) (Eq.trans (if_neg h517) (Eq.trans (if_neg h518) (Eq.trans (if_neg h523) (Eq.trans (if_neg h528) (Eq.trans (if_pos h529) (Eq.trans (zn_eq hFv532.symm) rfl))))))))))))) 
    by_cases h533 : a2 = 6
    · refine X.tsIn 199 6 i237_91 rfl (by omega) rfl rfl ?_
      refine X.cut [(0, zr 4 44), (1, zi a1), (3, zi 1)] i237_199 rfl ?_
      refine X.iload_n 200 i237_199 rfl rfl rfl ?_
      refine X.ifeq 212 203 i237_200 rfl rfl rfl (fun h534 => (by exfalso; omega)) (fun h534 => ?_)
      refine X.aload_n 204 i237_203 rfl rfl rfl ?_
      refine X.bipush 206 i237_204 rfl rfl (by decide) ?_
      refine X.callv 209 [zi 95] [] [(0, zr 4 44), (1, zi 95)] i237_206 rfl (by decide) rfl rfl (by omega) rfl rfl (by decide) rfl t238 (Nat.le_of_ble_eq_true rfl) (Nat.le_of_ble_eq_true rfl) rfl ?_
      refine c238_1 (B := B)  95 (by omega) (hJ.up (by omega)) (by omega) (by omega) (fun v537 hv537 hFv537 => ?_)
      show X (EE s) d 237 209 [(0, zr 4 44), (1, zi a1), (3, zi 1)] [zl v537] m _
      refine X.goto 228 i237_209 rfl rfl ?_
      refine X.cut [] i237_228 rfl ?_
      refine X.retl i237_228 rfl t237 ?_
      exact hQ v537 (by first | trivial | omega) (Eq.trans (if_pos h501) (Eq.trans (zn_eq hFv506.symm) (Eq.trans (zn_eq hFv510.symm) (Eq.trans (zn_eq ez511) (Eq.trans (zn_eq ez512) (Eq.trans (zn_eq hFv515.symm) (Eq.trans (if_neg h516) (Eq.trans (if_neg h517) (Eq.trans (if_neg h518) (Eq.trans (if_neg h523) (Eq.trans (if_neg h528) (Eq.trans (if_neg h529) (Eq.trans (if_pos h533) (Eq.trans (zn_eq hFv537.symm) rfl)))))))))))))) 
    by_cases h538 : a2 = 7
    · refine X.tsIn 229 7 i237_91 rfl (by omega) rfl rfl ?_
      refine X.cut [(0, zr 4 44), (1, zi a1), (3, zi 1)] i237_229 rfl ?_
      refine X.iload_n 230 i237_229 rfl rfl rfl ?_
      refine X.ifeq 243 233 i237_230 rfl rfl rfl (fun h539 => (by exfalso; omega)) (fun h539 => ?_)
      refine X.aload_n 234 i237_233 rfl rfl rfl ?_
      refine X.sipush 237 i237_234 rfl rfl (by decide) ?_
      refine X.callv 240 [zi 143] [] [(0, zr 4 44), (1, zi 143)] i237_237 rfl (by decide) rfl rfl (by omega) rfl rfl (by decide) rfl t238 (Nat.le_of_ble_eq_true rfl) (Nat.le_of_ble_eq_true rfl) rfl ?_
      refine c238_2 (B := B)  143 (by omega) (hJ.up (by omega)) (by omega) (by omega) (fun v542 hv542 hFv542 => ?_)
      show X (EE s) d 237 240 [(0, zr 4 44), (1, zi a1), (3, zi 1)] [zl v542] m _
      refine X.goto 260 i237_240 rfl rfl ?_
      refine X.cut [] i237_260 rfl ?_
      refine X.retl i237_260 rfl t237 ?_
      exact hQ v542 (by first | trivial | omega) (Eq.trans (if_pos h501) (Eq.trans (zn_eq hFv506.symm) (Eq.trans (zn_eq hFv510.symm) (Eq.trans (zn_eq ez511) (Eq.trans (zn_eq ez512) (Eq.trans (zn_eq hFv515.symm) (Eq.trans (if_neg h516) (Eq.trans (if_neg h517) (Eq.trans (if_neg h518) (Eq.trans (if_neg h523) (Eq.trans (if_neg h528) (Eq.trans (if_neg h529) (Eq.trans (if_neg h533) (Eq.trans (if_pos h538) (Eq.trans (zn_eq hFv542.symm) rfl))))))))))))))) 
    by_cases h543 : a2 = 8
    · refine X.tsIn 261 8 i237_91 rfl (by omega) rfl rfl ?_
      refine X.cut [(4, zl v506), (8, zl v515)] i237_261 rfl ?_
      refine X.lload 263 i237_261 rfl rfl rfl ?_
      refine X.lload 265 i237_263 rfl rfl rfl ?_
      refine X.calls 268 [zl v506, zl v515] [] [(0, zl v506), (2, zl v515)] i237_265 (by decide) rfl rfl (by omega) rfl rfl t239 (Nat.le_of_ble_eq_true rfl) (Nat.le_of_ble_eq_true rfl) rfl ?_
      refine c239_1 (B := B)  v506 v515 (by omega) (hJ.up (by omega)) (by omega) (by omega) (by omega) (fun v546 hv546 hFv546 => ?_)
      show X (EE s) d 237 268 [(4, zl v506), (8, zl v515)] [zl v546] m _
      refine X.retl i237_268 rfl t237 ?_
      exact hQ v546 (by first | trivial | omega) (Eq.trans (if_pos h501) (Eq.trans (zn_eq hFv506.symm) (Eq.trans (zn_eq hFv510.symm) (Eq.trans (zn_eq ez511) (Eq.trans (zn_eq ez512) (Eq.trans (zn_eq hFv515.symm) (Eq.trans (if_neg h516) (Eq.trans (if_neg h517) (Eq.trans (if_neg h518) (Eq.trans (if_neg h523) (Eq.trans (if_neg h528) (Eq.trans (if_neg h529) (Eq.trans (if_neg h533) (Eq.trans (if_neg h538) (Eq.trans (if_pos h543) (Eq.trans (zn_eq hFv546.symm) rfl)))))))))))))))) 
    refine X.tsOut 269 i237_91 rfl (by omega) rfl ?_
    refine X.cut [] i237_269 rfl ?_
    refine X.ldc2 272 i237_269 rfl rfl (by decide) ?_
    refine X.retl i237_272 rfl t237 ?_
    exact hQ (-10000000000) (by first | trivial | omega) (Eq.trans (if_pos h501) (Eq.trans (zn_eq hFv506.symm) (Eq.trans (zn_eq hFv510.symm) (Eq.trans (zn_eq ez511) (Eq.trans (zn_eq ez512) (Eq.trans (zn_eq hFv515.symm) (Eq.trans (if_neg h516) (Eq.trans (if_neg h517) (Eq.trans (if_neg h518) (Eq.trans (if_neg h523) (Eq.trans (if_neg h528) (Eq.trans (if_neg h529) (Eq.trans (if_neg h533) (Eq.trans (if_neg h538) (Eq.trans (if_neg h543) rfl))))))))))))))) 
  · refine X.iload_n 6 i237_5 rfl rfl rfl ?_
    refine X.i2l 7 i237_6 rfl rfl ?_
    refine X.lconst (y := 0) 8 i237_7 rfl rfl rfl ?_
    refine X.aload_n 9 i237_8 rfl rfl rfl ?_
    refine X.callv 12 [] [zl 0, zl a1] [(0, zr 4 44)] i237_9 rfl (by decide) rfl rfl (by omega) rfl rfl (by decide) rfl t206 (Nat.le_of_ble_eq_true rfl) (Nat.le_of_ble_eq_true rfl) rfl ?_
    refine X.aload_n 1 i206_0 rfl rfl rfl ?_
    refine X.getF 4 i206_1 rfl rfl (by decide) rfl rfl ?_
    refine X.iconst 5 i206_4 rfl rfl (by decide) ?_
    refine X.lald 6 i206_5 rfl rfl (by decide) rfl (by omega) ?_
    have h547 := r45_1 hJ 4
    refine X.l2i 7 i206_6 rfl rfl (by omega) ?_
    refine X.reti i206_7 rfl t206 ?_
    show X (EE s) d 237 12 [(0, zr 4 44), (1, zi a1), (2, zi a2)] [zi (m 4 45 1), zl 0, zl a1] m _
    refine X.iconst 13 i237_12 rfl rfl (by decide) ?_
    refine X.isub 14 i237_13 rfl rfl (by omega) ?_
    refine X.i2l 15 i237_14 rfl rfl ?_
    refine X.calls 18 [zl a1, zl 0, zl ((m 4 45 1) - 1)] [] [(0, zl a1), (2, zl 0), (4, zl ((m 4 45 1) - 1))] i237_15 (by decide) rfl rfl (by omega) rfl rfl t204 (Nat.le_of_ble_eq_true rfl) (Nat.le_of_ble_eq_true rfl) rfl ?_
    refine X.lload_n 1 i204_0 rfl rfl rfl ?_
    refine X.lload_n 2 i204_1 rfl rfl rfl ?_
    refine X.lcmp 3 i204_2 rfl rfl (fun z548 hz548 => ?_)
    refine X.iflt 17 6 i204_3 rfl rfl rfl (fun h549 => ?_) (fun h549 => ?_)
    · have h549c : a1 < 0 := by omega
      clear h549 hz548
      refine X.cut [] i204_17 rfl ?_
      refine X.iconst 18 i204_17 rfl rfl (by decide) ?_
      refine X.retz i204_18 rfl t204 (by omega) ?_
      show X (EE s) d 237 18 [(0, zr 4 44), (1, zi a1), (2, zi a2)] [zi 0] m _
      refine X.ifne 25 21 i237_18 rfl rfl rfl (fun h550 => (by exfalso; omega)) (fun h550 => ?_)
      refine X.ldc2 24 i237_21 rfl rfl (by decide) ?_
      refine X.retl i237_24 rfl t237 ?_
      exact hQ (-10000000000) (by first | trivial | omega) (Eq.trans (if_neg h501) (Eq.trans (if_pos h549c) rfl)) 
    · have h549c : ¬ a1 < 0 := by omega
      clear h549 hz548
      refine X.lload_n 7 i204_6 rfl rfl rfl ?_
      refine X.lload 9 i204_7 rfl rfl rfl ?_
      refine X.lcmp 10 i204_9 rfl rfl (fun z551 hz551 => ?_)
      refine X.ifgt 17 13 i204_10 rfl rfl rfl (fun h552 => ?_) (fun h552 => ?_)
      · have h552c : ¬ a1 ≤ ((m 4 45 1) - 1) := by omega
        clear h552 hz551
        refine X.cut [] i204_17 rfl ?_
        refine X.iconst 18 i204_17 rfl rfl (by decide) ?_
        refine X.retz i204_18 rfl t204 (by omega) ?_
        show X (EE s) d 237 18 [(0, zr 4 44), (1, zi a1), (2, zi a2)] [zi 0] m _
        refine X.ifne 25 21 i237_18 rfl rfl rfl (fun h553 => (by exfalso; omega)) (fun h553 => ?_)
        refine X.ldc2 24 i237_21 rfl rfl (by decide) ?_
        refine X.retl i237_24 rfl t237 ?_
        exact hQ (-10000000000) (by first | trivial | omega) (Eq.trans (if_neg h501) (Eq.trans (if_neg h549c) (Eq.trans (if_neg h552c) rfl))) 
      · have h552c : a1 ≤ ((m 4 45 1) - 1) := by omega
        clear h552 hz551
        refine X.iconst 14 i204_13 rfl rfl (by decide) ?_
        refine X.goto 18 i204_14 rfl rfl ?_
        refine X.cut [] i204_18 rfl ?_
        refine X.retz i204_18 rfl t204 (by omega) ?_
        show X (EE s) d 237 18 [(0, zr 4 44), (1, zi a1), (2, zi a2)] [zi 1] m _
        refine X.ifne 25 21 i237_18 rfl rfl rfl (fun h554 => ?_) (fun h554 => (by exfalso; omega))
        refine X.iload_n 26 i237_25 rfl rfl rfl ?_
        refine X.iconst 27 i237_26 rfl rfl (by decide) ?_
        refine X.icmpne 34 30 i237_27 rfl rfl rfl (fun h555 => ?_) (fun h555 => (by exfalso; omega))
        refine X.iconst 35 i237_34 rfl rfl (by decide) ?_
        refine X.istore_n 36 [(0, zr 4 44), (1, zi a1), (2, zi a2), (3, zi 0)] i237_35 rfl rfl rfl ?_
        refine X.iload_n 37 i237_36 rfl rfl rfl ?_
        refine X.ifeq 48 40 i237_37 rfl rfl rfl (fun h556 => ?_) (fun h556 => (by exfalso; omega))
        refine X.aload_n 49 i237_48 rfl rfl rfl ?_
        refine X.iload_n 50 i237_49 rfl rfl rfl ?_
        refine X.callv 53 [zi a1] [] [(0, zr 4 44), (1, zi a1)] i237_50 rfl (by decide) rfl rfl (by omega) rfl rfl (by decide) rfl t210 (Nat.le_of_ble_eq_true rfl) (Nat.le_of_ble_eq_true rfl) rfl ?_
        refine c210_1 (B := B)  a1 (by omega) (hJ.up (by omega)) (by omega) (by omega) (fun v559 hv559 hFv559 => ?_)
        show X (EE s) d 237 53 [(0, zr 4 44), (1, zi a1), (2, zi a2), (3, zi 0)] [zl v559] m _
        refine X.lstore 55 [(0, zr 4 44), (1, zi a1), (2, zi a2), (3, zi 0), (4, zl v559)] i237_53 rfl rfl rfl ?_
        refine X.iload_n 56 i237_55 rfl rfl rfl ?_
        refine X.ifeq 67 59 i237_56 rfl rfl rfl (fun h560 => ?_) (fun h560 => (by exfalso; omega))
        refine X.aload_n 68 i237_67 rfl rfl rfl ?_
        refine X.iload_n 69 i237_68 rfl rfl rfl ?_
        refine X.callv 72 [zi a1] [] [(0, zr 4 44), (1, zi a1)] i237_69 rfl (by decide) rfl rfl (by omega) rfl rfl (by decide) rfl t212 (Nat.le_of_ble_eq_true rfl) (Nat.le_of_ble_eq_true rfl) rfl ?_
        refine c212_1 (B := B)  a1 (by omega) (hJ.up (by omega)) (by omega) (by omega) (fun v563 hv563 hFv563 => ?_)
        show X (EE s) d 237 72 [(0, zr 4 44), (1, zi a1), (2, zi a2), (3, zi 0), (4, zl v559)] [zl v563] m _
        refine X.lstore 74 [(0, zr 4 44), (1, zi a1), (2, zi a2), (3, zi 0), (4, zl v559), (6, zl v563)] i237_72 rfl rfl rfl ?_
        refine X.lload 76 i237_74 rfl rfl rfl ?_
        refine X.lload 78 i237_76 rfl rfl rfl ?_
        have hz564 := z_sqr (e := 4000000) (x := v559) (by omega)
        refine X.lmul 79 i237_78 rfl rfl (z_in3 hz564 (by decide) (by decide)) ?_
        obtain ⟨z564, ez564⟩ : ∃ z, z = (v559 * v559) := ⟨_, rfl⟩
        rw [← ez564] at hz564 ⊢
        have gz564 : 0 ≤ z564 ∧ z564 ≤ 16000000000000 := z_in3 hz564 (by decide) (by decide)
        clear hz564
        refine X.lload 81 i237_79 rfl rfl rfl ?_
        refine X.lload 83 i237_81 rfl rfl rfl ?_
        have hz565 := z_sqr (e := 4000000) (x := v563) (by omega)
        refine X.lmul 84 i237_83 rfl rfl (z_in3 hz565 (by decide) (by decide)) ?_
        obtain ⟨z565, ez565⟩ : ∃ z, z = (v563 * v563) := ⟨_, rfl⟩
        rw [← ez565] at hz565 ⊢
        have gz565 : 0 ≤ z565 ∧ z565 ≤ 16000000000000 := z_in3 hz565 (by decide) (by decide)
        clear hz565
        refine X.ladd 85 i237_84 rfl rfl (by omega) ?_
        refine X.calls 88 [zl (z564 + z565)] [] [(0, zl (z564 + z565))] i237_85 (by decide) rfl rfl (by omega) rfl rfl t214 (Nat.le_of_ble_eq_true rfl) (Nat.le_of_ble_eq_true rfl) rfl ?_
        refine c214_1 (B := B)  (z564 + z565) (by omega) (hJ.up (by omega)) (by omega) (by omega) (fun v568 hv568 hFv568 => ?_)
        show X (EE s) d 237 88 [(0, zr 4 44), (1, zi a1), (2, zi a2), (3, zi 0), (4, zl v559), (6, zl v563)] [zl v568] m _
        refine X.lstore 90 [(0, zr 4 44), (1, zi a1), (2, zi a2), (3, zi 0), (4, zl v559), (6, zl v563), (8, zl v568)] i237_88 rfl rfl rfl ?_
        refine X.iload_n 91 i237_90 rfl rfl rfl ?_
        by_cases h569 : a2 = 0
        · refine X.tsIn 140 0 i237_91 rfl (by omega) rfl rfl ?_
          refine X.cut [(4, zl v559)] i237_140 rfl ?_
          refine X.lload 142 i237_140 rfl rfl rfl ?_
          refine X.retl i237_142 rfl t237 ?_
          exact hQ v559 (by first | trivial | omega) (Eq.trans (if_neg h501) (Eq.trans (if_neg h549c) (Eq.trans (if_pos h552c) (Eq.trans (zn_eq hFv559.symm) (Eq.trans (zn_eq hFv563.symm) (Eq.trans (zn_eq ez564) (Eq.trans (zn_eq ez565) (Eq.trans (zn_eq hFv568.symm) (Eq.trans (if_pos h569) rfl))))))))) 
        by_cases h570 : a2 = 1
        · refine X.tsIn 143 1 i237_91 rfl (by omega) rfl rfl ?_
          refine X.cut [(6, zl v563)] i237_143 rfl ?_
          refine X.lload 145 i237_143 rfl rfl rfl ?_
          refine X.retl i237_145 rfl t237 ?_
          exact hQ v563 (by first | trivial | omega) (Eq.trans (if_neg h501) (Eq.trans (if_neg h549c) (Eq.trans (if_pos h552c) (Eq.trans (zn_eq hFv559.symm) (Eq.trans (zn_eq hFv563.symm) (Eq.trans (zn_eq ez564) (Eq.trans (zn_eq ez565) (Eq.trans (zn_eq hFv568.symm) (Eq.trans (if_neg h569) (Eq.trans (if_pos h570) rfl)))))))))) 
        by_cases h571 : a2 = 2
        · refine X.tsIn 146 2 i237_91 rfl (by omega) rfl rfl ?_
          refine X.cut [(0, zr 4 44), (1, zi a1), (3, zi 0)] i237_146 rfl ?_
          refine X.iload_n 147 i237_146 rfl rfl rfl ?_
          refine X.ifeq 158 150 i237_147 rfl rfl rfl (fun h572 => ?_) (fun h572 => (by exfalso; omega))
          refine X.cut [(0, zr 4 44), (1, zi a1)] i237_158 rfl ?_
          refine X.aload_n 159 i237_158 rfl rfl rfl ?_
          refine X.bipush 161 i237_159 rfl rfl (by decide) ?_
          refine X.iload_n 162 i237_161 rfl rfl rfl ?_
          refine X.callv 165 [zi 95, zi a1] [] [(0, zr 4 44), (1, zi 95), (2, zi a1)] i237_162 rfl (by decide) rfl rfl (by omega) rfl rfl (by decide) rfl t213 (Nat.le_of_ble_eq_true rfl) (Nat.le_of_ble_eq_true rfl) rfl ?_
          refine c213_1 (B := B)  95 a1 (by omega) (hJ.up (by omega)) (by omega) (by omega) (by omega) (fun v575 hv575 hFv575 => ?_)
          show X (EE s) d 237 165 [(0, zr 4 44), (1, zi a1)] [zl v575] m _
          refine X.cut [] i237_165 rfl ?_
          refine X.retl i237_165 rfl t237 ?_
          exact hQ v575 (by first | trivial | omega) (Eq.trans (if_neg h501) (Eq.trans (if_neg h549c) (Eq.trans (if_pos h552c) (Eq.trans (zn_eq hFv559.symm) (Eq.trans (zn_eq hFv563.symm) (Eq.trans (zn_eq ez564) (Eq.trans (zn_eq ez565) (Eq.trans (zn_eq hFv568.symm) (Eq.trans (if_neg h569) (Eq.trans (if_neg h570) (Eq.trans (if_pos h571) (Eq.trans (zn_eq hFv575.symm) rfl)))))))))))) 
        by_cases h576 : a2 = 3
        · refine X.tsIn 166 3 i237_91 rfl (by omega) rfl rfl ?_
          refine X.cut [(0, zr 4 44), (1, zi a1), (3, zi 0)] i237_166 rfl ?_
          refine X.iload_n 167 i237_166 rfl rfl rfl ?_
          refine X.ifeq 178 170 i237_167 rfl rfl rfl (fun h577 => ?_) (fun h577 => (by exfalso; omega))
          refine X.cut [(0, zr 4 44), (1, zi a1)] i237_178 rfl ?_
          refine X.aload_n 179 i237_178 rfl rfl rfl ?_
          refine X.sipush 182 i237_179 rfl rfl (by decide) ?_
          refine X.iload_n 183 i237_182 rfl rfl rfl ?_
          refine X.callv 186 [zi 143, zi a1] [] [(0, zr 4 44), (1, zi 143), (2, zi a1)] i237_183 rfl (by decide) rfl rfl (by omega) rfl rfl (by decide) rfl t213 (Nat.le_of_ble_eq_true rfl) (Nat.le_of_ble_eq_true rfl) rfl ?_
          refine c213_1 (B := B)  143 a1 (by omega) (hJ.up (by omega)) (by omega) (by omega) (by omega) (fun v580 hv580 hFv580 => ?_)
          show X (EE s) d 237 186 [(0, zr 4 44), (1, zi a1)] [zl v580] m _
          refine X.cut [] i237_186 rfl ?_
          refine X.retl i237_186 rfl t237 ?_
          exact hQ v580 (by first | trivial | omega) (Eq.trans (if_neg h501) (Eq.trans (if_neg h549c) (Eq.trans (if_pos h552c) (Eq.trans (zn_eq hFv559.symm) (Eq.trans (zn_eq hFv563.symm) (Eq.trans (zn_eq ez564) (Eq.trans (zn_eq ez565) (Eq.trans (zn_eq hFv568.symm) (Eq.trans (if_neg h569) (Eq.trans (if_neg h570) (Eq.trans (if_neg h571) (Eq.trans (if_pos h576) (Eq.trans (zn_eq hFv580.symm) rfl))))))))))))) 
        by_cases h581 : a2 = 4
        · refine X.tsIn 187 4 i237_91 rfl (by omega) rfl rfl ?_
          refine X.cut [(8, zl v568)] i237_187 rfl ?_
          refine X.lload 189 i237_187 rfl rfl rfl ?_
          refine X.retl i237_189 rfl t237 ?_
          exact hQ v568 (by first | trivial | omega) (Eq.trans (if_neg h501) (Eq.trans (if_neg h549c) (Eq.trans (if_pos h552c) (Eq.trans (zn_eq hFv559.symm) (Eq.trans (zn_eq hFv563.symm) (Eq.trans (zn_eq ez564) (Eq.trans (zn_eq ez565) (Eq.trans (zn_eq hFv568.symm) (Eq.trans (if_neg h569) (Eq.trans (if_neg h570) (Eq.trans (if_neg h571) (Eq.trans (if_neg h576) (Eq.trans (if_pos h581) rfl))))))))))))) 
        by_cases h582 : a2 = 5
        · refine X.tsIn 190 5 i237_91 rfl (by omega) rfl rfl ?_
          refine X.cut [(4, zl v559), (6, zl v563)] i237_190 rfl ?_
          refine X.lload 192 i237_190 rfl rfl rfl ?_
          refine X.lload 194 i237_192 rfl rfl rfl ?_
          refine X.calls 197 [zl v559, zl v563] [] [(0, zl v559), (2, zl v563)] i237_194 (by decide) rfl rfl (by omega) rfl rfl t221 (Nat.le_of_ble_eq_true rfl) (Nat.le_of_ble_eq_true rfl) rfl ?_
          refine c221_1 (B := B)  v559 v563 (by omega) (hJ.up (by omega)) (by omega) (by omega) (by omega) (fun v585 hv585 hFv585 => ?_)
          show X (EE s) d 237 197 [(4, zl v559), (6, zl v563)] [zi v585] m _
          refine X.i2l 198 i237_197 rfl rfl ?_
          refine X.retl i237_198 rfl t237 ?_
          exact hQ v585 (by first | trivial | omega) (Eq.trans (if_neg h501) (Eq.trans (if_neg h549c) (Eq.trans (if_pos h552c) (Eq.trans (zn_eq hFv559.symm) (Eq.trans (zn_eq hFv563.symm) (Eq.trans (zn_eq ez564) (Eq.trans (zn_eq ez565) (Eq.trans (zn_eq hFv568.symm) (Eq.trans (if_neg h569) (Eq.trans (if_neg h570) (Eq.trans (if_neg h571) (Eq.trans (if_neg h576) (Eq.trans (if_neg h581) (Eq.trans (if_pos h582) (Eq.trans (zn_eq hFv585.symm) rfl))))))))))))))) 
        by_cases h586 : a2 = 6
        · refine X.tsIn 199 6 i237_91 rfl (by omega) rfl rfl ?_
          refine X.cut [(0, zr 4 44), (1, zi a1), (3, zi 0)] i237_199 rfl ?_
          refine X.iload_n 200 i237_199 rfl rfl rfl ?_
          refine X.ifeq 212 203 i237_200 rfl rfl rfl (fun h587 => ?_) (fun h587 => (by exfalso; omega))
          refine X.cut [(0, zr 4 44), (1, zi a1)] i237_212 rfl ?_
          refine X.aload_n 213 i237_212 rfl rfl rfl ?_
          refine X.bipush 215 i237_213 rfl rfl (by decide) ?_
          refine X.iload_n 216 i237_215 rfl rfl rfl ?_
          refine X.callv 219 [zi 95, zi a1] [] [(0, zr 4 44), (1, zi 95), (2, zi a1)] i237_216 rfl (by decide) rfl rfl (by omega) rfl rfl (by decide) rfl t213 (Nat.le_of_ble_eq_true rfl) (Nat.le_of_ble_eq_true rfl) rfl ?_
          refine c213_1 (B := B)  95 a1 (by omega) (hJ.up (by omega)) (by omega) (by omega) (by omega) (fun v590 hv590 hFv590 => ?_)
          show X (EE s) d 237 219 [(0, zr 4 44), (1, zi a1)] [zl v590] m _
          refine X.aload_n 220 i237_219 rfl rfl rfl ?_
          refine X.callv 223 [] [zl v590] [(0, zr 4 44)] i237_220 rfl (by decide) rfl rfl (by omega) rfl rfl (by decide) rfl t211 (Nat.le_of_ble_eq_true rfl) (Nat.le_of_ble_eq_true rfl) rfl ?_
          refine X.aload_n 1 i211_0 rfl rfl rfl ?_
          refine X.getF 4 i211_1 rfl rfl (by decide) rfl rfl ?_
          refine X.iconst 5 i211_4 rfl rfl (by decide) ?_
          refine X.lald 6 i211_5 rfl rfl (by decide) rfl (by omega) ?_
          have h591 := r45_2 hJ 4
          refine X.l2i 7 i211_6 rfl rfl (by omega) ?_
          refine X.reti i211_7 rfl t211 ?_
          show X (EE s) d 237 223 [(0, zr 4 44), (1, zi a1)] [zi (m 4 45 2), zl v590] m _
          refine X.i2l 224 i237_223 rfl rfl ?_
          refine X.ldivp 225 i237_224 rfl rfl (by omega) ?_
          have hz592 := z_divb (x := v590) (y := (m 4 45 2)) (by omega) (by omega)
          obtain ⟨z592, ez592⟩ : ∃ z, z = (v590 / (m 4 45 2)) := ⟨_, rfl⟩
          rw [← ez592] at hz592 ⊢
          refine X.calls 228 [zl z592] [] [(0, zl z592)] i237_225 (by decide) rfl rfl (by omega) rfl rfl t214 (Nat.le_of_ble_eq_true rfl) (Nat.le_of_ble_eq_true rfl) rfl ?_
          refine c214_1 (B := B)  z592 (by omega) (hJ.up (by omega)) (by omega) (by omega) (fun v595 hv595 hFv595 => ?_)
          show X (EE s) d 237 228 [(0, zr 4 44), (1, zi a1)] [zl v595] m _
          refine X.cut [] i237_228 rfl ?_
          refine X.retl i237_228 rfl t237 ?_
          exact hQ v595 (by first | trivial | omega) (Eq.trans (if_neg h501) (Eq.trans (if_neg h549c) (Eq.trans (if_pos h552c) (Eq.trans (zn_eq hFv559.symm) (Eq.trans (zn_eq hFv563.symm) (Eq.trans (zn_eq ez564) (Eq.trans (zn_eq ez565) (Eq.trans (zn_eq hFv568.symm) (Eq.trans (if_neg h569) (Eq.trans (if_neg h570) (Eq.trans (if_neg h571) (Eq.trans (if_neg h576) (Eq.trans (if_neg h581) (Eq.trans (if_neg h582) (Eq.trans (if_pos h586) (Eq.trans (zn_eq hFv590.symm) (Eq.trans (zn_eq ez592) (Eq.trans (zn_eq hFv595.symm) rfl)))))))))))))))))) 
        by_cases h596 : a2 = 7
        · refine X.tsIn 229 7 i237_91 rfl (by omega) rfl rfl ?_
          refine X.cut [(0, zr 4 44), (1, zi a1), (3, zi 0)] i237_229 rfl ?_
          refine X.iload_n 230 i237_229 rfl rfl rfl ?_
          refine X.ifeq 243 233 i237_230 rfl rfl rfl (fun h597 => ?_) (fun h597 => (by exfalso; omega))
          refine X.cut [(0, zr 4 44), (1, zi a1)] i237_243 rfl ?_
          refine X.aload_n 244 i237_243 rfl rfl rfl ?_
          refine X.sipush 247 i237_244 rfl rfl (by decide) ?_
          refine X.iload_n 248 i237_247 rfl rfl rfl ?_
          refine X.callv 251 [zi 143, zi a1] [] [(0, zr 4 44), (1, zi 143), (2, zi a1)] i237_248 rfl (by decide) rfl rfl (by omega) rfl rfl (by decide) rfl t213 (Nat.le_of_ble_eq_true rfl) (Nat.le_of_ble_eq_true rfl) rfl ?_
          refine c213_1 (B := B)  143 a1 (by omega) (hJ.up (by omega)) (by omega) (by omega) (by omega) (fun v600 hv600 hFv600 => ?_)
          show X (EE s) d 237 251 [(0, zr 4 44), (1, zi a1)] [zl v600] m _
          refine X.aload_n 252 i237_251 rfl rfl rfl ?_
          refine X.callv 255 [] [zl v600] [(0, zr 4 44)] i237_252 rfl (by decide) rfl rfl (by omega) rfl rfl (by decide) rfl t211 (Nat.le_of_ble_eq_true rfl) (Nat.le_of_ble_eq_true rfl) rfl ?_
          refine X.aload_n 1 i211_0 rfl rfl rfl ?_
          refine X.getF 4 i211_1 rfl rfl (by decide) rfl rfl ?_
          refine X.iconst 5 i211_4 rfl rfl (by decide) ?_
          refine X.lald 6 i211_5 rfl rfl (by decide) rfl (by omega) ?_
          have h601 := r45_2 hJ 4
          refine X.l2i 7 i211_6 rfl rfl (by omega) ?_
          refine X.reti i211_7 rfl t211 ?_
          show X (EE s) d 237 255 [(0, zr 4 44), (1, zi a1)] [zi (m 4 45 2), zl v600] m _
          refine X.i2l 256 i237_255 rfl rfl ?_
          refine X.ldivp 257 i237_256 rfl rfl (by omega) ?_
          have hz602 := z_divb (x := v600) (y := (m 4 45 2)) (by omega) (by omega)
          obtain ⟨z602, ez602⟩ : ∃ z, z = (v600 / (m 4 45 2)) := ⟨_, rfl⟩
          rw [← ez602] at hz602 ⊢
          refine X.calls 260 [zl z602] [] [(0, zl z602)] i237_257 (by decide) rfl rfl (by omega) rfl rfl t214 (Nat.le_of_ble_eq_true rfl) (Nat.le_of_ble_eq_true rfl) rfl ?_
          refine c214_1 (B := B)  z602 (by omega) (hJ.up (by omega)) (by omega) (by omega) (fun v605 hv605 hFv605 => ?_)
          show X (EE s) d 237 260 [(0, zr 4 44), (1, zi a1)] [zl v605] m _
          refine X.cut [] i237_260 rfl ?_
          refine X.retl i237_260 rfl t237 ?_
          exact hQ v605 (by first | trivial | omega) (Eq.trans (if_neg h501) (Eq.trans (if_neg h549c) (Eq.trans (if_pos h552c) (Eq.trans (zn_eq hFv559.symm) (Eq.trans (zn_eq hFv563.symm) (Eq.trans (zn_eq ez564) (Eq.trans (zn_eq ez565) (Eq.trans (zn_eq hFv568.symm) (Eq.trans (if_neg h569) (Eq.trans (if_neg h570) (Eq.trans (if_neg h571) (Eq.trans (if_neg h576) (Eq.trans (if_neg h581) (Eq.trans (if_neg h582) (Eq.trans (if_neg h586) (Eq.trans (if_pos h596) (Eq.trans (zn_eq hFv600.symm) (Eq.trans (zn_eq ez602) (Eq.trans (zn_eq hFv605.symm) rfl))))))))))))))))))) 
        by_cases h606 : a2 = 8
        · refine X.tsIn 261 8 i237_91 rfl (by omega) rfl rfl ?_
          refine X.cut [(4, zl v559), (8, zl v568)] i237_261 rfl ?_
          refine X.lload 263 i237_261 rfl rfl rfl ?_
          refine X.lload 265 i237_263 rfl rfl rfl ?_
          refine X.calls 268 [zl v559, zl v568] [] [(0, zl v559), (2, zl v568)] i237_265 (by decide) rfl rfl (by omega) rfl rfl t239 (Nat.le_of_ble_eq_true rfl) (Nat.le_of_ble_eq_true rfl) rfl ?_
          refine c239_1 (B := B)  v559 v568 (by omega) (hJ.up (by omega)) (by omega) (by omega) (by omega) (fun v609 hv609 hFv609 => ?_)
          show X (EE s) d 237 268 [(4, zl v559), (8, zl v568)] [zl v609] m _
          refine X.retl i237_268 rfl t237 ?_
          exact hQ v609 (by first | trivial | omega) (Eq.trans (if_neg h501) (Eq.trans (if_neg h549c) (Eq.trans (if_pos h552c) (Eq.trans (zn_eq hFv559.symm) (Eq.trans (zn_eq hFv563.symm) (Eq.trans (zn_eq ez564) (Eq.trans (zn_eq ez565) (Eq.trans (zn_eq hFv568.symm) (Eq.trans (if_neg h569) (Eq.trans (if_neg h570) (Eq.trans (if_neg h571) (Eq.trans (if_neg h576) (Eq.trans (if_neg h581) (Eq.trans (if_neg h582) (Eq.trans (if_neg h586) (Eq.trans (if_neg h596) (Eq.trans (if_pos h606) (Eq.trans (zn_eq hFv609.symm) rfl)))))))))))))))))) 
        refine X.tsOut 269 i237_91 rfl (by omega) rfl ?_
        refine X.cut [] i237_269 rfl ?_
        refine X.ldc2 272 i237_269 rfl rfl (by decide) ?_
        refine X.retl i237_272 rfl t237 ?_
        exact hQ (-10000000000) (by first | trivial | omega) (Eq.trans (if_neg h501) (Eq.trans (if_neg h549c) (Eq.trans (if_pos h552c) (Eq.trans (zn_eq hFv559.symm) (Eq.trans (zn_eq hFv563.symm) (Eq.trans (zn_eq ez564) (Eq.trans (zn_eq ez565) (Eq.trans (zn_eq hFv568.symm) (Eq.trans (if_neg h569) (Eq.trans (if_neg h570) (Eq.trans (if_neg h571) (Eq.trans (if_neg h576) (Eq.trans (if_neg h581) (Eq.trans (if_neg h582) (Eq.trans (if_neg h586) (Eq.trans (if_neg h596) (Eq.trans (if_neg h606) rfl))))))))))))))))) 
-- WorkMeter$Registers.sum
theorem c71_2 {s : Nat × (Nat → Int32)} {S : zS} {m0 m : zM} {B : Int} {d : Nat} {Q : Option zV → zM → Prop} (g0 : Nat) (a1 a2 : Int) (hd : 14 ≤ d) (hJ : J S m0 B m) (hB : B + 0 ≤ 1000000000) (ha1 : 0 ≤ a1 ∧ a1 ≤ 6) (ha2 : (-1) ≤ a2 ∧ a2 ≤ (-1)) (hQ : ∀ (v : Int), (True) → f71_1 g0 a1 a2 m = v → Q (some (zl v)) m) : X (EE s) d 71 0 [(0, zr g0 23), (1, zi a1), (2, zi a2)] [] m Q := by
  refine X.aload_n 1 i71_0 rfl rfl rfl ?_
  refine X.getR 4 i71_1 rfl rfl (by decide) rfl rfl ?_
  refine X.iload_n 5 i71_4 rfl rfl rfl ?_
  refine X.iconst 6 i71_5 rfl rfl (by decide) ?_
  refine X.imul 7 i71_6 rfl rfl (by omega) ?_
  refine X.iload_n 8 i71_7 rfl rfl rfl ?_
  refine X.calls 11 [zr g0 24, zi (a1 * 4), zi a2] [] [(0, zr g0 24), (1, zi (a1 * 4)), (2, zi a2)] i71_8 (by decide) rfl rfl (by omega) rfl rfl t72 (Nat.le_of_ble_eq_true rfl) (Nat.le_of_ble_eq_true rfl) rfl ?_
  refine c72_1 (B := B) g0 (a1 * 4) a2 (by omega) (hJ.up (by omega)) (by omega) (by omega) (by omega) (fun v503 hv503 hFv503 => ?_)
  show X (EE s) d 71 11 [(0, zr g0 23), (1, zi a1), (2, zi a2)] [zl v503] m _
  refine X.retl i71_11 rfl t71 ?_
  exact hQ v503 (by first | trivial | omega) (Eq.trans (zn_eq hFv503.symm) rfl) 
-- WorkMeter$Registers.sum
theorem c71_3 {s : Nat × (Nat → Int32)} {S : zS} {m0 m : zM} {B : Int} {d : Nat} {Q : Option zV → zM → Prop} (g0 : Nat) (a1 a2 : Int) (hd : 14 ≤ d) (hJ : J S m0 B m) (hB : B + 0 ≤ 1000000000) (ha1 : 0 ≤ a1 ∧ a1 ≤ 6) (ha2 : 0 ≤ a2 ∧ a2 ≤ 3) (hQ : ∀ (v : Int), (True) → f71_1 g0 a1 a2 m = v → Q (some (zl v)) m) : X (EE s) d 71 0 [(0, zr g0 23), (1, zi a1), (2, zi a2)] [] m Q := by
  refine X.aload_n 1 i71_0 rfl rfl rfl ?_
  refine X.getR 4 i71_1 rfl rfl (by decide) rfl rfl ?_
  refine X.iload_n 5 i71_4 rfl rfl rfl ?_
  refine X.iconst 6 i71_5 rfl rfl (by decide) ?_
  refine X.imul 7 i71_6 rfl rfl (by omega) ?_
  refine X.iload_n 8 i71_7 rfl rfl rfl ?_
  refine X.calls 11 [zr g0 24, zi (a1 * 4), zi a2] [] [(0, zr g0 24), (1, zi (a1 * 4)), (2, zi a2)] i71_8 (by decide) rfl rfl (by omega) rfl rfl t72 (Nat.le_of_ble_eq_true rfl) (Nat.le_of_ble_eq_true rfl) rfl ?_
  refine c72_1 (B := B) g0 (a1 * 4) a2 (by omega) (hJ.up (by omega)) (by omega) (by omega) (by omega) (fun v503 hv503 hFv503 => ?_)
  show X (EE s) d 71 11 [(0, zr g0 23), (1, zi a1), (2, zi a2)] [zl v503] m _
  refine X.retl i71_11 rfl t71 ?_
  exact hQ v503 (by first | trivial | omega) (Eq.trans (zn_eq hFv503.symm) rfl) 
-- WorkMeter.raw
noncomputable def f144_1 (a1 a2 : Int) (m : zM) : Int :=
  if a1 < 0 then
  ((-1))
  else
  (if 7 ≤ a1 then
  ((-1))
  else
  (if a2 = (-1) then
  (zn (f71_1 0 a1 a2 m) fun v510 =>
  v510)
  else
  (if a2 < 0 then
  ((-1))
  else
  (if 4 ≤ a2 then
  ((-1))
  else
  (zn (f71_1 0 a1 a2 m) fun v521 =>
  v521)))))
-- WorkMeter.raw
theorem c144_1 {s : Nat × (Nat → Int32)} {S : zS} {m0 m : zM} {B : Int} {d : Nat} {Q : Option zV → zM → Prop} (a1 a2 : Int) (hd : 15 ≤ d) (hJ : J S m0 B m) (hB : B + 0 ≤ 1000000000) (ha1 : (-2147483648) ≤ a1 ∧ a1 ≤ 2147483647) (ha2 : (-2147483648) ≤ a2 ∧ a2 ≤ 2147483647) (hQ : ∀ (v : Int), (True) → f144_1 a1 a2 m = v → Q (some (zl v)) m) : X (EE s) d 144 0 [(0, zr 4 40), (1, zi a1), (2, zi a2)] [] m Q := by
  refine X.iload_n 1 i144_0 rfl rfl rfl ?_
  refine X.calls 4 [zi a1] [] [(0, zi a1)] i144_1 (by decide) rfl rfl (by omega) rfl rfl t145 (Nat.le_of_ble_eq_true rfl) (Nat.le_of_ble_eq_true rfl) rfl ?_
  refine X.iload_n 1 i145_0 rfl rfl rfl ?_
  refine X.iflt 14 4 i145_1 rfl rfl rfl (fun h501 => ?_) (fun h501 => ?_)
  · refine X.cut [] i145_14 rfl ?_
    refine X.iconst 15 i145_14 rfl rfl (by decide) ?_
    refine X.retz i145_15 rfl t145 (by omega) ?_
    show X (EE s) d 144 4 [(0, zr 4 40), (1, zi a1), (2, zi a2)] [zi 0] m _
    refine X.ifeq 14 7 i144_4 rfl rfl rfl (fun h502 => ?_) (fun h502 => (by exfalso; omega))
    refine X.cut [] i144_14 rfl ?_
    refine X.ldc2 17 i144_14 rfl rfl (by decide) ?_
    refine X.retl i144_17 rfl t144 ?_
    exact hQ (-1) (by first | trivial | omega) (Eq.trans (if_pos h501) rfl) 
  · refine X.iload_n 5 i145_4 rfl rfl rfl ?_
    refine X.bipush 7 i145_5 rfl rfl (by decide) ?_
    refine X.icmpge 14 10 i145_7 rfl rfl rfl (fun h503 => ?_) (fun h503 => ?_)
    · refine X.cut [] i145_14 rfl ?_
      refine X.iconst 15 i145_14 rfl rfl (by decide) ?_
      refine X.retz i145_15 rfl t145 (by omega) ?_
      show X (EE s) d 144 4 [(0, zr 4 40), (1, zi a1), (2, zi a2)] [zi 0] m _
      refine X.ifeq 14 7 i144_4 rfl rfl rfl (fun h504 => ?_) (fun h504 => (by exfalso; omega))
      refine X.cut [] i144_14 rfl ?_
      refine X.ldc2 17 i144_14 rfl rfl (by decide) ?_
      refine X.retl i144_17 rfl t144 ?_
      exact hQ (-1) (by first | trivial | omega) (Eq.trans (if_neg h501) (Eq.trans (if_pos h503) rfl)) 
    · refine X.iconst 11 i145_10 rfl rfl (by decide) ?_
      refine X.goto 15 i145_11 rfl rfl ?_
      refine X.cut [] i145_15 rfl ?_
      refine X.retz i145_15 rfl t145 (by omega) ?_
      show X (EE s) d 144 4 [(0, zr 4 40), (1, zi a1), (2, zi a2)] [zi 1] m _
      refine X.ifeq 14 7 i144_4 rfl rfl rfl (fun h505 => (by exfalso; omega)) (fun h505 => ?_)
      refine X.iload_n 8 i144_7 rfl rfl rfl ?_
      refine X.calls 11 [zi a2] [] [(0, zi a2)] i144_8 (by decide) rfl rfl (by omega) rfl rfl t146 (Nat.le_of_ble_eq_true rfl) (Nat.le_of_ble_eq_true rfl) rfl ?_
      refine X.iload_n 1 i146_0 rfl rfl rfl ?_
      refine X.iconst 2 i146_1 rfl rfl (by decide) ?_
      refine X.icmpeq 12 5 i146_2 rfl rfl rfl (fun h506 => ?_) (fun h506 => ?_)
      · refine X.cut [] i146_12 rfl ?_
        refine X.iconst 13 i146_12 rfl rfl (by decide) ?_
        refine X.goto 17 i146_13 rfl rfl ?_
        refine X.retz i146_17 rfl t146 (by omega) ?_
        show X (EE s) d 144 11 [(0, zr 4 40), (1, zi a1), (2, zi a2)] [zi 1] m _
        refine X.ifne 18 14 i144_11 rfl rfl rfl (fun h507 => ?_) (fun h507 => (by exfalso; omega))
        refine X.aload_n 19 i144_18 rfl rfl rfl ?_
        refine X.getF 22 i144_19 rfl rfl (by decide) rfl rfl ?_
        refine X.getR 25 i144_22 rfl rfl (by decide) rfl rfl ?_
        refine X.iload_n 26 i144_25 rfl rfl rfl ?_
        refine X.iload_n 27 i144_26 rfl rfl rfl ?_
        refine X.callv 30 [zi a1, zi a2] [] [(0, zr 0 23), (1, zi a1), (2, zi a2)] i144_27 rfl (by decide) rfl rfl (by omega) rfl rfl (by decide) rfl t71 (Nat.le_of_ble_eq_true rfl) (Nat.le_of_ble_eq_true rfl) rfl ?_
        refine c71_2 (B := B) 0 a1 a2 (by omega) (hJ.up (by omega)) (by omega) (by omega) (by omega) (fun v510 hv510 hFv510 => ?_)
        show X (EE s) d 144 30 [(0, zr 4 40), (1, zi a1), (2, zi a2)] [zl v510] m _
        refine X.retl i144_30 rfl t144 ?_
        exact hQ v510 (by first | trivial | omega) (Eq.trans (if_neg h501) (Eq.trans (if_neg h503) (Eq.trans (if_pos h506) (Eq.trans (zn_eq hFv510.symm) rfl)))) 
      · refine X.iload_n 6 i146_5 rfl rfl rfl ?_
        refine X.calls 9 [zi a2] [] [(0, zi a2)] i146_6 (by decide) rfl rfl (by omega) rfl rfl t80 (Nat.le_of_ble_eq_true rfl) (Nat.le_of_ble_eq_true rfl) rfl ?_
        refine X.iload_n 1 i80_0 rfl rfl rfl ?_
        refine X.iflt 13 4 i80_1 rfl rfl rfl (fun h511 => ?_) (fun h511 => ?_)
        · refine X.cut [] i80_13 rfl ?_
          refine X.iconst 14 i80_13 rfl rfl (by decide) ?_
          refine X.retz i80_14 rfl t80 (by omega) ?_
          show X (EE s) (d - 1) 146 9 [(0, zi a2)] [zi 0] m _
          refine X.ifeq 16 12 i146_9 rfl rfl rfl (fun h512 => ?_) (fun h512 => (by exfalso; omega))
          refine X.cut [] i146_16 rfl ?_
          refine X.iconst 17 i146_16 rfl rfl (by decide) ?_
          refine X.retz i146_17 rfl t146 (by omega) ?_
          show X (EE s) d 144 11 [(0, zr 4 40), (1, zi a1), (2, zi a2)] [zi 0] m _
          refine X.ifne 18 14 i144_11 rfl rfl rfl (fun h513 => (by exfalso; omega)) (fun h513 => ?_)
          refine X.cut [] i144_14 rfl ?_
          refine X.ldc2 17 i144_14 rfl rfl (by decide) ?_
          refine X.retl i144_17 rfl t144 ?_
          exact hQ (-1) (by first | trivial | omega) (Eq.trans (if_neg h501) (Eq.trans (if_neg h503) (Eq.trans (if_neg h506) (Eq.trans (if_pos h511) rfl)))) 
        · refine X.iload_n 5 i80_4 rfl rfl rfl ?_
          refine X.iconst 6 i80_5 rfl rfl (by decide) ?_
          refine X.icmpge 13 9 i80_6 rfl rfl rfl (fun h514 => ?_) (fun h514 => ?_)
          · refine X.cut [] i80_13 rfl ?_
            refine X.iconst 14 i80_13 rfl rfl (by decide) ?_
            refine X.retz i80_14 rfl t80 (by omega) ?_
            show X (EE s) (d - 1) 146 9 [(0, zi a2)] [zi 0] m _
            refine X.ifeq 16 12 i146_9 rfl rfl rfl (fun h515 => ?_) (fun h515 => (by exfalso; omega))
            refine X.cut [] i146_16 rfl ?_
            refine X.iconst 17 i146_16 rfl rfl (by decide) ?_
            refine X.retz i146_17 rfl t146 (by omega) ?_
            show X (EE s) d 144 11 [(0, zr 4 40), (1, zi a1), (2, zi a2)] [zi 0] m _
            refine X.ifne 18 14 i144_11 rfl rfl rfl (fun h516 => (by exfalso; omega)) (fun h516 => ?_)
            refine X.cut [] i144_14 rfl ?_
            refine X.ldc2 17 i144_14 rfl rfl (by decide) ?_
            refine X.retl i144_17 rfl t144 ?_
            exact hQ (-1) (by first | trivial | omega) (Eq.trans (if_neg h501) (Eq.trans (if_neg h503) (Eq.trans (if_neg h506) (Eq.trans (if_neg h511) (Eq.trans (if_pos h514) rfl))))) 
          · refine X.iconst 10 i80_9 rfl rfl (by decide) ?_
            refine X.goto 14 i80_10 rfl rfl ?_
            refine X.cut [] i80_14 rfl ?_
            refine X.retz i80_14 rfl t80 (by omega) ?_
            show X (EE s) (d - 1) 146 9 [(0, zi a2)] [zi 1] m _
            refine X.ifeq 16 12 i146_9 rfl rfl rfl (fun h517 => (by exfalso; omega)) (fun h517 => ?_)
            refine X.cut [] i146_12 rfl ?_
            refine X.iconst 13 i146_12 rfl rfl (by decide) ?_
            refine X.goto 17 i146_13 rfl rfl ?_
            refine X.retz i146_17 rfl t146 (by omega) ?_
            show X (EE s) d 144 11 [(0, zr 4 40), (1, zi a1), (2, zi a2)] [zi 1] m _
            refine X.ifne 18 14 i144_11 rfl rfl rfl (fun h518 => ?_) (fun h518 => (by exfalso; omega))
            refine X.aload_n 19 i144_18 rfl rfl rfl ?_
            refine X.getF 22 i144_19 rfl rfl (by decide) rfl rfl ?_
            refine X.getR 25 i144_22 rfl rfl (by decide) rfl rfl ?_
            refine X.iload_n 26 i144_25 rfl rfl rfl ?_
            refine X.iload_n 27 i144_26 rfl rfl rfl ?_
            refine X.callv 30 [zi a1, zi a2] [] [(0, zr 0 23), (1, zi a1), (2, zi a2)] i144_27 rfl (by decide) rfl rfl (by omega) rfl rfl (by decide) rfl t71 (Nat.le_of_ble_eq_true rfl) (Nat.le_of_ble_eq_true rfl) rfl ?_
            refine c71_3 (B := B) 0 a1 a2 (by omega) (hJ.up (by omega)) (by omega) (by omega) (by omega) (fun v521 hv521 hFv521 => ?_)
            show X (EE s) d 144 30 [(0, zr 4 40), (1, zi a1), (2, zi a2)] [zl v521] m _
            refine X.retl i144_30 rfl t144 ?_
            exact hQ v521 (by first | trivial | omega) (Eq.trans (if_neg h501) (Eq.trans (if_neg h503) (Eq.trans (if_neg h506) (Eq.trans (if_neg h511) (Eq.trans (if_neg h514) (Eq.trans (zn_eq hFv521.symm) rfl)))))) 
-- WorkMeterModel.rawAt
noncomputable def f291_1 (a0 a1 : Int) (m : zM) : Int :=
  zn (if a1 = (-1) then
  (4)
  else
  (a1)) fun v502 =>
  ((5 * a0) + v502)
-- WorkMeterModel.rawAt
theorem c291_1 {s : Nat × (Nat → Int32)} {S : zS} {m0 m : zM} {B : Int} {d : Nat} {Q : Option zV → zM → Prop} (a0 a1 : Int) (hd : 13 ≤ d) (hJ : J S m0 B m) (hB : B + 0 ≤ 1000000000) (ha0 : 0 ≤ a0 ∧ a0 ≤ 6) (ha1 : (-1) ≤ a1 ∧ a1 ≤ 3) (hQ : ∀ (v : Int), (0 ≤ v ∧ v ≤ 34) → f291_1 a0 a1 m = v → Q (some (zi v)) m) : X (EE s) d 291 0 [(0, zi a0), (1, zi a1)] [] m Q := by
  refine X.iconst 1 i291_0 rfl rfl (by decide) ?_
  refine X.iload_n 2 i291_1 rfl rfl rfl ?_
  refine X.imul 3 i291_2 rfl rfl (by omega) ?_
  refine X.iload_n 4 i291_3 rfl rfl rfl ?_
  refine X.iconst 5 i291_4 rfl rfl (by decide) ?_
  have hK505 : ∀ (v : Int) , (0 ≤ v ∧ v ≤ 4) → (if a1 = (-1) then
      (4)
      else
      (a1)) = v → X (EE s) d 291 13 [] [zi v, zi (5 * a0)] m Q := by
    intro v502 hv502 hT506
    refine X.iadd 14 i291_13 rfl rfl (by omega) ?_
    refine X.reti i291_14 rfl t291 ?_
    exact hQ ((5 * a0) + v502) (by first | trivial | omega) (Eq.trans (zn_eq hT506.symm) rfl) 
  refine X.icmpne 12 8 i291_5 rfl rfl rfl (fun h501 => ?_) (fun h501 => ?_)
  · refine X.cut [(1, zi a1)] i291_12 rfl ?_
    refine X.iload_n 13 i291_12 rfl rfl rfl ?_
    refine X.cut [] i291_13 rfl ?_
    exact hK505 a1 (by first | trivial | omega) (Eq.trans (if_neg h501) rfl)
  · refine X.iconst 9 i291_8 rfl rfl (by decide) ?_
    refine X.goto 13 i291_9 rfl rfl ?_
    refine X.cut [] i291_13 rfl ?_
    exact hK505 4 (by first | trivial | omega) (Eq.trans (if_pos h501) rfl)
-- WorkMeterModel.raw
noncomputable def f295_1 (a1 a2 : Int) (m : zM) : Int :=
  if a1 < 0 then
  ((-1))
  else
  (if a1 ≤ 6 then
  (if a2 = (-1) then
  (zn (f291_1 a1 a2 m) fun v514 =>
  (m 4 45 (60 + v514)))
  else
  (if a2 < 0 then
  ((-1))
  else
  (if a2 ≤ 3 then
  (zn (f291_1 a1 a2 m) fun v527 =>
  (m 4 45 (60 + v527)))
  else
  ((-1)))))
  else
  ((-1)))
-- WorkMeterModel.raw
theorem c295_1 {s : Nat × (Nat → Int32)} {S : zS} {m0 m : zM} {B : Int} {d : Nat} {Q : Option zV → zM → Prop} (a1 a2 : Int) (hd : 14 ≤ d) (hJ : J S m0 B m) (hB : B + 0 ≤ 1000000000) (ha1 : (-2147483648) ≤ a1 ∧ a1 ≤ 2147483647) (ha2 : (-2147483648) ≤ a2 ∧ a2 ≤ 2147483647) (hQ : ∀ (v : Int), (True) → f295_1 a1 a2 m = v → Q (some (zl v)) m) : X (EE s) d 295 0 [(0, zr 4 44), (1, zi a1), (2, zi a2)] [] m Q := by
  refine X.iload_n 1 i295_0 rfl rfl rfl ?_
  refine X.iload_n 2 i295_1 rfl rfl rfl ?_
  refine X.calls 5 [zi a1, zi a2] [] [(0, zi a1), (1, zi a2)] i295_2 (by decide) rfl rfl (by omega) rfl rfl t290 (Nat.le_of_ble_eq_true rfl) (Nat.le_of_ble_eq_true rfl) rfl ?_
  refine X.iload_n 1 i290_0 rfl rfl rfl ?_
  refine X.i2l 2 i290_1 rfl rfl ?_
  refine X.lconst (y := 0) 3 i290_2 rfl rfl rfl ?_
  refine X.ldc2 6 i290_3 rfl rfl (by decide) ?_
  refine X.calls 9 [zl a1, zl 0, zl 6] [] [(0, zl a1), (2, zl 0), (4, zl 6)] i290_6 (by decide) rfl rfl (by omega) rfl rfl t204 (Nat.le_of_ble_eq_true rfl) (Nat.le_of_ble_eq_true rfl) rfl ?_
  refine X.lload_n 1 i204_0 rfl rfl rfl ?_
  refine X.lload_n 2 i204_1 rfl rfl rfl ?_
  refine X.lcmp 3 i204_2 rfl rfl (fun z501 hz501 => ?_)
  refine X.iflt 17 6 i204_3 rfl rfl rfl (fun h502 => ?_) (fun h502 => ?_)
  · have h502c : a1 < 0 := by omega
    clear h502 hz501
    refine X.cut [] i204_17 rfl ?_
    refine X.iconst 18 i204_17 rfl rfl (by decide) ?_
    refine X.retz i204_18 rfl t204 (by omega) ?_
    show X (EE s) (d - 1) 290 9 [(0, zi a1), (1, zi a2)] [zi 0] m _
    refine X.ifeq 28 12 i290_9 rfl rfl rfl (fun h503 => ?_) (fun h503 => (by exfalso; omega))
    refine X.cut [] i290_28 rfl ?_
    refine X.iconst 29 i290_28 rfl rfl (by decide) ?_
    refine X.retz i290_29 rfl t290 (by omega) ?_
    show X (EE s) d 295 5 [(0, zr 4 44), (1, zi a1), (2, zi a2)] [zi 0] m _
    refine X.ifeq 24 8 i295_5 rfl rfl rfl (fun h504 => ?_) (fun h504 => (by exfalso; omega))
    refine X.cut [] i295_24 rfl ?_
    refine X.ldc2 27 i295_24 rfl rfl (by decide) ?_
    refine X.retl i295_27 rfl t295 ?_
    exact hQ (-1) (by first | trivial | omega) (Eq.trans (if_pos h502c) rfl) 
  · have h502c : ¬ a1 < 0 := by omega
    clear h502 hz501
    refine X.lload_n 7 i204_6 rfl rfl rfl ?_
    refine X.lload 9 i204_7 rfl rfl rfl ?_
    refine X.lcmp 10 i204_9 rfl rfl (fun z505 hz505 => ?_)
    refine X.ifgt 17 13 i204_10 rfl rfl rfl (fun h506 => ?_) (fun h506 => ?_)
    · have h506c : ¬ a1 ≤ 6 := by omega
      clear h506 hz505
      refine X.cut [] i204_17 rfl ?_
      refine X.iconst 18 i204_17 rfl rfl (by decide) ?_
      refine X.retz i204_18 rfl t204 (by omega) ?_
      show X (EE s) (d - 1) 290 9 [(0, zi a1), (1, zi a2)] [zi 0] m _
      refine X.ifeq 28 12 i290_9 rfl rfl rfl (fun h507 => ?_) (fun h507 => (by exfalso; omega))
      refine X.cut [] i290_28 rfl ?_
      refine X.iconst 29 i290_28 rfl rfl (by decide) ?_
      refine X.retz i290_29 rfl t290 (by omega) ?_
      show X (EE s) d 295 5 [(0, zr 4 44), (1, zi a1), (2, zi a2)] [zi 0] m _
      refine X.ifeq 24 8 i295_5 rfl rfl rfl (fun h508 => ?_) (fun h508 => (by exfalso; omega))
      refine X.cut [] i295_24 rfl ?_
      refine X.ldc2 27 i295_24 rfl rfl (by decide) ?_
      refine X.retl i295_27 rfl t295 ?_
      exact hQ (-1) (by first | trivial | omega) (Eq.trans (if_neg h502c) (Eq.trans (if_neg h506c) rfl)) 
    · have h506c : a1 ≤ 6 := by omega
      clear h506 hz505
      refine X.iconst 14 i204_13 rfl rfl (by decide) ?_
      refine X.goto 18 i204_14 rfl rfl ?_
      refine X.cut [] i204_18 rfl ?_
      refine X.retz i204_18 rfl t204 (by omega) ?_
      show X (EE s) (d - 1) 290 9 [(0, zi a1), (1, zi a2)] [zi 1] m _
      refine X.ifeq 28 12 i290_9 rfl rfl rfl (fun h509 => (by exfalso; omega)) (fun h509 => ?_)
      refine X.iload_n 13 i290_12 rfl rfl rfl ?_
      refine X.iconst 14 i290_13 rfl rfl (by decide) ?_
      refine X.icmpeq 24 17 i290_14 rfl rfl rfl (fun h510 => ?_) (fun h510 => ?_)
      · refine X.cut [] i290_24 rfl ?_
        refine X.iconst 25 i290_24 rfl rfl (by decide) ?_
        refine X.goto 29 i290_25 rfl rfl ?_
        refine X.retz i290_29 rfl t290 (by omega) ?_
        show X (EE s) d 295 5 [(0, zr 4 44), (1, zi a1), (2, zi a2)] [zi 1] m _
        refine X.ifeq 24 8 i295_5 rfl rfl rfl (fun h511 => (by exfalso; omega)) (fun h511 => ?_)
        refine X.aload_n 9 i295_8 rfl rfl rfl ?_
        refine X.getF 12 i295_9 rfl rfl (by decide) rfl rfl ?_
        refine X.bipush 14 i295_12 rfl rfl (by decide) ?_
        refine X.iload_n 15 i295_14 rfl rfl rfl ?_
        refine X.iload_n 16 i295_15 rfl rfl rfl ?_
        refine X.calls 19 [zi a1, zi a2] [zi 60, zr 4 45] [(0, zi a1), (1, zi a2)] i295_16 (by decide) rfl rfl (by omega) rfl rfl t291 (Nat.le_of_ble_eq_true rfl) (Nat.le_of_ble_eq_true rfl) rfl ?_
        refine c291_1 (B := B)  a1 a2 (by omega) (hJ.up (by omega)) (by omega) (by omega) (by omega) (fun v514 hv514 hFv514 => ?_)
        show X (EE s) d 295 19 [(0, zr 4 44), (1, zi a1), (2, zi a2)] [zi v514, zi 60, zr 4 45] m _
        refine X.iadd 20 i295_19 rfl rfl (by omega) ?_
        refine X.lald 21 i295_20 rfl rfl (by decide) rfl (by omega) ?_
        refine X.goto 27 i295_21 rfl rfl ?_
        refine X.cut [] i295_27 rfl ?_
        refine X.retl i295_27 rfl t295 ?_
        exact hQ (m 4 45 (60 + v514)) (by first | trivial | omega) (Eq.trans (if_neg h502c) (Eq.trans (if_pos h506c) (Eq.trans (if_pos h510) (Eq.trans (zn_eq hFv514.symm) rfl)))) 
      · refine X.iload_n 18 i290_17 rfl rfl rfl ?_
        refine X.calls 21 [zi a2] [] [(0, zi a2)] i290_18 (by decide) rfl rfl (by omega) rfl rfl t242 (Nat.le_of_ble_eq_true rfl) (Nat.le_of_ble_eq_true rfl) rfl ?_
        refine X.iload_n 1 i242_0 rfl rfl rfl ?_
        refine X.i2l 2 i242_1 rfl rfl ?_
        refine X.lconst (y := 0) 3 i242_2 rfl rfl rfl ?_
        refine X.ldc2 6 i242_3 rfl rfl (by decide) ?_
        refine X.calls 9 [zl a2, zl 0, zl 3] [] [(0, zl a2), (2, zl 0), (4, zl 3)] i242_6 (by decide) rfl rfl (by omega) rfl rfl t204 (Nat.le_of_ble_eq_true rfl) (Nat.le_of_ble_eq_true rfl) rfl ?_
        refine X.lload_n 1 i204_0 rfl rfl rfl ?_
        refine X.lload_n 2 i204_1 rfl rfl rfl ?_
        refine X.lcmp 3 i204_2 rfl rfl (fun z515 hz515 => ?_)
        refine X.iflt 17 6 i204_3 rfl rfl rfl (fun h516 => ?_) (fun h516 => ?_)
        · have h516c : a2 < 0 := by omega
          clear h516 hz515
          refine X.cut [] i204_17 rfl ?_
          refine X.iconst 18 i204_17 rfl rfl (by decide) ?_
          refine X.retz i204_18 rfl t204 (by omega) ?_
          show X (EE s) ((d - 1) - 1) 242 9 [(0, zi a2)] [zi 0] m _
          refine X.retz i242_9 rfl t242 (by omega) ?_
          show X (EE s) (d - 1) 290 21 [(0, zi a1), (1, zi a2)] [zi 0] m _
          refine X.ifeq 28 24 i290_21 rfl rfl rfl (fun h517 => ?_) (fun h517 => (by exfalso; omega))
          refine X.cut [] i290_28 rfl ?_
          refine X.iconst 29 i290_28 rfl rfl (by decide) ?_
          refine X.retz i290_29 rfl t290 (by omega) ?_
          show X (EE s) d 295 5 [(0, zr 4 44), (1, zi a1), (2, zi a2)] [zi 0] m _
          refine X.ifeq 24 8 i295_5 rfl rfl rfl (fun h518 => ?_) (fun h518 => (by exfalso; omega))
          refine X.cut [] i295_24 rfl ?_
          refine X.ldc2 27 i295_24 rfl rfl (by decide) ?_
          refine X.retl i295_27 rfl t295 ?_
          exact hQ (-1) (by first | trivial | omega) (Eq.trans (if_neg h502c) (Eq.trans (if_pos h506c) (Eq.trans (if_neg h510) (Eq.trans (if_pos h516c) rfl)))) 
        · have h516c : ¬ a2 < 0 := by omega
          clear h516 hz515
          refine X.lload_n 7 i204_6 rfl rfl rfl ?_
          refine X.lload 9 i204_7 rfl rfl rfl ?_
          refine X.lcmp 10 i204_9 rfl rfl (fun z519 hz519 => ?_)
          refine X.ifgt 17 13 i204_10 rfl rfl rfl (fun h520 => ?_) (fun h520 => ?_)
          · have h520c : ¬ a2 ≤ 3 := by omega
            clear h520 hz519
            refine X.cut [] i204_17 rfl ?_
            refine X.iconst 18 i204_17 rfl rfl (by decide) ?_
            refine X.retz i204_18 rfl t204 (by omega) ?_
            show X (EE s) ((d - 1) - 1) 242 9 [(0, zi a2)] [zi 0] m _
            refine X.retz i242_9 rfl t242 (by omega) ?_
            show X (EE s) (d - 1) 290 21 [(0, zi a1), (1, zi a2)] [zi 0] m _
            refine X.ifeq 28 24 i290_21 rfl rfl rfl (fun h521 => ?_) (fun h521 => (by exfalso; omega))
            refine X.cut [] i290_28 rfl ?_
            refine X.iconst 29 i290_28 rfl rfl (by decide) ?_
            refine X.retz i290_29 rfl t290 (by omega) ?_
            show X (EE s) d 295 5 [(0, zr 4 44), (1, zi a1), (2, zi a2)] [zi 0] m _
            refine X.ifeq 24 8 i295_5 rfl rfl rfl (fun h522 => ?_) (fun h522 => (by exfalso; omega))
            refine X.cut [] i295_24 rfl ?_
            refine X.ldc2 27 i295_24 rfl rfl (by decide) ?_
            refine X.retl i295_27 rfl t295 ?_
            exact hQ (-1) (by first | trivial | omega) (Eq.trans (if_neg h502c) (Eq.trans (if_pos h506c) (Eq.trans (if_neg h510) (Eq.trans (if_neg h516c) (Eq.trans (if_neg h520c) rfl))))) 
          · have h520c : a2 ≤ 3 := by omega
            clear h520 hz519
            refine X.iconst 14 i204_13 rfl rfl (by decide) ?_
            refine X.goto 18 i204_14 rfl rfl ?_
            refine X.cut [] i204_18 rfl ?_
            refine X.retz i204_18 rfl t204 (by omega) ?_
            show X (EE s) ((d - 1) - 1) 242 9 [(0, zi a2)] [zi 1] m _
            refine X.retz i242_9 rfl t242 (by omega) ?_
            show X (EE s) (d - 1) 290 21 [(0, zi a1), (1, zi a2)] [zi 1] m _
            refine X.ifeq 28 24 i290_21 rfl rfl rfl (fun h523 => (by exfalso; omega)) (fun h523 => ?_)
            refine X.cut [] i290_24 rfl ?_
            refine X.iconst 25 i290_24 rfl rfl (by decide) ?_
            refine X.goto 29 i290_25 rfl rfl ?_
            refine X.retz i290_29 rfl t290 (by omega) ?_
            show X (EE s) d 295 5 [(0, zr 4 44), (1, zi a1), (2, zi a2)] [zi 1] m _
            refine X.ifeq 24 8 i295_5 rfl rfl rfl (fun h524 => (by exfalso; omega)) (fun h524 => ?_)
            refine X.aload_n 9 i295_8 rfl rfl rfl ?_
            refine X.getF 12 i295_9 rfl rfl (by decide) rfl rfl ?_
            refine X.bipush 14 i295_12 rfl rfl (by decide) ?_
            refine X.iload_n 15 i295_14 rfl rfl rfl ?_
            refine X.iload_n 16 i295_15 rfl rfl rfl ?_
            refine X.calls 19 [zi a1, zi a2] [zi 60, zr 4 45] [(0, zi a1), (1, zi a2)] i295_16 (by decide) rfl rfl (by omega) rfl rfl t291 (Nat.le_of_ble_eq_true rfl) (Nat.le_of_ble_eq_true rfl) rfl ?_
            refine c291_1 (B := B)  a1 a2 (by omega) (hJ.up (by omega)) (by omega) (by omega) (by omega) (fun v527 hv527 hFv527 => ?_)
            show X (EE s) d 295 19 [(0, zr 4 44), (1, zi a1), (2, zi a2)] [zi v527, zi 60, zr 4 45] m _
            refine X.iadd 20 i295_19 rfl rfl (by omega) ?_
            refine X.lald 21 i295_20 rfl rfl (by decide) rfl (by omega) ?_
            refine X.goto 27 i295_21 rfl rfl ?_
            refine X.cut [] i295_27 rfl ?_
            refine X.retl i295_27 rfl t295 ?_
            exact hQ (m 4 45 (60 + v527)) (by first | trivial | omega) (Eq.trans (if_neg h502c) (Eq.trans (if_pos h506c) (Eq.trans (if_neg h510) (Eq.trans (if_neg h516c) (Eq.trans (if_pos h520c) (Eq.trans (zn_eq hFv527.symm) rfl)))))) 
-- WorkMeter.reading
noncomputable def f147_1 (a1 a2 : Int) (m : zM) : Int :=
  if a1 < 0 then
  ((-1))
  else
  (if 7 ≤ a1 then
  ((-1))
  else
  (if a2 = (-1) then
  (zn (f71_1 0 a1 a2 m) fun v510 =>
  zn (w64 ((v510).tdiv (max 1 (m 0 10 1)))) fun z512 =>
  z512)
  else
  (if a2 < 0 then
  ((-1))
  else
  (if 4 ≤ a2 then
  ((-1))
  else
  (zn (f71_1 0 a1 a2 m) fun v523 =>
  zn (w64 ((v523).tdiv (max 1 (m 0 10 1)))) fun z525 =>
  z525)))))
-- WorkMeter.reading
theorem c147_1 {s : Nat × (Nat → Int32)} {S : zS} {m0 m : zM} {B : Int} {d : Nat} {Q : Option zV → zM → Prop} (a1 a2 : Int) (hd : 15 ≤ d) (hJ : J S m0 B m) (hB : B + 0 ≤ 1000000000) (ha1 : (-2147483648) ≤ a1 ∧ a1 ≤ 2147483647) (ha2 : (-2147483648) ≤ a2 ∧ a2 ≤ 2147483647) (hQ : ∀ (v : Int), (True) → f147_1 a1 a2 m = v → Q (some (zl v)) m) : X (EE s) d 147 0 [(0, zr 4 40), (1, zi a1), (2, zi a2)] [] m Q := by
  refine X.iload_n 1 i147_0 rfl rfl rfl ?_
  refine X.calls 4 [zi a1] [] [(0, zi a1)] i147_1 (by decide) rfl rfl (by omega) rfl rfl t145 (Nat.le_of_ble_eq_true rfl) (Nat.le_of_ble_eq_true rfl) rfl ?_
  refine X.iload_n 1 i145_0 rfl rfl rfl ?_
  refine X.iflt 14 4 i145_1 rfl rfl rfl (fun h501 => ?_) (fun h501 => ?_)
  · refine X.cut [] i145_14 rfl ?_
    refine X.iconst 15 i145_14 rfl rfl (by decide) ?_
    refine X.retz i145_15 rfl t145 (by omega) ?_
    show X (EE s) d 147 4 [(0, zr 4 40), (1, zi a1), (2, zi a2)] [zi 0] m _
    refine X.ifeq 14 7 i147_4 rfl rfl rfl (fun h502 => ?_) (fun h502 => (by exfalso; omega))
    refine X.cut [] i147_14 rfl ?_
    refine X.ldc2 17 i147_14 rfl rfl (by decide) ?_
    refine X.retl i147_17 rfl t147 ?_
    exact hQ (-1) (by first | trivial | omega) (Eq.trans (if_pos h501) rfl) 
  · refine X.iload_n 5 i145_4 rfl rfl rfl ?_
    refine X.bipush 7 i145_5 rfl rfl (by decide) ?_
    refine X.icmpge 14 10 i145_7 rfl rfl rfl (fun h503 => ?_) (fun h503 => ?_)
    · refine X.cut [] i145_14 rfl ?_
      refine X.iconst 15 i145_14 rfl rfl (by decide) ?_
      refine X.retz i145_15 rfl t145 (by omega) ?_
      show X (EE s) d 147 4 [(0, zr 4 40), (1, zi a1), (2, zi a2)] [zi 0] m _
      refine X.ifeq 14 7 i147_4 rfl rfl rfl (fun h504 => ?_) (fun h504 => (by exfalso; omega))
      refine X.cut [] i147_14 rfl ?_
      refine X.ldc2 17 i147_14 rfl rfl (by decide) ?_
      refine X.retl i147_17 rfl t147 ?_
      exact hQ (-1) (by first | trivial | omega) (Eq.trans (if_neg h501) (Eq.trans (if_pos h503) rfl)) 
    · refine X.iconst 11 i145_10 rfl rfl (by decide) ?_
      refine X.goto 15 i145_11 rfl rfl ?_
      refine X.cut [] i145_15 rfl ?_
      refine X.retz i145_15 rfl t145 (by omega) ?_
      show X (EE s) d 147 4 [(0, zr 4 40), (1, zi a1), (2, zi a2)] [zi 1] m _
      refine X.ifeq 14 7 i147_4 rfl rfl rfl (fun h505 => (by exfalso; omega)) (fun h505 => ?_)
      refine X.iload_n 8 i147_7 rfl rfl rfl ?_
      refine X.calls 11 [zi a2] [] [(0, zi a2)] i147_8 (by decide) rfl rfl (by omega) rfl rfl t146 (Nat.le_of_ble_eq_true rfl) (Nat.le_of_ble_eq_true rfl) rfl ?_
      refine X.iload_n 1 i146_0 rfl rfl rfl ?_
      refine X.iconst 2 i146_1 rfl rfl (by decide) ?_
      refine X.icmpeq 12 5 i146_2 rfl rfl rfl (fun h506 => ?_) (fun h506 => ?_)
      · refine X.cut [] i146_12 rfl ?_
        refine X.iconst 13 i146_12 rfl rfl (by decide) ?_
        refine X.goto 17 i146_13 rfl rfl ?_
        refine X.retz i146_17 rfl t146 (by omega) ?_
        show X (EE s) d 147 11 [(0, zr 4 40), (1, zi a1), (2, zi a2)] [zi 1] m _
        refine X.ifne 18 14 i147_11 rfl rfl rfl (fun h507 => ?_) (fun h507 => (by exfalso; omega))
        refine X.aload_n 19 i147_18 rfl rfl rfl ?_
        refine X.getF 22 i147_19 rfl rfl (by decide) rfl rfl ?_
        refine X.getR 25 i147_22 rfl rfl (by decide) rfl rfl ?_
        refine X.iload_n 26 i147_25 rfl rfl rfl ?_
        refine X.iload_n 27 i147_26 rfl rfl rfl ?_
        refine X.callv 30 [zi a1, zi a2] [] [(0, zr 0 23), (1, zi a1), (2, zi a2)] i147_27 rfl (by decide) rfl rfl (by omega) rfl rfl (by decide) rfl t71 (Nat.le_of_ble_eq_true rfl) (Nat.le_of_ble_eq_true rfl) rfl ?_
        refine c71_2 (B := B) 0 a1 a2 (by omega) (hJ.up (by omega)) (by omega) (by omega) (by omega) (fun v510 hv510 hFv510 => ?_)
        show X (EE s) d 147 30 [(0, zr 4 40), (1, zi a1), (2, zi a2)] [zl v510] m _
        refine X.aload_n 31 i147_30 rfl rfl rfl ?_
        refine X.getF 34 i147_31 rfl rfl (by decide) rfl rfl ?_
        refine X.getR 37 i147_34 rfl rfl (by decide) rfl rfl ?_
        refine X.callv 40 [] [zl v510] [(0, zr 0 9)] i147_37 rfl (by decide) rfl rfl (by omega) rfl rfl (by decide) rfl t48 (Nat.le_of_ble_eq_true rfl) (Nat.le_of_ble_eq_true rfl) rfl ?_
        refine X.iconst 1 i48_0 rfl rfl (by decide) ?_
        refine X.aload_n 2 i48_1 rfl rfl rfl ?_
        refine X.getR 5 i48_2 rfl rfl (by decide) rfl rfl ?_
        refine X.iconst 6 i48_5 rfl rfl (by decide) ?_
        refine X.iald 7 i48_6 rfl rfl (by decide) rfl (by omega) ?_
        have h511 := r10_0 hJ 0 (i := 1) (by omega)
        refine X.maxI 10 i48_7 rfl rfl (by omega) (Nat.le_of_ble_eq_true rfl) ?_
        refine X.reti i48_10 rfl t48 ?_
        show X (EE s) d 147 40 [(0, zr 4 40), (1, zi a1), (2, zi a2)] [zi (max 1 (m 0 10 1)), zl v510] m _
        refine X.i2l 41 i147_40 rfl rfl ?_
        refine X.ldivW 42 i147_41 rfl rfl (by omega) (fun z512 ez512 hz512 => ?_)
        refine X.retl i147_42 rfl t147 ?_
        exact hQ z512 (by first | trivial | omega) (Eq.trans (if_neg h501) (Eq.trans (if_neg h503) (Eq.trans (if_pos h506) (Eq.trans (zn_eq hFv510.symm) (Eq.trans (zn_eq ez512) rfl))))) 
      · refine X.iload_n 6 i146_5 rfl rfl rfl ?_
        refine X.calls 9 [zi a2] [] [(0, zi a2)] i146_6 (by decide) rfl rfl (by omega) rfl rfl t80 (Nat.le_of_ble_eq_true rfl) (Nat.le_of_ble_eq_true rfl) rfl ?_
        refine X.iload_n 1 i80_0 rfl rfl rfl ?_
        refine X.iflt 13 4 i80_1 rfl rfl rfl (fun h513 => ?_) (fun h513 => ?_)
        · refine X.cut [] i80_13 rfl ?_
          refine X.iconst 14 i80_13 rfl rfl (by decide) ?_
          refine X.retz i80_14 rfl t80 (by omega) ?_
          show X (EE s) (d - 1) 146 9 [(0, zi a2)] [zi 0] m _
          refine X.ifeq 16 12 i146_9 rfl rfl rfl (fun h514 => ?_) (fun h514 => (by exfalso; omega))
          refine X.cut [] i146_16 rfl ?_
          refine X.iconst 17 i146_16 rfl rfl (by decide) ?_
          refine X.retz i146_17 rfl t146 (by omega) ?_
          show X (EE s) d 147 11 [(0, zr 4 40), (1, zi a1), (2, zi a2)] [zi 0] m _
          refine X.ifne 18 14 i147_11 rfl rfl rfl (fun h515 => (by exfalso; omega)) (fun h515 => ?_)
          refine X.cut [] i147_14 rfl ?_
          refine X.ldc2 17 i147_14 rfl rfl (by decide) ?_
          refine X.retl i147_17 rfl t147 ?_
          exact hQ (-1) (by first | trivial | omega) (Eq.trans (if_neg h501) (Eq.trans (if_neg h503) (Eq.trans (if_neg h506) (Eq.trans (if_pos h513) rfl)))) 
        · refine X.iload_n 5 i80_4 rfl rfl rfl ?_
          refine X.iconst 6 i80_5 rfl rfl (by decide) ?_
          refine X.icmpge 13 9 i80_6 rfl rfl rfl (fun h516 => ?_) (fun h516 => ?_)
          · refine X.cut [] i80_13 rfl ?_
            refine X.iconst 14 i80_13 rfl rfl (by decide) ?_
            refine X.retz i80_14 rfl t80 (by omega) ?_
            show X (EE s) (d - 1) 146 9 [(0, zi a2)] [zi 0] m _
            refine X.ifeq 16 12 i146_9 rfl rfl rfl (fun h517 => ?_) (fun h517 => (by exfalso; omega))
            refine X.cut [] i146_16 rfl ?_
            refine X.iconst 17 i146_16 rfl rfl (by decide) ?_
            refine X.retz i146_17 rfl t146 (by omega) ?_
            show X (EE s) d 147 11 [(0, zr 4 40), (1, zi a1), (2, zi a2)] [zi 0] m _
            refine X.ifne 18 14 i147_11 rfl rfl rfl (fun h518 => (by exfalso; omega)) (fun h518 => ?_)
            refine X.cut [] i147_14 rfl ?_
            refine X.ldc2 17 i147_14 rfl rfl (by decide) ?_
            refine X.retl i147_17 rfl t147 ?_
            exact hQ (-1) (by first | trivial | omega) (Eq.trans (if_neg h501) (Eq.trans (if_neg h503) (Eq.trans (if_neg h506) (Eq.trans (if_neg h513) (Eq.trans (if_pos h516) rfl))))) 
          · refine X.iconst 10 i80_9 rfl rfl (by decide) ?_
            refine X.goto 14 i80_10 rfl rfl ?_
            refine X.cut [] i80_14 rfl ?_
            refine X.retz i80_14 rfl t80 (by omega) ?_
            show X (EE s) (d - 1) 146 9 [(0, zi a2)] [zi 1] m _
            refine X.ifeq 16 12 i146_9 rfl rfl rfl (fun h519 => (by exfalso; omega)) (fun h519 => ?_)
            refine X.cut [] i146_12 rfl ?_
            refine X.iconst 13 i146_12 rfl rfl (by decide) ?_
            refine X.goto 17 i146_13 rfl rfl ?_
            refine X.retz i146_17 rfl t146 (by omega) ?_
            show X (EE s) d 147 11 [(0, zr 4 40), (1, zi a1), (2, zi a2)] [zi 1] m _
            refine X.ifne 18 14 i147_11 rfl rfl rfl (fun h520 => ?_) (fun h520 => (by exfalso; omega))
            refine X.aload_n 19 i147_18 rfl rfl rfl ?_
            refine X.getF 22 i147_19 rfl rfl (by decide) rfl rfl ?_
            refine X.getR 25 i147_22 rfl rfl (by decide) rfl rfl ?_
            refine X.iload_n 26 i147_25 rfl rfl rfl ?_
            refine X.iload_n 27 i147_26 rfl rfl rfl ?_
            refine X.callv 30 [zi a1, zi a2] [] [(0, zr 0 23), (1, zi a1), (2, zi a2)] i147_27 rfl (by decide) rfl rfl (by omega) rfl rfl (by decide) rfl t71 (Nat.le_of_ble_eq_true rfl) (Nat.le_of_ble_eq_true rfl) rfl ?_
            refine c71_3 (B := B) 0 a1 a2 (by omega) (hJ.up (by omega)) (by omega) (by omega) (by omega) (fun v523 hv523 hFv523 => ?_)
            show X (EE s) d 147 30 [(0, zr 4 40), (1, zi a1), (2, zi a2)] [zl v523] m _
            refine X.aload_n 31 i147_30 rfl rfl rfl ?_
            refine X.getF 34 i147_31 rfl rfl (by decide) rfl rfl ?_
            refine X.getR 37 i147_34 rfl rfl (by decide) rfl rfl ?_
            refine X.callv 40 [] [zl v523] [(0, zr 0 9)] i147_37 rfl (by decide) rfl rfl (by omega) rfl rfl (by decide) rfl t48 (Nat.le_of_ble_eq_true rfl) (Nat.le_of_ble_eq_true rfl) rfl ?_
            refine X.iconst 1 i48_0 rfl rfl (by decide) ?_
            refine X.aload_n 2 i48_1 rfl rfl rfl ?_
            refine X.getR 5 i48_2 rfl rfl (by decide) rfl rfl ?_
            refine X.iconst 6 i48_5 rfl rfl (by decide) ?_
            refine X.iald 7 i48_6 rfl rfl (by decide) rfl (by omega) ?_
            have h524 := r10_0 hJ 0 (i := 1) (by omega)
            refine X.maxI 10 i48_7 rfl rfl (by omega) (Nat.le_of_ble_eq_true rfl) ?_
            refine X.reti i48_10 rfl t48 ?_
            show X (EE s) d 147 40 [(0, zr 4 40), (1, zi a1), (2, zi a2)] [zi (max 1 (m 0 10 1)), zl v523] m _
            refine X.i2l 41 i147_40 rfl rfl ?_
            refine X.ldivW 42 i147_41 rfl rfl (by omega) (fun z525 ez525 hz525 => ?_)
            refine X.retl i147_42 rfl t147 ?_
            exact hQ z525 (by first | trivial | omega) (Eq.trans (if_neg h501) (Eq.trans (if_neg h503) (Eq.trans (if_neg h506) (Eq.trans (if_neg h513) (Eq.trans (if_neg h516) (Eq.trans (zn_eq hFv523.symm) (Eq.trans (zn_eq ez525) rfl))))))) 
-- WorkMeterModel.reading
noncomputable def f296_1 (a1 a2 : Int) (m : zM) : Int :=
  if a1 < 0 then
  ((-1))
  else
  (if a1 ≤ 6 then
  (if a2 = (-1) then
  (zn (f291_1 a1 a2 m) fun v514 =>
  zn (w64 (((m 4 45 (60 + v514))).tdiv (m 4 45 5))) fun z516 =>
  z516)
  else
  (if a2 < 0 then
  ((-1))
  else
  (if a2 ≤ 3 then
  (zn (f291_1 a1 a2 m) fun v529 =>
  zn (w64 (((m 4 45 (60 + v529))).tdiv (m 4 45 5))) fun z531 =>
  z531)
  else
  ((-1)))))
  else
  ((-1)))
-- WorkMeterModel.reading
theorem c296_1 {s : Nat × (Nat → Int32)} {S : zS} {m0 m : zM} {B : Int} {d : Nat} {Q : Option zV → zM → Prop} (a1 a2 : Int) (hd : 14 ≤ d) (hJ : J S m0 B m) (hB : B + 0 ≤ 1000000000) (ha1 : (-2147483648) ≤ a1 ∧ a1 ≤ 2147483647) (ha2 : (-2147483648) ≤ a2 ∧ a2 ≤ 2147483647) (hQ : ∀ (v : Int), (True) → f296_1 a1 a2 m = v → Q (some (zl v)) m) : X (EE s) d 296 0 [(0, zr 4 44), (1, zi a1), (2, zi a2)] [] m Q := by
  refine X.iload_n 1 i296_0 rfl rfl rfl ?_
  refine X.iload_n 2 i296_1 rfl rfl rfl ?_
  refine X.calls 5 [zi a1, zi a2] [] [(0, zi a1), (1, zi a2)] i296_2 (by decide) rfl rfl (by omega) rfl rfl t290 (Nat.le_of_ble_eq_true rfl) (Nat.le_of_ble_eq_true rfl) rfl ?_
  refine X.iload_n 1 i290_0 rfl rfl rfl ?_
  refine X.i2l 2 i290_1 rfl rfl ?_
  refine X.lconst (y := 0) 3 i290_2 rfl rfl rfl ?_
  refine X.ldc2 6 i290_3 rfl rfl (by decide) ?_
  refine X.calls 9 [zl a1, zl 0, zl 6] [] [(0, zl a1), (2, zl 0), (4, zl 6)] i290_6 (by decide) rfl rfl (by omega) rfl rfl t204 (Nat.le_of_ble_eq_true rfl) (Nat.le_of_ble_eq_true rfl) rfl ?_
  refine X.lload_n 1 i204_0 rfl rfl rfl ?_
  refine X.lload_n 2 i204_1 rfl rfl rfl ?_
  refine X.lcmp 3 i204_2 rfl rfl (fun z501 hz501 => ?_)
  refine X.iflt 17 6 i204_3 rfl rfl rfl (fun h502 => ?_) (fun h502 => ?_)
  · have h502c : a1 < 0 := by omega
    clear h502 hz501
    refine X.cut [] i204_17 rfl ?_
    refine X.iconst 18 i204_17 rfl rfl (by decide) ?_
    refine X.retz i204_18 rfl t204 (by omega) ?_
    show X (EE s) (d - 1) 290 9 [(0, zi a1), (1, zi a2)] [zi 0] m _
    refine X.ifeq 28 12 i290_9 rfl rfl rfl (fun h503 => ?_) (fun h503 => (by exfalso; omega))
    refine X.cut [] i290_28 rfl ?_
    refine X.iconst 29 i290_28 rfl rfl (by decide) ?_
    refine X.retz i290_29 rfl t290 (by omega) ?_
    show X (EE s) d 296 5 [(0, zr 4 44), (1, zi a1), (2, zi a2)] [zi 0] m _
    refine X.ifeq 31 8 i296_5 rfl rfl rfl (fun h504 => ?_) (fun h504 => (by exfalso; omega))
    refine X.cut [] i296_31 rfl ?_
    refine X.ldc2 34 i296_31 rfl rfl (by decide) ?_
    refine X.retl i296_34 rfl t296 ?_
    exact hQ (-1) (by first | trivial | omega) (Eq.trans (if_pos h502c) rfl) 
  · have h502c : ¬ a1 < 0 := by omega
    clear h502 hz501
    refine X.lload_n 7 i204_6 rfl rfl rfl ?_
    refine X.lload 9 i204_7 rfl rfl rfl ?_
    refine X.lcmp 10 i204_9 rfl rfl (fun z505 hz505 => ?_)
    refine X.ifgt 17 13 i204_10 rfl rfl rfl (fun h506 => ?_) (fun h506 => ?_)
    · have h506c : ¬ a1 ≤ 6 := by omega
      clear h506 hz505
      refine X.cut [] i204_17 rfl ?_
      refine X.iconst 18 i204_17 rfl rfl (by decide) ?_
      refine X.retz i204_18 rfl t204 (by omega) ?_
      show X (EE s) (d - 1) 290 9 [(0, zi a1), (1, zi a2)] [zi 0] m _
      refine X.ifeq 28 12 i290_9 rfl rfl rfl (fun h507 => ?_) (fun h507 => (by exfalso; omega))
      refine X.cut [] i290_28 rfl ?_
      refine X.iconst 29 i290_28 rfl rfl (by decide) ?_
      refine X.retz i290_29 rfl t290 (by omega) ?_
      show X (EE s) d 296 5 [(0, zr 4 44), (1, zi a1), (2, zi a2)] [zi 0] m _
      refine X.ifeq 31 8 i296_5 rfl rfl rfl (fun h508 => ?_) (fun h508 => (by exfalso; omega))
      refine X.cut [] i296_31 rfl ?_
      refine X.ldc2 34 i296_31 rfl rfl (by decide) ?_
      refine X.retl i296_34 rfl t296 ?_
      exact hQ (-1) (by first | trivial | omega) (Eq.trans (if_neg h502c) (Eq.trans (if_neg h506c) rfl)) 
    · have h506c : a1 ≤ 6 := by omega
      clear h506 hz505
      refine X.iconst 14 i204_13 rfl rfl (by decide) ?_
      refine X.goto 18 i204_14 rfl rfl ?_
      refine X.cut [] i204_18 rfl ?_
      refine X.retz i204_18 rfl t204 (by omega) ?_
      show X (EE s) (d - 1) 290 9 [(0, zi a1), (1, zi a2)] [zi 1] m _
      refine X.ifeq 28 12 i290_9 rfl rfl rfl (fun h509 => (by exfalso; omega)) (fun h509 => ?_)
      refine X.iload_n 13 i290_12 rfl rfl rfl ?_
      refine X.iconst 14 i290_13 rfl rfl (by decide) ?_
      refine X.icmpeq 24 17 i290_14 rfl rfl rfl (fun h510 => ?_) (fun h510 => ?_)
      · refine X.cut [] i290_24 rfl ?_
        refine X.iconst 25 i290_24 rfl rfl (by decide) ?_
        refine X.goto 29 i290_25 rfl rfl ?_
        refine X.retz i290_29 rfl t290 (by omega) ?_
        show X (EE s) d 296 5 [(0, zr 4 44), (1, zi a1), (2, zi a2)] [zi 1] m _
        refine X.ifeq 31 8 i296_5 rfl rfl rfl (fun h511 => (by exfalso; omega)) (fun h511 => ?_)
        refine X.aload_n 9 i296_8 rfl rfl rfl ?_
        refine X.getF 12 i296_9 rfl rfl (by decide) rfl rfl ?_
        refine X.bipush 14 i296_12 rfl rfl (by decide) ?_
        refine X.iload_n 15 i296_14 rfl rfl rfl ?_
        refine X.iload_n 16 i296_15 rfl rfl rfl ?_
        refine X.calls 19 [zi a1, zi a2] [zi 60, zr 4 45] [(0, zi a1), (1, zi a2)] i296_16 (by decide) rfl rfl (by omega) rfl rfl t291 (Nat.le_of_ble_eq_true rfl) (Nat.le_of_ble_eq_true rfl) rfl ?_
        refine c291_1 (B := B)  a1 a2 (by omega) (hJ.up (by omega)) (by omega) (by omega) (by omega) (fun v514 hv514 hFv514 => ?_)
        show X (EE s) d 296 19 [(0, zr 4 44), (1, zi a1), (2, zi a2)] [zi v514, zi 60, zr 4 45] m _
        refine X.iadd 20 i296_19 rfl rfl (by omega) ?_
        refine X.lald 21 i296_20 rfl rfl (by decide) rfl (by omega) ?_
        refine X.aload_n 22 i296_21 rfl rfl rfl ?_
        refine X.getF 25 i296_22 rfl rfl (by decide) rfl rfl ?_
        refine X.iconst 26 i296_25 rfl rfl (by decide) ?_
        refine X.lald 27 i296_26 rfl rfl (by decide) rfl (by omega) ?_
        have h515 := r45_5 hJ 4
        refine X.ldivW 28 i296_27 rfl rfl (by omega) (fun z516 ez516 hz516 => ?_)
        refine X.goto 34 i296_28 rfl rfl ?_
        refine X.cut [] i296_34 rfl ?_
        refine X.retl i296_34 rfl t296 ?_
        exact hQ z516 (by first | trivial | omega) (Eq.trans (if_neg h502c) (Eq.trans (if_pos h506c) (Eq.trans (if_pos h510) (Eq.trans (zn_eq hFv514.symm) (Eq.trans (zn_eq ez516) rfl))))) 
      · refine X.iload_n 18 i290_17 rfl rfl rfl ?_
        refine X.calls 21 [zi a2] [] [(0, zi a2)] i290_18 (by decide) rfl rfl (by omega) rfl rfl t242 (Nat.le_of_ble_eq_true rfl) (Nat.le_of_ble_eq_true rfl) rfl ?_
        refine X.iload_n 1 i242_0 rfl rfl rfl ?_
        refine X.i2l 2 i242_1 rfl rfl ?_
        refine X.lconst (y := 0) 3 i242_2 rfl rfl rfl ?_
        refine X.ldc2 6 i242_3 rfl rfl (by decide) ?_
        refine X.calls 9 [zl a2, zl 0, zl 3] [] [(0, zl a2), (2, zl 0), (4, zl 3)] i242_6 (by decide) rfl rfl (by omega) rfl rfl t204 (Nat.le_of_ble_eq_true rfl) (Nat.le_of_ble_eq_true rfl) rfl ?_
        refine X.lload_n 1 i204_0 rfl rfl rfl ?_
        refine X.lload_n 2 i204_1 rfl rfl rfl ?_
        refine X.lcmp 3 i204_2 rfl rfl (fun z517 hz517 => ?_)
        refine X.iflt 17 6 i204_3 rfl rfl rfl (fun h518 => ?_) (fun h518 => ?_)
        · have h518c : a2 < 0 := by omega
          clear h518 hz517
          refine X.cut [] i204_17 rfl ?_
          refine X.iconst 18 i204_17 rfl rfl (by decide) ?_
          refine X.retz i204_18 rfl t204 (by omega) ?_
          show X (EE s) ((d - 1) - 1) 242 9 [(0, zi a2)] [zi 0] m _
          refine X.retz i242_9 rfl t242 (by omega) ?_
          show X (EE s) (d - 1) 290 21 [(0, zi a1), (1, zi a2)] [zi 0] m _
          refine X.ifeq 28 24 i290_21 rfl rfl rfl (fun h519 => ?_) (fun h519 => (by exfalso; omega))
          refine X.cut [] i290_28 rfl ?_
          refine X.iconst 29 i290_28 rfl rfl (by decide) ?_
          refine X.retz i290_29 rfl t290 (by omega) ?_
          show X (EE s) d 296 5 [(0, zr 4 44), (1, zi a1), (2, zi a2)] [zi 0] m _
          refine X.ifeq 31 8 i296_5 rfl rfl rfl (fun h520 => ?_) (fun h520 => (by exfalso; omega))
          refine X.cut [] i296_31 rfl ?_
          refine X.ldc2 34 i296_31 rfl rfl (by decide) ?_
          refine X.retl i296_34 rfl t296 ?_
          exact hQ (-1) (by first | trivial | omega) (Eq.trans (if_neg h502c) (Eq.trans (if_pos h506c) (Eq.trans (if_neg h510) (Eq.trans (if_pos h518c) rfl)))) 
        · have h518c : ¬ a2 < 0 := by omega
          clear h518 hz517
          refine X.lload_n 7 i204_6 rfl rfl rfl ?_
          refine X.lload 9 i204_7 rfl rfl rfl ?_
          refine X.lcmp 10 i204_9 rfl rfl (fun z521 hz521 => ?_)
          refine X.ifgt 17 13 i204_10 rfl rfl rfl (fun h522 => ?_) (fun h522 => ?_)
          · have h522c : ¬ a2 ≤ 3 := by omega
            clear h522 hz521
            refine X.cut [] i204_17 rfl ?_
            refine X.iconst 18 i204_17 rfl rfl (by decide) ?_
            refine X.retz i204_18 rfl t204 (by omega) ?_
            show X (EE s) ((d - 1) - 1) 242 9 [(0, zi a2)] [zi 0] m _
            refine X.retz i242_9 rfl t242 (by omega) ?_
            show X (EE s) (d - 1) 290 21 [(0, zi a1), (1, zi a2)] [zi 0] m _
            refine X.ifeq 28 24 i290_21 rfl rfl rfl (fun h523 => ?_) (fun h523 => (by exfalso; omega))
            refine X.cut [] i290_28 rfl ?_
            refine X.iconst 29 i290_28 rfl rfl (by decide) ?_
            refine X.retz i290_29 rfl t290 (by omega) ?_
            show X (EE s) d 296 5 [(0, zr 4 44), (1, zi a1), (2, zi a2)] [zi 0] m _
            refine X.ifeq 31 8 i296_5 rfl rfl rfl (fun h524 => ?_) (fun h524 => (by exfalso; omega))
            refine X.cut [] i296_31 rfl ?_
            refine X.ldc2 34 i296_31 rfl rfl (by decide) ?_
            refine X.retl i296_34 rfl t296 ?_
            exact hQ (-1) (by first | trivial | omega) (Eq.trans (if_neg h502c) (Eq.trans (if_pos h506c) (Eq.trans (if_neg h510) (Eq.trans (if_neg h518c) (Eq.trans (if_neg h522c) rfl))))) 
          · have h522c : a2 ≤ 3 := by omega
            clear h522 hz521
            refine X.iconst 14 i204_13 rfl rfl (by decide) ?_
            refine X.goto 18 i204_14 rfl rfl ?_
            refine X.cut [] i204_18 rfl ?_
            refine X.retz i204_18 rfl t204 (by omega) ?_
            show X (EE s) ((d - 1) - 1) 242 9 [(0, zi a2)] [zi 1] m _
            refine X.retz i242_9 rfl t242 (by omega) ?_
            show X (EE s) (d - 1) 290 21 [(0, zi a1), (1, zi a2)] [zi 1] m _
            refine X.ifeq 28 24 i290_21 rfl rfl rfl (fun h525 => (by exfalso; omega)) (fun h525 => ?_)
            refine X.cut [] i290_24 rfl ?_
            refine X.iconst 25 i290_24 rfl rfl (by decide) ?_
            refine X.goto 29 i290_25 rfl rfl ?_
            refine X.retz i290_29 rfl t290 (by omega) ?_
            show X (EE s) d 296 5 [(0, zr 4 44), (1, zi a1), (2, zi a2)] [zi 1] m _
            refine X.ifeq 31 8 i296_5 rfl rfl rfl (fun h526 => (by exfalso; omega)) (fun h526 => ?_)
            refine X.aload_n 9 i296_8 rfl rfl rfl ?_
            refine X.getF 12 i296_9 rfl rfl (by decide) rfl rfl ?_
            refine X.bipush 14 i296_12 rfl rfl (by decide) ?_
            refine X.iload_n 15 i296_14 rfl rfl rfl ?_
            refine X.iload_n 16 i296_15 rfl rfl rfl ?_
            refine X.calls 19 [zi a1, zi a2] [zi 60, zr 4 45] [(0, zi a1), (1, zi a2)] i296_16 (by decide) rfl rfl (by omega) rfl rfl t291 (Nat.le_of_ble_eq_true rfl) (Nat.le_of_ble_eq_true rfl) rfl ?_
            refine c291_1 (B := B)  a1 a2 (by omega) (hJ.up (by omega)) (by omega) (by omega) (by omega) (fun v529 hv529 hFv529 => ?_)
            show X (EE s) d 296 19 [(0, zr 4 44), (1, zi a1), (2, zi a2)] [zi v529, zi 60, zr 4 45] m _
            refine X.iadd 20 i296_19 rfl rfl (by omega) ?_
            refine X.lald 21 i296_20 rfl rfl (by decide) rfl (by omega) ?_
            refine X.aload_n 22 i296_21 rfl rfl rfl ?_
            refine X.getF 25 i296_22 rfl rfl (by decide) rfl rfl ?_
            refine X.iconst 26 i296_25 rfl rfl (by decide) ?_
            refine X.lald 27 i296_26 rfl rfl (by decide) rfl (by omega) ?_
            have h530 := r45_5 hJ 4
            refine X.ldivW 28 i296_27 rfl rfl (by omega) (fun z531 ez531 hz531 => ?_)
            refine X.goto 34 i296_28 rfl rfl ?_
            refine X.cut [] i296_34 rfl ?_
            refine X.retl i296_34 rfl t296 ?_
            exact hQ z531 (by first | trivial | omega) (Eq.trans (if_neg h502c) (Eq.trans (if_pos h506c) (Eq.trans (if_neg h510) (Eq.trans (if_neg h518c) (Eq.trans (if_pos h522c) (Eq.trans (zn_eq hFv529.symm) (Eq.trans (zn_eq ez531) rfl))))))) 
-- WorkMeter.tariffAt
noncomputable def f148_1 (a1 : Int) (m : zM) : Int :=
  if a1 < 0 then
  ((-1))
  else
  (if 2000000000 < a1 then
  ((-1))
  else
  (zn (f27_1 0 a1 m) fun v508 =>
  v508))
-- WorkMeter.tariffAt
theorem c148_1 {s : Nat × (Nat → Int32)} {S : zS} {m0 m : zM} {B : Int} {d : Nat} {Q : Option zV → zM → Prop} (a1 : Int) (hd : 16 ≤ d) (hJ : J S m0 B m) (hB : B + 0 ≤ 1000000000) (ha1 : (-2147483648) ≤ a1 ∧ a1 ≤ 2147483647) (hQ : ∀ (v : Int), ((-1) ≤ v ∧ v ≤ 3) → f148_1 a1 m = v → Q (some (zi v)) m) : X (EE s) d 148 0 [(0, zr 4 40), (1, zi a1)] [] m Q := by
  refine X.iload_n 1 i148_0 rfl rfl rfl ?_
  refine X.calls 4 [zi a1] [] [(0, zi a1)] i148_1 (by decide) rfl rfl (by omega) rfl rfl t128 (Nat.le_of_ble_eq_true rfl) (Nat.le_of_ble_eq_true rfl) rfl ?_
  refine X.iload_n 1 i128_0 rfl rfl rfl ?_
  refine X.iflt 14 4 i128_1 rfl rfl rfl (fun h501 => ?_) (fun h501 => ?_)
  · refine X.cut [] i128_14 rfl ?_
    refine X.iconst 15 i128_14 rfl rfl (by decide) ?_
    refine X.retz i128_15 rfl t128 (by omega) ?_
    show X (EE s) d 148 4 [(0, zr 4 40), (1, zi a1)] [zi 0] m _
    refine X.ifeq 21 7 i148_4 rfl rfl rfl (fun h502 => ?_) (fun h502 => (by exfalso; omega))
    refine X.cut [] i148_21 rfl ?_
    refine X.iconst 22 i148_21 rfl rfl (by decide) ?_
    refine X.reti i148_22 rfl t148 ?_
    exact hQ (-1) (by first | trivial | omega) (Eq.trans (if_pos h501) rfl) 
  · refine X.iload_n 5 i128_4 rfl rfl rfl ?_
    refine X.ldc 7 i128_5 rfl rfl (by decide) ?_
    refine X.icmpgt 14 10 i128_7 rfl rfl rfl (fun h503 => ?_) (fun h503 => ?_)
    · refine X.cut [] i128_14 rfl ?_
      refine X.iconst 15 i128_14 rfl rfl (by decide) ?_
      refine X.retz i128_15 rfl t128 (by omega) ?_
      show X (EE s) d 148 4 [(0, zr 4 40), (1, zi a1)] [zi 0] m _
      refine X.ifeq 21 7 i148_4 rfl rfl rfl (fun h504 => ?_) (fun h504 => (by exfalso; omega))
      refine X.cut [] i148_21 rfl ?_
      refine X.iconst 22 i148_21 rfl rfl (by decide) ?_
      refine X.reti i148_22 rfl t148 ?_
      exact hQ (-1) (by first | trivial | omega) (Eq.trans (if_neg h501) (Eq.trans (if_pos h503) rfl)) 
    · refine X.iconst 11 i128_10 rfl rfl (by decide) ?_
      refine X.goto 15 i128_11 rfl rfl ?_
      refine X.cut [] i128_15 rfl ?_
      refine X.retz i128_15 rfl t128 (by omega) ?_
      show X (EE s) d 148 4 [(0, zr 4 40), (1, zi a1)] [zi 1] m _
      refine X.ifeq 21 7 i148_4 rfl rfl rfl (fun h505 => (by exfalso; omega)) (fun h505 => ?_)
      refine X.aload_n 8 i148_7 rfl rfl rfl ?_
      refine X.getF 11 i148_8 rfl rfl (by decide) rfl rfl ?_
      refine X.getR 14 i148_11 rfl rfl (by decide) rfl rfl ?_
      refine X.iload_n 15 i148_14 rfl rfl rfl ?_
      refine X.callv 18 [zi a1] [] [(0, zr 0 11), (1, zi a1)] i148_15 rfl (by decide) rfl rfl (by omega) rfl rfl (by decide) rfl t27 (Nat.le_of_ble_eq_true rfl) (Nat.le_of_ble_eq_true rfl) rfl ?_
      refine c27_1 (B := B) 0 a1 (by omega) (hJ.up (by omega)) (by omega) (by omega) (fun v508 hv508 hFv508 => ?_)
      show X (EE s) d 148 18 [(0, zr 4 40), (1, zi a1)] [zi v508] m _
      refine X.goto 22 i148_18 rfl rfl ?_
      refine X.cut [] i148_22 rfl ?_
      refine X.reti i148_22 rfl t148 ?_
      exact hQ v508 (by first | trivial | omega) (Eq.trans (if_neg h501) (Eq.trans (if_neg h503) (Eq.trans (zn_eq hFv508.symm) rfl))) 
-- WorkMeterModel.tariffAt
noncomputable def f250_1 (a1 : Int) (m : zM) : Int :=
  if a1 < 0 then
  ((-1))
  else
  (if a1 ≤ 2000000000 then
  (zn (f217_1 a1 m) fun v510 =>
  v510)
  else
  ((-1)))
-- WorkMeterModel.tariffAt
theorem c250_1 {s : Nat × (Nat → Int32)} {S : zS} {m0 m : zM} {B : Int} {d : Nat} {Q : Option zV → zM → Prop} (a1 : Int) (hd : 16 ≤ d) (hJ : J S m0 B m) (hB : B + 0 ≤ 1000000000) (ha1 : (-2147483648) ≤ a1 ∧ a1 ≤ 2147483647) (hQ : ∀ (v : Int), ((-1) ≤ v ∧ v ≤ 3) → f250_1 a1 m = v → Q (some (zi v)) m) : X (EE s) d 250 0 [(0, zr 4 44), (1, zi a1)] [] m Q := by
  refine X.iload_n 1 i250_0 rfl rfl rfl ?_
  refine X.i2l 2 i250_1 rfl rfl ?_
  refine X.lconst (y := 0) 3 i250_2 rfl rfl rfl ?_
  refine X.ldc2 6 i250_3 rfl rfl (by decide) ?_
  refine X.calls 9 [zl a1, zl 0, zl 2000000000] [] [(0, zl a1), (2, zl 0), (4, zl 2000000000)] i250_6 (by decide) rfl rfl (by omega) rfl rfl t204 (Nat.le_of_ble_eq_true rfl) (Nat.le_of_ble_eq_true rfl) rfl ?_
  refine X.lload_n 1 i204_0 rfl rfl rfl ?_
  refine X.lload_n 2 i204_1 rfl rfl rfl ?_
  refine X.lcmp 3 i204_2 rfl rfl (fun z501 hz501 => ?_)
  refine X.iflt 17 6 i204_3 rfl rfl rfl (fun h502 => ?_) (fun h502 => ?_)
  · have h502c : a1 < 0 := by omega
    clear h502 hz501
    refine X.cut [] i204_17 rfl ?_
    refine X.iconst 18 i204_17 rfl rfl (by decide) ?_
    refine X.retz i204_18 rfl t204 (by omega) ?_
    show X (EE s) d 250 9 [(0, zr 4 44), (1, zi a1)] [zi 0] m _
    refine X.ifeq 20 12 i250_9 rfl rfl rfl (fun h503 => ?_) (fun h503 => (by exfalso; omega))
    refine X.cut [] i250_20 rfl ?_
    refine X.iconst 21 i250_20 rfl rfl (by decide) ?_
    refine X.reti i250_21 rfl t250 ?_
    exact hQ (-1) (by first | trivial | omega) (Eq.trans (if_pos h502c) rfl) 
  · have h502c : ¬ a1 < 0 := by omega
    clear h502 hz501
    refine X.lload_n 7 i204_6 rfl rfl rfl ?_
    refine X.lload 9 i204_7 rfl rfl rfl ?_
    refine X.lcmp 10 i204_9 rfl rfl (fun z504 hz504 => ?_)
    refine X.ifgt 17 13 i204_10 rfl rfl rfl (fun h505 => ?_) (fun h505 => ?_)
    · have h505c : ¬ a1 ≤ 2000000000 := by omega
      clear h505 hz504
      refine X.cut [] i204_17 rfl ?_
      refine X.iconst 18 i204_17 rfl rfl (by decide) ?_
      refine X.retz i204_18 rfl t204 (by omega) ?_
      show X (EE s) d 250 9 [(0, zr 4 44), (1, zi a1)] [zi 0] m _
      refine X.ifeq 20 12 i250_9 rfl rfl rfl (fun h506 => ?_) (fun h506 => (by exfalso; omega))
      refine X.cut [] i250_20 rfl ?_
      refine X.iconst 21 i250_20 rfl rfl (by decide) ?_
      refine X.reti i250_21 rfl t250 ?_
      exact hQ (-1) (by first | trivial | omega) (Eq.trans (if_neg h502c) (Eq.trans (if_neg h505c) rfl)) 
    · have h505c : a1 ≤ 2000000000 := by omega
      clear h505 hz504
      refine X.iconst 14 i204_13 rfl rfl (by decide) ?_
      refine X.goto 18 i204_14 rfl rfl ?_
      refine X.cut [] i204_18 rfl ?_
      refine X.retz i204_18 rfl t204 (by omega) ?_
      show X (EE s) d 250 9 [(0, zr 4 44), (1, zi a1)] [zi 1] m _
      refine X.ifeq 20 12 i250_9 rfl rfl rfl (fun h507 => (by exfalso; omega)) (fun h507 => ?_)
      refine X.aload_n 13 i250_12 rfl rfl rfl ?_
      refine X.iload_n 14 i250_13 rfl rfl rfl ?_
      refine X.callv 17 [zi a1] [] [(0, zr 4 44), (1, zi a1)] i250_14 rfl (by decide) rfl rfl (by omega) rfl rfl (by decide) rfl t217 (Nat.le_of_ble_eq_true rfl) (Nat.le_of_ble_eq_true rfl) rfl ?_
      refine c217_1 (B := B)  a1 (by omega) (hJ.up (by omega)) (by omega) (by omega) (fun v510 hv510 hFv510 => ?_)
      show X (EE s) d 250 17 [(0, zr 4 44), (1, zi a1)] [zi v510] m _
      refine X.goto 21 i250_17 rfl rfl ?_
      refine X.cut [] i250_21 rfl ?_
      refine X.reti i250_21 rfl t250 ?_
      exact hQ v510 (by first | trivial | omega) (Eq.trans (if_neg h502c) (Eq.trans (if_pos h505c) (Eq.trans (zn_eq hFv510.symm) rfl))) 
-- WorkMeter.tableOf
noncomputable def f149_1 (a1 : Int) (m : zM) : Int :=
  if a1 < 0 then
  ((-1))
  else
  (if 23148 < a1 then
  ((-1))
  else
  (zn (f28_1 0 a1 m) fun v508 =>
  v508))
-- WorkMeter.tableOf
theorem c149_1 {s : Nat × (Nat → Int32)} {S : zS} {m0 m : zM} {B : Int} {d : Nat} {Q : Option zV → zM → Prop} (a1 : Int) (hd : 15 ≤ d) (hJ : J S m0 B m) (hB : B + 0 ≤ 1000000000) (ha1 : (-2147483648) ≤ a1 ∧ a1 ≤ 2147483647) (hQ : ∀ (v : Int), ((-1) ≤ v ∧ v ≤ 7) → f149_1 a1 m = v → Q (some (zi v)) m) : X (EE s) d 149 0 [(0, zr 4 40), (1, zi a1)] [] m Q := by
  refine X.iload_n 1 i149_0 rfl rfl rfl ?_
  refine X.calls 4 [zi a1] [] [(0, zi a1)] i149_1 (by decide) rfl rfl (by omega) rfl rfl t150 (Nat.le_of_ble_eq_true rfl) (Nat.le_of_ble_eq_true rfl) rfl ?_
  refine X.iload_n 1 i150_0 rfl rfl rfl ?_
  refine X.iflt 15 4 i150_1 rfl rfl rfl (fun h501 => ?_) (fun h501 => ?_)
  · refine X.cut [] i150_15 rfl ?_
    refine X.iconst 16 i150_15 rfl rfl (by decide) ?_
    refine X.retz i150_16 rfl t150 (by omega) ?_
    show X (EE s) d 149 4 [(0, zr 4 40), (1, zi a1)] [zi 0] m _
    refine X.ifeq 21 7 i149_4 rfl rfl rfl (fun h502 => ?_) (fun h502 => (by exfalso; omega))
    refine X.cut [] i149_21 rfl ?_
    refine X.iconst 22 i149_21 rfl rfl (by decide) ?_
    refine X.reti i149_22 rfl t149 ?_
    exact hQ (-1) (by first | trivial | omega) (Eq.trans (if_pos h501) rfl) 
  · refine X.iload_n 5 i150_4 rfl rfl rfl ?_
    refine X.sipush 8 i150_5 rfl rfl (by decide) ?_
    refine X.icmpgt 15 11 i150_8 rfl rfl rfl (fun h503 => ?_) (fun h503 => ?_)
    · refine X.cut [] i150_15 rfl ?_
      refine X.iconst 16 i150_15 rfl rfl (by decide) ?_
      refine X.retz i150_16 rfl t150 (by omega) ?_
      show X (EE s) d 149 4 [(0, zr 4 40), (1, zi a1)] [zi 0] m _
      refine X.ifeq 21 7 i149_4 rfl rfl rfl (fun h504 => ?_) (fun h504 => (by exfalso; omega))
      refine X.cut [] i149_21 rfl ?_
      refine X.iconst 22 i149_21 rfl rfl (by decide) ?_
      refine X.reti i149_22 rfl t149 ?_
      exact hQ (-1) (by first | trivial | omega) (Eq.trans (if_neg h501) (Eq.trans (if_pos h503) rfl)) 
    · refine X.iconst 12 i150_11 rfl rfl (by decide) ?_
      refine X.goto 16 i150_12 rfl rfl ?_
      refine X.cut [] i150_16 rfl ?_
      refine X.retz i150_16 rfl t150 (by omega) ?_
      show X (EE s) d 149 4 [(0, zr 4 40), (1, zi a1)] [zi 1] m _
      refine X.ifeq 21 7 i149_4 rfl rfl rfl (fun h505 => (by exfalso; omega)) (fun h505 => ?_)
      refine X.aload_n 8 i149_7 rfl rfl rfl ?_
      refine X.getF 11 i149_8 rfl rfl (by decide) rfl rfl ?_
      refine X.getR 14 i149_11 rfl rfl (by decide) rfl rfl ?_
      refine X.iload_n 15 i149_14 rfl rfl rfl ?_
      refine X.callv 18 [zi a1] [] [(0, zr 0 11), (1, zi a1)] i149_15 rfl (by decide) rfl rfl (by omega) rfl rfl (by decide) rfl t28 (Nat.le_of_ble_eq_true rfl) (Nat.le_of_ble_eq_true rfl) rfl ?_
      refine c28_1 (B := B) 0 a1 (by omega) (hJ.up (by omega)) (by omega) (by omega) (fun v508 hv508 hFv508 => ?_)
      show X (EE s) d 149 18 [(0, zr 4 40), (1, zi a1)] [zi v508] m _
      refine X.goto 22 i149_18 rfl rfl ?_
      refine X.cut [] i149_22 rfl ?_
      refine X.reti i149_22 rfl t149 ?_
      exact hQ v508 (by first | trivial | omega) (Eq.trans (if_neg h501) (Eq.trans (if_neg h503) (Eq.trans (zn_eq hFv508.symm) rfl))) 
-- WorkMeterModel.tableOf
noncomputable def f251_1 (a1 : Int) (m : zM) : Int :=
  if a1 < 0 then
  ((-1))
  else
  (if a1 ≤ 23148 then
  (zn (f218_1 a1 m) fun v510 =>
  v510)
  else
  ((-1)))
-- WorkMeterModel.tableOf
theorem c251_1 {s : Nat × (Nat → Int32)} {S : zS} {m0 m : zM} {B : Int} {d : Nat} {Q : Option zV → zM → Prop} (a1 : Int) (hd : 15 ≤ d) (hJ : J S m0 B m) (hB : B + 0 ≤ 1000000000) (ha1 : (-2147483648) ≤ a1 ∧ a1 ≤ 2147483647) (hQ : ∀ (v : Int), ((-1) ≤ v ∧ v ≤ 7) → f251_1 a1 m = v → Q (some (zi v)) m) : X (EE s) d 251 0 [(0, zr 4 44), (1, zi a1)] [] m Q := by
  refine X.iload_n 1 i251_0 rfl rfl rfl ?_
  refine X.i2l 2 i251_1 rfl rfl ?_
  refine X.lconst (y := 0) 3 i251_2 rfl rfl rfl ?_
  refine X.ldc2 6 i251_3 rfl rfl (by decide) ?_
  refine X.calls 9 [zl a1, zl 0, zl 23148] [] [(0, zl a1), (2, zl 0), (4, zl 23148)] i251_6 (by decide) rfl rfl (by omega) rfl rfl t204 (Nat.le_of_ble_eq_true rfl) (Nat.le_of_ble_eq_true rfl) rfl ?_
  refine X.lload_n 1 i204_0 rfl rfl rfl ?_
  refine X.lload_n 2 i204_1 rfl rfl rfl ?_
  refine X.lcmp 3 i204_2 rfl rfl (fun z501 hz501 => ?_)
  refine X.iflt 17 6 i204_3 rfl rfl rfl (fun h502 => ?_) (fun h502 => ?_)
  · have h502c : a1 < 0 := by omega
    clear h502 hz501
    refine X.cut [] i204_17 rfl ?_
    refine X.iconst 18 i204_17 rfl rfl (by decide) ?_
    refine X.retz i204_18 rfl t204 (by omega) ?_
    show X (EE s) d 251 9 [(0, zr 4 44), (1, zi a1)] [zi 0] m _
    refine X.ifeq 20 12 i251_9 rfl rfl rfl (fun h503 => ?_) (fun h503 => (by exfalso; omega))
    refine X.cut [] i251_20 rfl ?_
    refine X.iconst 21 i251_20 rfl rfl (by decide) ?_
    refine X.reti i251_21 rfl t251 ?_
    exact hQ (-1) (by first | trivial | omega) (Eq.trans (if_pos h502c) rfl) 
  · have h502c : ¬ a1 < 0 := by omega
    clear h502 hz501
    refine X.lload_n 7 i204_6 rfl rfl rfl ?_
    refine X.lload 9 i204_7 rfl rfl rfl ?_
    refine X.lcmp 10 i204_9 rfl rfl (fun z504 hz504 => ?_)
    refine X.ifgt 17 13 i204_10 rfl rfl rfl (fun h505 => ?_) (fun h505 => ?_)
    · have h505c : ¬ a1 ≤ 23148 := by omega
      clear h505 hz504
      refine X.cut [] i204_17 rfl ?_
      refine X.iconst 18 i204_17 rfl rfl (by decide) ?_
      refine X.retz i204_18 rfl t204 (by omega) ?_
      show X (EE s) d 251 9 [(0, zr 4 44), (1, zi a1)] [zi 0] m _
      refine X.ifeq 20 12 i251_9 rfl rfl rfl (fun h506 => ?_) (fun h506 => (by exfalso; omega))
      refine X.cut [] i251_20 rfl ?_
      refine X.iconst 21 i251_20 rfl rfl (by decide) ?_
      refine X.reti i251_21 rfl t251 ?_
      exact hQ (-1) (by first | trivial | omega) (Eq.trans (if_neg h502c) (Eq.trans (if_neg h505c) rfl)) 
    · have h505c : a1 ≤ 23148 := by omega
      clear h505 hz504
      refine X.iconst 14 i204_13 rfl rfl (by decide) ?_
      refine X.goto 18 i204_14 rfl rfl ?_
      refine X.cut [] i204_18 rfl ?_
      refine X.retz i204_18 rfl t204 (by omega) ?_
      show X (EE s) d 251 9 [(0, zr 4 44), (1, zi a1)] [zi 1] m _
      refine X.ifeq 20 12 i251_9 rfl rfl rfl (fun h507 => (by exfalso; omega)) (fun h507 => ?_)
      refine X.aload_n 13 i251_12 rfl rfl rfl ?_
      refine X.iload_n 14 i251_13 rfl rfl rfl ?_
      refine X.callv 17 [zi a1] [] [(0, zr 4 44), (1, zi a1)] i251_14 rfl (by decide) rfl rfl (by omega) rfl rfl (by decide) rfl t218 (Nat.le_of_ble_eq_true rfl) (Nat.le_of_ble_eq_true rfl) rfl ?_
      refine c218_1 (B := B)  a1 (by omega) (hJ.up (by omega)) (by omega) (by omega) (fun v510 hv510 hFv510 => ?_)
      show X (EE s) d 251 17 [(0, zr 4 44), (1, zi a1)] [zi v510] m _
      refine X.goto 21 i251_17 rfl rfl ?_
      refine X.cut [] i251_21 rfl ?_
      refine X.reti i251_21 rfl t251 ?_
      exact hQ v510 (by first | trivial | omega) (Eq.trans (if_neg h502c) (Eq.trans (if_pos h505c) (Eq.trans (zn_eq hFv510.symm) rfl))) 
-- WorkMeter.switching
noncomputable def f151_1 (a1 a2 a3 : Int) (m : zM) : Int :=
  if a1 < 0 then
  ((-1))
  else
  (if 8 ≤ a1 then
  ((-1))
  else
  (if a2 = (-1) then
  ((m 0 12 a1))
  else
  (if a2 < 0 then
  ((-1))
  else
  (if (m 0 12 a1) ≤ a2 then
  ((-1))
  else
  (if a3 < 0 then
  ((-1))
  else
  (if a3 ≤ 1 then
  (zn (if a3 = 0 then
  ((m 0 13 ((a1 * 6) + a2)))
  else
  ((m 0 14 ((a1 * 6) + a2)))) fun v515 =>
  v515)
  else
  ((-1))))))))
