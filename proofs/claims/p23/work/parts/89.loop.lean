theorem law_exit {s : Nat × (Nat → Int32)} {m : zM} {d : Nat} {y : Int} : X (EE s) d 316 1662 [(0, zr 99 0), (1, zr 4 40), (2, zr 4 44), (3, zi y)] [] m (fun r _ => r = some (zi 1)) := by
  refine X.cut [] (zi316 1662) rfl ?_
  refine X.iconst 1663 (zi316 1662) rfl rfl (by decide) ?_
  exact X.retz (zi316 1663) rfl t316 (.inr rfl) rfl
theorem law_loop {s : Nat × (Nat → Int32)} {d : Nat} (hd : 200 ≤ d) (hs : s.1 ≤ 3072) : ∀ (n : Nat) (y : Int) (m : zM) (B : Int), JB B m → Rel3 B m m → 0 ≤ y ∧ y ≤ 3078 → (s.1 : Int) - y < 6 * (n : Int) → B + 220000 * (n : Int) ≤ 700000000 → X (EE s) d 316 18 [(0, zr 99 0), (1, zr 4 40), (2, zr 4 44), (3, zi y)] [] m (fun r _ => r = some (zi 1)) := by
  intro n
  induction n with
  | zero =>
    intro y m B hJ hR hy hn hB
    refine X.iload_n 19 (zi316 18) rfl rfl rfl ?_
    refine X.aload_n 20 (zi316 19) rfl rfl rfl ?_
    refine X.rlen 21 (zi316 20) rfl rfl (by decide) (show s.1 < 2147483648 by omega) ?_
    show X (EE s) d 316 21 [(0, zr 99 0), (1, zr 4 40), (2, zr 4 44), (3, zi y)] [zi ((s.1 : Nat) : Int), zi y] m _
    refine X.bipush 23 (zi316 21) rfl rfl (by decide) ?_
    refine X.isub 24 (zi316 23) rfl rfl (by omega) ?_
    refine X.icmpgt 1662 27 (zi316 24) rfl rfl rfl (fun h => ?_) (fun h => ?_)
    · exact law_exit
    · exfalso
      omega
  | succ n ih =>
    intro y m B hJ hR hy hn hB
    refine X.iload_n 19 (zi316 18) rfl rfl rfl ?_
    refine X.aload_n 20 (zi316 19) rfl rfl rfl ?_
    refine X.rlen 21 (zi316 20) rfl rfl (by decide) (show s.1 < 2147483648 by omega) ?_
    show X (EE s) d 316 21 [(0, zr 99 0), (1, zr 4 40), (2, zr 4 44), (3, zi y)] [zi ((s.1 : Nat) : Int), zi y] m _
    refine X.bipush 23 (zi316 21) rfl rfl (by decide) ?_
    refine X.isub 24 (zi316 23) rfl rfl (by omega) ?_
    refine X.icmpgt 1662 27 (zi316 24) rfl rfl rfl (fun h => ?_) (fun h => ?_)
    · exact law_exit
    · have hy6 : 0 ≤ y ∧ y + 6 ≤ (s.1 : Int) := by omega
      have K : ∀ (m' : zM), JB (B + 220000) m' → Rel3 (B + 220000) m' m' → X (EE s) d 316 1656 [(0, zr 99 0), (1, zr 4 40), (2, zr 4 44), (3, zi y)] [] m' (fun r _ => r = some (zi 1)) := by
        intro m' hJ' hR'
        refine X.iinc 1659 [(0, zr 99 0), (1, zr 4 40), (2, zr 4 44), (3, zi (y + 6))] (zi316 1656) rfl rfl rfl (by omega) rfl ?_
        refine X.goto 18 (zi316 1659) rfl rfl ?_
        exact ih (y + 6) m' (B + 220000) hJ' hR' (by omega) (by omega) (by omega)
      refine X.aload_n 28 (zi316 27) rfl rfl rfl ?_
      refine X.iload_n 29 (zi316 28) rfl rfl rfl ?_
      refine X.rald 30 (zi316 29) rfl rfl (by decide) (by show 0 ≤ _ ∧ _ < ((s.1 : Nat) : Int); omega) (fun h0 => ?_)
      refine X.bipush 32 (zi316 30) rfl rfl (by decide) ?_
      refine X.andF 33 63 (zi316 32) rfl rfl (by decide) (.inl rfl) (fun z hz => ?_)
      by_cases c0 : z = 0
      · refine X.tsIn 236 0 (zi316 33) rfl (by omega) rfl rfl ?_
        exact lw0 y hd hJ hR (by omega) hy6 hs K
      by_cases c1 : z = 1
      · refine X.tsIn 269 1 (zi316 33) rfl (by omega) rfl rfl ?_
        exact lw1 y hd hJ hR (by omega) hy6 hs K
      by_cases c2 : z = 2
      · refine X.tsIn 302 2 (zi316 33) rfl (by omega) rfl rfl ?_
        exact lw2 y hd hJ hR (by omega) hy6 hs K
      by_cases c3 : z = 3
      · refine X.tsIn 325 3 (zi316 33) rfl (by omega) rfl rfl ?_
        exact lw3 y hd hJ hR (by omega) hy6 hs K
      by_cases c4 : z = 4
      · refine X.tsIn 358 4 (zi316 33) rfl (by omega) rfl rfl ?_
        exact lw4 y hd hJ hR (by omega) hy6 hs K
      by_cases c5 : z = 5
      · refine X.tsIn 401 5 (zi316 33) rfl (by omega) rfl rfl ?_
        exact lw5 y hd hJ hR (by omega) hy6 hs K
      by_cases c6 : z = 6
      · refine X.tsIn 424 6 (zi316 33) rfl (by omega) rfl rfl ?_
        exact lw6 y hd hJ hR (by omega) hy6 hs K
      by_cases c7 : z = 7
      · refine X.tsIn 487 7 (zi316 33) rfl (by omega) rfl rfl ?_
        exact lw7 y hd hJ hR (by omega) hy6 hs K
      by_cases c8 : z = 8
      · refine X.tsIn 510 8 (zi316 33) rfl (by omega) rfl rfl ?_
        exact lw8 y hd hJ hR (by omega) hy6 hs K
      by_cases c9 : z = 9
      · refine X.tsIn 523 9 (zi316 33) rfl (by omega) rfl rfl ?_
        exact lw9 y hd hJ hR (by omega) hy6 hs K
      by_cases c10 : z = 10
      · refine X.tsIn 546 10 (zi316 33) rfl (by omega) rfl rfl ?_
        exact lw10 y hd hJ hR (by omega) hy6 hs K
      by_cases c11 : z = 11
      · refine X.tsIn 569 11 (zi316 33) rfl (by omega) rfl rfl ?_
        exact lw11 y hd hJ hR (by omega) hy6 hs K
      by_cases c12 : z = 12
      · refine X.tsIn 592 12 (zi316 33) rfl (by omega) rfl rfl ?_
        exact lw12 y hd hJ hR (by omega) hy6 hs K
      by_cases c13 : z = 13
      · refine X.tsIn 625 13 (zi316 33) rfl (by omega) rfl rfl ?_
        exact lw13 y hd hJ hR (by omega) hy6 hs K
      by_cases c14 : z = 14
      · refine X.tsIn 668 14 (zi316 33) rfl (by omega) rfl rfl ?_
        exact lw14 y hd hJ hR (by omega) hy6 hs K
      by_cases c15 : z = 15
      · refine X.tsIn 701 15 (zi316 33) rfl (by omega) rfl rfl ?_
        exact lw15 y hd hJ hR (by omega) hy6 hs K
      by_cases c16 : z = 16
      · refine X.tsIn 724 16 (zi316 33) rfl (by omega) rfl rfl ?_
        exact lw16 y hd hJ hR (by omega) hy6 hs K
      by_cases c17 : z = 17
      · refine X.tsIn 747 17 (zi316 33) rfl (by omega) rfl rfl ?_
        exact lw17 y hd hJ hR (by omega) hy6 hs K
      by_cases c18 : z = 18
      · refine X.tsIn 796 18 (zi316 33) rfl (by omega) rfl rfl ?_
        exact lw18 y hd hJ hR (by omega) hy6 hs K
      by_cases c19 : z = 19
      · refine X.tsIn 835 19 (zi316 33) rfl (by omega) rfl rfl ?_
        exact lw19 y hd hJ hR (by omega) hy6 hs K
      by_cases c20 : z = 20
      · refine X.tsIn 858 20 (zi316 33) rfl (by omega) rfl rfl ?_
        exact lw20 y hd hJ hR (by omega) hy6 hs K
      by_cases c21 : z = 21
      · refine X.tsIn 871 21 (zi316 33) rfl (by omega) rfl rfl ?_
        exact lw21 y hd hJ hR (by omega) hy6 hs K
      by_cases c22 : z = 22
      · refine X.tsIn 905 22 (zi316 33) rfl (by omega) rfl rfl ?_
        exact lw22 y hd hJ hR (by omega) hy6 hs K
      by_cases c23 : z = 23
      · refine X.tsIn 938 23 (zi316 33) rfl (by omega) rfl rfl ?_
        exact lw23 y hd hJ hR (by omega) hy6 hs K
      by_cases c24 : z = 24
      · refine X.tsIn 971 24 (zi316 33) rfl (by omega) rfl rfl ?_
        exact lw24 y hd hJ hR (by omega) hy6 hs K
      by_cases c25 : z = 25
      · refine X.tsIn 994 25 (zi316 33) rfl (by omega) rfl rfl ?_
        exact lw25 y hd hJ hR (by omega) hy6 hs K
      by_cases c26 : z = 26
      · refine X.tsIn 1017 26 (zi316 33) rfl (by omega) rfl rfl ?_
        exact lw26 y hd hJ hR (by omega) hy6 hs K
      by_cases c27 : z = 27
      · refine X.tsIn 1060 27 (zi316 33) rfl (by omega) rfl rfl ?_
        exact lw27 y hd hJ hR (by omega) hy6 hs K
      by_cases c28 : z = 28
      · refine X.tsIn 1083 28 (zi316 33) rfl (by omega) rfl rfl ?_
        exact lw28 y hd hJ hR (by omega) hy6 hs K
      by_cases c29 : z = 29
      · refine X.tsIn 1116 29 (zi316 33) rfl (by omega) rfl rfl ?_
        exact lw29 y hd hJ hR (by omega) hy6 hs K
      by_cases c30 : z = 30
      · refine X.tsIn 1149 30 (zi316 33) rfl (by omega) rfl rfl ?_
        exact lw30 y hd hJ hR (by omega) hy6 hs K
      by_cases c31 : z = 31
      · refine X.tsIn 1172 31 (zi316 33) rfl (by omega) rfl rfl ?_
        exact lw31 y hd hJ hR (by omega) hy6 hs K
      by_cases c32 : z = 32
      · refine X.tsIn 1195 32 (zi316 33) rfl (by omega) rfl rfl ?_
        exact lw32 y hd hJ hR (by omega) hy6 hs K
      by_cases c33 : z = 33
      · refine X.tsIn 1228 33 (zi316 33) rfl (by omega) rfl rfl ?_
        exact lw33 y hd hJ hR (by omega) hy6 hs K
      by_cases c34 : z = 34
      · refine X.tsIn 1271 34 (zi316 33) rfl (by omega) rfl rfl ?_
        exact lw34 y hd hJ hR (by omega) hy6 hs K
      by_cases c35 : z = 35
      · refine X.tsIn 1304 35 (zi316 33) rfl (by omega) rfl rfl ?_
        exact lw35 y hd hJ hR (by omega) hy6 hs K
      by_cases c36 : z = 36
      · refine X.tsIn 1337 36 (zi316 33) rfl (by omega) rfl rfl ?_
        exact lw36 y hd hJ hR (by omega) hy6 hs K
      by_cases c37 : z = 37
      · refine X.tsIn 1370 37 (zi316 33) rfl (by omega) rfl rfl ?_
        exact lw37 y hd hJ hR (by omega) hy6 hs K
      by_cases c38 : z = 38
      · refine X.tsIn 1393 38 (zi316 33) rfl (by omega) rfl rfl ?_
        exact lw38 y hd hJ hR (by omega) hy6 hs K
      by_cases c39 : z = 39
      · refine X.tsIn 1426 39 (zi316 33) rfl (by omega) rfl rfl ?_
        exact lw39 y hd hJ hR (by omega) hy6 hs K
      by_cases c40 : z = 40
      · refine X.tsIn 1439 40 (zi316 33) rfl (by omega) rfl rfl ?_
        exact lw40 y hd hJ hR (by omega) hy6 hs K
      by_cases c41 : z = 41
      · refine X.tsIn 1462 41 (zi316 33) rfl (by omega) rfl rfl ?_
        exact lw41 y hd hJ hR (by omega) hy6 hs K
      by_cases c42 : z = 42
      · refine X.tsIn 1495 42 (zi316 33) rfl (by omega) rfl rfl ?_
        exact lw42 y hd hJ hR (by omega) hy6 hs K
      by_cases c43 : z = 43
      · refine X.tsIn 1528 43 (zi316 33) rfl (by omega) rfl rfl ?_
        exact lw43 y hd hJ hR (by omega) hy6 hs K
      by_cases c44 : z = 44
      · refine X.tsIn 1561 44 (zi316 33) rfl (by omega) rfl rfl ?_
        exact lw44 y hd hJ hR (by omega) hy6 hs K
      by_cases c45 : z = 45
      · refine X.tsIn 1594 45 (zi316 33) rfl (by omega) rfl rfl ?_
        exact lw45 y hd hJ hR (by omega) hy6 hs K
      by_cases c46 : z = 46
      · refine X.tsIn 1633 46 (zi316 33) rfl (by omega) rfl rfl ?_
        exact lw46 y hd hJ hR (by omega) hy6 hs K
      refine X.tsOut 1656 (zi316 33) rfl (by omega) rfl ?_
      exact K m (hJ.up (by omega)) (hR.up (by omega))
