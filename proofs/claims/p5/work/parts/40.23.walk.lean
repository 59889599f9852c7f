-- WorkMeterModel.look
noncomputable def f315_1 (a1 : Int) (m : zM) : Int :=
  if a1 < 30 then
  (if a1 < 20 then
  (if a1 = 0 then
  ((m 4 45 0))
  else
  (if a1 = 1 then
  (zn (f217_1 (m 4 45 0) m) fun v519 =>
  v519)
  else
  (if a1 = 2 then
  ((m 4 45 10))
  else
  (if a1 = 3 then
  ((m 4 45 11))
  else
  (if a1 = 4 then
  ((m 4 45 12))
  else
  (if a1 = 5 then
  ((m 4 45 13))
  else
  (if a1 = 6 then
  ((m 4 45 14))
  else
  (if a1 = 7 then
  ((m 4 45 15))
  else
  (if a1 = 8 then
  (zn (f231_1 m) fun v532 =>
  v532)
  else
  (if a1 = 9 then
  ((m 4 45 16))
  else
  (if a1 = 10 then
  ((m 4 45 17))
  else
  (if a1 = 11 then
  ((m 4 45 18))
  else
  (if a1 = 12 then
  ((m 4 45 1))
  else
  (if a1 = 13 then
  ((m 4 45 2))
  else
  (if a1 = 14 then
  ((m 4 45 3))
  else
  (if a1 = 15 then
  (zn (f249_1 m) fun v548 =>
  v548)
  else
  (if a1 = 16 then
  ((-10000000000))
  else
  (if a1 = 17 then
  ((-10000000000))
  else
  (if a1 = 18 then
  ((-10000000000))
  else
  (if a1 = 19 then
  ((-10000000000))
  else
  ((-10000000000))))))))))))))))))))))
  else
  (if a1 ≤ 25 then
  ((m 4 45 ((4 + a1) - 20)))
  else
  (if a1 = 26 then
  ((-10000000000))
  else
  (if a1 = 27 then
  ((-10000000000))
  else
  (if a1 = 28 then
  ((-10000000000))
  else
  ((-10000000000)))))))
  else
  (if a1 ≤ 33 then
  ((m 4 45 ((28 + a1) - 30)))
  else
  (if a1 < 40 then
  (if a1 = 34 then
  ((-10000000000))
  else
  (if a1 = 35 then
  ((-10000000000))
  else
  (if a1 = 36 then
  ((-10000000000))
  else
  (if a1 = 37 then
  ((-10000000000))
  else
  (if a1 = 38 then
  ((-10000000000))
  else
  ((-10000000000)))))))
  else
  (if a1 ≤ 43 then
  ((m 4 45 ((391 + a1) - 40)))
  else
  (if a1 < 50 then
  (if a1 = 44 then
  ((-10000000000))
  else
  (if a1 = 45 then
  ((-10000000000))
  else
  (if a1 = 46 then
  ((-10000000000))
  else
  (if a1 = 47 then
  ((-10000000000))
  else
  (if a1 = 48 then
  ((-10000000000))
  else
  ((-10000000000)))))))
  else
  (if a1 ≤ 52 then
  ((m 4 45 ((1611 + a1) - 50)))
  else
  (if a1 = 53 then
  ((m 4 45 1614))
  else
  (if a1 = 54 then
  ((m 4 45 1616))
  else
  (if a1 = 55 then
  (zn (f278_1 m) fun v612 =>
  v612)
  else
  (if a1 = 56 then
  ((m 4 45 1618))
  else
  (if a1 = 57 then
  ((m 4 44 5))
  else
  ((-10000000000))))))))))))
-- WorkMeterModel.look
theorem c315_1 {s : Nat × (Nat → Int32)} {S : zS} {m0 m : zM} {B : Int} {d : Nat} {Q : Option zV → zM → Prop} (a1 : Int) (hd : 16 ≤ d) (hJ : J S m0 B m) (hB : B + 0 ≤ 1000000000) (ha1 : (-2147483648) ≤ a1 ∧ a1 ≤ 2147483647) (hQ : ∀ (v : Int), (True) → f315_1 a1 m = v → Q (some (zl v)) m) : X (EE s) d 315 0 [(0, zr 4 44), (1, zi a1)] [] m Q := by
  refine X.iload_n 1 i315_0 rfl rfl rfl ?_
  refine X.i2l 2 i315_1 rfl rfl ?_
  refine X.ldc2 5 i315_2 rfl rfl (by decide) ?_
  refine X.ldc2 8 i315_5 rfl rfl (by decide) ?_
  refine X.calls 11 [zl a1, zl 30, zl 33] [] [(0, zl a1), (2, zl 30), (4, zl 33)] i315_8 (by decide) rfl rfl (by omega) rfl rfl t204 (Nat.le_of_ble_eq_true rfl) (Nat.le_of_ble_eq_true rfl) rfl ?_
  refine X.lload_n 1 i204_0 rfl rfl rfl ?_
  refine X.lload_n 2 i204_1 rfl rfl rfl ?_
  refine X.lcmp 3 i204_2 rfl rfl (fun z501 hz501 => ?_)
  refine X.iflt 17 6 i204_3 rfl rfl rfl (fun h502 => ?_) (fun h502 => ?_)
  · have h502c : a1 < 30 := by omega
    clear h502 hz501
    refine X.cut [] i204_17 rfl ?_
    refine X.iconst 18 i204_17 rfl rfl (by decide) ?_
    refine X.retz i204_18 rfl t204 (by omega) ?_
    show X (EE s) d 315 11 [(0, zr 4 44), (1, zi a1)] [zi 0] m _
    refine X.ifeq 27 14 i315_11 rfl rfl rfl (fun h503 => ?_) (fun h503 => (by exfalso; omega))
    refine X.iload_n 28 i315_27 rfl rfl rfl ?_
    refine X.i2l 29 i315_28 rfl rfl ?_
    refine X.ldc2 32 i315_29 rfl rfl (by decide) ?_
    refine X.ldc2 35 i315_32 rfl rfl (by decide) ?_
    refine X.calls 38 [zl a1, zl 40, zl 43] [] [(0, zl a1), (2, zl 40), (4, zl 43)] i315_35 (by decide) rfl rfl (by omega) rfl rfl t204 (Nat.le_of_ble_eq_true rfl) (Nat.le_of_ble_eq_true rfl) rfl ?_
    refine X.lload_n 1 i204_0 rfl rfl rfl ?_
    refine X.lload_n 2 i204_1 rfl rfl rfl ?_
    refine X.lcmp 3 i204_2 rfl rfl (fun z504 hz504 => ?_)
    refine X.iflt 17 6 i204_3 rfl rfl rfl (fun h505 => ?_) (fun h505 => (by exfalso; omega))
    have h505c : a1 < 40 := by omega
    clear h505 hz504
    refine X.cut [] i204_17 rfl ?_
    refine X.iconst 18 i204_17 rfl rfl (by decide) ?_
    refine X.retz i204_18 rfl t204 (by omega) ?_
    show X (EE s) d 315 38 [(0, zr 4 44), (1, zi a1)] [zi 0] m _
    refine X.ifeq 55 41 i315_38 rfl rfl rfl (fun h506 => ?_) (fun h506 => (by exfalso; omega))
    refine X.iload_n 56 i315_55 rfl rfl rfl ?_
    refine X.i2l 57 i315_56 rfl rfl ?_
    refine X.ldc2 60 i315_57 rfl rfl (by decide) ?_
    refine X.ldc2 63 i315_60 rfl rfl (by decide) ?_
    refine X.calls 66 [zl a1, zl 20, zl 25] [] [(0, zl a1), (2, zl 20), (4, zl 25)] i315_63 (by decide) rfl rfl (by omega) rfl rfl t204 (Nat.le_of_ble_eq_true rfl) (Nat.le_of_ble_eq_true rfl) rfl ?_
    refine X.lload_n 1 i204_0 rfl rfl rfl ?_
    refine X.lload_n 2 i204_1 rfl rfl rfl ?_
    refine X.lcmp 3 i204_2 rfl rfl (fun z507 hz507 => ?_)
    refine X.iflt 17 6 i204_3 rfl rfl rfl (fun h508 => ?_) (fun h508 => ?_)
    · have h508c : a1 < 20 := by omega
      clear h508 hz507
      refine X.cut [] i204_17 rfl ?_
      refine X.iconst 18 i204_17 rfl rfl (by decide) ?_
      refine X.retz i204_18 rfl t204 (by omega) ?_
      show X (EE s) d 315 66 [(0, zr 4 44), (1, zi a1)] [zi 0] m _
      refine X.ifeq 81 69 i315_66 rfl rfl rfl (fun h509 => ?_) (fun h509 => (by exfalso; omega))
      refine X.iload_n 82 i315_81 rfl rfl rfl ?_
      refine X.i2l 83 i315_82 rfl rfl ?_
      refine X.ldc2 86 i315_83 rfl rfl (by decide) ?_
      refine X.ldc2 89 i315_86 rfl rfl (by decide) ?_
      refine X.calls 92 [zl a1, zl 50, zl 52] [] [(0, zl a1), (2, zl 50), (4, zl 52)] i315_89 (by decide) rfl rfl (by omega) rfl rfl t204 (Nat.le_of_ble_eq_true rfl) (Nat.le_of_ble_eq_true rfl) rfl ?_
      refine X.lload_n 1 i204_0 rfl rfl rfl ?_
      refine X.lload_n 2 i204_1 rfl rfl rfl ?_
      refine X.lcmp 3 i204_2 rfl rfl (fun z510 hz510 => ?_)
      refine X.iflt 17 6 i204_3 rfl rfl rfl (fun h511 => ?_) (fun h511 => (by exfalso; omega))
      have h511c : a1 < 50 := by omega
      clear h511 hz510
      refine X.cut [] i204_17 rfl ?_
      refine X.iconst 18 i204_17 rfl rfl (by decide) ?_
      refine X.retz i204_18 rfl t204 (by omega) ?_
      show X (EE s) d 315 92 [(0, zr 4 44), (1, zi a1)] [zi 0] m _
      refine X.ifeq 109 95 i315_92 rfl rfl rfl (fun h512 => ?_) (fun h512 => (by exfalso; omega))
      refine X.iload_n 110 i315_109 rfl rfl rfl ?_
      by_cases h513 : a1 = 0
      · refine X.tsIn 356 0 i315_110 rfl (by omega) rfl rfl ?_
        refine X.cut [(0, zr 4 44)] i315_356 rfl ?_
        refine X.aload_n 357 i315_356 rfl rfl rfl ?_
        refine X.getF 360 i315_357 rfl rfl (by decide) rfl rfl ?_
        refine X.iconst 361 i315_360 rfl rfl (by decide) ?_
        refine X.lald 362 i315_361 rfl rfl (by decide) rfl (by omega) ?_
        have h514 := r45_0 hJ 4
        refine X.retl i315_362 rfl t315 ?_
        exact hQ (m 4 45 0) (by first | trivial | omega) (Eq.trans (if_pos h502c) (Eq.trans (if_pos h508c) (Eq.trans (if_pos h513) rfl))) 
      by_cases h515 : a1 = 1
      · refine X.tsIn 363 1 i315_110 rfl (by omega) rfl rfl ?_
        refine X.cut [(0, zr 4 44)] i315_363 rfl ?_
        refine X.aload_n 364 i315_363 rfl rfl rfl ?_
        refine X.aload_n 365 i315_364 rfl rfl rfl ?_
        refine X.getF 368 i315_365 rfl rfl (by decide) rfl rfl ?_
        refine X.iconst 369 i315_368 rfl rfl (by decide) ?_
        refine X.lald 370 i315_369 rfl rfl (by decide) rfl (by omega) ?_
        have h516 := r45_0 hJ 4
        refine X.l2i 371 i315_370 rfl rfl (by omega) ?_
        refine X.callv 374 [zi (m 4 45 0)] [] [(0, zr 4 44), (1, zi (m 4 45 0))] i315_371 rfl (by decide) rfl rfl (by omega) rfl rfl (by decide) rfl t217 (Nat.le_of_ble_eq_true rfl) (Nat.le_of_ble_eq_true rfl) rfl ?_
        refine c217_1 (B := B)  (m 4 45 0) (by omega) (hJ.up (by omega)) (by omega) (by omega) (fun v519 hv519 hFv519 => ?_)
        show X (EE s) d 315 374 [(0, zr 4 44)] [zi v519] m _
        refine X.i2l 375 i315_374 rfl rfl ?_
        refine X.retl i315_375 rfl t315 ?_
        exact hQ v519 (by first | trivial | omega) (Eq.trans (if_pos h502c) (Eq.trans (if_pos h508c) (Eq.trans (if_neg h513) (Eq.trans (if_pos h515) (Eq.trans (zn_eq hFv519.symm) rfl))))) 
      by_cases h520 : a1 = 2
      · refine X.tsIn 376 2 i315_110 rfl (by omega) rfl rfl ?_
        refine X.cut [(0, zr 4 44)] i315_376 rfl ?_
        refine X.aload_n 377 i315_376 rfl rfl rfl ?_
        refine X.getF 380 i315_377 rfl rfl (by decide) rfl rfl ?_
        refine X.bipush 382 i315_380 rfl rfl (by decide) ?_
        refine X.lald 383 i315_382 rfl rfl (by decide) rfl (by omega) ?_
        refine X.retl i315_383 rfl t315 ?_
        exact hQ (m 4 45 10) (by first | trivial | omega) (Eq.trans (if_pos h502c) (Eq.trans (if_pos h508c) (Eq.trans (if_neg h513) (Eq.trans (if_neg h515) (Eq.trans (if_pos h520) rfl))))) 
      by_cases h521 : a1 = 3
      · refine X.tsIn 384 3 i315_110 rfl (by omega) rfl rfl ?_
        refine X.cut [(0, zr 4 44)] i315_384 rfl ?_
        refine X.aload_n 385 i315_384 rfl rfl rfl ?_
        refine X.getF 388 i315_385 rfl rfl (by decide) rfl rfl ?_
        refine X.bipush 390 i315_388 rfl rfl (by decide) ?_
        refine X.lald 391 i315_390 rfl rfl (by decide) rfl (by omega) ?_
        have h522 := r45_11 hJ 4
        refine X.retl i315_391 rfl t315 ?_
        exact hQ (m 4 45 11) (by first | trivial | omega) (Eq.trans (if_pos h502c) (Eq.trans (if_pos h508c) (Eq.trans (if_neg h513) (Eq.trans (if_neg h515) (Eq.trans (if_neg h520) (Eq.trans (if_pos h521) rfl)))))) 
      by_cases h523 : a1 = 4
      · refine X.tsIn 392 4 i315_110 rfl (by omega) rfl rfl ?_
        refine X.cut [(0, zr 4 44)] i315_392 rfl ?_
        refine X.aload_n 393 i315_392 rfl rfl rfl ?_
        refine X.getF 396 i315_393 rfl rfl (by decide) rfl rfl ?_
        refine X.bipush 398 i315_396 rfl rfl (by decide) ?_
        refine X.lald 399 i315_398 rfl rfl (by decide) rfl (by omega) ?_
        have h524 := r45_12 hJ 4
        refine X.retl i315_399 rfl t315 ?_
        exact hQ (m 4 45 12) (by first | trivial | omega) (Eq.trans (if_pos h502c) (Eq.trans (if_pos h508c) (Eq.trans (if_neg h513) (Eq.trans (if_neg h515) (Eq.trans (if_neg h520) (Eq.trans (if_neg h521) (Eq.trans (if_pos h523) rfl))))))) 
      by_cases h525 : a1 = 5
      · refine X.tsIn 400 5 i315_110 rfl (by omega) rfl rfl ?_
        refine X.cut [(0, zr 4 44)] i315_400 rfl ?_
        refine X.aload_n 401 i315_400 rfl rfl rfl ?_
        refine X.getF 404 i315_401 rfl rfl (by decide) rfl rfl ?_
        refine X.bipush 406 i315_404 rfl rfl (by decide) ?_
        refine X.lald 407 i315_406 rfl rfl (by decide) rfl (by omega) ?_
        have h526 := r45_13 hJ 4
        refine X.retl i315_407 rfl t315 ?_
        exact hQ (m 4 45 13) (by first | trivial | omega) (Eq.trans (if_pos h502c) (Eq.trans (if_pos h508c) (Eq.trans (if_neg h513) (Eq.trans (if_neg h515) (Eq.trans (if_neg h520) (Eq.trans (if_neg h521) (Eq.trans (if_neg h523) (Eq.trans (if_pos h525) rfl)))))))) 
      by_cases h527 : a1 = 6
      · refine X.tsIn 408 6 i315_110 rfl (by omega) rfl rfl ?_
        refine X.cut [(0, zr 4 44)] i315_408 rfl ?_
        refine X.aload_n 409 i315_408 rfl rfl rfl ?_
        refine X.getF 412 i315_409 rfl rfl (by decide) rfl rfl ?_
        refine X.bipush 414 i315_412 rfl rfl (by decide) ?_
        refine X.lald 415 i315_414 rfl rfl (by decide) rfl (by omega) ?_
        refine X.retl i315_415 rfl t315 ?_
        exact hQ (m 4 45 14) (by first | trivial | omega) (Eq.trans (if_pos h502c) (Eq.trans (if_pos h508c) (Eq.trans (if_neg h513) (Eq.trans (if_neg h515) (Eq.trans (if_neg h520) (Eq.trans (if_neg h521) (Eq.trans (if_neg h523) (Eq.trans (if_neg h525) (Eq.trans (if_pos h527) rfl))))))))) 
      by_cases h528 : a1 = 7
      · refine X.tsIn 416 7 i315_110 rfl (by omega) rfl rfl ?_
        refine X.cut [(0, zr 4 44)] i315_416 rfl ?_
        refine X.aload_n 417 i315_416 rfl rfl rfl ?_
        refine X.getF 420 i315_417 rfl rfl (by decide) rfl rfl ?_
        refine X.bipush 422 i315_420 rfl rfl (by decide) ?_
        refine X.lald 423 i315_422 rfl rfl (by decide) rfl (by omega) ?_
        refine X.retl i315_423 rfl t315 ?_
        exact hQ (m 4 45 15) (by first | trivial | omega) (Eq.trans (if_pos h502c) (Eq.trans (if_pos h508c) (Eq.trans (if_neg h513) (Eq.trans (if_neg h515) (Eq.trans (if_neg h520) (Eq.trans (if_neg h521) (Eq.trans (if_neg h523) (Eq.trans (if_neg h525) (Eq.trans (if_neg h527) (Eq.trans (if_pos h528) rfl)))))))))) 
      by_cases h529 : a1 = 8
      · refine X.tsIn 424 8 i315_110 rfl (by omega) rfl rfl ?_
        refine X.cut [(0, zr 4 44)] i315_424 rfl ?_
        refine X.aload_n 425 i315_424 rfl rfl rfl ?_
        refine X.callv 428 [] [] [(0, zr 4 44)] i315_425 rfl (by decide) rfl rfl (by omega) rfl rfl (by decide) rfl t231 (Nat.le_of_ble_eq_true rfl) (Nat.le_of_ble_eq_true rfl) rfl ?_
        refine c231_1 (B := B)   (by omega) (hJ.up (by omega)) (by omega)  (fun v532 hv532 hFv532 => ?_)
        show X (EE s) d 315 428 [(0, zr 4 44)] [zl v532] m _
        refine X.retl i315_428 rfl t315 ?_
        exact hQ v532 (by first | trivial | omega) (Eq.trans (if_pos h502c) (Eq.trans (if_pos h508c) (Eq.trans (if_neg h513) (Eq.trans (if_neg h515) (Eq.trans (if_neg h520) (Eq.trans (if_neg h521) (Eq.trans (if_neg h523) (Eq.trans (if_neg h525) (Eq.trans (if_neg h527) (Eq.trans (if_neg h528) (Eq.trans (if_pos h529) (Eq.trans (zn_eq hFv532.symm) rfl)))))))))))) 
      by_cases h533 : a1 = 9
      · refine X.tsIn 429 9 i315_110 rfl (by omega) rfl rfl ?_
        refine X.cut [(0, zr 4 44)] i315_429 rfl ?_
        refine X.aload_n 430 i315_429 rfl rfl rfl ?_
        refine X.getF 433 i315_430 rfl rfl (by decide) rfl rfl ?_
        refine X.bipush 435 i315_433 rfl rfl (by decide) ?_
        refine X.lald 436 i315_435 rfl rfl (by decide) rfl (by omega) ?_
        have h534 := r45_16 hJ 4
        refine X.retl i315_436 rfl t315 ?_
        exact hQ (m 4 45 16) (by first | trivial | omega) (Eq.trans (if_pos h502c) (Eq.trans (if_pos h508c) (Eq.trans (if_neg h513) (Eq.trans (if_neg h515) (Eq.trans (if_neg h520) (Eq.trans (if_neg h521) (Eq.trans (if_neg h523) (Eq.trans (if_neg h525) (Eq.trans (if_neg h527) (Eq.trans (if_neg h528) (Eq.trans (if_neg h529) (Eq.trans (if_pos h533) rfl)))))))))))) 
      by_cases h535 : a1 = 10
      · refine X.tsIn 437 10 i315_110 rfl (by omega) rfl rfl ?_
        refine X.cut [(0, zr 4 44)] i315_437 rfl ?_
        refine X.aload_n 438 i315_437 rfl rfl rfl ?_
        refine X.getF 441 i315_438 rfl rfl (by decide) rfl rfl ?_
        refine X.bipush 443 i315_441 rfl rfl (by decide) ?_
        refine X.lald 444 i315_443 rfl rfl (by decide) rfl (by omega) ?_
        have h536 := r45_17 hJ 4
        refine X.retl i315_444 rfl t315 ?_
        exact hQ (m 4 45 17) (by first | trivial | omega) (Eq.trans (if_pos h502c) (Eq.trans (if_pos h508c) (Eq.trans (if_neg h513) (Eq.trans (if_neg h515) (Eq.trans (if_neg h520) (Eq.trans (if_neg h521) (Eq.trans (if_neg h523) (Eq.trans (if_neg h525) (Eq.trans (if_neg h527) (Eq.trans (if_neg h528) (Eq.trans (if_neg h529) (Eq.trans (if_neg h533) (Eq.trans (if_pos h535) rfl))))))))))))) 
      by_cases h537 : a1 = 11
      · refine X.tsIn 445 11 i315_110 rfl (by omega) rfl rfl ?_
        refine X.cut [(0, zr 4 44)] i315_445 rfl ?_
        refine X.aload_n 446 i315_445 rfl rfl rfl ?_
        refine X.getF 449 i315_446 rfl rfl (by decide) rfl rfl ?_
        refine X.bipush 451 i315_449 rfl rfl (by decide) ?_
        refine X.lald 452 i315_451 rfl rfl (by decide) rfl (by omega) ?_
        have h538 := r45_18 hJ 4
        refine X.retl i315_452 rfl t315 ?_
        exact hQ (m 4 45 18) (by first | trivial | omega) (Eq.trans (if_pos h502c) (Eq.trans (if_pos h508c) (Eq.trans (if_neg h513) (Eq.trans (if_neg h515) (Eq.trans (if_neg h520) (Eq.trans (if_neg h521) (Eq.trans (if_neg h523) (Eq.trans (if_neg h525) (Eq.trans (if_neg h527) (Eq.trans (if_neg h528) (Eq.trans (if_neg h529) (Eq.trans (if_neg h533) (Eq.trans (if_neg h535) (Eq.trans (if_pos h537) rfl)))))))))))))) 
      by_cases h539 : a1 = 12
      · refine X.tsIn 453 12 i315_110 rfl (by omega) rfl rfl ?_
        refine X.cut [(0, zr 4 44)] i315_453 rfl ?_
        refine X.aload_n 454 i315_453 rfl rfl rfl ?_
        refine X.getF 457 i315_454 rfl rfl (by decide) rfl rfl ?_
        refine X.iconst 458 i315_457 rfl rfl (by decide) ?_
        refine X.lald 459 i315_458 rfl rfl (by decide) rfl (by omega) ?_
        have h540 := r45_1 hJ 4
        refine X.retl i315_459 rfl t315 ?_
        exact hQ (m 4 45 1) (by first | trivial | omega) (Eq.trans (if_pos h502c) (Eq.trans (if_pos h508c) (Eq.trans (if_neg h513) (Eq.trans (if_neg h515) (Eq.trans (if_neg h520) (Eq.trans (if_neg h521) (Eq.trans (if_neg h523) (Eq.trans (if_neg h525) (Eq.trans (if_neg h527) (Eq.trans (if_neg h528) (Eq.trans (if_neg h529) (Eq.trans (if_neg h533) (Eq.trans (if_neg h535) (Eq.trans (if_neg h537) (Eq.trans (if_pos h539) rfl))))))))))))))) 
      by_cases h541 : a1 = 13
      · refine X.tsIn 460 13 i315_110 rfl (by omega) rfl rfl ?_
        refine X.cut [(0, zr 4 44)] i315_460 rfl ?_
        refine X.aload_n 461 i315_460 rfl rfl rfl ?_
        refine X.getF 464 i315_461 rfl rfl (by decide) rfl rfl ?_
        refine X.iconst 465 i315_464 rfl rfl (by decide) ?_
        refine X.lald 466 i315_465 rfl rfl (by decide) rfl (by omega) ?_
        have h542 := r45_2 hJ 4
        refine X.retl i315_466 rfl t315 ?_
        exact hQ (m 4 45 2) (by first | trivial | omega) (Eq.trans (if_pos h502c) (Eq.trans (if_pos h508c) (Eq.trans (if_neg h513) (Eq.trans (if_neg h515) (Eq.trans (if_neg h520) (Eq.trans (if_neg h521) (Eq.trans (if_neg h523) (Eq.trans (if_neg h525) (Eq.trans (if_neg h527) (Eq.trans (if_neg h528) (Eq.trans (if_neg h529) (Eq.trans (if_neg h533) (Eq.trans (if_neg h535) (Eq.trans (if_neg h537) (Eq.trans (if_neg h539) (Eq.trans (if_pos h541) rfl)))))))))))))))) 
      by_cases h543 : a1 = 14
      · refine X.tsIn 467 14 i315_110 rfl (by omega) rfl rfl ?_
        refine X.cut [(0, zr 4 44)] i315_467 rfl ?_
        refine X.aload_n 468 i315_467 rfl rfl rfl ?_
        refine X.getF 471 i315_468 rfl rfl (by decide) rfl rfl ?_
        refine X.iconst 472 i315_471 rfl rfl (by decide) ?_
        refine X.lald 473 i315_472 rfl rfl (by decide) rfl (by omega) ?_
        have h544 := r45_3 hJ 4
        refine X.retl i315_473 rfl t315 ?_
        exact hQ (m 4 45 3) (by first | trivial | omega) (Eq.trans (if_pos h502c) (Eq.trans (if_pos h508c) (Eq.trans (if_neg h513) (Eq.trans (if_neg h515) (Eq.trans (if_neg h520) (Eq.trans (if_neg h521) (Eq.trans (if_neg h523) (Eq.trans (if_neg h525) (Eq.trans (if_neg h527) (Eq.trans (if_neg h528) (Eq.trans (if_neg h529) (Eq.trans (if_neg h533) (Eq.trans (if_neg h535) (Eq.trans (if_neg h537) (Eq.trans (if_neg h539) (Eq.trans (if_neg h541) (Eq.trans (if_pos h543) rfl))))))))))))))))) 
      by_cases h545 : a1 = 15
      · refine X.tsIn 474 15 i315_110 rfl (by omega) rfl rfl ?_
        refine X.cut [(0, zr 4 44)] i315_474 rfl ?_
        refine X.aload_n 475 i315_474 rfl rfl rfl ?_
        refine X.callv 478 [] [] [(0, zr 4 44)] i315_475 rfl (by decide) rfl rfl (by omega) rfl rfl (by decide) rfl t249 (Nat.le_of_ble_eq_true rfl) (Nat.le_of_ble_eq_true rfl) rfl ?_
        refine c249_1 (B := B)   (by omega) (hJ.up (by omega)) (by omega)  (fun v548 hv548 hFv548 => ?_)
        show X (EE s) d 315 478 [(0, zr 4 44)] [zi v548] m _
        refine X.i2l 479 i315_478 rfl rfl ?_
        refine X.retl i315_479 rfl t315 ?_
        exact hQ v548 (by first | trivial | omega) (Eq.trans (if_pos h502c) (Eq.trans (if_pos h508c) (Eq.trans (if_neg h513) (Eq.trans (if_neg h515) (Eq.trans (if_neg h520) (Eq.trans (if_neg h521) (Eq.trans (if_neg h523) (Eq.trans (if_neg h525) (Eq.trans (if_neg h527) (Eq.trans (if_neg h528) (Eq.trans (if_neg h529) (Eq.trans (if_neg h533) (Eq.trans (if_neg h535) (Eq.trans (if_neg h537) (Eq.trans (if_neg h539) (Eq.trans (if_neg h541) (Eq.trans (if_neg h543) (Eq.trans (if_pos h545) (Eq.trans (zn_eq hFv548.symm) rfl))))))))))))))))))) 
      by_cases h549 : a1 = 16
      · refine X.tsIn 518 16 i315_110 rfl (by omega) rfl rfl ?_
        refine X.cut [] i315_518 rfl ?_
        refine X.ldc2 521 i315_518 rfl rfl (by decide) ?_
        refine X.retl i315_521 rfl t315 ?_
        exact hQ (-10000000000) (by first | trivial | omega) (Eq.trans (if_pos h502c) (Eq.trans (if_pos h508c) (Eq.trans (if_neg h513) (Eq.trans (if_neg h515) (Eq.trans (if_neg h520) (Eq.trans (if_neg h521) (Eq.trans (if_neg h523) (Eq.trans (if_neg h525) (Eq.trans (if_neg h527) (Eq.trans (if_neg h528) (Eq.trans (if_neg h529) (Eq.trans (if_neg h533) (Eq.trans (if_neg h535) (Eq.trans (if_neg h537) (Eq.trans (if_neg h539) (Eq.trans (if_neg h541) (Eq.trans (if_neg h543) (Eq.trans (if_neg h545) (Eq.trans (if_pos h549) rfl))))))))))))))))))) 
      by_cases h550 : a1 = 17
      · refine X.tsIn 518 17 i315_110 rfl (by omega) rfl rfl ?_
        refine X.cut [] i315_518 rfl ?_
        refine X.ldc2 521 i315_518 rfl rfl (by decide) ?_
        refine X.retl i315_521 rfl t315 ?_
        exact hQ (-10000000000) (by first | trivial | omega) (Eq.trans (if_pos h502c) (Eq.trans (if_pos h508c) (Eq.trans (if_neg h513) (Eq.trans (if_neg h515) (Eq.trans (if_neg h520) (Eq.trans (if_neg h521) (Eq.trans (if_neg h523) (Eq.trans (if_neg h525) (Eq.trans (if_neg h527) (Eq.trans (if_neg h528) (Eq.trans (if_neg h529) (Eq.trans (if_neg h533) (Eq.trans (if_neg h535) (Eq.trans (if_neg h537) (Eq.trans (if_neg h539) (Eq.trans (if_neg h541) (Eq.trans (if_neg h543) (Eq.trans (if_neg h545) (Eq.trans (if_neg h549) (Eq.trans (if_pos h550) rfl)))))))))))))))))))) 
      by_cases h551 : a1 = 18
      · refine X.tsIn 518 18 i315_110 rfl (by omega) rfl rfl ?_
        refine X.cut [] i315_518 rfl ?_
        refine X.ldc2 521 i315_518 rfl rfl (by decide) ?_
        refine X.retl i315_521 rfl t315 ?_
        exact hQ (-10000000000) (by first | trivial | omega) (Eq.trans (if_pos h502c) (Eq.trans (if_pos h508c) (Eq.trans (if_neg h513) (Eq.trans (if_neg h515) (Eq.trans (if_neg h520) (Eq.trans (if_neg h521) (Eq.trans (if_neg h523) (Eq.trans (if_neg h525) (Eq.trans (if_neg h527) (Eq.trans (if_neg h528) (Eq.trans (if_neg h529) (Eq.trans (if_neg h533) (Eq.trans (if_neg h535) (Eq.trans (if_neg h537) (Eq.trans (if_neg h539) (Eq.trans (if_neg h541) (Eq.trans (if_neg h543) (Eq.trans (if_neg h545) (Eq.trans (if_neg h549) (Eq.trans (if_neg h550) (Eq.trans (if_pos h551) rfl))))))))))))))))))))) 
      by_cases h552 : a1 = 19
      · refine X.tsIn 518 19 i315_110 rfl (by omega) rfl rfl ?_
        refine X.cut [] i315_518 rfl ?_
        refine X.ldc2 521 i315_518 rfl rfl (by decide) ?_
        refine X.retl i315_521 rfl t315 ?_
        exact hQ (-10000000000) (by first | trivial | omega) (Eq.trans (if_pos h502c) (Eq.trans (if_pos h508c) (Eq.trans (if_neg h513) (Eq.trans (if_neg h515) (Eq.trans (if_neg h520) (Eq.trans (if_neg h521) (Eq.trans (if_neg h523) (Eq.trans (if_neg h525) (Eq.trans (if_neg h527) (Eq.trans (if_neg h528) (Eq.trans (if_neg h529) (Eq.trans (if_neg h533) (Eq.trans (if_neg h535) (Eq.trans (if_neg h537) (Eq.trans (if_neg h539) (Eq.trans (if_neg h541) (Eq.trans (if_neg h543) (Eq.trans (if_neg h545) (Eq.trans (if_neg h549) (Eq.trans (if_neg h550) (Eq.trans (if_neg h551) (Eq.trans (if_pos h552) rfl)))))))))))))))))))))) 
      refine X.tsOut 518 i315_110 rfl (by omega) rfl ?_
      refine X.cut [] i315_518 rfl ?_
      refine X.ldc2 521 i315_518 rfl rfl (by decide) ?_
      refine X.retl i315_521 rfl t315 ?_
      exact hQ (-10000000000) (by first | trivial | omega) (Eq.trans (if_pos h502c) (Eq.trans (if_pos h508c) (Eq.trans (if_neg h513) (Eq.trans (if_neg h515) (Eq.trans (if_neg h520) (Eq.trans (if_neg h521) (Eq.trans (if_neg h523) (Eq.trans (if_neg h525) (Eq.trans (if_neg h527) (Eq.trans (if_neg h528) (Eq.trans (if_neg h529) (Eq.trans (if_neg h533) (Eq.trans (if_neg h535) (Eq.trans (if_neg h537) (Eq.trans (if_neg h539) (Eq.trans (if_neg h541) (Eq.trans (if_neg h543) (Eq.trans (if_neg h545) (Eq.trans (if_neg h549) (Eq.trans (if_neg h550) (Eq.trans (if_neg h551) (Eq.trans (if_neg h552) rfl)))))))))))))))))))))) 
    · have h508c : ¬ a1 < 20 := by omega
      clear h508 hz507
      refine X.lload_n 7 i204_6 rfl rfl rfl ?_
      refine X.lload 9 i204_7 rfl rfl rfl ?_
      refine X.lcmp 10 i204_9 rfl rfl (fun z553 hz553 => ?_)
      refine X.ifgt 17 13 i204_10 rfl rfl rfl (fun h554 => ?_) (fun h554 => ?_)
      · have h554c : ¬ a1 ≤ 25 := by omega
        clear h554 hz553
        refine X.cut [] i204_17 rfl ?_
        refine X.iconst 18 i204_17 rfl rfl (by decide) ?_
        refine X.retz i204_18 rfl t204 (by omega) ?_
        show X (EE s) d 315 66 [(0, zr 4 44), (1, zi a1)] [zi 0] m _
        refine X.ifeq 81 69 i315_66 rfl rfl rfl (fun h555 => ?_) (fun h555 => (by exfalso; omega))
        refine X.iload_n 82 i315_81 rfl rfl rfl ?_
        refine X.i2l 83 i315_82 rfl rfl ?_
        refine X.ldc2 86 i315_83 rfl rfl (by decide) ?_
        refine X.ldc2 89 i315_86 rfl rfl (by decide) ?_
        refine X.calls 92 [zl a1, zl 50, zl 52] [] [(0, zl a1), (2, zl 50), (4, zl 52)] i315_89 (by decide) rfl rfl (by omega) rfl rfl t204 (Nat.le_of_ble_eq_true rfl) (Nat.le_of_ble_eq_true rfl) rfl ?_
        refine X.lload_n 1 i204_0 rfl rfl rfl ?_
        refine X.lload_n 2 i204_1 rfl rfl rfl ?_
        refine X.lcmp 3 i204_2 rfl rfl (fun z556 hz556 => ?_)
        refine X.iflt 17 6 i204_3 rfl rfl rfl (fun h557 => ?_) (fun h557 => (by exfalso; omega))
        have h557c : a1 < 50 := by omega
        clear h557 hz556
        refine X.cut [] i204_17 rfl ?_
        refine X.iconst 18 i204_17 rfl rfl (by decide) ?_
        refine X.retz i204_18 rfl t204 (by omega) ?_
        show X (EE s) d 315 92 [(0, zr 4 44), (1, zi a1)] [zi 0] m _
        refine X.ifeq 109 95 i315_92 rfl rfl rfl (fun h558 => ?_) (fun h558 => (by exfalso; omega))
        refine X.iload_n 110 i315_109 rfl rfl rfl ?_
        by_cases h559 : a1 = 26
        · refine X.tsIn 518 26 i315_110 rfl (by omega) rfl rfl ?_
          refine X.cut [] i315_518 rfl ?_
          refine X.ldc2 521 i315_518 rfl rfl (by decide) ?_
          refine X.retl i315_521 rfl t315 ?_
          exact hQ (-10000000000) (by first | trivial | omega) (Eq.trans (if_pos h502c) (Eq.trans (if_neg h508c) (Eq.trans (if_neg h554c) (Eq.trans (if_pos h559) rfl)))) 
        by_cases h560 : a1 = 27
        · refine X.tsIn 518 27 i315_110 rfl (by omega) rfl rfl ?_
          refine X.cut [] i315_518 rfl ?_
          refine X.ldc2 521 i315_518 rfl rfl (by decide) ?_
          refine X.retl i315_521 rfl t315 ?_
          exact hQ (-10000000000) (by first | trivial | omega) (Eq.trans (if_pos h502c) (Eq.trans (if_neg h508c) (Eq.trans (if_neg h554c) (Eq.trans (if_neg h559) (Eq.trans (if_pos h560) rfl))))) 
        by_cases h561 : a1 = 28
        · refine X.tsIn 518 28 i315_110 rfl (by omega) rfl rfl ?_
          refine X.cut [] i315_518 rfl ?_
          refine X.ldc2 521 i315_518 rfl rfl (by decide) ?_
          refine X.retl i315_521 rfl t315 ?_
          exact hQ (-10000000000) (by first | trivial | omega) (Eq.trans (if_pos h502c) (Eq.trans (if_neg h508c) (Eq.trans (if_neg h554c) (Eq.trans (if_neg h559) (Eq.trans (if_neg h560) (Eq.trans (if_pos h561) rfl)))))) 
        by_cases h562 : a1 = 29
        · refine X.tsIn 518 29 i315_110 rfl (by omega) rfl rfl ?_
          refine X.cut [] i315_518 rfl ?_
          refine X.ldc2 521 i315_518 rfl rfl (by decide) ?_
          refine X.retl i315_521 rfl t315 ?_
          exact hQ (-10000000000) (by first | trivial | omega) (Eq.trans (if_pos h502c) (Eq.trans (if_neg h508c) (Eq.trans (if_neg h554c) (Eq.trans (if_neg h559) (Eq.trans (if_neg h560) (Eq.trans (if_neg h561) rfl)))))) 
        exfalso
        omega
      · have h554c : a1 ≤ 25 := by omega
        clear h554 hz553
        refine X.iconst 14 i204_13 rfl rfl (by decide) ?_
        refine X.goto 18 i204_14 rfl rfl ?_
        refine X.cut [] i204_18 rfl ?_
        refine X.retz i204_18 rfl t204 (by omega) ?_
        show X (EE s) d 315 66 [(0, zr 4 44), (1, zi a1)] [zi 1] m _
        refine X.ifeq 81 69 i315_66 rfl rfl rfl (fun h563 => (by exfalso; omega)) (fun h563 => ?_)
        refine X.aload_n 70 i315_69 rfl rfl rfl ?_
        refine X.getF 73 i315_70 rfl rfl (by decide) rfl rfl ?_
        refine X.iconst 74 i315_73 rfl rfl (by decide) ?_
        refine X.iload_n 75 i315_74 rfl rfl rfl ?_
        refine X.iadd 76 i315_75 rfl rfl (by omega) ?_
        refine X.bipush 78 i315_76 rfl rfl (by decide) ?_
        refine X.isub 79 i315_78 rfl rfl (by omega) ?_
        refine X.lald 80 i315_79 rfl rfl (by decide) rfl (by omega) ?_
        have h564 := r45_4 hJ 4
        refine X.retl i315_80 rfl t315 ?_
        exact hQ (m 4 45 ((4 + a1) - 20)) (by first | trivial | omega) (Eq.trans (if_pos h502c) (Eq.trans (if_neg h508c) (Eq.trans (if_pos h554c) rfl))) 
  · have h502c : ¬ a1 < 30 := by omega
    clear h502 hz501
    refine X.lload_n 7 i204_6 rfl rfl rfl ?_
    refine X.lload 9 i204_7 rfl rfl rfl ?_
    refine X.lcmp 10 i204_9 rfl rfl (fun z565 hz565 => ?_)
    refine X.ifgt 17 13 i204_10 rfl rfl rfl (fun h566 => ?_) (fun h566 => ?_)
    · have h566c : ¬ a1 ≤ 33 := by omega
      clear h566 hz565
      refine X.cut [] i204_17 rfl ?_
      refine X.iconst 18 i204_17 rfl rfl (by decide) ?_
      refine X.retz i204_18 rfl t204 (by omega) ?_
      show X (EE s) d 315 11 [(0, zr 4 44), (1, zi a1)] [zi 0] m _
      refine X.ifeq 27 14 i315_11 rfl rfl rfl (fun h567 => ?_) (fun h567 => (by exfalso; omega))
      refine X.iload_n 28 i315_27 rfl rfl rfl ?_
      refine X.i2l 29 i315_28 rfl rfl ?_
      refine X.ldc2 32 i315_29 rfl rfl (by decide) ?_
      refine X.ldc2 35 i315_32 rfl rfl (by decide) ?_
      refine X.calls 38 [zl a1, zl 40, zl 43] [] [(0, zl a1), (2, zl 40), (4, zl 43)] i315_35 (by decide) rfl rfl (by omega) rfl rfl t204 (Nat.le_of_ble_eq_true rfl) (Nat.le_of_ble_eq_true rfl) rfl ?_
      refine X.lload_n 1 i204_0 rfl rfl rfl ?_
      refine X.lload_n 2 i204_1 rfl rfl rfl ?_
      refine X.lcmp 3 i204_2 rfl rfl (fun z568 hz568 => ?_)
      refine X.iflt 17 6 i204_3 rfl rfl rfl (fun h569 => ?_) (fun h569 => ?_)
      · have h569c : a1 < 40 := by omega
        clear h569 hz568
        refine X.cut [] i204_17 rfl ?_
        refine X.iconst 18 i204_17 rfl rfl (by decide) ?_
        refine X.retz i204_18 rfl t204 (by omega) ?_
        show X (EE s) d 315 38 [(0, zr 4 44), (1, zi a1)] [zi 0] m _
        refine X.ifeq 55 41 i315_38 rfl rfl rfl (fun h570 => ?_) (fun h570 => (by exfalso; omega))
        refine X.iload_n 56 i315_55 rfl rfl rfl ?_
        refine X.i2l 57 i315_56 rfl rfl ?_
        refine X.ldc2 60 i315_57 rfl rfl (by decide) ?_
        refine X.ldc2 63 i315_60 rfl rfl (by decide) ?_
        refine X.calls 66 [zl a1, zl 20, zl 25] [] [(0, zl a1), (2, zl 20), (4, zl 25)] i315_63 (by decide) rfl rfl (by omega) rfl rfl t204 (Nat.le_of_ble_eq_true rfl) (Nat.le_of_ble_eq_true rfl) rfl ?_
        refine X.lload_n 1 i204_0 rfl rfl rfl ?_
        refine X.lload_n 2 i204_1 rfl rfl rfl ?_
        refine X.lcmp 3 i204_2 rfl rfl (fun z571 hz571 => ?_)
        refine X.iflt 17 6 i204_3 rfl rfl rfl (fun h572 => (by exfalso; omega)) (fun h572 => ?_)
        have h572c : ¬ a1 < 20 := by omega
        clear h572 hz571
        refine X.lload_n 7 i204_6 rfl rfl rfl ?_
        refine X.lload 9 i204_7 rfl rfl rfl ?_
        refine X.lcmp 10 i204_9 rfl rfl (fun z573 hz573 => ?_)
        refine X.ifgt 17 13 i204_10 rfl rfl rfl (fun h574 => ?_) (fun h574 => (by exfalso; omega))
        have h574c : ¬ a1 ≤ 25 := by omega
        clear h574 hz573
        refine X.cut [] i204_17 rfl ?_
        refine X.iconst 18 i204_17 rfl rfl (by decide) ?_
        refine X.retz i204_18 rfl t204 (by omega) ?_
        show X (EE s) d 315 66 [(0, zr 4 44), (1, zi a1)] [zi 0] m _
        refine X.ifeq 81 69 i315_66 rfl rfl rfl (fun h575 => ?_) (fun h575 => (by exfalso; omega))
        refine X.iload_n 82 i315_81 rfl rfl rfl ?_
        refine X.i2l 83 i315_82 rfl rfl ?_
        refine X.ldc2 86 i315_83 rfl rfl (by decide) ?_
        refine X.ldc2 89 i315_86 rfl rfl (by decide) ?_
        refine X.calls 92 [zl a1, zl 50, zl 52] [] [(0, zl a1), (2, zl 50), (4, zl 52)] i315_89 (by decide) rfl rfl (by omega) rfl rfl t204 (Nat.le_of_ble_eq_true rfl) (Nat.le_of_ble_eq_true rfl) rfl ?_
        refine X.lload_n 1 i204_0 rfl rfl rfl ?_
        refine X.lload_n 2 i204_1 rfl rfl rfl ?_
        refine X.lcmp 3 i204_2 rfl rfl (fun z576 hz576 => ?_)
        refine X.iflt 17 6 i204_3 rfl rfl rfl (fun h577 => ?_) (fun h577 => (by exfalso; omega))
        have h577c : a1 < 50 := by omega
        clear h577 hz576
        refine X.cut [] i204_17 rfl ?_
        refine X.iconst 18 i204_17 rfl rfl (by decide) ?_
        refine X.retz i204_18 rfl t204 (by omega) ?_
        show X (EE s) d 315 92 [(0, zr 4 44), (1, zi a1)] [zi 0] m _
        refine X.ifeq 109 95 i315_92 rfl rfl rfl (fun h578 => ?_) (fun h578 => (by exfalso; omega))
        refine X.iload_n 110 i315_109 rfl rfl rfl ?_
        by_cases h579 : a1 = 34
        · refine X.tsIn 518 34 i315_110 rfl (by omega) rfl rfl ?_
          refine X.cut [] i315_518 rfl ?_
          refine X.ldc2 521 i315_518 rfl rfl (by decide) ?_
          refine X.retl i315_521 rfl t315 ?_
          exact hQ (-10000000000) (by first | trivial | omega) (Eq.trans (if_neg h502c) (Eq.trans (if_neg h566c) (Eq.trans (if_pos h569c) (Eq.trans (if_pos h579) rfl)))) 
        by_cases h580 : a1 = 35
        · refine X.tsIn 518 35 i315_110 rfl (by omega) rfl rfl ?_
          refine X.cut [] i315_518 rfl ?_
          refine X.ldc2 521 i315_518 rfl rfl (by decide) ?_
          refine X.retl i315_521 rfl t315 ?_
          exact hQ (-10000000000) (by first | trivial | omega) (Eq.trans (if_neg h502c) (Eq.trans (if_neg h566c) (Eq.trans (if_pos h569c) (Eq.trans (if_neg h579) (Eq.trans (if_pos h580) rfl))))) 
        by_cases h581 : a1 = 36
        · refine X.tsIn 518 36 i315_110 rfl (by omega) rfl rfl ?_
          refine X.cut [] i315_518 rfl ?_
          refine X.ldc2 521 i315_518 rfl rfl (by decide) ?_
          refine X.retl i315_521 rfl t315 ?_
          exact hQ (-10000000000) (by first | trivial | omega) (Eq.trans (if_neg h502c) (Eq.trans (if_neg h566c) (Eq.trans (if_pos h569c) (Eq.trans (if_neg h579) (Eq.trans (if_neg h580) (Eq.trans (if_pos h581) rfl)))))) 
        by_cases h582 : a1 = 37
        · refine X.tsIn 518 37 i315_110 rfl (by omega) rfl rfl ?_
          refine X.cut [] i315_518 rfl ?_
          refine X.ldc2 521 i315_518 rfl rfl (by decide) ?_
          refine X.retl i315_521 rfl t315 ?_
          exact hQ (-10000000000) (by first | trivial | omega) (Eq.trans (if_neg h502c) (Eq.trans (if_neg h566c) (Eq.trans (if_pos h569c) (Eq.trans (if_neg h579) (Eq.trans (if_neg h580) (Eq.trans (if_neg h581) (Eq.trans (if_pos h582) rfl))))))) 
        by_cases h583 : a1 = 38
        · refine X.tsIn 518 38 i315_110 rfl (by omega) rfl rfl ?_
          refine X.cut [] i315_518 rfl ?_
          refine X.ldc2 521 i315_518 rfl rfl (by decide) ?_
          refine X.retl i315_521 rfl t315 ?_
          exact hQ (-10000000000) (by first | trivial | omega) (Eq.trans (if_neg h502c) (Eq.trans (if_neg h566c) (Eq.trans (if_pos h569c) (Eq.trans (if_neg h579) (Eq.trans (if_neg h580) (Eq.trans (if_neg h581) (Eq.trans (if_neg h582) (Eq.trans (if_pos h583) rfl)))))))) 
        by_cases h584 : a1 = 39
        · refine X.tsIn 518 39 i315_110 rfl (by omega) rfl rfl ?_
          refine X.cut [] i315_518 rfl ?_
          refine X.ldc2 521 i315_518 rfl rfl (by decide) ?_
          refine X.retl i315_521 rfl t315 ?_
          exact hQ (-10000000000) (by first | trivial | omega) (Eq.trans (if_neg h502c) (Eq.trans (if_neg h566c) (Eq.trans (if_pos h569c) (Eq.trans (if_neg h579) (Eq.trans (if_neg h580) (Eq.trans (if_neg h581) (Eq.trans (if_neg h582) (Eq.trans (if_neg h583) rfl)))))))) 
        exfalso
        omega
      · have h569c : ¬ a1 < 40 := by omega
        clear h569 hz568
        refine X.lload_n 7 i204_6 rfl rfl rfl ?_
        refine X.lload 9 i204_7 rfl rfl rfl ?_
        refine X.lcmp 10 i204_9 rfl rfl (fun z585 hz585 => ?_)
        refine X.ifgt 17 13 i204_10 rfl rfl rfl (fun h586 => ?_) (fun h586 => ?_)
        · have h586c : ¬ a1 ≤ 43 := by omega
          clear h586 hz585
          refine X.cut [] i204_17 rfl ?_
          refine X.iconst 18 i204_17 rfl rfl (by decide) ?_
          refine X.retz i204_18 rfl t204 (by omega) ?_
          show X (EE s) d 315 38 [(0, zr 4 44), (1, zi a1)] [zi 0] m _
          refine X.ifeq 55 41 i315_38 rfl rfl rfl (fun h587 => ?_) (fun h587 => (by exfalso; omega))
          refine X.iload_n 56 i315_55 rfl rfl rfl ?_
          refine X.i2l 57 i315_56 rfl rfl ?_
          refine X.ldc2 60 i315_57 rfl rfl (by decide) ?_
          refine X.ldc2 63 i315_60 rfl rfl (by decide) ?_
          refine X.calls 66 [zl a1, zl 20, zl 25] [] [(0, zl a1), (2, zl 20), (4, zl 25)] i315_63 (by decide) rfl rfl (by omega) rfl rfl t204 (Nat.le_of_ble_eq_true rfl) (Nat.le_of_ble_eq_true rfl) rfl ?_
          refine X.lload_n 1 i204_0 rfl rfl rfl ?_
          refine X.lload_n 2 i204_1 rfl rfl rfl ?_
          refine X.lcmp 3 i204_2 rfl rfl (fun z588 hz588 => ?_)
          refine X.iflt 17 6 i204_3 rfl rfl rfl (fun h589 => (by exfalso; omega)) (fun h589 => ?_)
          have h589c : ¬ a1 < 20 := by omega
          clear h589 hz588
          refine X.lload_n 7 i204_6 rfl rfl rfl ?_
          refine X.lload 9 i204_7 rfl rfl rfl ?_
          refine X.lcmp 10 i204_9 rfl rfl (fun z590 hz590 => ?_)
          refine X.ifgt 17 13 i204_10 rfl rfl rfl (fun h591 => ?_) (fun h591 => (by exfalso; omega))
          have h591c : ¬ a1 ≤ 25 := by omega
          clear h591 hz590
          refine X.cut [] i204_17 rfl ?_
          refine X.iconst 18 i204_17 rfl rfl (by decide) ?_
          refine X.retz i204_18 rfl t204 (by omega) ?_
          show X (EE s) d 315 66 [(0, zr 4 44), (1, zi a1)] [zi 0] m _
          refine X.ifeq 81 69 i315_66 rfl rfl rfl (fun h592 => ?_) (fun h592 => (by exfalso; omega))
          refine X.iload_n 82 i315_81 rfl rfl rfl ?_
          refine X.i2l 83 i315_82 rfl rfl ?_
          refine X.ldc2 86 i315_83 rfl rfl (by decide) ?_
          refine X.ldc2 89 i315_86 rfl rfl (by decide) ?_
          refine X.calls 92 [zl a1, zl 50, zl 52] [] [(0, zl a1), (2, zl 50), (4, zl 52)] i315_89 (by decide) rfl rfl (by omega) rfl rfl t204 (Nat.le_of_ble_eq_true rfl) (Nat.le_of_ble_eq_true rfl) rfl ?_
          refine X.lload_n 1 i204_0 rfl rfl rfl ?_
          refine X.lload_n 2 i204_1 rfl rfl rfl ?_
          refine X.lcmp 3 i204_2 rfl rfl (fun z593 hz593 => ?_)
          refine X.iflt 17 6 i204_3 rfl rfl rfl (fun h594 => ?_) (fun h594 => ?_)
          · have h594c : a1 < 50 := by omega
            clear h594 hz593
            refine X.cut [] i204_17 rfl ?_
            refine X.iconst 18 i204_17 rfl rfl (by decide) ?_
            refine X.retz i204_18 rfl t204 (by omega) ?_
            show X (EE s) d 315 92 [(0, zr 4 44), (1, zi a1)] [zi 0] m _
            refine X.ifeq 109 95 i315_92 rfl rfl rfl (fun h595 => ?_) (fun h595 => (by exfalso; omega))
            refine X.iload_n 110 i315_109 rfl rfl rfl ?_
            by_cases h596 : a1 = 44
            · refine X.tsIn 518 44 i315_110 rfl (by omega) rfl rfl ?_
              refine X.cut [] i315_518 rfl ?_
              refine X.ldc2 521 i315_518 rfl rfl (by decide) ?_
              refine X.retl i315_521 rfl t315 ?_
              exact hQ (-10000000000) (by first | trivial | omega) (Eq.trans (if_neg h502c) (Eq.trans (if_neg h566c) (Eq.trans (if_neg h569c) (Eq.trans (if_neg h586c) (Eq.trans (if_pos h594c) (Eq.trans (if_pos h596) rfl)))))) 
            by_cases h597 : a1 = 45
            · refine X.tsIn 518 45 i315_110 rfl (by omega) rfl rfl ?_
              refine X.cut [] i315_518 rfl ?_
              refine X.ldc2 521 i315_518 rfl rfl (by decide) ?_
              refine X.retl i315_521 rfl t315 ?_
              exact hQ (-10000000000) (by first | trivial | omega) (Eq.trans (if_neg h502c) (Eq.trans (if_neg h566c) (Eq.trans (if_neg h569c) (Eq.trans (if_neg h586c) (Eq.trans (if_pos h594c) (Eq.trans (if_neg h596) (Eq.trans (if_pos h597) rfl))))))) 
            by_cases h598 : a1 = 46
            · refine X.tsIn 518 46 i315_110 rfl (by omega) rfl rfl ?_
              refine X.cut [] i315_518 rfl ?_
              refine X.ldc2 521 i315_518 rfl rfl (by decide) ?_
              refine X.retl i315_521 rfl t315 ?_
              exact hQ (-10000000000) (by first | trivial | omega) (Eq.trans (if_neg h502c) (Eq.trans (if_neg h566c) (Eq.trans (if_neg h569c) (Eq.trans (if_neg h586c) (Eq.trans (if_pos h594c) (Eq.trans (if_neg h596) (Eq.trans (if_neg h597) (Eq.trans (if_pos h598) rfl)))))))) 
            by_cases h599 : a1 = 47
            · refine X.tsIn 518 47 i315_110 rfl (by omega) rfl rfl ?_
              refine X.cut [] i315_518 rfl ?_
              refine X.ldc2 521 i315_518 rfl rfl (by decide) ?_
              refine X.retl i315_521 rfl t315 ?_
              exact hQ (-10000000000) (by first | trivial | omega) (Eq.trans (if_neg h502c) (Eq.trans (if_neg h566c) (Eq.trans (if_neg h569c) (Eq.trans (if_neg h586c) (Eq.trans (if_pos h594c) (Eq.trans (if_neg h596) (Eq.trans (if_neg h597) (Eq.trans (if_neg h598) (Eq.trans (if_pos h599) rfl))))))))) 
            by_cases h600 : a1 = 48
            · refine X.tsIn 518 48 i315_110 rfl (by omega) rfl rfl ?_
              refine X.cut [] i315_518 rfl ?_
              refine X.ldc2 521 i315_518 rfl rfl (by decide) ?_
              refine X.retl i315_521 rfl t315 ?_
              exact hQ (-10000000000) (by first | trivial | omega) (Eq.trans (if_neg h502c) (Eq.trans (if_neg h566c) (Eq.trans (if_neg h569c) (Eq.trans (if_neg h586c) (Eq.trans (if_pos h594c) (Eq.trans (if_neg h596) (Eq.trans (if_neg h597) (Eq.trans (if_neg h598) (Eq.trans (if_neg h599) (Eq.trans (if_pos h600) rfl)))))))))) 
            by_cases h601 : a1 = 49
            · refine X.tsIn 518 49 i315_110 rfl (by omega) rfl rfl ?_
              refine X.cut [] i315_518 rfl ?_
              refine X.ldc2 521 i315_518 rfl rfl (by decide) ?_
              refine X.retl i315_521 rfl t315 ?_
              exact hQ (-10000000000) (by first | trivial | omega) (Eq.trans (if_neg h502c) (Eq.trans (if_neg h566c) (Eq.trans (if_neg h569c) (Eq.trans (if_neg h586c) (Eq.trans (if_pos h594c) (Eq.trans (if_neg h596) (Eq.trans (if_neg h597) (Eq.trans (if_neg h598) (Eq.trans (if_neg h599) (Eq.trans (if_neg h600) rfl)))))))))) 
            exfalso
            omega
          · have h594c : ¬ a1 < 50 := by omega
            clear h594 hz593
            refine X.lload_n 7 i204_6 rfl rfl rfl ?_
            refine X.lload 9 i204_7 rfl rfl rfl ?_
            refine X.lcmp 10 i204_9 rfl rfl (fun z602 hz602 => ?_)
            refine X.ifgt 17 13 i204_10 rfl rfl rfl (fun h603 => ?_) (fun h603 => ?_)
            · have h603c : ¬ a1 ≤ 52 := by omega
              clear h603 hz602
              refine X.cut [] i204_17 rfl ?_
              refine X.iconst 18 i204_17 rfl rfl (by decide) ?_
              refine X.retz i204_18 rfl t204 (by omega) ?_
              show X (EE s) d 315 92 [(0, zr 4 44), (1, zi a1)] [zi 0] m _
              refine X.ifeq 109 95 i315_92 rfl rfl rfl (fun h604 => ?_) (fun h604 => (by exfalso; omega))
              refine X.iload_n 110 i315_109 rfl rfl rfl ?_
              by_cases h605 : a1 = 53
              · refine X.tsIn 480 53 i315_110 rfl (by omega) rfl rfl ?_
                refine X.cut [(0, zr 4 44)] i315_480 rfl ?_
                refine X.aload_n 481 i315_480 rfl rfl rfl ?_
                refine X.getF 484 i315_481 rfl rfl (by decide) rfl rfl ?_
                refine X.sipush 487 i315_484 rfl rfl (by decide) ?_
                refine X.lald 488 i315_487 rfl rfl (by decide) rfl (by omega) ?_
                have h606 := r45_1614 hJ 4
                refine X.retl i315_488 rfl t315 ?_
                exact hQ (m 4 45 1614) (by first | trivial | omega) (Eq.trans (if_neg h502c) (Eq.trans (if_neg h566c) (Eq.trans (if_neg h569c) (Eq.trans (if_neg h586c) (Eq.trans (if_neg h594c) (Eq.trans (if_neg h603c) (Eq.trans (if_pos h605) rfl))))))) 
              by_cases h607 : a1 = 54
              · refine X.tsIn 489 54 i315_110 rfl (by omega) rfl rfl ?_
                refine X.cut [(0, zr 4 44)] i315_489 rfl ?_
                refine X.aload_n 490 i315_489 rfl rfl rfl ?_
                refine X.getF 493 i315_490 rfl rfl (by decide) rfl rfl ?_
                refine X.sipush 496 i315_493 rfl rfl (by decide) ?_
                refine X.lald 497 i315_496 rfl rfl (by decide) rfl (by omega) ?_
                have h608 := r45_1616 hJ 4
                refine X.retl i315_497 rfl t315 ?_
                exact hQ (m 4 45 1616) (by first | trivial | omega) (Eq.trans (if_neg h502c) (Eq.trans (if_neg h566c) (Eq.trans (if_neg h569c) (Eq.trans (if_neg h586c) (Eq.trans (if_neg h594c) (Eq.trans (if_neg h603c) (Eq.trans (if_neg h605) (Eq.trans (if_pos h607) rfl)))))))) 
              by_cases h609 : a1 = 55
              · refine X.tsIn 498 55 i315_110 rfl (by omega) rfl rfl ?_
                refine X.cut [(0, zr 4 44)] i315_498 rfl ?_
                refine X.aload_n 499 i315_498 rfl rfl rfl ?_
                refine X.callv 502 [] [] [(0, zr 4 44)] i315_499 rfl (by decide) rfl rfl (by omega) rfl rfl (by decide) rfl t278 (Nat.le_of_ble_eq_true rfl) (Nat.le_of_ble_eq_true rfl) rfl ?_
                refine c278_1 (B := B)   (by omega) (hJ.up (by omega)) (by omega)  (fun v612 hv612 hFv612 => ?_)
                show X (EE s) d 315 502 [(0, zr 4 44)] [zl v612] m _
                refine X.retl i315_502 rfl t315 ?_
                exact hQ v612 (by first | trivial | omega) (Eq.trans (if_neg h502c) (Eq.trans (if_neg h566c) (Eq.trans (if_neg h569c) (Eq.trans (if_neg h586c) (Eq.trans (if_neg h594c) (Eq.trans (if_neg h603c) (Eq.trans (if_neg h605) (Eq.trans (if_neg h607) (Eq.trans (if_pos h609) (Eq.trans (zn_eq hFv612.symm) rfl)))))))))) 
              by_cases h613 : a1 = 56
              · refine X.tsIn 503 56 i315_110 rfl (by omega) rfl rfl ?_
                refine X.cut [(0, zr 4 44)] i315_503 rfl ?_
                refine X.aload_n 504 i315_503 rfl rfl rfl ?_
                refine X.getF 507 i315_504 rfl rfl (by decide) rfl rfl ?_
                refine X.sipush 510 i315_507 rfl rfl (by decide) ?_
                refine X.lald 511 i315_510 rfl rfl (by decide) rfl (by omega) ?_
                refine X.retl i315_511 rfl t315 ?_
                exact hQ (m 4 45 1618) (by first | trivial | omega) (Eq.trans (if_neg h502c) (Eq.trans (if_neg h566c) (Eq.trans (if_neg h569c) (Eq.trans (if_neg h586c) (Eq.trans (if_neg h594c) (Eq.trans (if_neg h603c) (Eq.trans (if_neg h605) (Eq.trans (if_neg h607) (Eq.trans (if_neg h609) (Eq.trans (if_pos h613) rfl)))))))))) 
              by_cases h614 : a1 = 57
              · refine X.tsIn 512 57 i315_110 rfl (by omega) rfl rfl ?_
                refine X.cut [(0, zr 4 44)] i315_512 rfl ?_
                refine X.aload_n 513 i315_512 rfl rfl rfl ?_
                refine X.getI 516 5 i315_513 rfl rfl (by decide) rfl rfl rfl ?_
                have h615 := r44_5 hJ 4
                refine X.i2l 517 i315_516 rfl rfl ?_
                refine X.retl i315_517 rfl t315 ?_
                exact hQ (m 4 44 5) (by first | trivial | omega) (Eq.trans (if_neg h502c) (Eq.trans (if_neg h566c) (Eq.trans (if_neg h569c) (Eq.trans (if_neg h586c) (Eq.trans (if_neg h594c) (Eq.trans (if_neg h603c) (Eq.trans (if_neg h605) (Eq.trans (if_neg h607) (Eq.trans (if_neg h609) (Eq.trans (if_neg h613) (Eq.trans (if_pos h614) rfl))))))))))) 
              refine X.tsOut 518 i315_110 rfl (by omega) rfl ?_
              refine X.cut [] i315_518 rfl ?_
              refine X.ldc2 521 i315_518 rfl rfl (by decide) ?_
              refine X.retl i315_521 rfl t315 ?_
              exact hQ (-10000000000) (by first | trivial | omega) (Eq.trans (if_neg h502c) (Eq.trans (if_neg h566c) (Eq.trans (if_neg h569c) (Eq.trans (if_neg h586c) (Eq.trans (if_neg h594c) (Eq.trans (if_neg h603c) (Eq.trans (if_neg h605) (Eq.trans (if_neg h607) (Eq.trans (if_neg h609) (Eq.trans (if_neg h613) (Eq.trans (if_neg h614) rfl))))))))))) 
            · have h603c : a1 ≤ 52 := by omega
              clear h603 hz602
              refine X.iconst 14 i204_13 rfl rfl (by decide) ?_
              refine X.goto 18 i204_14 rfl rfl ?_
              refine X.cut [] i204_18 rfl ?_
              refine X.retz i204_18 rfl t204 (by omega) ?_
              show X (EE s) d 315 92 [(0, zr 4 44), (1, zi a1)] [zi 1] m _
              refine X.ifeq 109 95 i315_92 rfl rfl rfl (fun h616 => (by exfalso; omega)) (fun h616 => ?_)
              refine X.aload_n 96 i315_95 rfl rfl rfl ?_
              refine X.getF 99 i315_96 rfl rfl (by decide) rfl rfl ?_
              refine X.sipush 102 i315_99 rfl rfl (by decide) ?_
              refine X.iload_n 103 i315_102 rfl rfl rfl ?_
              refine X.iadd 104 i315_103 rfl rfl (by omega) ?_
              refine X.bipush 106 i315_104 rfl rfl (by decide) ?_
              refine X.isub 107 i315_106 rfl rfl (by omega) ?_
              refine X.lald 108 i315_107 rfl rfl (by decide) rfl (by omega) ?_
              have h617 := r45_1611 hJ 4
              refine X.retl i315_108 rfl t315 ?_
              exact hQ (m 4 45 ((1611 + a1) - 50)) (by first | trivial | omega) (Eq.trans (if_neg h502c) (Eq.trans (if_neg h566c) (Eq.trans (if_neg h569c) (Eq.trans (if_neg h586c) (Eq.trans (if_neg h594c) (Eq.trans (if_pos h603c) rfl)))))) 
        · have h586c : a1 ≤ 43 := by omega
          clear h586 hz585
          refine X.iconst 14 i204_13 rfl rfl (by decide) ?_
          refine X.goto 18 i204_14 rfl rfl ?_
          refine X.cut [] i204_18 rfl ?_
          refine X.retz i204_18 rfl t204 (by omega) ?_
          show X (EE s) d 315 38 [(0, zr 4 44), (1, zi a1)] [zi 1] m _
          refine X.ifeq 55 41 i315_38 rfl rfl rfl (fun h618 => (by exfalso; omega)) (fun h618 => ?_)
          refine X.aload_n 42 i315_41 rfl rfl rfl ?_
          refine X.getF 45 i315_42 rfl rfl (by decide) rfl rfl ?_
          refine X.sipush 48 i315_45 rfl rfl (by decide) ?_
          refine X.iload_n 49 i315_48 rfl rfl rfl ?_
          refine X.iadd 50 i315_49 rfl rfl (by omega) ?_
          refine X.bipush 52 i315_50 rfl rfl (by decide) ?_
          refine X.isub 53 i315_52 rfl rfl (by omega) ?_
          refine X.lald 54 i315_53 rfl rfl (by decide) rfl (by omega) ?_
          have h619 := r45_391 hJ 4 (i := ((391 + a1) - 40)) (by omega)
          refine X.retl i315_54 rfl t315 ?_
          exact hQ (m 4 45 ((391 + a1) - 40)) (by first | trivial | omega) (Eq.trans (if_neg h502c) (Eq.trans (if_neg h566c) (Eq.trans (if_neg h569c) (Eq.trans (if_pos h586c) rfl)))) 
    · have h566c : a1 ≤ 33 := by omega
      clear h566 hz565
      refine X.iconst 14 i204_13 rfl rfl (by decide) ?_
      refine X.goto 18 i204_14 rfl rfl ?_
      refine X.cut [] i204_18 rfl ?_
      refine X.retz i204_18 rfl t204 (by omega) ?_
      show X (EE s) d 315 11 [(0, zr 4 44), (1, zi a1)] [zi 1] m _
      refine X.ifeq 27 14 i315_11 rfl rfl rfl (fun h620 => (by exfalso; omega)) (fun h620 => ?_)
      refine X.aload_n 15 i315_14 rfl rfl rfl ?_
      refine X.getF 18 i315_15 rfl rfl (by decide) rfl rfl ?_
      refine X.bipush 20 i315_18 rfl rfl (by decide) ?_
      refine X.iload_n 21 i315_20 rfl rfl rfl ?_
      refine X.iadd 22 i315_21 rfl rfl (by omega) ?_
      refine X.bipush 24 i315_22 rfl rfl (by decide) ?_
      refine X.isub 25 i315_24 rfl rfl (by omega) ?_
      refine X.lald 26 i315_25 rfl rfl (by decide) rfl (by omega) ?_
      have h621 := r45_28 hJ 4 (i := ((28 + a1) - 30)) (by omega)
      refine X.retl i315_26 rfl t315 ?_
      exact hQ (m 4 45 ((28 + a1) - 30)) (by first | trivial | omega) (Eq.trans (if_neg h502c) (Eq.trans (if_pos h566c) rfl)) 
