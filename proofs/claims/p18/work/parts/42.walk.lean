-- WorkMeterModel.ends
theorem c232_1 {s : Nat × (Nat → Int32)} {S : zS} {m0 m : zM} {B : Int} {d : Nat} {Q : Option zV → zM → Prop} (a1 : Int) (hd : 17 ≤ d) (hJ : J S m0 B m) (hB : B + 1 ≤ 1000000000) (ha1 : 0 ≤ a1 ∧ a1 ≤ 64) (hQ : ∀ m', J S m0 (B + 1) m' → Q none m') : X (EE s) d 232 0 [(0, zr 4 44), (1, zl a1)] [] m Q := by
  refine X.aload_n 1 i232_0 rfl rfl rfl ?_
  refine X.getF 4 i232_1 rfl rfl (by decide) rfl rfl ?_
  refine X.bipush 6 i232_4 rfl rfl (by decide) ?_
  refine X.lald 7 i232_6 rfl rfl (by decide) rfl (by omega) ?_
  refine X.aload_n 8 i232_7 rfl rfl rfl ?_
  refine X.getF 11 i232_8 rfl rfl (by decide) rfl rfl ?_
  refine X.bipush 13 i232_11 rfl rfl (by decide) ?_
  refine X.lald 14 i232_13 rfl rfl (by decide) rfl (by omega) ?_
  refine X.llF 15 .ladd (fun x y => x + y) i232_14 rfl rfl rfl (fun _ _ => rfl) (fun z501 hz501 => ?_)
  refine X.lconst (y := 0) 16 i232_15 rfl rfl rfl ?_
  refine X.lcmp 17 i232_16 rfl rfl (fun z502 hz502 => ?_)
  refine X.ifne 25 20 i232_17 rfl rfl rfl (fun h503 => ?_) (fun h503 => ?_)
  · have h503c : z501 ≠ 0 := by omega
    clear h503 hz502
    refine X.aload_n 26 i232_25 rfl rfl rfl ?_
    refine X.getF 29 i232_26 rfl rfl (by decide) rfl rfl ?_
    refine X.bipush 31 i232_29 rfl rfl (by decide) ?_
    refine X.lald 32 i232_31 rfl rfl (by decide) rfl (by omega) ?_
    refine X.aload_n 33 i232_32 rfl rfl rfl ?_
    refine X.getF 36 i232_33 rfl rfl (by decide) rfl rfl ?_
    refine X.bipush 38 i232_36 rfl rfl (by decide) ?_
    refine X.lald 39 i232_38 rfl rfl (by decide) rfl (by omega) ?_
    refine X.lconst (y := 0) 40 i232_39 rfl rfl rfl ?_
    refine X.lcmp 41 i232_40 rfl rfl (fun z504 hz504 => ?_)
    refine X.ifle 49 44 i232_41 rfl rfl rfl (fun h505 => ?_) (fun h505 => ?_)
    · have h505c : (m 4 45 26) ≤ 0 := by omega
      clear h505 hz504
      refine X.iconst 50 i232_49 rfl rfl (by decide) ?_
      refine X.i2l 51 i232_50 rfl rfl ?_
      refine X.llF 52 .lor (fun x y => x ||| y) i232_51 rfl rfl rfl (fun _ _ => rfl) (fun z506 hz506 => ?_)
      refine X.lload_n 53 i232_52 rfl rfl rfl ?_
      refine X.llF 54 .lor (fun x y => x ||| y) i232_53 rfl rfl rfl (fun _ _ => rfl) (fun z507 hz507 => ?_)
      refine X.aload_n 55 i232_54 rfl rfl rfl ?_
      refine X.getF 58 i232_55 rfl rfl (by decide) rfl rfl ?_
      refine X.bipush 60 i232_58 rfl rfl (by decide) ?_
      refine X.lald 61 i232_60 rfl rfl (by decide) rfl (by omega) ?_
      refine X.lconst (y := 1) 62 i232_61 rfl rfl rfl ?_
      refine X.lcmp 63 i232_62 rfl rfl (fun z508 hz508 => ?_)
      refine X.ifeq 85 66 i232_63 rfl rfl rfl (fun h509 => ?_) (fun h509 => ?_)
      · have h509c : (m 4 45 21) = 1 := by omega
        clear h509 hz508
        refine X.sipush 88 i232_85 rfl rfl (by decide) ?_
        refine X.goto 92 i232_88 rfl rfl ?_
        refine X.i2l 93 i232_92 rfl rfl ?_
        refine X.llF 94 .lor (fun x y => x ||| y) i232_93 rfl rfl rfl (fun _ _ => rfl) (fun z510 hz510 => ?_)
        refine X.lstore_n 95 [(0, zr 4 44), (1, zl a1), (3, zl z510)] i232_94 rfl rfl rfl ?_
        refine X.aload_n 96 i232_95 rfl rfl rfl ?_
        refine X.getF 99 i232_96 rfl rfl (by decide) rfl rfl ?_
        refine X.bipush 101 i232_99 rfl rfl (by decide) ?_
        refine X.lald 102 i232_101 rfl rfl (by decide) rfl (by omega) ?_
        have h511 := r45_17 hJ 4
        refine X.ldc2 105 i232_102 rfl rfl (by decide) ?_
        refine X.lcmp 106 i232_105 rfl rfl (fun z512 hz512 => ?_)
        refine X.iflt 190 109 i232_106 rfl rfl rfl (fun h513 => ?_) (fun h513 => ?_)
        · have h513c : (m 4 45 17) < 64 := by omega
          clear h513 hz512
          refine X.sipush 193 i232_190 rfl rfl (by decide) ?_
          refine X.bipush 195 i232_193 rfl rfl (by decide) ?_
          refine X.aload_n 196 i232_195 rfl rfl rfl ?_
          refine X.callv 199 [] [zi 6, zi 788] [(0, zr 4 44)] i232_196 rfl (by decide) rfl rfl (by omega) rfl rfl (by decide) rfl t235 (Nat.le_of_ble_eq_true rfl) (Nat.le_of_ble_eq_true rfl) rfl ?_
          refine X.aload_n 1 i235_0 rfl rfl rfl ?_
          refine X.getF 4 i235_1 rfl rfl (by decide) rfl rfl ?_
          refine X.bipush 6 i235_4 rfl rfl (by decide) ?_
          refine X.lald 7 i235_6 rfl rfl (by decide) rfl (by omega) ?_
          refine X.ldc2 10 i235_7 rfl rfl (by decide) ?_
          refine X.lcmp 11 i235_10 rfl rfl (fun z514 hz514 => ?_)
          refine X.ifge 24 14 i235_11 rfl rfl rfl (fun h515 => (by exfalso; omega)) (fun h515 => ?_)
          have h515c : (m 4 45 17) < 64 := by omega
          clear h515 hz514
          refine X.aload_n 15 i235_14 rfl rfl rfl ?_
          refine X.getF 18 i235_15 rfl rfl (by decide) rfl rfl ?_
          refine X.bipush 20 i235_18 rfl rfl (by decide) ?_
          refine X.lald 21 i235_20 rfl rfl (by decide) rfl (by omega) ?_
          refine X.goto 27 i235_21 rfl rfl ?_
          refine X.cut [] i235_27 rfl ?_
          refine X.l2i 28 i235_27 rfl rfl (by omega) ?_
          refine X.reti i235_28 rfl t235 ?_
          show X (EE s) d 232 199 [(0, zr 4 44), (1, zl a1), (3, zl z510)] [zi (m 4 45 17), zi 6, zi 788] m _
          refine X.bipush 201 i232_199 rfl rfl (by decide) ?_
          refine X.icmpge 211 204 i232_201 rfl rfl rfl (fun h516 => (by exfalso; omega)) (fun h516 => ?_)
          refine X.aload_n 205 i232_204 rfl rfl rfl ?_
          refine X.callv 208 [] [zi 6, zi 788] [(0, zr 4 44)] i232_205 rfl (by decide) rfl rfl (by omega) rfl rfl (by decide) rfl t235 (Nat.le_of_ble_eq_true rfl) (Nat.le_of_ble_eq_true rfl) rfl ?_
          refine X.aload_n 1 i235_0 rfl rfl rfl ?_
          refine X.getF 4 i235_1 rfl rfl (by decide) rfl rfl ?_
          refine X.bipush 6 i235_4 rfl rfl (by decide) ?_
          refine X.lald 7 i235_6 rfl rfl (by decide) rfl (by omega) ?_
          refine X.ldc2 10 i235_7 rfl rfl (by decide) ?_
          refine X.lcmp 11 i235_10 rfl rfl (fun z517 hz517 => ?_)
          refine X.ifge 24 14 i235_11 rfl rfl rfl (fun h518 => (by exfalso; omega)) (fun h518 => ?_)
          have h518c : (m 4 45 17) < 64 := by omega
          clear h518 hz517
          refine X.aload_n 15 i235_14 rfl rfl rfl ?_
          refine X.getF 18 i235_15 rfl rfl (by decide) rfl rfl ?_
          refine X.bipush 20 i235_18 rfl rfl (by decide) ?_
          refine X.lald 21 i235_20 rfl rfl (by decide) rfl (by omega) ?_
          refine X.goto 27 i235_21 rfl rfl ?_
          refine X.cut [] i235_27 rfl ?_
          refine X.l2i 28 i235_27 rfl rfl (by omega) ?_
          refine X.reti i235_28 rfl t235 ?_
          show X (EE s) d 232 208 [(0, zr 4 44), (1, zl a1), (3, zl z510)] [zi (m 4 45 17), zi 6, zi 788] m _
          refine X.goto 213 i232_208 rfl rfl ?_
          refine X.imul 214 i232_213 rfl rfl (by omega) ?_
          refine X.iadd 215 i232_214 rfl rfl (by omega) ?_
          refine X.istore 217 [(0, zr 4 44), (1, zl a1), (3, zl z510), (5, zi (788 + (6 * (m 4 45 17))))] i232_215 rfl rfl rfl ?_
          refine X.aload_n 218 i232_217 rfl rfl rfl ?_
          refine X.getF 221 i232_218 rfl rfl (by decide) rfl rfl ?_
          refine X.bipush 223 i232_221 rfl rfl (by decide) ?_
          refine X.dup2 224 i232_223 rfl rfl ?_
          refine X.lald 225 i232_224 rfl rfl (by decide) rfl (by omega) ?_
          refine X.lconst (y := 1) 226 i232_225 rfl rfl rfl ?_
          refine X.ladd 227 i232_226 rfl rfl (by omega) ?_
          refine X.last' 228 i232_227 rfl rfl (by decide) rfl (by omega) (fun hrm519 m519 hm519 => ?_)
          have hJ520 := w45_17 (hJ.up (B' := B + 1) (by omega)) hm519 (by omega)
          refine X.aload_n 229 i232_228 rfl rfl rfl ?_
          refine X.getF 232 i232_229 rfl rfl (by decide) rfl rfl ?_
          refine X.iload 234 i232_232 rfl rfl rfl ?_
          refine X.aload_n 235 i232_234 rfl rfl rfl ?_
          refine X.getF 238 i232_235 rfl rfl (by decide) rfl rfl ?_
          refine X.iconst 239 i232_238 rfl rfl (by decide) ?_
          refine X.lald 240 i232_239 rfl rfl (by decide) rfl (by omega) ?_
          have h521 := r45_0 hJ520 4
          refine X.last' 241 i232_240 rfl rfl (by decide) rfl (by omega) (fun hrm522 m522 hm522 => ?_)
          have hJ523 := w45_788 hJ520 hm522 (by omega) hrm522
          refine X.aload_n 242 i232_241 rfl rfl rfl ?_
          refine X.getF 245 i232_242 rfl rfl (by decide) rfl rfl ?_
          refine X.iload 247 i232_245 rfl rfl rfl ?_
          refine X.iconst 248 i232_247 rfl rfl (by decide) ?_
          refine X.iadd 249 i232_248 rfl rfl (by omega) ?_
          refine X.aload_n 250 i232_249 rfl rfl rfl ?_
          refine X.getF 253 i232_250 rfl rfl (by decide) rfl rfl ?_
          refine X.bipush 255 i232_253 rfl rfl (by decide) ?_
          refine X.lald 256 i232_255 rfl rfl (by decide) rfl (by omega) ?_
          refine X.last' 257 i232_256 rfl rfl (by decide) rfl (by omega) (fun hrm524 m524 hm524 => ?_)
          have hJ525 := w45_788 hJ523 hm524 (by omega) hrm524
          refine X.aload_n 258 i232_257 rfl rfl rfl ?_
          refine X.getF 261 i232_258 rfl rfl (by decide) rfl rfl ?_
          refine X.iload 263 i232_261 rfl rfl rfl ?_
          refine X.iconst 264 i232_263 rfl rfl (by decide) ?_
          refine X.iadd 265 i232_264 rfl rfl (by omega) ?_
          refine X.aload_n 266 i232_265 rfl rfl rfl ?_
          refine X.getF 269 i232_266 rfl rfl (by decide) rfl rfl ?_
          refine X.bipush 271 i232_269 rfl rfl (by decide) ?_
          refine X.lald 272 i232_271 rfl rfl (by decide) rfl (by omega) ?_
          refine X.last' 273 i232_272 rfl rfl (by decide) rfl (by omega) (fun hrm526 m526 hm526 => ?_)
          have hJ527 := w45_788 hJ525 hm526 (by omega) hrm526
          refine X.aload_n 274 i232_273 rfl rfl rfl ?_
          refine X.getF 277 i232_274 rfl rfl (by decide) rfl rfl ?_
          refine X.iload 279 i232_277 rfl rfl rfl ?_
          refine X.iconst 280 i232_279 rfl rfl (by decide) ?_
          refine X.iadd 281 i232_280 rfl rfl (by omega) ?_
          refine X.aload_n 282 i232_281 rfl rfl rfl ?_
          refine X.getF 285 i232_282 rfl rfl (by decide) rfl rfl ?_
          refine X.bipush 287 i232_285 rfl rfl (by decide) ?_
          refine X.lald 288 i232_287 rfl rfl (by decide) rfl (by omega) ?_
          refine X.last' 289 i232_288 rfl rfl (by decide) rfl (by omega) (fun hrm528 m528 hm528 => ?_)
          have hJ529 := w45_788 hJ527 hm528 (by omega) hrm528
          refine X.aload_n 290 i232_289 rfl rfl rfl ?_
          refine X.getF 293 i232_290 rfl rfl (by decide) rfl rfl ?_
          refine X.iload 295 i232_293 rfl rfl rfl ?_
          refine X.iconst 296 i232_295 rfl rfl (by decide) ?_
          refine X.iadd 297 i232_296 rfl rfl (by omega) ?_
          refine X.aload_n 298 i232_297 rfl rfl rfl ?_
          refine X.getF 301 i232_298 rfl rfl (by decide) rfl rfl ?_
          refine X.bipush 303 i232_301 rfl rfl (by decide) ?_
          refine X.lald 304 i232_303 rfl rfl (by decide) rfl (by omega) ?_
          refine X.last' 305 i232_304 rfl rfl (by decide) rfl (by omega) (fun hrm530 m530 hm530 => ?_)
          have hJ531 := w45_788 hJ529 hm530 (by omega) hrm530
          refine X.aload_n 306 i232_305 rfl rfl rfl ?_
          refine X.getF 309 i232_306 rfl rfl (by decide) rfl rfl ?_
          refine X.iload 311 i232_309 rfl rfl rfl ?_
          refine X.iconst 312 i232_311 rfl rfl (by decide) ?_
          refine X.iadd 313 i232_312 rfl rfl (by omega) ?_
          refine X.lload_n 314 i232_313 rfl rfl rfl ?_
          refine X.last' 315 i232_314 rfl rfl (by decide) rfl (by omega) (fun hrm532 m532 hm532 => ?_)
          have hJ533 := w45_788 hJ531 hm532 (by omega) hrm532
          refine X.aload_n 316 i232_315 rfl rfl rfl ?_
          refine X.callv 319 [] [] [(0, zr 4 44)] i232_316 rfl (by decide) rfl rfl (by omega) rfl rfl (by decide) rfl t233 (Nat.le_of_ble_eq_true rfl) (Nat.le_of_ble_eq_true rfl) rfl ?_
          refine c233_1 (B := B + 1)   (by omega) (hJ533.up (by omega)) (by omega)  (fun m534 hJ535 => ?_)
          show X (EE s) d 232 319 [(0, zr 4 44), (1, zl a1), (3, zl z510), (5, zi (788 + (6 * (m 4 45 17))))] [] m534 _
          refine X.lload_n 320 i232_319 rfl rfl rfl ?_
          refine X.lconst (y := 0) 321 i232_320 rfl rfl rfl ?_
          refine X.lcmp 322 i232_321 rfl rfl (fun z537 hz537 => ?_)
          refine X.ifne 329 325 i232_322 rfl rfl rfl (fun h538 => ?_) (fun h538 => ?_)
          · have h538c : a1 ≠ 0 := by omega
            clear h538 hz537
            refine X.cut [] i232_329 rfl ?_
            refine X.retv i232_329 rfl t232 ?_
            exact hQ  m534  (hJ535.up (by omega)) 
          · have h538c : a1 = 0 := by omega
            clear h538 hz537
            refine X.aload_n 326 i232_325 rfl rfl rfl ?_
            refine X.callv 329 [] [] [(0, zr 4 44)] i232_326 rfl (by decide) rfl rfl (by omega) rfl rfl (by decide) rfl t236 (Nat.le_of_ble_eq_true rfl) (Nat.le_of_ble_eq_true rfl) rfl ?_
            refine c236_1 (B := B + 1)   (by omega) (hJ535.up (by omega)) (by omega)  (fun m539 hJ540 => ?_)
            show X (EE s) d 232 329 [(0, zr 4 44), (1, zl a1), (3, zl z510), (5, zi (788 + (6 * (m 4 45 17))))] [] m539 _
            refine X.cut [] i232_329 rfl ?_
            refine X.retv i232_329 rfl t232 ?_
            exact hQ  m539  (hJ540.up (by omega)) 
        · have h513c : (m 4 45 17) ≥ 64 := by omega
          clear h513 hz512
          refine X.iconst 110 i232_109 rfl rfl (by decide) ?_
          refine X.istore 112 [(0, zr 4 44), (1, zl a1), (3, zl z510), (5, zi 0)] i232_110 rfl rfl rfl ?_
          refine l232_112_1 (s := s) (S := S) (m0 := m0) (d := d)  a1 z510 (BE := B + 0) (by omega) (by omega) (by omega) (fun  m542 B543 hJ544 hBB543 => ?_) ((4 - 0 : Int).toNat + 1) 0 m (B) (hJ.up (by omega)) (by omega)  (by omega) (by omega)
          refine X.bipush 149 i232_147 rfl rfl (by decide) ?_
          refine X.istore 151 [(0, zr 4 44), (1, zl a1), (3, zl z510), (5, zi 6)] i232_149 rfl rfl rfl ?_
          refine l232_151_1 (s := s) (S := S) (m0 := m0) (d := d)  a1 z510 (BE := B543 + 0) (by omega) (by omega) (by omega) (fun  m545 B546 hJ547 hBB546 => ?_) ((384 - 6 : Int).toNat + 1) 6 m542 (B543) (hJ544.up (by omega)) (by omega)  (by omega) (by omega)
          refine X.sipush 193 i232_190 rfl rfl (by decide) ?_
          refine X.bipush 195 i232_193 rfl rfl (by decide) ?_
          refine X.aload_n 196 i232_195 rfl rfl rfl ?_
          refine X.callv 199 [] [zi 6, zi 788] [(0, zr 4 44)] i232_196 rfl (by decide) rfl rfl (by omega) rfl rfl (by decide) rfl t235 (Nat.le_of_ble_eq_true rfl) (Nat.le_of_ble_eq_true rfl) rfl ?_
          refine X.aload_n 1 i235_0 rfl rfl rfl ?_
          refine X.getF 4 i235_1 rfl rfl (by decide) rfl rfl ?_
          refine X.bipush 6 i235_4 rfl rfl (by decide) ?_
          refine X.lald 7 i235_6 rfl rfl (by decide) rfl (by omega) ?_
          have h548 := r45_17 hJ547 4
          refine X.ldc2 10 i235_7 rfl rfl (by decide) ?_
          refine X.lcmp 11 i235_10 rfl rfl (fun z549 hz549 => ?_)
          refine X.ifge 24 14 i235_11 rfl rfl rfl (fun h550 => ?_) (fun h550 => ?_)
          · have h550c : (m545 4 45 17) ≥ 64 := by omega
            clear h550 hz549
            refine X.cut [] i235_24 rfl ?_
            refine X.ldc2 27 i235_24 rfl rfl (by decide) ?_
            refine X.l2i 28 i235_27 rfl rfl (by omega) ?_
            refine X.reti i235_28 rfl t235 ?_
            show X (EE s) d 232 199 [(0, zr 4 44), (1, zl a1), (3, zl z510)] [zi 64, zi 6, zi 788] m545 _
            refine X.bipush 201 i232_199 rfl rfl (by decide) ?_
            refine X.icmpge 211 204 i232_201 rfl rfl rfl (fun h551 => ?_) (fun h551 => (by exfalso; omega))
            refine X.bipush 213 i232_211 rfl rfl (by decide) ?_
            refine X.imul 214 i232_213 rfl rfl (by omega) ?_
            refine X.iadd 215 i232_214 rfl rfl (by omega) ?_
            refine X.istore 217 [(0, zr 4 44), (1, zl a1), (3, zl z510), (5, zi (788 + (6 * 63)))] i232_215 rfl rfl rfl ?_
            refine X.aload_n 218 i232_217 rfl rfl rfl ?_
            refine X.getF 221 i232_218 rfl rfl (by decide) rfl rfl ?_
            refine X.bipush 223 i232_221 rfl rfl (by decide) ?_
            refine X.dup2 224 i232_223 rfl rfl ?_
            refine X.lald 225 i232_224 rfl rfl (by decide) rfl (by omega) ?_
            refine X.lconst (y := 1) 226 i232_225 rfl rfl rfl ?_
            refine X.ladd 227 i232_226 rfl rfl (by omega) ?_
            refine X.last' 228 i232_227 rfl rfl (by decide) rfl (by omega) (fun hrm552 m552 hm552 => ?_)
            have hJ553 := w45_17 (hJ547.up (B' := B546 + 1) (by omega)) hm552 (by omega)
            refine X.aload_n 229 i232_228 rfl rfl rfl ?_
            refine X.getF 232 i232_229 rfl rfl (by decide) rfl rfl ?_
            refine X.iload 234 i232_232 rfl rfl rfl ?_
            refine X.aload_n 235 i232_234 rfl rfl rfl ?_
            refine X.getF 238 i232_235 rfl rfl (by decide) rfl rfl ?_
            refine X.iconst 239 i232_238 rfl rfl (by decide) ?_
            refine X.lald 240 i232_239 rfl rfl (by decide) rfl (by omega) ?_
            have h554 := r45_0 hJ553 4
            refine X.last' 241 i232_240 rfl rfl (by decide) rfl (by omega) (fun hrm555 m555 hm555 => ?_)
            have hJ556 := w45_788 hJ553 hm555 (by omega) hrm555
            refine X.aload_n 242 i232_241 rfl rfl rfl ?_
            refine X.getF 245 i232_242 rfl rfl (by decide) rfl rfl ?_
            refine X.iload 247 i232_245 rfl rfl rfl ?_
            refine X.iconst 248 i232_247 rfl rfl (by decide) ?_
            refine X.iadd 249 i232_248 rfl rfl (by omega) ?_
            refine X.aload_n 250 i232_249 rfl rfl rfl ?_
            refine X.getF 253 i232_250 rfl rfl (by decide) rfl rfl ?_
            refine X.bipush 255 i232_253 rfl rfl (by decide) ?_
            refine X.lald 256 i232_255 rfl rfl (by decide) rfl (by omega) ?_
            refine X.last' 257 i232_256 rfl rfl (by decide) rfl (by omega) (fun hrm557 m557 hm557 => ?_)
            have hJ558 := w45_788 hJ556 hm557 (by omega) hrm557
            refine X.aload_n 258 i232_257 rfl rfl rfl ?_
            refine X.getF 261 i232_258 rfl rfl (by decide) rfl rfl ?_
            refine X.iload 263 i232_261 rfl rfl rfl ?_
            refine X.iconst 264 i232_263 rfl rfl (by decide) ?_
            refine X.iadd 265 i232_264 rfl rfl (by omega) ?_
            refine X.aload_n 266 i232_265 rfl rfl rfl ?_
            refine X.getF 269 i232_266 rfl rfl (by decide) rfl rfl ?_
            refine X.bipush 271 i232_269 rfl rfl (by decide) ?_
            refine X.lald 272 i232_271 rfl rfl (by decide) rfl (by omega) ?_
            refine X.last' 273 i232_272 rfl rfl (by decide) rfl (by omega) (fun hrm559 m559 hm559 => ?_)
            have hJ560 := w45_788 hJ558 hm559 (by omega) hrm559
            refine X.aload_n 274 i232_273 rfl rfl rfl ?_
            refine X.getF 277 i232_274 rfl rfl (by decide) rfl rfl ?_
            refine X.iload 279 i232_277 rfl rfl rfl ?_
            refine X.iconst 280 i232_279 rfl rfl (by decide) ?_
            refine X.iadd 281 i232_280 rfl rfl (by omega) ?_
            refine X.aload_n 282 i232_281 rfl rfl rfl ?_
            refine X.getF 285 i232_282 rfl rfl (by decide) rfl rfl ?_
            refine X.bipush 287 i232_285 rfl rfl (by decide) ?_
            refine X.lald 288 i232_287 rfl rfl (by decide) rfl (by omega) ?_
            refine X.last' 289 i232_288 rfl rfl (by decide) rfl (by omega) (fun hrm561 m561 hm561 => ?_)
            have hJ562 := w45_788 hJ560 hm561 (by omega) hrm561
            refine X.aload_n 290 i232_289 rfl rfl rfl ?_
            refine X.getF 293 i232_290 rfl rfl (by decide) rfl rfl ?_
            refine X.iload 295 i232_293 rfl rfl rfl ?_
            refine X.iconst 296 i232_295 rfl rfl (by decide) ?_
            refine X.iadd 297 i232_296 rfl rfl (by omega) ?_
            refine X.aload_n 298 i232_297 rfl rfl rfl ?_
            refine X.getF 301 i232_298 rfl rfl (by decide) rfl rfl ?_
            refine X.bipush 303 i232_301 rfl rfl (by decide) ?_
            refine X.lald 304 i232_303 rfl rfl (by decide) rfl (by omega) ?_
            refine X.last' 305 i232_304 rfl rfl (by decide) rfl (by omega) (fun hrm563 m563 hm563 => ?_)
            have hJ564 := w45_788 hJ562 hm563 (by omega) hrm563
            refine X.aload_n 306 i232_305 rfl rfl rfl ?_
            refine X.getF 309 i232_306 rfl rfl (by decide) rfl rfl ?_
            refine X.iload 311 i232_309 rfl rfl rfl ?_
            refine X.iconst 312 i232_311 rfl rfl (by decide) ?_
            refine X.iadd 313 i232_312 rfl rfl (by omega) ?_
            refine X.lload_n 314 i232_313 rfl rfl rfl ?_
            refine X.last' 315 i232_314 rfl rfl (by decide) rfl (by omega) (fun hrm565 m565 hm565 => ?_)
            have hJ566 := w45_788 hJ564 hm565 (by omega) hrm565
            refine X.aload_n 316 i232_315 rfl rfl rfl ?_
            refine X.callv 319 [] [] [(0, zr 4 44)] i232_316 rfl (by decide) rfl rfl (by omega) rfl rfl (by decide) rfl t233 (Nat.le_of_ble_eq_true rfl) (Nat.le_of_ble_eq_true rfl) rfl ?_
            refine c233_1 (B := B546 + 1)   (by omega) (hJ566.up (by omega)) (by omega)  (fun m567 hJ568 => ?_)
            show X (EE s) d 232 319 [(0, zr 4 44), (1, zl a1), (3, zl z510), (5, zi (788 + (6 * 63)))] [] m567 _
            refine X.lload_n 320 i232_319 rfl rfl rfl ?_
            refine X.lconst (y := 0) 321 i232_320 rfl rfl rfl ?_
            refine X.lcmp 322 i232_321 rfl rfl (fun z570 hz570 => ?_)
            refine X.ifne 329 325 i232_322 rfl rfl rfl (fun h571 => ?_) (fun h571 => ?_)
            · have h571c : a1 ≠ 0 := by omega
              clear h571 hz570
              refine X.cut [] i232_329 rfl ?_
              refine X.retv i232_329 rfl t232 ?_
              exact hQ  m567  (hJ568.up (by omega)) 
            · have h571c : a1 = 0 := by omega
              clear h571 hz570
              refine X.aload_n 326 i232_325 rfl rfl rfl ?_
              refine X.callv 329 [] [] [(0, zr 4 44)] i232_326 rfl (by decide) rfl rfl (by omega) rfl rfl (by decide) rfl t236 (Nat.le_of_ble_eq_true rfl) (Nat.le_of_ble_eq_true rfl) rfl ?_
              refine c236_1 (B := B546 + 1)   (by omega) (hJ568.up (by omega)) (by omega)  (fun m572 hJ573 => ?_)
              show X (EE s) d 232 329 [(0, zr 4 44), (1, zl a1), (3, zl z510), (5, zi (788 + (6 * 63)))] [] m572 _
              refine X.cut [] i232_329 rfl ?_
              refine X.retv i232_329 rfl t232 ?_
              exact hQ  m572  (hJ573.up (by omega)) 
          · have h550c : (m545 4 45 17) < 64 := by omega
            clear h550 hz549
            refine X.aload_n 15 i235_14 rfl rfl rfl ?_
            refine X.getF 18 i235_15 rfl rfl (by decide) rfl rfl ?_
            refine X.bipush 20 i235_18 rfl rfl (by decide) ?_
            refine X.lald 21 i235_20 rfl rfl (by decide) rfl (by omega) ?_
            refine X.goto 27 i235_21 rfl rfl ?_
            refine X.cut [] i235_27 rfl ?_
            refine X.l2i 28 i235_27 rfl rfl (by omega) ?_
            refine X.reti i235_28 rfl t235 ?_
            show X (EE s) d 232 199 [(0, zr 4 44), (1, zl a1), (3, zl z510)] [zi (m545 4 45 17), zi 6, zi 788] m545 _
            refine X.bipush 201 i232_199 rfl rfl (by decide) ?_
            refine X.icmpge 211 204 i232_201 rfl rfl rfl (fun h575 => (by exfalso; omega)) (fun h575 => ?_)
            refine X.aload_n 205 i232_204 rfl rfl rfl ?_
            refine X.callv 208 [] [zi 6, zi 788] [(0, zr 4 44)] i232_205 rfl (by decide) rfl rfl (by omega) rfl rfl (by decide) rfl t235 (Nat.le_of_ble_eq_true rfl) (Nat.le_of_ble_eq_true rfl) rfl ?_
            refine X.aload_n 1 i235_0 rfl rfl rfl ?_
            refine X.getF 4 i235_1 rfl rfl (by decide) rfl rfl ?_
            refine X.bipush 6 i235_4 rfl rfl (by decide) ?_
            refine X.lald 7 i235_6 rfl rfl (by decide) rfl (by omega) ?_
            refine X.ldc2 10 i235_7 rfl rfl (by decide) ?_
            refine X.lcmp 11 i235_10 rfl rfl (fun z576 hz576 => ?_)
            refine X.ifge 24 14 i235_11 rfl rfl rfl (fun h577 => (by exfalso; omega)) (fun h577 => ?_)
            have h577c : (m545 4 45 17) < 64 := by omega
            clear h577 hz576
            refine X.aload_n 15 i235_14 rfl rfl rfl ?_
            refine X.getF 18 i235_15 rfl rfl (by decide) rfl rfl ?_
            refine X.bipush 20 i235_18 rfl rfl (by decide) ?_
            refine X.lald 21 i235_20 rfl rfl (by decide) rfl (by omega) ?_
            refine X.goto 27 i235_21 rfl rfl ?_
            refine X.cut [] i235_27 rfl ?_
            refine X.l2i 28 i235_27 rfl rfl (by omega) ?_
            refine X.reti i235_28 rfl t235 ?_
            show X (EE s) d 232 208 [(0, zr 4 44), (1, zl a1), (3, zl z510)] [zi (m545 4 45 17), zi 6, zi 788] m545 _
            refine X.goto 213 i232_208 rfl rfl ?_
            refine X.imul 214 i232_213 rfl rfl (by omega) ?_
            refine X.iadd 215 i232_214 rfl rfl (by omega) ?_
            refine X.istore 217 [(0, zr 4 44), (1, zl a1), (3, zl z510), (5, zi (788 + (6 * (m545 4 45 17))))] i232_215 rfl rfl rfl ?_
            refine X.aload_n 218 i232_217 rfl rfl rfl ?_
            refine X.getF 221 i232_218 rfl rfl (by decide) rfl rfl ?_
            refine X.bipush 223 i232_221 rfl rfl (by decide) ?_
            refine X.dup2 224 i232_223 rfl rfl ?_
            refine X.lald 225 i232_224 rfl rfl (by decide) rfl (by omega) ?_
            refine X.lconst (y := 1) 226 i232_225 rfl rfl rfl ?_
            refine X.ladd 227 i232_226 rfl rfl (by omega) ?_
            refine X.last' 228 i232_227 rfl rfl (by decide) rfl (by omega) (fun hrm578 m578 hm578 => ?_)
            have hJ579 := w45_17 (hJ547.up (B' := B546 + 1) (by omega)) hm578 (by omega)
            refine X.aload_n 229 i232_228 rfl rfl rfl ?_
            refine X.getF 232 i232_229 rfl rfl (by decide) rfl rfl ?_
            refine X.iload 234 i232_232 rfl rfl rfl ?_
            refine X.aload_n 235 i232_234 rfl rfl rfl ?_
            refine X.getF 238 i232_235 rfl rfl (by decide) rfl rfl ?_
            refine X.iconst 239 i232_238 rfl rfl (by decide) ?_
            refine X.lald 240 i232_239 rfl rfl (by decide) rfl (by omega) ?_
            have h580 := r45_0 hJ579 4
            refine X.last' 241 i232_240 rfl rfl (by decide) rfl (by omega) (fun hrm581 m581 hm581 => ?_)
            have hJ582 := w45_788 hJ579 hm581 (by omega) hrm581
            refine X.aload_n 242 i232_241 rfl rfl rfl ?_
            refine X.getF 245 i232_242 rfl rfl (by decide) rfl rfl ?_
            refine X.iload 247 i232_245 rfl rfl rfl ?_
            refine X.iconst 248 i232_247 rfl rfl (by decide) ?_
            refine X.iadd 249 i232_248 rfl rfl (by omega) ?_
            refine X.aload_n 250 i232_249 rfl rfl rfl ?_
            refine X.getF 253 i232_250 rfl rfl (by decide) rfl rfl ?_
            refine X.bipush 255 i232_253 rfl rfl (by decide) ?_
            refine X.lald 256 i232_255 rfl rfl (by decide) rfl (by omega) ?_
            refine X.last' 257 i232_256 rfl rfl (by decide) rfl (by omega) (fun hrm583 m583 hm583 => ?_)
            have hJ584 := w45_788 hJ582 hm583 (by omega) hrm583
            refine X.aload_n 258 i232_257 rfl rfl rfl ?_
            refine X.getF 261 i232_258 rfl rfl (by decide) rfl rfl ?_
            refine X.iload 263 i232_261 rfl rfl rfl ?_
            refine X.iconst 264 i232_263 rfl rfl (by decide) ?_
            refine X.iadd 265 i232_264 rfl rfl (by omega) ?_
            refine X.aload_n 266 i232_265 rfl rfl rfl ?_
            refine X.getF 269 i232_266 rfl rfl (by decide) rfl rfl ?_
            refine X.bipush 271 i232_269 rfl rfl (by decide) ?_
            refine X.lald 272 i232_271 rfl rfl (by decide) rfl (by omega) ?_
            refine X.last' 273 i232_272 rfl rfl (by decide) rfl (by omega) (fun hrm585 m585 hm585 => ?_)
            have hJ586 := w45_788 hJ584 hm585 (by omega) hrm585
            refine X.aload_n 274 i232_273 rfl rfl rfl ?_
            refine X.getF 277 i232_274 rfl rfl (by decide) rfl rfl ?_
            refine X.iload 279 i232_277 rfl rfl rfl ?_
            refine X.iconst 280 i232_279 rfl rfl (by decide) ?_
            refine X.iadd 281 i232_280 rfl rfl (by omega) ?_
            refine X.aload_n 282 i232_281 rfl rfl rfl ?_
            refine X.getF 285 i232_282 rfl rfl (by decide) rfl rfl ?_
            refine X.bipush 287 i232_285 rfl rfl (by decide) ?_
            refine X.lald 288 i232_287 rfl rfl (by decide) rfl (by omega) ?_
            refine X.last' 289 i232_288 rfl rfl (by decide) rfl (by omega) (fun hrm587 m587 hm587 => ?_)
            have hJ588 := w45_788 hJ586 hm587 (by omega) hrm587
            refine X.aload_n 290 i232_289 rfl rfl rfl ?_
            refine X.getF 293 i232_290 rfl rfl (by decide) rfl rfl ?_
            refine X.iload 295 i232_293 rfl rfl rfl ?_
            refine X.iconst 296 i232_295 rfl rfl (by decide) ?_
            refine X.iadd 297 i232_296 rfl rfl (by omega) ?_
            refine X.aload_n 298 i232_297 rfl rfl rfl ?_
            refine X.getF 301 i232_298 rfl rfl (by decide) rfl rfl ?_
            refine X.bipush 303 i232_301 rfl rfl (by decide) ?_
            refine X.lald 304 i232_303 rfl rfl (by decide) rfl (by omega) ?_
            refine X.last' 305 i232_304 rfl rfl (by decide) rfl (by omega) (fun hrm589 m589 hm589 => ?_)
            have hJ590 := w45_788 hJ588 hm589 (by omega) hrm589
            refine X.aload_n 306 i232_305 rfl rfl rfl ?_
            refine X.getF 309 i232_306 rfl rfl (by decide) rfl rfl ?_
            refine X.iload 311 i232_309 rfl rfl rfl ?_
            refine X.iconst 312 i232_311 rfl rfl (by decide) ?_
            refine X.iadd 313 i232_312 rfl rfl (by omega) ?_
            refine X.lload_n 314 i232_313 rfl rfl rfl ?_
            refine X.last' 315 i232_314 rfl rfl (by decide) rfl (by omega) (fun hrm591 m591 hm591 => ?_)
            have hJ592 := w45_788 hJ590 hm591 (by omega) hrm591
            refine X.aload_n 316 i232_315 rfl rfl rfl ?_
            refine X.callv 319 [] [] [(0, zr 4 44)] i232_316 rfl (by decide) rfl rfl (by omega) rfl rfl (by decide) rfl t233 (Nat.le_of_ble_eq_true rfl) (Nat.le_of_ble_eq_true rfl) rfl ?_
            refine c233_1 (B := B546 + 1)   (by omega) (hJ592.up (by omega)) (by omega)  (fun m593 hJ594 => ?_)
            show X (EE s) d 232 319 [(0, zr 4 44), (1, zl a1), (3, zl z510), (5, zi (788 + (6 * (m545 4 45 17))))] [] m593 _
            refine X.lload_n 320 i232_319 rfl rfl rfl ?_
            refine X.lconst (y := 0) 321 i232_320 rfl rfl rfl ?_
            refine X.lcmp 322 i232_321 rfl rfl (fun z596 hz596 => ?_)
            refine X.ifne 329 325 i232_322 rfl rfl rfl (fun h597 => ?_) (fun h597 => ?_)
            · have h597c : a1 ≠ 0 := by omega
              clear h597 hz596
              refine X.cut [] i232_329 rfl ?_
              refine X.retv i232_329 rfl t232 ?_
              exact hQ  m593  (hJ594.up (by omega)) 
            · have h597c : a1 = 0 := by omega
              clear h597 hz596
              refine X.aload_n 326 i232_325 rfl rfl rfl ?_
              refine X.callv 329 [] [] [(0, zr 4 44)] i232_326 rfl (by decide) rfl rfl (by omega) rfl rfl (by decide) rfl t236 (Nat.le_of_ble_eq_true rfl) (Nat.le_of_ble_eq_true rfl) rfl ?_
              refine c236_1 (B := B546 + 1)   (by omega) (hJ594.up (by omega)) (by omega)  (fun m598 hJ599 => ?_)
              show X (EE s) d 232 329 [(0, zr 4 44), (1, zl a1), (3, zl z510), (5, zi (788 + (6 * (m545 4 45 17))))] [] m598 _
              refine X.cut [] i232_329 rfl ?_
              refine X.retv i232_329 rfl t232 ?_
              exact hQ  m598  (hJ599.up (by omega)) 
      · have h509c : (m 4 45 21) ≠ 1 := by omega
        clear h509 hz508
        refine X.aload_n 67 i232_66 rfl rfl rfl ?_
        refine X.getF 70 i232_67 rfl rfl (by decide) rfl rfl ?_
        refine X.iconst 71 i232_70 rfl rfl (by decide) ?_
        refine X.lald 72 i232_71 rfl rfl (by decide) rfl (by omega) ?_
        have h601 := r45_0 hJ 4
        refine X.aload_n 73 i232_72 rfl rfl rfl ?_
        refine X.getF 76 i232_73 rfl rfl (by decide) rfl rfl ?_
        refine X.bipush 78 i232_76 rfl rfl (by decide) ?_
        refine X.lald 79 i232_78 rfl rfl (by decide) rfl (by omega) ?_
        have h602 := r45_8 hJ 4
        refine X.lremp 80 i232_79 rfl rfl (by omega) ?_
        have hz603 := z_modb (x := (m 4 45 0)) (y := (m 4 45 8)) (by omega) (by omega)
        obtain ⟨z603, ez603⟩ : ∃ z, z = ((m 4 45 0) % (m 4 45 8)) := ⟨_, rfl⟩
        rw [← ez603] at hz603 ⊢
        clear ez603
        refine X.lconst (y := 0) 81 i232_80 rfl rfl rfl ?_
        refine X.lcmp 82 i232_81 rfl rfl (fun z604 hz604 => ?_)
        refine X.ifeq 91 85 i232_82 rfl rfl rfl (fun h605 => ?_) (fun h605 => ?_)
        · have h605c : z603 = 0 := by omega
          clear h605 hz604
          refine X.iconst 92 i232_91 rfl rfl (by decide) ?_
          refine X.i2l 93 i232_92 rfl rfl ?_
          refine X.llF 94 .lor (fun x y => x ||| y) i232_93 rfl rfl rfl (fun _ _ => rfl) (fun z606 hz606 => ?_)
          refine X.lstore_n 95 [(0, zr 4 44), (1, zl a1), (3, zl z606)] i232_94 rfl rfl rfl ?_
          refine X.aload_n 96 i232_95 rfl rfl rfl ?_
          refine X.getF 99 i232_96 rfl rfl (by decide) rfl rfl ?_
          refine X.bipush 101 i232_99 rfl rfl (by decide) ?_
          refine X.lald 102 i232_101 rfl rfl (by decide) rfl (by omega) ?_
          have h607 := r45_17 hJ 4
          refine X.ldc2 105 i232_102 rfl rfl (by decide) ?_
          refine X.lcmp 106 i232_105 rfl rfl (fun z608 hz608 => ?_)
          refine X.iflt 190 109 i232_106 rfl rfl rfl (fun h609 => ?_) (fun h609 => ?_)
          · have h609c : (m 4 45 17) < 64 := by omega
            clear h609 hz608
            refine X.sipush 193 i232_190 rfl rfl (by decide) ?_
            refine X.bipush 195 i232_193 rfl rfl (by decide) ?_
            refine X.aload_n 196 i232_195 rfl rfl rfl ?_
            refine X.callv 199 [] [zi 6, zi 788] [(0, zr 4 44)] i232_196 rfl (by decide) rfl rfl (by omega) rfl rfl (by decide) rfl t235 (Nat.le_of_ble_eq_true rfl) (Nat.le_of_ble_eq_true rfl) rfl ?_
            refine X.aload_n 1 i235_0 rfl rfl rfl ?_
            refine X.getF 4 i235_1 rfl rfl (by decide) rfl rfl ?_
            refine X.bipush 6 i235_4 rfl rfl (by decide) ?_
            refine X.lald 7 i235_6 rfl rfl (by decide) rfl (by omega) ?_
            refine X.ldc2 10 i235_7 rfl rfl (by decide) ?_
            refine X.lcmp 11 i235_10 rfl rfl (fun z610 hz610 => ?_)
            refine X.ifge 24 14 i235_11 rfl rfl rfl (fun h611 => (by exfalso; omega)) (fun h611 => ?_)
            have h611c : (m 4 45 17) < 64 := by omega
            clear h611 hz610
            refine X.aload_n 15 i235_14 rfl rfl rfl ?_
            refine X.getF 18 i235_15 rfl rfl (by decide) rfl rfl ?_
            refine X.bipush 20 i235_18 rfl rfl (by decide) ?_
            refine X.lald 21 i235_20 rfl rfl (by decide) rfl (by omega) ?_
            refine X.goto 27 i235_21 rfl rfl ?_
            refine X.cut [] i235_27 rfl ?_
            refine X.l2i 28 i235_27 rfl rfl (by omega) ?_
            refine X.reti i235_28 rfl t235 ?_
            show X (EE s) d 232 199 [(0, zr 4 44), (1, zl a1), (3, zl z606)] [zi (m 4 45 17), zi 6, zi 788] m _
            refine X.bipush 201 i232_199 rfl rfl (by decide) ?_
            refine X.icmpge 211 204 i232_201 rfl rfl rfl (fun h612 => (by exfalso; omega)) (fun h612 => ?_)
            refine X.aload_n 205 i232_204 rfl rfl rfl ?_
            refine X.callv 208 [] [zi 6, zi 788] [(0, zr 4 44)] i232_205 rfl (by decide) rfl rfl (by omega) rfl rfl (by decide) rfl t235 (Nat.le_of_ble_eq_true rfl) (Nat.le_of_ble_eq_true rfl) rfl ?_
            refine X.aload_n 1 i235_0 rfl rfl rfl ?_
            refine X.getF 4 i235_1 rfl rfl (by decide) rfl rfl ?_
            refine X.bipush 6 i235_4 rfl rfl (by decide) ?_
            refine X.lald 7 i235_6 rfl rfl (by decide) rfl (by omega) ?_
            refine X.ldc2 10 i235_7 rfl rfl (by decide) ?_
            refine X.lcmp 11 i235_10 rfl rfl (fun z613 hz613 => ?_)
            refine X.ifge 24 14 i235_11 rfl rfl rfl (fun h614 => (by exfalso; omega)) (fun h614 => ?_)
            have h614c : (m 4 45 17) < 64 := by omega
            clear h614 hz613
            refine X.aload_n 15 i235_14 rfl rfl rfl ?_
            refine X.getF 18 i235_15 rfl rfl (by decide) rfl rfl ?_
            refine X.bipush 20 i235_18 rfl rfl (by decide) ?_
            refine X.lald 21 i235_20 rfl rfl (by decide) rfl (by omega) ?_
            refine X.goto 27 i235_21 rfl rfl ?_
            refine X.cut [] i235_27 rfl ?_
            refine X.l2i 28 i235_27 rfl rfl (by omega) ?_
            refine X.reti i235_28 rfl t235 ?_
            show X (EE s) d 232 208 [(0, zr 4 44), (1, zl a1), (3, zl z606)] [zi (m 4 45 17), zi 6, zi 788] m _
            refine X.goto 213 i232_208 rfl rfl ?_
            refine X.imul 214 i232_213 rfl rfl (by omega) ?_
            refine X.iadd 215 i232_214 rfl rfl (by omega) ?_
            refine X.istore 217 [(0, zr 4 44), (1, zl a1), (3, zl z606), (5, zi (788 + (6 * (m 4 45 17))))] i232_215 rfl rfl rfl ?_
            refine X.aload_n 218 i232_217 rfl rfl rfl ?_
            refine X.getF 221 i232_218 rfl rfl (by decide) rfl rfl ?_
            refine X.bipush 223 i232_221 rfl rfl (by decide) ?_
            refine X.dup2 224 i232_223 rfl rfl ?_
            refine X.lald 225 i232_224 rfl rfl (by decide) rfl (by omega) ?_
            refine X.lconst (y := 1) 226 i232_225 rfl rfl rfl ?_
            refine X.ladd 227 i232_226 rfl rfl (by omega) ?_
            refine X.last' 228 i232_227 rfl rfl (by decide) rfl (by omega) (fun hrm615 m615 hm615 => ?_)
            have hJ616 := w45_17 (hJ.up (B' := B + 1) (by omega)) hm615 (by omega)
            refine X.aload_n 229 i232_228 rfl rfl rfl ?_
            refine X.getF 232 i232_229 rfl rfl (by decide) rfl rfl ?_
            refine X.iload 234 i232_232 rfl rfl rfl ?_
            refine X.aload_n 235 i232_234 rfl rfl rfl ?_
            refine X.getF 238 i232_235 rfl rfl (by decide) rfl rfl ?_
            refine X.iconst 239 i232_238 rfl rfl (by decide) ?_
            refine X.lald 240 i232_239 rfl rfl (by decide) rfl (by omega) ?_
            have h617 := r45_0 hJ616 4
            refine X.last' 241 i232_240 rfl rfl (by decide) rfl (by omega) (fun hrm618 m618 hm618 => ?_)
            have hJ619 := w45_788 hJ616 hm618 (by omega) hrm618
            refine X.aload_n 242 i232_241 rfl rfl rfl ?_
            refine X.getF 245 i232_242 rfl rfl (by decide) rfl rfl ?_
            refine X.iload 247 i232_245 rfl rfl rfl ?_
            refine X.iconst 248 i232_247 rfl rfl (by decide) ?_
            refine X.iadd 249 i232_248 rfl rfl (by omega) ?_
            refine X.aload_n 250 i232_249 rfl rfl rfl ?_
            refine X.getF 253 i232_250 rfl rfl (by decide) rfl rfl ?_
            refine X.bipush 255 i232_253 rfl rfl (by decide) ?_
            refine X.lald 256 i232_255 rfl rfl (by decide) rfl (by omega) ?_
            refine X.last' 257 i232_256 rfl rfl (by decide) rfl (by omega) (fun hrm620 m620 hm620 => ?_)
            have hJ621 := w45_788 hJ619 hm620 (by omega) hrm620
            refine X.aload_n 258 i232_257 rfl rfl rfl ?_
            refine X.getF 261 i232_258 rfl rfl (by decide) rfl rfl ?_
            refine X.iload 263 i232_261 rfl rfl rfl ?_
            refine X.iconst 264 i232_263 rfl rfl (by decide) ?_
            refine X.iadd 265 i232_264 rfl rfl (by omega) ?_
            refine X.aload_n 266 i232_265 rfl rfl rfl ?_
            refine X.getF 269 i232_266 rfl rfl (by decide) rfl rfl ?_
            refine X.bipush 271 i232_269 rfl rfl (by decide) ?_
            refine X.lald 272 i232_271 rfl rfl (by decide) rfl (by omega) ?_
            refine X.last' 273 i232_272 rfl rfl (by decide) rfl (by omega) (fun hrm622 m622 hm622 => ?_)
            have hJ623 := w45_788 hJ621 hm622 (by omega) hrm622
            refine X.aload_n 274 i232_273 rfl rfl rfl ?_
            refine X.getF 277 i232_274 rfl rfl (by decide) rfl rfl ?_
            refine X.iload 279 i232_277 rfl rfl rfl ?_
            refine X.iconst 280 i232_279 rfl rfl (by decide) ?_
            refine X.iadd 281 i232_280 rfl rfl (by omega) ?_
            refine X.aload_n 282 i232_281 rfl rfl rfl ?_
            refine X.getF 285 i232_282 rfl rfl (by decide) rfl rfl ?_
            refine X.bipush 287 i232_285 rfl rfl (by decide) ?_
            refine X.lald 288 i232_287 rfl rfl (by decide) rfl (by omega) ?_
            refine X.last' 289 i232_288 rfl rfl (by decide) rfl (by omega) (fun hrm624 m624 hm624 => ?_)
            have hJ625 := w45_788 hJ623 hm624 (by omega) hrm624
            refine X.aload_n 290 i232_289 rfl rfl rfl ?_
            refine X.getF 293 i232_290 rfl rfl (by decide) rfl rfl ?_
            refine X.iload 295 i232_293 rfl rfl rfl ?_
            refine X.iconst 296 i232_295 rfl rfl (by decide) ?_
            refine X.iadd 297 i232_296 rfl rfl (by omega) ?_
            refine X.aload_n 298 i232_297 rfl rfl rfl ?_
            refine X.getF 301 i232_298 rfl rfl (by decide) rfl rfl ?_
            refine X.bipush 303 i232_301 rfl rfl (by decide) ?_
            refine X.lald 304 i232_303 rfl rfl (by decide) rfl (by omega) ?_
            refine X.last' 305 i232_304 rfl rfl (by decide) rfl (by omega) (fun hrm626 m626 hm626 => ?_)
            have hJ627 := w45_788 hJ625 hm626 (by omega) hrm626
            refine X.aload_n 306 i232_305 rfl rfl rfl ?_
            refine X.getF 309 i232_306 rfl rfl (by decide) rfl rfl ?_
            refine X.iload 311 i232_309 rfl rfl rfl ?_
            refine X.iconst 312 i232_311 rfl rfl (by decide) ?_
            refine X.iadd 313 i232_312 rfl rfl (by omega) ?_
            refine X.lload_n 314 i232_313 rfl rfl rfl ?_
            refine X.last' 315 i232_314 rfl rfl (by decide) rfl (by omega) (fun hrm628 m628 hm628 => ?_)
            have hJ629 := w45_788 hJ627 hm628 (by omega) hrm628
            refine X.aload_n 316 i232_315 rfl rfl rfl ?_
            refine X.callv 319 [] [] [(0, zr 4 44)] i232_316 rfl (by decide) rfl rfl (by omega) rfl rfl (by decide) rfl t233 (Nat.le_of_ble_eq_true rfl) (Nat.le_of_ble_eq_true rfl) rfl ?_
            refine c233_1 (B := B + 1)   (by omega) (hJ629.up (by omega)) (by omega)  (fun m630 hJ631 => ?_)
            show X (EE s) d 232 319 [(0, zr 4 44), (1, zl a1), (3, zl z606), (5, zi (788 + (6 * (m 4 45 17))))] [] m630 _
            refine X.lload_n 320 i232_319 rfl rfl rfl ?_
            refine X.lconst (y := 0) 321 i232_320 rfl rfl rfl ?_
            refine X.lcmp 322 i232_321 rfl rfl (fun z633 hz633 => ?_)
            refine X.ifne 329 325 i232_322 rfl rfl rfl (fun h634 => ?_) (fun h634 => ?_)
            · have h634c : a1 ≠ 0 := by omega
              clear h634 hz633
              refine X.cut [] i232_329 rfl ?_
              refine X.retv i232_329 rfl t232 ?_
              exact hQ  m630  (hJ631.up (by omega)) 
            · have h634c : a1 = 0 := by omega
              clear h634 hz633
              refine X.aload_n 326 i232_325 rfl rfl rfl ?_
              refine X.callv 329 [] [] [(0, zr 4 44)] i232_326 rfl (by decide) rfl rfl (by omega) rfl rfl (by decide) rfl t236 (Nat.le_of_ble_eq_true rfl) (Nat.le_of_ble_eq_true rfl) rfl ?_
              refine c236_1 (B := B + 1)   (by omega) (hJ631.up (by omega)) (by omega)  (fun m635 hJ636 => ?_)
              show X (EE s) d 232 329 [(0, zr 4 44), (1, zl a1), (3, zl z606), (5, zi (788 + (6 * (m 4 45 17))))] [] m635 _
              refine X.cut [] i232_329 rfl ?_
              refine X.retv i232_329 rfl t232 ?_
              exact hQ  m635  (hJ636.up (by omega)) 
          · have h609c : (m 4 45 17) ≥ 64 := by omega
            clear h609 hz608
            refine X.iconst 110 i232_109 rfl rfl (by decide) ?_
            refine X.istore 112 [(0, zr 4 44), (1, zl a1), (3, zl z606), (5, zi 0)] i232_110 rfl rfl rfl ?_
            refine l232_112_1 (s := s) (S := S) (m0 := m0) (d := d)  a1 z606 (BE := B + 0) (by omega) (by omega) (by omega) (fun  m638 B639 hJ640 hBB639 => ?_) ((4 - 0 : Int).toNat + 1) 0 m (B) (hJ.up (by omega)) (by omega)  (by omega) (by omega)
            refine X.bipush 149 i232_147 rfl rfl (by decide) ?_
            refine X.istore 151 [(0, zr 4 44), (1, zl a1), (3, zl z606), (5, zi 6)] i232_149 rfl rfl rfl ?_
            refine l232_151_1 (s := s) (S := S) (m0 := m0) (d := d)  a1 z606 (BE := B639 + 0) (by omega) (by omega) (by omega) (fun  m641 B642 hJ643 hBB642 => ?_) ((384 - 6 : Int).toNat + 1) 6 m638 (B639) (hJ640.up (by omega)) (by omega)  (by omega) (by omega)
            refine X.sipush 193 i232_190 rfl rfl (by decide) ?_
            refine X.bipush 195 i232_193 rfl rfl (by decide) ?_
            refine X.aload_n 196 i232_195 rfl rfl rfl ?_
            refine X.callv 199 [] [zi 6, zi 788] [(0, zr 4 44)] i232_196 rfl (by decide) rfl rfl (by omega) rfl rfl (by decide) rfl t235 (Nat.le_of_ble_eq_true rfl) (Nat.le_of_ble_eq_true rfl) rfl ?_
            refine X.aload_n 1 i235_0 rfl rfl rfl ?_
            refine X.getF 4 i235_1 rfl rfl (by decide) rfl rfl ?_
            refine X.bipush 6 i235_4 rfl rfl (by decide) ?_
            refine X.lald 7 i235_6 rfl rfl (by decide) rfl (by omega) ?_
            have h644 := r45_17 hJ643 4
            refine X.ldc2 10 i235_7 rfl rfl (by decide) ?_
            refine X.lcmp 11 i235_10 rfl rfl (fun z645 hz645 => ?_)
            refine X.ifge 24 14 i235_11 rfl rfl rfl (fun h646 => ?_) (fun h646 => ?_)
            · have h646c : (m641 4 45 17) ≥ 64 := by omega
              clear h646 hz645
              refine X.cut [] i235_24 rfl ?_
              refine X.ldc2 27 i235_24 rfl rfl (by decide) ?_
              refine X.l2i 28 i235_27 rfl rfl (by omega) ?_
              refine X.reti i235_28 rfl t235 ?_
              show X (EE s) d 232 199 [(0, zr 4 44), (1, zl a1), (3, zl z606)] [zi 64, zi 6, zi 788] m641 _
              refine X.bipush 201 i232_199 rfl rfl (by decide) ?_
              refine X.icmpge 211 204 i232_201 rfl rfl rfl (fun h647 => ?_) (fun h647 => (by exfalso; omega))
              refine X.bipush 213 i232_211 rfl rfl (by decide) ?_
              refine X.imul 214 i232_213 rfl rfl (by omega) ?_
              refine X.iadd 215 i232_214 rfl rfl (by omega) ?_
              refine X.istore 217 [(0, zr 4 44), (1, zl a1), (3, zl z606), (5, zi (788 + (6 * 63)))] i232_215 rfl rfl rfl ?_
              refine X.aload_n 218 i232_217 rfl rfl rfl ?_
              refine X.getF 221 i232_218 rfl rfl (by decide) rfl rfl ?_
              refine X.bipush 223 i232_221 rfl rfl (by decide) ?_
              refine X.dup2 224 i232_223 rfl rfl ?_
              refine X.lald 225 i232_224 rfl rfl (by decide) rfl (by omega) ?_
              refine X.lconst (y := 1) 226 i232_225 rfl rfl rfl ?_
              refine X.ladd 227 i232_226 rfl rfl (by omega) ?_
              refine X.last' 228 i232_227 rfl rfl (by decide) rfl (by omega) (fun hrm648 m648 hm648 => ?_)
              have hJ649 := w45_17 (hJ643.up (B' := B642 + 1) (by omega)) hm648 (by omega)
              refine X.aload_n 229 i232_228 rfl rfl rfl ?_
              refine X.getF 232 i232_229 rfl rfl (by decide) rfl rfl ?_
              refine X.iload 234 i232_232 rfl rfl rfl ?_
              refine X.aload_n 235 i232_234 rfl rfl rfl ?_
              refine X.getF 238 i232_235 rfl rfl (by decide) rfl rfl ?_
              refine X.iconst 239 i232_238 rfl rfl (by decide) ?_
              refine X.lald 240 i232_239 rfl rfl (by decide) rfl (by omega) ?_
              have h650 := r45_0 hJ649 4
              refine X.last' 241 i232_240 rfl rfl (by decide) rfl (by omega) (fun hrm651 m651 hm651 => ?_)
              have hJ652 := w45_788 hJ649 hm651 (by omega) hrm651
              refine X.aload_n 242 i232_241 rfl rfl rfl ?_
              refine X.getF 245 i232_242 rfl rfl (by decide) rfl rfl ?_
              refine X.iload 247 i232_245 rfl rfl rfl ?_
              refine X.iconst 248 i232_247 rfl rfl (by decide) ?_
              refine X.iadd 249 i232_248 rfl rfl (by omega) ?_
              refine X.aload_n 250 i232_249 rfl rfl rfl ?_
              refine X.getF 253 i232_250 rfl rfl (by decide) rfl rfl ?_
              refine X.bipush 255 i232_253 rfl rfl (by decide) ?_
              refine X.lald 256 i232_255 rfl rfl (by decide) rfl (by omega) ?_
              refine X.last' 257 i232_256 rfl rfl (by decide) rfl (by omega) (fun hrm653 m653 hm653 => ?_)
              have hJ654 := w45_788 hJ652 hm653 (by omega) hrm653
              refine X.aload_n 258 i232_257 rfl rfl rfl ?_
              refine X.getF 261 i232_258 rfl rfl (by decide) rfl rfl ?_
              refine X.iload 263 i232_261 rfl rfl rfl ?_
              refine X.iconst 264 i232_263 rfl rfl (by decide) ?_
              refine X.iadd 265 i232_264 rfl rfl (by omega) ?_
              refine X.aload_n 266 i232_265 rfl rfl rfl ?_
              refine X.getF 269 i232_266 rfl rfl (by decide) rfl rfl ?_
              refine X.bipush 271 i232_269 rfl rfl (by decide) ?_
              refine X.lald 272 i232_271 rfl rfl (by decide) rfl (by omega) ?_
              refine X.last' 273 i232_272 rfl rfl (by decide) rfl (by omega) (fun hrm655 m655 hm655 => ?_)
              have hJ656 := w45_788 hJ654 hm655 (by omega) hrm655
              refine X.aload_n 274 i232_273 rfl rfl rfl ?_
              refine X.getF 277 i232_274 rfl rfl (by decide) rfl rfl ?_
              refine X.iload 279 i232_277 rfl rfl rfl ?_
              refine X.iconst 280 i232_279 rfl rfl (by decide) ?_
              refine X.iadd 281 i232_280 rfl rfl (by omega) ?_
              refine X.aload_n 282 i232_281 rfl rfl rfl ?_
              refine X.getF 285 i232_282 rfl rfl (by decide) rfl rfl ?_
              refine X.bipush 287 i232_285 rfl rfl (by decide) ?_
              refine X.lald 288 i232_287 rfl rfl (by decide) rfl (by omega) ?_
              refine X.last' 289 i232_288 rfl rfl (by decide) rfl (by omega) (fun hrm657 m657 hm657 => ?_)
              have hJ658 := w45_788 hJ656 hm657 (by omega) hrm657
              refine X.aload_n 290 i232_289 rfl rfl rfl ?_
              refine X.getF 293 i232_290 rfl rfl (by decide) rfl rfl ?_
              refine X.iload 295 i232_293 rfl rfl rfl ?_
              refine X.iconst 296 i232_295 rfl rfl (by decide) ?_
              refine X.iadd 297 i232_296 rfl rfl (by omega) ?_
              refine X.aload_n 298 i232_297 rfl rfl rfl ?_
              refine X.getF 301 i232_298 rfl rfl (by decide) rfl rfl ?_
              refine X.bipush 303 i232_301 rfl rfl (by decide) ?_
              refine X.lald 304 i232_303 rfl rfl (by decide) rfl (by omega) ?_
              refine X.last' 305 i232_304 rfl rfl (by decide) rfl (by omega) (fun hrm659 m659 hm659 => ?_)
              have hJ660 := w45_788 hJ658 hm659 (by omega) hrm659
              refine X.aload_n 306 i232_305 rfl rfl rfl ?_
              refine X.getF 309 i232_306 rfl rfl (by decide) rfl rfl ?_
              refine X.iload 311 i232_309 rfl rfl rfl ?_
              refine X.iconst 312 i232_311 rfl rfl (by decide) ?_
              refine X.iadd 313 i232_312 rfl rfl (by omega) ?_
              refine X.lload_n 314 i232_313 rfl rfl rfl ?_
              refine X.last' 315 i232_314 rfl rfl (by decide) rfl (by omega) (fun hrm661 m661 hm661 => ?_)
              have hJ662 := w45_788 hJ660 hm661 (by omega) hrm661
              refine X.aload_n 316 i232_315 rfl rfl rfl ?_
              refine X.callv 319 [] [] [(0, zr 4 44)] i232_316 rfl (by decide) rfl rfl (by omega) rfl rfl (by decide) rfl t233 (Nat.le_of_ble_eq_true rfl) (Nat.le_of_ble_eq_true rfl) rfl ?_
              refine c233_1 (B := B642 + 1)   (by omega) (hJ662.up (by omega)) (by omega)  (fun m663 hJ664 => ?_)
              show X (EE s) d 232 319 [(0, zr 4 44), (1, zl a1), (3, zl z606), (5, zi (788 + (6 * 63)))] [] m663 _
              refine X.lload_n 320 i232_319 rfl rfl rfl ?_
              refine X.lconst (y := 0) 321 i232_320 rfl rfl rfl ?_
              refine X.lcmp 322 i232_321 rfl rfl (fun z666 hz666 => ?_)
              refine X.ifne 329 325 i232_322 rfl rfl rfl (fun h667 => ?_) (fun h667 => ?_)
              · have h667c : a1 ≠ 0 := by omega
                clear h667 hz666
                refine X.cut [] i232_329 rfl ?_
                refine X.retv i232_329 rfl t232 ?_
                exact hQ  m663  (hJ664.up (by omega)) 
              · have h667c : a1 = 0 := by omega
                clear h667 hz666
                refine X.aload_n 326 i232_325 rfl rfl rfl ?_
                refine X.callv 329 [] [] [(0, zr 4 44)] i232_326 rfl (by decide) rfl rfl (by omega) rfl rfl (by decide) rfl t236 (Nat.le_of_ble_eq_true rfl) (Nat.le_of_ble_eq_true rfl) rfl ?_
                refine c236_1 (B := B642 + 1)   (by omega) (hJ664.up (by omega)) (by omega)  (fun m668 hJ669 => ?_)
                show X (EE s) d 232 329 [(0, zr 4 44), (1, zl a1), (3, zl z606), (5, zi (788 + (6 * 63)))] [] m668 _
                refine X.cut [] i232_329 rfl ?_
                refine X.retv i232_329 rfl t232 ?_
                exact hQ  m668  (hJ669.up (by omega)) 
            · have h646c : (m641 4 45 17) < 64 := by omega
              clear h646 hz645
              refine X.aload_n 15 i235_14 rfl rfl rfl ?_
              refine X.getF 18 i235_15 rfl rfl (by decide) rfl rfl ?_
              refine X.bipush 20 i235_18 rfl rfl (by decide) ?_
              refine X.lald 21 i235_20 rfl rfl (by decide) rfl (by omega) ?_
              refine X.goto 27 i235_21 rfl rfl ?_
              refine X.cut [] i235_27 rfl ?_
              refine X.l2i 28 i235_27 rfl rfl (by omega) ?_
              refine X.reti i235_28 rfl t235 ?_
              show X (EE s) d 232 199 [(0, zr 4 44), (1, zl a1), (3, zl z606)] [zi (m641 4 45 17), zi 6, zi 788] m641 _
              refine X.bipush 201 i232_199 rfl rfl (by decide) ?_
              refine X.icmpge 211 204 i232_201 rfl rfl rfl (fun h671 => (by exfalso; omega)) (fun h671 => ?_)
              refine X.aload_n 205 i232_204 rfl rfl rfl ?_
              refine X.callv 208 [] [zi 6, zi 788] [(0, zr 4 44)] i232_205 rfl (by decide) rfl rfl (by omega) rfl rfl (by decide) rfl t235 (Nat.le_of_ble_eq_true rfl) (Nat.le_of_ble_eq_true rfl) rfl ?_
              refine X.aload_n 1 i235_0 rfl rfl rfl ?_
              refine X.getF 4 i235_1 rfl rfl (by decide) rfl rfl ?_
              refine X.bipush 6 i235_4 rfl rfl (by decide) ?_
              refine X.lald 7 i235_6 rfl rfl (by decide) rfl (by omega) ?_
              refine X.ldc2 10 i235_7 rfl rfl (by decide) ?_
              refine X.lcmp 11 i235_10 rfl rfl (fun z672 hz672 => ?_)
              refine X.ifge 24 14 i235_11 rfl rfl rfl (fun h673 => (by exfalso; omega)) (fun h673 => ?_)
              have h673c : (m641 4 45 17) < 64 := by omega
              clear h673 hz672
              refine X.aload_n 15 i235_14 rfl rfl rfl ?_
              refine X.getF 18 i235_15 rfl rfl (by decide) rfl rfl ?_
              refine X.bipush 20 i235_18 rfl rfl (by decide) ?_
              refine X.lald 21 i235_20 rfl rfl (by decide) rfl (by omega) ?_
              refine X.goto 27 i235_21 rfl rfl ?_
              refine X.cut [] i235_27 rfl ?_
              refine X.l2i 28 i235_27 rfl rfl (by omega) ?_
              refine X.reti i235_28 rfl t235 ?_
              show X (EE s) d 232 208 [(0, zr 4 44), (1, zl a1), (3, zl z606)] [zi (m641 4 45 17), zi 6, zi 788] m641 _
              refine X.goto 213 i232_208 rfl rfl ?_
              refine X.imul 214 i232_213 rfl rfl (by omega) ?_
              refine X.iadd 215 i232_214 rfl rfl (by omega) ?_
              refine X.istore 217 [(0, zr 4 44), (1, zl a1), (3, zl z606), (5, zi (788 + (6 * (m641 4 45 17))))] i232_215 rfl rfl rfl ?_
              refine X.aload_n 218 i232_217 rfl rfl rfl ?_
              refine X.getF 221 i232_218 rfl rfl (by decide) rfl rfl ?_
              refine X.bipush 223 i232_221 rfl rfl (by decide) ?_
              refine X.dup2 224 i232_223 rfl rfl ?_
              refine X.lald 225 i232_224 rfl rfl (by decide) rfl (by omega) ?_
              refine X.lconst (y := 1) 226 i232_225 rfl rfl rfl ?_
              refine X.ladd 227 i232_226 rfl rfl (by omega) ?_
              refine X.last' 228 i232_227 rfl rfl (by decide) rfl (by omega) (fun hrm674 m674 hm674 => ?_)
              have hJ675 := w45_17 (hJ643.up (B' := B642 + 1) (by omega)) hm674 (by omega)
              refine X.aload_n 229 i232_228 rfl rfl rfl ?_
              refine X.getF 232 i232_229 rfl rfl (by decide) rfl rfl ?_
              refine X.iload 234 i232_232 rfl rfl rfl ?_
              refine X.aload_n 235 i232_234 rfl rfl rfl ?_
              refine X.getF 238 i232_235 rfl rfl (by decide) rfl rfl ?_
              refine X.iconst 239 i232_238 rfl rfl (by decide) ?_
              refine X.lald 240 i232_239 rfl rfl (by decide) rfl (by omega) ?_
              have h676 := r45_0 hJ675 4
              refine X.last' 241 i232_240 rfl rfl (by decide) rfl (by omega) (fun hrm677 m677 hm677 => ?_)
              have hJ678 := w45_788 hJ675 hm677 (by omega) hrm677
              refine X.aload_n 242 i232_241 rfl rfl rfl ?_
              refine X.getF 245 i232_242 rfl rfl (by decide) rfl rfl ?_
              refine X.iload 247 i232_245 rfl rfl rfl ?_
              refine X.iconst 248 i232_247 rfl rfl (by decide) ?_
              refine X.iadd 249 i232_248 rfl rfl (by omega) ?_
              refine X.aload_n 250 i232_249 rfl rfl rfl ?_
              refine X.getF 253 i232_250 rfl rfl (by decide) rfl rfl ?_
              refine X.bipush 255 i232_253 rfl rfl (by decide) ?_
              refine X.lald 256 i232_255 rfl rfl (by decide) rfl (by omega) ?_
              refine X.last' 257 i232_256 rfl rfl (by decide) rfl (by omega) (fun hrm679 m679 hm679 => ?_)
              have hJ680 := w45_788 hJ678 hm679 (by omega) hrm679
              refine X.aload_n 258 i232_257 rfl rfl rfl ?_
              refine X.getF 261 i232_258 rfl rfl (by decide) rfl rfl ?_
              refine X.iload 263 i232_261 rfl rfl rfl ?_
              refine X.iconst 264 i232_263 rfl rfl (by decide) ?_
              refine X.iadd 265 i232_264 rfl rfl (by omega) ?_
              refine X.aload_n 266 i232_265 rfl rfl rfl ?_
              refine X.getF 269 i232_266 rfl rfl (by decide) rfl rfl ?_
              refine X.bipush 271 i232_269 rfl rfl (by decide) ?_
              refine X.lald 272 i232_271 rfl rfl (by decide) rfl (by omega) ?_
              refine X.last' 273 i232_272 rfl rfl (by decide) rfl (by omega) (fun hrm681 m681 hm681 => ?_)
              have hJ682 := w45_788 hJ680 hm681 (by omega) hrm681
              refine X.aload_n 274 i232_273 rfl rfl rfl ?_
              refine X.getF 277 i232_274 rfl rfl (by decide) rfl rfl ?_
              refine X.iload 279 i232_277 rfl rfl rfl ?_
              refine X.iconst 280 i232_279 rfl rfl (by decide) ?_
              refine X.iadd 281 i232_280 rfl rfl (by omega) ?_
              refine X.aload_n 282 i232_281 rfl rfl rfl ?_
              refine X.getF 285 i232_282 rfl rfl (by decide) rfl rfl ?_
              refine X.bipush 287 i232_285 rfl rfl (by decide) ?_
              refine X.lald 288 i232_287 rfl rfl (by decide) rfl (by omega) ?_
              refine X.last' 289 i232_288 rfl rfl (by decide) rfl (by omega) (fun hrm683 m683 hm683 => ?_)
              have hJ684 := w45_788 hJ682 hm683 (by omega) hrm683
              refine X.aload_n 290 i232_289 rfl rfl rfl ?_
              refine X.getF 293 i232_290 rfl rfl (by decide) rfl rfl ?_
              refine X.iload 295 i232_293 rfl rfl rfl ?_
              refine X.iconst 296 i232_295 rfl rfl (by decide) ?_
              refine X.iadd 297 i232_296 rfl rfl (by omega) ?_
              refine X.aload_n 298 i232_297 rfl rfl rfl ?_
              refine X.getF 301 i232_298 rfl rfl (by decide) rfl rfl ?_
              refine X.bipush 303 i232_301 rfl rfl (by decide) ?_
              refine X.lald 304 i232_303 rfl rfl (by decide) rfl (by omega) ?_
              refine X.last' 305 i232_304 rfl rfl (by decide) rfl (by omega) (fun hrm685 m685 hm685 => ?_)
              have hJ686 := w45_788 hJ684 hm685 (by omega) hrm685
              refine X.aload_n 306 i232_305 rfl rfl rfl ?_
              refine X.getF 309 i232_306 rfl rfl (by decide) rfl rfl ?_
              refine X.iload 311 i232_309 rfl rfl rfl ?_
              refine X.iconst 312 i232_311 rfl rfl (by decide) ?_
              refine X.iadd 313 i232_312 rfl rfl (by omega) ?_
              refine X.lload_n 314 i232_313 rfl rfl rfl ?_
              refine X.last' 315 i232_314 rfl rfl (by decide) rfl (by omega) (fun hrm687 m687 hm687 => ?_)
              have hJ688 := w45_788 hJ686 hm687 (by omega) hrm687
              refine X.aload_n 316 i232_315 rfl rfl rfl ?_
              refine X.callv 319 [] [] [(0, zr 4 44)] i232_316 rfl (by decide) rfl rfl (by omega) rfl rfl (by decide) rfl t233 (Nat.le_of_ble_eq_true rfl) (Nat.le_of_ble_eq_true rfl) rfl ?_
              refine c233_1 (B := B642 + 1)   (by omega) (hJ688.up (by omega)) (by omega)  (fun m689 hJ690 => ?_)
              show X (EE s) d 232 319 [(0, zr 4 44), (1, zl a1), (3, zl z606), (5, zi (788 + (6 * (m641 4 45 17))))] [] m689 _
              refine X.lload_n 320 i232_319 rfl rfl rfl ?_
              refine X.lconst (y := 0) 321 i232_320 rfl rfl rfl ?_
              refine X.lcmp 322 i232_321 rfl rfl (fun z692 hz692 => ?_)
              refine X.ifne 329 325 i232_322 rfl rfl rfl (fun h693 => ?_) (fun h693 => ?_)
              · have h693c : a1 ≠ 0 := by omega
                clear h693 hz692
                refine X.cut [] i232_329 rfl ?_
                refine X.retv i232_329 rfl t232 ?_
                exact hQ  m689  (hJ690.up (by omega)) 
              · have h693c : a1 = 0 := by omega
                clear h693 hz692
                refine X.aload_n 326 i232_325 rfl rfl rfl ?_
                refine X.callv 329 [] [] [(0, zr 4 44)] i232_326 rfl (by decide) rfl rfl (by omega) rfl rfl (by decide) rfl t236 (Nat.le_of_ble_eq_true rfl) (Nat.le_of_ble_eq_true rfl) rfl ?_
                refine c236_1 (B := B642 + 1)   (by omega) (hJ690.up (by omega)) (by omega)  (fun m694 hJ695 => ?_)
                show X (EE s) d 232 329 [(0, zr 4 44), (1, zl a1), (3, zl z606), (5, zi (788 + (6 * (m641 4 45 17))))] [] m694 _
                refine X.cut [] i232_329 rfl ?_
                refine X.retv i232_329 rfl t232 ?_
                exact hQ  m694  (hJ695.up (by omega)) 
        · have h605c : z603 ≠ 0 := by omega
          clear h605 hz604
          refine X.sipush 88 i232_85 rfl rfl (by decide) ?_
          refine X.goto 92 i232_88 rfl rfl ?_
          refine X.i2l 93 i232_92 rfl rfl ?_
          refine X.llF 94 .lor (fun x y => x ||| y) i232_93 rfl rfl rfl (fun _ _ => rfl) (fun z697 hz697 => ?_)
          refine X.lstore_n 95 [(0, zr 4 44), (1, zl a1), (3, zl z697)] i232_94 rfl rfl rfl ?_
          refine X.aload_n 96 i232_95 rfl rfl rfl ?_
          refine X.getF 99 i232_96 rfl rfl (by decide) rfl rfl ?_
          refine X.bipush 101 i232_99 rfl rfl (by decide) ?_
          refine X.lald 102 i232_101 rfl rfl (by decide) rfl (by omega) ?_
          have h698 := r45_17 hJ 4
          refine X.ldc2 105 i232_102 rfl rfl (by decide) ?_
          refine X.lcmp 106 i232_105 rfl rfl (fun z699 hz699 => ?_)
          refine X.iflt 190 109 i232_106 rfl rfl rfl (fun h700 => ?_) (fun h700 => ?_)
          · have h700c : (m 4 45 17) < 64 := by omega
            clear h700 hz699
            refine X.sipush 193 i232_190 rfl rfl (by decide) ?_
            refine X.bipush 195 i232_193 rfl rfl (by decide) ?_
            refine X.aload_n 196 i232_195 rfl rfl rfl ?_
            refine X.callv 199 [] [zi 6, zi 788] [(0, zr 4 44)] i232_196 rfl (by decide) rfl rfl (by omega) rfl rfl (by decide) rfl t235 (Nat.le_of_ble_eq_true rfl) (Nat.le_of_ble_eq_true rfl) rfl ?_
            refine X.aload_n 1 i235_0 rfl rfl rfl ?_
            refine X.getF 4 i235_1 rfl rfl (by decide) rfl rfl ?_
            refine X.bipush 6 i235_4 rfl rfl (by decide) ?_
            refine X.lald 7 i235_6 rfl rfl (by decide) rfl (by omega) ?_
            refine X.ldc2 10 i235_7 rfl rfl (by decide) ?_
            refine X.lcmp 11 i235_10 rfl rfl (fun z701 hz701 => ?_)
            refine X.ifge 24 14 i235_11 rfl rfl rfl (fun h702 => (by exfalso; omega)) (fun h702 => ?_)
            have h702c : (m 4 45 17) < 64 := by omega
            clear h702 hz701
            refine X.aload_n 15 i235_14 rfl rfl rfl ?_
            refine X.getF 18 i235_15 rfl rfl (by decide) rfl rfl ?_
            refine X.bipush 20 i235_18 rfl rfl (by decide) ?_
            refine X.lald 21 i235_20 rfl rfl (by decide) rfl (by omega) ?_
            refine X.goto 27 i235_21 rfl rfl ?_
            refine X.cut [] i235_27 rfl ?_
            refine X.l2i 28 i235_27 rfl rfl (by omega) ?_
            refine X.reti i235_28 rfl t235 ?_
            show X (EE s) d 232 199 [(0, zr 4 44), (1, zl a1), (3, zl z697)] [zi (m 4 45 17), zi 6, zi 788] m _
            refine X.bipush 201 i232_199 rfl rfl (by decide) ?_
            refine X.icmpge 211 204 i232_201 rfl rfl rfl (fun h703 => (by exfalso; omega)) (fun h703 => ?_)
            refine X.aload_n 205 i232_204 rfl rfl rfl ?_
            refine X.callv 208 [] [zi 6, zi 788] [(0, zr 4 44)] i232_205 rfl (by decide) rfl rfl (by omega) rfl rfl (by decide) rfl t235 (Nat.le_of_ble_eq_true rfl) (Nat.le_of_ble_eq_true rfl) rfl ?_
            refine X.aload_n 1 i235_0 rfl rfl rfl ?_
            refine X.getF 4 i235_1 rfl rfl (by decide) rfl rfl ?_
            refine X.bipush 6 i235_4 rfl rfl (by decide) ?_
            refine X.lald 7 i235_6 rfl rfl (by decide) rfl (by omega) ?_
            refine X.ldc2 10 i235_7 rfl rfl (by decide) ?_
            refine X.lcmp 11 i235_10 rfl rfl (fun z704 hz704 => ?_)
            refine X.ifge 24 14 i235_11 rfl rfl rfl (fun h705 => (by exfalso; omega)) (fun h705 => ?_)
            have h705c : (m 4 45 17) < 64 := by omega
            clear h705 hz704
            refine X.aload_n 15 i235_14 rfl rfl rfl ?_
            refine X.getF 18 i235_15 rfl rfl (by decide) rfl rfl ?_
            refine X.bipush 20 i235_18 rfl rfl (by decide) ?_
            refine X.lald 21 i235_20 rfl rfl (by decide) rfl (by omega) ?_
            refine X.goto 27 i235_21 rfl rfl ?_
            refine X.cut [] i235_27 rfl ?_
            refine X.l2i 28 i235_27 rfl rfl (by omega) ?_
            refine X.reti i235_28 rfl t235 ?_
            show X (EE s) d 232 208 [(0, zr 4 44), (1, zl a1), (3, zl z697)] [zi (m 4 45 17), zi 6, zi 788] m _
            refine X.goto 213 i232_208 rfl rfl ?_
            refine X.imul 214 i232_213 rfl rfl (by omega) ?_
            refine X.iadd 215 i232_214 rfl rfl (by omega) ?_
            refine X.istore 217 [(0, zr 4 44), (1, zl a1), (3, zl z697), (5, zi (788 + (6 * (m 4 45 17))))] i232_215 rfl rfl rfl ?_
            refine X.aload_n 218 i232_217 rfl rfl rfl ?_
            refine X.getF 221 i232_218 rfl rfl (by decide) rfl rfl ?_
            refine X.bipush 223 i232_221 rfl rfl (by decide) ?_
            refine X.dup2 224 i232_223 rfl rfl ?_
            refine X.lald 225 i232_224 rfl rfl (by decide) rfl (by omega) ?_
            refine X.lconst (y := 1) 226 i232_225 rfl rfl rfl ?_
            refine X.ladd 227 i232_226 rfl rfl (by omega) ?_
            refine X.last' 228 i232_227 rfl rfl (by decide) rfl (by omega) (fun hrm706 m706 hm706 => ?_)
            have hJ707 := w45_17 (hJ.up (B' := B + 1) (by omega)) hm706 (by omega)
            refine X.aload_n 229 i232_228 rfl rfl rfl ?_
            refine X.getF 232 i232_229 rfl rfl (by decide) rfl rfl ?_
            refine X.iload 234 i232_232 rfl rfl rfl ?_
            refine X.aload_n 235 i232_234 rfl rfl rfl ?_
            refine X.getF 238 i232_235 rfl rfl (by decide) rfl rfl ?_
            refine X.iconst 239 i232_238 rfl rfl (by decide) ?_
            refine X.lald 240 i232_239 rfl rfl (by decide) rfl (by omega) ?_
            have h708 := r45_0 hJ707 4
            refine X.last' 241 i232_240 rfl rfl (by decide) rfl (by omega) (fun hrm709 m709 hm709 => ?_)
            have hJ710 := w45_788 hJ707 hm709 (by omega) hrm709
            refine X.aload_n 242 i232_241 rfl rfl rfl ?_
            refine X.getF 245 i232_242 rfl rfl (by decide) rfl rfl ?_
            refine X.iload 247 i232_245 rfl rfl rfl ?_
            refine X.iconst 248 i232_247 rfl rfl (by decide) ?_
            refine X.iadd 249 i232_248 rfl rfl (by omega) ?_
            refine X.aload_n 250 i232_249 rfl rfl rfl ?_
            refine X.getF 253 i232_250 rfl rfl (by decide) rfl rfl ?_
            refine X.bipush 255 i232_253 rfl rfl (by decide) ?_
            refine X.lald 256 i232_255 rfl rfl (by decide) rfl (by omega) ?_
            refine X.last' 257 i232_256 rfl rfl (by decide) rfl (by omega) (fun hrm711 m711 hm711 => ?_)
            have hJ712 := w45_788 hJ710 hm711 (by omega) hrm711
            refine X.aload_n 258 i232_257 rfl rfl rfl ?_
            refine X.getF 261 i232_258 rfl rfl (by decide) rfl rfl ?_
            refine X.iload 263 i232_261 rfl rfl rfl ?_
            refine X.iconst 264 i232_263 rfl rfl (by decide) ?_
            refine X.iadd 265 i232_264 rfl rfl (by omega) ?_
            refine X.aload_n 266 i232_265 rfl rfl rfl ?_
            refine X.getF 269 i232_266 rfl rfl (by decide) rfl rfl ?_
            refine X.bipush 271 i232_269 rfl rfl (by decide) ?_
            refine X.lald 272 i232_271 rfl rfl (by decide) rfl (by omega) ?_
            refine X.last' 273 i232_272 rfl rfl (by decide) rfl (by omega) (fun hrm713 m713 hm713 => ?_)
            have hJ714 := w45_788 hJ712 hm713 (by omega) hrm713
            refine X.aload_n 274 i232_273 rfl rfl rfl ?_
            refine X.getF 277 i232_274 rfl rfl (by decide) rfl rfl ?_
            refine X.iload 279 i232_277 rfl rfl rfl ?_
            refine X.iconst 280 i232_279 rfl rfl (by decide) ?_
            refine X.iadd 281 i232_280 rfl rfl (by omega) ?_
            refine X.aload_n 282 i232_281 rfl rfl rfl ?_
            refine X.getF 285 i232_282 rfl rfl (by decide) rfl rfl ?_
            refine X.bipush 287 i232_285 rfl rfl (by decide) ?_
            refine X.lald 288 i232_287 rfl rfl (by decide) rfl (by omega) ?_
            refine X.last' 289 i232_288 rfl rfl (by decide) rfl (by omega) (fun hrm715 m715 hm715 => ?_)
            have hJ716 := w45_788 hJ714 hm715 (by omega) hrm715
            refine X.aload_n 290 i232_289 rfl rfl rfl ?_
            refine X.getF 293 i232_290 rfl rfl (by decide) rfl rfl ?_
            refine X.iload 295 i232_293 rfl rfl rfl ?_
            refine X.iconst 296 i232_295 rfl rfl (by decide) ?_
            refine X.iadd 297 i232_296 rfl rfl (by omega) ?_
            refine X.aload_n 298 i232_297 rfl rfl rfl ?_
            refine X.getF 301 i232_298 rfl rfl (by decide) rfl rfl ?_
            refine X.bipush 303 i232_301 rfl rfl (by decide) ?_
            refine X.lald 304 i232_303 rfl rfl (by decide) rfl (by omega) ?_
            refine X.last' 305 i232_304 rfl rfl (by decide) rfl (by omega) (fun hrm717 m717 hm717 => ?_)
            have hJ718 := w45_788 hJ716 hm717 (by omega) hrm717
            refine X.aload_n 306 i232_305 rfl rfl rfl ?_
            refine X.getF 309 i232_306 rfl rfl (by decide) rfl rfl ?_
            refine X.iload 311 i232_309 rfl rfl rfl ?_
            refine X.iconst 312 i232_311 rfl rfl (by decide) ?_
            refine X.iadd 313 i232_312 rfl rfl (by omega) ?_
            refine X.lload_n 314 i232_313 rfl rfl rfl ?_
            refine X.last' 315 i232_314 rfl rfl (by decide) rfl (by omega) (fun hrm719 m719 hm719 => ?_)
            have hJ720 := w45_788 hJ718 hm719 (by omega) hrm719
            refine X.aload_n 316 i232_315 rfl rfl rfl ?_
            refine X.callv 319 [] [] [(0, zr 4 44)] i232_316 rfl (by decide) rfl rfl (by omega) rfl rfl (by decide) rfl t233 (Nat.le_of_ble_eq_true rfl) (Nat.le_of_ble_eq_true rfl) rfl ?_
            refine c233_1 (B := B + 1)   (by omega) (hJ720.up (by omega)) (by omega)  (fun m721 hJ722 => ?_)
            show X (EE s) d 232 319 [(0, zr 4 44), (1, zl a1), (3, zl z697), (5, zi (788 + (6 * (m 4 45 17))))] [] m721 _
            refine X.lload_n 320 i232_319 rfl rfl rfl ?_
            refine X.lconst (y := 0) 321 i232_320 rfl rfl rfl ?_
            refine X.lcmp 322 i232_321 rfl rfl (fun z724 hz724 => ?_)
            refine X.ifne 329 325 i232_322 rfl rfl rfl (fun h725 => ?_) (fun h725 => ?_)
            · have h725c : a1 ≠ 0 := by omega
              clear h725 hz724
              refine X.cut [] i232_329 rfl ?_
              refine X.retv i232_329 rfl t232 ?_
              exact hQ  m721  (hJ722.up (by omega)) 
            · have h725c : a1 = 0 := by omega
              clear h725 hz724
              refine X.aload_n 326 i232_325 rfl rfl rfl ?_
              refine X.callv 329 [] [] [(0, zr 4 44)] i232_326 rfl (by decide) rfl rfl (by omega) rfl rfl (by decide) rfl t236 (Nat.le_of_ble_eq_true rfl) (Nat.le_of_ble_eq_true rfl) rfl ?_
              refine c236_1 (B := B + 1)   (by omega) (hJ722.up (by omega)) (by omega)  (fun m726 hJ727 => ?_)
              show X (EE s) d 232 329 [(0, zr 4 44), (1, zl a1), (3, zl z697), (5, zi (788 + (6 * (m 4 45 17))))] [] m726 _
              refine X.cut [] i232_329 rfl ?_
              refine X.retv i232_329 rfl t232 ?_
              exact hQ  m726  (hJ727.up (by omega)) 
          · have h700c : (m 4 45 17) ≥ 64 := by omega
            clear h700 hz699
            refine X.iconst 110 i232_109 rfl rfl (by decide) ?_
            refine X.istore 112 [(0, zr 4 44), (1, zl a1), (3, zl z697), (5, zi 0)] i232_110 rfl rfl rfl ?_
            refine l232_112_1 (s := s) (S := S) (m0 := m0) (d := d)  a1 z697 (BE := B + 0) (by omega) (by omega) (by omega) (fun  m729 B730 hJ731 hBB730 => ?_) ((4 - 0 : Int).toNat + 1) 0 m (B) (hJ.up (by omega)) (by omega)  (by omega) (by omega)
            refine X.bipush 149 i232_147 rfl rfl (by decide) ?_
            refine X.istore 151 [(0, zr 4 44), (1, zl a1), (3, zl z697), (5, zi 6)] i232_149 rfl rfl rfl ?_
            refine l232_151_1 (s := s) (S := S) (m0 := m0) (d := d)  a1 z697 (BE := B730 + 0) (by omega) (by omega) (by omega) (fun  m732 B733 hJ734 hBB733 => ?_) ((384 - 6 : Int).toNat + 1) 6 m729 (B730) (hJ731.up (by omega)) (by omega)  (by omega) (by omega)
            refine X.sipush 193 i232_190 rfl rfl (by decide) ?_
            refine X.bipush 195 i232_193 rfl rfl (by decide) ?_
            refine X.aload_n 196 i232_195 rfl rfl rfl ?_
            refine X.callv 199 [] [zi 6, zi 788] [(0, zr 4 44)] i232_196 rfl (by decide) rfl rfl (by omega) rfl rfl (by decide) rfl t235 (Nat.le_of_ble_eq_true rfl) (Nat.le_of_ble_eq_true rfl) rfl ?_
            refine X.aload_n 1 i235_0 rfl rfl rfl ?_
            refine X.getF 4 i235_1 rfl rfl (by decide) rfl rfl ?_
            refine X.bipush 6 i235_4 rfl rfl (by decide) ?_
            refine X.lald 7 i235_6 rfl rfl (by decide) rfl (by omega) ?_
            have h735 := r45_17 hJ734 4
            refine X.ldc2 10 i235_7 rfl rfl (by decide) ?_
            refine X.lcmp 11 i235_10 rfl rfl (fun z736 hz736 => ?_)
            refine X.ifge 24 14 i235_11 rfl rfl rfl (fun h737 => ?_) (fun h737 => ?_)
            · have h737c : (m732 4 45 17) ≥ 64 := by omega
              clear h737 hz736
              refine X.cut [] i235_24 rfl ?_
              refine X.ldc2 27 i235_24 rfl rfl (by decide) ?_
              refine X.l2i 28 i235_27 rfl rfl (by omega) ?_
              refine X.reti i235_28 rfl t235 ?_
              show X (EE s) d 232 199 [(0, zr 4 44), (1, zl a1), (3, zl z697)] [zi 64, zi 6, zi 788] m732 _
              refine X.bipush 201 i232_199 rfl rfl (by decide) ?_
              refine X.icmpge 211 204 i232_201 rfl rfl rfl (fun h738 => ?_) (fun h738 => (by exfalso; omega))
              refine X.bipush 213 i232_211 rfl rfl (by decide) ?_
              refine X.imul 214 i232_213 rfl rfl (by omega) ?_
              refine X.iadd 215 i232_214 rfl rfl (by omega) ?_
              refine X.istore 217 [(0, zr 4 44), (1, zl a1), (3, zl z697), (5, zi (788 + (6 * 63)))] i232_215 rfl rfl rfl ?_
              refine X.aload_n 218 i232_217 rfl rfl rfl ?_
              refine X.getF 221 i232_218 rfl rfl (by decide) rfl rfl ?_
              refine X.bipush 223 i232_221 rfl rfl (by decide) ?_
              refine X.dup2 224 i232_223 rfl rfl ?_
              refine X.lald 225 i232_224 rfl rfl (by decide) rfl (by omega) ?_
              refine X.lconst (y := 1) 226 i232_225 rfl rfl rfl ?_
              refine X.ladd 227 i232_226 rfl rfl (by omega) ?_
              refine X.last' 228 i232_227 rfl rfl (by decide) rfl (by omega) (fun hrm739 m739 hm739 => ?_)
              have hJ740 := w45_17 (hJ734.up (B' := B733 + 1) (by omega)) hm739 (by omega)
              refine X.aload_n 229 i232_228 rfl rfl rfl ?_
              refine X.getF 232 i232_229 rfl rfl (by decide) rfl rfl ?_
              refine X.iload 234 i232_232 rfl rfl rfl ?_
              refine X.aload_n 235 i232_234 rfl rfl rfl ?_
              refine X.getF 238 i232_235 rfl rfl (by decide) rfl rfl ?_
              refine X.iconst 239 i232_238 rfl rfl (by decide) ?_
              refine X.lald 240 i232_239 rfl rfl (by decide) rfl (by omega) ?_
              have h741 := r45_0 hJ740 4
              refine X.last' 241 i232_240 rfl rfl (by decide) rfl (by omega) (fun hrm742 m742 hm742 => ?_)
              have hJ743 := w45_788 hJ740 hm742 (by omega) hrm742
              refine X.aload_n 242 i232_241 rfl rfl rfl ?_
              refine X.getF 245 i232_242 rfl rfl (by decide) rfl rfl ?_
              refine X.iload 247 i232_245 rfl rfl rfl ?_
              refine X.iconst 248 i232_247 rfl rfl (by decide) ?_
              refine X.iadd 249 i232_248 rfl rfl (by omega) ?_
              refine X.aload_n 250 i232_249 rfl rfl rfl ?_
              refine X.getF 253 i232_250 rfl rfl (by decide) rfl rfl ?_
              refine X.bipush 255 i232_253 rfl rfl (by decide) ?_
              refine X.lald 256 i232_255 rfl rfl (by decide) rfl (by omega) ?_
              refine X.last' 257 i232_256 rfl rfl (by decide) rfl (by omega) (fun hrm744 m744 hm744 => ?_)
              have hJ745 := w45_788 hJ743 hm744 (by omega) hrm744
              refine X.aload_n 258 i232_257 rfl rfl rfl ?_
              refine X.getF 261 i232_258 rfl rfl (by decide) rfl rfl ?_
              refine X.iload 263 i232_261 rfl rfl rfl ?_
              refine X.iconst 264 i232_263 rfl rfl (by decide) ?_
              refine X.iadd 265 i232_264 rfl rfl (by omega) ?_
              refine X.aload_n 266 i232_265 rfl rfl rfl ?_
              refine X.getF 269 i232_266 rfl rfl (by decide) rfl rfl ?_
              refine X.bipush 271 i232_269 rfl rfl (by decide) ?_
              refine X.lald 272 i232_271 rfl rfl (by decide) rfl (by omega) ?_
              refine X.last' 273 i232_272 rfl rfl (by decide) rfl (by omega) (fun hrm746 m746 hm746 => ?_)
              have hJ747 := w45_788 hJ745 hm746 (by omega) hrm746
              refine X.aload_n 274 i232_273 rfl rfl rfl ?_
              refine X.getF 277 i232_274 rfl rfl (by decide) rfl rfl ?_
              refine X.iload 279 i232_277 rfl rfl rfl ?_
              refine X.iconst 280 i232_279 rfl rfl (by decide) ?_
              refine X.iadd 281 i232_280 rfl rfl (by omega) ?_
              refine X.aload_n 282 i232_281 rfl rfl rfl ?_
              refine X.getF 285 i232_282 rfl rfl (by decide) rfl rfl ?_
              refine X.bipush 287 i232_285 rfl rfl (by decide) ?_
              refine X.lald 288 i232_287 rfl rfl (by decide) rfl (by omega) ?_
              refine X.last' 289 i232_288 rfl rfl (by decide) rfl (by omega) (fun hrm748 m748 hm748 => ?_)
              have hJ749 := w45_788 hJ747 hm748 (by omega) hrm748
              refine X.aload_n 290 i232_289 rfl rfl rfl ?_
              refine X.getF 293 i232_290 rfl rfl (by decide) rfl rfl ?_
              refine X.iload 295 i232_293 rfl rfl rfl ?_
              refine X.iconst 296 i232_295 rfl rfl (by decide) ?_
              refine X.iadd 297 i232_296 rfl rfl (by omega) ?_
              refine X.aload_n 298 i232_297 rfl rfl rfl ?_
              refine X.getF 301 i232_298 rfl rfl (by decide) rfl rfl ?_
              refine X.bipush 303 i232_301 rfl rfl (by decide) ?_
              refine X.lald 304 i232_303 rfl rfl (by decide) rfl (by omega) ?_
              refine X.last' 305 i232_304 rfl rfl (by decide) rfl (by omega) (fun hrm750 m750 hm750 => ?_)
              have hJ751 := w45_788 hJ749 hm750 (by omega) hrm750
              refine X.aload_n 306 i232_305 rfl rfl rfl ?_
              refine X.getF 309 i232_306 rfl rfl (by decide) rfl rfl ?_
              refine X.iload 311 i232_309 rfl rfl rfl ?_
              refine X.iconst 312 i232_311 rfl rfl (by decide) ?_
              refine X.iadd 313 i232_312 rfl rfl (by omega) ?_
              refine X.lload_n 314 i232_313 rfl rfl rfl ?_
              refine X.last' 315 i232_314 rfl rfl (by decide) rfl (by omega) (fun hrm752 m752 hm752 => ?_)
              have hJ753 := w45_788 hJ751 hm752 (by omega) hrm752
              refine X.aload_n 316 i232_315 rfl rfl rfl ?_
              refine X.callv 319 [] [] [(0, zr 4 44)] i232_316 rfl (by decide) rfl rfl (by omega) rfl rfl (by decide) rfl t233 (Nat.le_of_ble_eq_true rfl) (Nat.le_of_ble_eq_true rfl) rfl ?_
              refine c233_1 (B := B733 + 1)   (by omega) (hJ753.up (by omega)) (by omega)  (fun m754 hJ755 => ?_)
              show X (EE s) d 232 319 [(0, zr 4 44), (1, zl a1), (3, zl z697), (5, zi (788 + (6 * 63)))] [] m754 _
              refine X.lload_n 320 i232_319 rfl rfl rfl ?_
              refine X.lconst (y := 0) 321 i232_320 rfl rfl rfl ?_
              refine X.lcmp 322 i232_321 rfl rfl (fun z757 hz757 => ?_)
              refine X.ifne 329 325 i232_322 rfl rfl rfl (fun h758 => ?_) (fun h758 => ?_)
              · have h758c : a1 ≠ 0 := by omega
                clear h758 hz757
                refine X.cut [] i232_329 rfl ?_
                refine X.retv i232_329 rfl t232 ?_
                exact hQ  m754  (hJ755.up (by omega)) 
              · have h758c : a1 = 0 := by omega
                clear h758 hz757
                refine X.aload_n 326 i232_325 rfl rfl rfl ?_
                refine X.callv 329 [] [] [(0, zr 4 44)] i232_326 rfl (by decide) rfl rfl (by omega) rfl rfl (by decide) rfl t236 (Nat.le_of_ble_eq_true rfl) (Nat.le_of_ble_eq_true rfl) rfl ?_
                refine c236_1 (B := B733 + 1)   (by omega) (hJ755.up (by omega)) (by omega)  (fun m759 hJ760 => ?_)
                show X (EE s) d 232 329 [(0, zr 4 44), (1, zl a1), (3, zl z697), (5, zi (788 + (6 * 63)))] [] m759 _
                refine X.cut [] i232_329 rfl ?_
                refine X.retv i232_329 rfl t232 ?_
                exact hQ  m759  (hJ760.up (by omega)) 
            · have h737c : (m732 4 45 17) < 64 := by omega
              clear h737 hz736
              refine X.aload_n 15 i235_14 rfl rfl rfl ?_
              refine X.getF 18 i235_15 rfl rfl (by decide) rfl rfl ?_
              refine X.bipush 20 i235_18 rfl rfl (by decide) ?_
              refine X.lald 21 i235_20 rfl rfl (by decide) rfl (by omega) ?_
              refine X.goto 27 i235_21 rfl rfl ?_
              refine X.cut [] i235_27 rfl ?_
              refine X.l2i 28 i235_27 rfl rfl (by omega) ?_
              refine X.reti i235_28 rfl t235 ?_
              show X (EE s) d 232 199 [(0, zr 4 44), (1, zl a1), (3, zl z697)] [zi (m732 4 45 17), zi 6, zi 788] m732 _
              refine X.bipush 201 i232_199 rfl rfl (by decide) ?_
              refine X.icmpge 211 204 i232_201 rfl rfl rfl (fun h762 => (by exfalso; omega)) (fun h762 => ?_)
              refine X.aload_n 205 i232_204 rfl rfl rfl ?_
              refine X.callv 208 [] [zi 6, zi 788] [(0, zr 4 44)] i232_205 rfl (by decide) rfl rfl (by omega) rfl rfl (by decide) rfl t235 (Nat.le_of_ble_eq_true rfl) (Nat.le_of_ble_eq_true rfl) rfl ?_
              refine X.aload_n 1 i235_0 rfl rfl rfl ?_
              refine X.getF 4 i235_1 rfl rfl (by decide) rfl rfl ?_
              refine X.bipush 6 i235_4 rfl rfl (by decide) ?_
              refine X.lald 7 i235_6 rfl rfl (by decide) rfl (by omega) ?_
              refine X.ldc2 10 i235_7 rfl rfl (by decide) ?_
              refine X.lcmp 11 i235_10 rfl rfl (fun z763 hz763 => ?_)
              refine X.ifge 24 14 i235_11 rfl rfl rfl (fun h764 => (by exfalso; omega)) (fun h764 => ?_)
              have h764c : (m732 4 45 17) < 64 := by omega
              clear h764 hz763
              refine X.aload_n 15 i235_14 rfl rfl rfl ?_
              refine X.getF 18 i235_15 rfl rfl (by decide) rfl rfl ?_
              refine X.bipush 20 i235_18 rfl rfl (by decide) ?_
              refine X.lald 21 i235_20 rfl rfl (by decide) rfl (by omega) ?_
              refine X.goto 27 i235_21 rfl rfl ?_
              refine X.cut [] i235_27 rfl ?_
              refine X.l2i 28 i235_27 rfl rfl (by omega) ?_
              refine X.reti i235_28 rfl t235 ?_
              show X (EE s) d 232 208 [(0, zr 4 44), (1, zl a1), (3, zl z697)] [zi (m732 4 45 17), zi 6, zi 788] m732 _
              refine X.goto 213 i232_208 rfl rfl ?_
              refine X.imul 214 i232_213 rfl rfl (by omega) ?_
              refine X.iadd 215 i232_214 rfl rfl (by omega) ?_
              refine X.istore 217 [(0, zr 4 44), (1, zl a1), (3, zl z697), (5, zi (788 + (6 * (m732 4 45 17))))] i232_215 rfl rfl rfl ?_
              refine X.aload_n 218 i232_217 rfl rfl rfl ?_
              refine X.getF 221 i232_218 rfl rfl (by decide) rfl rfl ?_
              refine X.bipush 223 i232_221 rfl rfl (by decide) ?_
              refine X.dup2 224 i232_223 rfl rfl ?_
              refine X.lald 225 i232_224 rfl rfl (by decide) rfl (by omega) ?_
              refine X.lconst (y := 1) 226 i232_225 rfl rfl rfl ?_
              refine X.ladd 227 i232_226 rfl rfl (by omega) ?_
              refine X.last' 228 i232_227 rfl rfl (by decide) rfl (by omega) (fun hrm765 m765 hm765 => ?_)
              have hJ766 := w45_17 (hJ734.up (B' := B733 + 1) (by omega)) hm765 (by omega)
              refine X.aload_n 229 i232_228 rfl rfl rfl ?_
              refine X.getF 232 i232_229 rfl rfl (by decide) rfl rfl ?_
              refine X.iload 234 i232_232 rfl rfl rfl ?_
              refine X.aload_n 235 i232_234 rfl rfl rfl ?_
              refine X.getF 238 i232_235 rfl rfl (by decide) rfl rfl ?_
              refine X.iconst 239 i232_238 rfl rfl (by decide) ?_
              refine X.lald 240 i232_239 rfl rfl (by decide) rfl (by omega) ?_
              have h767 := r45_0 hJ766 4
              refine X.last' 241 i232_240 rfl rfl (by decide) rfl (by omega) (fun hrm768 m768 hm768 => ?_)
              have hJ769 := w45_788 hJ766 hm768 (by omega) hrm768
              refine X.aload_n 242 i232_241 rfl rfl rfl ?_
              refine X.getF 245 i232_242 rfl rfl (by decide) rfl rfl ?_
              refine X.iload 247 i232_245 rfl rfl rfl ?_
              refine X.iconst 248 i232_247 rfl rfl (by decide) ?_
              refine X.iadd 249 i232_248 rfl rfl (by omega) ?_
              refine X.aload_n 250 i232_249 rfl rfl rfl ?_
              refine X.getF 253 i232_250 rfl rfl (by decide) rfl rfl ?_
              refine X.bipush 255 i232_253 rfl rfl (by decide) ?_
              refine X.lald 256 i232_255 rfl rfl (by decide) rfl (by omega) ?_
              refine X.last' 257 i232_256 rfl rfl (by decide) rfl (by omega) (fun hrm770 m770 hm770 => ?_)
              have hJ771 := w45_788 hJ769 hm770 (by omega) hrm770
              refine X.aload_n 258 i232_257 rfl rfl rfl ?_
              refine X.getF 261 i232_258 rfl rfl (by decide) rfl rfl ?_
              refine X.iload 263 i232_261 rfl rfl rfl ?_
              refine X.iconst 264 i232_263 rfl rfl (by decide) ?_
              refine X.iadd 265 i232_264 rfl rfl (by omega) ?_
              refine X.aload_n 266 i232_265 rfl rfl rfl ?_
              refine X.getF 269 i232_266 rfl rfl (by decide) rfl rfl ?_
              refine X.bipush 271 i232_269 rfl rfl (by decide) ?_
              refine X.lald 272 i232_271 rfl rfl (by decide) rfl (by omega) ?_
              refine X.last' 273 i232_272 rfl rfl (by decide) rfl (by omega) (fun hrm772 m772 hm772 => ?_)
              have hJ773 := w45_788 hJ771 hm772 (by omega) hrm772
              refine X.aload_n 274 i232_273 rfl rfl rfl ?_
              refine X.getF 277 i232_274 rfl rfl (by decide) rfl rfl ?_
              refine X.iload 279 i232_277 rfl rfl rfl ?_
              refine X.iconst 280 i232_279 rfl rfl (by decide) ?_
              refine X.iadd 281 i232_280 rfl rfl (by omega) ?_
              refine X.aload_n 282 i232_281 rfl rfl rfl ?_
              refine X.getF 285 i232_282 rfl rfl (by decide) rfl rfl ?_
              refine X.bipush 287 i232_285 rfl rfl (by decide) ?_
              refine X.lald 288 i232_287 rfl rfl (by decide) rfl (by omega) ?_
              refine X.last' 289 i232_288 rfl rfl (by decide) rfl (by omega) (fun hrm774 m774 hm774 => ?_)
              have hJ775 := w45_788 hJ773 hm774 (by omega) hrm774
              refine X.aload_n 290 i232_289 rfl rfl rfl ?_
              refine X.getF 293 i232_290 rfl rfl (by decide) rfl rfl ?_
              refine X.iload 295 i232_293 rfl rfl rfl ?_
              refine X.iconst 296 i232_295 rfl rfl (by decide) ?_
              refine X.iadd 297 i232_296 rfl rfl (by omega) ?_
              refine X.aload_n 298 i232_297 rfl rfl rfl ?_
              refine X.getF 301 i232_298 rfl rfl (by decide) rfl rfl ?_
              refine X.bipush 303 i232_301 rfl rfl (by decide) ?_
              refine X.lald 304 i232_303 rfl rfl (by decide) rfl (by omega) ?_
              refine X.last' 305 i232_304 rfl rfl (by decide) rfl (by omega) (fun hrm776 m776 hm776 => ?_)
              have hJ777 := w45_788 hJ775 hm776 (by omega) hrm776
              refine X.aload_n 306 i232_305 rfl rfl rfl ?_
              refine X.getF 309 i232_306 rfl rfl (by decide) rfl rfl ?_
              refine X.iload 311 i232_309 rfl rfl rfl ?_
              refine X.iconst 312 i232_311 rfl rfl (by decide) ?_
              refine X.iadd 313 i232_312 rfl rfl (by omega) ?_
              refine X.lload_n 314 i232_313 rfl rfl rfl ?_
              refine X.last' 315 i232_314 rfl rfl (by decide) rfl (by omega) (fun hrm778 m778 hm778 => ?_)
              have hJ779 := w45_788 hJ777 hm778 (by omega) hrm778
              refine X.aload_n 316 i232_315 rfl rfl rfl ?_
              refine X.callv 319 [] [] [(0, zr 4 44)] i232_316 rfl (by decide) rfl rfl (by omega) rfl rfl (by decide) rfl t233 (Nat.le_of_ble_eq_true rfl) (Nat.le_of_ble_eq_true rfl) rfl ?_
              refine c233_1 (B := B733 + 1)   (by omega) (hJ779.up (by omega)) (by omega)  (fun m780 hJ781 => ?_)
              show X (EE s) d 232 319 [(0, zr 4 44), (1, zl a1), (3, zl z697), (5, zi (788 + (6 * (m732 4 45 17))))] [] m780 _
              refine X.lload_n 320 i232_319 rfl rfl rfl ?_
              refine X.lconst (y := 0) 321 i232_320 rfl rfl rfl ?_
              refine X.lcmp 322 i232_321 rfl rfl (fun z783 hz783 => ?_)
              refine X.ifne 329 325 i232_322 rfl rfl rfl (fun h784 => ?_) (fun h784 => ?_)
              · have h784c : a1 ≠ 0 := by omega
                clear h784 hz783
                refine X.cut [] i232_329 rfl ?_
                refine X.retv i232_329 rfl t232 ?_
                exact hQ  m780  (hJ781.up (by omega)) 
              · have h784c : a1 = 0 := by omega
                clear h784 hz783
                refine X.aload_n 326 i232_325 rfl rfl rfl ?_
                refine X.callv 329 [] [] [(0, zr 4 44)] i232_326 rfl (by decide) rfl rfl (by omega) rfl rfl (by decide) rfl t236 (Nat.le_of_ble_eq_true rfl) (Nat.le_of_ble_eq_true rfl) rfl ?_
                refine c236_1 (B := B733 + 1)   (by omega) (hJ781.up (by omega)) (by omega)  (fun m785 hJ786 => ?_)
                show X (EE s) d 232 329 [(0, zr 4 44), (1, zl a1), (3, zl z697), (5, zi (788 + (6 * (m732 4 45 17))))] [] m785 _
                refine X.cut [] i232_329 rfl ?_
                refine X.retv i232_329 rfl t232 ?_
                exact hQ  m785  (hJ786.up (by omega)) 
    · have h505c : (m 4 45 26) > 0 := by omega
      clear h505 hz504
      refine X.bipush 46 i232_44 rfl rfl (by decide) ?_
      refine X.goto 50 i232_46 rfl rfl ?_
      refine X.i2l 51 i232_50 rfl rfl ?_
      refine X.llF 52 .lor (fun x y => x ||| y) i232_51 rfl rfl rfl (fun _ _ => rfl) (fun z788 hz788 => ?_)
      refine X.lload_n 53 i232_52 rfl rfl rfl ?_
      refine X.llF 54 .lor (fun x y => x ||| y) i232_53 rfl rfl rfl (fun _ _ => rfl) (fun z789 hz789 => ?_)
      refine X.aload_n 55 i232_54 rfl rfl rfl ?_
      refine X.getF 58 i232_55 rfl rfl (by decide) rfl rfl ?_
      refine X.bipush 60 i232_58 rfl rfl (by decide) ?_
      refine X.lald 61 i232_60 rfl rfl (by decide) rfl (by omega) ?_
      refine X.lconst (y := 1) 62 i232_61 rfl rfl rfl ?_
      refine X.lcmp 63 i232_62 rfl rfl (fun z790 hz790 => ?_)
      refine X.ifeq 85 66 i232_63 rfl rfl rfl (fun h791 => ?_) (fun h791 => ?_)
      · have h791c : (m 4 45 21) = 1 := by omega
        clear h791 hz790
        refine X.sipush 88 i232_85 rfl rfl (by decide) ?_
        refine X.goto 92 i232_88 rfl rfl ?_
        refine X.i2l 93 i232_92 rfl rfl ?_
        refine X.llF 94 .lor (fun x y => x ||| y) i232_93 rfl rfl rfl (fun _ _ => rfl) (fun z792 hz792 => ?_)
        refine X.lstore_n 95 [(0, zr 4 44), (1, zl a1), (3, zl z792)] i232_94 rfl rfl rfl ?_
        refine X.aload_n 96 i232_95 rfl rfl rfl ?_
        refine X.getF 99 i232_96 rfl rfl (by decide) rfl rfl ?_
        refine X.bipush 101 i232_99 rfl rfl (by decide) ?_
        refine X.lald 102 i232_101 rfl rfl (by decide) rfl (by omega) ?_
        have h793 := r45_17 hJ 4
        refine X.ldc2 105 i232_102 rfl rfl (by decide) ?_
        refine X.lcmp 106 i232_105 rfl rfl (fun z794 hz794 => ?_)
        refine X.iflt 190 109 i232_106 rfl rfl rfl (fun h795 => ?_) (fun h795 => ?_)
        · have h795c : (m 4 45 17) < 64 := by omega
          clear h795 hz794
          refine X.sipush 193 i232_190 rfl rfl (by decide) ?_
          refine X.bipush 195 i232_193 rfl rfl (by decide) ?_
          refine X.aload_n 196 i232_195 rfl rfl rfl ?_
          refine X.callv 199 [] [zi 6, zi 788] [(0, zr 4 44)] i232_196 rfl (by decide) rfl rfl (by omega) rfl rfl (by decide) rfl t235 (Nat.le_of_ble_eq_true rfl) (Nat.le_of_ble_eq_true rfl) rfl ?_
          refine X.aload_n 1 i235_0 rfl rfl rfl ?_
          refine X.getF 4 i235_1 rfl rfl (by decide) rfl rfl ?_
          refine X.bipush 6 i235_4 rfl rfl (by decide) ?_
          refine X.lald 7 i235_6 rfl rfl (by decide) rfl (by omega) ?_
          refine X.ldc2 10 i235_7 rfl rfl (by decide) ?_
          refine X.lcmp 11 i235_10 rfl rfl (fun z796 hz796 => ?_)
          refine X.ifge 24 14 i235_11 rfl rfl rfl (fun h797 => (by exfalso; omega)) (fun h797 => ?_)
          have h797c : (m 4 45 17) < 64 := by omega
          clear h797 hz796
          refine X.aload_n 15 i235_14 rfl rfl rfl ?_
          refine X.getF 18 i235_15 rfl rfl (by decide) rfl rfl ?_
          refine X.bipush 20 i235_18 rfl rfl (by decide) ?_
          refine X.lald 21 i235_20 rfl rfl (by decide) rfl (by omega) ?_
          refine X.goto 27 i235_21 rfl rfl ?_
          refine X.cut [] i235_27 rfl ?_
          refine X.l2i 28 i235_27 rfl rfl (by omega) ?_
          refine X.reti i235_28 rfl t235 ?_
          show X (EE s) d 232 199 [(0, zr 4 44), (1, zl a1), (3, zl z792)] [zi (m 4 45 17), zi 6, zi 788] m _
          refine X.bipush 201 i232_199 rfl rfl (by decide) ?_
          refine X.icmpge 211 204 i232_201 rfl rfl rfl (fun h798 => (by exfalso; omega)) (fun h798 => ?_)
          refine X.aload_n 205 i232_204 rfl rfl rfl ?_
          refine X.callv 208 [] [zi 6, zi 788] [(0, zr 4 44)] i232_205 rfl (by decide) rfl rfl (by omega) rfl rfl (by decide) rfl t235 (Nat.le_of_ble_eq_true rfl) (Nat.le_of_ble_eq_true rfl) rfl ?_
          refine X.aload_n 1 i235_0 rfl rfl rfl ?_
          refine X.getF 4 i235_1 rfl rfl (by decide) rfl rfl ?_
          refine X.bipush 6 i235_4 rfl rfl (by decide) ?_
          refine X.lald 7 i235_6 rfl rfl (by decide) rfl (by omega) ?_
          refine X.ldc2 10 i235_7 rfl rfl (by decide) ?_
          refine X.lcmp 11 i235_10 rfl rfl (fun z799 hz799 => ?_)
          refine X.ifge 24 14 i235_11 rfl rfl rfl (fun h800 => (by exfalso; omega)) (fun h800 => ?_)
          have h800c : (m 4 45 17) < 64 := by omega
          clear h800 hz799
          refine X.aload_n 15 i235_14 rfl rfl rfl ?_
          refine X.getF 18 i235_15 rfl rfl (by decide) rfl rfl ?_
          refine X.bipush 20 i235_18 rfl rfl (by decide) ?_
          refine X.lald 21 i235_20 rfl rfl (by decide) rfl (by omega) ?_
          refine X.goto 27 i235_21 rfl rfl ?_
          refine X.cut [] i235_27 rfl ?_
          refine X.l2i 28 i235_27 rfl rfl (by omega) ?_
          refine X.reti i235_28 rfl t235 ?_
          show X (EE s) d 232 208 [(0, zr 4 44), (1, zl a1), (3, zl z792)] [zi (m 4 45 17), zi 6, zi 788] m _
          refine X.goto 213 i232_208 rfl rfl ?_
          refine X.imul 214 i232_213 rfl rfl (by omega) ?_
          refine X.iadd 215 i232_214 rfl rfl (by omega) ?_
          refine X.istore 217 [(0, zr 4 44), (1, zl a1), (3, zl z792), (5, zi (788 + (6 * (m 4 45 17))))] i232_215 rfl rfl rfl ?_
          refine X.aload_n 218 i232_217 rfl rfl rfl ?_
          refine X.getF 221 i232_218 rfl rfl (by decide) rfl rfl ?_
          refine X.bipush 223 i232_221 rfl rfl (by decide) ?_
          refine X.dup2 224 i232_223 rfl rfl ?_
          refine X.lald 225 i232_224 rfl rfl (by decide) rfl (by omega) ?_
          refine X.lconst (y := 1) 226 i232_225 rfl rfl rfl ?_
          refine X.ladd 227 i232_226 rfl rfl (by omega) ?_
          refine X.last' 228 i232_227 rfl rfl (by decide) rfl (by omega) (fun hrm801 m801 hm801 => ?_)
          have hJ802 := w45_17 (hJ.up (B' := B + 1) (by omega)) hm801 (by omega)
          refine X.aload_n 229 i232_228 rfl rfl rfl ?_
          refine X.getF 232 i232_229 rfl rfl (by decide) rfl rfl ?_
          refine X.iload 234 i232_232 rfl rfl rfl ?_
          refine X.aload_n 235 i232_234 rfl rfl rfl ?_
          refine X.getF 238 i232_235 rfl rfl (by decide) rfl rfl ?_
          refine X.iconst 239 i232_238 rfl rfl (by decide) ?_
          refine X.lald 240 i232_239 rfl rfl (by decide) rfl (by omega) ?_
          have h803 := r45_0 hJ802 4
          refine X.last' 241 i232_240 rfl rfl (by decide) rfl (by omega) (fun hrm804 m804 hm804 => ?_)
          have hJ805 := w45_788 hJ802 hm804 (by omega) hrm804
          refine X.aload_n 242 i232_241 rfl rfl rfl ?_
          refine X.getF 245 i232_242 rfl rfl (by decide) rfl rfl ?_
          refine X.iload 247 i232_245 rfl rfl rfl ?_
          refine X.iconst 248 i232_247 rfl rfl (by decide) ?_
          refine X.iadd 249 i232_248 rfl rfl (by omega) ?_
          refine X.aload_n 250 i232_249 rfl rfl rfl ?_
          refine X.getF 253 i232_250 rfl rfl (by decide) rfl rfl ?_
          refine X.bipush 255 i232_253 rfl rfl (by decide) ?_
          refine X.lald 256 i232_255 rfl rfl (by decide) rfl (by omega) ?_
          refine X.last' 257 i232_256 rfl rfl (by decide) rfl (by omega) (fun hrm806 m806 hm806 => ?_)
          have hJ807 := w45_788 hJ805 hm806 (by omega) hrm806
          refine X.aload_n 258 i232_257 rfl rfl rfl ?_
          refine X.getF 261 i232_258 rfl rfl (by decide) rfl rfl ?_
          refine X.iload 263 i232_261 rfl rfl rfl ?_
          refine X.iconst 264 i232_263 rfl rfl (by decide) ?_
          refine X.iadd 265 i232_264 rfl rfl (by omega) ?_
          refine X.aload_n 266 i232_265 rfl rfl rfl ?_
          refine X.getF 269 i232_266 rfl rfl (by decide) rfl rfl ?_
          refine X.bipush 271 i232_269 rfl rfl (by decide) ?_
          refine X.lald 272 i232_271 rfl rfl (by decide) rfl (by omega) ?_
          refine X.last' 273 i232_272 rfl rfl (by decide) rfl (by omega) (fun hrm808 m808 hm808 => ?_)
          have hJ809 := w45_788 hJ807 hm808 (by omega) hrm808
          refine X.aload_n 274 i232_273 rfl rfl rfl ?_
          refine X.getF 277 i232_274 rfl rfl (by decide) rfl rfl ?_
          refine X.iload 279 i232_277 rfl rfl rfl ?_
          refine X.iconst 280 i232_279 rfl rfl (by decide) ?_
          refine X.iadd 281 i232_280 rfl rfl (by omega) ?_
          refine X.aload_n 282 i232_281 rfl rfl rfl ?_
          refine X.getF 285 i232_282 rfl rfl (by decide) rfl rfl ?_
          refine X.bipush 287 i232_285 rfl rfl (by decide) ?_
          refine X.lald 288 i232_287 rfl rfl (by decide) rfl (by omega) ?_
          refine X.last' 289 i232_288 rfl rfl (by decide) rfl (by omega) (fun hrm810 m810 hm810 => ?_)
          have hJ811 := w45_788 hJ809 hm810 (by omega) hrm810
          refine X.aload_n 290 i232_289 rfl rfl rfl ?_
          refine X.getF 293 i232_290 rfl rfl (by decide) rfl rfl ?_
          refine X.iload 295 i232_293 rfl rfl rfl ?_
          refine X.iconst 296 i232_295 rfl rfl (by decide) ?_
          refine X.iadd 297 i232_296 rfl rfl (by omega) ?_
          refine X.aload_n 298 i232_297 rfl rfl rfl ?_
          refine X.getF 301 i232_298 rfl rfl (by decide) rfl rfl ?_
          refine X.bipush 303 i232_301 rfl rfl (by decide) ?_
          refine X.lald 304 i232_303 rfl rfl (by decide) rfl (by omega) ?_
          refine X.last' 305 i232_304 rfl rfl (by decide) rfl (by omega) (fun hrm812 m812 hm812 => ?_)
          have hJ813 := w45_788 hJ811 hm812 (by omega) hrm812
          refine X.aload_n 306 i232_305 rfl rfl rfl ?_
          refine X.getF 309 i232_306 rfl rfl (by decide) rfl rfl ?_
          refine X.iload 311 i232_309 rfl rfl rfl ?_
          refine X.iconst 312 i232_311 rfl rfl (by decide) ?_
          refine X.iadd 313 i232_312 rfl rfl (by omega) ?_
          refine X.lload_n 314 i232_313 rfl rfl rfl ?_
          refine X.last' 315 i232_314 rfl rfl (by decide) rfl (by omega) (fun hrm814 m814 hm814 => ?_)
          have hJ815 := w45_788 hJ813 hm814 (by omega) hrm814
          refine X.aload_n 316 i232_315 rfl rfl rfl ?_
          refine X.callv 319 [] [] [(0, zr 4 44)] i232_316 rfl (by decide) rfl rfl (by omega) rfl rfl (by decide) rfl t233 (Nat.le_of_ble_eq_true rfl) (Nat.le_of_ble_eq_true rfl) rfl ?_
          refine c233_1 (B := B + 1)   (by omega) (hJ815.up (by omega)) (by omega)  (fun m816 hJ817 => ?_)
          show X (EE s) d 232 319 [(0, zr 4 44), (1, zl a1), (3, zl z792), (5, zi (788 + (6 * (m 4 45 17))))] [] m816 _
          refine X.lload_n 320 i232_319 rfl rfl rfl ?_
          refine X.lconst (y := 0) 321 i232_320 rfl rfl rfl ?_
          refine X.lcmp 322 i232_321 rfl rfl (fun z819 hz819 => ?_)
          refine X.ifne 329 325 i232_322 rfl rfl rfl (fun h820 => ?_) (fun h820 => ?_)
          · have h820c : a1 ≠ 0 := by omega
            clear h820 hz819
            refine X.cut [] i232_329 rfl ?_
            refine X.retv i232_329 rfl t232 ?_
            exact hQ  m816  (hJ817.up (by omega)) 
          · have h820c : a1 = 0 := by omega
            clear h820 hz819
            refine X.aload_n 326 i232_325 rfl rfl rfl ?_
            refine X.callv 329 [] [] [(0, zr 4 44)] i232_326 rfl (by decide) rfl rfl (by omega) rfl rfl (by decide) rfl t236 (Nat.le_of_ble_eq_true rfl) (Nat.le_of_ble_eq_true rfl) rfl ?_
            refine c236_1 (B := B + 1)   (by omega) (hJ817.up (by omega)) (by omega)  (fun m821 hJ822 => ?_)
            show X (EE s) d 232 329 [(0, zr 4 44), (1, zl a1), (3, zl z792), (5, zi (788 + (6 * (m 4 45 17))))] [] m821 _
            refine X.cut [] i232_329 rfl ?_
            refine X.retv i232_329 rfl t232 ?_
            exact hQ  m821  (hJ822.up (by omega)) 
        · have h795c : (m 4 45 17) ≥ 64 := by omega
          clear h795 hz794
          refine X.iconst 110 i232_109 rfl rfl (by decide) ?_
          refine X.istore 112 [(0, zr 4 44), (1, zl a1), (3, zl z792), (5, zi 0)] i232_110 rfl rfl rfl ?_
          refine l232_112_1 (s := s) (S := S) (m0 := m0) (d := d)  a1 z792 (BE := B + 0) (by omega) (by omega) (by omega) (fun  m824 B825 hJ826 hBB825 => ?_) ((4 - 0 : Int).toNat + 1) 0 m (B) (hJ.up (by omega)) (by omega)  (by omega) (by omega)
          refine X.bipush 149 i232_147 rfl rfl (by decide) ?_
          refine X.istore 151 [(0, zr 4 44), (1, zl a1), (3, zl z792), (5, zi 6)] i232_149 rfl rfl rfl ?_
          refine l232_151_1 (s := s) (S := S) (m0 := m0) (d := d)  a1 z792 (BE := B825 + 0) (by omega) (by omega) (by omega) (fun  m827 B828 hJ829 hBB828 => ?_) ((384 - 6 : Int).toNat + 1) 6 m824 (B825) (hJ826.up (by omega)) (by omega)  (by omega) (by omega)
          refine X.sipush 193 i232_190 rfl rfl (by decide) ?_
          refine X.bipush 195 i232_193 rfl rfl (by decide) ?_
          refine X.aload_n 196 i232_195 rfl rfl rfl ?_
          refine X.callv 199 [] [zi 6, zi 788] [(0, zr 4 44)] i232_196 rfl (by decide) rfl rfl (by omega) rfl rfl (by decide) rfl t235 (Nat.le_of_ble_eq_true rfl) (Nat.le_of_ble_eq_true rfl) rfl ?_
          refine X.aload_n 1 i235_0 rfl rfl rfl ?_
          refine X.getF 4 i235_1 rfl rfl (by decide) rfl rfl ?_
          refine X.bipush 6 i235_4 rfl rfl (by decide) ?_
          refine X.lald 7 i235_6 rfl rfl (by decide) rfl (by omega) ?_
          have h830 := r45_17 hJ829 4
          refine X.ldc2 10 i235_7 rfl rfl (by decide) ?_
          refine X.lcmp 11 i235_10 rfl rfl (fun z831 hz831 => ?_)
          refine X.ifge 24 14 i235_11 rfl rfl rfl (fun h832 => ?_) (fun h832 => ?_)
          · have h832c : (m827 4 45 17) ≥ 64 := by omega
            clear h832 hz831
            refine X.cut [] i235_24 rfl ?_
            refine X.ldc2 27 i235_24 rfl rfl (by decide) ?_
            refine X.l2i 28 i235_27 rfl rfl (by omega) ?_
            refine X.reti i235_28 rfl t235 ?_
            show X (EE s) d 232 199 [(0, zr 4 44), (1, zl a1), (3, zl z792)] [zi 64, zi 6, zi 788] m827 _
            refine X.bipush 201 i232_199 rfl rfl (by decide) ?_
            refine X.icmpge 211 204 i232_201 rfl rfl rfl (fun h833 => ?_) (fun h833 => (by exfalso; omega))
            refine X.bipush 213 i232_211 rfl rfl (by decide) ?_
            refine X.imul 214 i232_213 rfl rfl (by omega) ?_
            refine X.iadd 215 i232_214 rfl rfl (by omega) ?_
            refine X.istore 217 [(0, zr 4 44), (1, zl a1), (3, zl z792), (5, zi (788 + (6 * 63)))] i232_215 rfl rfl rfl ?_
            refine X.aload_n 218 i232_217 rfl rfl rfl ?_
            refine X.getF 221 i232_218 rfl rfl (by decide) rfl rfl ?_
            refine X.bipush 223 i232_221 rfl rfl (by decide) ?_
            refine X.dup2 224 i232_223 rfl rfl ?_
            refine X.lald 225 i232_224 rfl rfl (by decide) rfl (by omega) ?_
            refine X.lconst (y := 1) 226 i232_225 rfl rfl rfl ?_
            refine X.ladd 227 i232_226 rfl rfl (by omega) ?_
            refine X.last' 228 i232_227 rfl rfl (by decide) rfl (by omega) (fun hrm834 m834 hm834 => ?_)
            have hJ835 := w45_17 (hJ829.up (B' := B828 + 1) (by omega)) hm834 (by omega)
            refine X.aload_n 229 i232_228 rfl rfl rfl ?_
            refine X.getF 232 i232_229 rfl rfl (by decide) rfl rfl ?_
            refine X.iload 234 i232_232 rfl rfl rfl ?_
            refine X.aload_n 235 i232_234 rfl rfl rfl ?_
            refine X.getF 238 i232_235 rfl rfl (by decide) rfl rfl ?_
            refine X.iconst 239 i232_238 rfl rfl (by decide) ?_
            refine X.lald 240 i232_239 rfl rfl (by decide) rfl (by omega) ?_
            have h836 := r45_0 hJ835 4
            refine X.last' 241 i232_240 rfl rfl (by decide) rfl (by omega) (fun hrm837 m837 hm837 => ?_)
            have hJ838 := w45_788 hJ835 hm837 (by omega) hrm837
            refine X.aload_n 242 i232_241 rfl rfl rfl ?_
            refine X.getF 245 i232_242 rfl rfl (by decide) rfl rfl ?_
            refine X.iload 247 i232_245 rfl rfl rfl ?_
            refine X.iconst 248 i232_247 rfl rfl (by decide) ?_
            refine X.iadd 249 i232_248 rfl rfl (by omega) ?_
            refine X.aload_n 250 i232_249 rfl rfl rfl ?_
            refine X.getF 253 i232_250 rfl rfl (by decide) rfl rfl ?_
            refine X.bipush 255 i232_253 rfl rfl (by decide) ?_
            refine X.lald 256 i232_255 rfl rfl (by decide) rfl (by omega) ?_
            refine X.last' 257 i232_256 rfl rfl (by decide) rfl (by omega) (fun hrm839 m839 hm839 => ?_)
            have hJ840 := w45_788 hJ838 hm839 (by omega) hrm839
            refine X.aload_n 258 i232_257 rfl rfl rfl ?_
            refine X.getF 261 i232_258 rfl rfl (by decide) rfl rfl ?_
            refine X.iload 263 i232_261 rfl rfl rfl ?_
            refine X.iconst 264 i232_263 rfl rfl (by decide) ?_
            refine X.iadd 265 i232_264 rfl rfl (by omega) ?_
            refine X.aload_n 266 i232_265 rfl rfl rfl ?_
            refine X.getF 269 i232_266 rfl rfl (by decide) rfl rfl ?_
            refine X.bipush 271 i232_269 rfl rfl (by decide) ?_
            refine X.lald 272 i232_271 rfl rfl (by decide) rfl (by omega) ?_
            refine X.last' 273 i232_272 rfl rfl (by decide) rfl (by omega) (fun hrm841 m841 hm841 => ?_)
            have hJ842 := w45_788 hJ840 hm841 (by omega) hrm841
            refine X.aload_n 274 i232_273 rfl rfl rfl ?_
            refine X.getF 277 i232_274 rfl rfl (by decide) rfl rfl ?_
            refine X.iload 279 i232_277 rfl rfl rfl ?_
            refine X.iconst 280 i232_279 rfl rfl (by decide) ?_
            refine X.iadd 281 i232_280 rfl rfl (by omega) ?_
            refine X.aload_n 282 i232_281 rfl rfl rfl ?_
            refine X.getF 285 i232_282 rfl rfl (by decide) rfl rfl ?_
            refine X.bipush 287 i232_285 rfl rfl (by decide) ?_
            refine X.lald 288 i232_287 rfl rfl (by decide) rfl (by omega) ?_
            refine X.last' 289 i232_288 rfl rfl (by decide) rfl (by omega) (fun hrm843 m843 hm843 => ?_)
            have hJ844 := w45_788 hJ842 hm843 (by omega) hrm843
            refine X.aload_n 290 i232_289 rfl rfl rfl ?_
            refine X.getF 293 i232_290 rfl rfl (by decide) rfl rfl ?_
            refine X.iload 295 i232_293 rfl rfl rfl ?_
            refine X.iconst 296 i232_295 rfl rfl (by decide) ?_
            refine X.iadd 297 i232_296 rfl rfl (by omega) ?_
            refine X.aload_n 298 i232_297 rfl rfl rfl ?_
            refine X.getF 301 i232_298 rfl rfl (by decide) rfl rfl ?_
            refine X.bipush 303 i232_301 rfl rfl (by decide) ?_
            refine X.lald 304 i232_303 rfl rfl (by decide) rfl (by omega) ?_
            refine X.last' 305 i232_304 rfl rfl (by decide) rfl (by omega) (fun hrm845 m845 hm845 => ?_)
            have hJ846 := w45_788 hJ844 hm845 (by omega) hrm845
            refine X.aload_n 306 i232_305 rfl rfl rfl ?_
            refine X.getF 309 i232_306 rfl rfl (by decide) rfl rfl ?_
            refine X.iload 311 i232_309 rfl rfl rfl ?_
            refine X.iconst 312 i232_311 rfl rfl (by decide) ?_
            refine X.iadd 313 i232_312 rfl rfl (by omega) ?_
            refine X.lload_n 314 i232_313 rfl rfl rfl ?_
            refine X.last' 315 i232_314 rfl rfl (by decide) rfl (by omega) (fun hrm847 m847 hm847 => ?_)
            have hJ848 := w45_788 hJ846 hm847 (by omega) hrm847
            refine X.aload_n 316 i232_315 rfl rfl rfl ?_
            refine X.callv 319 [] [] [(0, zr 4 44)] i232_316 rfl (by decide) rfl rfl (by omega) rfl rfl (by decide) rfl t233 (Nat.le_of_ble_eq_true rfl) (Nat.le_of_ble_eq_true rfl) rfl ?_
            refine c233_1 (B := B828 + 1)   (by omega) (hJ848.up (by omega)) (by omega)  (fun m849 hJ850 => ?_)
            show X (EE s) d 232 319 [(0, zr 4 44), (1, zl a1), (3, zl z792), (5, zi (788 + (6 * 63)))] [] m849 _
            refine X.lload_n 320 i232_319 rfl rfl rfl ?_
            refine X.lconst (y := 0) 321 i232_320 rfl rfl rfl ?_
            refine X.lcmp 322 i232_321 rfl rfl (fun z852 hz852 => ?_)
            refine X.ifne 329 325 i232_322 rfl rfl rfl (fun h853 => ?_) (fun h853 => ?_)
            · have h853c : a1 ≠ 0 := by omega
              clear h853 hz852
              refine X.cut [] i232_329 rfl ?_
              refine X.retv i232_329 rfl t232 ?_
              exact hQ  m849  (hJ850.up (by omega)) 
            · have h853c : a1 = 0 := by omega
              clear h853 hz852
              refine X.aload_n 326 i232_325 rfl rfl rfl ?_
              refine X.callv 329 [] [] [(0, zr 4 44)] i232_326 rfl (by decide) rfl rfl (by omega) rfl rfl (by decide) rfl t236 (Nat.le_of_ble_eq_true rfl) (Nat.le_of_ble_eq_true rfl) rfl ?_
              refine c236_1 (B := B828 + 1)   (by omega) (hJ850.up (by omega)) (by omega)  (fun m854 hJ855 => ?_)
              show X (EE s) d 232 329 [(0, zr 4 44), (1, zl a1), (3, zl z792), (5, zi (788 + (6 * 63)))] [] m854 _
              refine X.cut [] i232_329 rfl ?_
              refine X.retv i232_329 rfl t232 ?_
              exact hQ  m854  (hJ855.up (by omega)) 
          · have h832c : (m827 4 45 17) < 64 := by omega
            clear h832 hz831
            refine X.aload_n 15 i235_14 rfl rfl rfl ?_
            refine X.getF 18 i235_15 rfl rfl (by decide) rfl rfl ?_
            refine X.bipush 20 i235_18 rfl rfl (by decide) ?_
            refine X.lald 21 i235_20 rfl rfl (by decide) rfl (by omega) ?_
            refine X.goto 27 i235_21 rfl rfl ?_
            refine X.cut [] i235_27 rfl ?_
            refine X.l2i 28 i235_27 rfl rfl (by omega) ?_
            refine X.reti i235_28 rfl t235 ?_
            show X (EE s) d 232 199 [(0, zr 4 44), (1, zl a1), (3, zl z792)] [zi (m827 4 45 17), zi 6, zi 788] m827 _
            refine X.bipush 201 i232_199 rfl rfl (by decide) ?_
            refine X.icmpge 211 204 i232_201 rfl rfl rfl (fun h857 => (by exfalso; omega)) (fun h857 => ?_)
            refine X.aload_n 205 i232_204 rfl rfl rfl ?_
            refine X.callv 208 [] [zi 6, zi 788] [(0, zr 4 44)] i232_205 rfl (by decide) rfl rfl (by omega) rfl rfl (by decide) rfl t235 (Nat.le_of_ble_eq_true rfl) (Nat.le_of_ble_eq_true rfl) rfl ?_
            refine X.aload_n 1 i235_0 rfl rfl rfl ?_
            refine X.getF 4 i235_1 rfl rfl (by decide) rfl rfl ?_
            refine X.bipush 6 i235_4 rfl rfl (by decide) ?_
            refine X.lald 7 i235_6 rfl rfl (by decide) rfl (by omega) ?_
            refine X.ldc2 10 i235_7 rfl rfl (by decide) ?_
            refine X.lcmp 11 i235_10 rfl rfl (fun z858 hz858 => ?_)
            refine X.ifge 24 14 i235_11 rfl rfl rfl (fun h859 => (by exfalso; omega)) (fun h859 => ?_)
            have h859c : (m827 4 45 17) < 64 := by omega
            clear h859 hz858
            refine X.aload_n 15 i235_14 rfl rfl rfl ?_
            refine X.getF 18 i235_15 rfl rfl (by decide) rfl rfl ?_
            refine X.bipush 20 i235_18 rfl rfl (by decide) ?_
            refine X.lald 21 i235_20 rfl rfl (by decide) rfl (by omega) ?_
            refine X.goto 27 i235_21 rfl rfl ?_
            refine X.cut [] i235_27 rfl ?_
            refine X.l2i 28 i235_27 rfl rfl (by omega) ?_
            refine X.reti i235_28 rfl t235 ?_
            show X (EE s) d 232 208 [(0, zr 4 44), (1, zl a1), (3, zl z792)] [zi (m827 4 45 17), zi 6, zi 788] m827 _
            refine X.goto 213 i232_208 rfl rfl ?_
            refine X.imul 214 i232_213 rfl rfl (by omega) ?_
            refine X.iadd 215 i232_214 rfl rfl (by omega) ?_
            refine X.istore 217 [(0, zr 4 44), (1, zl a1), (3, zl z792), (5, zi (788 + (6 * (m827 4 45 17))))] i232_215 rfl rfl rfl ?_
            refine X.aload_n 218 i232_217 rfl rfl rfl ?_
            refine X.getF 221 i232_218 rfl rfl (by decide) rfl rfl ?_
            refine X.bipush 223 i232_221 rfl rfl (by decide) ?_
            refine X.dup2 224 i232_223 rfl rfl ?_
            refine X.lald 225 i232_224 rfl rfl (by decide) rfl (by omega) ?_
            refine X.lconst (y := 1) 226 i232_225 rfl rfl rfl ?_
            refine X.ladd 227 i232_226 rfl rfl (by omega) ?_
            refine X.last' 228 i232_227 rfl rfl (by decide) rfl (by omega) (fun hrm860 m860 hm860 => ?_)
            have hJ861 := w45_17 (hJ829.up (B' := B828 + 1) (by omega)) hm860 (by omega)
            refine X.aload_n 229 i232_228 rfl rfl rfl ?_
            refine X.getF 232 i232_229 rfl rfl (by decide) rfl rfl ?_
            refine X.iload 234 i232_232 rfl rfl rfl ?_
            refine X.aload_n 235 i232_234 rfl rfl rfl ?_
            refine X.getF 238 i232_235 rfl rfl (by decide) rfl rfl ?_
            refine X.iconst 239 i232_238 rfl rfl (by decide) ?_
            refine X.lald 240 i232_239 rfl rfl (by decide) rfl (by omega) ?_
            have h862 := r45_0 hJ861 4
            refine X.last' 241 i232_240 rfl rfl (by decide) rfl (by omega) (fun hrm863 m863 hm863 => ?_)
            have hJ864 := w45_788 hJ861 hm863 (by omega) hrm863
            refine X.aload_n 242 i232_241 rfl rfl rfl ?_
            refine X.getF 245 i232_242 rfl rfl (by decide) rfl rfl ?_
            refine X.iload 247 i232_245 rfl rfl rfl ?_
            refine X.iconst 248 i232_247 rfl rfl (by decide) ?_
            refine X.iadd 249 i232_248 rfl rfl (by omega) ?_
            refine X.aload_n 250 i232_249 rfl rfl rfl ?_
            refine X.getF 253 i232_250 rfl rfl (by decide) rfl rfl ?_
            refine X.bipush 255 i232_253 rfl rfl (by decide) ?_
            refine X.lald 256 i232_255 rfl rfl (by decide) rfl (by omega) ?_
            refine X.last' 257 i232_256 rfl rfl (by decide) rfl (by omega) (fun hrm865 m865 hm865 => ?_)
            have hJ866 := w45_788 hJ864 hm865 (by omega) hrm865
            refine X.aload_n 258 i232_257 rfl rfl rfl ?_
            refine X.getF 261 i232_258 rfl rfl (by decide) rfl rfl ?_
            refine X.iload 263 i232_261 rfl rfl rfl ?_
            refine X.iconst 264 i232_263 rfl rfl (by decide) ?_
            refine X.iadd 265 i232_264 rfl rfl (by omega) ?_
            refine X.aload_n 266 i232_265 rfl rfl rfl ?_
            refine X.getF 269 i232_266 rfl rfl (by decide) rfl rfl ?_
            refine X.bipush 271 i232_269 rfl rfl (by decide) ?_
            refine X.lald 272 i232_271 rfl rfl (by decide) rfl (by omega) ?_
            refine X.last' 273 i232_272 rfl rfl (by decide) rfl (by omega) (fun hrm867 m867 hm867 => ?_)
            have hJ868 := w45_788 hJ866 hm867 (by omega) hrm867
            refine X.aload_n 274 i232_273 rfl rfl rfl ?_
            refine X.getF 277 i232_274 rfl rfl (by decide) rfl rfl ?_
            refine X.iload 279 i232_277 rfl rfl rfl ?_
            refine X.iconst 280 i232_279 rfl rfl (by decide) ?_
            refine X.iadd 281 i232_280 rfl rfl (by omega) ?_
            refine X.aload_n 282 i232_281 rfl rfl rfl ?_
            refine X.getF 285 i232_282 rfl rfl (by decide) rfl rfl ?_
            refine X.bipush 287 i232_285 rfl rfl (by decide) ?_
            refine X.lald 288 i232_287 rfl rfl (by decide) rfl (by omega) ?_
            refine X.last' 289 i232_288 rfl rfl (by decide) rfl (by omega) (fun hrm869 m869 hm869 => ?_)
            have hJ870 := w45_788 hJ868 hm869 (by omega) hrm869
            refine X.aload_n 290 i232_289 rfl rfl rfl ?_
            refine X.getF 293 i232_290 rfl rfl (by decide) rfl rfl ?_
            refine X.iload 295 i232_293 rfl rfl rfl ?_
            refine X.iconst 296 i232_295 rfl rfl (by decide) ?_
            refine X.iadd 297 i232_296 rfl rfl (by omega) ?_
            refine X.aload_n 298 i232_297 rfl rfl rfl ?_
            refine X.getF 301 i232_298 rfl rfl (by decide) rfl rfl ?_
            refine X.bipush 303 i232_301 rfl rfl (by decide) ?_
            refine X.lald 304 i232_303 rfl rfl (by decide) rfl (by omega) ?_
            refine X.last' 305 i232_304 rfl rfl (by decide) rfl (by omega) (fun hrm871 m871 hm871 => ?_)
            have hJ872 := w45_788 hJ870 hm871 (by omega) hrm871
            refine X.aload_n 306 i232_305 rfl rfl rfl ?_
            refine X.getF 309 i232_306 rfl rfl (by decide) rfl rfl ?_
            refine X.iload 311 i232_309 rfl rfl rfl ?_
            refine X.iconst 312 i232_311 rfl rfl (by decide) ?_
            refine X.iadd 313 i232_312 rfl rfl (by omega) ?_
            refine X.lload_n 314 i232_313 rfl rfl rfl ?_
            refine X.last' 315 i232_314 rfl rfl (by decide) rfl (by omega) (fun hrm873 m873 hm873 => ?_)
            have hJ874 := w45_788 hJ872 hm873 (by omega) hrm873
            refine X.aload_n 316 i232_315 rfl rfl rfl ?_
            refine X.callv 319 [] [] [(0, zr 4 44)] i232_316 rfl (by decide) rfl rfl (by omega) rfl rfl (by decide) rfl t233 (Nat.le_of_ble_eq_true rfl) (Nat.le_of_ble_eq_true rfl) rfl ?_
            refine c233_1 (B := B828 + 1)   (by omega) (hJ874.up (by omega)) (by omega)  (fun m875 hJ876 => ?_)
            show X (EE s) d 232 319 [(0, zr 4 44), (1, zl a1), (3, zl z792), (5, zi (788 + (6 * (m827 4 45 17))))] [] m875 _
            refine X.lload_n 320 i232_319 rfl rfl rfl ?_
            refine X.lconst (y := 0) 321 i232_320 rfl rfl rfl ?_
            refine X.lcmp 322 i232_321 rfl rfl (fun z878 hz878 => ?_)
            refine X.ifne 329 325 i232_322 rfl rfl rfl (fun h879 => ?_) (fun h879 => ?_)
            · have h879c : a1 ≠ 0 := by omega
              clear h879 hz878
              refine X.cut [] i232_329 rfl ?_
              refine X.retv i232_329 rfl t232 ?_
              exact hQ  m875  (hJ876.up (by omega)) 
            · have h879c : a1 = 0 := by omega
              clear h879 hz878
              refine X.aload_n 326 i232_325 rfl rfl rfl ?_
              refine X.callv 329 [] [] [(0, zr 4 44)] i232_326 rfl (by decide) rfl rfl (by omega) rfl rfl (by decide) rfl t236 (Nat.le_of_ble_eq_true rfl) (Nat.le_of_ble_eq_true rfl) rfl ?_
              refine c236_1 (B := B828 + 1)   (by omega) (hJ876.up (by omega)) (by omega)  (fun m880 hJ881 => ?_)
              show X (EE s) d 232 329 [(0, zr 4 44), (1, zl a1), (3, zl z792), (5, zi (788 + (6 * (m827 4 45 17))))] [] m880 _
              refine X.cut [] i232_329 rfl ?_
              refine X.retv i232_329 rfl t232 ?_
              exact hQ  m880  (hJ881.up (by omega)) 
      · have h791c : (m 4 45 21) ≠ 1 := by omega
        clear h791 hz790
        refine X.aload_n 67 i232_66 rfl rfl rfl ?_
        refine X.getF 70 i232_67 rfl rfl (by decide) rfl rfl ?_
        refine X.iconst 71 i232_70 rfl rfl (by decide) ?_
        refine X.lald 72 i232_71 rfl rfl (by decide) rfl (by omega) ?_
        have h883 := r45_0 hJ 4
        refine X.aload_n 73 i232_72 rfl rfl rfl ?_
        refine X.getF 76 i232_73 rfl rfl (by decide) rfl rfl ?_
        refine X.bipush 78 i232_76 rfl rfl (by decide) ?_
        refine X.lald 79 i232_78 rfl rfl (by decide) rfl (by omega) ?_
        have h884 := r45_8 hJ 4
        refine X.lremp 80 i232_79 rfl rfl (by omega) ?_
        have hz885 := z_modb (x := (m 4 45 0)) (y := (m 4 45 8)) (by omega) (by omega)
        obtain ⟨z885, ez885⟩ : ∃ z, z = ((m 4 45 0) % (m 4 45 8)) := ⟨_, rfl⟩
        rw [← ez885] at hz885 ⊢
        clear ez885
        refine X.lconst (y := 0) 81 i232_80 rfl rfl rfl ?_
        refine X.lcmp 82 i232_81 rfl rfl (fun z886 hz886 => ?_)
        refine X.ifeq 91 85 i232_82 rfl rfl rfl (fun h887 => ?_) (fun h887 => ?_)
        · have h887c : z885 = 0 := by omega
          clear h887 hz886
          refine X.iconst 92 i232_91 rfl rfl (by decide) ?_
          refine X.i2l 93 i232_92 rfl rfl ?_
          refine X.llF 94 .lor (fun x y => x ||| y) i232_93 rfl rfl rfl (fun _ _ => rfl) (fun z888 hz888 => ?_)
          refine X.lstore_n 95 [(0, zr 4 44), (1, zl a1), (3, zl z888)] i232_94 rfl rfl rfl ?_
          refine X.aload_n 96 i232_95 rfl rfl rfl ?_
          refine X.getF 99 i232_96 rfl rfl (by decide) rfl rfl ?_
          refine X.bipush 101 i232_99 rfl rfl (by decide) ?_
          refine X.lald 102 i232_101 rfl rfl (by decide) rfl (by omega) ?_
          have h889 := r45_17 hJ 4
          refine X.ldc2 105 i232_102 rfl rfl (by decide) ?_
          refine X.lcmp 106 i232_105 rfl rfl (fun z890 hz890 => ?_)
          refine X.iflt 190 109 i232_106 rfl rfl rfl (fun h891 => ?_) (fun h891 => ?_)
          · have h891c : (m 4 45 17) < 64 := by omega
            clear h891 hz890
            refine X.sipush 193 i232_190 rfl rfl (by decide) ?_
            refine X.bipush 195 i232_193 rfl rfl (by decide) ?_
            refine X.aload_n 196 i232_195 rfl rfl rfl ?_
            refine X.callv 199 [] [zi 6, zi 788] [(0, zr 4 44)] i232_196 rfl (by decide) rfl rfl (by omega) rfl rfl (by decide) rfl t235 (Nat.le_of_ble_eq_true rfl) (Nat.le_of_ble_eq_true rfl) rfl ?_
            refine X.aload_n 1 i235_0 rfl rfl rfl ?_
            refine X.getF 4 i235_1 rfl rfl (by decide) rfl rfl ?_
            refine X.bipush 6 i235_4 rfl rfl (by decide) ?_
            refine X.lald 7 i235_6 rfl rfl (by decide) rfl (by omega) ?_
            refine X.ldc2 10 i235_7 rfl rfl (by decide) ?_
            refine X.lcmp 11 i235_10 rfl rfl (fun z892 hz892 => ?_)
            refine X.ifge 24 14 i235_11 rfl rfl rfl (fun h893 => (by exfalso; omega)) (fun h893 => ?_)
            have h893c : (m 4 45 17) < 64 := by omega
            clear h893 hz892
            refine X.aload_n 15 i235_14 rfl rfl rfl ?_
            refine X.getF 18 i235_15 rfl rfl (by decide) rfl rfl ?_
            refine X.bipush 20 i235_18 rfl rfl (by decide) ?_
            refine X.lald 21 i235_20 rfl rfl (by decide) rfl (by omega) ?_
            refine X.goto 27 i235_21 rfl rfl ?_
            refine X.cut [] i235_27 rfl ?_
            refine X.l2i 28 i235_27 rfl rfl (by omega) ?_
            refine X.reti i235_28 rfl t235 ?_
            show X (EE s) d 232 199 [(0, zr 4 44), (1, zl a1), (3, zl z888)] [zi (m 4 45 17), zi 6, zi 788] m _
            refine X.bipush 201 i232_199 rfl rfl (by decide) ?_
            refine X.icmpge 211 204 i232_201 rfl rfl rfl (fun h894 => (by exfalso; omega)) (fun h894 => ?_)
            refine X.aload_n 205 i232_204 rfl rfl rfl ?_
            refine X.callv 208 [] [zi 6, zi 788] [(0, zr 4 44)] i232_205 rfl (by decide) rfl rfl (by omega) rfl rfl (by decide) rfl t235 (Nat.le_of_ble_eq_true rfl) (Nat.le_of_ble_eq_true rfl) rfl ?_
            refine X.aload_n 1 i235_0 rfl rfl rfl ?_
            refine X.getF 4 i235_1 rfl rfl (by decide) rfl rfl ?_
            refine X.bipush 6 i235_4 rfl rfl (by decide) ?_
            refine X.lald 7 i235_6 rfl rfl (by decide) rfl (by omega) ?_
            refine X.ldc2 10 i235_7 rfl rfl (by decide) ?_
            refine X.lcmp 11 i235_10 rfl rfl (fun z895 hz895 => ?_)
            refine X.ifge 24 14 i235_11 rfl rfl rfl (fun h896 => (by exfalso; omega)) (fun h896 => ?_)
            have h896c : (m 4 45 17) < 64 := by omega
            clear h896 hz895
            refine X.aload_n 15 i235_14 rfl rfl rfl ?_
            refine X.getF 18 i235_15 rfl rfl (by decide) rfl rfl ?_
            refine X.bipush 20 i235_18 rfl rfl (by decide) ?_
            refine X.lald 21 i235_20 rfl rfl (by decide) rfl (by omega) ?_
            refine X.goto 27 i235_21 rfl rfl ?_
            refine X.cut [] i235_27 rfl ?_
            refine X.l2i 28 i235_27 rfl rfl (by omega) ?_
            refine X.reti i235_28 rfl t235 ?_
            show X (EE s) d 232 208 [(0, zr 4 44), (1, zl a1), (3, zl z888)] [zi (m 4 45 17), zi 6, zi 788] m _
            refine X.goto 213 i232_208 rfl rfl ?_
            refine X.imul 214 i232_213 rfl rfl (by omega) ?_
            refine X.iadd 215 i232_214 rfl rfl (by omega) ?_
            refine X.istore 217 [(0, zr 4 44), (1, zl a1), (3, zl z888), (5, zi (788 + (6 * (m 4 45 17))))] i232_215 rfl rfl rfl ?_
            refine X.aload_n 218 i232_217 rfl rfl rfl ?_
            refine X.getF 221 i232_218 rfl rfl (by decide) rfl rfl ?_
            refine X.bipush 223 i232_221 rfl rfl (by decide) ?_
            refine X.dup2 224 i232_223 rfl rfl ?_
            refine X.lald 225 i232_224 rfl rfl (by decide) rfl (by omega) ?_
            refine X.lconst (y := 1) 226 i232_225 rfl rfl rfl ?_
            refine X.ladd 227 i232_226 rfl rfl (by omega) ?_
            refine X.last' 228 i232_227 rfl rfl (by decide) rfl (by omega) (fun hrm897 m897 hm897 => ?_)
            have hJ898 := w45_17 (hJ.up (B' := B + 1) (by omega)) hm897 (by omega)
            refine X.aload_n 229 i232_228 rfl rfl rfl ?_
            refine X.getF 232 i232_229 rfl rfl (by decide) rfl rfl ?_
            refine X.iload 234 i232_232 rfl rfl rfl ?_
            refine X.aload_n 235 i232_234 rfl rfl rfl ?_
            refine X.getF 238 i232_235 rfl rfl (by decide) rfl rfl ?_
            refine X.iconst 239 i232_238 rfl rfl (by decide) ?_
            refine X.lald 240 i232_239 rfl rfl (by decide) rfl (by omega) ?_
            have h899 := r45_0 hJ898 4
            refine X.last' 241 i232_240 rfl rfl (by decide) rfl (by omega) (fun hrm900 m900 hm900 => ?_)
            have hJ901 := w45_788 hJ898 hm900 (by omega) hrm900
            refine X.aload_n 242 i232_241 rfl rfl rfl ?_
            refine X.getF 245 i232_242 rfl rfl (by decide) rfl rfl ?_
            refine X.iload 247 i232_245 rfl rfl rfl ?_
            refine X.iconst 248 i232_247 rfl rfl (by decide) ?_
            refine X.iadd 249 i232_248 rfl rfl (by omega) ?_
            refine X.aload_n 250 i232_249 rfl rfl rfl ?_
            refine X.getF 253 i232_250 rfl rfl (by decide) rfl rfl ?_
            refine X.bipush 255 i232_253 rfl rfl (by decide) ?_
            refine X.lald 256 i232_255 rfl rfl (by decide) rfl (by omega) ?_
            refine X.last' 257 i232_256 rfl rfl (by decide) rfl (by omega) (fun hrm902 m902 hm902 => ?_)
            have hJ903 := w45_788 hJ901 hm902 (by omega) hrm902
            refine X.aload_n 258 i232_257 rfl rfl rfl ?_
            refine X.getF 261 i232_258 rfl rfl (by decide) rfl rfl ?_
            refine X.iload 263 i232_261 rfl rfl rfl ?_
            refine X.iconst 264 i232_263 rfl rfl (by decide) ?_
            refine X.iadd 265 i232_264 rfl rfl (by omega) ?_
            refine X.aload_n 266 i232_265 rfl rfl rfl ?_
            refine X.getF 269 i232_266 rfl rfl (by decide) rfl rfl ?_
            refine X.bipush 271 i232_269 rfl rfl (by decide) ?_
            refine X.lald 272 i232_271 rfl rfl (by decide) rfl (by omega) ?_
            refine X.last' 273 i232_272 rfl rfl (by decide) rfl (by omega) (fun hrm904 m904 hm904 => ?_)
            have hJ905 := w45_788 hJ903 hm904 (by omega) hrm904
            refine X.aload_n 274 i232_273 rfl rfl rfl ?_
            refine X.getF 277 i232_274 rfl rfl (by decide) rfl rfl ?_
            refine X.iload 279 i232_277 rfl rfl rfl ?_
            refine X.iconst 280 i232_279 rfl rfl (by decide) ?_
            refine X.iadd 281 i232_280 rfl rfl (by omega) ?_
            refine X.aload_n 282 i232_281 rfl rfl rfl ?_
            refine X.getF 285 i232_282 rfl rfl (by decide) rfl rfl ?_
            refine X.bipush 287 i232_285 rfl rfl (by decide) ?_
            refine X.lald 288 i232_287 rfl rfl (by decide) rfl (by omega) ?_
            refine X.last' 289 i232_288 rfl rfl (by decide) rfl (by omega) (fun hrm906 m906 hm906 => ?_)
            have hJ907 := w45_788 hJ905 hm906 (by omega) hrm906
            refine X.aload_n 290 i232_289 rfl rfl rfl ?_
            refine X.getF 293 i232_290 rfl rfl (by decide) rfl rfl ?_
            refine X.iload 295 i232_293 rfl rfl rfl ?_
            refine X.iconst 296 i232_295 rfl rfl (by decide) ?_
            refine X.iadd 297 i232_296 rfl rfl (by omega) ?_
            refine X.aload_n 298 i232_297 rfl rfl rfl ?_
            refine X.getF 301 i232_298 rfl rfl (by decide) rfl rfl ?_
            refine X.bipush 303 i232_301 rfl rfl (by decide) ?_
            refine X.lald 304 i232_303 rfl rfl (by decide) rfl (by omega) ?_
            refine X.last' 305 i232_304 rfl rfl (by decide) rfl (by omega) (fun hrm908 m908 hm908 => ?_)
            have hJ909 := w45_788 hJ907 hm908 (by omega) hrm908
            refine X.aload_n 306 i232_305 rfl rfl rfl ?_
            refine X.getF 309 i232_306 rfl rfl (by decide) rfl rfl ?_
            refine X.iload 311 i232_309 rfl rfl rfl ?_
            refine X.iconst 312 i232_311 rfl rfl (by decide) ?_
            refine X.iadd 313 i232_312 rfl rfl (by omega) ?_
            refine X.lload_n 314 i232_313 rfl rfl rfl ?_
            refine X.last' 315 i232_314 rfl rfl (by decide) rfl (by omega) (fun hrm910 m910 hm910 => ?_)
            have hJ911 := w45_788 hJ909 hm910 (by omega) hrm910
            refine X.aload_n 316 i232_315 rfl rfl rfl ?_
            refine X.callv 319 [] [] [(0, zr 4 44)] i232_316 rfl (by decide) rfl rfl (by omega) rfl rfl (by decide) rfl t233 (Nat.le_of_ble_eq_true rfl) (Nat.le_of_ble_eq_true rfl) rfl ?_
            refine c233_1 (B := B + 1)   (by omega) (hJ911.up (by omega)) (by omega)  (fun m912 hJ913 => ?_)
            show X (EE s) d 232 319 [(0, zr 4 44), (1, zl a1), (3, zl z888), (5, zi (788 + (6 * (m 4 45 17))))] [] m912 _
            refine X.lload_n 320 i232_319 rfl rfl rfl ?_
            refine X.lconst (y := 0) 321 i232_320 rfl rfl rfl ?_
            refine X.lcmp 322 i232_321 rfl rfl (fun z915 hz915 => ?_)
            refine X.ifne 329 325 i232_322 rfl rfl rfl (fun h916 => ?_) (fun h916 => ?_)
            · have h916c : a1 ≠ 0 := by omega
              clear h916 hz915
              refine X.cut [] i232_329 rfl ?_
              refine X.retv i232_329 rfl t232 ?_
              exact hQ  m912  (hJ913.up (by omega)) 
            · have h916c : a1 = 0 := by omega
              clear h916 hz915
              refine X.aload_n 326 i232_325 rfl rfl rfl ?_
              refine X.callv 329 [] [] [(0, zr 4 44)] i232_326 rfl (by decide) rfl rfl (by omega) rfl rfl (by decide) rfl t236 (Nat.le_of_ble_eq_true rfl) (Nat.le_of_ble_eq_true rfl) rfl ?_
              refine c236_1 (B := B + 1)   (by omega) (hJ913.up (by omega)) (by omega)  (fun m917 hJ918 => ?_)
              show X (EE s) d 232 329 [(0, zr 4 44), (1, zl a1), (3, zl z888), (5, zi (788 + (6 * (m 4 45 17))))] [] m917 _
              refine X.cut [] i232_329 rfl ?_
              refine X.retv i232_329 rfl t232 ?_
              exact hQ  m917  (hJ918.up (by omega)) 
          · have h891c : (m 4 45 17) ≥ 64 := by omega
            clear h891 hz890
            refine X.iconst 110 i232_109 rfl rfl (by decide) ?_
            refine X.istore 112 [(0, zr 4 44), (1, zl a1), (3, zl z888), (5, zi 0)] i232_110 rfl rfl rfl ?_
            refine l232_112_1 (s := s) (S := S) (m0 := m0) (d := d)  a1 z888 (BE := B + 0) (by omega) (by omega) (by omega) (fun  m920 B921 hJ922 hBB921 => ?_) ((4 - 0 : Int).toNat + 1) 0 m (B) (hJ.up (by omega)) (by omega)  (by omega) (by omega)
            refine X.bipush 149 i232_147 rfl rfl (by decide) ?_
            refine X.istore 151 [(0, zr 4 44), (1, zl a1), (3, zl z888), (5, zi 6)] i232_149 rfl rfl rfl ?_
            refine l232_151_1 (s := s) (S := S) (m0 := m0) (d := d)  a1 z888 (BE := B921 + 0) (by omega) (by omega) (by omega) (fun  m923 B924 hJ925 hBB924 => ?_) ((384 - 6 : Int).toNat + 1) 6 m920 (B921) (hJ922.up (by omega)) (by omega)  (by omega) (by omega)
            refine X.sipush 193 i232_190 rfl rfl (by decide) ?_
            refine X.bipush 195 i232_193 rfl rfl (by decide) ?_
            refine X.aload_n 196 i232_195 rfl rfl rfl ?_
            refine X.callv 199 [] [zi 6, zi 788] [(0, zr 4 44)] i232_196 rfl (by decide) rfl rfl (by omega) rfl rfl (by decide) rfl t235 (Nat.le_of_ble_eq_true rfl) (Nat.le_of_ble_eq_true rfl) rfl ?_
            refine X.aload_n 1 i235_0 rfl rfl rfl ?_
            refine X.getF 4 i235_1 rfl rfl (by decide) rfl rfl ?_
            refine X.bipush 6 i235_4 rfl rfl (by decide) ?_
            refine X.lald 7 i235_6 rfl rfl (by decide) rfl (by omega) ?_
            have h926 := r45_17 hJ925 4
            refine X.ldc2 10 i235_7 rfl rfl (by decide) ?_
            refine X.lcmp 11 i235_10 rfl rfl (fun z927 hz927 => ?_)
            refine X.ifge 24 14 i235_11 rfl rfl rfl (fun h928 => ?_) (fun h928 => ?_)
            · have h928c : (m923 4 45 17) ≥ 64 := by omega
              clear h928 hz927
              refine X.cut [] i235_24 rfl ?_
              refine X.ldc2 27 i235_24 rfl rfl (by decide) ?_
              refine X.l2i 28 i235_27 rfl rfl (by omega) ?_
              refine X.reti i235_28 rfl t235 ?_
              show X (EE s) d 232 199 [(0, zr 4 44), (1, zl a1), (3, zl z888)] [zi 64, zi 6, zi 788] m923 _
              refine X.bipush 201 i232_199 rfl rfl (by decide) ?_
              refine X.icmpge 211 204 i232_201 rfl rfl rfl (fun h929 => ?_) (fun h929 => (by exfalso; omega))
              refine X.bipush 213 i232_211 rfl rfl (by decide) ?_
              refine X.imul 214 i232_213 rfl rfl (by omega) ?_
              refine X.iadd 215 i232_214 rfl rfl (by omega) ?_
              refine X.istore 217 [(0, zr 4 44), (1, zl a1), (3, zl z888), (5, zi (788 + (6 * 63)))] i232_215 rfl rfl rfl ?_
              refine X.aload_n 218 i232_217 rfl rfl rfl ?_
              refine X.getF 221 i232_218 rfl rfl (by decide) rfl rfl ?_
              refine X.bipush 223 i232_221 rfl rfl (by decide) ?_
              refine X.dup2 224 i232_223 rfl rfl ?_
              refine X.lald 225 i232_224 rfl rfl (by decide) rfl (by omega) ?_
              refine X.lconst (y := 1) 226 i232_225 rfl rfl rfl ?_
              refine X.ladd 227 i232_226 rfl rfl (by omega) ?_
              refine X.last' 228 i232_227 rfl rfl (by decide) rfl (by omega) (fun hrm930 m930 hm930 => ?_)
              have hJ931 := w45_17 (hJ925.up (B' := B924 + 1) (by omega)) hm930 (by omega)
              refine X.aload_n 229 i232_228 rfl rfl rfl ?_
              refine X.getF 232 i232_229 rfl rfl (by decide) rfl rfl ?_
              refine X.iload 234 i232_232 rfl rfl rfl ?_
              refine X.aload_n 235 i232_234 rfl rfl rfl ?_
              refine X.getF 238 i232_235 rfl rfl (by decide) rfl rfl ?_
              refine X.iconst 239 i232_238 rfl rfl (by decide) ?_
              refine X.lald 240 i232_239 rfl rfl (by decide) rfl (by omega) ?_
              have h932 := r45_0 hJ931 4
              refine X.last' 241 i232_240 rfl rfl (by decide) rfl (by omega) (fun hrm933 m933 hm933 => ?_)
              have hJ934 := w45_788 hJ931 hm933 (by omega) hrm933
              refine X.aload_n 242 i232_241 rfl rfl rfl ?_
              refine X.getF 245 i232_242 rfl rfl (by decide) rfl rfl ?_
              refine X.iload 247 i232_245 rfl rfl rfl ?_
              refine X.iconst 248 i232_247 rfl rfl (by decide) ?_
              refine X.iadd 249 i232_248 rfl rfl (by omega) ?_
              refine X.aload_n 250 i232_249 rfl rfl rfl ?_
              refine X.getF 253 i232_250 rfl rfl (by decide) rfl rfl ?_
              refine X.bipush 255 i232_253 rfl rfl (by decide) ?_
              refine X.lald 256 i232_255 rfl rfl (by decide) rfl (by omega) ?_
              refine X.last' 257 i232_256 rfl rfl (by decide) rfl (by omega) (fun hrm935 m935 hm935 => ?_)
              have hJ936 := w45_788 hJ934 hm935 (by omega) hrm935
              refine X.aload_n 258 i232_257 rfl rfl rfl ?_
              refine X.getF 261 i232_258 rfl rfl (by decide) rfl rfl ?_
              refine X.iload 263 i232_261 rfl rfl rfl ?_
              refine X.iconst 264 i232_263 rfl rfl (by decide) ?_
              refine X.iadd 265 i232_264 rfl rfl (by omega) ?_
              refine X.aload_n 266 i232_265 rfl rfl rfl ?_
              refine X.getF 269 i232_266 rfl rfl (by decide) rfl rfl ?_
              refine X.bipush 271 i232_269 rfl rfl (by decide) ?_
              refine X.lald 272 i232_271 rfl rfl (by decide) rfl (by omega) ?_
              refine X.last' 273 i232_272 rfl rfl (by decide) rfl (by omega) (fun hrm937 m937 hm937 => ?_)
              have hJ938 := w45_788 hJ936 hm937 (by omega) hrm937
              refine X.aload_n 274 i232_273 rfl rfl rfl ?_
              refine X.getF 277 i232_274 rfl rfl (by decide) rfl rfl ?_
              refine X.iload 279 i232_277 rfl rfl rfl ?_
              refine X.iconst 280 i232_279 rfl rfl (by decide) ?_
              refine X.iadd 281 i232_280 rfl rfl (by omega) ?_
              refine X.aload_n 282 i232_281 rfl rfl rfl ?_
              refine X.getF 285 i232_282 rfl rfl (by decide) rfl rfl ?_
              refine X.bipush 287 i232_285 rfl rfl (by decide) ?_
              refine X.lald 288 i232_287 rfl rfl (by decide) rfl (by omega) ?_
              refine X.last' 289 i232_288 rfl rfl (by decide) rfl (by omega) (fun hrm939 m939 hm939 => ?_)
              have hJ940 := w45_788 hJ938 hm939 (by omega) hrm939
              refine X.aload_n 290 i232_289 rfl rfl rfl ?_
              refine X.getF 293 i232_290 rfl rfl (by decide) rfl rfl ?_
              refine X.iload 295 i232_293 rfl rfl rfl ?_
              refine X.iconst 296 i232_295 rfl rfl (by decide) ?_
              refine X.iadd 297 i232_296 rfl rfl (by omega) ?_
              refine X.aload_n 298 i232_297 rfl rfl rfl ?_
              refine X.getF 301 i232_298 rfl rfl (by decide) rfl rfl ?_
              refine X.bipush 303 i232_301 rfl rfl (by decide) ?_
              refine X.lald 304 i232_303 rfl rfl (by decide) rfl (by omega) ?_
              refine X.last' 305 i232_304 rfl rfl (by decide) rfl (by omega) (fun hrm941 m941 hm941 => ?_)
              have hJ942 := w45_788 hJ940 hm941 (by omega) hrm941
              refine X.aload_n 306 i232_305 rfl rfl rfl ?_
              refine X.getF 309 i232_306 rfl rfl (by decide) rfl rfl ?_
              refine X.iload 311 i232_309 rfl rfl rfl ?_
              refine X.iconst 312 i232_311 rfl rfl (by decide) ?_
              refine X.iadd 313 i232_312 rfl rfl (by omega) ?_
              refine X.lload_n 314 i232_313 rfl rfl rfl ?_
              refine X.last' 315 i232_314 rfl rfl (by decide) rfl (by omega) (fun hrm943 m943 hm943 => ?_)
              have hJ944 := w45_788 hJ942 hm943 (by omega) hrm943
              refine X.aload_n 316 i232_315 rfl rfl rfl ?_
              refine X.callv 319 [] [] [(0, zr 4 44)] i232_316 rfl (by decide) rfl rfl (by omega) rfl rfl (by decide) rfl t233 (Nat.le_of_ble_eq_true rfl) (Nat.le_of_ble_eq_true rfl) rfl ?_
              refine c233_1 (B := B924 + 1)   (by omega) (hJ944.up (by omega)) (by omega)  (fun m945 hJ946 => ?_)
              show X (EE s) d 232 319 [(0, zr 4 44), (1, zl a1), (3, zl z888), (5, zi (788 + (6 * 63)))] [] m945 _
              refine X.lload_n 320 i232_319 rfl rfl rfl ?_
              refine X.lconst (y := 0) 321 i232_320 rfl rfl rfl ?_
              refine X.lcmp 322 i232_321 rfl rfl (fun z948 hz948 => ?_)
              refine X.ifne 329 325 i232_322 rfl rfl rfl (fun h949 => ?_) (fun h949 => ?_)
              · have h949c : a1 ≠ 0 := by omega
                clear h949 hz948
                refine X.cut [] i232_329 rfl ?_
                refine X.retv i232_329 rfl t232 ?_
                exact hQ  m945  (hJ946.up (by omega)) 
              · have h949c : a1 = 0 := by omega
                clear h949 hz948
                refine X.aload_n 326 i232_325 rfl rfl rfl ?_
                refine X.callv 329 [] [] [(0, zr 4 44)] i232_326 rfl (by decide) rfl rfl (by omega) rfl rfl (by decide) rfl t236 (Nat.le_of_ble_eq_true rfl) (Nat.le_of_ble_eq_true rfl) rfl ?_
                refine c236_1 (B := B924 + 1)   (by omega) (hJ946.up (by omega)) (by omega)  (fun m950 hJ951 => ?_)
                show X (EE s) d 232 329 [(0, zr 4 44), (1, zl a1), (3, zl z888), (5, zi (788 + (6 * 63)))] [] m950 _
                refine X.cut [] i232_329 rfl ?_
                refine X.retv i232_329 rfl t232 ?_
                exact hQ  m950  (hJ951.up (by omega)) 
            · have h928c : (m923 4 45 17) < 64 := by omega
              clear h928 hz927
              refine X.aload_n 15 i235_14 rfl rfl rfl ?_
              refine X.getF 18 i235_15 rfl rfl (by decide) rfl rfl ?_
              refine X.bipush 20 i235_18 rfl rfl (by decide) ?_
              refine X.lald 21 i235_20 rfl rfl (by decide) rfl (by omega) ?_
              refine X.goto 27 i235_21 rfl rfl ?_
              refine X.cut [] i235_27 rfl ?_
              refine X.l2i 28 i235_27 rfl rfl (by omega) ?_
              refine X.reti i235_28 rfl t235 ?_
              show X (EE s) d 232 199 [(0, zr 4 44), (1, zl a1), (3, zl z888)] [zi (m923 4 45 17), zi 6, zi 788] m923 _
              refine X.bipush 201 i232_199 rfl rfl (by decide) ?_
              refine X.icmpge 211 204 i232_201 rfl rfl rfl (fun h953 => (by exfalso; omega)) (fun h953 => ?_)
              refine X.aload_n 205 i232_204 rfl rfl rfl ?_
              refine X.callv 208 [] [zi 6, zi 788] [(0, zr 4 44)] i232_205 rfl (by decide) rfl rfl (by omega) rfl rfl (by decide) rfl t235 (Nat.le_of_ble_eq_true rfl) (Nat.le_of_ble_eq_true rfl) rfl ?_
              refine X.aload_n 1 i235_0 rfl rfl rfl ?_
              refine X.getF 4 i235_1 rfl rfl (by decide) rfl rfl ?_
              refine X.bipush 6 i235_4 rfl rfl (by decide) ?_
              refine X.lald 7 i235_6 rfl rfl (by decide) rfl (by omega) ?_
              refine X.ldc2 10 i235_7 rfl rfl (by decide) ?_
              refine X.lcmp 11 i235_10 rfl rfl (fun z954 hz954 => ?_)
              refine X.ifge 24 14 i235_11 rfl rfl rfl (fun h955 => (by exfalso; omega)) (fun h955 => ?_)
              have h955c : (m923 4 45 17) < 64 := by omega
              clear h955 hz954
              refine X.aload_n 15 i235_14 rfl rfl rfl ?_
              refine X.getF 18 i235_15 rfl rfl (by decide) rfl rfl ?_
              refine X.bipush 20 i235_18 rfl rfl (by decide) ?_
              refine X.lald 21 i235_20 rfl rfl (by decide) rfl (by omega) ?_
              refine X.goto 27 i235_21 rfl rfl ?_
              refine X.cut [] i235_27 rfl ?_
              refine X.l2i 28 i235_27 rfl rfl (by omega) ?_
              refine X.reti i235_28 rfl t235 ?_
              show X (EE s) d 232 208 [(0, zr 4 44), (1, zl a1), (3, zl z888)] [zi (m923 4 45 17), zi 6, zi 788] m923 _
              refine X.goto 213 i232_208 rfl rfl ?_
              refine X.imul 214 i232_213 rfl rfl (by omega) ?_
              refine X.iadd 215 i232_214 rfl rfl (by omega) ?_
              refine X.istore 217 [(0, zr 4 44), (1, zl a1), (3, zl z888), (5, zi (788 + (6 * (m923 4 45 17))))] i232_215 rfl rfl rfl ?_
              refine X.aload_n 218 i232_217 rfl rfl rfl ?_
              refine X.getF 221 i232_218 rfl rfl (by decide) rfl rfl ?_
              refine X.bipush 223 i232_221 rfl rfl (by decide) ?_
              refine X.dup2 224 i232_223 rfl rfl ?_
              refine X.lald 225 i232_224 rfl rfl (by decide) rfl (by omega) ?_
              refine X.lconst (y := 1) 226 i232_225 rfl rfl rfl ?_
              refine X.ladd 227 i232_226 rfl rfl (by omega) ?_
              refine X.last' 228 i232_227 rfl rfl (by decide) rfl (by omega) (fun hrm956 m956 hm956 => ?_)
              have hJ957 := w45_17 (hJ925.up (B' := B924 + 1) (by omega)) hm956 (by omega)
              refine X.aload_n 229 i232_228 rfl rfl rfl ?_
              refine X.getF 232 i232_229 rfl rfl (by decide) rfl rfl ?_
              refine X.iload 234 i232_232 rfl rfl rfl ?_
              refine X.aload_n 235 i232_234 rfl rfl rfl ?_
              refine X.getF 238 i232_235 rfl rfl (by decide) rfl rfl ?_
              refine X.iconst 239 i232_238 rfl rfl (by decide) ?_
              refine X.lald 240 i232_239 rfl rfl (by decide) rfl (by omega) ?_
              have h958 := r45_0 hJ957 4
              refine X.last' 241 i232_240 rfl rfl (by decide) rfl (by omega) (fun hrm959 m959 hm959 => ?_)
              have hJ960 := w45_788 hJ957 hm959 (by omega) hrm959
              refine X.aload_n 242 i232_241 rfl rfl rfl ?_
              refine X.getF 245 i232_242 rfl rfl (by decide) rfl rfl ?_
              refine X.iload 247 i232_245 rfl rfl rfl ?_
              refine X.iconst 248 i232_247 rfl rfl (by decide) ?_
              refine X.iadd 249 i232_248 rfl rfl (by omega) ?_
              refine X.aload_n 250 i232_249 rfl rfl rfl ?_
              refine X.getF 253 i232_250 rfl rfl (by decide) rfl rfl ?_
              refine X.bipush 255 i232_253 rfl rfl (by decide) ?_
              refine X.lald 256 i232_255 rfl rfl (by decide) rfl (by omega) ?_
              refine X.last' 257 i232_256 rfl rfl (by decide) rfl (by omega) (fun hrm961 m961 hm961 => ?_)
              have hJ962 := w45_788 hJ960 hm961 (by omega) hrm961
              refine X.aload_n 258 i232_257 rfl rfl rfl ?_
              refine X.getF 261 i232_258 rfl rfl (by decide) rfl rfl ?_
              refine X.iload 263 i232_261 rfl rfl rfl ?_
              refine X.iconst 264 i232_263 rfl rfl (by decide) ?_
              refine X.iadd 265 i232_264 rfl rfl (by omega) ?_
              refine X.aload_n 266 i232_265 rfl rfl rfl ?_
              refine X.getF 269 i232_266 rfl rfl (by decide) rfl rfl ?_
              refine X.bipush 271 i232_269 rfl rfl (by decide) ?_
              refine X.lald 272 i232_271 rfl rfl (by decide) rfl (by omega) ?_
              refine X.last' 273 i232_272 rfl rfl (by decide) rfl (by omega) (fun hrm963 m963 hm963 => ?_)
              have hJ964 := w45_788 hJ962 hm963 (by omega) hrm963
              refine X.aload_n 274 i232_273 rfl rfl rfl ?_
              refine X.getF 277 i232_274 rfl rfl (by decide) rfl rfl ?_
              refine X.iload 279 i232_277 rfl rfl rfl ?_
              refine X.iconst 280 i232_279 rfl rfl (by decide) ?_
              refine X.iadd 281 i232_280 rfl rfl (by omega) ?_
              refine X.aload_n 282 i232_281 rfl rfl rfl ?_
              refine X.getF 285 i232_282 rfl rfl (by decide) rfl rfl ?_
              refine X.bipush 287 i232_285 rfl rfl (by decide) ?_
              refine X.lald 288 i232_287 rfl rfl (by decide) rfl (by omega) ?_
              refine X.last' 289 i232_288 rfl rfl (by decide) rfl (by omega) (fun hrm965 m965 hm965 => ?_)
              have hJ966 := w45_788 hJ964 hm965 (by omega) hrm965
              refine X.aload_n 290 i232_289 rfl rfl rfl ?_
              refine X.getF 293 i232_290 rfl rfl (by decide) rfl rfl ?_
              refine X.iload 295 i232_293 rfl rfl rfl ?_
              refine X.iconst 296 i232_295 rfl rfl (by decide) ?_
              refine X.iadd 297 i232_296 rfl rfl (by omega) ?_
              refine X.aload_n 298 i232_297 rfl rfl rfl ?_
              refine X.getF 301 i232_298 rfl rfl (by decide) rfl rfl ?_
              refine X.bipush 303 i232_301 rfl rfl (by decide) ?_
              refine X.lald 304 i232_303 rfl rfl (by decide) rfl (by omega) ?_
              refine X.last' 305 i232_304 rfl rfl (by decide) rfl (by omega) (fun hrm967 m967 hm967 => ?_)
              have hJ968 := w45_788 hJ966 hm967 (by omega) hrm967
              refine X.aload_n 306 i232_305 rfl rfl rfl ?_
              refine X.getF 309 i232_306 rfl rfl (by decide) rfl rfl ?_
              refine X.iload 311 i232_309 rfl rfl rfl ?_
              refine X.iconst 312 i232_311 rfl rfl (by decide) ?_
              refine X.iadd 313 i232_312 rfl rfl (by omega) ?_
              refine X.lload_n 314 i232_313 rfl rfl rfl ?_
              refine X.last' 315 i232_314 rfl rfl (by decide) rfl (by omega) (fun hrm969 m969 hm969 => ?_)
              have hJ970 := w45_788 hJ968 hm969 (by omega) hrm969
              refine X.aload_n 316 i232_315 rfl rfl rfl ?_
              refine X.callv 319 [] [] [(0, zr 4 44)] i232_316 rfl (by decide) rfl rfl (by omega) rfl rfl (by decide) rfl t233 (Nat.le_of_ble_eq_true rfl) (Nat.le_of_ble_eq_true rfl) rfl ?_
              refine c233_1 (B := B924 + 1)   (by omega) (hJ970.up (by omega)) (by omega)  (fun m971 hJ972 => ?_)
              show X (EE s) d 232 319 [(0, zr 4 44), (1, zl a1), (3, zl z888), (5, zi (788 + (6 * (m923 4 45 17))))] [] m971 _
              refine X.lload_n 320 i232_319 rfl rfl rfl ?_
              refine X.lconst (y := 0) 321 i232_320 rfl rfl rfl ?_
              refine X.lcmp 322 i232_321 rfl rfl (fun z974 hz974 => ?_)
              refine X.ifne 329 325 i232_322 rfl rfl rfl (fun h975 => ?_) (fun h975 => ?_)
              · have h975c : a1 ≠ 0 := by omega
                clear h975 hz974
                refine X.cut [] i232_329 rfl ?_
                refine X.retv i232_329 rfl t232 ?_
                exact hQ  m971  (hJ972.up (by omega)) 
              · have h975c : a1 = 0 := by omega
                clear h975 hz974
                refine X.aload_n 326 i232_325 rfl rfl rfl ?_
                refine X.callv 329 [] [] [(0, zr 4 44)] i232_326 rfl (by decide) rfl rfl (by omega) rfl rfl (by decide) rfl t236 (Nat.le_of_ble_eq_true rfl) (Nat.le_of_ble_eq_true rfl) rfl ?_
                refine c236_1 (B := B924 + 1)   (by omega) (hJ972.up (by omega)) (by omega)  (fun m976 hJ977 => ?_)
                show X (EE s) d 232 329 [(0, zr 4 44), (1, zl a1), (3, zl z888), (5, zi (788 + (6 * (m923 4 45 17))))] [] m976 _
                refine X.cut [] i232_329 rfl ?_
                refine X.retv i232_329 rfl t232 ?_
                exact hQ  m976  (hJ977.up (by omega)) 
        · have h887c : z885 ≠ 0 := by omega
          clear h887 hz886
          refine X.sipush 88 i232_85 rfl rfl (by decide) ?_
          refine X.goto 92 i232_88 rfl rfl ?_
          refine X.i2l 93 i232_92 rfl rfl ?_
          refine X.llF 94 .lor (fun x y => x ||| y) i232_93 rfl rfl rfl (fun _ _ => rfl) (fun z979 hz979 => ?_)
          refine X.lstore_n 95 [(0, zr 4 44), (1, zl a1), (3, zl z979)] i232_94 rfl rfl rfl ?_
          refine X.aload_n 96 i232_95 rfl rfl rfl ?_
          refine X.getF 99 i232_96 rfl rfl (by decide) rfl rfl ?_
          refine X.bipush 101 i232_99 rfl rfl (by decide) ?_
          refine X.lald 102 i232_101 rfl rfl (by decide) rfl (by omega) ?_
          have h980 := r45_17 hJ 4
          refine X.ldc2 105 i232_102 rfl rfl (by decide) ?_
          refine X.lcmp 106 i232_105 rfl rfl (fun z981 hz981 => ?_)
          refine X.iflt 190 109 i232_106 rfl rfl rfl (fun h982 => ?_) (fun h982 => ?_)
          · have h982c : (m 4 45 17) < 64 := by omega
            clear h982 hz981
            refine X.sipush 193 i232_190 rfl rfl (by decide) ?_
            refine X.bipush 195 i232_193 rfl rfl (by decide) ?_
            refine X.aload_n 196 i232_195 rfl rfl rfl ?_
            refine X.callv 199 [] [zi 6, zi 788] [(0, zr 4 44)] i232_196 rfl (by decide) rfl rfl (by omega) rfl rfl (by decide) rfl t235 (Nat.le_of_ble_eq_true rfl) (Nat.le_of_ble_eq_true rfl) rfl ?_
            refine X.aload_n 1 i235_0 rfl rfl rfl ?_
            refine X.getF 4 i235_1 rfl rfl (by decide) rfl rfl ?_
            refine X.bipush 6 i235_4 rfl rfl (by decide) ?_
            refine X.lald 7 i235_6 rfl rfl (by decide) rfl (by omega) ?_
            refine X.ldc2 10 i235_7 rfl rfl (by decide) ?_
            refine X.lcmp 11 i235_10 rfl rfl (fun z983 hz983 => ?_)
            refine X.ifge 24 14 i235_11 rfl rfl rfl (fun h984 => (by exfalso; omega)) (fun h984 => ?_)
            have h984c : (m 4 45 17) < 64 := by omega
            clear h984 hz983
            refine X.aload_n 15 i235_14 rfl rfl rfl ?_
            refine X.getF 18 i235_15 rfl rfl (by decide) rfl rfl ?_
            refine X.bipush 20 i235_18 rfl rfl (by decide) ?_
            refine X.lald 21 i235_20 rfl rfl (by decide) rfl (by omega) ?_
            refine X.goto 27 i235_21 rfl rfl ?_
            refine X.cut [] i235_27 rfl ?_
            refine X.l2i 28 i235_27 rfl rfl (by omega) ?_
            refine X.reti i235_28 rfl t235 ?_
            show X (EE s) d 232 199 [(0, zr 4 44), (1, zl a1), (3, zl z979)] [zi (m 4 45 17), zi 6, zi 788] m _
            refine X.bipush 201 i232_199 rfl rfl (by decide) ?_
            refine X.icmpge 211 204 i232_201 rfl rfl rfl (fun h985 => (by exfalso; omega)) (fun h985 => ?_)
            refine X.aload_n 205 i232_204 rfl rfl rfl ?_
            refine X.callv 208 [] [zi 6, zi 788] [(0, zr 4 44)] i232_205 rfl (by decide) rfl rfl (by omega) rfl rfl (by decide) rfl t235 (Nat.le_of_ble_eq_true rfl) (Nat.le_of_ble_eq_true rfl) rfl ?_
            refine X.aload_n 1 i235_0 rfl rfl rfl ?_
            refine X.getF 4 i235_1 rfl rfl (by decide) rfl rfl ?_
            refine X.bipush 6 i235_4 rfl rfl (by decide) ?_
            refine X.lald 7 i235_6 rfl rfl (by decide) rfl (by omega) ?_
            refine X.ldc2 10 i235_7 rfl rfl (by decide) ?_
            refine X.lcmp 11 i235_10 rfl rfl (fun z986 hz986 => ?_)
            refine X.ifge 24 14 i235_11 rfl rfl rfl (fun h987 => (by exfalso; omega)) (fun h987 => ?_)
            have h987c : (m 4 45 17) < 64 := by omega
            clear h987 hz986
            refine X.aload_n 15 i235_14 rfl rfl rfl ?_
            refine X.getF 18 i235_15 rfl rfl (by decide) rfl rfl ?_
            refine X.bipush 20 i235_18 rfl rfl (by decide) ?_
            refine X.lald 21 i235_20 rfl rfl (by decide) rfl (by omega) ?_
            refine X.goto 27 i235_21 rfl rfl ?_
            refine X.cut [] i235_27 rfl ?_
            refine X.l2i 28 i235_27 rfl rfl (by omega) ?_
            refine X.reti i235_28 rfl t235 ?_
            show X (EE s) d 232 208 [(0, zr 4 44), (1, zl a1), (3, zl z979)] [zi (m 4 45 17), zi 6, zi 788] m _
            refine X.goto 213 i232_208 rfl rfl ?_
            refine X.imul 214 i232_213 rfl rfl (by omega) ?_
            refine X.iadd 215 i232_214 rfl rfl (by omega) ?_
            refine X.istore 217 [(0, zr 4 44), (1, zl a1), (3, zl z979), (5, zi (788 + (6 * (m 4 45 17))))] i232_215 rfl rfl rfl ?_
            refine X.aload_n 218 i232_217 rfl rfl rfl ?_
            refine X.getF 221 i232_218 rfl rfl (by decide) rfl rfl ?_
            refine X.bipush 223 i232_221 rfl rfl (by decide) ?_
            refine X.dup2 224 i232_223 rfl rfl ?_
            refine X.lald 225 i232_224 rfl rfl (by decide) rfl (by omega) ?_
            refine X.lconst (y := 1) 226 i232_225 rfl rfl rfl ?_
            refine X.ladd 227 i232_226 rfl rfl (by omega) ?_
            refine X.last' 228 i232_227 rfl rfl (by decide) rfl (by omega) (fun hrm988 m988 hm988 => ?_)
            have hJ989 := w45_17 (hJ.up (B' := B + 1) (by omega)) hm988 (by omega)
            refine X.aload_n 229 i232_228 rfl rfl rfl ?_
            refine X.getF 232 i232_229 rfl rfl (by decide) rfl rfl ?_
            refine X.iload 234 i232_232 rfl rfl rfl ?_
            refine X.aload_n 235 i232_234 rfl rfl rfl ?_
            refine X.getF 238 i232_235 rfl rfl (by decide) rfl rfl ?_
            refine X.iconst 239 i232_238 rfl rfl (by decide) ?_
            refine X.lald 240 i232_239 rfl rfl (by decide) rfl (by omega) ?_
            have h990 := r45_0 hJ989 4
            refine X.last' 241 i232_240 rfl rfl (by decide) rfl (by omega) (fun hrm991 m991 hm991 => ?_)
            have hJ992 := w45_788 hJ989 hm991 (by omega) hrm991
            refine X.aload_n 242 i232_241 rfl rfl rfl ?_
            refine X.getF 245 i232_242 rfl rfl (by decide) rfl rfl ?_
            refine X.iload 247 i232_245 rfl rfl rfl ?_
            refine X.iconst 248 i232_247 rfl rfl (by decide) ?_
            refine X.iadd 249 i232_248 rfl rfl (by omega) ?_
            refine X.aload_n 250 i232_249 rfl rfl rfl ?_
            refine X.getF 253 i232_250 rfl rfl (by decide) rfl rfl ?_
            refine X.bipush 255 i232_253 rfl rfl (by decide) ?_
            refine X.lald 256 i232_255 rfl rfl (by decide) rfl (by omega) ?_
            refine X.last' 257 i232_256 rfl rfl (by decide) rfl (by omega) (fun hrm993 m993 hm993 => ?_)
            have hJ994 := w45_788 hJ992 hm993 (by omega) hrm993
            refine X.aload_n 258 i232_257 rfl rfl rfl ?_
            refine X.getF 261 i232_258 rfl rfl (by decide) rfl rfl ?_
            refine X.iload 263 i232_261 rfl rfl rfl ?_
            refine X.iconst 264 i232_263 rfl rfl (by decide) ?_
            refine X.iadd 265 i232_264 rfl rfl (by omega) ?_
            refine X.aload_n 266 i232_265 rfl rfl rfl ?_
            refine X.getF 269 i232_266 rfl rfl (by decide) rfl rfl ?_
            refine X.bipush 271 i232_269 rfl rfl (by decide) ?_
            refine X.lald 272 i232_271 rfl rfl (by decide) rfl (by omega) ?_
            refine X.last' 273 i232_272 rfl rfl (by decide) rfl (by omega) (fun hrm995 m995 hm995 => ?_)
            have hJ996 := w45_788 hJ994 hm995 (by omega) hrm995
            refine X.aload_n 274 i232_273 rfl rfl rfl ?_
            refine X.getF 277 i232_274 rfl rfl (by decide) rfl rfl ?_
            refine X.iload 279 i232_277 rfl rfl rfl ?_
            refine X.iconst 280 i232_279 rfl rfl (by decide) ?_
            refine X.iadd 281 i232_280 rfl rfl (by omega) ?_
            refine X.aload_n 282 i232_281 rfl rfl rfl ?_
            refine X.getF 285 i232_282 rfl rfl (by decide) rfl rfl ?_
            refine X.bipush 287 i232_285 rfl rfl (by decide) ?_
            refine X.lald 288 i232_287 rfl rfl (by decide) rfl (by omega) ?_
            refine X.last' 289 i232_288 rfl rfl (by decide) rfl (by omega) (fun hrm997 m997 hm997 => ?_)
            have hJ998 := w45_788 hJ996 hm997 (by omega) hrm997
            refine X.aload_n 290 i232_289 rfl rfl rfl ?_
            refine X.getF 293 i232_290 rfl rfl (by decide) rfl rfl ?_
            refine X.iload 295 i232_293 rfl rfl rfl ?_
            refine X.iconst 296 i232_295 rfl rfl (by decide) ?_
            refine X.iadd 297 i232_296 rfl rfl (by omega) ?_
            refine X.aload_n 298 i232_297 rfl rfl rfl ?_
            refine X.getF 301 i232_298 rfl rfl (by decide) rfl rfl ?_
            refine X.bipush 303 i232_301 rfl rfl (by decide) ?_
            refine X.lald 304 i232_303 rfl rfl (by decide) rfl (by omega) ?_
            refine X.last' 305 i232_304 rfl rfl (by decide) rfl (by omega) (fun hrm999 m999 hm999 => ?_)
            have hJ1000 := w45_788 hJ998 hm999 (by omega) hrm999
            refine X.aload_n 306 i232_305 rfl rfl rfl ?_
            refine X.getF 309 i232_306 rfl rfl (by decide) rfl rfl ?_
            refine X.iload 311 i232_309 rfl rfl rfl ?_
            refine X.iconst 312 i232_311 rfl rfl (by decide) ?_
            refine X.iadd 313 i232_312 rfl rfl (by omega) ?_
            refine X.lload_n 314 i232_313 rfl rfl rfl ?_
            refine X.last' 315 i232_314 rfl rfl (by decide) rfl (by omega) (fun hrm1001 m1001 hm1001 => ?_)
            have hJ1002 := w45_788 hJ1000 hm1001 (by omega) hrm1001
            refine X.aload_n 316 i232_315 rfl rfl rfl ?_
            refine X.callv 319 [] [] [(0, zr 4 44)] i232_316 rfl (by decide) rfl rfl (by omega) rfl rfl (by decide) rfl t233 (Nat.le_of_ble_eq_true rfl) (Nat.le_of_ble_eq_true rfl) rfl ?_
            refine c233_1 (B := B + 1)   (by omega) (hJ1002.up (by omega)) (by omega)  (fun m1003 hJ1004 => ?_)
            show X (EE s) d 232 319 [(0, zr 4 44), (1, zl a1), (3, zl z979), (5, zi (788 + (6 * (m 4 45 17))))] [] m1003 _
            refine X.lload_n 320 i232_319 rfl rfl rfl ?_
            refine X.lconst (y := 0) 321 i232_320 rfl rfl rfl ?_
            refine X.lcmp 322 i232_321 rfl rfl (fun z1006 hz1006 => ?_)
            refine X.ifne 329 325 i232_322 rfl rfl rfl (fun h1007 => ?_) (fun h1007 => ?_)
            · have h1007c : a1 ≠ 0 := by omega
              clear h1007 hz1006
              refine X.cut [] i232_329 rfl ?_
              refine X.retv i232_329 rfl t232 ?_
              exact hQ  m1003  (hJ1004.up (by omega)) 
            · have h1007c : a1 = 0 := by omega
              clear h1007 hz1006
              refine X.aload_n 326 i232_325 rfl rfl rfl ?_
              refine X.callv 329 [] [] [(0, zr 4 44)] i232_326 rfl (by decide) rfl rfl (by omega) rfl rfl (by decide) rfl t236 (Nat.le_of_ble_eq_true rfl) (Nat.le_of_ble_eq_true rfl) rfl ?_
              refine c236_1 (B := B + 1)   (by omega) (hJ1004.up (by omega)) (by omega)  (fun m1008 hJ1009 => ?_)
              show X (EE s) d 232 329 [(0, zr 4 44), (1, zl a1), (3, zl z979), (5, zi (788 + (6 * (m 4 45 17))))] [] m1008 _
              refine X.cut [] i232_329 rfl ?_
              refine X.retv i232_329 rfl t232 ?_
              exact hQ  m1008  (hJ1009.up (by omega)) 
          · have h982c : (m 4 45 17) ≥ 64 := by omega
            clear h982 hz981
            refine X.iconst 110 i232_109 rfl rfl (by decide) ?_
            refine X.istore 112 [(0, zr 4 44), (1, zl a1), (3, zl z979), (5, zi 0)] i232_110 rfl rfl rfl ?_
            refine l232_112_1 (s := s) (S := S) (m0 := m0) (d := d)  a1 z979 (BE := B + 0) (by omega) (by omega) (by omega) (fun  m1011 B1012 hJ1013 hBB1012 => ?_) ((4 - 0 : Int).toNat + 1) 0 m (B) (hJ.up (by omega)) (by omega)  (by omega) (by omega)
            refine X.bipush 149 i232_147 rfl rfl (by decide) ?_
            refine X.istore 151 [(0, zr 4 44), (1, zl a1), (3, zl z979), (5, zi 6)] i232_149 rfl rfl rfl ?_
            refine l232_151_1 (s := s) (S := S) (m0 := m0) (d := d)  a1 z979 (BE := B1012 + 0) (by omega) (by omega) (by omega) (fun  m1014 B1015 hJ1016 hBB1015 => ?_) ((384 - 6 : Int).toNat + 1) 6 m1011 (B1012) (hJ1013.up (by omega)) (by omega)  (by omega) (by omega)
            refine X.sipush 193 i232_190 rfl rfl (by decide) ?_
            refine X.bipush 195 i232_193 rfl rfl (by decide) ?_
            refine X.aload_n 196 i232_195 rfl rfl rfl ?_
            refine X.callv 199 [] [zi 6, zi 788] [(0, zr 4 44)] i232_196 rfl (by decide) rfl rfl (by omega) rfl rfl (by decide) rfl t235 (Nat.le_of_ble_eq_true rfl) (Nat.le_of_ble_eq_true rfl) rfl ?_
            refine X.aload_n 1 i235_0 rfl rfl rfl ?_
            refine X.getF 4 i235_1 rfl rfl (by decide) rfl rfl ?_
            refine X.bipush 6 i235_4 rfl rfl (by decide) ?_
            refine X.lald 7 i235_6 rfl rfl (by decide) rfl (by omega) ?_
            have h1017 := r45_17 hJ1016 4
            refine X.ldc2 10 i235_7 rfl rfl (by decide) ?_
            refine X.lcmp 11 i235_10 rfl rfl (fun z1018 hz1018 => ?_)
            refine X.ifge 24 14 i235_11 rfl rfl rfl (fun h1019 => ?_) (fun h1019 => ?_)
            · have h1019c : (m1014 4 45 17) ≥ 64 := by omega
              clear h1019 hz1018
              refine X.cut [] i235_24 rfl ?_
              refine X.ldc2 27 i235_24 rfl rfl (by decide) ?_
              refine X.l2i 28 i235_27 rfl rfl (by omega) ?_
              refine X.reti i235_28 rfl t235 ?_
              show X (EE s) d 232 199 [(0, zr 4 44), (1, zl a1), (3, zl z979)] [zi 64, zi 6, zi 788] m1014 _
              refine X.bipush 201 i232_199 rfl rfl (by decide) ?_
              refine X.icmpge 211 204 i232_201 rfl rfl rfl (fun h1020 => ?_) (fun h1020 => (by exfalso; omega))
              refine X.bipush 213 i232_211 rfl rfl (by decide) ?_
              refine X.imul 214 i232_213 rfl rfl (by omega) ?_
              refine X.iadd 215 i232_214 rfl rfl (by omega) ?_
              refine X.istore 217 [(0, zr 4 44), (1, zl a1), (3, zl z979), (5, zi (788 + (6 * 63)))] i232_215 rfl rfl rfl ?_
              refine X.aload_n 218 i232_217 rfl rfl rfl ?_
              refine X.getF 221 i232_218 rfl rfl (by decide) rfl rfl ?_
              refine X.bipush 223 i232_221 rfl rfl (by decide) ?_
              refine X.dup2 224 i232_223 rfl rfl ?_
              refine X.lald 225 i232_224 rfl rfl (by decide) rfl (by omega) ?_
              refine X.lconst (y := 1) 226 i232_225 rfl rfl rfl ?_
              refine X.ladd 227 i232_226 rfl rfl (by omega) ?_
              refine X.last' 228 i232_227 rfl rfl (by decide) rfl (by omega) (fun hrm1021 m1021 hm1021 => ?_)
              have hJ1022 := w45_17 (hJ1016.up (B' := B1015 + 1) (by omega)) hm1021 (by omega)
              refine X.aload_n 229 i232_228 rfl rfl rfl ?_
              refine X.getF 232 i232_229 rfl rfl (by decide) rfl rfl ?_
              refine X.iload 234 i232_232 rfl rfl rfl ?_
              refine X.aload_n 235 i232_234 rfl rfl rfl ?_
              refine X.getF 238 i232_235 rfl rfl (by decide) rfl rfl ?_
              refine X.iconst 239 i232_238 rfl rfl (by decide) ?_
              refine X.lald 240 i232_239 rfl rfl (by decide) rfl (by omega) ?_
              have h1023 := r45_0 hJ1022 4
              refine X.last' 241 i232_240 rfl rfl (by decide) rfl (by omega) (fun hrm1024 m1024 hm1024 => ?_)
              have hJ1025 := w45_788 hJ1022 hm1024 (by omega) hrm1024
              refine X.aload_n 242 i232_241 rfl rfl rfl ?_
              refine X.getF 245 i232_242 rfl rfl (by decide) rfl rfl ?_
              refine X.iload 247 i232_245 rfl rfl rfl ?_
              refine X.iconst 248 i232_247 rfl rfl (by decide) ?_
              refine X.iadd 249 i232_248 rfl rfl (by omega) ?_
              refine X.aload_n 250 i232_249 rfl rfl rfl ?_
              refine X.getF 253 i232_250 rfl rfl (by decide) rfl rfl ?_
              refine X.bipush 255 i232_253 rfl rfl (by decide) ?_
              refine X.lald 256 i232_255 rfl rfl (by decide) rfl (by omega) ?_
              refine X.last' 257 i232_256 rfl rfl (by decide) rfl (by omega) (fun hrm1026 m1026 hm1026 => ?_)
              have hJ1027 := w45_788 hJ1025 hm1026 (by omega) hrm1026
              refine X.aload_n 258 i232_257 rfl rfl rfl ?_
              refine X.getF 261 i232_258 rfl rfl (by decide) rfl rfl ?_
              refine X.iload 263 i232_261 rfl rfl rfl ?_
              refine X.iconst 264 i232_263 rfl rfl (by decide) ?_
              refine X.iadd 265 i232_264 rfl rfl (by omega) ?_
              refine X.aload_n 266 i232_265 rfl rfl rfl ?_
              refine X.getF 269 i232_266 rfl rfl (by decide) rfl rfl ?_
              refine X.bipush 271 i232_269 rfl rfl (by decide) ?_
              refine X.lald 272 i232_271 rfl rfl (by decide) rfl (by omega) ?_
              refine X.last' 273 i232_272 rfl rfl (by decide) rfl (by omega) (fun hrm1028 m1028 hm1028 => ?_)
              have hJ1029 := w45_788 hJ1027 hm1028 (by omega) hrm1028
              refine X.aload_n 274 i232_273 rfl rfl rfl ?_
              refine X.getF 277 i232_274 rfl rfl (by decide) rfl rfl ?_
              refine X.iload 279 i232_277 rfl rfl rfl ?_
              refine X.iconst 280 i232_279 rfl rfl (by decide) ?_
              refine X.iadd 281 i232_280 rfl rfl (by omega) ?_
              refine X.aload_n 282 i232_281 rfl rfl rfl ?_
              refine X.getF 285 i232_282 rfl rfl (by decide) rfl rfl ?_
              refine X.bipush 287 i232_285 rfl rfl (by decide) ?_
              refine X.lald 288 i232_287 rfl rfl (by decide) rfl (by omega) ?_
              refine X.last' 289 i232_288 rfl rfl (by decide) rfl (by omega) (fun hrm1030 m1030 hm1030 => ?_)
              have hJ1031 := w45_788 hJ1029 hm1030 (by omega) hrm1030
              refine X.aload_n 290 i232_289 rfl rfl rfl ?_
              refine X.getF 293 i232_290 rfl rfl (by decide) rfl rfl ?_
              refine X.iload 295 i232_293 rfl rfl rfl ?_
              refine X.iconst 296 i232_295 rfl rfl (by decide) ?_
              refine X.iadd 297 i232_296 rfl rfl (by omega) ?_
              refine X.aload_n 298 i232_297 rfl rfl rfl ?_
              refine X.getF 301 i232_298 rfl rfl (by decide) rfl rfl ?_
              refine X.bipush 303 i232_301 rfl rfl (by decide) ?_
              refine X.lald 304 i232_303 rfl rfl (by decide) rfl (by omega) ?_
              refine X.last' 305 i232_304 rfl rfl (by decide) rfl (by omega) (fun hrm1032 m1032 hm1032 => ?_)
              have hJ1033 := w45_788 hJ1031 hm1032 (by omega) hrm1032
              refine X.aload_n 306 i232_305 rfl rfl rfl ?_
              refine X.getF 309 i232_306 rfl rfl (by decide) rfl rfl ?_
              refine X.iload 311 i232_309 rfl rfl rfl ?_
              refine X.iconst 312 i232_311 rfl rfl (by decide) ?_
              refine X.iadd 313 i232_312 rfl rfl (by omega) ?_
              refine X.lload_n 314 i232_313 rfl rfl rfl ?_
              refine X.last' 315 i232_314 rfl rfl (by decide) rfl (by omega) (fun hrm1034 m1034 hm1034 => ?_)
              have hJ1035 := w45_788 hJ1033 hm1034 (by omega) hrm1034
              refine X.aload_n 316 i232_315 rfl rfl rfl ?_
              refine X.callv 319 [] [] [(0, zr 4 44)] i232_316 rfl (by decide) rfl rfl (by omega) rfl rfl (by decide) rfl t233 (Nat.le_of_ble_eq_true rfl) (Nat.le_of_ble_eq_true rfl) rfl ?_
              refine c233_1 (B := B1015 + 1)   (by omega) (hJ1035.up (by omega)) (by omega)  (fun m1036 hJ1037 => ?_)
              show X (EE s) d 232 319 [(0, zr 4 44), (1, zl a1), (3, zl z979), (5, zi (788 + (6 * 63)))] [] m1036 _
              refine X.lload_n 320 i232_319 rfl rfl rfl ?_
              refine X.lconst (y := 0) 321 i232_320 rfl rfl rfl ?_
              refine X.lcmp 322 i232_321 rfl rfl (fun z1039 hz1039 => ?_)
              refine X.ifne 329 325 i232_322 rfl rfl rfl (fun h1040 => ?_) (fun h1040 => ?_)
              · have h1040c : a1 ≠ 0 := by omega
                clear h1040 hz1039
                refine X.cut [] i232_329 rfl ?_
                refine X.retv i232_329 rfl t232 ?_
                exact hQ  m1036  (hJ1037.up (by omega)) 
              · have h1040c : a1 = 0 := by omega
                clear h1040 hz1039
                refine X.aload_n 326 i232_325 rfl rfl rfl ?_
                refine X.callv 329 [] [] [(0, zr 4 44)] i232_326 rfl (by decide) rfl rfl (by omega) rfl rfl (by decide) rfl t236 (Nat.le_of_ble_eq_true rfl) (Nat.le_of_ble_eq_true rfl) rfl ?_
                refine c236_1 (B := B1015 + 1)   (by omega) (hJ1037.up (by omega)) (by omega)  (fun m1041 hJ1042 => ?_)
                show X (EE s) d 232 329 [(0, zr 4 44), (1, zl a1), (3, zl z979), (5, zi (788 + (6 * 63)))] [] m1041 _
                refine X.cut [] i232_329 rfl ?_
                refine X.retv i232_329 rfl t232 ?_
                exact hQ  m1041  (hJ1042.up (by omega)) 
            · have h1019c : (m1014 4 45 17) < 64 := by omega
              clear h1019 hz1018
              refine X.aload_n 15 i235_14 rfl rfl rfl ?_
              refine X.getF 18 i235_15 rfl rfl (by decide) rfl rfl ?_
              refine X.bipush 20 i235_18 rfl rfl (by decide) ?_
              refine X.lald 21 i235_20 rfl rfl (by decide) rfl (by omega) ?_
              refine X.goto 27 i235_21 rfl rfl ?_
              refine X.cut [] i235_27 rfl ?_
              refine X.l2i 28 i235_27 rfl rfl (by omega) ?_
              refine X.reti i235_28 rfl t235 ?_
              show X (EE s) d 232 199 [(0, zr 4 44), (1, zl a1), (3, zl z979)] [zi (m1014 4 45 17), zi 6, zi 788] m1014 _
              refine X.bipush 201 i232_199 rfl rfl (by decide) ?_
              refine X.icmpge 211 204 i232_201 rfl rfl rfl (fun h1044 => (by exfalso; omega)) (fun h1044 => ?_)
              refine X.aload_n 205 i232_204 rfl rfl rfl ?_
              refine X.callv 208 [] [zi 6, zi 788] [(0, zr 4 44)] i232_205 rfl (by decide) rfl rfl (by omega) rfl rfl (by decide) rfl t235 (Nat.le_of_ble_eq_true rfl) (Nat.le_of_ble_eq_true rfl) rfl ?_
              refine X.aload_n 1 i235_0 rfl rfl rfl ?_
              refine X.getF 4 i235_1 rfl rfl (by decide) rfl rfl ?_
              refine X.bipush 6 i235_4 rfl rfl (by decide) ?_
              refine X.lald 7 i235_6 rfl rfl (by decide) rfl (by omega) ?_
              refine X.ldc2 10 i235_7 rfl rfl (by decide) ?_
              refine X.lcmp 11 i235_10 rfl rfl (fun z1045 hz1045 => ?_)
              refine X.ifge 24 14 i235_11 rfl rfl rfl (fun h1046 => (by exfalso; omega)) (fun h1046 => ?_)
              have h1046c : (m1014 4 45 17) < 64 := by omega
              clear h1046 hz1045
              refine X.aload_n 15 i235_14 rfl rfl rfl ?_
              refine X.getF 18 i235_15 rfl rfl (by decide) rfl rfl ?_
              refine X.bipush 20 i235_18 rfl rfl (by decide) ?_
              refine X.lald 21 i235_20 rfl rfl (by decide) rfl (by omega) ?_
              refine X.goto 27 i235_21 rfl rfl ?_
              refine X.cut [] i235_27 rfl ?_
              refine X.l2i 28 i235_27 rfl rfl (by omega) ?_
              refine X.reti i235_28 rfl t235 ?_
              show X (EE s) d 232 208 [(0, zr 4 44), (1, zl a1), (3, zl z979)] [zi (m1014 4 45 17), zi 6, zi 788] m1014 _
              refine X.goto 213 i232_208 rfl rfl ?_
              refine X.imul 214 i232_213 rfl rfl (by omega) ?_
              refine X.iadd 215 i232_214 rfl rfl (by omega) ?_
              refine X.istore 217 [(0, zr 4 44), (1, zl a1), (3, zl z979), (5, zi (788 + (6 * (m1014 4 45 17))))] i232_215 rfl rfl rfl ?_
              refine X.aload_n 218 i232_217 rfl rfl rfl ?_
              refine X.getF 221 i232_218 rfl rfl (by decide) rfl rfl ?_
              refine X.bipush 223 i232_221 rfl rfl (by decide) ?_
              refine X.dup2 224 i232_223 rfl rfl ?_
              refine X.lald 225 i232_224 rfl rfl (by decide) rfl (by omega) ?_
              refine X.lconst (y := 1) 226 i232_225 rfl rfl rfl ?_
              refine X.ladd 227 i232_226 rfl rfl (by omega) ?_
              refine X.last' 228 i232_227 rfl rfl (by decide) rfl (by omega) (fun hrm1047 m1047 hm1047 => ?_)
              have hJ1048 := w45_17 (hJ1016.up (B' := B1015 + 1) (by omega)) hm1047 (by omega)
              refine X.aload_n 229 i232_228 rfl rfl rfl ?_
              refine X.getF 232 i232_229 rfl rfl (by decide) rfl rfl ?_
              refine X.iload 234 i232_232 rfl rfl rfl ?_
              refine X.aload_n 235 i232_234 rfl rfl rfl ?_
              refine X.getF 238 i232_235 rfl rfl (by decide) rfl rfl ?_
              refine X.iconst 239 i232_238 rfl rfl (by decide) ?_
              refine X.lald 240 i232_239 rfl rfl (by decide) rfl (by omega) ?_
              have h1049 := r45_0 hJ1048 4
              refine X.last' 241 i232_240 rfl rfl (by decide) rfl (by omega) (fun hrm1050 m1050 hm1050 => ?_)
              have hJ1051 := w45_788 hJ1048 hm1050 (by omega) hrm1050
              refine X.aload_n 242 i232_241 rfl rfl rfl ?_
              refine X.getF 245 i232_242 rfl rfl (by decide) rfl rfl ?_
              refine X.iload 247 i232_245 rfl rfl rfl ?_
              refine X.iconst 248 i232_247 rfl rfl (by decide) ?_
              refine X.iadd 249 i232_248 rfl rfl (by omega) ?_
              refine X.aload_n 250 i232_249 rfl rfl rfl ?_
              refine X.getF 253 i232_250 rfl rfl (by decide) rfl rfl ?_
              refine X.bipush 255 i232_253 rfl rfl (by decide) ?_
              refine X.lald 256 i232_255 rfl rfl (by decide) rfl (by omega) ?_
              refine X.last' 257 i232_256 rfl rfl (by decide) rfl (by omega) (fun hrm1052 m1052 hm1052 => ?_)
              have hJ1053 := w45_788 hJ1051 hm1052 (by omega) hrm1052
              refine X.aload_n 258 i232_257 rfl rfl rfl ?_
              refine X.getF 261 i232_258 rfl rfl (by decide) rfl rfl ?_
              refine X.iload 263 i232_261 rfl rfl rfl ?_
              refine X.iconst 264 i232_263 rfl rfl (by decide) ?_
              refine X.iadd 265 i232_264 rfl rfl (by omega) ?_
              refine X.aload_n 266 i232_265 rfl rfl rfl ?_
              refine X.getF 269 i232_266 rfl rfl (by decide) rfl rfl ?_
              refine X.bipush 271 i232_269 rfl rfl (by decide) ?_
              refine X.lald 272 i232_271 rfl rfl (by decide) rfl (by omega) ?_
              refine X.last' 273 i232_272 rfl rfl (by decide) rfl (by omega) (fun hrm1054 m1054 hm1054 => ?_)
              have hJ1055 := w45_788 hJ1053 hm1054 (by omega) hrm1054
              refine X.aload_n 274 i232_273 rfl rfl rfl ?_
              refine X.getF 277 i232_274 rfl rfl (by decide) rfl rfl ?_
              refine X.iload 279 i232_277 rfl rfl rfl ?_
              refine X.iconst 280 i232_279 rfl rfl (by decide) ?_
              refine X.iadd 281 i232_280 rfl rfl (by omega) ?_
              refine X.aload_n 282 i232_281 rfl rfl rfl ?_
              refine X.getF 285 i232_282 rfl rfl (by decide) rfl rfl ?_
              refine X.bipush 287 i232_285 rfl rfl (by decide) ?_
              refine X.lald 288 i232_287 rfl rfl (by decide) rfl (by omega) ?_
              refine X.last' 289 i232_288 rfl rfl (by decide) rfl (by omega) (fun hrm1056 m1056 hm1056 => ?_)
              have hJ1057 := w45_788 hJ1055 hm1056 (by omega) hrm1056
              refine X.aload_n 290 i232_289 rfl rfl rfl ?_
              refine X.getF 293 i232_290 rfl rfl (by decide) rfl rfl ?_
              refine X.iload 295 i232_293 rfl rfl rfl ?_
              refine X.iconst 296 i232_295 rfl rfl (by decide) ?_
              refine X.iadd 297 i232_296 rfl rfl (by omega) ?_
              refine X.aload_n 298 i232_297 rfl rfl rfl ?_
              refine X.getF 301 i232_298 rfl rfl (by decide) rfl rfl ?_
              refine X.bipush 303 i232_301 rfl rfl (by decide) ?_
              refine X.lald 304 i232_303 rfl rfl (by decide) rfl (by omega) ?_
              refine X.last' 305 i232_304 rfl rfl (by decide) rfl (by omega) (fun hrm1058 m1058 hm1058 => ?_)
              have hJ1059 := w45_788 hJ1057 hm1058 (by omega) hrm1058
              refine X.aload_n 306 i232_305 rfl rfl rfl ?_
              refine X.getF 309 i232_306 rfl rfl (by decide) rfl rfl ?_
              refine X.iload 311 i232_309 rfl rfl rfl ?_
              refine X.iconst 312 i232_311 rfl rfl (by decide) ?_
              refine X.iadd 313 i232_312 rfl rfl (by omega) ?_
              refine X.lload_n 314 i232_313 rfl rfl rfl ?_
              refine X.last' 315 i232_314 rfl rfl (by decide) rfl (by omega) (fun hrm1060 m1060 hm1060 => ?_)
              have hJ1061 := w45_788 hJ1059 hm1060 (by omega) hrm1060
              refine X.aload_n 316 i232_315 rfl rfl rfl ?_
              refine X.callv 319 [] [] [(0, zr 4 44)] i232_316 rfl (by decide) rfl rfl (by omega) rfl rfl (by decide) rfl t233 (Nat.le_of_ble_eq_true rfl) (Nat.le_of_ble_eq_true rfl) rfl ?_
              refine c233_1 (B := B1015 + 1)   (by omega) (hJ1061.up (by omega)) (by omega)  (fun m1062 hJ1063 => ?_)
              show X (EE s) d 232 319 [(0, zr 4 44), (1, zl a1), (3, zl z979), (5, zi (788 + (6 * (m1014 4 45 17))))] [] m1062 _
              refine X.lload_n 320 i232_319 rfl rfl rfl ?_
              refine X.lconst (y := 0) 321 i232_320 rfl rfl rfl ?_
              refine X.lcmp 322 i232_321 rfl rfl (fun z1065 hz1065 => ?_)
              refine X.ifne 329 325 i232_322 rfl rfl rfl (fun h1066 => ?_) (fun h1066 => ?_)
              · have h1066c : a1 ≠ 0 := by omega
                clear h1066 hz1065
                refine X.cut [] i232_329 rfl ?_
                refine X.retv i232_329 rfl t232 ?_
                exact hQ  m1062  (hJ1063.up (by omega)) 
              · have h1066c : a1 = 0 := by omega
                clear h1066 hz1065
                refine X.aload_n 326 i232_325 rfl rfl rfl ?_
                refine X.callv 329 [] [] [(0, zr 4 44)] i232_326 rfl (by decide) rfl rfl (by omega) rfl rfl (by decide) rfl t236 (Nat.le_of_ble_eq_true rfl) (Nat.le_of_ble_eq_true rfl) rfl ?_
                refine c236_1 (B := B1015 + 1)   (by omega) (hJ1063.up (by omega)) (by omega)  (fun m1067 hJ1068 => ?_)
                show X (EE s) d 232 329 [(0, zr 4 44), (1, zl a1), (3, zl z979), (5, zi (788 + (6 * (m1014 4 45 17))))] [] m1067 _
                refine X.cut [] i232_329 rfl ?_
                refine X.retv i232_329 rfl t232 ?_
                exact hQ  m1067  (hJ1068.up (by omega)) 
  · have h503c : z501 = 0 := by omega
    clear h503 hz502
    refine X.aload_n 21 i232_20 rfl rfl rfl ?_
    refine X.callv 24 [] [] [(0, zr 4 44)] i232_21 rfl (by decide) rfl rfl (by omega) rfl rfl (by decide) rfl t233 (Nat.le_of_ble_eq_true rfl) (Nat.le_of_ble_eq_true rfl) rfl ?_
    refine c233_1 (B := B)   (by omega) (hJ.up (by omega)) (by omega)  (fun m1070 hJ1071 => ?_)
    show X (EE s) d 232 24 [(0, zr 4 44), (1, zl a1)] [] m1070 _
    refine X.retv i232_24 rfl t232 ?_
    exact hQ  m1070  (hJ1071.up (by omega)) 
-- WorkMeterModel.goes
theorem c230_1 {s : Nat × (Nat → Int32)} {S : zS} {m0 m : zM} {B : Int} {d : Nat} {Q : Option zV → zM → Prop} (hd : 18 ≤ d) (hJ : J S m0 B m) (hB : B + 1 ≤ 1000000000) (hs0 : S.1 4 45 0) (hQ : ∀ m', J S m0 (B + 1) m' → (m' 4 45 0 = min (m 4 45 0 + 1) 2000000000) → Q none m') : X (EE s) d 230 0 [(0, zr 4 44)] [] m Q := by
  refine X.aload_n 1 i230_0 rfl rfl rfl ?_
  refine X.getF 4 i230_1 rfl rfl (by decide) rfl rfl ?_
  refine X.bipush 6 i230_4 rfl rfl (by decide) ?_
  refine X.dup2 7 i230_6 rfl rfl ?_
  refine X.lald 8 i230_7 rfl rfl (by decide) rfl (by omega) ?_
  refine X.aload_n 9 i230_8 rfl rfl rfl ?_
  refine X.callv 12 [] [zl (m 4 45 27), zi 27, zr 4 45] [(0, zr 4 44)] i230_9 rfl (by decide) rfl rfl (by omega) rfl rfl (by decide) rfl t231 (Nat.le_of_ble_eq_true rfl) (Nat.le_of_ble_eq_true rfl) rfl ?_
  refine c231_1 (B := B)   (by omega) (hJ.up (by omega)) (by omega)  (fun v503 hv503 => ?_)
  show X (EE s) d 230 12 [(0, zr 4 44)] [zl v503, zl (m 4 45 27), zi 27, zr 4 45] m _
  refine X.llF 13 .lor (fun x y => x ||| y) i230_12 rfl rfl rfl (fun _ _ => rfl) (fun z504 hz504 => ?_)
  refine X.last' 14 i230_13 rfl rfl (by decide) rfl (by omega) (fun hrm505 m505 hm505 => ?_)
  have hJ506 := w45_19 hJ hm505 (by omega) hrm505
  have wt507 : m505 4 45 0 = (m 4 45 0) := by rw [hm505]; exact z_upd_i _ _ _ _ (by omega)
  refine X.aload_n 15 i230_14 rfl rfl rfl ?_
  refine X.getF 18 i230_15 rfl rfl (by decide) rfl rfl ?_
  refine X.iconst 19 i230_18 rfl rfl (by decide) ?_
  refine X.lald 20 i230_19 rfl rfl (by decide) rfl (by omega) ?_
  have h508 := r45_0 hJ506 4
  refine X.ldc2 23 i230_20 rfl rfl (by decide) ?_
  refine X.lcmp 24 i230_23 rfl rfl (fun z509 hz509 => ?_)
  refine X.ifne 28 27 i230_24 rfl rfl rfl (fun h510 => ?_) (fun h510 => ?_)
  · have h510c : (m505 4 45 0) ≠ 2000000000 := by omega
    clear h510 hz509
    refine X.aload_n 29 i230_28 rfl rfl rfl ?_
    refine X.getF 32 i230_29 rfl rfl (by decide) rfl rfl ?_
    refine X.iconst 33 i230_32 rfl rfl (by decide) ?_
    refine X.dup2 34 i230_33 rfl rfl ?_
    refine X.lald 35 i230_34 rfl rfl (by decide) rfl (by omega) ?_
    refine X.lconst (y := 1) 36 i230_35 rfl rfl rfl ?_
    refine X.ladd 37 i230_36 rfl rfl (by omega) ?_
    refine X.last' 38 i230_37 rfl rfl (by decide) rfl (by omega) (fun hrm511 m511 hm511 => ?_)
    have hJ512 := w45_0 hJ506 hm511 (by omega) hs0
    have wt513 : m511 4 45 0 = ((m505 4 45 0) + 1) := by rw [hm511]; exact z_upd_same _ _ _ _ _
    refine X.aload_n 39 i230_38 rfl rfl rfl ?_
    refine X.getF 42 i230_39 rfl rfl (by decide) rfl rfl ?_
    refine X.iconst 43 i230_42 rfl rfl (by decide) ?_
    refine X.lald 44 i230_43 rfl rfl (by decide) rfl (by omega) ?_
    refine X.aload_n 45 i230_44 rfl rfl rfl ?_
    refine X.getF 48 i230_45 rfl rfl (by decide) rfl rfl ?_
    refine X.bipush 50 i230_48 rfl rfl (by decide) ?_
    refine X.lald 51 i230_50 rfl rfl (by decide) rfl (by omega) ?_
    have h514 := r45_8 hJ512 4
    refine X.lremp 52 i230_51 rfl rfl (by omega) ?_
    have hz515 := z_modb (x := (m511 4 45 0)) (y := (m511 4 45 8)) (by omega) (by omega)
    obtain ⟨z515, ez515⟩ : ∃ z, z = ((m511 4 45 0) % (m511 4 45 8)) := ⟨_, rfl⟩
    rw [← ez515] at hz515 ⊢
    clear ez515
    refine X.lconst (y := 0) 53 i230_52 rfl rfl rfl ?_
    refine X.lcmp 54 i230_53 rfl rfl (fun z516 hz516 => ?_)
    refine X.ifne 62 57 i230_54 rfl rfl rfl (fun h517 => ?_) (fun h517 => ?_)
    · have h517c : z515 ≠ 0 := by omega
      clear h517 hz516
      refine X.cut [] i230_62 rfl ?_
      refine X.retv i230_62 rfl t230 ?_
      exact hQ  m511  (hJ512.up (by omega)) (by exact (by omega))
    · have h517c : z515 = 0 := by omega
      clear h517 hz516
      refine X.aload_n 58 i230_57 rfl rfl rfl ?_
      refine X.lconst (y := 0) 59 i230_58 rfl rfl rfl ?_
      refine X.callv 62 [zl 0] [] [(0, zr 4 44), (1, zl 0)] i230_59 rfl (by decide) rfl rfl (by omega) rfl rfl (by decide) rfl t232 (Nat.le_of_ble_eq_true rfl) (Nat.le_of_ble_eq_true rfl) rfl ?_
      refine c232_1 (S := zfr [] S) (m0 := m511) (B := B)  0 (by omega) (hJ512.ow.up (by omega)) (by omega) (by omega) (fun m518 hJ519 => ?_)
      have hJ521 := hJ512.trans hJ519 zi_n
      have wt522 : m518 4 45 0 = ((m505 4 45 0) + 1) := Eq.trans (hJ519.eq rfl rfl) wt513
      show X (EE s) d 230 62 [(0, zr 4 44)] [] m518 _
      refine X.cut [] i230_62 rfl ?_
      refine X.retv i230_62 rfl t230 ?_
      exact hQ  m518  (hJ521.up (by omega)) (by exact (by omega))
  · have h510c : (m505 4 45 0) = 2000000000 := by omega
    clear h510 hz509
    refine X.retv i230_27 rfl t230 ?_
    exact hQ  m505  (hJ506.up (by omega)) (by exact (by omega))
-- WorkMeterModel.registers
theorem c216_2 {s : Nat × (Nat → Int32)} {S : zS} {m0 m : zM} {B : Int} {d : Nat} {Q : Option zV → zM → Prop} (a1 a2 a3 : Int) (hd : 16 ≤ d) (hJ : J S m0 B m) (hB : B + 0 ≤ 1000000000) (ha1 : 0 ≤ a1) (ha2 : 1 ≤ a2) (ha3 : 0 ≤ a3 ∧ a3 ≤ 3000000000) (hQ : ∀ m', J S m0 (B) m' → Q none m') : X (EE s) d 216 0 [(0, zr 4 44), (1, zl a1), (3, zl a2), (5, zl a3)] [] m Q := by
  refine X.aload_n 1 i216_0 rfl rfl rfl ?_
  refine X.aload_n 2 i216_1 rfl rfl rfl ?_
  refine X.getF 5 i216_2 rfl rfl (by decide) rfl rfl ?_
  refine X.iconst 6 i216_5 rfl rfl (by decide) ?_
  refine X.lald 7 i216_6 rfl rfl (by decide) rfl (by omega) ?_
  have h501 := r45_0 hJ 4
  refine X.l2i 8 i216_7 rfl rfl (by omega) ?_
  refine X.callv 11 [zi (m 4 45 0)] [] [(0, zr 4 44), (1, zi (m 4 45 0))] i216_8 rfl (by decide) rfl rfl (by omega) rfl rfl (by decide) rfl t217 (Nat.le_of_ble_eq_true rfl) (Nat.le_of_ble_eq_true rfl) rfl ?_
  refine c217_1 (B := B)  (m 4 45 0) (by omega) (hJ.up (by omega)) (by omega) (by omega) (fun v504 hv504 => ?_)
  show X (EE s) d 216 11 [(0, zr 4 44), (1, zl a1), (3, zl a2), (5, zl a3)] [zi v504] m _
  refine X.istore 13 [(0, zr 4 44), (1, zl a1), (3, zl a2), (5, zl a3), (7, zi v504)] i216_11 rfl rfl rfl ?_
  refine X.aload_n 14 i216_13 rfl rfl rfl ?_
  refine X.getF 17 i216_14 rfl rfl (by decide) rfl rfl ?_
  refine X.bipush 19 i216_17 rfl rfl (by decide) ?_
  refine X.iload 21 i216_19 rfl rfl rfl ?_
  refine X.iadd 22 i216_21 rfl rfl (by omega) ?_
  refine X.lald 23 i216_22 rfl rfl (by decide) rfl (by omega) ?_
  refine X.aload_n 24 i216_23 rfl rfl rfl ?_
  refine X.getF 27 i216_24 rfl rfl (by decide) rfl rfl ?_
  refine X.iconst 28 i216_27 rfl rfl (by decide) ?_
  refine X.lald 29 i216_28 rfl rfl (by decide) rfl (by omega) ?_
  have h505 := r45_5 hJ 4
  refine X.ldivF 30 i216_29 rfl rfl (by omega) (fun z506 => ?_)
  refine X.lstore 32 [(0, zr 4 44), (1, zl a1), (3, zl a2), (5, zl a3), (7, zi v504), (8, zl z506)] i216_30 rfl rfl rfl ?_
  refine X.lload_n 33 i216_32 rfl rfl rfl ?_
  refine X.lconst (y := 0) 34 i216_33 rfl rfl rfl ?_
  refine X.lcmp 35 i216_34 rfl rfl (fun z507 hz507 => ?_)
  refine X.ifle 46 38 i216_35 rfl rfl rfl (fun h508 => ?_) (fun h508 => ?_)
  · have h508c : a1 ≤ 0 := by omega
    clear h508 hz507
    refine X.lload_n 47 i216_46 rfl rfl rfl ?_
    refine X.lconst (y := 0) 48 i216_47 rfl rfl rfl ?_
    refine X.lcmp 49 i216_48 rfl rfl (fun z509 hz509 => ?_)
    refine X.ifge 61 52 i216_49 rfl rfl rfl (fun h510 => ?_) (fun h510 => (by exfalso; omega))
    have h510c : a1 ≥ 0 := by omega
    clear h510 hz509
    refine X.aload_n 62 i216_61 rfl rfl rfl ?_
    refine X.iconst 63 i216_62 rfl rfl (by decide) ?_
    refine X.lload_n 64 i216_63 rfl rfl rfl ?_
    refine X.lload_n 65 i216_64 rfl rfl rfl ?_
    refine X.calls 68 [zl a1, zl a2] [zi 1, zr 4 44] [(0, zl a1), (2, zl a2)] i216_65 (by decide) rfl rfl (by omega) rfl rfl t221 (Nat.le_of_ble_eq_true rfl) (Nat.le_of_ble_eq_true rfl) rfl ?_
    refine X.lload_n 1 i221_0 rfl rfl rfl ?_
    refine X.lconst (y := 0) 2 i221_1 rfl rfl rfl ?_
    refine X.lcmp 3 i221_2 rfl rfl (fun z511 hz511 => ?_)
    refine X.iflt 20 6 i221_3 rfl rfl rfl (fun h512 => (by exfalso; omega)) (fun h512 => ?_)
    have h512c : a1 ≥ 0 := by omega
    clear h512 hz511
    refine X.lload_n 7 i221_6 rfl rfl rfl ?_
    refine X.lconst (y := 0) 8 i221_7 rfl rfl rfl ?_
    refine X.lcmp 9 i221_8 rfl rfl (fun z513 hz513 => ?_)
    refine X.iflt 16 12 i221_9 rfl rfl rfl (fun h514 => (by exfalso; omega)) (fun h514 => ?_)
    have h514c : a2 ≥ 0 := by omega
    clear h514 hz513
    refine X.iconst 13 i221_12 rfl rfl (by decide) ?_
    refine X.goto 31 i221_13 rfl rfl ?_
    refine X.cut [] i221_31 rfl ?_
    refine X.reti i221_31 rfl t221 ?_
    show X (EE s) d 216 68 [(0, zr 4 44), (1, zl a1), (3, zl a2), (5, zl a3), (7, zi v504), (8, zl z506)] [zi 1, zi 1, zr 4 44] m _
    refine X.iadd 69 i216_68 rfl rfl (by omega) ?_
    refine X.iload 71 i216_69 rfl rfl rfl ?_
    refine X.lload_n 72 i216_71 rfl rfl rfl ?_
    refine X.calls 75 [zl a2] [zi v504, zi (1 + 1), zr 4 44] [(0, zl a2)] i216_72 (by decide) rfl rfl (by omega) rfl rfl t215 (Nat.le_of_ble_eq_true rfl) (Nat.le_of_ble_eq_true rfl) rfl ?_
    refine X.lload_n 1 i215_0 rfl rfl rfl ?_
    refine X.lconst (y := 0) 2 i215_1 rfl rfl rfl ?_
    refine X.lcmp 3 i215_2 rfl rfl (fun z515 hz515 => ?_)
    refine X.ifge 11 6 i215_3 rfl rfl rfl (fun h516 => ?_) (fun h516 => (by exfalso; omega))
    have h516c : a2 ≥ 0 := by omega
    clear h516 hz515
    refine X.lload_n 12 i215_11 rfl rfl rfl ?_
    refine X.cut [] i215_12 rfl ?_
    refine X.retl i215_12 rfl t215 ?_
    show X (EE s) d 216 75 [(0, zr 4 44), (1, zl a1), (3, zl a2), (5, zl a3), (7, zi v504), (8, zl z506)] [zl a2, zi v504, zi (1 + 1), zr 4 44] m _
    refine X.callv 78 [zi (1 + 1), zi v504, zl a2] [] [(0, zr 4 44), (1, zi (1 + 1)), (2, zi v504), (3, zl a2)] i216_75 rfl (by decide) rfl rfl (by omega) rfl rfl (by decide) rfl t220 (Nat.le_of_ble_eq_true rfl) (Nat.le_of_ble_eq_true rfl) rfl ?_
    refine X.aload_n 1 i220_0 rfl rfl rfl ?_
    refine X.getF 4 i220_1 rfl rfl (by decide) rfl rfl ?_
    refine X.bipush 6 i220_4 rfl rfl (by decide) ?_
    refine X.iconst 7 i220_6 rfl rfl (by decide) ?_
    refine X.iload_n 8 i220_7 rfl rfl rfl ?_
    refine X.imul 9 i220_8 rfl rfl (by omega) ?_
    refine X.iadd 10 i220_9 rfl rfl (by omega) ?_
    refine X.iload_n 11 i220_10 rfl rfl rfl ?_
    refine X.iadd 12 i220_11 rfl rfl (by omega) ?_
    refine X.dup2 13 i220_12 rfl rfl ?_
    refine X.lald 14 i220_13 rfl rfl (by decide) rfl (by omega) ?_
    refine X.lload_n 15 i220_14 rfl rfl rfl ?_
    refine X.llF 16 .ladd (fun x y => x + y) i220_15 rfl rfl rfl (fun _ _ => rfl) (fun z517 hz517 => ?_)
    refine X.last' 17 i220_16 rfl rfl (by decide) rfl (by omega) (fun hrm518 m518 hm518 => ?_)
    have hJ519 := w45_19 hJ hm518 (by omega) hrm518
    refine X.aload_n 18 i220_17 rfl rfl rfl ?_
    refine X.getF 21 i220_18 rfl rfl (by decide) rfl rfl ?_
    refine X.bipush 23 i220_21 rfl rfl (by decide) ?_
    refine X.iconst 24 i220_23 rfl rfl (by decide) ?_
    refine X.iload_n 25 i220_24 rfl rfl rfl ?_
    refine X.imul 26 i220_25 rfl rfl (by omega) ?_
    refine X.iadd 27 i220_26 rfl rfl (by omega) ?_
    refine X.iconst 28 i220_27 rfl rfl (by decide) ?_
    refine X.iadd 29 i220_28 rfl rfl (by omega) ?_
    refine X.dup2 30 i220_29 rfl rfl ?_
    refine X.lald 31 i220_30 rfl rfl (by decide) rfl (by omega) ?_
    refine X.lload_n 32 i220_31 rfl rfl rfl ?_
    refine X.llF 33 .ladd (fun x y => x + y) i220_32 rfl rfl rfl (fun _ _ => rfl) (fun z520 hz520 => ?_)
    refine X.last' 34 i220_33 rfl rfl (by decide) rfl (by omega) (fun hrm521 m521 hm521 => ?_)
    have hJ522 := w45_19 hJ519 hm521 (by omega) hrm521
    refine X.retv i220_34 rfl t220 ?_
    show X (EE s) d 216 78 [(0, zr 4 44), (1, zl a1), (3, zl a2), (5, zl a3), (7, zi v504), (8, zl z506)] [] m521 _
    refine X.aload_n 79 i216_78 rfl rfl rfl ?_
    refine X.bipush 81 i216_79 rfl rfl (by decide) ?_
    refine X.iload 83 i216_81 rfl rfl rfl ?_
    refine X.lload 85 i216_83 rfl rfl rfl ?_
    refine X.callv 88 [zi 6, zi v504, zl a3] [] [(0, zr 4 44), (1, zi 6), (2, zi v504), (3, zl a3)] i216_85 rfl (by decide) rfl rfl (by omega) rfl rfl (by decide) rfl t220 (Nat.le_of_ble_eq_true rfl) (Nat.le_of_ble_eq_true rfl) rfl ?_
    refine X.aload_n 1 i220_0 rfl rfl rfl ?_
    refine X.getF 4 i220_1 rfl rfl (by decide) rfl rfl ?_
    refine X.bipush 6 i220_4 rfl rfl (by decide) ?_
    refine X.iconst 7 i220_6 rfl rfl (by decide) ?_
    refine X.iload_n 8 i220_7 rfl rfl rfl ?_
    refine X.imul 9 i220_8 rfl rfl (by omega) ?_
    refine X.iadd 10 i220_9 rfl rfl (by omega) ?_
    refine X.iload_n 11 i220_10 rfl rfl rfl ?_
    refine X.iadd 12 i220_11 rfl rfl (by omega) ?_
    refine X.dup2 13 i220_12 rfl rfl ?_
    refine X.lald 14 i220_13 rfl rfl (by decide) rfl (by omega) ?_
    refine X.lload_n 15 i220_14 rfl rfl rfl ?_
    refine X.llF 16 .ladd (fun x y => x + y) i220_15 rfl rfl rfl (fun _ _ => rfl) (fun z523 hz523 => ?_)
    refine X.last' 17 i220_16 rfl rfl (by decide) rfl (by omega) (fun hrm524 m524 hm524 => ?_)
    have hJ525 := w45_19 hJ522 hm524 (by omega) hrm524
    refine X.aload_n 18 i220_17 rfl rfl rfl ?_
    refine X.getF 21 i220_18 rfl rfl (by decide) rfl rfl ?_
    refine X.bipush 23 i220_21 rfl rfl (by decide) ?_
    refine X.iconst 24 i220_23 rfl rfl (by decide) ?_
    refine X.iload_n 25 i220_24 rfl rfl rfl ?_
    refine X.imul 26 i220_25 rfl rfl (by omega) ?_
    refine X.iadd 27 i220_26 rfl rfl (by omega) ?_
    refine X.iconst 28 i220_27 rfl rfl (by decide) ?_
    refine X.iadd 29 i220_28 rfl rfl (by omega) ?_
    refine X.dup2 30 i220_29 rfl rfl ?_
    refine X.lald 31 i220_30 rfl rfl (by decide) rfl (by omega) ?_
    refine X.lload_n 32 i220_31 rfl rfl rfl ?_
    refine X.llF 33 .ladd (fun x y => x + y) i220_32 rfl rfl rfl (fun _ _ => rfl) (fun z526 hz526 => ?_)
    refine X.last' 34 i220_33 rfl rfl (by decide) rfl (by omega) (fun hrm527 m527 hm527 => ?_)
    have hJ528 := w45_19 hJ525 hm527 (by omega) hrm527
    refine X.retv i220_34 rfl t220 ?_
    show X (EE s) d 216 88 [(0, zr 4 44), (1, zl a1), (3, zl a2), (5, zl a3), (7, zi v504), (8, zl z506)] [] m527 _
    refine X.aload_n 89 i216_88 rfl rfl rfl ?_
    refine X.getF 92 i216_89 rfl rfl (by decide) rfl rfl ?_
    refine X.bipush 94 i216_92 rfl rfl (by decide) ?_
    refine X.dup2 95 i216_94 rfl rfl ?_
    refine X.lald 96 i216_95 rfl rfl (by decide) rfl (by omega) ?_
    refine X.aload_n 97 i216_96 rfl rfl rfl ?_
    refine X.getF 100 i216_97 rfl rfl (by decide) rfl rfl ?_
    refine X.bipush 102 i216_100 rfl rfl (by decide) ?_
    refine X.iload 104 i216_102 rfl rfl rfl ?_
    refine X.iadd 105 i216_104 rfl rfl (by omega) ?_
    refine X.lald 106 i216_105 rfl rfl (by decide) rfl (by omega) ?_
    refine X.aload_n 107 i216_106 rfl rfl rfl ?_
    refine X.getF 110 i216_107 rfl rfl (by decide) rfl rfl ?_
    refine X.iconst 111 i216_110 rfl rfl (by decide) ?_
    refine X.lald 112 i216_111 rfl rfl (by decide) rfl (by omega) ?_
    have h529 := r45_5 hJ528 4
    refine X.ldivF 113 i216_112 rfl rfl (by omega) (fun z530 => ?_)
    refine X.lload 115 i216_113 rfl rfl rfl ?_
    refine X.llF 116 .lsub (fun x y => x - y) i216_115 rfl rfl rfl (fun _ _ => rfl) (fun z531 hz531 => ?_)
    refine X.aload_n 117 i216_116 rfl rfl rfl ?_
    refine X.getF 120 i216_117 rfl rfl (by decide) rfl rfl ?_
    refine X.bipush 122 i216_120 rfl rfl (by decide) ?_
    refine X.iload 124 i216_122 rfl rfl rfl ?_
    refine X.iadd 125 i216_124 rfl rfl (by omega) ?_
    refine X.lald 126 i216_125 rfl rfl (by decide) rfl (by omega) ?_
    refine X.llF 127 .lmul (fun x y => x * y) i216_126 rfl rfl rfl (fun _ _ => rfl) (fun z532 hz532 => ?_)
    refine X.llF 128 .lsub (fun x y => x - y) i216_127 rfl rfl rfl (fun _ _ => rfl) (fun z533 hz533 => ?_)
    refine X.last' 129 i216_128 rfl rfl (by decide) rfl (by omega) (fun hrm534 m534 hm534 => ?_)
    have hJ535 := w45_10 hJ528 hm534 hrm534
    refine X.aload_n 130 i216_129 rfl rfl rfl ?_
    refine X.getF 133 i216_130 rfl rfl (by decide) rfl rfl ?_
    refine X.bipush 135 i216_133 rfl rfl (by decide) ?_
    refine X.dup2 136 i216_135 rfl rfl ?_
    refine X.lald 137 i216_136 rfl rfl (by decide) rfl (by omega) ?_
    refine X.lload_n 138 i216_137 rfl rfl rfl ?_
    refine X.lconst (y := 0) 139 i216_138 rfl rfl rfl ?_
    refine X.lcmp 140 i216_139 rfl rfl (fun z536 hz536 => ?_)
    refine X.ifle 147 143 i216_140 rfl rfl rfl (fun h537 => ?_) (fun h537 => (by exfalso; omega))
    have h537c : a1 ≤ 0 := by omega
    clear h537 hz536
    refine X.cut [(0, zr 4 44), (1, zl a1), (5, zl a3)] i216_147 rfl ?_
    refine X.lconst (y := 0) 148 i216_147 rfl rfl rfl ?_
    refine X.llF 149 .ladd (fun x y => x + y) i216_148 rfl rfl rfl (fun _ _ => rfl) (fun z538 hz538 => ?_)
    refine X.last' 150 i216_149 rfl rfl (by decide) rfl (by omega) (fun hrm539 m539 hm539 => ?_)
    have hJ540 := w45_19 hJ535 hm539 (by omega) hrm539
    refine X.aload_n 151 i216_150 rfl rfl rfl ?_
    refine X.getF 154 i216_151 rfl rfl (by decide) rfl rfl ?_
    refine X.bipush 156 i216_154 rfl rfl (by decide) ?_
    refine X.dup2 157 i216_156 rfl rfl ?_
    refine X.lald 158 i216_157 rfl rfl (by decide) rfl (by omega) ?_
    refine X.lload_n 159 i216_158 rfl rfl rfl ?_
    refine X.lconst (y := 0) 160 i216_159 rfl rfl rfl ?_
    refine X.lcmp 161 i216_160 rfl rfl (fun z541 hz541 => ?_)
    refine X.ifge 169 164 i216_161 rfl rfl rfl (fun h542 => ?_) (fun h542 => (by exfalso; omega))
    have h542c : a1 ≥ 0 := by omega
    clear h542 hz541
    refine X.cut [(0, zr 4 44), (5, zl a3)] i216_169 rfl ?_
    refine X.lconst (y := 0) 170 i216_169 rfl rfl rfl ?_
    refine X.llF 171 .ladd (fun x y => x + y) i216_170 rfl rfl rfl (fun _ _ => rfl) (fun z543 hz543 => ?_)
    refine X.last' 172 i216_171 rfl rfl (by decide) rfl (by omega) (fun hrm544 m544 hm544 => ?_)
    have hJ545 := w45_19 hJ540 hm544 (by omega) hrm544
    refine X.aload_n 173 i216_172 rfl rfl rfl ?_
    refine X.getF 176 i216_173 rfl rfl (by decide) rfl rfl ?_
    refine X.bipush 178 i216_176 rfl rfl (by decide) ?_
    refine X.dup2 179 i216_178 rfl rfl ?_
    refine X.lald 180 i216_179 rfl rfl (by decide) rfl (by omega) ?_
    refine X.lload 182 i216_180 rfl rfl rfl ?_
    refine X.llF 183 .ladd (fun x y => x + y) i216_182 rfl rfl rfl (fun _ _ => rfl) (fun z546 hz546 => ?_)
    refine X.last' 184 i216_183 rfl rfl (by decide) rfl (by omega) (fun hrm547 m547 hm547 => ?_)
    have hJ548 := w45_19 hJ545 hm547 (by omega) hrm547
    refine X.retv i216_184 rfl t216 ?_
    exact hQ  m547  (hJ548.up (by omega)) 
  · have h508c : a1 > 0 := by omega
    clear h508 hz507
    refine X.aload_n 39 i216_38 rfl rfl rfl ?_
    refine X.iconst 40 i216_39 rfl rfl (by decide) ?_
    refine X.iload 42 i216_40 rfl rfl rfl ?_
    refine X.lload_n 43 i216_42 rfl rfl rfl ?_
    refine X.callv 46 [zi 0, zi v504, zl a1] [] [(0, zr 4 44), (1, zi 0), (2, zi v504), (3, zl a1)] i216_43 rfl (by decide) rfl rfl (by omega) rfl rfl (by decide) rfl t220 (Nat.le_of_ble_eq_true rfl) (Nat.le_of_ble_eq_true rfl) rfl ?_
    refine X.aload_n 1 i220_0 rfl rfl rfl ?_
    refine X.getF 4 i220_1 rfl rfl (by decide) rfl rfl ?_
    refine X.bipush 6 i220_4 rfl rfl (by decide) ?_
    refine X.iconst 7 i220_6 rfl rfl (by decide) ?_
    refine X.iload_n 8 i220_7 rfl rfl rfl ?_
    refine X.imul 9 i220_8 rfl rfl (by omega) ?_
    refine X.iadd 10 i220_9 rfl rfl (by omega) ?_
    refine X.iload_n 11 i220_10 rfl rfl rfl ?_
    refine X.iadd 12 i220_11 rfl rfl (by omega) ?_
    refine X.dup2 13 i220_12 rfl rfl ?_
    refine X.lald 14 i220_13 rfl rfl (by decide) rfl (by omega) ?_
    refine X.lload_n 15 i220_14 rfl rfl rfl ?_
    refine X.llF 16 .ladd (fun x y => x + y) i220_15 rfl rfl rfl (fun _ _ => rfl) (fun z549 hz549 => ?_)
    refine X.last' 17 i220_16 rfl rfl (by decide) rfl (by omega) (fun hrm550 m550 hm550 => ?_)
    have hJ551 := w45_19 hJ hm550 (by omega) hrm550
    refine X.aload_n 18 i220_17 rfl rfl rfl ?_
    refine X.getF 21 i220_18 rfl rfl (by decide) rfl rfl ?_
    refine X.bipush 23 i220_21 rfl rfl (by decide) ?_
    refine X.iconst 24 i220_23 rfl rfl (by decide) ?_
    refine X.iload_n 25 i220_24 rfl rfl rfl ?_
    refine X.imul 26 i220_25 rfl rfl (by omega) ?_
    refine X.iadd 27 i220_26 rfl rfl (by omega) ?_
    refine X.iconst 28 i220_27 rfl rfl (by decide) ?_
    refine X.iadd 29 i220_28 rfl rfl (by omega) ?_
    refine X.dup2 30 i220_29 rfl rfl ?_
    refine X.lald 31 i220_30 rfl rfl (by decide) rfl (by omega) ?_
    refine X.lload_n 32 i220_31 rfl rfl rfl ?_
    refine X.llF 33 .ladd (fun x y => x + y) i220_32 rfl rfl rfl (fun _ _ => rfl) (fun z552 hz552 => ?_)
    refine X.last' 34 i220_33 rfl rfl (by decide) rfl (by omega) (fun hrm553 m553 hm553 => ?_)
    have hJ554 := w45_19 hJ551 hm553 (by omega) hrm553
    refine X.retv i220_34 rfl t220 ?_
    show X (EE s) d 216 46 [(0, zr 4 44), (1, zl a1), (3, zl a2), (5, zl a3), (7, zi v504), (8, zl z506)] [] m553 _
    refine X.lload_n 47 i216_46 rfl rfl rfl ?_
    refine X.lconst (y := 0) 48 i216_47 rfl rfl rfl ?_
    refine X.lcmp 49 i216_48 rfl rfl (fun z555 hz555 => ?_)
    refine X.ifge 61 52 i216_49 rfl rfl rfl (fun h556 => ?_) (fun h556 => (by exfalso; omega))
    have h556c : a1 ≥ 0 := by omega
    clear h556 hz555
    refine X.aload_n 62 i216_61 rfl rfl rfl ?_
    refine X.iconst 63 i216_62 rfl rfl (by decide) ?_
    refine X.lload_n 64 i216_63 rfl rfl rfl ?_
    refine X.lload_n 65 i216_64 rfl rfl rfl ?_
    refine X.calls 68 [zl a1, zl a2] [zi 1, zr 4 44] [(0, zl a1), (2, zl a2)] i216_65 (by decide) rfl rfl (by omega) rfl rfl t221 (Nat.le_of_ble_eq_true rfl) (Nat.le_of_ble_eq_true rfl) rfl ?_
    refine X.lload_n 1 i221_0 rfl rfl rfl ?_
    refine X.lconst (y := 0) 2 i221_1 rfl rfl rfl ?_
    refine X.lcmp 3 i221_2 rfl rfl (fun z557 hz557 => ?_)
    refine X.iflt 20 6 i221_3 rfl rfl rfl (fun h558 => (by exfalso; omega)) (fun h558 => ?_)
    have h558c : a1 ≥ 0 := by omega
    clear h558 hz557
    refine X.lload_n 7 i221_6 rfl rfl rfl ?_
    refine X.lconst (y := 0) 8 i221_7 rfl rfl rfl ?_
    refine X.lcmp 9 i221_8 rfl rfl (fun z559 hz559 => ?_)
    refine X.iflt 16 12 i221_9 rfl rfl rfl (fun h560 => (by exfalso; omega)) (fun h560 => ?_)
    have h560c : a2 ≥ 0 := by omega
    clear h560 hz559
    refine X.iconst 13 i221_12 rfl rfl (by decide) ?_
    refine X.goto 31 i221_13 rfl rfl ?_
    refine X.cut [] i221_31 rfl ?_
    refine X.reti i221_31 rfl t221 ?_
    show X (EE s) d 216 68 [(0, zr 4 44), (1, zl a1), (3, zl a2), (5, zl a3), (7, zi v504), (8, zl z506)] [zi 1, zi 1, zr 4 44] m553 _
    refine X.iadd 69 i216_68 rfl rfl (by omega) ?_
    refine X.iload 71 i216_69 rfl rfl rfl ?_
    refine X.lload_n 72 i216_71 rfl rfl rfl ?_
    refine X.calls 75 [zl a2] [zi v504, zi (1 + 1), zr 4 44] [(0, zl a2)] i216_72 (by decide) rfl rfl (by omega) rfl rfl t215 (Nat.le_of_ble_eq_true rfl) (Nat.le_of_ble_eq_true rfl) rfl ?_
    refine X.lload_n 1 i215_0 rfl rfl rfl ?_
    refine X.lconst (y := 0) 2 i215_1 rfl rfl rfl ?_
    refine X.lcmp 3 i215_2 rfl rfl (fun z561 hz561 => ?_)
    refine X.ifge 11 6 i215_3 rfl rfl rfl (fun h562 => ?_) (fun h562 => (by exfalso; omega))
    have h562c : a2 ≥ 0 := by omega
    clear h562 hz561
    refine X.lload_n 12 i215_11 rfl rfl rfl ?_
    refine X.cut [] i215_12 rfl ?_
    refine X.retl i215_12 rfl t215 ?_
    show X (EE s) d 216 75 [(0, zr 4 44), (1, zl a1), (3, zl a2), (5, zl a3), (7, zi v504), (8, zl z506)] [zl a2, zi v504, zi (1 + 1), zr 4 44] m553 _
    refine X.callv 78 [zi (1 + 1), zi v504, zl a2] [] [(0, zr 4 44), (1, zi (1 + 1)), (2, zi v504), (3, zl a2)] i216_75 rfl (by decide) rfl rfl (by omega) rfl rfl (by decide) rfl t220 (Nat.le_of_ble_eq_true rfl) (Nat.le_of_ble_eq_true rfl) rfl ?_
    refine X.aload_n 1 i220_0 rfl rfl rfl ?_
    refine X.getF 4 i220_1 rfl rfl (by decide) rfl rfl ?_
    refine X.bipush 6 i220_4 rfl rfl (by decide) ?_
    refine X.iconst 7 i220_6 rfl rfl (by decide) ?_
    refine X.iload_n 8 i220_7 rfl rfl rfl ?_
    refine X.imul 9 i220_8 rfl rfl (by omega) ?_
    refine X.iadd 10 i220_9 rfl rfl (by omega) ?_
    refine X.iload_n 11 i220_10 rfl rfl rfl ?_
    refine X.iadd 12 i220_11 rfl rfl (by omega) ?_
    refine X.dup2 13 i220_12 rfl rfl ?_
    refine X.lald 14 i220_13 rfl rfl (by decide) rfl (by omega) ?_
    refine X.lload_n 15 i220_14 rfl rfl rfl ?_
    refine X.llF 16 .ladd (fun x y => x + y) i220_15 rfl rfl rfl (fun _ _ => rfl) (fun z563 hz563 => ?_)
    refine X.last' 17 i220_16 rfl rfl (by decide) rfl (by omega) (fun hrm564 m564 hm564 => ?_)
    have hJ565 := w45_19 hJ554 hm564 (by omega) hrm564
    refine X.aload_n 18 i220_17 rfl rfl rfl ?_
    refine X.getF 21 i220_18 rfl rfl (by decide) rfl rfl ?_
    refine X.bipush 23 i220_21 rfl rfl (by decide) ?_
    refine X.iconst 24 i220_23 rfl rfl (by decide) ?_
    refine X.iload_n 25 i220_24 rfl rfl rfl ?_
    refine X.imul 26 i220_25 rfl rfl (by omega) ?_
    refine X.iadd 27 i220_26 rfl rfl (by omega) ?_
    refine X.iconst 28 i220_27 rfl rfl (by decide) ?_
    refine X.iadd 29 i220_28 rfl rfl (by omega) ?_
    refine X.dup2 30 i220_29 rfl rfl ?_
    refine X.lald 31 i220_30 rfl rfl (by decide) rfl (by omega) ?_
    refine X.lload_n 32 i220_31 rfl rfl rfl ?_
    refine X.llF 33 .ladd (fun x y => x + y) i220_32 rfl rfl rfl (fun _ _ => rfl) (fun z566 hz566 => ?_)
    refine X.last' 34 i220_33 rfl rfl (by decide) rfl (by omega) (fun hrm567 m567 hm567 => ?_)
    have hJ568 := w45_19 hJ565 hm567 (by omega) hrm567
    refine X.retv i220_34 rfl t220 ?_
    show X (EE s) d 216 78 [(0, zr 4 44), (1, zl a1), (3, zl a2), (5, zl a3), (7, zi v504), (8, zl z506)] [] m567 _
    refine X.aload_n 79 i216_78 rfl rfl rfl ?_
    refine X.bipush 81 i216_79 rfl rfl (by decide) ?_
    refine X.iload 83 i216_81 rfl rfl rfl ?_
    refine X.lload 85 i216_83 rfl rfl rfl ?_
    refine X.callv 88 [zi 6, zi v504, zl a3] [] [(0, zr 4 44), (1, zi 6), (2, zi v504), (3, zl a3)] i216_85 rfl (by decide) rfl rfl (by omega) rfl rfl (by decide) rfl t220 (Nat.le_of_ble_eq_true rfl) (Nat.le_of_ble_eq_true rfl) rfl ?_
    refine X.aload_n 1 i220_0 rfl rfl rfl ?_
    refine X.getF 4 i220_1 rfl rfl (by decide) rfl rfl ?_
    refine X.bipush 6 i220_4 rfl rfl (by decide) ?_
    refine X.iconst 7 i220_6 rfl rfl (by decide) ?_
    refine X.iload_n 8 i220_7 rfl rfl rfl ?_
    refine X.imul 9 i220_8 rfl rfl (by omega) ?_
    refine X.iadd 10 i220_9 rfl rfl (by omega) ?_
    refine X.iload_n 11 i220_10 rfl rfl rfl ?_
    refine X.iadd 12 i220_11 rfl rfl (by omega) ?_
    refine X.dup2 13 i220_12 rfl rfl ?_
    refine X.lald 14 i220_13 rfl rfl (by decide) rfl (by omega) ?_
    refine X.lload_n 15 i220_14 rfl rfl rfl ?_
    refine X.llF 16 .ladd (fun x y => x + y) i220_15 rfl rfl rfl (fun _ _ => rfl) (fun z569 hz569 => ?_)
    refine X.last' 17 i220_16 rfl rfl (by decide) rfl (by omega) (fun hrm570 m570 hm570 => ?_)
    have hJ571 := w45_19 hJ568 hm570 (by omega) hrm570
    refine X.aload_n 18 i220_17 rfl rfl rfl ?_
    refine X.getF 21 i220_18 rfl rfl (by decide) rfl rfl ?_
    refine X.bipush 23 i220_21 rfl rfl (by decide) ?_
    refine X.iconst 24 i220_23 rfl rfl (by decide) ?_
    refine X.iload_n 25 i220_24 rfl rfl rfl ?_
    refine X.imul 26 i220_25 rfl rfl (by omega) ?_
    refine X.iadd 27 i220_26 rfl rfl (by omega) ?_
    refine X.iconst 28 i220_27 rfl rfl (by decide) ?_
    refine X.iadd 29 i220_28 rfl rfl (by omega) ?_
    refine X.dup2 30 i220_29 rfl rfl ?_
    refine X.lald 31 i220_30 rfl rfl (by decide) rfl (by omega) ?_
    refine X.lload_n 32 i220_31 rfl rfl rfl ?_
    refine X.llF 33 .ladd (fun x y => x + y) i220_32 rfl rfl rfl (fun _ _ => rfl) (fun z572 hz572 => ?_)
    refine X.last' 34 i220_33 rfl rfl (by decide) rfl (by omega) (fun hrm573 m573 hm573 => ?_)
    have hJ574 := w45_19 hJ571 hm573 (by omega) hrm573
    refine X.retv i220_34 rfl t220 ?_
    show X (EE s) d 216 88 [(0, zr 4 44), (1, zl a1), (3, zl a2), (5, zl a3), (7, zi v504), (8, zl z506)] [] m573 _
    refine X.aload_n 89 i216_88 rfl rfl rfl ?_
    refine X.getF 92 i216_89 rfl rfl (by decide) rfl rfl ?_
    refine X.bipush 94 i216_92 rfl rfl (by decide) ?_
    refine X.dup2 95 i216_94 rfl rfl ?_
    refine X.lald 96 i216_95 rfl rfl (by decide) rfl (by omega) ?_
    refine X.aload_n 97 i216_96 rfl rfl rfl ?_
    refine X.getF 100 i216_97 rfl rfl (by decide) rfl rfl ?_
    refine X.bipush 102 i216_100 rfl rfl (by decide) ?_
    refine X.iload 104 i216_102 rfl rfl rfl ?_
    refine X.iadd 105 i216_104 rfl rfl (by omega) ?_
    refine X.lald 106 i216_105 rfl rfl (by decide) rfl (by omega) ?_
    refine X.aload_n 107 i216_106 rfl rfl rfl ?_
    refine X.getF 110 i216_107 rfl rfl (by decide) rfl rfl ?_
    refine X.iconst 111 i216_110 rfl rfl (by decide) ?_
    refine X.lald 112 i216_111 rfl rfl (by decide) rfl (by omega) ?_
    have h575 := r45_5 hJ574 4
    refine X.ldivF 113 i216_112 rfl rfl (by omega) (fun z576 => ?_)
    refine X.lload 115 i216_113 rfl rfl rfl ?_
    refine X.llF 116 .lsub (fun x y => x - y) i216_115 rfl rfl rfl (fun _ _ => rfl) (fun z577 hz577 => ?_)
    refine X.aload_n 117 i216_116 rfl rfl rfl ?_
    refine X.getF 120 i216_117 rfl rfl (by decide) rfl rfl ?_
    refine X.bipush 122 i216_120 rfl rfl (by decide) ?_
    refine X.iload 124 i216_122 rfl rfl rfl ?_
    refine X.iadd 125 i216_124 rfl rfl (by omega) ?_
    refine X.lald 126 i216_125 rfl rfl (by decide) rfl (by omega) ?_
    refine X.llF 127 .lmul (fun x y => x * y) i216_126 rfl rfl rfl (fun _ _ => rfl) (fun z578 hz578 => ?_)
    refine X.llF 128 .lsub (fun x y => x - y) i216_127 rfl rfl rfl (fun _ _ => rfl) (fun z579 hz579 => ?_)
    refine X.last' 129 i216_128 rfl rfl (by decide) rfl (by omega) (fun hrm580 m580 hm580 => ?_)
    have hJ581 := w45_10 hJ574 hm580 hrm580
    refine X.aload_n 130 i216_129 rfl rfl rfl ?_
    refine X.getF 133 i216_130 rfl rfl (by decide) rfl rfl ?_
    refine X.bipush 135 i216_133 rfl rfl (by decide) ?_
    refine X.dup2 136 i216_135 rfl rfl ?_
    refine X.lald 137 i216_136 rfl rfl (by decide) rfl (by omega) ?_
    refine X.lload_n 138 i216_137 rfl rfl rfl ?_
    refine X.lconst (y := 0) 139 i216_138 rfl rfl rfl ?_
    refine X.lcmp 140 i216_139 rfl rfl (fun z582 hz582 => ?_)
    refine X.ifle 147 143 i216_140 rfl rfl rfl (fun h583 => (by exfalso; omega)) (fun h583 => ?_)
    have h583c : a1 > 0 := by omega
    clear h583 hz582
    refine X.lload_n 144 i216_143 rfl rfl rfl ?_
    refine X.goto 148 i216_144 rfl rfl ?_
    refine X.cut [(0, zr 4 44), (1, zl a1), (5, zl a3)] i216_148 rfl ?_
    refine X.llF 149 .ladd (fun x y => x + y) i216_148 rfl rfl rfl (fun _ _ => rfl) (fun z584 hz584 => ?_)
    refine X.last' 150 i216_149 rfl rfl (by decide) rfl (by omega) (fun hrm585 m585 hm585 => ?_)
    have hJ586 := w45_19 hJ581 hm585 (by omega) hrm585
    refine X.aload_n 151 i216_150 rfl rfl rfl ?_
    refine X.getF 154 i216_151 rfl rfl (by decide) rfl rfl ?_
    refine X.bipush 156 i216_154 rfl rfl (by decide) ?_
    refine X.dup2 157 i216_156 rfl rfl ?_
    refine X.lald 158 i216_157 rfl rfl (by decide) rfl (by omega) ?_
    refine X.lload_n 159 i216_158 rfl rfl rfl ?_
    refine X.lconst (y := 0) 160 i216_159 rfl rfl rfl ?_
    refine X.lcmp 161 i216_160 rfl rfl (fun z587 hz587 => ?_)
    refine X.ifge 169 164 i216_161 rfl rfl rfl (fun h588 => ?_) (fun h588 => (by exfalso; omega))
    have h588c : a1 ≥ 0 := by omega
    clear h588 hz587
    refine X.cut [(0, zr 4 44), (5, zl a3)] i216_169 rfl ?_
    refine X.lconst (y := 0) 170 i216_169 rfl rfl rfl ?_
    refine X.llF 171 .ladd (fun x y => x + y) i216_170 rfl rfl rfl (fun _ _ => rfl) (fun z589 hz589 => ?_)
    refine X.last' 172 i216_171 rfl rfl (by decide) rfl (by omega) (fun hrm590 m590 hm590 => ?_)
    have hJ591 := w45_19 hJ586 hm590 (by omega) hrm590
    refine X.aload_n 173 i216_172 rfl rfl rfl ?_
    refine X.getF 176 i216_173 rfl rfl (by decide) rfl rfl ?_
    refine X.bipush 178 i216_176 rfl rfl (by decide) ?_
    refine X.dup2 179 i216_178 rfl rfl ?_
    refine X.lald 180 i216_179 rfl rfl (by decide) rfl (by omega) ?_
    refine X.lload 182 i216_180 rfl rfl rfl ?_
    refine X.llF 183 .ladd (fun x y => x + y) i216_182 rfl rfl rfl (fun _ _ => rfl) (fun z592 hz592 => ?_)
    refine X.last' 184 i216_183 rfl rfl (by decide) rfl (by omega) (fun hrm593 m593 hm593 => ?_)
    have hJ594 := w45_19 hJ591 hm593 (by omega) hrm593
    refine X.retv i216_184 rfl t216 ?_
    exact hQ  m593  (hJ594.up (by omega)) 
-- WorkMeterModel.registers
theorem c216_3 {s : Nat × (Nat → Int32)} {S : zS} {m0 m : zM} {B : Int} {d : Nat} {Q : Option zV → zM → Prop} (a1 a2 a3 : Int) (hd : 16 ≤ d) (hJ : J S m0 B m) (hB : B + 0 ≤ 1000000000) (ha1 : 0 ≤ a1) (ha2 : a2 ≤ (-1)) (ha3 : 0 ≤ a3 ∧ a3 ≤ 3000000000) (hQ : ∀ m', J S m0 (B) m' → Q none m') : X (EE s) d 216 0 [(0, zr 4 44), (1, zl a1), (3, zl a2), (5, zl a3)] [] m Q := by
  refine X.aload_n 1 i216_0 rfl rfl rfl ?_
  refine X.aload_n 2 i216_1 rfl rfl rfl ?_
  refine X.getF 5 i216_2 rfl rfl (by decide) rfl rfl ?_
  refine X.iconst 6 i216_5 rfl rfl (by decide) ?_
  refine X.lald 7 i216_6 rfl rfl (by decide) rfl (by omega) ?_
  have h501 := r45_0 hJ 4
  refine X.l2i 8 i216_7 rfl rfl (by omega) ?_
  refine X.callv 11 [zi (m 4 45 0)] [] [(0, zr 4 44), (1, zi (m 4 45 0))] i216_8 rfl (by decide) rfl rfl (by omega) rfl rfl (by decide) rfl t217 (Nat.le_of_ble_eq_true rfl) (Nat.le_of_ble_eq_true rfl) rfl ?_
  refine c217_1 (B := B)  (m 4 45 0) (by omega) (hJ.up (by omega)) (by omega) (by omega) (fun v504 hv504 => ?_)
  show X (EE s) d 216 11 [(0, zr 4 44), (1, zl a1), (3, zl a2), (5, zl a3)] [zi v504] m _
  refine X.istore 13 [(0, zr 4 44), (1, zl a1), (3, zl a2), (5, zl a3), (7, zi v504)] i216_11 rfl rfl rfl ?_
  refine X.aload_n 14 i216_13 rfl rfl rfl ?_
  refine X.getF 17 i216_14 rfl rfl (by decide) rfl rfl ?_
  refine X.bipush 19 i216_17 rfl rfl (by decide) ?_
  refine X.iload 21 i216_19 rfl rfl rfl ?_
  refine X.iadd 22 i216_21 rfl rfl (by omega) ?_
  refine X.lald 23 i216_22 rfl rfl (by decide) rfl (by omega) ?_
  refine X.aload_n 24 i216_23 rfl rfl rfl ?_
  refine X.getF 27 i216_24 rfl rfl (by decide) rfl rfl ?_
  refine X.iconst 28 i216_27 rfl rfl (by decide) ?_
  refine X.lald 29 i216_28 rfl rfl (by decide) rfl (by omega) ?_
  have h505 := r45_5 hJ 4
  refine X.ldivF 30 i216_29 rfl rfl (by omega) (fun z506 => ?_)
  refine X.lstore 32 [(0, zr 4 44), (1, zl a1), (3, zl a2), (5, zl a3), (7, zi v504), (8, zl z506)] i216_30 rfl rfl rfl ?_
  refine X.lload_n 33 i216_32 rfl rfl rfl ?_
  refine X.lconst (y := 0) 34 i216_33 rfl rfl rfl ?_
  refine X.lcmp 35 i216_34 rfl rfl (fun z507 hz507 => ?_)
  refine X.ifle 46 38 i216_35 rfl rfl rfl (fun h508 => ?_) (fun h508 => ?_)
  · have h508c : a1 ≤ 0 := by omega
    clear h508 hz507
    refine X.lload_n 47 i216_46 rfl rfl rfl ?_
    refine X.lconst (y := 0) 48 i216_47 rfl rfl rfl ?_
    refine X.lcmp 49 i216_48 rfl rfl (fun z509 hz509 => ?_)
    refine X.ifge 61 52 i216_49 rfl rfl rfl (fun h510 => ?_) (fun h510 => (by exfalso; omega))
    have h510c : a1 ≥ 0 := by omega
    clear h510 hz509
    refine X.aload_n 62 i216_61 rfl rfl rfl ?_
    refine X.iconst 63 i216_62 rfl rfl (by decide) ?_
    refine X.lload_n 64 i216_63 rfl rfl rfl ?_
    refine X.lload_n 65 i216_64 rfl rfl rfl ?_
    refine X.calls 68 [zl a1, zl a2] [zi 1, zr 4 44] [(0, zl a1), (2, zl a2)] i216_65 (by decide) rfl rfl (by omega) rfl rfl t221 (Nat.le_of_ble_eq_true rfl) (Nat.le_of_ble_eq_true rfl) rfl ?_
    refine X.lload_n 1 i221_0 rfl rfl rfl ?_
    refine X.lconst (y := 0) 2 i221_1 rfl rfl rfl ?_
    refine X.lcmp 3 i221_2 rfl rfl (fun z511 hz511 => ?_)
    refine X.iflt 20 6 i221_3 rfl rfl rfl (fun h512 => (by exfalso; omega)) (fun h512 => ?_)
    have h512c : a1 ≥ 0 := by omega
    clear h512 hz511
    refine X.lload_n 7 i221_6 rfl rfl rfl ?_
    refine X.lconst (y := 0) 8 i221_7 rfl rfl rfl ?_
    refine X.lcmp 9 i221_8 rfl rfl (fun z513 hz513 => ?_)
    refine X.iflt 16 12 i221_9 rfl rfl rfl (fun h514 => ?_) (fun h514 => (by exfalso; omega))
    have h514c : a2 < 0 := by omega
    clear h514 hz513
    refine X.cut [] i221_16 rfl ?_
    refine X.iconst 17 i221_16 rfl rfl (by decide) ?_
    refine X.goto 31 i221_17 rfl rfl ?_
    refine X.reti i221_31 rfl t221 ?_
    show X (EE s) d 216 68 [(0, zr 4 44), (1, zl a1), (3, zl a2), (5, zl a3), (7, zi v504), (8, zl z506)] [zi 4, zi 1, zr 4 44] m _
    refine X.iadd 69 i216_68 rfl rfl (by omega) ?_
    refine X.iload 71 i216_69 rfl rfl rfl ?_
    refine X.lload_n 72 i216_71 rfl rfl rfl ?_
    refine X.calls 75 [zl a2] [zi v504, zi (1 + 4), zr 4 44] [(0, zl a2)] i216_72 (by decide) rfl rfl (by omega) rfl rfl t215 (Nat.le_of_ble_eq_true rfl) (Nat.le_of_ble_eq_true rfl) rfl ?_
    refine X.lload_n 1 i215_0 rfl rfl rfl ?_
    refine X.lconst (y := 0) 2 i215_1 rfl rfl rfl ?_
    refine X.lcmp 3 i215_2 rfl rfl (fun z515 hz515 => ?_)
    refine X.ifge 11 6 i215_3 rfl rfl rfl (fun h516 => (by exfalso; omega)) (fun h516 => ?_)
    have h516c : a2 < 0 := by omega
    clear h516 hz515
    refine X.lload_n 7 i215_6 rfl rfl rfl ?_
    refine X.lnegF 8 i215_7 rfl rfl (fun z517 hz517 => ?_)
    refine X.goto 12 i215_8 rfl rfl ?_
    refine X.cut [] i215_12 rfl ?_
    refine X.retl i215_12 rfl t215 ?_
    show X (EE s) d 216 75 [(0, zr 4 44), (1, zl a1), (3, zl a2), (5, zl a3), (7, zi v504), (8, zl z506)] [zl z517, zi v504, zi (1 + 4), zr 4 44] m _
    refine X.callv 78 [zi (1 + 4), zi v504, zl z517] [] [(0, zr 4 44), (1, zi (1 + 4)), (2, zi v504), (3, zl z517)] i216_75 rfl (by decide) rfl rfl (by omega) rfl rfl (by decide) rfl t220 (Nat.le_of_ble_eq_true rfl) (Nat.le_of_ble_eq_true rfl) rfl ?_
    refine X.aload_n 1 i220_0 rfl rfl rfl ?_
    refine X.getF 4 i220_1 rfl rfl (by decide) rfl rfl ?_
    refine X.bipush 6 i220_4 rfl rfl (by decide) ?_
    refine X.iconst 7 i220_6 rfl rfl (by decide) ?_
    refine X.iload_n 8 i220_7 rfl rfl rfl ?_
    refine X.imul 9 i220_8 rfl rfl (by omega) ?_
    refine X.iadd 10 i220_9 rfl rfl (by omega) ?_
    refine X.iload_n 11 i220_10 rfl rfl rfl ?_
    refine X.iadd 12 i220_11 rfl rfl (by omega) ?_
    refine X.dup2 13 i220_12 rfl rfl ?_
    refine X.lald 14 i220_13 rfl rfl (by decide) rfl (by omega) ?_
    refine X.lload_n 15 i220_14 rfl rfl rfl ?_
    refine X.llF 16 .ladd (fun x y => x + y) i220_15 rfl rfl rfl (fun _ _ => rfl) (fun z518 hz518 => ?_)
    refine X.last' 17 i220_16 rfl rfl (by decide) rfl (by omega) (fun hrm519 m519 hm519 => ?_)
    have hJ520 := w45_19 hJ hm519 (by omega) hrm519
    refine X.aload_n 18 i220_17 rfl rfl rfl ?_
    refine X.getF 21 i220_18 rfl rfl (by decide) rfl rfl ?_
    refine X.bipush 23 i220_21 rfl rfl (by decide) ?_
    refine X.iconst 24 i220_23 rfl rfl (by decide) ?_
    refine X.iload_n 25 i220_24 rfl rfl rfl ?_
    refine X.imul 26 i220_25 rfl rfl (by omega) ?_
    refine X.iadd 27 i220_26 rfl rfl (by omega) ?_
    refine X.iconst 28 i220_27 rfl rfl (by decide) ?_
    refine X.iadd 29 i220_28 rfl rfl (by omega) ?_
    refine X.dup2 30 i220_29 rfl rfl ?_
    refine X.lald 31 i220_30 rfl rfl (by decide) rfl (by omega) ?_
    refine X.lload_n 32 i220_31 rfl rfl rfl ?_
    refine X.llF 33 .ladd (fun x y => x + y) i220_32 rfl rfl rfl (fun _ _ => rfl) (fun z521 hz521 => ?_)
    refine X.last' 34 i220_33 rfl rfl (by decide) rfl (by omega) (fun hrm522 m522 hm522 => ?_)
    have hJ523 := w45_19 hJ520 hm522 (by omega) hrm522
    refine X.retv i220_34 rfl t220 ?_
    show X (EE s) d 216 78 [(0, zr 4 44), (1, zl a1), (3, zl a2), (5, zl a3), (7, zi v504), (8, zl z506)] [] m522 _
    refine X.aload_n 79 i216_78 rfl rfl rfl ?_
    refine X.bipush 81 i216_79 rfl rfl (by decide) ?_
    refine X.iload 83 i216_81 rfl rfl rfl ?_
    refine X.lload 85 i216_83 rfl rfl rfl ?_
    refine X.callv 88 [zi 6, zi v504, zl a3] [] [(0, zr 4 44), (1, zi 6), (2, zi v504), (3, zl a3)] i216_85 rfl (by decide) rfl rfl (by omega) rfl rfl (by decide) rfl t220 (Nat.le_of_ble_eq_true rfl) (Nat.le_of_ble_eq_true rfl) rfl ?_
    refine X.aload_n 1 i220_0 rfl rfl rfl ?_
    refine X.getF 4 i220_1 rfl rfl (by decide) rfl rfl ?_
    refine X.bipush 6 i220_4 rfl rfl (by decide) ?_
    refine X.iconst 7 i220_6 rfl rfl (by decide) ?_
    refine X.iload_n 8 i220_7 rfl rfl rfl ?_
    refine X.imul 9 i220_8 rfl rfl (by omega) ?_
    refine X.iadd 10 i220_9 rfl rfl (by omega) ?_
    refine X.iload_n 11 i220_10 rfl rfl rfl ?_
    refine X.iadd 12 i220_11 rfl rfl (by omega) ?_
    refine X.dup2 13 i220_12 rfl rfl ?_
    refine X.lald 14 i220_13 rfl rfl (by decide) rfl (by omega) ?_
    refine X.lload_n 15 i220_14 rfl rfl rfl ?_
    refine X.llF 16 .ladd (fun x y => x + y) i220_15 rfl rfl rfl (fun _ _ => rfl) (fun z524 hz524 => ?_)
    refine X.last' 17 i220_16 rfl rfl (by decide) rfl (by omega) (fun hrm525 m525 hm525 => ?_)
    have hJ526 := w45_19 hJ523 hm525 (by omega) hrm525
    refine X.aload_n 18 i220_17 rfl rfl rfl ?_
    refine X.getF 21 i220_18 rfl rfl (by decide) rfl rfl ?_
    refine X.bipush 23 i220_21 rfl rfl (by decide) ?_
    refine X.iconst 24 i220_23 rfl rfl (by decide) ?_
    refine X.iload_n 25 i220_24 rfl rfl rfl ?_
    refine X.imul 26 i220_25 rfl rfl (by omega) ?_
    refine X.iadd 27 i220_26 rfl rfl (by omega) ?_
    refine X.iconst 28 i220_27 rfl rfl (by decide) ?_
    refine X.iadd 29 i220_28 rfl rfl (by omega) ?_
    refine X.dup2 30 i220_29 rfl rfl ?_
    refine X.lald 31 i220_30 rfl rfl (by decide) rfl (by omega) ?_
    refine X.lload_n 32 i220_31 rfl rfl rfl ?_
    refine X.llF 33 .ladd (fun x y => x + y) i220_32 rfl rfl rfl (fun _ _ => rfl) (fun z527 hz527 => ?_)
    refine X.last' 34 i220_33 rfl rfl (by decide) rfl (by omega) (fun hrm528 m528 hm528 => ?_)
    have hJ529 := w45_19 hJ526 hm528 (by omega) hrm528
    refine X.retv i220_34 rfl t220 ?_
    show X (EE s) d 216 88 [(0, zr 4 44), (1, zl a1), (3, zl a2), (5, zl a3), (7, zi v504), (8, zl z506)] [] m528 _
    refine X.aload_n 89 i216_88 rfl rfl rfl ?_
    refine X.getF 92 i216_89 rfl rfl (by decide) rfl rfl ?_
    refine X.bipush 94 i216_92 rfl rfl (by decide) ?_
    refine X.dup2 95 i216_94 rfl rfl ?_
    refine X.lald 96 i216_95 rfl rfl (by decide) rfl (by omega) ?_
    refine X.aload_n 97 i216_96 rfl rfl rfl ?_
    refine X.getF 100 i216_97 rfl rfl (by decide) rfl rfl ?_
    refine X.bipush 102 i216_100 rfl rfl (by decide) ?_
    refine X.iload 104 i216_102 rfl rfl rfl ?_
    refine X.iadd 105 i216_104 rfl rfl (by omega) ?_
    refine X.lald 106 i216_105 rfl rfl (by decide) rfl (by omega) ?_
    refine X.aload_n 107 i216_106 rfl rfl rfl ?_
    refine X.getF 110 i216_107 rfl rfl (by decide) rfl rfl ?_
    refine X.iconst 111 i216_110 rfl rfl (by decide) ?_
    refine X.lald 112 i216_111 rfl rfl (by decide) rfl (by omega) ?_
    have h530 := r45_5 hJ529 4
    refine X.ldivF 113 i216_112 rfl rfl (by omega) (fun z531 => ?_)
    refine X.lload 115 i216_113 rfl rfl rfl ?_
    refine X.llF 116 .lsub (fun x y => x - y) i216_115 rfl rfl rfl (fun _ _ => rfl) (fun z532 hz532 => ?_)
    refine X.aload_n 117 i216_116 rfl rfl rfl ?_
    refine X.getF 120 i216_117 rfl rfl (by decide) rfl rfl ?_
    refine X.bipush 122 i216_120 rfl rfl (by decide) ?_
    refine X.iload 124 i216_122 rfl rfl rfl ?_
    refine X.iadd 125 i216_124 rfl rfl (by omega) ?_
    refine X.lald 126 i216_125 rfl rfl (by decide) rfl (by omega) ?_
    refine X.llF 127 .lmul (fun x y => x * y) i216_126 rfl rfl rfl (fun _ _ => rfl) (fun z533 hz533 => ?_)
    refine X.llF 128 .lsub (fun x y => x - y) i216_127 rfl rfl rfl (fun _ _ => rfl) (fun z534 hz534 => ?_)
    refine X.last' 129 i216_128 rfl rfl (by decide) rfl (by omega) (fun hrm535 m535 hm535 => ?_)
    have hJ536 := w45_10 hJ529 hm535 hrm535
    refine X.aload_n 130 i216_129 rfl rfl rfl ?_
    refine X.getF 133 i216_130 rfl rfl (by decide) rfl rfl ?_
    refine X.bipush 135 i216_133 rfl rfl (by decide) ?_
    refine X.dup2 136 i216_135 rfl rfl ?_
    refine X.lald 137 i216_136 rfl rfl (by decide) rfl (by omega) ?_
    refine X.lload_n 138 i216_137 rfl rfl rfl ?_
    refine X.lconst (y := 0) 139 i216_138 rfl rfl rfl ?_
    refine X.lcmp 140 i216_139 rfl rfl (fun z537 hz537 => ?_)
    refine X.ifle 147 143 i216_140 rfl rfl rfl (fun h538 => ?_) (fun h538 => (by exfalso; omega))
    have h538c : a1 ≤ 0 := by omega
    clear h538 hz537
    refine X.cut [(0, zr 4 44), (1, zl a1), (5, zl a3)] i216_147 rfl ?_
    refine X.lconst (y := 0) 148 i216_147 rfl rfl rfl ?_
    refine X.llF 149 .ladd (fun x y => x + y) i216_148 rfl rfl rfl (fun _ _ => rfl) (fun z539 hz539 => ?_)
    refine X.last' 150 i216_149 rfl rfl (by decide) rfl (by omega) (fun hrm540 m540 hm540 => ?_)
    have hJ541 := w45_19 hJ536 hm540 (by omega) hrm540
    refine X.aload_n 151 i216_150 rfl rfl rfl ?_
    refine X.getF 154 i216_151 rfl rfl (by decide) rfl rfl ?_
    refine X.bipush 156 i216_154 rfl rfl (by decide) ?_
    refine X.dup2 157 i216_156 rfl rfl ?_
    refine X.lald 158 i216_157 rfl rfl (by decide) rfl (by omega) ?_
    refine X.lload_n 159 i216_158 rfl rfl rfl ?_
    refine X.lconst (y := 0) 160 i216_159 rfl rfl rfl ?_
    refine X.lcmp 161 i216_160 rfl rfl (fun z542 hz542 => ?_)
    refine X.ifge 169 164 i216_161 rfl rfl rfl (fun h543 => ?_) (fun h543 => (by exfalso; omega))
    have h543c : a1 ≥ 0 := by omega
    clear h543 hz542
    refine X.cut [(0, zr 4 44), (5, zl a3)] i216_169 rfl ?_
    refine X.lconst (y := 0) 170 i216_169 rfl rfl rfl ?_
    refine X.llF 171 .ladd (fun x y => x + y) i216_170 rfl rfl rfl (fun _ _ => rfl) (fun z544 hz544 => ?_)
    refine X.last' 172 i216_171 rfl rfl (by decide) rfl (by omega) (fun hrm545 m545 hm545 => ?_)
    have hJ546 := w45_19 hJ541 hm545 (by omega) hrm545
    refine X.aload_n 173 i216_172 rfl rfl rfl ?_
    refine X.getF 176 i216_173 rfl rfl (by decide) rfl rfl ?_
    refine X.bipush 178 i216_176 rfl rfl (by decide) ?_
    refine X.dup2 179 i216_178 rfl rfl ?_
    refine X.lald 180 i216_179 rfl rfl (by decide) rfl (by omega) ?_
    refine X.lload 182 i216_180 rfl rfl rfl ?_
    refine X.llF 183 .ladd (fun x y => x + y) i216_182 rfl rfl rfl (fun _ _ => rfl) (fun z547 hz547 => ?_)
    refine X.last' 184 i216_183 rfl rfl (by decide) rfl (by omega) (fun hrm548 m548 hm548 => ?_)
    have hJ549 := w45_19 hJ546 hm548 (by omega) hrm548
    refine X.retv i216_184 rfl t216 ?_
    exact hQ  m548  (hJ549.up (by omega)) 
  · have h508c : a1 > 0 := by omega
    clear h508 hz507
    refine X.aload_n 39 i216_38 rfl rfl rfl ?_
    refine X.iconst 40 i216_39 rfl rfl (by decide) ?_
    refine X.iload 42 i216_40 rfl rfl rfl ?_
    refine X.lload_n 43 i216_42 rfl rfl rfl ?_
    refine X.callv 46 [zi 0, zi v504, zl a1] [] [(0, zr 4 44), (1, zi 0), (2, zi v504), (3, zl a1)] i216_43 rfl (by decide) rfl rfl (by omega) rfl rfl (by decide) rfl t220 (Nat.le_of_ble_eq_true rfl) (Nat.le_of_ble_eq_true rfl) rfl ?_
    refine X.aload_n 1 i220_0 rfl rfl rfl ?_
    refine X.getF 4 i220_1 rfl rfl (by decide) rfl rfl ?_
    refine X.bipush 6 i220_4 rfl rfl (by decide) ?_
    refine X.iconst 7 i220_6 rfl rfl (by decide) ?_
    refine X.iload_n 8 i220_7 rfl rfl rfl ?_
    refine X.imul 9 i220_8 rfl rfl (by omega) ?_
    refine X.iadd 10 i220_9 rfl rfl (by omega) ?_
    refine X.iload_n 11 i220_10 rfl rfl rfl ?_
    refine X.iadd 12 i220_11 rfl rfl (by omega) ?_
    refine X.dup2 13 i220_12 rfl rfl ?_
    refine X.lald 14 i220_13 rfl rfl (by decide) rfl (by omega) ?_
    refine X.lload_n 15 i220_14 rfl rfl rfl ?_
    refine X.llF 16 .ladd (fun x y => x + y) i220_15 rfl rfl rfl (fun _ _ => rfl) (fun z550 hz550 => ?_)
    refine X.last' 17 i220_16 rfl rfl (by decide) rfl (by omega) (fun hrm551 m551 hm551 => ?_)
    have hJ552 := w45_19 hJ hm551 (by omega) hrm551
    refine X.aload_n 18 i220_17 rfl rfl rfl ?_
    refine X.getF 21 i220_18 rfl rfl (by decide) rfl rfl ?_
    refine X.bipush 23 i220_21 rfl rfl (by decide) ?_
    refine X.iconst 24 i220_23 rfl rfl (by decide) ?_
    refine X.iload_n 25 i220_24 rfl rfl rfl ?_
    refine X.imul 26 i220_25 rfl rfl (by omega) ?_
    refine X.iadd 27 i220_26 rfl rfl (by omega) ?_
    refine X.iconst 28 i220_27 rfl rfl (by decide) ?_
    refine X.iadd 29 i220_28 rfl rfl (by omega) ?_
    refine X.dup2 30 i220_29 rfl rfl ?_
    refine X.lald 31 i220_30 rfl rfl (by decide) rfl (by omega) ?_
    refine X.lload_n 32 i220_31 rfl rfl rfl ?_
    refine X.llF 33 .ladd (fun x y => x + y) i220_32 rfl rfl rfl (fun _ _ => rfl) (fun z553 hz553 => ?_)
    refine X.last' 34 i220_33 rfl rfl (by decide) rfl (by omega) (fun hrm554 m554 hm554 => ?_)
    have hJ555 := w45_19 hJ552 hm554 (by omega) hrm554
    refine X.retv i220_34 rfl t220 ?_
    show X (EE s) d 216 46 [(0, zr 4 44), (1, zl a1), (3, zl a2), (5, zl a3), (7, zi v504), (8, zl z506)] [] m554 _
    refine X.lload_n 47 i216_46 rfl rfl rfl ?_
    refine X.lconst (y := 0) 48 i216_47 rfl rfl rfl ?_
    refine X.lcmp 49 i216_48 rfl rfl (fun z556 hz556 => ?_)
    refine X.ifge 61 52 i216_49 rfl rfl rfl (fun h557 => ?_) (fun h557 => (by exfalso; omega))
    have h557c : a1 ≥ 0 := by omega
    clear h557 hz556
    refine X.aload_n 62 i216_61 rfl rfl rfl ?_
    refine X.iconst 63 i216_62 rfl rfl (by decide) ?_
    refine X.lload_n 64 i216_63 rfl rfl rfl ?_
    refine X.lload_n 65 i216_64 rfl rfl rfl ?_
    refine X.calls 68 [zl a1, zl a2] [zi 1, zr 4 44] [(0, zl a1), (2, zl a2)] i216_65 (by decide) rfl rfl (by omega) rfl rfl t221 (Nat.le_of_ble_eq_true rfl) (Nat.le_of_ble_eq_true rfl) rfl ?_
    refine X.lload_n 1 i221_0 rfl rfl rfl ?_
    refine X.lconst (y := 0) 2 i221_1 rfl rfl rfl ?_
    refine X.lcmp 3 i221_2 rfl rfl (fun z558 hz558 => ?_)
    refine X.iflt 20 6 i221_3 rfl rfl rfl (fun h559 => (by exfalso; omega)) (fun h559 => ?_)
    have h559c : a1 ≥ 0 := by omega
    clear h559 hz558
    refine X.lload_n 7 i221_6 rfl rfl rfl ?_
    refine X.lconst (y := 0) 8 i221_7 rfl rfl rfl ?_
    refine X.lcmp 9 i221_8 rfl rfl (fun z560 hz560 => ?_)
    refine X.iflt 16 12 i221_9 rfl rfl rfl (fun h561 => ?_) (fun h561 => (by exfalso; omega))
    have h561c : a2 < 0 := by omega
    clear h561 hz560
    refine X.cut [] i221_16 rfl ?_
    refine X.iconst 17 i221_16 rfl rfl (by decide) ?_
    refine X.goto 31 i221_17 rfl rfl ?_
    refine X.reti i221_31 rfl t221 ?_
    show X (EE s) d 216 68 [(0, zr 4 44), (1, zl a1), (3, zl a2), (5, zl a3), (7, zi v504), (8, zl z506)] [zi 4, zi 1, zr 4 44] m554 _
    refine X.iadd 69 i216_68 rfl rfl (by omega) ?_
    refine X.iload 71 i216_69 rfl rfl rfl ?_
    refine X.lload_n 72 i216_71 rfl rfl rfl ?_
    refine X.calls 75 [zl a2] [zi v504, zi (1 + 4), zr 4 44] [(0, zl a2)] i216_72 (by decide) rfl rfl (by omega) rfl rfl t215 (Nat.le_of_ble_eq_true rfl) (Nat.le_of_ble_eq_true rfl) rfl ?_
    refine X.lload_n 1 i215_0 rfl rfl rfl ?_
    refine X.lconst (y := 0) 2 i215_1 rfl rfl rfl ?_
    refine X.lcmp 3 i215_2 rfl rfl (fun z562 hz562 => ?_)
    refine X.ifge 11 6 i215_3 rfl rfl rfl (fun h563 => (by exfalso; omega)) (fun h563 => ?_)
    have h563c : a2 < 0 := by omega
    clear h563 hz562
    refine X.lload_n 7 i215_6 rfl rfl rfl ?_
    refine X.lnegF 8 i215_7 rfl rfl (fun z564 hz564 => ?_)
    refine X.goto 12 i215_8 rfl rfl ?_
    refine X.cut [] i215_12 rfl ?_
    refine X.retl i215_12 rfl t215 ?_
    show X (EE s) d 216 75 [(0, zr 4 44), (1, zl a1), (3, zl a2), (5, zl a3), (7, zi v504), (8, zl z506)] [zl z564, zi v504, zi (1 + 4), zr 4 44] m554 _
    refine X.callv 78 [zi (1 + 4), zi v504, zl z564] [] [(0, zr 4 44), (1, zi (1 + 4)), (2, zi v504), (3, zl z564)] i216_75 rfl (by decide) rfl rfl (by omega) rfl rfl (by decide) rfl t220 (Nat.le_of_ble_eq_true rfl) (Nat.le_of_ble_eq_true rfl) rfl ?_
    refine X.aload_n 1 i220_0 rfl rfl rfl ?_
    refine X.getF 4 i220_1 rfl rfl (by decide) rfl rfl ?_
    refine X.bipush 6 i220_4 rfl rfl (by decide) ?_
    refine X.iconst 7 i220_6 rfl rfl (by decide) ?_
    refine X.iload_n 8 i220_7 rfl rfl rfl ?_
    refine X.imul 9 i220_8 rfl rfl (by omega) ?_
    refine X.iadd 10 i220_9 rfl rfl (by omega) ?_
    refine X.iload_n 11 i220_10 rfl rfl rfl ?_
    refine X.iadd 12 i220_11 rfl rfl (by omega) ?_
    refine X.dup2 13 i220_12 rfl rfl ?_
    refine X.lald 14 i220_13 rfl rfl (by decide) rfl (by omega) ?_
    refine X.lload_n 15 i220_14 rfl rfl rfl ?_
    refine X.llF 16 .ladd (fun x y => x + y) i220_15 rfl rfl rfl (fun _ _ => rfl) (fun z565 hz565 => ?_)
    refine X.last' 17 i220_16 rfl rfl (by decide) rfl (by omega) (fun hrm566 m566 hm566 => ?_)
    have hJ567 := w45_19 hJ555 hm566 (by omega) hrm566
    refine X.aload_n 18 i220_17 rfl rfl rfl ?_
    refine X.getF 21 i220_18 rfl rfl (by decide) rfl rfl ?_
    refine X.bipush 23 i220_21 rfl rfl (by decide) ?_
    refine X.iconst 24 i220_23 rfl rfl (by decide) ?_
    refine X.iload_n 25 i220_24 rfl rfl rfl ?_
    refine X.imul 26 i220_25 rfl rfl (by omega) ?_
    refine X.iadd 27 i220_26 rfl rfl (by omega) ?_
    refine X.iconst 28 i220_27 rfl rfl (by decide) ?_
    refine X.iadd 29 i220_28 rfl rfl (by omega) ?_
    refine X.dup2 30 i220_29 rfl rfl ?_
    refine X.lald 31 i220_30 rfl rfl (by decide) rfl (by omega) ?_
    refine X.lload_n 32 i220_31 rfl rfl rfl ?_
    refine X.llF 33 .ladd (fun x y => x + y) i220_32 rfl rfl rfl (fun _ _ => rfl) (fun z568 hz568 => ?_)
    refine X.last' 34 i220_33 rfl rfl (by decide) rfl (by omega) (fun hrm569 m569 hm569 => ?_)
    have hJ570 := w45_19 hJ567 hm569 (by omega) hrm569
    refine X.retv i220_34 rfl t220 ?_
    show X (EE s) d 216 78 [(0, zr 4 44), (1, zl a1), (3, zl a2), (5, zl a3), (7, zi v504), (8, zl z506)] [] m569 _
    refine X.aload_n 79 i216_78 rfl rfl rfl ?_
    refine X.bipush 81 i216_79 rfl rfl (by decide) ?_
    refine X.iload 83 i216_81 rfl rfl rfl ?_
    refine X.lload 85 i216_83 rfl rfl rfl ?_
    refine X.callv 88 [zi 6, zi v504, zl a3] [] [(0, zr 4 44), (1, zi 6), (2, zi v504), (3, zl a3)] i216_85 rfl (by decide) rfl rfl (by omega) rfl rfl (by decide) rfl t220 (Nat.le_of_ble_eq_true rfl) (Nat.le_of_ble_eq_true rfl) rfl ?_
    refine X.aload_n 1 i220_0 rfl rfl rfl ?_
    refine X.getF 4 i220_1 rfl rfl (by decide) rfl rfl ?_
    refine X.bipush 6 i220_4 rfl rfl (by decide) ?_
    refine X.iconst 7 i220_6 rfl rfl (by decide) ?_
    refine X.iload_n 8 i220_7 rfl rfl rfl ?_
    refine X.imul 9 i220_8 rfl rfl (by omega) ?_
    refine X.iadd 10 i220_9 rfl rfl (by omega) ?_
    refine X.iload_n 11 i220_10 rfl rfl rfl ?_
    refine X.iadd 12 i220_11 rfl rfl (by omega) ?_
    refine X.dup2 13 i220_12 rfl rfl ?_
    refine X.lald 14 i220_13 rfl rfl (by decide) rfl (by omega) ?_
    refine X.lload_n 15 i220_14 rfl rfl rfl ?_
    refine X.llF 16 .ladd (fun x y => x + y) i220_15 rfl rfl rfl (fun _ _ => rfl) (fun z571 hz571 => ?_)
    refine X.last' 17 i220_16 rfl rfl (by decide) rfl (by omega) (fun hrm572 m572 hm572 => ?_)
    have hJ573 := w45_19 hJ570 hm572 (by omega) hrm572
    refine X.aload_n 18 i220_17 rfl rfl rfl ?_
    refine X.getF 21 i220_18 rfl rfl (by decide) rfl rfl ?_
    refine X.bipush 23 i220_21 rfl rfl (by decide) ?_
    refine X.iconst 24 i220_23 rfl rfl (by decide) ?_
    refine X.iload_n 25 i220_24 rfl rfl rfl ?_
    refine X.imul 26 i220_25 rfl rfl (by omega) ?_
    refine X.iadd 27 i220_26 rfl rfl (by omega) ?_
    refine X.iconst 28 i220_27 rfl rfl (by decide) ?_
    refine X.iadd 29 i220_28 rfl rfl (by omega) ?_
    refine X.dup2 30 i220_29 rfl rfl ?_
    refine X.lald 31 i220_30 rfl rfl (by decide) rfl (by omega) ?_
    refine X.lload_n 32 i220_31 rfl rfl rfl ?_
    refine X.llF 33 .ladd (fun x y => x + y) i220_32 rfl rfl rfl (fun _ _ => rfl) (fun z574 hz574 => ?_)
    refine X.last' 34 i220_33 rfl rfl (by decide) rfl (by omega) (fun hrm575 m575 hm575 => ?_)
    have hJ576 := w45_19 hJ573 hm575 (by omega) hrm575
    refine X.retv i220_34 rfl t220 ?_
    show X (EE s) d 216 88 [(0, zr 4 44), (1, zl a1), (3, zl a2), (5, zl a3), (7, zi v504), (8, zl z506)] [] m575 _
    refine X.aload_n 89 i216_88 rfl rfl rfl ?_
    refine X.getF 92 i216_89 rfl rfl (by decide) rfl rfl ?_
    refine X.bipush 94 i216_92 rfl rfl (by decide) ?_
    refine X.dup2 95 i216_94 rfl rfl ?_
    refine X.lald 96 i216_95 rfl rfl (by decide) rfl (by omega) ?_
    refine X.aload_n 97 i216_96 rfl rfl rfl ?_
    refine X.getF 100 i216_97 rfl rfl (by decide) rfl rfl ?_
    refine X.bipush 102 i216_100 rfl rfl (by decide) ?_
    refine X.iload 104 i216_102 rfl rfl rfl ?_
    refine X.iadd 105 i216_104 rfl rfl (by omega) ?_
    refine X.lald 106 i216_105 rfl rfl (by decide) rfl (by omega) ?_
    refine X.aload_n 107 i216_106 rfl rfl rfl ?_
    refine X.getF 110 i216_107 rfl rfl (by decide) rfl rfl ?_
    refine X.iconst 111 i216_110 rfl rfl (by decide) ?_
    refine X.lald 112 i216_111 rfl rfl (by decide) rfl (by omega) ?_
    have h577 := r45_5 hJ576 4
    refine X.ldivF 113 i216_112 rfl rfl (by omega) (fun z578 => ?_)
    refine X.lload 115 i216_113 rfl rfl rfl ?_
    refine X.llF 116 .lsub (fun x y => x - y) i216_115 rfl rfl rfl (fun _ _ => rfl) (fun z579 hz579 => ?_)
    refine X.aload_n 117 i216_116 rfl rfl rfl ?_
    refine X.getF 120 i216_117 rfl rfl (by decide) rfl rfl ?_
    refine X.bipush 122 i216_120 rfl rfl (by decide) ?_
    refine X.iload 124 i216_122 rfl rfl rfl ?_
    refine X.iadd 125 i216_124 rfl rfl (by omega) ?_
    refine X.lald 126 i216_125 rfl rfl (by decide) rfl (by omega) ?_
    refine X.llF 127 .lmul (fun x y => x * y) i216_126 rfl rfl rfl (fun _ _ => rfl) (fun z580 hz580 => ?_)
    refine X.llF 128 .lsub (fun x y => x - y) i216_127 rfl rfl rfl (fun _ _ => rfl) (fun z581 hz581 => ?_)
    refine X.last' 129 i216_128 rfl rfl (by decide) rfl (by omega) (fun hrm582 m582 hm582 => ?_)
    have hJ583 := w45_10 hJ576 hm582 hrm582
    refine X.aload_n 130 i216_129 rfl rfl rfl ?_
    refine X.getF 133 i216_130 rfl rfl (by decide) rfl rfl ?_
    refine X.bipush 135 i216_133 rfl rfl (by decide) ?_
    refine X.dup2 136 i216_135 rfl rfl ?_
    refine X.lald 137 i216_136 rfl rfl (by decide) rfl (by omega) ?_
    refine X.lload_n 138 i216_137 rfl rfl rfl ?_
    refine X.lconst (y := 0) 139 i216_138 rfl rfl rfl ?_
    refine X.lcmp 140 i216_139 rfl rfl (fun z584 hz584 => ?_)
    refine X.ifle 147 143 i216_140 rfl rfl rfl (fun h585 => (by exfalso; omega)) (fun h585 => ?_)
    have h585c : a1 > 0 := by omega
    clear h585 hz584
    refine X.lload_n 144 i216_143 rfl rfl rfl ?_
    refine X.goto 148 i216_144 rfl rfl ?_
    refine X.cut [(0, zr 4 44), (1, zl a1), (5, zl a3)] i216_148 rfl ?_
    refine X.llF 149 .ladd (fun x y => x + y) i216_148 rfl rfl rfl (fun _ _ => rfl) (fun z586 hz586 => ?_)
    refine X.last' 150 i216_149 rfl rfl (by decide) rfl (by omega) (fun hrm587 m587 hm587 => ?_)
    have hJ588 := w45_19 hJ583 hm587 (by omega) hrm587
    refine X.aload_n 151 i216_150 rfl rfl rfl ?_
    refine X.getF 154 i216_151 rfl rfl (by decide) rfl rfl ?_
    refine X.bipush 156 i216_154 rfl rfl (by decide) ?_
    refine X.dup2 157 i216_156 rfl rfl ?_
    refine X.lald 158 i216_157 rfl rfl (by decide) rfl (by omega) ?_
    refine X.lload_n 159 i216_158 rfl rfl rfl ?_
    refine X.lconst (y := 0) 160 i216_159 rfl rfl rfl ?_
    refine X.lcmp 161 i216_160 rfl rfl (fun z589 hz589 => ?_)
    refine X.ifge 169 164 i216_161 rfl rfl rfl (fun h590 => ?_) (fun h590 => (by exfalso; omega))
    have h590c : a1 ≥ 0 := by omega
    clear h590 hz589
    refine X.cut [(0, zr 4 44), (5, zl a3)] i216_169 rfl ?_
    refine X.lconst (y := 0) 170 i216_169 rfl rfl rfl ?_
    refine X.llF 171 .ladd (fun x y => x + y) i216_170 rfl rfl rfl (fun _ _ => rfl) (fun z591 hz591 => ?_)
    refine X.last' 172 i216_171 rfl rfl (by decide) rfl (by omega) (fun hrm592 m592 hm592 => ?_)
    have hJ593 := w45_19 hJ588 hm592 (by omega) hrm592
    refine X.aload_n 173 i216_172 rfl rfl rfl ?_
    refine X.getF 176 i216_173 rfl rfl (by decide) rfl rfl ?_
    refine X.bipush 178 i216_176 rfl rfl (by decide) ?_
    refine X.dup2 179 i216_178 rfl rfl ?_
    refine X.lald 180 i216_179 rfl rfl (by decide) rfl (by omega) ?_
    refine X.lload 182 i216_180 rfl rfl rfl ?_
    refine X.llF 183 .ladd (fun x y => x + y) i216_182 rfl rfl rfl (fun _ _ => rfl) (fun z594 hz594 => ?_)
    refine X.last' 184 i216_183 rfl rfl (by decide) rfl (by omega) (fun hrm595 m595 hm595 => ?_)
    have hJ596 := w45_19 hJ593 hm595 (by omega) hrm595
    refine X.retv i216_184 rfl t216 ?_
    exact hQ  m595  (hJ596.up (by omega)) 
-- WorkMeterModel.registers
theorem c216_4 {s : Nat × (Nat → Int32)} {S : zS} {m0 m : zM} {B : Int} {d : Nat} {Q : Option zV → zM → Prop} (a1 a2 a3 : Int) (hd : 16 ≤ d) (hJ : J S m0 B m) (hB : B + 0 ≤ 1000000000) (ha1 : a1 ≤ (-1)) (ha3 : 0 ≤ a3 ∧ a3 ≤ 3000000000) (hQ : ∀ m', J S m0 (B) m' → Q none m') : X (EE s) d 216 0 [(0, zr 4 44), (1, zl a1), (3, zl a2), (5, zl a3)] [] m Q := by
  refine X.aload_n 1 i216_0 rfl rfl rfl ?_
  refine X.aload_n 2 i216_1 rfl rfl rfl ?_
  refine X.getF 5 i216_2 rfl rfl (by decide) rfl rfl ?_
  refine X.iconst 6 i216_5 rfl rfl (by decide) ?_
  refine X.lald 7 i216_6 rfl rfl (by decide) rfl (by omega) ?_
  have h501 := r45_0 hJ 4
  refine X.l2i 8 i216_7 rfl rfl (by omega) ?_
  refine X.callv 11 [zi (m 4 45 0)] [] [(0, zr 4 44), (1, zi (m 4 45 0))] i216_8 rfl (by decide) rfl rfl (by omega) rfl rfl (by decide) rfl t217 (Nat.le_of_ble_eq_true rfl) (Nat.le_of_ble_eq_true rfl) rfl ?_
  refine c217_1 (B := B)  (m 4 45 0) (by omega) (hJ.up (by omega)) (by omega) (by omega) (fun v504 hv504 => ?_)
  show X (EE s) d 216 11 [(0, zr 4 44), (1, zl a1), (3, zl a2), (5, zl a3)] [zi v504] m _
  refine X.istore 13 [(0, zr 4 44), (1, zl a1), (3, zl a2), (5, zl a3), (7, zi v504)] i216_11 rfl rfl rfl ?_
  refine X.aload_n 14 i216_13 rfl rfl rfl ?_
  refine X.getF 17 i216_14 rfl rfl (by decide) rfl rfl ?_
  refine X.bipush 19 i216_17 rfl rfl (by decide) ?_
  refine X.iload 21 i216_19 rfl rfl rfl ?_
  refine X.iadd 22 i216_21 rfl rfl (by omega) ?_
  refine X.lald 23 i216_22 rfl rfl (by decide) rfl (by omega) ?_
  refine X.aload_n 24 i216_23 rfl rfl rfl ?_
  refine X.getF 27 i216_24 rfl rfl (by decide) rfl rfl ?_
  refine X.iconst 28 i216_27 rfl rfl (by decide) ?_
  refine X.lald 29 i216_28 rfl rfl (by decide) rfl (by omega) ?_
  have h505 := r45_5 hJ 4
  refine X.ldivF 30 i216_29 rfl rfl (by omega) (fun z506 => ?_)
  refine X.lstore 32 [(0, zr 4 44), (1, zl a1), (3, zl a2), (5, zl a3), (7, zi v504), (8, zl z506)] i216_30 rfl rfl rfl ?_
  refine X.lload_n 33 i216_32 rfl rfl rfl ?_
  refine X.lconst (y := 0) 34 i216_33 rfl rfl rfl ?_
  refine X.lcmp 35 i216_34 rfl rfl (fun z507 hz507 => ?_)
  refine X.ifle 46 38 i216_35 rfl rfl rfl (fun h508 => ?_) (fun h508 => (by exfalso; omega))
  have h508c : a1 ≤ 0 := by omega
  clear h508 hz507
  refine X.lload_n 47 i216_46 rfl rfl rfl ?_
  refine X.lconst (y := 0) 48 i216_47 rfl rfl rfl ?_
  refine X.lcmp 49 i216_48 rfl rfl (fun z509 hz509 => ?_)
  refine X.ifge 61 52 i216_49 rfl rfl rfl (fun h510 => (by exfalso; omega)) (fun h510 => ?_)
  have h510c : a1 < 0 := by omega
  clear h510 hz509
  refine X.aload_n 53 i216_52 rfl rfl rfl ?_
  refine X.iconst 54 i216_53 rfl rfl (by decide) ?_
  refine X.iload 56 i216_54 rfl rfl rfl ?_
  refine X.lload_n 57 i216_56 rfl rfl rfl ?_
  refine X.lnegF 58 i216_57 rfl rfl (fun z511 hz511 => ?_)
  refine X.callv 61 [zi 1, zi v504, zl z511] [] [(0, zr 4 44), (1, zi 1), (2, zi v504), (3, zl z511)] i216_58 rfl (by decide) rfl rfl (by omega) rfl rfl (by decide) rfl t220 (Nat.le_of_ble_eq_true rfl) (Nat.le_of_ble_eq_true rfl) rfl ?_
  refine X.aload_n 1 i220_0 rfl rfl rfl ?_
  refine X.getF 4 i220_1 rfl rfl (by decide) rfl rfl ?_
  refine X.bipush 6 i220_4 rfl rfl (by decide) ?_
  refine X.iconst 7 i220_6 rfl rfl (by decide) ?_
  refine X.iload_n 8 i220_7 rfl rfl rfl ?_
  refine X.imul 9 i220_8 rfl rfl (by omega) ?_
  refine X.iadd 10 i220_9 rfl rfl (by omega) ?_
  refine X.iload_n 11 i220_10 rfl rfl rfl ?_
  refine X.iadd 12 i220_11 rfl rfl (by omega) ?_
  refine X.dup2 13 i220_12 rfl rfl ?_
  refine X.lald 14 i220_13 rfl rfl (by decide) rfl (by omega) ?_
  refine X.lload_n 15 i220_14 rfl rfl rfl ?_
  refine X.llF 16 .ladd (fun x y => x + y) i220_15 rfl rfl rfl (fun _ _ => rfl) (fun z512 hz512 => ?_)
  refine X.last' 17 i220_16 rfl rfl (by decide) rfl (by omega) (fun hrm513 m513 hm513 => ?_)
  have hJ514 := w45_19 hJ hm513 (by omega) hrm513
  refine X.aload_n 18 i220_17 rfl rfl rfl ?_
  refine X.getF 21 i220_18 rfl rfl (by decide) rfl rfl ?_
  refine X.bipush 23 i220_21 rfl rfl (by decide) ?_
  refine X.iconst 24 i220_23 rfl rfl (by decide) ?_
  refine X.iload_n 25 i220_24 rfl rfl rfl ?_
  refine X.imul 26 i220_25 rfl rfl (by omega) ?_
  refine X.iadd 27 i220_26 rfl rfl (by omega) ?_
  refine X.iconst 28 i220_27 rfl rfl (by decide) ?_
  refine X.iadd 29 i220_28 rfl rfl (by omega) ?_
  refine X.dup2 30 i220_29 rfl rfl ?_
  refine X.lald 31 i220_30 rfl rfl (by decide) rfl (by omega) ?_
  refine X.lload_n 32 i220_31 rfl rfl rfl ?_
  refine X.llF 33 .ladd (fun x y => x + y) i220_32 rfl rfl rfl (fun _ _ => rfl) (fun z515 hz515 => ?_)
  refine X.last' 34 i220_33 rfl rfl (by decide) rfl (by omega) (fun hrm516 m516 hm516 => ?_)
  have hJ517 := w45_19 hJ514 hm516 (by omega) hrm516
  refine X.retv i220_34 rfl t220 ?_
  show X (EE s) d 216 61 [(0, zr 4 44), (1, zl a1), (3, zl a2), (5, zl a3), (7, zi v504), (8, zl z506)] [] m516 _
  refine X.aload_n 62 i216_61 rfl rfl rfl ?_
  refine X.iconst 63 i216_62 rfl rfl (by decide) ?_
  refine X.lload_n 64 i216_63 rfl rfl rfl ?_
  refine X.lload_n 65 i216_64 rfl rfl rfl ?_
  refine X.calls 68 [zl a1, zl a2] [zi 1, zr 4 44] [(0, zl a1), (2, zl a2)] i216_65 (by decide) rfl rfl (by omega) rfl rfl t221 (Nat.le_of_ble_eq_true rfl) (Nat.le_of_ble_eq_true rfl) rfl ?_
  refine X.lload_n 1 i221_0 rfl rfl rfl ?_
  refine X.lconst (y := 0) 2 i221_1 rfl rfl rfl ?_
  refine X.lcmp 3 i221_2 rfl rfl (fun z518 hz518 => ?_)
  refine X.iflt 20 6 i221_3 rfl rfl rfl (fun h519 => ?_) (fun h519 => (by exfalso; omega))
  have h519c : a1 < 0 := by omega
  clear h519 hz518
  refine X.cut [(2, zl a2)] i221_20 rfl ?_
  refine X.lload_n 21 i221_20 rfl rfl rfl ?_
  refine X.lconst (y := 0) 22 i221_21 rfl rfl rfl ?_
  refine X.lcmp 23 i221_22 rfl rfl (fun z520 hz520 => ?_)
  refine X.iflt 30 26 i221_23 rfl rfl rfl (fun h521 => ?_) (fun h521 => ?_)
  · have h521c : a2 < 0 := by omega
    clear h521 hz520
    refine X.cut [] i221_30 rfl ?_
    refine X.iconst 31 i221_30 rfl rfl (by decide) ?_
    refine X.reti i221_31 rfl t221 ?_
    show X (EE s) d 216 68 [(0, zr 4 44), (1, zl a1), (3, zl a2), (5, zl a3), (7, zi v504), (8, zl z506)] [zi 3, zi 1, zr 4 44] m516 _
    refine X.iadd 69 i216_68 rfl rfl (by omega) ?_
    refine X.iload 71 i216_69 rfl rfl rfl ?_
    refine X.lload_n 72 i216_71 rfl rfl rfl ?_
    refine X.calls 75 [zl a2] [zi v504, zi (1 + 3), zr 4 44] [(0, zl a2)] i216_72 (by decide) rfl rfl (by omega) rfl rfl t215 (Nat.le_of_ble_eq_true rfl) (Nat.le_of_ble_eq_true rfl) rfl ?_
    refine X.lload_n 1 i215_0 rfl rfl rfl ?_
    refine X.lconst (y := 0) 2 i215_1 rfl rfl rfl ?_
    refine X.lcmp 3 i215_2 rfl rfl (fun z522 hz522 => ?_)
    refine X.ifge 11 6 i215_3 rfl rfl rfl (fun h523 => (by exfalso; omega)) (fun h523 => ?_)
    have h523c : a2 < 0 := by omega
    clear h523 hz522
    refine X.lload_n 7 i215_6 rfl rfl rfl ?_
    refine X.lnegF 8 i215_7 rfl rfl (fun z524 hz524 => ?_)
    refine X.goto 12 i215_8 rfl rfl ?_
    refine X.cut [] i215_12 rfl ?_
    refine X.retl i215_12 rfl t215 ?_
    show X (EE s) d 216 75 [(0, zr 4 44), (1, zl a1), (3, zl a2), (5, zl a3), (7, zi v504), (8, zl z506)] [zl z524, zi v504, zi (1 + 3), zr 4 44] m516 _
    refine X.callv 78 [zi (1 + 3), zi v504, zl z524] [] [(0, zr 4 44), (1, zi (1 + 3)), (2, zi v504), (3, zl z524)] i216_75 rfl (by decide) rfl rfl (by omega) rfl rfl (by decide) rfl t220 (Nat.le_of_ble_eq_true rfl) (Nat.le_of_ble_eq_true rfl) rfl ?_
    refine X.aload_n 1 i220_0 rfl rfl rfl ?_
    refine X.getF 4 i220_1 rfl rfl (by decide) rfl rfl ?_
    refine X.bipush 6 i220_4 rfl rfl (by decide) ?_
    refine X.iconst 7 i220_6 rfl rfl (by decide) ?_
    refine X.iload_n 8 i220_7 rfl rfl rfl ?_
    refine X.imul 9 i220_8 rfl rfl (by omega) ?_
    refine X.iadd 10 i220_9 rfl rfl (by omega) ?_
    refine X.iload_n 11 i220_10 rfl rfl rfl ?_
    refine X.iadd 12 i220_11 rfl rfl (by omega) ?_
    refine X.dup2 13 i220_12 rfl rfl ?_
    refine X.lald 14 i220_13 rfl rfl (by decide) rfl (by omega) ?_
    refine X.lload_n 15 i220_14 rfl rfl rfl ?_
    refine X.llF 16 .ladd (fun x y => x + y) i220_15 rfl rfl rfl (fun _ _ => rfl) (fun z525 hz525 => ?_)
    refine X.last' 17 i220_16 rfl rfl (by decide) rfl (by omega) (fun hrm526 m526 hm526 => ?_)
    have hJ527 := w45_19 hJ517 hm526 (by omega) hrm526
    refine X.aload_n 18 i220_17 rfl rfl rfl ?_
    refine X.getF 21 i220_18 rfl rfl (by decide) rfl rfl ?_
    refine X.bipush 23 i220_21 rfl rfl (by decide) ?_
    refine X.iconst 24 i220_23 rfl rfl (by decide) ?_
    refine X.iload_n 25 i220_24 rfl rfl rfl ?_
    refine X.imul 26 i220_25 rfl rfl (by omega) ?_
    refine X.iadd 27 i220_26 rfl rfl (by omega) ?_
    refine X.iconst 28 i220_27 rfl rfl (by decide) ?_
    refine X.iadd 29 i220_28 rfl rfl (by omega) ?_
    refine X.dup2 30 i220_29 rfl rfl ?_
    refine X.lald 31 i220_30 rfl rfl (by decide) rfl (by omega) ?_
    refine X.lload_n 32 i220_31 rfl rfl rfl ?_
    refine X.llF 33 .ladd (fun x y => x + y) i220_32 rfl rfl rfl (fun _ _ => rfl) (fun z528 hz528 => ?_)
    refine X.last' 34 i220_33 rfl rfl (by decide) rfl (by omega) (fun hrm529 m529 hm529 => ?_)
    have hJ530 := w45_19 hJ527 hm529 (by omega) hrm529
    refine X.retv i220_34 rfl t220 ?_
    show X (EE s) d 216 78 [(0, zr 4 44), (1, zl a1), (3, zl a2), (5, zl a3), (7, zi v504), (8, zl z506)] [] m529 _
    refine X.aload_n 79 i216_78 rfl rfl rfl ?_
    refine X.bipush 81 i216_79 rfl rfl (by decide) ?_
    refine X.iload 83 i216_81 rfl rfl rfl ?_
    refine X.lload 85 i216_83 rfl rfl rfl ?_
    refine X.callv 88 [zi 6, zi v504, zl a3] [] [(0, zr 4 44), (1, zi 6), (2, zi v504), (3, zl a3)] i216_85 rfl (by decide) rfl rfl (by omega) rfl rfl (by decide) rfl t220 (Nat.le_of_ble_eq_true rfl) (Nat.le_of_ble_eq_true rfl) rfl ?_
    refine X.aload_n 1 i220_0 rfl rfl rfl ?_
    refine X.getF 4 i220_1 rfl rfl (by decide) rfl rfl ?_
    refine X.bipush 6 i220_4 rfl rfl (by decide) ?_
    refine X.iconst 7 i220_6 rfl rfl (by decide) ?_
    refine X.iload_n 8 i220_7 rfl rfl rfl ?_
    refine X.imul 9 i220_8 rfl rfl (by omega) ?_
    refine X.iadd 10 i220_9 rfl rfl (by omega) ?_
    refine X.iload_n 11 i220_10 rfl rfl rfl ?_
    refine X.iadd 12 i220_11 rfl rfl (by omega) ?_
    refine X.dup2 13 i220_12 rfl rfl ?_
    refine X.lald 14 i220_13 rfl rfl (by decide) rfl (by omega) ?_
    refine X.lload_n 15 i220_14 rfl rfl rfl ?_
    refine X.llF 16 .ladd (fun x y => x + y) i220_15 rfl rfl rfl (fun _ _ => rfl) (fun z531 hz531 => ?_)
    refine X.last' 17 i220_16 rfl rfl (by decide) rfl (by omega) (fun hrm532 m532 hm532 => ?_)
    have hJ533 := w45_19 hJ530 hm532 (by omega) hrm532
    refine X.aload_n 18 i220_17 rfl rfl rfl ?_
    refine X.getF 21 i220_18 rfl rfl (by decide) rfl rfl ?_
    refine X.bipush 23 i220_21 rfl rfl (by decide) ?_
    refine X.iconst 24 i220_23 rfl rfl (by decide) ?_
    refine X.iload_n 25 i220_24 rfl rfl rfl ?_
    refine X.imul 26 i220_25 rfl rfl (by omega) ?_
    refine X.iadd 27 i220_26 rfl rfl (by omega) ?_
    refine X.iconst 28 i220_27 rfl rfl (by decide) ?_
    refine X.iadd 29 i220_28 rfl rfl (by omega) ?_
    refine X.dup2 30 i220_29 rfl rfl ?_
    refine X.lald 31 i220_30 rfl rfl (by decide) rfl (by omega) ?_
    refine X.lload_n 32 i220_31 rfl rfl rfl ?_
    refine X.llF 33 .ladd (fun x y => x + y) i220_32 rfl rfl rfl (fun _ _ => rfl) (fun z534 hz534 => ?_)
    refine X.last' 34 i220_33 rfl rfl (by decide) rfl (by omega) (fun hrm535 m535 hm535 => ?_)
    have hJ536 := w45_19 hJ533 hm535 (by omega) hrm535
    refine X.retv i220_34 rfl t220 ?_
    show X (EE s) d 216 88 [(0, zr 4 44), (1, zl a1), (3, zl a2), (5, zl a3), (7, zi v504), (8, zl z506)] [] m535 _
    refine X.aload_n 89 i216_88 rfl rfl rfl ?_
    refine X.getF 92 i216_89 rfl rfl (by decide) rfl rfl ?_
    refine X.bipush 94 i216_92 rfl rfl (by decide) ?_
    refine X.dup2 95 i216_94 rfl rfl ?_
    refine X.lald 96 i216_95 rfl rfl (by decide) rfl (by omega) ?_
    refine X.aload_n 97 i216_96 rfl rfl rfl ?_
    refine X.getF 100 i216_97 rfl rfl (by decide) rfl rfl ?_
    refine X.bipush 102 i216_100 rfl rfl (by decide) ?_
    refine X.iload 104 i216_102 rfl rfl rfl ?_
    refine X.iadd 105 i216_104 rfl rfl (by omega) ?_
    refine X.lald 106 i216_105 rfl rfl (by decide) rfl (by omega) ?_
    refine X.aload_n 107 i216_106 rfl rfl rfl ?_
    refine X.getF 110 i216_107 rfl rfl (by decide) rfl rfl ?_
    refine X.iconst 111 i216_110 rfl rfl (by decide) ?_
    refine X.lald 112 i216_111 rfl rfl (by decide) rfl (by omega) ?_
    have h537 := r45_5 hJ536 4
    refine X.ldivF 113 i216_112 rfl rfl (by omega) (fun z538 => ?_)
    refine X.lload 115 i216_113 rfl rfl rfl ?_
    refine X.llF 116 .lsub (fun x y => x - y) i216_115 rfl rfl rfl (fun _ _ => rfl) (fun z539 hz539 => ?_)
    refine X.aload_n 117 i216_116 rfl rfl rfl ?_
    refine X.getF 120 i216_117 rfl rfl (by decide) rfl rfl ?_
    refine X.bipush 122 i216_120 rfl rfl (by decide) ?_
    refine X.iload 124 i216_122 rfl rfl rfl ?_
    refine X.iadd 125 i216_124 rfl rfl (by omega) ?_
    refine X.lald 126 i216_125 rfl rfl (by decide) rfl (by omega) ?_
    refine X.llF 127 .lmul (fun x y => x * y) i216_126 rfl rfl rfl (fun _ _ => rfl) (fun z540 hz540 => ?_)
    refine X.llF 128 .lsub (fun x y => x - y) i216_127 rfl rfl rfl (fun _ _ => rfl) (fun z541 hz541 => ?_)
    refine X.last' 129 i216_128 rfl rfl (by decide) rfl (by omega) (fun hrm542 m542 hm542 => ?_)
    have hJ543 := w45_10 hJ536 hm542 hrm542
    refine X.aload_n 130 i216_129 rfl rfl rfl ?_
    refine X.getF 133 i216_130 rfl rfl (by decide) rfl rfl ?_
    refine X.bipush 135 i216_133 rfl rfl (by decide) ?_
    refine X.dup2 136 i216_135 rfl rfl ?_
    refine X.lald 137 i216_136 rfl rfl (by decide) rfl (by omega) ?_
    refine X.lload_n 138 i216_137 rfl rfl rfl ?_
    refine X.lconst (y := 0) 139 i216_138 rfl rfl rfl ?_
    refine X.lcmp 140 i216_139 rfl rfl (fun z544 hz544 => ?_)
    refine X.ifle 147 143 i216_140 rfl rfl rfl (fun h545 => ?_) (fun h545 => (by exfalso; omega))
    have h545c : a1 ≤ 0 := by omega
    clear h545 hz544
    refine X.cut [(0, zr 4 44), (1, zl a1), (5, zl a3)] i216_147 rfl ?_
    refine X.lconst (y := 0) 148 i216_147 rfl rfl rfl ?_
    refine X.llF 149 .ladd (fun x y => x + y) i216_148 rfl rfl rfl (fun _ _ => rfl) (fun z546 hz546 => ?_)
    refine X.last' 150 i216_149 rfl rfl (by decide) rfl (by omega) (fun hrm547 m547 hm547 => ?_)
    have hJ548 := w45_19 hJ543 hm547 (by omega) hrm547
    refine X.aload_n 151 i216_150 rfl rfl rfl ?_
    refine X.getF 154 i216_151 rfl rfl (by decide) rfl rfl ?_
    refine X.bipush 156 i216_154 rfl rfl (by decide) ?_
    refine X.dup2 157 i216_156 rfl rfl ?_
    refine X.lald 158 i216_157 rfl rfl (by decide) rfl (by omega) ?_
    refine X.lload_n 159 i216_158 rfl rfl rfl ?_
    refine X.lconst (y := 0) 160 i216_159 rfl rfl rfl ?_
    refine X.lcmp 161 i216_160 rfl rfl (fun z549 hz549 => ?_)
    refine X.ifge 169 164 i216_161 rfl rfl rfl (fun h550 => (by exfalso; omega)) (fun h550 => ?_)
    have h550c : a1 < 0 := by omega
    clear h550 hz549
    refine X.lload_n 165 i216_164 rfl rfl rfl ?_
    refine X.lnegF 166 i216_165 rfl rfl (fun z551 hz551 => ?_)
    refine X.goto 170 i216_166 rfl rfl ?_
    refine X.cut [(0, zr 4 44), (5, zl a3)] i216_170 rfl ?_
    refine X.llF 171 .ladd (fun x y => x + y) i216_170 rfl rfl rfl (fun _ _ => rfl) (fun z552 hz552 => ?_)
    refine X.last' 172 i216_171 rfl rfl (by decide) rfl (by omega) (fun hrm553 m553 hm553 => ?_)
    have hJ554 := w45_19 hJ548 hm553 (by omega) hrm553
    refine X.aload_n 173 i216_172 rfl rfl rfl ?_
    refine X.getF 176 i216_173 rfl rfl (by decide) rfl rfl ?_
    refine X.bipush 178 i216_176 rfl rfl (by decide) ?_
    refine X.dup2 179 i216_178 rfl rfl ?_
    refine X.lald 180 i216_179 rfl rfl (by decide) rfl (by omega) ?_
    refine X.lload 182 i216_180 rfl rfl rfl ?_
    refine X.llF 183 .ladd (fun x y => x + y) i216_182 rfl rfl rfl (fun _ _ => rfl) (fun z555 hz555 => ?_)
    refine X.last' 184 i216_183 rfl rfl (by decide) rfl (by omega) (fun hrm556 m556 hm556 => ?_)
    have hJ557 := w45_19 hJ554 hm556 (by omega) hrm556
    refine X.retv i216_184 rfl t216 ?_
    exact hQ  m556  (hJ557.up (by omega)) 
  · have h521c : a2 ≥ 0 := by omega
    clear h521 hz520
    refine X.iconst 27 i221_26 rfl rfl (by decide) ?_
    refine X.goto 31 i221_27 rfl rfl ?_
    refine X.cut [] i221_31 rfl ?_
    refine X.reti i221_31 rfl t221 ?_
    show X (EE s) d 216 68 [(0, zr 4 44), (1, zl a1), (3, zl a2), (5, zl a3), (7, zi v504), (8, zl z506)] [zi 2, zi 1, zr 4 44] m516 _
    refine X.iadd 69 i216_68 rfl rfl (by omega) ?_
    refine X.iload 71 i216_69 rfl rfl rfl ?_
    refine X.lload_n 72 i216_71 rfl rfl rfl ?_
    refine X.calls 75 [zl a2] [zi v504, zi (1 + 2), zr 4 44] [(0, zl a2)] i216_72 (by decide) rfl rfl (by omega) rfl rfl t215 (Nat.le_of_ble_eq_true rfl) (Nat.le_of_ble_eq_true rfl) rfl ?_
    refine X.lload_n 1 i215_0 rfl rfl rfl ?_
    refine X.lconst (y := 0) 2 i215_1 rfl rfl rfl ?_
    refine X.lcmp 3 i215_2 rfl rfl (fun z558 hz558 => ?_)
    refine X.ifge 11 6 i215_3 rfl rfl rfl (fun h559 => ?_) (fun h559 => (by exfalso; omega))
    have h559c : a2 ≥ 0 := by omega
    clear h559 hz558
    refine X.lload_n 12 i215_11 rfl rfl rfl ?_
    refine X.cut [] i215_12 rfl ?_
    refine X.retl i215_12 rfl t215 ?_
    show X (EE s) d 216 75 [(0, zr 4 44), (1, zl a1), (3, zl a2), (5, zl a3), (7, zi v504), (8, zl z506)] [zl a2, zi v504, zi (1 + 2), zr 4 44] m516 _
    refine X.callv 78 [zi (1 + 2), zi v504, zl a2] [] [(0, zr 4 44), (1, zi (1 + 2)), (2, zi v504), (3, zl a2)] i216_75 rfl (by decide) rfl rfl (by omega) rfl rfl (by decide) rfl t220 (Nat.le_of_ble_eq_true rfl) (Nat.le_of_ble_eq_true rfl) rfl ?_
    refine X.aload_n 1 i220_0 rfl rfl rfl ?_
    refine X.getF 4 i220_1 rfl rfl (by decide) rfl rfl ?_
    refine X.bipush 6 i220_4 rfl rfl (by decide) ?_
    refine X.iconst 7 i220_6 rfl rfl (by decide) ?_
    refine X.iload_n 8 i220_7 rfl rfl rfl ?_
    refine X.imul 9 i220_8 rfl rfl (by omega) ?_
    refine X.iadd 10 i220_9 rfl rfl (by omega) ?_
    refine X.iload_n 11 i220_10 rfl rfl rfl ?_
    refine X.iadd 12 i220_11 rfl rfl (by omega) ?_
    refine X.dup2 13 i220_12 rfl rfl ?_
    refine X.lald 14 i220_13 rfl rfl (by decide) rfl (by omega) ?_
    refine X.lload_n 15 i220_14 rfl rfl rfl ?_
    refine X.llF 16 .ladd (fun x y => x + y) i220_15 rfl rfl rfl (fun _ _ => rfl) (fun z560 hz560 => ?_)
    refine X.last' 17 i220_16 rfl rfl (by decide) rfl (by omega) (fun hrm561 m561 hm561 => ?_)
    have hJ562 := w45_19 hJ517 hm561 (by omega) hrm561
    refine X.aload_n 18 i220_17 rfl rfl rfl ?_
    refine X.getF 21 i220_18 rfl rfl (by decide) rfl rfl ?_
    refine X.bipush 23 i220_21 rfl rfl (by decide) ?_
    refine X.iconst 24 i220_23 rfl rfl (by decide) ?_
    refine X.iload_n 25 i220_24 rfl rfl rfl ?_
    refine X.imul 26 i220_25 rfl rfl (by omega) ?_
    refine X.iadd 27 i220_26 rfl rfl (by omega) ?_
    refine X.iconst 28 i220_27 rfl rfl (by decide) ?_
    refine X.iadd 29 i220_28 rfl rfl (by omega) ?_
    refine X.dup2 30 i220_29 rfl rfl ?_
    refine X.lald 31 i220_30 rfl rfl (by decide) rfl (by omega) ?_
    refine X.lload_n 32 i220_31 rfl rfl rfl ?_
    refine X.llF 33 .ladd (fun x y => x + y) i220_32 rfl rfl rfl (fun _ _ => rfl) (fun z563 hz563 => ?_)
    refine X.last' 34 i220_33 rfl rfl (by decide) rfl (by omega) (fun hrm564 m564 hm564 => ?_)
    have hJ565 := w45_19 hJ562 hm564 (by omega) hrm564
    refine X.retv i220_34 rfl t220 ?_
    show X (EE s) d 216 78 [(0, zr 4 44), (1, zl a1), (3, zl a2), (5, zl a3), (7, zi v504), (8, zl z506)] [] m564 _
    refine X.aload_n 79 i216_78 rfl rfl rfl ?_
    refine X.bipush 81 i216_79 rfl rfl (by decide) ?_
    refine X.iload 83 i216_81 rfl rfl rfl ?_
    refine X.lload 85 i216_83 rfl rfl rfl ?_
    refine X.callv 88 [zi 6, zi v504, zl a3] [] [(0, zr 4 44), (1, zi 6), (2, zi v504), (3, zl a3)] i216_85 rfl (by decide) rfl rfl (by omega) rfl rfl (by decide) rfl t220 (Nat.le_of_ble_eq_true rfl) (Nat.le_of_ble_eq_true rfl) rfl ?_
    refine X.aload_n 1 i220_0 rfl rfl rfl ?_
    refine X.getF 4 i220_1 rfl rfl (by decide) rfl rfl ?_
    refine X.bipush 6 i220_4 rfl rfl (by decide) ?_
    refine X.iconst 7 i220_6 rfl rfl (by decide) ?_
    refine X.iload_n 8 i220_7 rfl rfl rfl ?_
    refine X.imul 9 i220_8 rfl rfl (by omega) ?_
    refine X.iadd 10 i220_9 rfl rfl (by omega) ?_
    refine X.iload_n 11 i220_10 rfl rfl rfl ?_
    refine X.iadd 12 i220_11 rfl rfl (by omega) ?_
    refine X.dup2 13 i220_12 rfl rfl ?_
    refine X.lald 14 i220_13 rfl rfl (by decide) rfl (by omega) ?_
    refine X.lload_n 15 i220_14 rfl rfl rfl ?_
    refine X.llF 16 .ladd (fun x y => x + y) i220_15 rfl rfl rfl (fun _ _ => rfl) (fun z566 hz566 => ?_)
    refine X.last' 17 i220_16 rfl rfl (by decide) rfl (by omega) (fun hrm567 m567 hm567 => ?_)
    have hJ568 := w45_19 hJ565 hm567 (by omega) hrm567
    refine X.aload_n 18 i220_17 rfl rfl rfl ?_
    refine X.getF 21 i220_18 rfl rfl (by decide) rfl rfl ?_
    refine X.bipush 23 i220_21 rfl rfl (by decide) ?_
    refine X.iconst 24 i220_23 rfl rfl (by decide) ?_
    refine X.iload_n 25 i220_24 rfl rfl rfl ?_
    refine X.imul 26 i220_25 rfl rfl (by omega) ?_
    refine X.iadd 27 i220_26 rfl rfl (by omega) ?_
    refine X.iconst 28 i220_27 rfl rfl (by decide) ?_
    refine X.iadd 29 i220_28 rfl rfl (by omega) ?_
    refine X.dup2 30 i220_29 rfl rfl ?_
    refine X.lald 31 i220_30 rfl rfl (by decide) rfl (by omega) ?_
    refine X.lload_n 32 i220_31 rfl rfl rfl ?_
    refine X.llF 33 .ladd (fun x y => x + y) i220_32 rfl rfl rfl (fun _ _ => rfl) (fun z569 hz569 => ?_)
    refine X.last' 34 i220_33 rfl rfl (by decide) rfl (by omega) (fun hrm570 m570 hm570 => ?_)
    have hJ571 := w45_19 hJ568 hm570 (by omega) hrm570
    refine X.retv i220_34 rfl t220 ?_
    show X (EE s) d 216 88 [(0, zr 4 44), (1, zl a1), (3, zl a2), (5, zl a3), (7, zi v504), (8, zl z506)] [] m570 _
    refine X.aload_n 89 i216_88 rfl rfl rfl ?_
    refine X.getF 92 i216_89 rfl rfl (by decide) rfl rfl ?_
    refine X.bipush 94 i216_92 rfl rfl (by decide) ?_
    refine X.dup2 95 i216_94 rfl rfl ?_
    refine X.lald 96 i216_95 rfl rfl (by decide) rfl (by omega) ?_
    refine X.aload_n 97 i216_96 rfl rfl rfl ?_
    refine X.getF 100 i216_97 rfl rfl (by decide) rfl rfl ?_
    refine X.bipush 102 i216_100 rfl rfl (by decide) ?_
    refine X.iload 104 i216_102 rfl rfl rfl ?_
    refine X.iadd 105 i216_104 rfl rfl (by omega) ?_
    refine X.lald 106 i216_105 rfl rfl (by decide) rfl (by omega) ?_
    refine X.aload_n 107 i216_106 rfl rfl rfl ?_
    refine X.getF 110 i216_107 rfl rfl (by decide) rfl rfl ?_
    refine X.iconst 111 i216_110 rfl rfl (by decide) ?_
    refine X.lald 112 i216_111 rfl rfl (by decide) rfl (by omega) ?_
    have h572 := r45_5 hJ571 4
    refine X.ldivF 113 i216_112 rfl rfl (by omega) (fun z573 => ?_)
    refine X.lload 115 i216_113 rfl rfl rfl ?_
    refine X.llF 116 .lsub (fun x y => x - y) i216_115 rfl rfl rfl (fun _ _ => rfl) (fun z574 hz574 => ?_)
    refine X.aload_n 117 i216_116 rfl rfl rfl ?_
    refine X.getF 120 i216_117 rfl rfl (by decide) rfl rfl ?_
    refine X.bipush 122 i216_120 rfl rfl (by decide) ?_
    refine X.iload 124 i216_122 rfl rfl rfl ?_
    refine X.iadd 125 i216_124 rfl rfl (by omega) ?_
    refine X.lald 126 i216_125 rfl rfl (by decide) rfl (by omega) ?_
    refine X.llF 127 .lmul (fun x y => x * y) i216_126 rfl rfl rfl (fun _ _ => rfl) (fun z575 hz575 => ?_)
    refine X.llF 128 .lsub (fun x y => x - y) i216_127 rfl rfl rfl (fun _ _ => rfl) (fun z576 hz576 => ?_)
    refine X.last' 129 i216_128 rfl rfl (by decide) rfl (by omega) (fun hrm577 m577 hm577 => ?_)
    have hJ578 := w45_10 hJ571 hm577 hrm577
    refine X.aload_n 130 i216_129 rfl rfl rfl ?_
    refine X.getF 133 i216_130 rfl rfl (by decide) rfl rfl ?_
    refine X.bipush 135 i216_133 rfl rfl (by decide) ?_
    refine X.dup2 136 i216_135 rfl rfl ?_
    refine X.lald 137 i216_136 rfl rfl (by decide) rfl (by omega) ?_
    refine X.lload_n 138 i216_137 rfl rfl rfl ?_
    refine X.lconst (y := 0) 139 i216_138 rfl rfl rfl ?_
    refine X.lcmp 140 i216_139 rfl rfl (fun z579 hz579 => ?_)
    refine X.ifle 147 143 i216_140 rfl rfl rfl (fun h580 => ?_) (fun h580 => (by exfalso; omega))
    have h580c : a1 ≤ 0 := by omega
    clear h580 hz579
    refine X.cut [(0, zr 4 44), (1, zl a1), (5, zl a3)] i216_147 rfl ?_
    refine X.lconst (y := 0) 148 i216_147 rfl rfl rfl ?_
    refine X.llF 149 .ladd (fun x y => x + y) i216_148 rfl rfl rfl (fun _ _ => rfl) (fun z581 hz581 => ?_)
    refine X.last' 150 i216_149 rfl rfl (by decide) rfl (by omega) (fun hrm582 m582 hm582 => ?_)
    have hJ583 := w45_19 hJ578 hm582 (by omega) hrm582
    refine X.aload_n 151 i216_150 rfl rfl rfl ?_
    refine X.getF 154 i216_151 rfl rfl (by decide) rfl rfl ?_
    refine X.bipush 156 i216_154 rfl rfl (by decide) ?_
    refine X.dup2 157 i216_156 rfl rfl ?_
    refine X.lald 158 i216_157 rfl rfl (by decide) rfl (by omega) ?_
    refine X.lload_n 159 i216_158 rfl rfl rfl ?_
    refine X.lconst (y := 0) 160 i216_159 rfl rfl rfl ?_
    refine X.lcmp 161 i216_160 rfl rfl (fun z584 hz584 => ?_)
    refine X.ifge 169 164 i216_161 rfl rfl rfl (fun h585 => (by exfalso; omega)) (fun h585 => ?_)
    have h585c : a1 < 0 := by omega
    clear h585 hz584
    refine X.lload_n 165 i216_164 rfl rfl rfl ?_
    refine X.lnegF 166 i216_165 rfl rfl (fun z586 hz586 => ?_)
    refine X.goto 170 i216_166 rfl rfl ?_
    refine X.cut [(0, zr 4 44), (5, zl a3)] i216_170 rfl ?_
    refine X.llF 171 .ladd (fun x y => x + y) i216_170 rfl rfl rfl (fun _ _ => rfl) (fun z587 hz587 => ?_)
    refine X.last' 172 i216_171 rfl rfl (by decide) rfl (by omega) (fun hrm588 m588 hm588 => ?_)
    have hJ589 := w45_19 hJ583 hm588 (by omega) hrm588
    refine X.aload_n 173 i216_172 rfl rfl rfl ?_
    refine X.getF 176 i216_173 rfl rfl (by decide) rfl rfl ?_
    refine X.bipush 178 i216_176 rfl rfl (by decide) ?_
    refine X.dup2 179 i216_178 rfl rfl ?_
    refine X.lald 180 i216_179 rfl rfl (by decide) rfl (by omega) ?_
    refine X.lload 182 i216_180 rfl rfl rfl ?_
    refine X.llF 183 .ladd (fun x y => x + y) i216_182 rfl rfl rfl (fun _ _ => rfl) (fun z590 hz590 => ?_)
    refine X.last' 184 i216_183 rfl rfl (by decide) rfl (by omega) (fun hrm591 m591 hm591 => ?_)
    have hJ592 := w45_19 hJ589 hm591 (by omega) hrm591
    refine X.retv i216_184 rfl t216 ?_
    exact hQ  m591  (hJ592.up (by omega)) 
-- WorkMeterModel.registers
theorem c216_5 {s : Nat × (Nat → Int32)} {S : zS} {m0 m : zM} {B : Int} {d : Nat} {Q : Option zV → zM → Prop} (a1 a2 a3 : Int) (hd : 16 ≤ d) (hJ : J S m0 B m) (hB : B + 0 ≤ 1000000000) (ha1 : a1 ≤ (-1)) (ha2 : 0 ≤ a2) (ha3 : 0 ≤ a3 ∧ a3 ≤ 3000000000) (hQ : ∀ m', J S m0 (B) m' → Q none m') : X (EE s) d 216 0 [(0, zr 4 44), (1, zl a1), (3, zl a2), (5, zl a3)] [] m Q := by
  refine X.aload_n 1 i216_0 rfl rfl rfl ?_
  refine X.aload_n 2 i216_1 rfl rfl rfl ?_
  refine X.getF 5 i216_2 rfl rfl (by decide) rfl rfl ?_
  refine X.iconst 6 i216_5 rfl rfl (by decide) ?_
  refine X.lald 7 i216_6 rfl rfl (by decide) rfl (by omega) ?_
  have h501 := r45_0 hJ 4
  refine X.l2i 8 i216_7 rfl rfl (by omega) ?_
  refine X.callv 11 [zi (m 4 45 0)] [] [(0, zr 4 44), (1, zi (m 4 45 0))] i216_8 rfl (by decide) rfl rfl (by omega) rfl rfl (by decide) rfl t217 (Nat.le_of_ble_eq_true rfl) (Nat.le_of_ble_eq_true rfl) rfl ?_
  refine c217_1 (B := B)  (m 4 45 0) (by omega) (hJ.up (by omega)) (by omega) (by omega) (fun v504 hv504 => ?_)
  show X (EE s) d 216 11 [(0, zr 4 44), (1, zl a1), (3, zl a2), (5, zl a3)] [zi v504] m _
  refine X.istore 13 [(0, zr 4 44), (1, zl a1), (3, zl a2), (5, zl a3), (7, zi v504)] i216_11 rfl rfl rfl ?_
  refine X.aload_n 14 i216_13 rfl rfl rfl ?_
  refine X.getF 17 i216_14 rfl rfl (by decide) rfl rfl ?_
  refine X.bipush 19 i216_17 rfl rfl (by decide) ?_
  refine X.iload 21 i216_19 rfl rfl rfl ?_
  refine X.iadd 22 i216_21 rfl rfl (by omega) ?_
  refine X.lald 23 i216_22 rfl rfl (by decide) rfl (by omega) ?_
  refine X.aload_n 24 i216_23 rfl rfl rfl ?_
  refine X.getF 27 i216_24 rfl rfl (by decide) rfl rfl ?_
  refine X.iconst 28 i216_27 rfl rfl (by decide) ?_
  refine X.lald 29 i216_28 rfl rfl (by decide) rfl (by omega) ?_
  have h505 := r45_5 hJ 4
  refine X.ldivF 30 i216_29 rfl rfl (by omega) (fun z506 => ?_)
  refine X.lstore 32 [(0, zr 4 44), (1, zl a1), (3, zl a2), (5, zl a3), (7, zi v504), (8, zl z506)] i216_30 rfl rfl rfl ?_
  refine X.lload_n 33 i216_32 rfl rfl rfl ?_
  refine X.lconst (y := 0) 34 i216_33 rfl rfl rfl ?_
  refine X.lcmp 35 i216_34 rfl rfl (fun z507 hz507 => ?_)
  refine X.ifle 46 38 i216_35 rfl rfl rfl (fun h508 => ?_) (fun h508 => (by exfalso; omega))
  have h508c : a1 ≤ 0 := by omega
  clear h508 hz507
  refine X.lload_n 47 i216_46 rfl rfl rfl ?_
  refine X.lconst (y := 0) 48 i216_47 rfl rfl rfl ?_
  refine X.lcmp 49 i216_48 rfl rfl (fun z509 hz509 => ?_)
  refine X.ifge 61 52 i216_49 rfl rfl rfl (fun h510 => (by exfalso; omega)) (fun h510 => ?_)
  have h510c : a1 < 0 := by omega
  clear h510 hz509
  refine X.aload_n 53 i216_52 rfl rfl rfl ?_
  refine X.iconst 54 i216_53 rfl rfl (by decide) ?_
  refine X.iload 56 i216_54 rfl rfl rfl ?_
  refine X.lload_n 57 i216_56 rfl rfl rfl ?_
  refine X.lnegF 58 i216_57 rfl rfl (fun z511 hz511 => ?_)
  refine X.callv 61 [zi 1, zi v504, zl z511] [] [(0, zr 4 44), (1, zi 1), (2, zi v504), (3, zl z511)] i216_58 rfl (by decide) rfl rfl (by omega) rfl rfl (by decide) rfl t220 (Nat.le_of_ble_eq_true rfl) (Nat.le_of_ble_eq_true rfl) rfl ?_
  refine X.aload_n 1 i220_0 rfl rfl rfl ?_
  refine X.getF 4 i220_1 rfl rfl (by decide) rfl rfl ?_
  refine X.bipush 6 i220_4 rfl rfl (by decide) ?_
  refine X.iconst 7 i220_6 rfl rfl (by decide) ?_
  refine X.iload_n 8 i220_7 rfl rfl rfl ?_
  refine X.imul 9 i220_8 rfl rfl (by omega) ?_
  refine X.iadd 10 i220_9 rfl rfl (by omega) ?_
  refine X.iload_n 11 i220_10 rfl rfl rfl ?_
  refine X.iadd 12 i220_11 rfl rfl (by omega) ?_
  refine X.dup2 13 i220_12 rfl rfl ?_
  refine X.lald 14 i220_13 rfl rfl (by decide) rfl (by omega) ?_
  refine X.lload_n 15 i220_14 rfl rfl rfl ?_
  refine X.llF 16 .ladd (fun x y => x + y) i220_15 rfl rfl rfl (fun _ _ => rfl) (fun z512 hz512 => ?_)
  refine X.last' 17 i220_16 rfl rfl (by decide) rfl (by omega) (fun hrm513 m513 hm513 => ?_)
  have hJ514 := w45_19 hJ hm513 (by omega) hrm513
  refine X.aload_n 18 i220_17 rfl rfl rfl ?_
  refine X.getF 21 i220_18 rfl rfl (by decide) rfl rfl ?_
  refine X.bipush 23 i220_21 rfl rfl (by decide) ?_
  refine X.iconst 24 i220_23 rfl rfl (by decide) ?_
  refine X.iload_n 25 i220_24 rfl rfl rfl ?_
  refine X.imul 26 i220_25 rfl rfl (by omega) ?_
  refine X.iadd 27 i220_26 rfl rfl (by omega) ?_
  refine X.iconst 28 i220_27 rfl rfl (by decide) ?_
  refine X.iadd 29 i220_28 rfl rfl (by omega) ?_
  refine X.dup2 30 i220_29 rfl rfl ?_
  refine X.lald 31 i220_30 rfl rfl (by decide) rfl (by omega) ?_
  refine X.lload_n 32 i220_31 rfl rfl rfl ?_
  refine X.llF 33 .ladd (fun x y => x + y) i220_32 rfl rfl rfl (fun _ _ => rfl) (fun z515 hz515 => ?_)
  refine X.last' 34 i220_33 rfl rfl (by decide) rfl (by omega) (fun hrm516 m516 hm516 => ?_)
  have hJ517 := w45_19 hJ514 hm516 (by omega) hrm516
  refine X.retv i220_34 rfl t220 ?_
  show X (EE s) d 216 61 [(0, zr 4 44), (1, zl a1), (3, zl a2), (5, zl a3), (7, zi v504), (8, zl z506)] [] m516 _
  refine X.aload_n 62 i216_61 rfl rfl rfl ?_
  refine X.iconst 63 i216_62 rfl rfl (by decide) ?_
  refine X.lload_n 64 i216_63 rfl rfl rfl ?_
  refine X.lload_n 65 i216_64 rfl rfl rfl ?_
  refine X.calls 68 [zl a1, zl a2] [zi 1, zr 4 44] [(0, zl a1), (2, zl a2)] i216_65 (by decide) rfl rfl (by omega) rfl rfl t221 (Nat.le_of_ble_eq_true rfl) (Nat.le_of_ble_eq_true rfl) rfl ?_
  refine X.lload_n 1 i221_0 rfl rfl rfl ?_
  refine X.lconst (y := 0) 2 i221_1 rfl rfl rfl ?_
  refine X.lcmp 3 i221_2 rfl rfl (fun z518 hz518 => ?_)
  refine X.iflt 20 6 i221_3 rfl rfl rfl (fun h519 => ?_) (fun h519 => (by exfalso; omega))
  have h519c : a1 < 0 := by omega
  clear h519 hz518
  refine X.cut [(2, zl a2)] i221_20 rfl ?_
  refine X.lload_n 21 i221_20 rfl rfl rfl ?_
  refine X.lconst (y := 0) 22 i221_21 rfl rfl rfl ?_
  refine X.lcmp 23 i221_22 rfl rfl (fun z520 hz520 => ?_)
  refine X.iflt 30 26 i221_23 rfl rfl rfl (fun h521 => (by exfalso; omega)) (fun h521 => ?_)
  have h521c : a2 ≥ 0 := by omega
  clear h521 hz520
  refine X.iconst 27 i221_26 rfl rfl (by decide) ?_
  refine X.goto 31 i221_27 rfl rfl ?_
  refine X.cut [] i221_31 rfl ?_
  refine X.reti i221_31 rfl t221 ?_
  show X (EE s) d 216 68 [(0, zr 4 44), (1, zl a1), (3, zl a2), (5, zl a3), (7, zi v504), (8, zl z506)] [zi 2, zi 1, zr 4 44] m516 _
  refine X.iadd 69 i216_68 rfl rfl (by omega) ?_
  refine X.iload 71 i216_69 rfl rfl rfl ?_
  refine X.lload_n 72 i216_71 rfl rfl rfl ?_
  refine X.calls 75 [zl a2] [zi v504, zi (1 + 2), zr 4 44] [(0, zl a2)] i216_72 (by decide) rfl rfl (by omega) rfl rfl t215 (Nat.le_of_ble_eq_true rfl) (Nat.le_of_ble_eq_true rfl) rfl ?_
  refine X.lload_n 1 i215_0 rfl rfl rfl ?_
  refine X.lconst (y := 0) 2 i215_1 rfl rfl rfl ?_
  refine X.lcmp 3 i215_2 rfl rfl (fun z522 hz522 => ?_)
  refine X.ifge 11 6 i215_3 rfl rfl rfl (fun h523 => ?_) (fun h523 => (by exfalso; omega))
  have h523c : a2 ≥ 0 := by omega
  clear h523 hz522
  refine X.lload_n 12 i215_11 rfl rfl rfl ?_
  refine X.cut [] i215_12 rfl ?_
  refine X.retl i215_12 rfl t215 ?_
  show X (EE s) d 216 75 [(0, zr 4 44), (1, zl a1), (3, zl a2), (5, zl a3), (7, zi v504), (8, zl z506)] [zl a2, zi v504, zi (1 + 2), zr 4 44] m516 _
  refine X.callv 78 [zi (1 + 2), zi v504, zl a2] [] [(0, zr 4 44), (1, zi (1 + 2)), (2, zi v504), (3, zl a2)] i216_75 rfl (by decide) rfl rfl (by omega) rfl rfl (by decide) rfl t220 (Nat.le_of_ble_eq_true rfl) (Nat.le_of_ble_eq_true rfl) rfl ?_
  refine X.aload_n 1 i220_0 rfl rfl rfl ?_
  refine X.getF 4 i220_1 rfl rfl (by decide) rfl rfl ?_
  refine X.bipush 6 i220_4 rfl rfl (by decide) ?_
  refine X.iconst 7 i220_6 rfl rfl (by decide) ?_
  refine X.iload_n 8 i220_7 rfl rfl rfl ?_
  refine X.imul 9 i220_8 rfl rfl (by omega) ?_
  refine X.iadd 10 i220_9 rfl rfl (by omega) ?_
  refine X.iload_n 11 i220_10 rfl rfl rfl ?_
  refine X.iadd 12 i220_11 rfl rfl (by omega) ?_
  refine X.dup2 13 i220_12 rfl rfl ?_
  refine X.lald 14 i220_13 rfl rfl (by decide) rfl (by omega) ?_
  refine X.lload_n 15 i220_14 rfl rfl rfl ?_
  refine X.llF 16 .ladd (fun x y => x + y) i220_15 rfl rfl rfl (fun _ _ => rfl) (fun z524 hz524 => ?_)
  refine X.last' 17 i220_16 rfl rfl (by decide) rfl (by omega) (fun hrm525 m525 hm525 => ?_)
  have hJ526 := w45_19 hJ517 hm525 (by omega) hrm525
  refine X.aload_n 18 i220_17 rfl rfl rfl ?_
  refine X.getF 21 i220_18 rfl rfl (by decide) rfl rfl ?_
  refine X.bipush 23 i220_21 rfl rfl (by decide) ?_
  refine X.iconst 24 i220_23 rfl rfl (by decide) ?_
  refine X.iload_n 25 i220_24 rfl rfl rfl ?_
  refine X.imul 26 i220_25 rfl rfl (by omega) ?_
  refine X.iadd 27 i220_26 rfl rfl (by omega) ?_
  refine X.iconst 28 i220_27 rfl rfl (by decide) ?_
  refine X.iadd 29 i220_28 rfl rfl (by omega) ?_
  refine X.dup2 30 i220_29 rfl rfl ?_
  refine X.lald 31 i220_30 rfl rfl (by decide) rfl (by omega) ?_
  refine X.lload_n 32 i220_31 rfl rfl rfl ?_
  refine X.llF 33 .ladd (fun x y => x + y) i220_32 rfl rfl rfl (fun _ _ => rfl) (fun z527 hz527 => ?_)
  refine X.last' 34 i220_33 rfl rfl (by decide) rfl (by omega) (fun hrm528 m528 hm528 => ?_)
  have hJ529 := w45_19 hJ526 hm528 (by omega) hrm528
  refine X.retv i220_34 rfl t220 ?_
  show X (EE s) d 216 78 [(0, zr 4 44), (1, zl a1), (3, zl a2), (5, zl a3), (7, zi v504), (8, zl z506)] [] m528 _
  refine X.aload_n 79 i216_78 rfl rfl rfl ?_
  refine X.bipush 81 i216_79 rfl rfl (by decide) ?_
  refine X.iload 83 i216_81 rfl rfl rfl ?_
  refine X.lload 85 i216_83 rfl rfl rfl ?_
  refine X.callv 88 [zi 6, zi v504, zl a3] [] [(0, zr 4 44), (1, zi 6), (2, zi v504), (3, zl a3)] i216_85 rfl (by decide) rfl rfl (by omega) rfl rfl (by decide) rfl t220 (Nat.le_of_ble_eq_true rfl) (Nat.le_of_ble_eq_true rfl) rfl ?_
  refine X.aload_n 1 i220_0 rfl rfl rfl ?_
  refine X.getF 4 i220_1 rfl rfl (by decide) rfl rfl ?_
  refine X.bipush 6 i220_4 rfl rfl (by decide) ?_
  refine X.iconst 7 i220_6 rfl rfl (by decide) ?_
  refine X.iload_n 8 i220_7 rfl rfl rfl ?_
  refine X.imul 9 i220_8 rfl rfl (by omega) ?_
  refine X.iadd 10 i220_9 rfl rfl (by omega) ?_
  refine X.iload_n 11 i220_10 rfl rfl rfl ?_
  refine X.iadd 12 i220_11 rfl rfl (by omega) ?_
  refine X.dup2 13 i220_12 rfl rfl ?_
  refine X.lald 14 i220_13 rfl rfl (by decide) rfl (by omega) ?_
  refine X.lload_n 15 i220_14 rfl rfl rfl ?_
  refine X.llF 16 .ladd (fun x y => x + y) i220_15 rfl rfl rfl (fun _ _ => rfl) (fun z530 hz530 => ?_)
  refine X.last' 17 i220_16 rfl rfl (by decide) rfl (by omega) (fun hrm531 m531 hm531 => ?_)
  have hJ532 := w45_19 hJ529 hm531 (by omega) hrm531
  refine X.aload_n 18 i220_17 rfl rfl rfl ?_
  refine X.getF 21 i220_18 rfl rfl (by decide) rfl rfl ?_
  refine X.bipush 23 i220_21 rfl rfl (by decide) ?_
  refine X.iconst 24 i220_23 rfl rfl (by decide) ?_
  refine X.iload_n 25 i220_24 rfl rfl rfl ?_
  refine X.imul 26 i220_25 rfl rfl (by omega) ?_
  refine X.iadd 27 i220_26 rfl rfl (by omega) ?_
  refine X.iconst 28 i220_27 rfl rfl (by decide) ?_
  refine X.iadd 29 i220_28 rfl rfl (by omega) ?_
  refine X.dup2 30 i220_29 rfl rfl ?_
  refine X.lald 31 i220_30 rfl rfl (by decide) rfl (by omega) ?_
  refine X.lload_n 32 i220_31 rfl rfl rfl ?_
  refine X.llF 33 .ladd (fun x y => x + y) i220_32 rfl rfl rfl (fun _ _ => rfl) (fun z533 hz533 => ?_)
  refine X.last' 34 i220_33 rfl rfl (by decide) rfl (by omega) (fun hrm534 m534 hm534 => ?_)
  have hJ535 := w45_19 hJ532 hm534 (by omega) hrm534
  refine X.retv i220_34 rfl t220 ?_
  show X (EE s) d 216 88 [(0, zr 4 44), (1, zl a1), (3, zl a2), (5, zl a3), (7, zi v504), (8, zl z506)] [] m534 _
  refine X.aload_n 89 i216_88 rfl rfl rfl ?_
  refine X.getF 92 i216_89 rfl rfl (by decide) rfl rfl ?_
  refine X.bipush 94 i216_92 rfl rfl (by decide) ?_
  refine X.dup2 95 i216_94 rfl rfl ?_
  refine X.lald 96 i216_95 rfl rfl (by decide) rfl (by omega) ?_
  refine X.aload_n 97 i216_96 rfl rfl rfl ?_
  refine X.getF 100 i216_97 rfl rfl (by decide) rfl rfl ?_
  refine X.bipush 102 i216_100 rfl rfl (by decide) ?_
  refine X.iload 104 i216_102 rfl rfl rfl ?_
  refine X.iadd 105 i216_104 rfl rfl (by omega) ?_
  refine X.lald 106 i216_105 rfl rfl (by decide) rfl (by omega) ?_
  refine X.aload_n 107 i216_106 rfl rfl rfl ?_
  refine X.getF 110 i216_107 rfl rfl (by decide) rfl rfl ?_
  refine X.iconst 111 i216_110 rfl rfl (by decide) ?_
  refine X.lald 112 i216_111 rfl rfl (by decide) rfl (by omega) ?_
  have h536 := r45_5 hJ535 4
  refine X.ldivF 113 i216_112 rfl rfl (by omega) (fun z537 => ?_)
  refine X.lload 115 i216_113 rfl rfl rfl ?_
  refine X.llF 116 .lsub (fun x y => x - y) i216_115 rfl rfl rfl (fun _ _ => rfl) (fun z538 hz538 => ?_)
  refine X.aload_n 117 i216_116 rfl rfl rfl ?_
  refine X.getF 120 i216_117 rfl rfl (by decide) rfl rfl ?_
  refine X.bipush 122 i216_120 rfl rfl (by decide) ?_
  refine X.iload 124 i216_122 rfl rfl rfl ?_
  refine X.iadd 125 i216_124 rfl rfl (by omega) ?_
  refine X.lald 126 i216_125 rfl rfl (by decide) rfl (by omega) ?_
  refine X.llF 127 .lmul (fun x y => x * y) i216_126 rfl rfl rfl (fun _ _ => rfl) (fun z539 hz539 => ?_)
  refine X.llF 128 .lsub (fun x y => x - y) i216_127 rfl rfl rfl (fun _ _ => rfl) (fun z540 hz540 => ?_)
  refine X.last' 129 i216_128 rfl rfl (by decide) rfl (by omega) (fun hrm541 m541 hm541 => ?_)
  have hJ542 := w45_10 hJ535 hm541 hrm541
  refine X.aload_n 130 i216_129 rfl rfl rfl ?_
  refine X.getF 133 i216_130 rfl rfl (by decide) rfl rfl ?_
  refine X.bipush 135 i216_133 rfl rfl (by decide) ?_
  refine X.dup2 136 i216_135 rfl rfl ?_
  refine X.lald 137 i216_136 rfl rfl (by decide) rfl (by omega) ?_
  refine X.lload_n 138 i216_137 rfl rfl rfl ?_
  refine X.lconst (y := 0) 139 i216_138 rfl rfl rfl ?_
  refine X.lcmp 140 i216_139 rfl rfl (fun z543 hz543 => ?_)
  refine X.ifle 147 143 i216_140 rfl rfl rfl (fun h544 => ?_) (fun h544 => (by exfalso; omega))
  have h544c : a1 ≤ 0 := by omega
  clear h544 hz543
  refine X.cut [(0, zr 4 44), (1, zl a1), (5, zl a3)] i216_147 rfl ?_
  refine X.lconst (y := 0) 148 i216_147 rfl rfl rfl ?_
  refine X.llF 149 .ladd (fun x y => x + y) i216_148 rfl rfl rfl (fun _ _ => rfl) (fun z545 hz545 => ?_)
  refine X.last' 150 i216_149 rfl rfl (by decide) rfl (by omega) (fun hrm546 m546 hm546 => ?_)
  have hJ547 := w45_19 hJ542 hm546 (by omega) hrm546
  refine X.aload_n 151 i216_150 rfl rfl rfl ?_
  refine X.getF 154 i216_151 rfl rfl (by decide) rfl rfl ?_
  refine X.bipush 156 i216_154 rfl rfl (by decide) ?_
  refine X.dup2 157 i216_156 rfl rfl ?_
  refine X.lald 158 i216_157 rfl rfl (by decide) rfl (by omega) ?_
  refine X.lload_n 159 i216_158 rfl rfl rfl ?_
  refine X.lconst (y := 0) 160 i216_159 rfl rfl rfl ?_
  refine X.lcmp 161 i216_160 rfl rfl (fun z548 hz548 => ?_)
  refine X.ifge 169 164 i216_161 rfl rfl rfl (fun h549 => (by exfalso; omega)) (fun h549 => ?_)
  have h549c : a1 < 0 := by omega
  clear h549 hz548
  refine X.lload_n 165 i216_164 rfl rfl rfl ?_
  refine X.lnegF 166 i216_165 rfl rfl (fun z550 hz550 => ?_)
  refine X.goto 170 i216_166 rfl rfl ?_
  refine X.cut [(0, zr 4 44), (5, zl a3)] i216_170 rfl ?_
  refine X.llF 171 .ladd (fun x y => x + y) i216_170 rfl rfl rfl (fun _ _ => rfl) (fun z551 hz551 => ?_)
  refine X.last' 172 i216_171 rfl rfl (by decide) rfl (by omega) (fun hrm552 m552 hm552 => ?_)
  have hJ553 := w45_19 hJ547 hm552 (by omega) hrm552
  refine X.aload_n 173 i216_172 rfl rfl rfl ?_
  refine X.getF 176 i216_173 rfl rfl (by decide) rfl rfl ?_
  refine X.bipush 178 i216_176 rfl rfl (by decide) ?_
  refine X.dup2 179 i216_178 rfl rfl ?_
  refine X.lald 180 i216_179 rfl rfl (by decide) rfl (by omega) ?_
  refine X.lload 182 i216_180 rfl rfl rfl ?_
  refine X.llF 183 .ladd (fun x y => x + y) i216_182 rfl rfl rfl (fun _ _ => rfl) (fun z554 hz554 => ?_)
  refine X.last' 184 i216_183 rfl rfl (by decide) rfl (by omega) (fun hrm555 m555 hm555 => ?_)
  have hJ556 := w45_19 hJ553 hm555 (by omega) hrm555
  refine X.retv i216_184 rfl t216 ?_
  exact hQ  m555  (hJ556.up (by omega)) 
-- WorkMeterModel.registers
theorem c216_6 {s : Nat × (Nat → Int32)} {S : zS} {m0 m : zM} {B : Int} {d : Nat} {Q : Option zV → zM → Prop} (a1 a2 a3 : Int) (hd : 16 ≤ d) (hJ : J S m0 B m) (hB : B + 0 ≤ 1000000000) (ha1 : a1 ≤ (-1)) (ha2 : a2 ≤ (-1)) (ha3 : 0 ≤ a3 ∧ a3 ≤ 3000000000) (hQ : ∀ m', J S m0 (B) m' → Q none m') : X (EE s) d 216 0 [(0, zr 4 44), (1, zl a1), (3, zl a2), (5, zl a3)] [] m Q := by
  refine X.aload_n 1 i216_0 rfl rfl rfl ?_
  refine X.aload_n 2 i216_1 rfl rfl rfl ?_
  refine X.getF 5 i216_2 rfl rfl (by decide) rfl rfl ?_
  refine X.iconst 6 i216_5 rfl rfl (by decide) ?_
  refine X.lald 7 i216_6 rfl rfl (by decide) rfl (by omega) ?_
  have h501 := r45_0 hJ 4
  refine X.l2i 8 i216_7 rfl rfl (by omega) ?_
  refine X.callv 11 [zi (m 4 45 0)] [] [(0, zr 4 44), (1, zi (m 4 45 0))] i216_8 rfl (by decide) rfl rfl (by omega) rfl rfl (by decide) rfl t217 (Nat.le_of_ble_eq_true rfl) (Nat.le_of_ble_eq_true rfl) rfl ?_
  refine c217_1 (B := B)  (m 4 45 0) (by omega) (hJ.up (by omega)) (by omega) (by omega) (fun v504 hv504 => ?_)
  show X (EE s) d 216 11 [(0, zr 4 44), (1, zl a1), (3, zl a2), (5, zl a3)] [zi v504] m _
  refine X.istore 13 [(0, zr 4 44), (1, zl a1), (3, zl a2), (5, zl a3), (7, zi v504)] i216_11 rfl rfl rfl ?_
  refine X.aload_n 14 i216_13 rfl rfl rfl ?_
  refine X.getF 17 i216_14 rfl rfl (by decide) rfl rfl ?_
  refine X.bipush 19 i216_17 rfl rfl (by decide) ?_
  refine X.iload 21 i216_19 rfl rfl rfl ?_
  refine X.iadd 22 i216_21 rfl rfl (by omega) ?_
  refine X.lald 23 i216_22 rfl rfl (by decide) rfl (by omega) ?_
  refine X.aload_n 24 i216_23 rfl rfl rfl ?_
  refine X.getF 27 i216_24 rfl rfl (by decide) rfl rfl ?_
  refine X.iconst 28 i216_27 rfl rfl (by decide) ?_
  refine X.lald 29 i216_28 rfl rfl (by decide) rfl (by omega) ?_
  have h505 := r45_5 hJ 4
  refine X.ldivF 30 i216_29 rfl rfl (by omega) (fun z506 => ?_)
  refine X.lstore 32 [(0, zr 4 44), (1, zl a1), (3, zl a2), (5, zl a3), (7, zi v504), (8, zl z506)] i216_30 rfl rfl rfl ?_
  refine X.lload_n 33 i216_32 rfl rfl rfl ?_
  refine X.lconst (y := 0) 34 i216_33 rfl rfl rfl ?_
  refine X.lcmp 35 i216_34 rfl rfl (fun z507 hz507 => ?_)
  refine X.ifle 46 38 i216_35 rfl rfl rfl (fun h508 => ?_) (fun h508 => (by exfalso; omega))
  have h508c : a1 ≤ 0 := by omega
  clear h508 hz507
  refine X.lload_n 47 i216_46 rfl rfl rfl ?_
  refine X.lconst (y := 0) 48 i216_47 rfl rfl rfl ?_
  refine X.lcmp 49 i216_48 rfl rfl (fun z509 hz509 => ?_)
  refine X.ifge 61 52 i216_49 rfl rfl rfl (fun h510 => (by exfalso; omega)) (fun h510 => ?_)
  have h510c : a1 < 0 := by omega
  clear h510 hz509
  refine X.aload_n 53 i216_52 rfl rfl rfl ?_
  refine X.iconst 54 i216_53 rfl rfl (by decide) ?_
  refine X.iload 56 i216_54 rfl rfl rfl ?_
  refine X.lload_n 57 i216_56 rfl rfl rfl ?_
  refine X.lnegF 58 i216_57 rfl rfl (fun z511 hz511 => ?_)
  refine X.callv 61 [zi 1, zi v504, zl z511] [] [(0, zr 4 44), (1, zi 1), (2, zi v504), (3, zl z511)] i216_58 rfl (by decide) rfl rfl (by omega) rfl rfl (by decide) rfl t220 (Nat.le_of_ble_eq_true rfl) (Nat.le_of_ble_eq_true rfl) rfl ?_
  refine X.aload_n 1 i220_0 rfl rfl rfl ?_
  refine X.getF 4 i220_1 rfl rfl (by decide) rfl rfl ?_
  refine X.bipush 6 i220_4 rfl rfl (by decide) ?_
  refine X.iconst 7 i220_6 rfl rfl (by decide) ?_
  refine X.iload_n 8 i220_7 rfl rfl rfl ?_
  refine X.imul 9 i220_8 rfl rfl (by omega) ?_
  refine X.iadd 10 i220_9 rfl rfl (by omega) ?_
  refine X.iload_n 11 i220_10 rfl rfl rfl ?_
  refine X.iadd 12 i220_11 rfl rfl (by omega) ?_
  refine X.dup2 13 i220_12 rfl rfl ?_
  refine X.lald 14 i220_13 rfl rfl (by decide) rfl (by omega) ?_
  refine X.lload_n 15 i220_14 rfl rfl rfl ?_
  refine X.llF 16 .ladd (fun x y => x + y) i220_15 rfl rfl rfl (fun _ _ => rfl) (fun z512 hz512 => ?_)
  refine X.last' 17 i220_16 rfl rfl (by decide) rfl (by omega) (fun hrm513 m513 hm513 => ?_)
  have hJ514 := w45_19 hJ hm513 (by omega) hrm513
  refine X.aload_n 18 i220_17 rfl rfl rfl ?_
  refine X.getF 21 i220_18 rfl rfl (by decide) rfl rfl ?_
  refine X.bipush 23 i220_21 rfl rfl (by decide) ?_
  refine X.iconst 24 i220_23 rfl rfl (by decide) ?_
  refine X.iload_n 25 i220_24 rfl rfl rfl ?_
  refine X.imul 26 i220_25 rfl rfl (by omega) ?_
  refine X.iadd 27 i220_26 rfl rfl (by omega) ?_
  refine X.iconst 28 i220_27 rfl rfl (by decide) ?_
  refine X.iadd 29 i220_28 rfl rfl (by omega) ?_
  refine X.dup2 30 i220_29 rfl rfl ?_
  refine X.lald 31 i220_30 rfl rfl (by decide) rfl (by omega) ?_
  refine X.lload_n 32 i220_31 rfl rfl rfl ?_
  refine X.llF 33 .ladd (fun x y => x + y) i220_32 rfl rfl rfl (fun _ _ => rfl) (fun z515 hz515 => ?_)
  refine X.last' 34 i220_33 rfl rfl (by decide) rfl (by omega) (fun hrm516 m516 hm516 => ?_)
  have hJ517 := w45_19 hJ514 hm516 (by omega) hrm516
  refine X.retv i220_34 rfl t220 ?_
  show X (EE s) d 216 61 [(0, zr 4 44), (1, zl a1), (3, zl a2), (5, zl a3), (7, zi v504), (8, zl z506)] [] m516 _
  refine X.aload_n 62 i216_61 rfl rfl rfl ?_
  refine X.iconst 63 i216_62 rfl rfl (by decide) ?_
  refine X.lload_n 64 i216_63 rfl rfl rfl ?_
  refine X.lload_n 65 i216_64 rfl rfl rfl ?_
  refine X.calls 68 [zl a1, zl a2] [zi 1, zr 4 44] [(0, zl a1), (2, zl a2)] i216_65 (by decide) rfl rfl (by omega) rfl rfl t221 (Nat.le_of_ble_eq_true rfl) (Nat.le_of_ble_eq_true rfl) rfl ?_
  refine X.lload_n 1 i221_0 rfl rfl rfl ?_
  refine X.lconst (y := 0) 2 i221_1 rfl rfl rfl ?_
  refine X.lcmp 3 i221_2 rfl rfl (fun z518 hz518 => ?_)
  refine X.iflt 20 6 i221_3 rfl rfl rfl (fun h519 => ?_) (fun h519 => (by exfalso; omega))
  have h519c : a1 < 0 := by omega
  clear h519 hz518
  refine X.cut [(2, zl a2)] i221_20 rfl ?_
  refine X.lload_n 21 i221_20 rfl rfl rfl ?_
  refine X.lconst (y := 0) 22 i221_21 rfl rfl rfl ?_
  refine X.lcmp 23 i221_22 rfl rfl (fun z520 hz520 => ?_)
  refine X.iflt 30 26 i221_23 rfl rfl rfl (fun h521 => ?_) (fun h521 => (by exfalso; omega))
  have h521c : a2 < 0 := by omega
  clear h521 hz520
  refine X.cut [] i221_30 rfl ?_
  refine X.iconst 31 i221_30 rfl rfl (by decide) ?_
  refine X.reti i221_31 rfl t221 ?_
  show X (EE s) d 216 68 [(0, zr 4 44), (1, zl a1), (3, zl a2), (5, zl a3), (7, zi v504), (8, zl z506)] [zi 3, zi 1, zr 4 44] m516 _
  refine X.iadd 69 i216_68 rfl rfl (by omega) ?_
  refine X.iload 71 i216_69 rfl rfl rfl ?_
  refine X.lload_n 72 i216_71 rfl rfl rfl ?_
  refine X.calls 75 [zl a2] [zi v504, zi (1 + 3), zr 4 44] [(0, zl a2)] i216_72 (by decide) rfl rfl (by omega) rfl rfl t215 (Nat.le_of_ble_eq_true rfl) (Nat.le_of_ble_eq_true rfl) rfl ?_
  refine X.lload_n 1 i215_0 rfl rfl rfl ?_
  refine X.lconst (y := 0) 2 i215_1 rfl rfl rfl ?_
  refine X.lcmp 3 i215_2 rfl rfl (fun z522 hz522 => ?_)
  refine X.ifge 11 6 i215_3 rfl rfl rfl (fun h523 => (by exfalso; omega)) (fun h523 => ?_)
  have h523c : a2 < 0 := by omega
  clear h523 hz522
  refine X.lload_n 7 i215_6 rfl rfl rfl ?_
  refine X.lnegF 8 i215_7 rfl rfl (fun z524 hz524 => ?_)
  refine X.goto 12 i215_8 rfl rfl ?_
  refine X.cut [] i215_12 rfl ?_
  refine X.retl i215_12 rfl t215 ?_
  show X (EE s) d 216 75 [(0, zr 4 44), (1, zl a1), (3, zl a2), (5, zl a3), (7, zi v504), (8, zl z506)] [zl z524, zi v504, zi (1 + 3), zr 4 44] m516 _
  refine X.callv 78 [zi (1 + 3), zi v504, zl z524] [] [(0, zr 4 44), (1, zi (1 + 3)), (2, zi v504), (3, zl z524)] i216_75 rfl (by decide) rfl rfl (by omega) rfl rfl (by decide) rfl t220 (Nat.le_of_ble_eq_true rfl) (Nat.le_of_ble_eq_true rfl) rfl ?_
  refine X.aload_n 1 i220_0 rfl rfl rfl ?_
  refine X.getF 4 i220_1 rfl rfl (by decide) rfl rfl ?_
  refine X.bipush 6 i220_4 rfl rfl (by decide) ?_
  refine X.iconst 7 i220_6 rfl rfl (by decide) ?_
  refine X.iload_n 8 i220_7 rfl rfl rfl ?_
  refine X.imul 9 i220_8 rfl rfl (by omega) ?_
  refine X.iadd 10 i220_9 rfl rfl (by omega) ?_
  refine X.iload_n 11 i220_10 rfl rfl rfl ?_
  refine X.iadd 12 i220_11 rfl rfl (by omega) ?_
  refine X.dup2 13 i220_12 rfl rfl ?_
  refine X.lald 14 i220_13 rfl rfl (by decide) rfl (by omega) ?_
  refine X.lload_n 15 i220_14 rfl rfl rfl ?_
  refine X.llF 16 .ladd (fun x y => x + y) i220_15 rfl rfl rfl (fun _ _ => rfl) (fun z525 hz525 => ?_)
  refine X.last' 17 i220_16 rfl rfl (by decide) rfl (by omega) (fun hrm526 m526 hm526 => ?_)
  have hJ527 := w45_19 hJ517 hm526 (by omega) hrm526
  refine X.aload_n 18 i220_17 rfl rfl rfl ?_
  refine X.getF 21 i220_18 rfl rfl (by decide) rfl rfl ?_
  refine X.bipush 23 i220_21 rfl rfl (by decide) ?_
  refine X.iconst 24 i220_23 rfl rfl (by decide) ?_
  refine X.iload_n 25 i220_24 rfl rfl rfl ?_
  refine X.imul 26 i220_25 rfl rfl (by omega) ?_
  refine X.iadd 27 i220_26 rfl rfl (by omega) ?_
  refine X.iconst 28 i220_27 rfl rfl (by decide) ?_
  refine X.iadd 29 i220_28 rfl rfl (by omega) ?_
  refine X.dup2 30 i220_29 rfl rfl ?_
  refine X.lald 31 i220_30 rfl rfl (by decide) rfl (by omega) ?_
  refine X.lload_n 32 i220_31 rfl rfl rfl ?_
  refine X.llF 33 .ladd (fun x y => x + y) i220_32 rfl rfl rfl (fun _ _ => rfl) (fun z528 hz528 => ?_)
  refine X.last' 34 i220_33 rfl rfl (by decide) rfl (by omega) (fun hrm529 m529 hm529 => ?_)
  have hJ530 := w45_19 hJ527 hm529 (by omega) hrm529
  refine X.retv i220_34 rfl t220 ?_
  show X (EE s) d 216 78 [(0, zr 4 44), (1, zl a1), (3, zl a2), (5, zl a3), (7, zi v504), (8, zl z506)] [] m529 _
  refine X.aload_n 79 i216_78 rfl rfl rfl ?_
  refine X.bipush 81 i216_79 rfl rfl (by decide) ?_
  refine X.iload 83 i216_81 rfl rfl rfl ?_
  refine X.lload 85 i216_83 rfl rfl rfl ?_
  refine X.callv 88 [zi 6, zi v504, zl a3] [] [(0, zr 4 44), (1, zi 6), (2, zi v504), (3, zl a3)] i216_85 rfl (by decide) rfl rfl (by omega) rfl rfl (by decide) rfl t220 (Nat.le_of_ble_eq_true rfl) (Nat.le_of_ble_eq_true rfl) rfl ?_
  refine X.aload_n 1 i220_0 rfl rfl rfl ?_
  refine X.getF 4 i220_1 rfl rfl (by decide) rfl rfl ?_
  refine X.bipush 6 i220_4 rfl rfl (by decide) ?_
  refine X.iconst 7 i220_6 rfl rfl (by decide) ?_
  refine X.iload_n 8 i220_7 rfl rfl rfl ?_
  refine X.imul 9 i220_8 rfl rfl (by omega) ?_
  refine X.iadd 10 i220_9 rfl rfl (by omega) ?_
  refine X.iload_n 11 i220_10 rfl rfl rfl ?_
  refine X.iadd 12 i220_11 rfl rfl (by omega) ?_
  refine X.dup2 13 i220_12 rfl rfl ?_
  refine X.lald 14 i220_13 rfl rfl (by decide) rfl (by omega) ?_
  refine X.lload_n 15 i220_14 rfl rfl rfl ?_
  refine X.llF 16 .ladd (fun x y => x + y) i220_15 rfl rfl rfl (fun _ _ => rfl) (fun z531 hz531 => ?_)
  refine X.last' 17 i220_16 rfl rfl (by decide) rfl (by omega) (fun hrm532 m532 hm532 => ?_)
  have hJ533 := w45_19 hJ530 hm532 (by omega) hrm532
  refine X.aload_n 18 i220_17 rfl rfl rfl ?_
  refine X.getF 21 i220_18 rfl rfl (by decide) rfl rfl ?_
  refine X.bipush 23 i220_21 rfl rfl (by decide) ?_
  refine X.iconst 24 i220_23 rfl rfl (by decide) ?_
  refine X.iload_n 25 i220_24 rfl rfl rfl ?_
  refine X.imul 26 i220_25 rfl rfl (by omega) ?_
  refine X.iadd 27 i220_26 rfl rfl (by omega) ?_
  refine X.iconst 28 i220_27 rfl rfl (by decide) ?_
  refine X.iadd 29 i220_28 rfl rfl (by omega) ?_
  refine X.dup2 30 i220_29 rfl rfl ?_
  refine X.lald 31 i220_30 rfl rfl (by decide) rfl (by omega) ?_
  refine X.lload_n 32 i220_31 rfl rfl rfl ?_
  refine X.llF 33 .ladd (fun x y => x + y) i220_32 rfl rfl rfl (fun _ _ => rfl) (fun z534 hz534 => ?_)
  refine X.last' 34 i220_33 rfl rfl (by decide) rfl (by omega) (fun hrm535 m535 hm535 => ?_)
  have hJ536 := w45_19 hJ533 hm535 (by omega) hrm535
  refine X.retv i220_34 rfl t220 ?_
  show X (EE s) d 216 88 [(0, zr 4 44), (1, zl a1), (3, zl a2), (5, zl a3), (7, zi v504), (8, zl z506)] [] m535 _
  refine X.aload_n 89 i216_88 rfl rfl rfl ?_
  refine X.getF 92 i216_89 rfl rfl (by decide) rfl rfl ?_
  refine X.bipush 94 i216_92 rfl rfl (by decide) ?_
  refine X.dup2 95 i216_94 rfl rfl ?_
  refine X.lald 96 i216_95 rfl rfl (by decide) rfl (by omega) ?_
  refine X.aload_n 97 i216_96 rfl rfl rfl ?_
  refine X.getF 100 i216_97 rfl rfl (by decide) rfl rfl ?_
  refine X.bipush 102 i216_100 rfl rfl (by decide) ?_
  refine X.iload 104 i216_102 rfl rfl rfl ?_
  refine X.iadd 105 i216_104 rfl rfl (by omega) ?_
  refine X.lald 106 i216_105 rfl rfl (by decide) rfl (by omega) ?_
  refine X.aload_n 107 i216_106 rfl rfl rfl ?_
  refine X.getF 110 i216_107 rfl rfl (by decide) rfl rfl ?_
  refine X.iconst 111 i216_110 rfl rfl (by decide) ?_
  refine X.lald 112 i216_111 rfl rfl (by decide) rfl (by omega) ?_
  have h537 := r45_5 hJ536 4
  refine X.ldivF 113 i216_112 rfl rfl (by omega) (fun z538 => ?_)
  refine X.lload 115 i216_113 rfl rfl rfl ?_
  refine X.llF 116 .lsub (fun x y => x - y) i216_115 rfl rfl rfl (fun _ _ => rfl) (fun z539 hz539 => ?_)
  refine X.aload_n 117 i216_116 rfl rfl rfl ?_
  refine X.getF 120 i216_117 rfl rfl (by decide) rfl rfl ?_
  refine X.bipush 122 i216_120 rfl rfl (by decide) ?_
  refine X.iload 124 i216_122 rfl rfl rfl ?_
  refine X.iadd 125 i216_124 rfl rfl (by omega) ?_
  refine X.lald 126 i216_125 rfl rfl (by decide) rfl (by omega) ?_
  refine X.llF 127 .lmul (fun x y => x * y) i216_126 rfl rfl rfl (fun _ _ => rfl) (fun z540 hz540 => ?_)
  refine X.llF 128 .lsub (fun x y => x - y) i216_127 rfl rfl rfl (fun _ _ => rfl) (fun z541 hz541 => ?_)
  refine X.last' 129 i216_128 rfl rfl (by decide) rfl (by omega) (fun hrm542 m542 hm542 => ?_)
  have hJ543 := w45_10 hJ536 hm542 hrm542
  refine X.aload_n 130 i216_129 rfl rfl rfl ?_
  refine X.getF 133 i216_130 rfl rfl (by decide) rfl rfl ?_
  refine X.bipush 135 i216_133 rfl rfl (by decide) ?_
  refine X.dup2 136 i216_135 rfl rfl ?_
  refine X.lald 137 i216_136 rfl rfl (by decide) rfl (by omega) ?_
  refine X.lload_n 138 i216_137 rfl rfl rfl ?_
  refine X.lconst (y := 0) 139 i216_138 rfl rfl rfl ?_
  refine X.lcmp 140 i216_139 rfl rfl (fun z544 hz544 => ?_)
  refine X.ifle 147 143 i216_140 rfl rfl rfl (fun h545 => ?_) (fun h545 => (by exfalso; omega))
  have h545c : a1 ≤ 0 := by omega
  clear h545 hz544
  refine X.cut [(0, zr 4 44), (1, zl a1), (5, zl a3)] i216_147 rfl ?_
  refine X.lconst (y := 0) 148 i216_147 rfl rfl rfl ?_
  refine X.llF 149 .ladd (fun x y => x + y) i216_148 rfl rfl rfl (fun _ _ => rfl) (fun z546 hz546 => ?_)
  refine X.last' 150 i216_149 rfl rfl (by decide) rfl (by omega) (fun hrm547 m547 hm547 => ?_)
  have hJ548 := w45_19 hJ543 hm547 (by omega) hrm547
  refine X.aload_n 151 i216_150 rfl rfl rfl ?_
  refine X.getF 154 i216_151 rfl rfl (by decide) rfl rfl ?_
  refine X.bipush 156 i216_154 rfl rfl (by decide) ?_
  refine X.dup2 157 i216_156 rfl rfl ?_
  refine X.lald 158 i216_157 rfl rfl (by decide) rfl (by omega) ?_
  refine X.lload_n 159 i216_158 rfl rfl rfl ?_
  refine X.lconst (y := 0) 160 i216_159 rfl rfl rfl ?_
  refine X.lcmp 161 i216_160 rfl rfl (fun z549 hz549 => ?_)
  refine X.ifge 169 164 i216_161 rfl rfl rfl (fun h550 => (by exfalso; omega)) (fun h550 => ?_)
  have h550c : a1 < 0 := by omega
  clear h550 hz549
  refine X.lload_n 165 i216_164 rfl rfl rfl ?_
  refine X.lnegF 166 i216_165 rfl rfl (fun z551 hz551 => ?_)
  refine X.goto 170 i216_166 rfl rfl ?_
  refine X.cut [(0, zr 4 44), (5, zl a3)] i216_170 rfl ?_
  refine X.llF 171 .ladd (fun x y => x + y) i216_170 rfl rfl rfl (fun _ _ => rfl) (fun z552 hz552 => ?_)
  refine X.last' 172 i216_171 rfl rfl (by decide) rfl (by omega) (fun hrm553 m553 hm553 => ?_)
  have hJ554 := w45_19 hJ548 hm553 (by omega) hrm553
  refine X.aload_n 173 i216_172 rfl rfl rfl ?_
  refine X.getF 176 i216_173 rfl rfl (by decide) rfl rfl ?_
  refine X.bipush 178 i216_176 rfl rfl (by decide) ?_
  refine X.dup2 179 i216_178 rfl rfl ?_
  refine X.lald 180 i216_179 rfl rfl (by decide) rfl (by omega) ?_
  refine X.lload 182 i216_180 rfl rfl rfl ?_
  refine X.llF 183 .ladd (fun x y => x + y) i216_182 rfl rfl rfl (fun _ _ => rfl) (fun z555 hz555 => ?_)
  refine X.last' 184 i216_183 rfl rfl (by decide) rfl (by omega) (fun hrm556 m556 hm556 => ?_)
  have hJ557 := w45_19 hJ554 hm556 (by omega) hrm556
  refine X.retv i216_184 rfl t216 ?_
  exact hQ  m556  (hJ557.up (by omega)) 
-- WorkMeterModel.meters
theorem c208_1 {s : Nat × (Nat → Int32)} {S : zS} {m0 m : zM} {B : Int} {d : Nat} {Q : Option zV → zM → Prop} (hd : 19 ≤ d) (hJ : J S m0 B m) (hB : B + 11 ≤ 1000000000) (hs0 : S.1 4 45 0) (hs1 : S.1 4 45 13) (hQ : ∀ m', J S m0 (B + 11) m' → (m' 4 45 0 = min (m 4 45 0 + 1) 2000000000 ∧ m' 4 45 13 = m 4 45 13 + 1) → Q none m') : X (EE s) d 208 0 [(0, zr 4 44)] [] m Q := by
  refine X.aload_n 1 i208_0 rfl rfl rfl ?_
  refine X.getF 4 i208_1 rfl rfl (by decide) rfl rfl ?_
  refine X.bipush 6 i208_4 rfl rfl (by decide) ?_
  refine X.lald 7 i208_6 rfl rfl (by decide) rfl (by omega) ?_
  have h501 := r45_12 hJ 4
  refine X.lconst (y := 1) 8 i208_7 rfl rfl rfl ?_
  refine X.lcmp 9 i208_8 rfl rfl (fun z502 hz502 => ?_)
  refine X.ifne 16 12 i208_9 rfl rfl rfl (fun h503 => ?_) (fun h503 => ?_)
  · have h503c : (m 4 45 12) ≠ 1 := by omega
    clear h503 hz502
    refine X.aload_n 17 i208_16 rfl rfl rfl ?_
    refine X.iconst 18 i208_17 rfl rfl (by decide) ?_
    refine X.callv 21 [zi 0] [] [(0, zr 4 44), (1, zi 0)] i208_18 rfl (by decide) rfl rfl (by omega) rfl rfl (by decide) rfl t209 (Nat.le_of_ble_eq_true rfl) (Nat.le_of_ble_eq_true rfl) rfl ?_
    refine c209_1 (B := B)  0 (by omega) (hJ.up (by omega)) (by omega) (by omega) (fun v506 hv506 => ?_)
    show X (EE s) d 208 21 [(0, zr 4 44)] [zl v506] m _
    refine X.lstore_n 22 [(0, zr 4 44), (1, zl v506)] i208_21 rfl rfl rfl ?_
    refine X.aload_n 23 i208_22 rfl rfl rfl ?_
    refine X.getF 26 i208_23 rfl rfl (by decide) rfl rfl ?_
    refine X.bipush 28 i208_26 rfl rfl (by decide) ?_
    refine X.lald 29 i208_28 rfl rfl (by decide) rfl (by omega) ?_
    refine X.lconst (y := 1) 30 i208_29 rfl rfl rfl ?_
    refine X.lcmp 31 i208_30 rfl rfl (fun z507 hz507 => ?_)
    refine X.ifne 38 34 i208_31 rfl rfl rfl (fun h508 => ?_) (fun h508 => (by exfalso; omega))
    have h508c : (m 4 45 12) ≠ 1 := by omega
    clear h508 hz507
    refine X.aload_n 39 i208_38 rfl rfl rfl ?_
    refine X.iconst 40 i208_39 rfl rfl (by decide) ?_
    refine X.callv 43 [zi 1] [] [(0, zr 4 44), (1, zi 1)] i208_40 rfl (by decide) rfl rfl (by omega) rfl rfl (by decide) rfl t209 (Nat.le_of_ble_eq_true rfl) (Nat.le_of_ble_eq_true rfl) rfl ?_
    refine c209_1 (B := B)  1 (by omega) (hJ.up (by omega)) (by omega) (by omega) (fun v511 hv511 => ?_)
    show X (EE s) d 208 43 [(0, zr 4 44), (1, zl v506)] [zl v511] m _
    refine X.lstore_n 44 [(0, zr 4 44), (1, zl v506), (3, zl v511)] i208_43 rfl rfl rfl ?_
    refine X.lload_n 45 i208_44 rfl rfl rfl ?_
    refine X.lload_n 46 i208_45 rfl rfl rfl ?_
    refine X.llF 47 .lmul (fun x y => x * y) i208_46 rfl rfl rfl (fun _ _ => rfl) (fun z512 hz512 => ?_)
    refine X.lload_n 48 i208_47 rfl rfl rfl ?_
    refine X.lload_n 49 i208_48 rfl rfl rfl ?_
    refine X.llF 50 .lmul (fun x y => x * y) i208_49 rfl rfl rfl (fun _ _ => rfl) (fun z513 hz513 => ?_)
    refine X.llF 51 .ladd (fun x y => x + y) i208_50 rfl rfl rfl (fun _ _ => rfl) (fun z514 hz514 => ?_)
    refine X.calls 54 [zl z514] [] [(0, zl z514)] i208_51 (by decide) rfl rfl (by omega) rfl rfl t214 (Nat.le_of_ble_eq_true rfl) (Nat.le_of_ble_eq_true rfl) rfl ?_
    refine c214_1 (B := B)  z514 (by omega) (hJ.up (by omega)) (by omega)  (fun v517 hv517 => ?_)
    show X (EE s) d 208 54 [(0, zr 4 44), (1, zl v506), (3, zl v511)] [zl v517] m _
    refine X.lstore 56 [(0, zr 4 44), (1, zl v506), (3, zl v511), (5, zl v517)] i208_54 rfl rfl rfl ?_
    refine X.aload_n 57 i208_56 rfl rfl rfl ?_
    refine X.getF 60 i208_57 rfl rfl (by decide) rfl rfl ?_
    refine X.bipush 62 i208_60 rfl rfl (by decide) ?_
    refine X.dup2 63 i208_62 rfl rfl ?_
    refine X.lald 64 i208_63 rfl rfl (by decide) rfl (by omega) ?_
    have h518 := r45_13 hJ 4
    refine X.lconst (y := 1) 65 i208_64 rfl rfl rfl ?_
    refine X.ladd 66 i208_65 rfl rfl (by omega) ?_
    refine X.last' 67 i208_66 rfl rfl (by decide) rfl (by omega) (fun hrm519 m519 hm519 => ?_)
    have hJ520 := w45_13 (hJ.up (B' := B + 1) (by omega)) hm519 (by omega) hs1
    have wt521 : m519 4 45 0 = (m 4 45 0) := by rw [hm519]; exact z_upd_o _ _ rfl
    have wt522 : m519 4 45 13 = ((m 4 45 13) + 1) := by rw [hm519]; exact z_upd_same _ _ _ _ _
    refine X.aload_n 68 i208_67 rfl rfl rfl ?_
    refine X.getF 71 i208_68 rfl rfl (by decide) rfl rfl ?_
    refine X.bipush 73 i208_71 rfl rfl (by decide) ?_
    refine X.dup2 74 i208_73 rfl rfl ?_
    refine X.lald 75 i208_74 rfl rfl (by decide) rfl (by omega) ?_
    refine X.lconst (y := 1) 76 i208_75 rfl rfl rfl ?_
    refine X.llF 77 .ladd (fun x y => x + y) i208_76 rfl rfl rfl (fun _ _ => rfl) (fun z523 hz523 => ?_)
    refine X.last' 78 i208_77 rfl rfl (by decide) rfl (by omega) (fun hrm524 m524 hm524 => ?_)
    have hJ525 := w45_19 hJ520 hm524 (by omega) hrm524
    have wt526 : m524 4 45 0 = (m 4 45 0) := Eq.trans (by rw [hm524]; exact z_upd_i _ _ _ _ (by omega)) wt521
    have wt527 : m524 4 45 13 = ((m 4 45 13) + 1) := Eq.trans (by rw [hm524]; exact z_upd_i _ _ _ _ (by omega)) wt522
    clear wt521 wt522
    refine X.lload_n 79 i208_78 rfl rfl rfl ?_
    refine X.calls 82 [zl v506] [] [(0, zl v506)] i208_79 (by decide) rfl rfl (by omega) rfl rfl t215 (Nat.le_of_ble_eq_true rfl) (Nat.le_of_ble_eq_true rfl) rfl ?_
    refine X.lload_n 1 i215_0 rfl rfl rfl ?_
    refine X.lconst (y := 0) 2 i215_1 rfl rfl rfl ?_
    refine X.lcmp 3 i215_2 rfl rfl (fun z528 hz528 => ?_)
    refine X.ifge 11 6 i215_3 rfl rfl rfl (fun h529 => ?_) (fun h529 => ?_)
    · have h529c : v506 ≥ 0 := by omega
      clear h529 hz528
      refine X.lload_n 12 i215_11 rfl rfl rfl ?_
      refine X.cut [] i215_12 rfl ?_
      refine X.retl i215_12 rfl t215 ?_
      show X (EE s) d 208 82 [(0, zr 4 44), (1, zl v506), (3, zl v511), (5, zl v517)] [zl v506] m524 _
      refine X.aload_n 83 i208_82 rfl rfl rfl ?_
      refine X.getF 86 i208_83 rfl rfl (by decide) rfl rfl ?_
      refine X.iconst 87 i208_86 rfl rfl (by decide) ?_
      refine X.lald 88 i208_87 rfl rfl (by decide) rfl (by omega) ?_
      refine X.lcmp 89 i208_88 rfl rfl (fun z530 hz530 => ?_)
      refine X.ifge 120 92 i208_89 rfl rfl rfl (fun h531 => ?_) (fun h531 => ?_)
      · have h531c : v506 ≥ (m524 4 45 4) := by omega
        clear h531 hz530
        refine X.aload_n 121 i208_120 rfl rfl rfl ?_
        refine X.lload_n 122 i208_121 rfl rfl rfl ?_
        refine X.lload_n 123 i208_122 rfl rfl rfl ?_
        refine X.lload 125 i208_123 rfl rfl rfl ?_
        refine X.callv 128 [zl v506, zl v511, zl v517] [] [(0, zr 4 44), (1, zl v506), (3, zl v511), (5, zl v517)] i208_125 rfl (by decide) rfl rfl (by omega) rfl rfl (by decide) rfl t216 (Nat.le_of_ble_eq_true rfl) (Nat.le_of_ble_eq_true rfl) rfl ?_
        refine c216_1 (S := zfr [] S) (m0 := m524) (B := B + 1)  v506 v511 v517 (by omega) (hJ525.ow.up (by omega)) (by omega) (by omega) (by omega) (fun m532 hJ533 => ?_)
        have hJ535 := hJ525.trans hJ533 zi_n
        have wt536 : m532 4 45 0 = (m 4 45 0) := Eq.trans (hJ533.eq rfl rfl) wt526
        have wt537 : m532 4 45 13 = ((m 4 45 13) + 1) := Eq.trans (hJ533.eq rfl rfl) wt527
        clear wt526 wt527
        show X (EE s) d 208 128 [(0, zr 4 44), (1, zl v506), (3, zl v511), (5, zl v517)] [] m532 _
        refine X.cut [(0, zr 4 44)] i208_128 rfl ?_
        refine X.aload_n 129 i208_128 rfl rfl rfl ?_
        refine X.callv 132 [] [] [(0, zr 4 44)] i208_129 rfl (by decide) rfl rfl (by omega) rfl rfl (by decide) rfl t222 (Nat.le_of_ble_eq_true rfl) (Nat.le_of_ble_eq_true rfl) rfl ?_
        refine c222_1 (S := zfr [] S) (m0 := m532) (B := B + 1)   (by omega) (hJ535.ow.up (by omega)) (by omega)  (fun m538 hJ539 => ?_)
        have hJ541 := hJ535.trans hJ539 zi_n
        have wt542 : m538 4 45 0 = (m 4 45 0) := Eq.trans (hJ539.eq rfl rfl) wt536
        have wt543 : m538 4 45 13 = ((m 4 45 13) + 1) := Eq.trans (hJ539.eq rfl rfl) wt537
        clear wt536 wt537
        show X (EE s) d 208 132 [(0, zr 4 44)] [] m538 _
        refine X.aload_n 133 i208_132 rfl rfl rfl ?_
        refine X.callv 136 [] [] [(0, zr 4 44)] i208_133 rfl (by decide) rfl rfl (by omega) rfl rfl (by decide) rfl t224 (Nat.le_of_ble_eq_true rfl) (Nat.le_of_ble_eq_true rfl) rfl ?_
        refine c224_1 (S := zfr [] S) (m0 := m538) (B := B + 2)   (by omega) (hJ541.ow.up (by omega)) (by omega)  (fun m544 hJ545 => ?_)
        have hJ547 := hJ541.trans hJ545 zi_n
        have wt548 : m544 4 45 0 = (m 4 45 0) := Eq.trans (hJ545.eq rfl rfl) wt542
        have wt549 : m544 4 45 13 = ((m 4 45 13) + 1) := Eq.trans (hJ545.eq rfl rfl) wt543
        clear wt542 wt543
        show X (EE s) d 208 136 [(0, zr 4 44)] [] m544 _
        refine X.aload_n 137 i208_136 rfl rfl rfl ?_
        refine X.callv 140 [] [] [(0, zr 4 44)] i208_137 rfl (by decide) rfl rfl (by omega) rfl rfl (by decide) rfl t230 (Nat.le_of_ble_eq_true rfl) (Nat.le_of_ble_eq_true rfl) rfl ?_
        refine c230_1 (S := zfr [(4, 45, 0)] S) (m0 := m544) (B := B + 10)   (by omega) (hJ547.ow.up (by omega)) (by omega) zm_z (fun m550 hJ551 hqv5520 => ?_)
        have hJ553 := hJ547.trans hJ551 (zi_c hs0 zi_n)
        have wt554 : m550 4 45 13 = ((m 4 45 13) + 1) := Eq.trans (hJ551.eq rfl rfl) wt549
        show X (EE s) d 208 140 [(0, zr 4 44)] [] m550 _
        refine X.retv i208_140 rfl t208 ?_
        exact hQ  m550  (hJ553.up (by omega)) (by exact ⟨by omega, by omega⟩)
      · have h531c : v506 < (m524 4 45 4) := by omega
        clear h531 hz530
        refine X.lload_n 93 i208_92 rfl rfl rfl ?_
        refine X.calls 96 [zl v511] [] [(0, zl v511)] i208_93 (by decide) rfl rfl (by omega) rfl rfl t215 (Nat.le_of_ble_eq_true rfl) (Nat.le_of_ble_eq_true rfl) rfl ?_
        refine X.lload_n 1 i215_0 rfl rfl rfl ?_
        refine X.lconst (y := 0) 2 i215_1 rfl rfl rfl ?_
        refine X.lcmp 3 i215_2 rfl rfl (fun z555 hz555 => ?_)
        refine X.ifge 11 6 i215_3 rfl rfl rfl (fun h556 => ?_) (fun h556 => ?_)
        · have h556c : v511 ≥ 0 := by omega
          clear h556 hz555
          refine X.lload_n 12 i215_11 rfl rfl rfl ?_
          refine X.cut [] i215_12 rfl ?_
          refine X.retl i215_12 rfl t215 ?_
          show X (EE s) d 208 96 [(0, zr 4 44), (1, zl v506), (3, zl v511), (5, zl v517)] [zl v511] m524 _
          refine X.aload_n 97 i208_96 rfl rfl rfl ?_
          refine X.getF 100 i208_97 rfl rfl (by decide) rfl rfl ?_
          refine X.iconst 101 i208_100 rfl rfl (by decide) ?_
          refine X.lald 102 i208_101 rfl rfl (by decide) rfl (by omega) ?_
          refine X.lcmp 103 i208_102 rfl rfl (fun z557 hz557 => ?_)
          refine X.ifge 120 106 i208_103 rfl rfl rfl (fun h558 => ?_) (fun h558 => ?_)
          · have h558c : v511 ≥ (m524 4 45 4) := by omega
            clear h558 hz557
            refine X.aload_n 121 i208_120 rfl rfl rfl ?_
            refine X.lload_n 122 i208_121 rfl rfl rfl ?_
            refine X.lload_n 123 i208_122 rfl rfl rfl ?_
            refine X.lload 125 i208_123 rfl rfl rfl ?_
            refine X.callv 128 [zl v506, zl v511, zl v517] [] [(0, zr 4 44), (1, zl v506), (3, zl v511), (5, zl v517)] i208_125 rfl (by decide) rfl rfl (by omega) rfl rfl (by decide) rfl t216 (Nat.le_of_ble_eq_true rfl) (Nat.le_of_ble_eq_true rfl) rfl ?_
            refine c216_2 (S := zfr [] S) (m0 := m524) (B := B + 1)  v506 v511 v517 (by omega) (hJ525.ow.up (by omega)) (by omega) (by omega) (by omega) (by omega) (fun m559 hJ560 => ?_)
            have hJ562 := hJ525.trans hJ560 zi_n
            have wt563 : m559 4 45 0 = (m 4 45 0) := Eq.trans (hJ560.eq rfl rfl) wt526
            have wt564 : m559 4 45 13 = ((m 4 45 13) + 1) := Eq.trans (hJ560.eq rfl rfl) wt527
            clear wt526 wt527
            show X (EE s) d 208 128 [(0, zr 4 44), (1, zl v506), (3, zl v511), (5, zl v517)] [] m559 _
            refine X.cut [(0, zr 4 44)] i208_128 rfl ?_
            refine X.aload_n 129 i208_128 rfl rfl rfl ?_
            refine X.callv 132 [] [] [(0, zr 4 44)] i208_129 rfl (by decide) rfl rfl (by omega) rfl rfl (by decide) rfl t222 (Nat.le_of_ble_eq_true rfl) (Nat.le_of_ble_eq_true rfl) rfl ?_
            refine c222_1 (S := zfr [] S) (m0 := m559) (B := B + 1)   (by omega) (hJ562.ow.up (by omega)) (by omega)  (fun m565 hJ566 => ?_)
            have hJ568 := hJ562.trans hJ566 zi_n
            have wt569 : m565 4 45 0 = (m 4 45 0) := Eq.trans (hJ566.eq rfl rfl) wt563
            have wt570 : m565 4 45 13 = ((m 4 45 13) + 1) := Eq.trans (hJ566.eq rfl rfl) wt564
            clear wt563 wt564
            show X (EE s) d 208 132 [(0, zr 4 44)] [] m565 _
            refine X.aload_n 133 i208_132 rfl rfl rfl ?_
            refine X.callv 136 [] [] [(0, zr 4 44)] i208_133 rfl (by decide) rfl rfl (by omega) rfl rfl (by decide) rfl t224 (Nat.le_of_ble_eq_true rfl) (Nat.le_of_ble_eq_true rfl) rfl ?_
            refine c224_1 (S := zfr [] S) (m0 := m565) (B := B + 2)   (by omega) (hJ568.ow.up (by omega)) (by omega)  (fun m571 hJ572 => ?_)
            have hJ574 := hJ568.trans hJ572 zi_n
            have wt575 : m571 4 45 0 = (m 4 45 0) := Eq.trans (hJ572.eq rfl rfl) wt569
            have wt576 : m571 4 45 13 = ((m 4 45 13) + 1) := Eq.trans (hJ572.eq rfl rfl) wt570
            clear wt569 wt570
            show X (EE s) d 208 136 [(0, zr 4 44)] [] m571 _
            refine X.aload_n 137 i208_136 rfl rfl rfl ?_
            refine X.callv 140 [] [] [(0, zr 4 44)] i208_137 rfl (by decide) rfl rfl (by omega) rfl rfl (by decide) rfl t230 (Nat.le_of_ble_eq_true rfl) (Nat.le_of_ble_eq_true rfl) rfl ?_
            refine c230_1 (S := zfr [(4, 45, 0)] S) (m0 := m571) (B := B + 10)   (by omega) (hJ574.ow.up (by omega)) (by omega) zm_z (fun m577 hJ578 hqv5790 => ?_)
            have hJ580 := hJ574.trans hJ578 (zi_c hs0 zi_n)
            have wt581 : m577 4 45 13 = ((m 4 45 13) + 1) := Eq.trans (hJ578.eq rfl rfl) wt576
            show X (EE s) d 208 140 [(0, zr 4 44)] [] m577 _
            refine X.retv i208_140 rfl t208 ?_
            exact hQ  m577  (hJ580.up (by omega)) (by exact ⟨by omega, by omega⟩)
          · have h558c : v511 < (m524 4 45 4) := by omega
            clear h558 hz557
            refine X.aload_n 107 i208_106 rfl rfl rfl ?_
            refine X.getF 110 i208_107 rfl rfl (by decide) rfl rfl ?_
            refine X.bipush 112 i208_110 rfl rfl (by decide) ?_
            refine X.dup2 113 i208_112 rfl rfl ?_
            refine X.lald 114 i208_113 rfl rfl (by decide) rfl (by omega) ?_
            refine X.lconst (y := 1) 115 i208_114 rfl rfl rfl ?_
            refine X.llF 116 .ladd (fun x y => x + y) i208_115 rfl rfl rfl (fun _ _ => rfl) (fun z582 hz582 => ?_)
            refine X.last' 117 i208_116 rfl rfl (by decide) rfl (by omega) (fun hrm583 m583 hm583 => ?_)
            have hJ584 := w45_14 hJ525 hm583 (by omega) hrm583
            have wt585 : m583 4 45 0 = (m 4 45 0) := Eq.trans (by rw [hm583]; exact z_upd_i _ _ _ _ (by omega)) wt526
            have wt586 : m583 4 45 13 = ((m 4 45 13) + 1) := Eq.trans (by rw [hm583]; exact z_upd_i _ _ _ _ (by omega)) wt527
            clear wt526 wt527
            refine X.goto 128 i208_117 rfl rfl ?_
            refine X.cut [(0, zr 4 44)] i208_128 rfl ?_
            refine X.aload_n 129 i208_128 rfl rfl rfl ?_
            refine X.callv 132 [] [] [(0, zr 4 44)] i208_129 rfl (by decide) rfl rfl (by omega) rfl rfl (by decide) rfl t222 (Nat.le_of_ble_eq_true rfl) (Nat.le_of_ble_eq_true rfl) rfl ?_
            refine c222_1 (S := zfr [] S) (m0 := m583) (B := B + 1)   (by omega) (hJ584.ow.up (by omega)) (by omega)  (fun m587 hJ588 => ?_)
            have hJ590 := hJ584.trans hJ588 zi_n
            have wt591 : m587 4 45 0 = (m 4 45 0) := Eq.trans (hJ588.eq rfl rfl) wt585
            have wt592 : m587 4 45 13 = ((m 4 45 13) + 1) := Eq.trans (hJ588.eq rfl rfl) wt586
            clear wt585 wt586
            show X (EE s) d 208 132 [(0, zr 4 44)] [] m587 _
            refine X.aload_n 133 i208_132 rfl rfl rfl ?_
            refine X.callv 136 [] [] [(0, zr 4 44)] i208_133 rfl (by decide) rfl rfl (by omega) rfl rfl (by decide) rfl t224 (Nat.le_of_ble_eq_true rfl) (Nat.le_of_ble_eq_true rfl) rfl ?_
            refine c224_1 (S := zfr [] S) (m0 := m587) (B := B + 2)   (by omega) (hJ590.ow.up (by omega)) (by omega)  (fun m593 hJ594 => ?_)
            have hJ596 := hJ590.trans hJ594 zi_n
            have wt597 : m593 4 45 0 = (m 4 45 0) := Eq.trans (hJ594.eq rfl rfl) wt591
            have wt598 : m593 4 45 13 = ((m 4 45 13) + 1) := Eq.trans (hJ594.eq rfl rfl) wt592
            clear wt591 wt592
            show X (EE s) d 208 136 [(0, zr 4 44)] [] m593 _
            refine X.aload_n 137 i208_136 rfl rfl rfl ?_
            refine X.callv 140 [] [] [(0, zr 4 44)] i208_137 rfl (by decide) rfl rfl (by omega) rfl rfl (by decide) rfl t230 (Nat.le_of_ble_eq_true rfl) (Nat.le_of_ble_eq_true rfl) rfl ?_
            refine c230_1 (S := zfr [(4, 45, 0)] S) (m0 := m593) (B := B + 10)   (by omega) (hJ596.ow.up (by omega)) (by omega) zm_z (fun m599 hJ600 hqv6010 => ?_)
            have hJ602 := hJ596.trans hJ600 (zi_c hs0 zi_n)
            have wt603 : m599 4 45 13 = ((m 4 45 13) + 1) := Eq.trans (hJ600.eq rfl rfl) wt598
            show X (EE s) d 208 140 [(0, zr 4 44)] [] m599 _
            refine X.retv i208_140 rfl t208 ?_
            exact hQ  m599  (hJ602.up (by omega)) (by exact ⟨by omega, by omega⟩)
        · have h556c : v511 < 0 := by omega
          clear h556 hz555
          refine X.lload_n 7 i215_6 rfl rfl rfl ?_
          refine X.lnegF 8 i215_7 rfl rfl (fun z604 hz604 => ?_)
          refine X.goto 12 i215_8 rfl rfl ?_
          refine X.cut [] i215_12 rfl ?_
          refine X.retl i215_12 rfl t215 ?_
          show X (EE s) d 208 96 [(0, zr 4 44), (1, zl v506), (3, zl v511), (5, zl v517)] [zl z604] m524 _
          refine X.aload_n 97 i208_96 rfl rfl rfl ?_
          refine X.getF 100 i208_97 rfl rfl (by decide) rfl rfl ?_
          refine X.iconst 101 i208_100 rfl rfl (by decide) ?_
          refine X.lald 102 i208_101 rfl rfl (by decide) rfl (by omega) ?_
          refine X.lcmp 103 i208_102 rfl rfl (fun z605 hz605 => ?_)
          refine X.ifge 120 106 i208_103 rfl rfl rfl (fun h606 => ?_) (fun h606 => ?_)
          · have h606c : z604 ≥ (m524 4 45 4) := by omega
            clear h606 hz605
            refine X.aload_n 121 i208_120 rfl rfl rfl ?_
            refine X.lload_n 122 i208_121 rfl rfl rfl ?_
            refine X.lload_n 123 i208_122 rfl rfl rfl ?_
            refine X.lload 125 i208_123 rfl rfl rfl ?_
            refine X.callv 128 [zl v506, zl v511, zl v517] [] [(0, zr 4 44), (1, zl v506), (3, zl v511), (5, zl v517)] i208_125 rfl (by decide) rfl rfl (by omega) rfl rfl (by decide) rfl t216 (Nat.le_of_ble_eq_true rfl) (Nat.le_of_ble_eq_true rfl) rfl ?_
            refine c216_3 (S := zfr [] S) (m0 := m524) (B := B + 1)  v506 v511 v517 (by omega) (hJ525.ow.up (by omega)) (by omega) (by omega) (by omega) (by omega) (fun m607 hJ608 => ?_)
            have hJ610 := hJ525.trans hJ608 zi_n
            have wt611 : m607 4 45 0 = (m 4 45 0) := Eq.trans (hJ608.eq rfl rfl) wt526
            have wt612 : m607 4 45 13 = ((m 4 45 13) + 1) := Eq.trans (hJ608.eq rfl rfl) wt527
            clear wt526 wt527
            show X (EE s) d 208 128 [(0, zr 4 44), (1, zl v506), (3, zl v511), (5, zl v517)] [] m607 _
            refine X.cut [(0, zr 4 44)] i208_128 rfl ?_
            refine X.aload_n 129 i208_128 rfl rfl rfl ?_
            refine X.callv 132 [] [] [(0, zr 4 44)] i208_129 rfl (by decide) rfl rfl (by omega) rfl rfl (by decide) rfl t222 (Nat.le_of_ble_eq_true rfl) (Nat.le_of_ble_eq_true rfl) rfl ?_
            refine c222_1 (S := zfr [] S) (m0 := m607) (B := B + 1)   (by omega) (hJ610.ow.up (by omega)) (by omega)  (fun m613 hJ614 => ?_)
            have hJ616 := hJ610.trans hJ614 zi_n
            have wt617 : m613 4 45 0 = (m 4 45 0) := Eq.trans (hJ614.eq rfl rfl) wt611
            have wt618 : m613 4 45 13 = ((m 4 45 13) + 1) := Eq.trans (hJ614.eq rfl rfl) wt612
            clear wt611 wt612
            show X (EE s) d 208 132 [(0, zr 4 44)] [] m613 _
            refine X.aload_n 133 i208_132 rfl rfl rfl ?_
            refine X.callv 136 [] [] [(0, zr 4 44)] i208_133 rfl (by decide) rfl rfl (by omega) rfl rfl (by decide) rfl t224 (Nat.le_of_ble_eq_true rfl) (Nat.le_of_ble_eq_true rfl) rfl ?_
            refine c224_1 (S := zfr [] S) (m0 := m613) (B := B + 2)   (by omega) (hJ616.ow.up (by omega)) (by omega)  (fun m619 hJ620 => ?_)
            have hJ622 := hJ616.trans hJ620 zi_n
            have wt623 : m619 4 45 0 = (m 4 45 0) := Eq.trans (hJ620.eq rfl rfl) wt617
            have wt624 : m619 4 45 13 = ((m 4 45 13) + 1) := Eq.trans (hJ620.eq rfl rfl) wt618
            clear wt617 wt618
            show X (EE s) d 208 136 [(0, zr 4 44)] [] m619 _
            refine X.aload_n 137 i208_136 rfl rfl rfl ?_
            refine X.callv 140 [] [] [(0, zr 4 44)] i208_137 rfl (by decide) rfl rfl (by omega) rfl rfl (by decide) rfl t230 (Nat.le_of_ble_eq_true rfl) (Nat.le_of_ble_eq_true rfl) rfl ?_
            refine c230_1 (S := zfr [(4, 45, 0)] S) (m0 := m619) (B := B + 10)   (by omega) (hJ622.ow.up (by omega)) (by omega) zm_z (fun m625 hJ626 hqv6270 => ?_)
            have hJ628 := hJ622.trans hJ626 (zi_c hs0 zi_n)
            have wt629 : m625 4 45 13 = ((m 4 45 13) + 1) := Eq.trans (hJ626.eq rfl rfl) wt624
            show X (EE s) d 208 140 [(0, zr 4 44)] [] m625 _
            refine X.retv i208_140 rfl t208 ?_
            exact hQ  m625  (hJ628.up (by omega)) (by exact ⟨by omega, by omega⟩)
          · have h606c : z604 < (m524 4 45 4) := by omega
            clear h606 hz605
            refine X.aload_n 107 i208_106 rfl rfl rfl ?_
            refine X.getF 110 i208_107 rfl rfl (by decide) rfl rfl ?_
            refine X.bipush 112 i208_110 rfl rfl (by decide) ?_
            refine X.dup2 113 i208_112 rfl rfl ?_
            refine X.lald 114 i208_113 rfl rfl (by decide) rfl (by omega) ?_
            refine X.lconst (y := 1) 115 i208_114 rfl rfl rfl ?_
            refine X.llF 116 .ladd (fun x y => x + y) i208_115 rfl rfl rfl (fun _ _ => rfl) (fun z630 hz630 => ?_)
            refine X.last' 117 i208_116 rfl rfl (by decide) rfl (by omega) (fun hrm631 m631 hm631 => ?_)
            have hJ632 := w45_14 hJ525 hm631 (by omega) hrm631
            have wt633 : m631 4 45 0 = (m 4 45 0) := Eq.trans (by rw [hm631]; exact z_upd_i _ _ _ _ (by omega)) wt526
            have wt634 : m631 4 45 13 = ((m 4 45 13) + 1) := Eq.trans (by rw [hm631]; exact z_upd_i _ _ _ _ (by omega)) wt527
            clear wt526 wt527
            refine X.goto 128 i208_117 rfl rfl ?_
            refine X.cut [(0, zr 4 44)] i208_128 rfl ?_
            refine X.aload_n 129 i208_128 rfl rfl rfl ?_
            refine X.callv 132 [] [] [(0, zr 4 44)] i208_129 rfl (by decide) rfl rfl (by omega) rfl rfl (by decide) rfl t222 (Nat.le_of_ble_eq_true rfl) (Nat.le_of_ble_eq_true rfl) rfl ?_
            refine c222_1 (S := zfr [] S) (m0 := m631) (B := B + 1)   (by omega) (hJ632.ow.up (by omega)) (by omega)  (fun m635 hJ636 => ?_)
            have hJ638 := hJ632.trans hJ636 zi_n
            have wt639 : m635 4 45 0 = (m 4 45 0) := Eq.trans (hJ636.eq rfl rfl) wt633
            have wt640 : m635 4 45 13 = ((m 4 45 13) + 1) := Eq.trans (hJ636.eq rfl rfl) wt634
            clear wt633 wt634
            show X (EE s) d 208 132 [(0, zr 4 44)] [] m635 _
            refine X.aload_n 133 i208_132 rfl rfl rfl ?_
            refine X.callv 136 [] [] [(0, zr 4 44)] i208_133 rfl (by decide) rfl rfl (by omega) rfl rfl (by decide) rfl t224 (Nat.le_of_ble_eq_true rfl) (Nat.le_of_ble_eq_true rfl) rfl ?_
            refine c224_1 (S := zfr [] S) (m0 := m635) (B := B + 2)   (by omega) (hJ638.ow.up (by omega)) (by omega)  (fun m641 hJ642 => ?_)
            have hJ644 := hJ638.trans hJ642 zi_n
            have wt645 : m641 4 45 0 = (m 4 45 0) := Eq.trans (hJ642.eq rfl rfl) wt639
            have wt646 : m641 4 45 13 = ((m 4 45 13) + 1) := Eq.trans (hJ642.eq rfl rfl) wt640
            clear wt639 wt640
            show X (EE s) d 208 136 [(0, zr 4 44)] [] m641 _
            refine X.aload_n 137 i208_136 rfl rfl rfl ?_
            refine X.callv 140 [] [] [(0, zr 4 44)] i208_137 rfl (by decide) rfl rfl (by omega) rfl rfl (by decide) rfl t230 (Nat.le_of_ble_eq_true rfl) (Nat.le_of_ble_eq_true rfl) rfl ?_
            refine c230_1 (S := zfr [(4, 45, 0)] S) (m0 := m641) (B := B + 10)   (by omega) (hJ644.ow.up (by omega)) (by omega) zm_z (fun m647 hJ648 hqv6490 => ?_)
            have hJ650 := hJ644.trans hJ648 (zi_c hs0 zi_n)
            have wt651 : m647 4 45 13 = ((m 4 45 13) + 1) := Eq.trans (hJ648.eq rfl rfl) wt646
            show X (EE s) d 208 140 [(0, zr 4 44)] [] m647 _
            refine X.retv i208_140 rfl t208 ?_
            exact hQ  m647  (hJ650.up (by omega)) (by exact ⟨by omega, by omega⟩)
    · have h529c : v506 < 0 := by omega
      clear h529 hz528
      refine X.lload_n 7 i215_6 rfl rfl rfl ?_
      refine X.lnegF 8 i215_7 rfl rfl (fun z652 hz652 => ?_)
      refine X.goto 12 i215_8 rfl rfl ?_
      refine X.cut [] i215_12 rfl ?_
      refine X.retl i215_12 rfl t215 ?_
      show X (EE s) d 208 82 [(0, zr 4 44), (1, zl v506), (3, zl v511), (5, zl v517)] [zl z652] m524 _
      refine X.aload_n 83 i208_82 rfl rfl rfl ?_
      refine X.getF 86 i208_83 rfl rfl (by decide) rfl rfl ?_
      refine X.iconst 87 i208_86 rfl rfl (by decide) ?_
      refine X.lald 88 i208_87 rfl rfl (by decide) rfl (by omega) ?_
      refine X.lcmp 89 i208_88 rfl rfl (fun z653 hz653 => ?_)
      refine X.ifge 120 92 i208_89 rfl rfl rfl (fun h654 => ?_) (fun h654 => ?_)
      · have h654c : z652 ≥ (m524 4 45 4) := by omega
        clear h654 hz653
        refine X.aload_n 121 i208_120 rfl rfl rfl ?_
        refine X.lload_n 122 i208_121 rfl rfl rfl ?_
        refine X.lload_n 123 i208_122 rfl rfl rfl ?_
        refine X.lload 125 i208_123 rfl rfl rfl ?_
        refine X.callv 128 [zl v506, zl v511, zl v517] [] [(0, zr 4 44), (1, zl v506), (3, zl v511), (5, zl v517)] i208_125 rfl (by decide) rfl rfl (by omega) rfl rfl (by decide) rfl t216 (Nat.le_of_ble_eq_true rfl) (Nat.le_of_ble_eq_true rfl) rfl ?_
        refine c216_4 (S := zfr [] S) (m0 := m524) (B := B + 1)  v506 v511 v517 (by omega) (hJ525.ow.up (by omega)) (by omega) (by omega) (by omega) (fun m655 hJ656 => ?_)
        have hJ658 := hJ525.trans hJ656 zi_n
        have wt659 : m655 4 45 0 = (m 4 45 0) := Eq.trans (hJ656.eq rfl rfl) wt526
        have wt660 : m655 4 45 13 = ((m 4 45 13) + 1) := Eq.trans (hJ656.eq rfl rfl) wt527
        clear wt526 wt527
        show X (EE s) d 208 128 [(0, zr 4 44), (1, zl v506), (3, zl v511), (5, zl v517)] [] m655 _
        refine X.cut [(0, zr 4 44)] i208_128 rfl ?_
        refine X.aload_n 129 i208_128 rfl rfl rfl ?_
        refine X.callv 132 [] [] [(0, zr 4 44)] i208_129 rfl (by decide) rfl rfl (by omega) rfl rfl (by decide) rfl t222 (Nat.le_of_ble_eq_true rfl) (Nat.le_of_ble_eq_true rfl) rfl ?_
        refine c222_1 (S := zfr [] S) (m0 := m655) (B := B + 1)   (by omega) (hJ658.ow.up (by omega)) (by omega)  (fun m661 hJ662 => ?_)
        have hJ664 := hJ658.trans hJ662 zi_n
        have wt665 : m661 4 45 0 = (m 4 45 0) := Eq.trans (hJ662.eq rfl rfl) wt659
        have wt666 : m661 4 45 13 = ((m 4 45 13) + 1) := Eq.trans (hJ662.eq rfl rfl) wt660
        clear wt659 wt660
        show X (EE s) d 208 132 [(0, zr 4 44)] [] m661 _
        refine X.aload_n 133 i208_132 rfl rfl rfl ?_
        refine X.callv 136 [] [] [(0, zr 4 44)] i208_133 rfl (by decide) rfl rfl (by omega) rfl rfl (by decide) rfl t224 (Nat.le_of_ble_eq_true rfl) (Nat.le_of_ble_eq_true rfl) rfl ?_
        refine c224_1 (S := zfr [] S) (m0 := m661) (B := B + 2)   (by omega) (hJ664.ow.up (by omega)) (by omega)  (fun m667 hJ668 => ?_)
        have hJ670 := hJ664.trans hJ668 zi_n
        have wt671 : m667 4 45 0 = (m 4 45 0) := Eq.trans (hJ668.eq rfl rfl) wt665
        have wt672 : m667 4 45 13 = ((m 4 45 13) + 1) := Eq.trans (hJ668.eq rfl rfl) wt666
        clear wt665 wt666
        show X (EE s) d 208 136 [(0, zr 4 44)] [] m667 _
        refine X.aload_n 137 i208_136 rfl rfl rfl ?_
        refine X.callv 140 [] [] [(0, zr 4 44)] i208_137 rfl (by decide) rfl rfl (by omega) rfl rfl (by decide) rfl t230 (Nat.le_of_ble_eq_true rfl) (Nat.le_of_ble_eq_true rfl) rfl ?_
        refine c230_1 (S := zfr [(4, 45, 0)] S) (m0 := m667) (B := B + 10)   (by omega) (hJ670.ow.up (by omega)) (by omega) zm_z (fun m673 hJ674 hqv6750 => ?_)
        have hJ676 := hJ670.trans hJ674 (zi_c hs0 zi_n)
        have wt677 : m673 4 45 13 = ((m 4 45 13) + 1) := Eq.trans (hJ674.eq rfl rfl) wt672
        show X (EE s) d 208 140 [(0, zr 4 44)] [] m673 _
        refine X.retv i208_140 rfl t208 ?_
        exact hQ  m673  (hJ676.up (by omega)) (by exact ⟨by omega, by omega⟩)
      · have h654c : z652 < (m524 4 45 4) := by omega
        clear h654 hz653
        refine X.lload_n 93 i208_92 rfl rfl rfl ?_
        refine X.calls 96 [zl v511] [] [(0, zl v511)] i208_93 (by decide) rfl rfl (by omega) rfl rfl t215 (Nat.le_of_ble_eq_true rfl) (Nat.le_of_ble_eq_true rfl) rfl ?_
        refine X.lload_n 1 i215_0 rfl rfl rfl ?_
        refine X.lconst (y := 0) 2 i215_1 rfl rfl rfl ?_
        refine X.lcmp 3 i215_2 rfl rfl (fun z678 hz678 => ?_)
        refine X.ifge 11 6 i215_3 rfl rfl rfl (fun h679 => ?_) (fun h679 => ?_)
        · have h679c : v511 ≥ 0 := by omega
          clear h679 hz678
          refine X.lload_n 12 i215_11 rfl rfl rfl ?_
          refine X.cut [] i215_12 rfl ?_
          refine X.retl i215_12 rfl t215 ?_
          show X (EE s) d 208 96 [(0, zr 4 44), (1, zl v506), (3, zl v511), (5, zl v517)] [zl v511] m524 _
          refine X.aload_n 97 i208_96 rfl rfl rfl ?_
          refine X.getF 100 i208_97 rfl rfl (by decide) rfl rfl ?_
          refine X.iconst 101 i208_100 rfl rfl (by decide) ?_
          refine X.lald 102 i208_101 rfl rfl (by decide) rfl (by omega) ?_
          refine X.lcmp 103 i208_102 rfl rfl (fun z680 hz680 => ?_)
          refine X.ifge 120 106 i208_103 rfl rfl rfl (fun h681 => ?_) (fun h681 => ?_)
          · have h681c : v511 ≥ (m524 4 45 4) := by omega
            clear h681 hz680
            refine X.aload_n 121 i208_120 rfl rfl rfl ?_
            refine X.lload_n 122 i208_121 rfl rfl rfl ?_
            refine X.lload_n 123 i208_122 rfl rfl rfl ?_
            refine X.lload 125 i208_123 rfl rfl rfl ?_
            refine X.callv 128 [zl v506, zl v511, zl v517] [] [(0, zr 4 44), (1, zl v506), (3, zl v511), (5, zl v517)] i208_125 rfl (by decide) rfl rfl (by omega) rfl rfl (by decide) rfl t216 (Nat.le_of_ble_eq_true rfl) (Nat.le_of_ble_eq_true rfl) rfl ?_
            refine c216_5 (S := zfr [] S) (m0 := m524) (B := B + 1)  v506 v511 v517 (by omega) (hJ525.ow.up (by omega)) (by omega) (by omega) (by omega) (by omega) (fun m682 hJ683 => ?_)
            have hJ685 := hJ525.trans hJ683 zi_n
            have wt686 : m682 4 45 0 = (m 4 45 0) := Eq.trans (hJ683.eq rfl rfl) wt526
            have wt687 : m682 4 45 13 = ((m 4 45 13) + 1) := Eq.trans (hJ683.eq rfl rfl) wt527
            clear wt526 wt527
            show X (EE s) d 208 128 [(0, zr 4 44), (1, zl v506), (3, zl v511), (5, zl v517)] [] m682 _
            refine X.cut [(0, zr 4 44)] i208_128 rfl ?_
            refine X.aload_n 129 i208_128 rfl rfl rfl ?_
            refine X.callv 132 [] [] [(0, zr 4 44)] i208_129 rfl (by decide) rfl rfl (by omega) rfl rfl (by decide) rfl t222 (Nat.le_of_ble_eq_true rfl) (Nat.le_of_ble_eq_true rfl) rfl ?_
            refine c222_1 (S := zfr [] S) (m0 := m682) (B := B + 1)   (by omega) (hJ685.ow.up (by omega)) (by omega)  (fun m688 hJ689 => ?_)
            have hJ691 := hJ685.trans hJ689 zi_n
            have wt692 : m688 4 45 0 = (m 4 45 0) := Eq.trans (hJ689.eq rfl rfl) wt686
            have wt693 : m688 4 45 13 = ((m 4 45 13) + 1) := Eq.trans (hJ689.eq rfl rfl) wt687
            clear wt686 wt687
            show X (EE s) d 208 132 [(0, zr 4 44)] [] m688 _
            refine X.aload_n 133 i208_132 rfl rfl rfl ?_
            refine X.callv 136 [] [] [(0, zr 4 44)] i208_133 rfl (by decide) rfl rfl (by omega) rfl rfl (by decide) rfl t224 (Nat.le_of_ble_eq_true rfl) (Nat.le_of_ble_eq_true rfl) rfl ?_
            refine c224_1 (S := zfr [] S) (m0 := m688) (B := B + 2)   (by omega) (hJ691.ow.up (by omega)) (by omega)  (fun m694 hJ695 => ?_)
            have hJ697 := hJ691.trans hJ695 zi_n
            have wt698 : m694 4 45 0 = (m 4 45 0) := Eq.trans (hJ695.eq rfl rfl) wt692
            have wt699 : m694 4 45 13 = ((m 4 45 13) + 1) := Eq.trans (hJ695.eq rfl rfl) wt693
            clear wt692 wt693
            show X (EE s) d 208 136 [(0, zr 4 44)] [] m694 _
            refine X.aload_n 137 i208_136 rfl rfl rfl ?_
            refine X.callv 140 [] [] [(0, zr 4 44)] i208_137 rfl (by decide) rfl rfl (by omega) rfl rfl (by decide) rfl t230 (Nat.le_of_ble_eq_true rfl) (Nat.le_of_ble_eq_true rfl) rfl ?_
            refine c230_1 (S := zfr [(4, 45, 0)] S) (m0 := m694) (B := B + 10)   (by omega) (hJ697.ow.up (by omega)) (by omega) zm_z (fun m700 hJ701 hqv7020 => ?_)
            have hJ703 := hJ697.trans hJ701 (zi_c hs0 zi_n)
            have wt704 : m700 4 45 13 = ((m 4 45 13) + 1) := Eq.trans (hJ701.eq rfl rfl) wt699
            show X (EE s) d 208 140 [(0, zr 4 44)] [] m700 _
            refine X.retv i208_140 rfl t208 ?_
            exact hQ  m700  (hJ703.up (by omega)) (by exact ⟨by omega, by omega⟩)
          · have h681c : v511 < (m524 4 45 4) := by omega
            clear h681 hz680
            refine X.aload_n 107 i208_106 rfl rfl rfl ?_
            refine X.getF 110 i208_107 rfl rfl (by decide) rfl rfl ?_
            refine X.bipush 112 i208_110 rfl rfl (by decide) ?_
            refine X.dup2 113 i208_112 rfl rfl ?_
            refine X.lald 114 i208_113 rfl rfl (by decide) rfl (by omega) ?_
            refine X.lconst (y := 1) 115 i208_114 rfl rfl rfl ?_
            refine X.llF 116 .ladd (fun x y => x + y) i208_115 rfl rfl rfl (fun _ _ => rfl) (fun z705 hz705 => ?_)
            refine X.last' 117 i208_116 rfl rfl (by decide) rfl (by omega) (fun hrm706 m706 hm706 => ?_)
            have hJ707 := w45_14 hJ525 hm706 (by omega) hrm706
            have wt708 : m706 4 45 0 = (m 4 45 0) := Eq.trans (by rw [hm706]; exact z_upd_i _ _ _ _ (by omega)) wt526
            have wt709 : m706 4 45 13 = ((m 4 45 13) + 1) := Eq.trans (by rw [hm706]; exact z_upd_i _ _ _ _ (by omega)) wt527
            clear wt526 wt527
            refine X.goto 128 i208_117 rfl rfl ?_
            refine X.cut [(0, zr 4 44)] i208_128 rfl ?_
            refine X.aload_n 129 i208_128 rfl rfl rfl ?_
            refine X.callv 132 [] [] [(0, zr 4 44)] i208_129 rfl (by decide) rfl rfl (by omega) rfl rfl (by decide) rfl t222 (Nat.le_of_ble_eq_true rfl) (Nat.le_of_ble_eq_true rfl) rfl ?_
            refine c222_1 (S := zfr [] S) (m0 := m706) (B := B + 1)   (by omega) (hJ707.ow.up (by omega)) (by omega)  (fun m710 hJ711 => ?_)
            have hJ713 := hJ707.trans hJ711 zi_n
            have wt714 : m710 4 45 0 = (m 4 45 0) := Eq.trans (hJ711.eq rfl rfl) wt708
            have wt715 : m710 4 45 13 = ((m 4 45 13) + 1) := Eq.trans (hJ711.eq rfl rfl) wt709
            clear wt708 wt709
            show X (EE s) d 208 132 [(0, zr 4 44)] [] m710 _
            refine X.aload_n 133 i208_132 rfl rfl rfl ?_
            refine X.callv 136 [] [] [(0, zr 4 44)] i208_133 rfl (by decide) rfl rfl (by omega) rfl rfl (by decide) rfl t224 (Nat.le_of_ble_eq_true rfl) (Nat.le_of_ble_eq_true rfl) rfl ?_
            refine c224_1 (S := zfr [] S) (m0 := m710) (B := B + 2)   (by omega) (hJ713.ow.up (by omega)) (by omega)  (fun m716 hJ717 => ?_)
            have hJ719 := hJ713.trans hJ717 zi_n
            have wt720 : m716 4 45 0 = (m 4 45 0) := Eq.trans (hJ717.eq rfl rfl) wt714
            have wt721 : m716 4 45 13 = ((m 4 45 13) + 1) := Eq.trans (hJ717.eq rfl rfl) wt715
            clear wt714 wt715
            show X (EE s) d 208 136 [(0, zr 4 44)] [] m716 _
            refine X.aload_n 137 i208_136 rfl rfl rfl ?_
            refine X.callv 140 [] [] [(0, zr 4 44)] i208_137 rfl (by decide) rfl rfl (by omega) rfl rfl (by decide) rfl t230 (Nat.le_of_ble_eq_true rfl) (Nat.le_of_ble_eq_true rfl) rfl ?_
            refine c230_1 (S := zfr [(4, 45, 0)] S) (m0 := m716) (B := B + 10)   (by omega) (hJ719.ow.up (by omega)) (by omega) zm_z (fun m722 hJ723 hqv7240 => ?_)
            have hJ725 := hJ719.trans hJ723 (zi_c hs0 zi_n)
            have wt726 : m722 4 45 13 = ((m 4 45 13) + 1) := Eq.trans (hJ723.eq rfl rfl) wt721
            show X (EE s) d 208 140 [(0, zr 4 44)] [] m722 _
            refine X.retv i208_140 rfl t208 ?_
            exact hQ  m722  (hJ725.up (by omega)) (by exact ⟨by omega, by omega⟩)
        · have h679c : v511 < 0 := by omega
          clear h679 hz678
          refine X.lload_n 7 i215_6 rfl rfl rfl ?_
          refine X.lnegF 8 i215_7 rfl rfl (fun z727 hz727 => ?_)
          refine X.goto 12 i215_8 rfl rfl ?_
          refine X.cut [] i215_12 rfl ?_
          refine X.retl i215_12 rfl t215 ?_
          show X (EE s) d 208 96 [(0, zr 4 44), (1, zl v506), (3, zl v511), (5, zl v517)] [zl z727] m524 _
          refine X.aload_n 97 i208_96 rfl rfl rfl ?_
          refine X.getF 100 i208_97 rfl rfl (by decide) rfl rfl ?_
          refine X.iconst 101 i208_100 rfl rfl (by decide) ?_
          refine X.lald 102 i208_101 rfl rfl (by decide) rfl (by omega) ?_
          refine X.lcmp 103 i208_102 rfl rfl (fun z728 hz728 => ?_)
          refine X.ifge 120 106 i208_103 rfl rfl rfl (fun h729 => ?_) (fun h729 => ?_)
          · have h729c : z727 ≥ (m524 4 45 4) := by omega
            clear h729 hz728
            refine X.aload_n 121 i208_120 rfl rfl rfl ?_
            refine X.lload_n 122 i208_121 rfl rfl rfl ?_
            refine X.lload_n 123 i208_122 rfl rfl rfl ?_
            refine X.lload 125 i208_123 rfl rfl rfl ?_
            refine X.callv 128 [zl v506, zl v511, zl v517] [] [(0, zr 4 44), (1, zl v506), (3, zl v511), (5, zl v517)] i208_125 rfl (by decide) rfl rfl (by omega) rfl rfl (by decide) rfl t216 (Nat.le_of_ble_eq_true rfl) (Nat.le_of_ble_eq_true rfl) rfl ?_
            refine c216_6 (S := zfr [] S) (m0 := m524) (B := B + 1)  v506 v511 v517 (by omega) (hJ525.ow.up (by omega)) (by omega) (by omega) (by omega) (by omega) (fun m730 hJ731 => ?_)
            have hJ733 := hJ525.trans hJ731 zi_n
            have wt734 : m730 4 45 0 = (m 4 45 0) := Eq.trans (hJ731.eq rfl rfl) wt526
            have wt735 : m730 4 45 13 = ((m 4 45 13) + 1) := Eq.trans (hJ731.eq rfl rfl) wt527
            clear wt526 wt527
            show X (EE s) d 208 128 [(0, zr 4 44), (1, zl v506), (3, zl v511), (5, zl v517)] [] m730 _
            refine X.cut [(0, zr 4 44)] i208_128 rfl ?_
            refine X.aload_n 129 i208_128 rfl rfl rfl ?_
            refine X.callv 132 [] [] [(0, zr 4 44)] i208_129 rfl (by decide) rfl rfl (by omega) rfl rfl (by decide) rfl t222 (Nat.le_of_ble_eq_true rfl) (Nat.le_of_ble_eq_true rfl) rfl ?_
            refine c222_1 (S := zfr [] S) (m0 := m730) (B := B + 1)   (by omega) (hJ733.ow.up (by omega)) (by omega)  (fun m736 hJ737 => ?_)
            have hJ739 := hJ733.trans hJ737 zi_n
            have wt740 : m736 4 45 0 = (m 4 45 0) := Eq.trans (hJ737.eq rfl rfl) wt734
            have wt741 : m736 4 45 13 = ((m 4 45 13) + 1) := Eq.trans (hJ737.eq rfl rfl) wt735
            clear wt734 wt735
            show X (EE s) d 208 132 [(0, zr 4 44)] [] m736 _
            refine X.aload_n 133 i208_132 rfl rfl rfl ?_
            refine X.callv 136 [] [] [(0, zr 4 44)] i208_133 rfl (by decide) rfl rfl (by omega) rfl rfl (by decide) rfl t224 (Nat.le_of_ble_eq_true rfl) (Nat.le_of_ble_eq_true rfl) rfl ?_
            refine c224_1 (S := zfr [] S) (m0 := m736) (B := B + 2)   (by omega) (hJ739.ow.up (by omega)) (by omega)  (fun m742 hJ743 => ?_)
            have hJ745 := hJ739.trans hJ743 zi_n
            have wt746 : m742 4 45 0 = (m 4 45 0) := Eq.trans (hJ743.eq rfl rfl) wt740
            have wt747 : m742 4 45 13 = ((m 4 45 13) + 1) := Eq.trans (hJ743.eq rfl rfl) wt741
            clear wt740 wt741
            show X (EE s) d 208 136 [(0, zr 4 44)] [] m742 _
            refine X.aload_n 137 i208_136 rfl rfl rfl ?_
            refine X.callv 140 [] [] [(0, zr 4 44)] i208_137 rfl (by decide) rfl rfl (by omega) rfl rfl (by decide) rfl t230 (Nat.le_of_ble_eq_true rfl) (Nat.le_of_ble_eq_true rfl) rfl ?_
            refine c230_1 (S := zfr [(4, 45, 0)] S) (m0 := m742) (B := B + 10)   (by omega) (hJ745.ow.up (by omega)) (by omega) zm_z (fun m748 hJ749 hqv7500 => ?_)
            have hJ751 := hJ745.trans hJ749 (zi_c hs0 zi_n)
            have wt752 : m748 4 45 13 = ((m 4 45 13) + 1) := Eq.trans (hJ749.eq rfl rfl) wt747
            show X (EE s) d 208 140 [(0, zr 4 44)] [] m748 _
            refine X.retv i208_140 rfl t208 ?_
            exact hQ  m748  (hJ751.up (by omega)) (by exact ⟨by omega, by omega⟩)
          · have h729c : z727 < (m524 4 45 4) := by omega
            clear h729 hz728
            refine X.aload_n 107 i208_106 rfl rfl rfl ?_
            refine X.getF 110 i208_107 rfl rfl (by decide) rfl rfl ?_
            refine X.bipush 112 i208_110 rfl rfl (by decide) ?_
            refine X.dup2 113 i208_112 rfl rfl ?_
            refine X.lald 114 i208_113 rfl rfl (by decide) rfl (by omega) ?_
            refine X.lconst (y := 1) 115 i208_114 rfl rfl rfl ?_
            refine X.llF 116 .ladd (fun x y => x + y) i208_115 rfl rfl rfl (fun _ _ => rfl) (fun z753 hz753 => ?_)
            refine X.last' 117 i208_116 rfl rfl (by decide) rfl (by omega) (fun hrm754 m754 hm754 => ?_)
            have hJ755 := w45_14 hJ525 hm754 (by omega) hrm754
            have wt756 : m754 4 45 0 = (m 4 45 0) := Eq.trans (by rw [hm754]; exact z_upd_i _ _ _ _ (by omega)) wt526
            have wt757 : m754 4 45 13 = ((m 4 45 13) + 1) := Eq.trans (by rw [hm754]; exact z_upd_i _ _ _ _ (by omega)) wt527
            clear wt526 wt527
            refine X.goto 128 i208_117 rfl rfl ?_
            refine X.cut [(0, zr 4 44)] i208_128 rfl ?_
            refine X.aload_n 129 i208_128 rfl rfl rfl ?_
            refine X.callv 132 [] [] [(0, zr 4 44)] i208_129 rfl (by decide) rfl rfl (by omega) rfl rfl (by decide) rfl t222 (Nat.le_of_ble_eq_true rfl) (Nat.le_of_ble_eq_true rfl) rfl ?_
            refine c222_1 (S := zfr [] S) (m0 := m754) (B := B + 1)   (by omega) (hJ755.ow.up (by omega)) (by omega)  (fun m758 hJ759 => ?_)
            have hJ761 := hJ755.trans hJ759 zi_n
            have wt762 : m758 4 45 0 = (m 4 45 0) := Eq.trans (hJ759.eq rfl rfl) wt756
            have wt763 : m758 4 45 13 = ((m 4 45 13) + 1) := Eq.trans (hJ759.eq rfl rfl) wt757
            clear wt756 wt757
            show X (EE s) d 208 132 [(0, zr 4 44)] [] m758 _
            refine X.aload_n 133 i208_132 rfl rfl rfl ?_
            refine X.callv 136 [] [] [(0, zr 4 44)] i208_133 rfl (by decide) rfl rfl (by omega) rfl rfl (by decide) rfl t224 (Nat.le_of_ble_eq_true rfl) (Nat.le_of_ble_eq_true rfl) rfl ?_
            refine c224_1 (S := zfr [] S) (m0 := m758) (B := B + 2)   (by omega) (hJ761.ow.up (by omega)) (by omega)  (fun m764 hJ765 => ?_)
            have hJ767 := hJ761.trans hJ765 zi_n
            have wt768 : m764 4 45 0 = (m 4 45 0) := Eq.trans (hJ765.eq rfl rfl) wt762
            have wt769 : m764 4 45 13 = ((m 4 45 13) + 1) := Eq.trans (hJ765.eq rfl rfl) wt763
            clear wt762 wt763
            show X (EE s) d 208 136 [(0, zr 4 44)] [] m764 _
            refine X.aload_n 137 i208_136 rfl rfl rfl ?_
            refine X.callv 140 [] [] [(0, zr 4 44)] i208_137 rfl (by decide) rfl rfl (by omega) rfl rfl (by decide) rfl t230 (Nat.le_of_ble_eq_true rfl) (Nat.le_of_ble_eq_true rfl) rfl ?_
            refine c230_1 (S := zfr [(4, 45, 0)] S) (m0 := m764) (B := B + 10)   (by omega) (hJ767.ow.up (by omega)) (by omega) zm_z (fun m770 hJ771 hqv7720 => ?_)
            have hJ773 := hJ767.trans hJ771 (zi_c hs0 zi_n)
            have wt774 : m770 4 45 13 = ((m 4 45 13) + 1) := Eq.trans (hJ771.eq rfl rfl) wt769
            show X (EE s) d 208 140 [(0, zr 4 44)] [] m770 _
            refine X.retv i208_140 rfl t208 ?_
            exact hQ  m770  (hJ773.up (by omega)) (by exact ⟨by omega, by omega⟩)
  · have h503c : (m 4 45 12) = 1 := by omega
    clear h503 hz502
    refine X.lconst (y := 0) 13 i208_12 rfl rfl rfl ?_
    refine X.goto 21 i208_13 rfl rfl ?_
    refine X.lstore_n 22 [(0, zr 4 44), (1, zl 0)] i208_21 rfl rfl rfl ?_
    refine X.aload_n 23 i208_22 rfl rfl rfl ?_
    refine X.getF 26 i208_23 rfl rfl (by decide) rfl rfl ?_
    refine X.bipush 28 i208_26 rfl rfl (by decide) ?_
    refine X.lald 29 i208_28 rfl rfl (by decide) rfl (by omega) ?_
    refine X.lconst (y := 1) 30 i208_29 rfl rfl rfl ?_
    refine X.lcmp 31 i208_30 rfl rfl (fun z775 hz775 => ?_)
    refine X.ifne 38 34 i208_31 rfl rfl rfl (fun h776 => (by exfalso; omega)) (fun h776 => ?_)
    have h776c : (m 4 45 12) = 1 := by omega
    clear h776 hz775
    refine X.lconst (y := 0) 35 i208_34 rfl rfl rfl ?_
    refine X.goto 43 i208_35 rfl rfl ?_
    refine X.lstore_n 44 [(0, zr 4 44), (1, zl 0), (3, zl 0)] i208_43 rfl rfl rfl ?_
    refine X.lload_n 45 i208_44 rfl rfl rfl ?_
    refine X.lload_n 46 i208_45 rfl rfl rfl ?_
    refine X.lmul 47 i208_46 rfl rfl (by omega) ?_
    refine X.lload_n 48 i208_47 rfl rfl rfl ?_
    refine X.lload_n 49 i208_48 rfl rfl rfl ?_
    refine X.lmul 50 i208_49 rfl rfl (by omega) ?_
    refine X.ladd 51 i208_50 rfl rfl (by omega) ?_
    refine X.calls 54 [zl ((0 * 0) + (0 * 0))] [] [(0, zl ((0 * 0) + (0 * 0)))] i208_51 (by decide) rfl rfl (by omega) rfl rfl t214 (Nat.le_of_ble_eq_true rfl) (Nat.le_of_ble_eq_true rfl) rfl ?_
    refine c214_1 (B := B)  ((0 * 0) + (0 * 0)) (by omega) (hJ.up (by omega)) (by omega)  (fun v779 hv779 => ?_)
    show X (EE s) d 208 54 [(0, zr 4 44), (1, zl 0), (3, zl 0)] [zl v779] m _
    refine X.lstore 56 [(0, zr 4 44), (1, zl 0), (3, zl 0), (5, zl v779)] i208_54 rfl rfl rfl ?_
    refine X.aload_n 57 i208_56 rfl rfl rfl ?_
    refine X.getF 60 i208_57 rfl rfl (by decide) rfl rfl ?_
    refine X.bipush 62 i208_60 rfl rfl (by decide) ?_
    refine X.dup2 63 i208_62 rfl rfl ?_
    refine X.lald 64 i208_63 rfl rfl (by decide) rfl (by omega) ?_
    have h780 := r45_13 hJ 4
    refine X.lconst (y := 1) 65 i208_64 rfl rfl rfl ?_
    refine X.ladd 66 i208_65 rfl rfl (by omega) ?_
    refine X.last' 67 i208_66 rfl rfl (by decide) rfl (by omega) (fun hrm781 m781 hm781 => ?_)
    have hJ782 := w45_13 (hJ.up (B' := B + 1) (by omega)) hm781 (by omega) hs1
    have wt783 : m781 4 45 0 = (m 4 45 0) := by rw [hm781]; exact z_upd_o _ _ rfl
    have wt784 : m781 4 45 13 = ((m 4 45 13) + 1) := by rw [hm781]; exact z_upd_same _ _ _ _ _
    refine X.aload_n 68 i208_67 rfl rfl rfl ?_
    refine X.getF 71 i208_68 rfl rfl (by decide) rfl rfl ?_
    refine X.bipush 73 i208_71 rfl rfl (by decide) ?_
    refine X.dup2 74 i208_73 rfl rfl ?_
    refine X.lald 75 i208_74 rfl rfl (by decide) rfl (by omega) ?_
    refine X.lconst (y := 1) 76 i208_75 rfl rfl rfl ?_
    refine X.llF 77 .ladd (fun x y => x + y) i208_76 rfl rfl rfl (fun _ _ => rfl) (fun z785 hz785 => ?_)
    refine X.last' 78 i208_77 rfl rfl (by decide) rfl (by omega) (fun hrm786 m786 hm786 => ?_)
    have hJ787 := w45_19 hJ782 hm786 (by omega) hrm786
    have wt788 : m786 4 45 0 = (m 4 45 0) := Eq.trans (by rw [hm786]; exact z_upd_i _ _ _ _ (by omega)) wt783
    have wt789 : m786 4 45 13 = ((m 4 45 13) + 1) := Eq.trans (by rw [hm786]; exact z_upd_i _ _ _ _ (by omega)) wt784
    clear wt783 wt784
    refine X.lload_n 79 i208_78 rfl rfl rfl ?_
    refine X.calls 82 [zl 0] [] [(0, zl 0)] i208_79 (by decide) rfl rfl (by omega) rfl rfl t215 (Nat.le_of_ble_eq_true rfl) (Nat.le_of_ble_eq_true rfl) rfl ?_
    refine X.lload_n 1 i215_0 rfl rfl rfl ?_
    refine X.lconst (y := 0) 2 i215_1 rfl rfl rfl ?_
    refine X.lcmp 3 i215_2 rfl rfl (fun z790 hz790 => ?_)
    refine X.ifge 11 6 i215_3 rfl rfl rfl (fun h791 => ?_) (fun h791 => (by exfalso; omega))
    have h791c : 0 ≥ 0 := by omega
    clear h791 hz790
    refine X.lload_n 12 i215_11 rfl rfl rfl ?_
    refine X.cut [] i215_12 rfl ?_
    refine X.retl i215_12 rfl t215 ?_
    show X (EE s) d 208 82 [(0, zr 4 44), (1, zl 0), (3, zl 0), (5, zl v779)] [zl 0] m786 _
    refine X.aload_n 83 i208_82 rfl rfl rfl ?_
    refine X.getF 86 i208_83 rfl rfl (by decide) rfl rfl ?_
    refine X.iconst 87 i208_86 rfl rfl (by decide) ?_
    refine X.lald 88 i208_87 rfl rfl (by decide) rfl (by omega) ?_
    refine X.lcmp 89 i208_88 rfl rfl (fun z792 hz792 => ?_)
    refine X.ifge 120 92 i208_89 rfl rfl rfl (fun h793 => ?_) (fun h793 => ?_)
    · have h793c : 0 ≥ (m786 4 45 4) := by omega
      clear h793 hz792
      refine X.aload_n 121 i208_120 rfl rfl rfl ?_
      refine X.lload_n 122 i208_121 rfl rfl rfl ?_
      refine X.lload_n 123 i208_122 rfl rfl rfl ?_
      refine X.lload 125 i208_123 rfl rfl rfl ?_
      refine X.callv 128 [zl 0, zl 0, zl v779] [] [(0, zr 4 44), (1, zl 0), (3, zl 0), (5, zl v779)] i208_125 rfl (by decide) rfl rfl (by omega) rfl rfl (by decide) rfl t216 (Nat.le_of_ble_eq_true rfl) (Nat.le_of_ble_eq_true rfl) rfl ?_
      refine c216_1 (S := zfr [] S) (m0 := m786) (B := B + 1)  0 0 v779 (by omega) (hJ787.ow.up (by omega)) (by omega) (by omega) (by omega) (fun m794 hJ795 => ?_)
      have hJ797 := hJ787.trans hJ795 zi_n
      have wt798 : m794 4 45 0 = (m 4 45 0) := Eq.trans (hJ795.eq rfl rfl) wt788
      have wt799 : m794 4 45 13 = ((m 4 45 13) + 1) := Eq.trans (hJ795.eq rfl rfl) wt789
      clear wt788 wt789
      show X (EE s) d 208 128 [(0, zr 4 44), (1, zl 0), (3, zl 0), (5, zl v779)] [] m794 _
      refine X.cut [(0, zr 4 44)] i208_128 rfl ?_
      refine X.aload_n 129 i208_128 rfl rfl rfl ?_
      refine X.callv 132 [] [] [(0, zr 4 44)] i208_129 rfl (by decide) rfl rfl (by omega) rfl rfl (by decide) rfl t222 (Nat.le_of_ble_eq_true rfl) (Nat.le_of_ble_eq_true rfl) rfl ?_
      refine c222_1 (S := zfr [] S) (m0 := m794) (B := B + 1)   (by omega) (hJ797.ow.up (by omega)) (by omega)  (fun m800 hJ801 => ?_)
      have hJ803 := hJ797.trans hJ801 zi_n
      have wt804 : m800 4 45 0 = (m 4 45 0) := Eq.trans (hJ801.eq rfl rfl) wt798
      have wt805 : m800 4 45 13 = ((m 4 45 13) + 1) := Eq.trans (hJ801.eq rfl rfl) wt799
      clear wt798 wt799
      show X (EE s) d 208 132 [(0, zr 4 44)] [] m800 _
      refine X.aload_n 133 i208_132 rfl rfl rfl ?_
      refine X.callv 136 [] [] [(0, zr 4 44)] i208_133 rfl (by decide) rfl rfl (by omega) rfl rfl (by decide) rfl t224 (Nat.le_of_ble_eq_true rfl) (Nat.le_of_ble_eq_true rfl) rfl ?_
      refine c224_1 (S := zfr [] S) (m0 := m800) (B := B + 2)   (by omega) (hJ803.ow.up (by omega)) (by omega)  (fun m806 hJ807 => ?_)
      have hJ809 := hJ803.trans hJ807 zi_n
      have wt810 : m806 4 45 0 = (m 4 45 0) := Eq.trans (hJ807.eq rfl rfl) wt804
      have wt811 : m806 4 45 13 = ((m 4 45 13) + 1) := Eq.trans (hJ807.eq rfl rfl) wt805
      clear wt804 wt805
      show X (EE s) d 208 136 [(0, zr 4 44)] [] m806 _
      refine X.aload_n 137 i208_136 rfl rfl rfl ?_
      refine X.callv 140 [] [] [(0, zr 4 44)] i208_137 rfl (by decide) rfl rfl (by omega) rfl rfl (by decide) rfl t230 (Nat.le_of_ble_eq_true rfl) (Nat.le_of_ble_eq_true rfl) rfl ?_
      refine c230_1 (S := zfr [(4, 45, 0)] S) (m0 := m806) (B := B + 10)   (by omega) (hJ809.ow.up (by omega)) (by omega) zm_z (fun m812 hJ813 hqv8140 => ?_)
      have hJ815 := hJ809.trans hJ813 (zi_c hs0 zi_n)
      have wt816 : m812 4 45 13 = ((m 4 45 13) + 1) := Eq.trans (hJ813.eq rfl rfl) wt811
      show X (EE s) d 208 140 [(0, zr 4 44)] [] m812 _
      refine X.retv i208_140 rfl t208 ?_
      exact hQ  m812  (hJ815.up (by omega)) (by exact ⟨by omega, by omega⟩)
    · have h793c : 0 < (m786 4 45 4) := by omega
      clear h793 hz792
      refine X.lload_n 93 i208_92 rfl rfl rfl ?_
      refine X.calls 96 [zl 0] [] [(0, zl 0)] i208_93 (by decide) rfl rfl (by omega) rfl rfl t215 (Nat.le_of_ble_eq_true rfl) (Nat.le_of_ble_eq_true rfl) rfl ?_
      refine X.lload_n 1 i215_0 rfl rfl rfl ?_
      refine X.lconst (y := 0) 2 i215_1 rfl rfl rfl ?_
      refine X.lcmp 3 i215_2 rfl rfl (fun z817 hz817 => ?_)
      refine X.ifge 11 6 i215_3 rfl rfl rfl (fun h818 => ?_) (fun h818 => (by exfalso; omega))
      have h818c : 0 ≥ 0 := by omega
      clear h818 hz817
      refine X.lload_n 12 i215_11 rfl rfl rfl ?_
      refine X.cut [] i215_12 rfl ?_
      refine X.retl i215_12 rfl t215 ?_
      show X (EE s) d 208 96 [(0, zr 4 44), (1, zl 0), (3, zl 0), (5, zl v779)] [zl 0] m786 _
      refine X.aload_n 97 i208_96 rfl rfl rfl ?_
      refine X.getF 100 i208_97 rfl rfl (by decide) rfl rfl ?_
      refine X.iconst 101 i208_100 rfl rfl (by decide) ?_
      refine X.lald 102 i208_101 rfl rfl (by decide) rfl (by omega) ?_
      refine X.lcmp 103 i208_102 rfl rfl (fun z819 hz819 => ?_)
      refine X.ifge 120 106 i208_103 rfl rfl rfl (fun h820 => (by exfalso; omega)) (fun h820 => ?_)
      have h820c : 0 < (m786 4 45 4) := by omega
      clear h820 hz819
      refine X.aload_n 107 i208_106 rfl rfl rfl ?_
      refine X.getF 110 i208_107 rfl rfl (by decide) rfl rfl ?_
      refine X.bipush 112 i208_110 rfl rfl (by decide) ?_
      refine X.dup2 113 i208_112 rfl rfl ?_
      refine X.lald 114 i208_113 rfl rfl (by decide) rfl (by omega) ?_
      refine X.lconst (y := 1) 115 i208_114 rfl rfl rfl ?_
      refine X.llF 116 .ladd (fun x y => x + y) i208_115 rfl rfl rfl (fun _ _ => rfl) (fun z821 hz821 => ?_)
      refine X.last' 117 i208_116 rfl rfl (by decide) rfl (by omega) (fun hrm822 m822 hm822 => ?_)
      have hJ823 := w45_14 hJ787 hm822 (by omega) hrm822
      have wt824 : m822 4 45 0 = (m 4 45 0) := Eq.trans (by rw [hm822]; exact z_upd_i _ _ _ _ (by omega)) wt788
      have wt825 : m822 4 45 13 = ((m 4 45 13) + 1) := Eq.trans (by rw [hm822]; exact z_upd_i _ _ _ _ (by omega)) wt789
      clear wt788 wt789
      refine X.goto 128 i208_117 rfl rfl ?_
      refine X.cut [(0, zr 4 44)] i208_128 rfl ?_
      refine X.aload_n 129 i208_128 rfl rfl rfl ?_
      refine X.callv 132 [] [] [(0, zr 4 44)] i208_129 rfl (by decide) rfl rfl (by omega) rfl rfl (by decide) rfl t222 (Nat.le_of_ble_eq_true rfl) (Nat.le_of_ble_eq_true rfl) rfl ?_
      refine c222_1 (S := zfr [] S) (m0 := m822) (B := B + 1)   (by omega) (hJ823.ow.up (by omega)) (by omega)  (fun m826 hJ827 => ?_)
      have hJ829 := hJ823.trans hJ827 zi_n
      have wt830 : m826 4 45 0 = (m 4 45 0) := Eq.trans (hJ827.eq rfl rfl) wt824
      have wt831 : m826 4 45 13 = ((m 4 45 13) + 1) := Eq.trans (hJ827.eq rfl rfl) wt825
      clear wt824 wt825
      show X (EE s) d 208 132 [(0, zr 4 44)] [] m826 _
      refine X.aload_n 133 i208_132 rfl rfl rfl ?_
      refine X.callv 136 [] [] [(0, zr 4 44)] i208_133 rfl (by decide) rfl rfl (by omega) rfl rfl (by decide) rfl t224 (Nat.le_of_ble_eq_true rfl) (Nat.le_of_ble_eq_true rfl) rfl ?_
      refine c224_1 (S := zfr [] S) (m0 := m826) (B := B + 2)   (by omega) (hJ829.ow.up (by omega)) (by omega)  (fun m832 hJ833 => ?_)
      have hJ835 := hJ829.trans hJ833 zi_n
      have wt836 : m832 4 45 0 = (m 4 45 0) := Eq.trans (hJ833.eq rfl rfl) wt830
      have wt837 : m832 4 45 13 = ((m 4 45 13) + 1) := Eq.trans (hJ833.eq rfl rfl) wt831
      clear wt830 wt831
      show X (EE s) d 208 136 [(0, zr 4 44)] [] m832 _
      refine X.aload_n 137 i208_136 rfl rfl rfl ?_
      refine X.callv 140 [] [] [(0, zr 4 44)] i208_137 rfl (by decide) rfl rfl (by omega) rfl rfl (by decide) rfl t230 (Nat.le_of_ble_eq_true rfl) (Nat.le_of_ble_eq_true rfl) rfl ?_
      refine c230_1 (S := zfr [(4, 45, 0)] S) (m0 := m832) (B := B + 10)   (by omega) (hJ835.ow.up (by omega)) (by omega) zm_z (fun m838 hJ839 hqv8400 => ?_)
      have hJ841 := hJ835.trans hJ839 (zi_c hs0 zi_n)
      have wt842 : m838 4 45 13 = ((m 4 45 13) + 1) := Eq.trans (hJ839.eq rfl rfl) wt837
      show X (EE s) d 208 140 [(0, zr 4 44)] [] m838 _
      refine X.retv i208_140 rfl t208 ?_
      exact hQ  m838  (hJ841.up (by omega)) (by exact ⟨by omega, by omega⟩)
-- WorkMeterModel.sample
theorem c205_1 {s : Nat × (Nat → Int32)} {S : zS} {m0 m : zM} {B : Int} {d : Nat} {Q : Option zV → zM → Prop} (a1 a2 : Int) (hd : 20 ≤ d) (hJ : J S m0 B m) (hB : B + 11 ≤ 1000000000) (ha1 : (-2147483648) ≤ a1 ∧ a1 ≤ 2147483647) (ha2 : (-2147483648) ≤ a2 ∧ a2 ≤ 2147483647) (hs0 : S.1 4 45 3) (hs1 : S.1 4 45 0) (hs2 : S.1 4 45 13) (hQ : ∀ (v : Int) m', ((-1) ≤ v ∧ v ≤ 47) → J S m0 (B + 11) m' → ((v = -1 ∧ ¬ (-500 ≤ a1 ∧ a1 ≤ 500 ∧ -500 ≤ a2 ∧ a2 ≤ 500) ∧ m' 4 45 3 = m 4 45 3 ∧ m' 4 45 0 = m 4 45 0 ∧ m' 4 45 13 = m 4 45 13) ∨ (v = m 4 45 3 + 1 ∧ -500 ≤ a1 ∧ a1 ≤ 500 ∧ -500 ≤ a2 ∧ a2 ≤ 500 ∧ m 4 45 3 + 1 < m 4 45 1 * m 4 45 2 ∧ m' 4 45 3 = m 4 45 3 + 1 ∧ m' 4 45 0 = m 4 45 0 ∧ m' 4 45 13 = m 4 45 13) ∨ (v = 0 ∧ -500 ≤ a1 ∧ a1 ≤ 500 ∧ -500 ≤ a2 ∧ a2 ≤ 500 ∧ m 4 45 1 * m 4 45 2 ≤ m 4 45 3 + 1 ∧ m' 4 45 3 = 0 ∧ m' 4 45 0 = min (m 4 45 0 + 1) 2000000000 ∧ m' 4 45 13 = m 4 45 13 + 1)) → Q (some (zi v)) m') : X (EE s) d 205 0 [(0, zr 4 44), (1, zi a1), (2, zi a2)] [] m Q := by
  refine X.iload_n 1 i205_0 rfl rfl rfl ?_
  refine X.i2l 2 i205_1 rfl rfl ?_
  refine X.ldc2 5 i205_2 rfl rfl (by decide) ?_
  refine X.ldc2 8 i205_5 rfl rfl (by decide) ?_
  refine X.calls 11 [zl a1, zl (-500), zl 500] [] [(0, zl a1), (2, zl (-500)), (4, zl 500)] i205_8 (by decide) rfl rfl (by omega) rfl rfl t204 (Nat.le_of_ble_eq_true rfl) (Nat.le_of_ble_eq_true rfl) rfl ?_
  refine X.lload_n 1 i204_0 rfl rfl rfl ?_
  refine X.lload_n 2 i204_1 rfl rfl rfl ?_
  refine X.lcmp 3 i204_2 rfl rfl (fun z501 hz501 => ?_)
  refine X.iflt 17 6 i204_3 rfl rfl rfl (fun h502 => ?_) (fun h502 => ?_)
  · have h502c : a1 < (-500) := by omega
    clear h502 hz501
    refine X.cut [] i204_17 rfl ?_
    refine X.iconst 18 i204_17 rfl rfl (by decide) ?_
    refine X.retz i204_18 rfl t204 (by omega) ?_
    show X (EE s) d 205 11 [(0, zr 4 44), (1, zi a1), (2, zi a2)] [zi 0] m _
    refine X.ifeq 28 14 i205_11 rfl rfl rfl (fun h503 => ?_) (fun h503 => (by exfalso; omega))
    refine X.cut [] i205_28 rfl ?_
    refine X.iconst 29 i205_28 rfl rfl (by decide) ?_
    refine X.reti i205_29 rfl t205 ?_
    exact hQ (-1) m (by first | trivial | omega) (hJ.up (by omega)) (by first | exact (.inl ⟨by omega, by omega, by omega, by omega, by omega⟩) | exact (.inr (.inl ⟨by omega, by omega, by omega, by omega, by omega, by omega, by omega, by omega, by omega⟩)) | exact (.inr (.inr ⟨by omega, by omega, by omega, by omega, by omega, by omega, by omega, by omega, by omega⟩)))
  · have h502c : a1 ≥ (-500) := by omega
    clear h502 hz501
    refine X.lload_n 7 i204_6 rfl rfl rfl ?_
    refine X.lload 9 i204_7 rfl rfl rfl ?_
    refine X.lcmp 10 i204_9 rfl rfl (fun z504 hz504 => ?_)
    refine X.ifgt 17 13 i204_10 rfl rfl rfl (fun h505 => ?_) (fun h505 => ?_)
    · have h505c : a1 > 500 := by omega
      clear h505 hz504
      refine X.cut [] i204_17 rfl ?_
      refine X.iconst 18 i204_17 rfl rfl (by decide) ?_
      refine X.retz i204_18 rfl t204 (by omega) ?_
      show X (EE s) d 205 11 [(0, zr 4 44), (1, zi a1), (2, zi a2)] [zi 0] m _
      refine X.ifeq 28 14 i205_11 rfl rfl rfl (fun h506 => ?_) (fun h506 => (by exfalso; omega))
      refine X.cut [] i205_28 rfl ?_
      refine X.iconst 29 i205_28 rfl rfl (by decide) ?_
      refine X.reti i205_29 rfl t205 ?_
      exact hQ (-1) m (by first | trivial | omega) (hJ.up (by omega)) (by first | exact (.inl ⟨by omega, by omega, by omega, by omega, by omega⟩) | exact (.inr (.inl ⟨by omega, by omega, by omega, by omega, by omega, by omega, by omega, by omega, by omega⟩)) | exact (.inr (.inr ⟨by omega, by omega, by omega, by omega, by omega, by omega, by omega, by omega, by omega⟩)))
    · have h505c : a1 ≤ 500 := by omega
      clear h505 hz504
      refine X.iconst 14 i204_13 rfl rfl (by decide) ?_
      refine X.goto 18 i204_14 rfl rfl ?_
      refine X.cut [] i204_18 rfl ?_
      refine X.retz i204_18 rfl t204 (by omega) ?_
      show X (EE s) d 205 11 [(0, zr 4 44), (1, zi a1), (2, zi a2)] [zi 1] m _
      refine X.ifeq 28 14 i205_11 rfl rfl rfl (fun h507 => (by exfalso; omega)) (fun h507 => ?_)
      refine X.iload_n 15 i205_14 rfl rfl rfl ?_
      refine X.i2l 16 i205_15 rfl rfl ?_
      refine X.ldc2 19 i205_16 rfl rfl (by decide) ?_
      refine X.ldc2 22 i205_19 rfl rfl (by decide) ?_
      refine X.calls 25 [zl a2, zl (-500), zl 500] [] [(0, zl a2), (2, zl (-500)), (4, zl 500)] i205_22 (by decide) rfl rfl (by omega) rfl rfl t204 (Nat.le_of_ble_eq_true rfl) (Nat.le_of_ble_eq_true rfl) rfl ?_
      refine X.lload_n 1 i204_0 rfl rfl rfl ?_
      refine X.lload_n 2 i204_1 rfl rfl rfl ?_
      refine X.lcmp 3 i204_2 rfl rfl (fun z508 hz508 => ?_)
      refine X.iflt 17 6 i204_3 rfl rfl rfl (fun h509 => ?_) (fun h509 => ?_)
      · have h509c : a2 < (-500) := by omega
        clear h509 hz508
        refine X.cut [] i204_17 rfl ?_
        refine X.iconst 18 i204_17 rfl rfl (by decide) ?_
        refine X.retz i204_18 rfl t204 (by omega) ?_
        show X (EE s) d 205 25 [(0, zr 4 44), (1, zi a1), (2, zi a2)] [zi 0] m _
        refine X.ifne 30 28 i205_25 rfl rfl rfl (fun h510 => (by exfalso; omega)) (fun h510 => ?_)
        refine X.cut [] i205_28 rfl ?_
        refine X.iconst 29 i205_28 rfl rfl (by decide) ?_
        refine X.reti i205_29 rfl t205 ?_
        exact hQ (-1) m (by first | trivial | omega) (hJ.up (by omega)) (by first | exact (.inl ⟨by omega, by omega, by omega, by omega, by omega⟩) | exact (.inr (.inl ⟨by omega, by omega, by omega, by omega, by omega, by omega, by omega, by omega, by omega⟩)) | exact (.inr (.inr ⟨by omega, by omega, by omega, by omega, by omega, by omega, by omega, by omega, by omega⟩)))
      · have h509c : a2 ≥ (-500) := by omega
        clear h509 hz508
        refine X.lload_n 7 i204_6 rfl rfl rfl ?_
        refine X.lload 9 i204_7 rfl rfl rfl ?_
        refine X.lcmp 10 i204_9 rfl rfl (fun z511 hz511 => ?_)
        refine X.ifgt 17 13 i204_10 rfl rfl rfl (fun h512 => ?_) (fun h512 => ?_)
        · have h512c : a2 > 500 := by omega
          clear h512 hz511
          refine X.cut [] i204_17 rfl ?_
          refine X.iconst 18 i204_17 rfl rfl (by decide) ?_
          refine X.retz i204_18 rfl t204 (by omega) ?_
          show X (EE s) d 205 25 [(0, zr 4 44), (1, zi a1), (2, zi a2)] [zi 0] m _
          refine X.ifne 30 28 i205_25 rfl rfl rfl (fun h513 => (by exfalso; omega)) (fun h513 => ?_)
          refine X.cut [] i205_28 rfl ?_
          refine X.iconst 29 i205_28 rfl rfl (by decide) ?_
          refine X.reti i205_29 rfl t205 ?_
          exact hQ (-1) m (by first | trivial | omega) (hJ.up (by omega)) (by first | exact (.inl ⟨by omega, by omega, by omega, by omega, by omega⟩) | exact (.inr (.inl ⟨by omega, by omega, by omega, by omega, by omega, by omega, by omega, by omega, by omega⟩)) | exact (.inr (.inr ⟨by omega, by omega, by omega, by omega, by omega, by omega, by omega, by omega, by omega⟩)))
        · have h512c : a2 ≤ 500 := by omega
          clear h512 hz511
          refine X.iconst 14 i204_13 rfl rfl (by decide) ?_
          refine X.goto 18 i204_14 rfl rfl ?_
          refine X.cut [] i204_18 rfl ?_
          refine X.retz i204_18 rfl t204 (by omega) ?_
          show X (EE s) d 205 25 [(0, zr 4 44), (1, zi a1), (2, zi a2)] [zi 1] m _
          refine X.ifne 30 28 i205_25 rfl rfl rfl (fun h514 => ?_) (fun h514 => (by exfalso; omega))
          refine X.aload_n 31 i205_30 rfl rfl rfl ?_
          refine X.getF 34 i205_31 rfl rfl (by decide) rfl rfl ?_
          refine X.iconst 35 i205_34 rfl rfl (by decide) ?_
          refine X.lald 36 i205_35 rfl rfl (by decide) rfl (by omega) ?_
          have h515 := r45_3 hJ 4
          refine X.l2i 37 i205_36 rfl rfl (by omega) ?_
          refine X.istore_n 38 [(0, zr 4 44), (1, zi a1), (2, zi a2), (3, zi (m 4 45 3))] i205_37 rfl rfl rfl ?_
          refine X.aload_n 39 i205_38 rfl rfl rfl ?_
          refine X.getF 42 i205_39 rfl rfl (by decide) rfl rfl ?_
          refine X.sipush 45 i205_42 rfl rfl (by decide) ?_
          refine X.iload_n 46 i205_45 rfl rfl rfl ?_
          refine X.aload_n 47 i205_46 rfl rfl rfl ?_
          refine X.callv 50 [] [zi (m 4 45 3), zi 191, zr 4 45] [(0, zr 4 44)] i205_47 rfl (by decide) rfl rfl (by omega) rfl rfl (by decide) rfl t206 (Nat.le_of_ble_eq_true rfl) (Nat.le_of_ble_eq_true rfl) rfl ?_
          refine X.aload_n 1 i206_0 rfl rfl rfl ?_
          refine X.getF 4 i206_1 rfl rfl (by decide) rfl rfl ?_
          refine X.iconst 5 i206_4 rfl rfl (by decide) ?_
          refine X.lald 6 i206_5 rfl rfl (by decide) rfl (by omega) ?_
          have h516 := r45_1 hJ 4
          refine X.l2i 7 i206_6 rfl rfl (by omega) ?_
          refine X.reti i206_7 rfl t206 ?_
          show X (EE s) d 205 50 [(0, zr 4 44), (1, zi a1), (2, zi a2), (3, zi (m 4 45 3))] [zi (m 4 45 1), zi (m 4 45 3), zi 191, zr 4 45] m _
          rcases (show (m 4 45 1) = 1 ∨ (m 4 45 1) = 2 ∨ (m 4 45 1) = 3 by omega) with h517 | h517 | h517
          · have h518 : (m 4 45 1) = 1 := by omega
            rw [h518]
            clear h518
            refine X.irem 51 i205_50 rfl rfl (by omega) ?_
            refine X.iload_n 52 i205_51 rfl rfl rfl ?_
            refine X.aload_n 53 i205_52 rfl rfl rfl ?_
            refine X.callv 56 [] [zi (m 4 45 3), zi ((m 4 45 3) % 1), zi 191, zr 4 45] [(0, zr 4 44)] i205_53 rfl (by decide) rfl rfl (by omega) rfl rfl (by decide) rfl t206 (Nat.le_of_ble_eq_true rfl) (Nat.le_of_ble_eq_true rfl) rfl ?_
            refine X.aload_n 1 i206_0 rfl rfl rfl ?_
            refine X.getF 4 i206_1 rfl rfl (by decide) rfl rfl ?_
            refine X.iconst 5 i206_4 rfl rfl (by decide) ?_
            refine X.lald 6 i206_5 rfl rfl (by decide) rfl (by omega) ?_
            refine X.l2i 7 i206_6 rfl rfl (by omega) ?_
            refine X.reti i206_7 rfl t206 ?_
            show X (EE s) d 205 56 [(0, zr 4 44), (1, zi a1), (2, zi a2), (3, zi (m 4 45 3))] [zi (m 4 45 1), zi (m 4 45 3), zi ((m 4 45 3) % 1), zi 191, zr 4 45] m _
            have h519 : (m 4 45 1) = 1 := by omega
            rw [h519]
            clear h519
            refine X.idiv 57 i205_56 rfl rfl (by omega) ?_
            refine X.calls 60 [zi 191, zi ((m 4 45 3) % 1), zi ((m 4 45 3) / 1)] [zr 4 45] [(0, zi 191), (1, zi ((m 4 45 3) % 1)), (2, zi ((m 4 45 3) / 1))] i205_57 (by decide) rfl rfl (by omega) rfl rfl t207 (Nat.le_of_ble_eq_true rfl) (Nat.le_of_ble_eq_true rfl) rfl ?_
            refine X.iload_n 1 i207_0 rfl rfl rfl ?_
            refine X.bipush 3 i207_1 rfl rfl (by decide) ?_
            refine X.iload_n 4 i207_3 rfl rfl rfl ?_
            refine X.imul 5 i207_4 rfl rfl (by omega) ?_
            refine X.iadd 6 i207_5 rfl rfl (by omega) ?_
            refine X.iload_n 7 i207_6 rfl rfl rfl ?_
            refine X.iadd 8 i207_7 rfl rfl (by omega) ?_
            refine X.reti i207_8 rfl t207 ?_
            show X (EE s) d 205 60 [(0, zr 4 44), (1, zi a1), (2, zi a2), (3, zi (m 4 45 3))] [zi ((191 + (16 * ((m 4 45 3) % 1))) + ((m 4 45 3) / 1)), zr 4 45] m _
            refine X.iload_n 61 i205_60 rfl rfl rfl ?_
            refine X.i2l 62 i205_61 rfl rfl ?_
            refine X.last' 63 i205_62 rfl rfl (by decide) rfl (by omega) (fun hrm520 m520 hm520 => ?_)
            have hJ521 := w45_19 hJ hm520 (by omega) hrm520
            have wt522 : m520 4 45 3 = (m 4 45 3) := by rw [hm520]; exact z_upd_i _ _ _ _ (by omega)
            have wt523 : m520 4 45 0 = (m 4 45 0) := by rw [hm520]; exact z_upd_i _ _ _ _ (by omega)
            have wt524 : m520 4 45 13 = (m 4 45 13) := by rw [hm520]; exact z_upd_i _ _ _ _ (by omega)
            have wt525 : m520 4 45 1 = (m 4 45 1) := by rw [hm520]; exact z_upd_i _ _ _ _ (by omega)
            have wt526 : m520 4 45 2 = (m 4 45 2) := by rw [hm520]; exact z_upd_i _ _ _ _ (by omega)
            refine X.aload_n 64 i205_63 rfl rfl rfl ?_
            refine X.getF 67 i205_64 rfl rfl (by decide) rfl rfl ?_
            refine X.sipush 70 i205_67 rfl rfl (by decide) ?_
            refine X.iload_n 71 i205_70 rfl rfl rfl ?_
            refine X.aload_n 72 i205_71 rfl rfl rfl ?_
            refine X.callv 75 [] [zi (m 4 45 3), zi 239, zr 4 45] [(0, zr 4 44)] i205_72 rfl (by decide) rfl rfl (by omega) rfl rfl (by decide) rfl t206 (Nat.le_of_ble_eq_true rfl) (Nat.le_of_ble_eq_true rfl) rfl ?_
            refine X.aload_n 1 i206_0 rfl rfl rfl ?_
            refine X.getF 4 i206_1 rfl rfl (by decide) rfl rfl ?_
            refine X.iconst 5 i206_4 rfl rfl (by decide) ?_
            refine X.lald 6 i206_5 rfl rfl (by decide) rfl (by omega) ?_
            have h527 := r45_1 hJ521 4
            refine X.l2i 7 i206_6 rfl rfl (by omega) ?_
            refine X.reti i206_7 rfl t206 ?_
            show X (EE s) d 205 75 [(0, zr 4 44), (1, zi a1), (2, zi a2), (3, zi (m 4 45 3))] [zi (m520 4 45 1), zi (m 4 45 3), zi 239, zr 4 45] m520 _
            rcases (show (m520 4 45 1) = 1 ∨ (m520 4 45 1) = 2 ∨ (m520 4 45 1) = 3 by omega) with h528 | h528 | h528
            · have h529 : (m520 4 45 1) = 1 := by omega
              rw [h529]
              clear h529
              refine X.irem 76 i205_75 rfl rfl (by omega) ?_
              refine X.iload_n 77 i205_76 rfl rfl rfl ?_
              refine X.aload_n 78 i205_77 rfl rfl rfl ?_
              refine X.callv 81 [] [zi (m 4 45 3), zi ((m 4 45 3) % 1), zi 239, zr 4 45] [(0, zr 4 44)] i205_78 rfl (by decide) rfl rfl (by omega) rfl rfl (by decide) rfl t206 (Nat.le_of_ble_eq_true rfl) (Nat.le_of_ble_eq_true rfl) rfl ?_
              refine X.aload_n 1 i206_0 rfl rfl rfl ?_
              refine X.getF 4 i206_1 rfl rfl (by decide) rfl rfl ?_
              refine X.iconst 5 i206_4 rfl rfl (by decide) ?_
              refine X.lald 6 i206_5 rfl rfl (by decide) rfl (by omega) ?_
              refine X.l2i 7 i206_6 rfl rfl (by omega) ?_
              refine X.reti i206_7 rfl t206 ?_
              show X (EE s) d 205 81 [(0, zr 4 44), (1, zi a1), (2, zi a2), (3, zi (m 4 45 3))] [zi (m520 4 45 1), zi (m 4 45 3), zi ((m 4 45 3) % 1), zi 239, zr 4 45] m520 _
              have h530 : (m520 4 45 1) = 1 := by omega
              rw [h530]
              clear h530
              refine X.idiv 82 i205_81 rfl rfl (by omega) ?_
              refine X.calls 85 [zi 239, zi ((m 4 45 3) % 1), zi ((m 4 45 3) / 1)] [zr 4 45] [(0, zi 239), (1, zi ((m 4 45 3) % 1)), (2, zi ((m 4 45 3) / 1))] i205_82 (by decide) rfl rfl (by omega) rfl rfl t207 (Nat.le_of_ble_eq_true rfl) (Nat.le_of_ble_eq_true rfl) rfl ?_
              refine X.iload_n 1 i207_0 rfl rfl rfl ?_
              refine X.bipush 3 i207_1 rfl rfl (by decide) ?_
              refine X.iload_n 4 i207_3 rfl rfl rfl ?_
              refine X.imul 5 i207_4 rfl rfl (by omega) ?_
              refine X.iadd 6 i207_5 rfl rfl (by omega) ?_
              refine X.iload_n 7 i207_6 rfl rfl rfl ?_
              refine X.iadd 8 i207_7 rfl rfl (by omega) ?_
              refine X.reti i207_8 rfl t207 ?_
              show X (EE s) d 205 85 [(0, zr 4 44), (1, zi a1), (2, zi a2), (3, zi (m 4 45 3))] [zi ((239 + (16 * ((m 4 45 3) % 1))) + ((m 4 45 3) / 1)), zr 4 45] m520 _
              refine X.iload_n 86 i205_85 rfl rfl rfl ?_
              refine X.i2l 87 i205_86 rfl rfl ?_
              refine X.last' 88 i205_87 rfl rfl (by decide) rfl (by omega) (fun hrm531 m531 hm531 => ?_)
              have hJ532 := w45_19 hJ521 hm531 (by omega) hrm531
              have wt533 : m531 4 45 3 = (m 4 45 3) := Eq.trans (by rw [hm531]; exact z_upd_i _ _ _ _ (by omega)) wt522
              have wt534 : m531 4 45 0 = (m 4 45 0) := Eq.trans (by rw [hm531]; exact z_upd_i _ _ _ _ (by omega)) wt523
              have wt535 : m531 4 45 13 = (m 4 45 13) := Eq.trans (by rw [hm531]; exact z_upd_i _ _ _ _ (by omega)) wt524
              have wt536 : m531 4 45 1 = (m 4 45 1) := Eq.trans (by rw [hm531]; exact z_upd_i _ _ _ _ (by omega)) wt525
              have wt537 : m531 4 45 2 = (m 4 45 2) := Eq.trans (by rw [hm531]; exact z_upd_i _ _ _ _ (by omega)) wt526
              clear wt522 wt523 wt524 wt526
              refine X.aload_n 89 i205_88 rfl rfl rfl ?_
              refine X.getF 92 i205_89 rfl rfl (by decide) rfl rfl ?_
              refine X.iconst 93 i205_92 rfl rfl (by decide) ?_
              refine X.dup2 94 i205_93 rfl rfl ?_
              refine X.lald 95 i205_94 rfl rfl (by decide) rfl (by omega) ?_
              have h538 := r45_3 hJ532 4
              refine X.lconst (y := 1) 96 i205_95 rfl rfl rfl ?_
              refine X.ladd 97 i205_96 rfl rfl (by omega) ?_
              refine X.last' 98 i205_97 rfl rfl (by decide) rfl (by omega) (fun hrm539 m539 hm539 => ?_)
              have em539 : m539 4 45 3 = ((m531 4 45 3) + 1) := by rw [hm539]; exact z_upd_same _ _ _ _ _
              have qm5391 : m539 4 45 1 = m531 4 45 1 := by rw [hm539]; exact z_upd_o _ _ rfl
              have qqm5391 := r45_1 hJ532 4
              have qm5392 : m539 4 45 2 = m531 4 45 2 := by rw [hm539]; exact z_upd_o _ _ rfl
              have qqm5392 := r45_2 hJ532 4
              have wt541 : m539 4 45 3 = ((m531 4 45 3) + 1) := by rw [hm539]; exact z_upd_same _ _ _ _ _
              have wt542 : m539 4 45 0 = (m 4 45 0) := Eq.trans (by rw [hm539]; exact z_upd_o _ _ rfl) wt534
              have wt543 : m539 4 45 13 = (m 4 45 13) := Eq.trans (by rw [hm539]; exact z_upd_o _ _ rfl) wt535
              have wt544 : m539 4 45 1 = (m 4 45 1) := Eq.trans (by rw [hm539]; exact z_upd_o _ _ rfl) wt536
              have wt545 : m539 4 45 2 = (m 4 45 2) := Eq.trans (by rw [hm539]; exact z_upd_o _ _ rfl) wt537
              clear wt534 wt535 wt536 wt537
              refine X.aload_n 99 i205_98 rfl rfl rfl ?_
              refine X.getF 102 i205_99 rfl rfl (by decide) rfl rfl ?_
              refine X.iconst 103 i205_102 rfl rfl (by decide) ?_
              refine X.lald 104 i205_103 rfl rfl (by decide) rfl (by omega) ?_
              refine X.aload_n 105 i205_104 rfl rfl rfl ?_
              refine X.getF 108 i205_105 rfl rfl (by decide) rfl rfl ?_
              refine X.iconst 109 i205_108 rfl rfl (by decide) ?_
              refine X.lald 110 i205_109 rfl rfl (by decide) rfl (by omega) ?_
              refine X.aload_n 111 i205_110 rfl rfl rfl ?_
              refine X.getF 114 i205_111 rfl rfl (by decide) rfl rfl ?_
              refine X.iconst 115 i205_114 rfl rfl (by decide) ?_
              refine X.lald 116 i205_115 rfl rfl (by decide) rfl (by omega) ?_
              have hz546 := z_mulr (a := 1) (b := 3) (c := 4) (e := 16) (x := (m539 4 45 1)) (y := (m539 4 45 2)) (by omega) (by omega)
              refine X.lmul 117 i205_116 rfl rfl (z_in3 hz546 (by decide) (by decide)) ?_
              obtain ⟨z546, ez546⟩ : ∃ z, z = ((m539 4 45 1) * (m539 4 45 2)) := ⟨_, rfl⟩
              rw [← ez546] at hz546 ⊢
              have gz546 : 4 ≤ z546 ∧ z546 ≤ 48 := z_in3 hz546 (by decide) (by decide)
              clear hz546
              have ppz546 : z546 = (m 4 45 1) * (m 4 45 2) := by rw [ez546, wt544, wt545]
              refine X.lcmp 118 i205_117 rfl rfl (fun z547 hz547 => ?_)
              refine X.ifge 129 121 i205_118 rfl rfl rfl (fun h548 => ?_) (fun h548 => ?_)
              · have h548c : (m539 4 45 3) ≥ z546 := by omega
                clear h548 hz547
                refine X.cut [(0, zr 4 44)] i205_129 rfl ?_
                refine X.aload_n 130 i205_129 rfl rfl rfl ?_
                refine X.getF 133 i205_130 rfl rfl (by decide) rfl rfl ?_
                refine X.iconst 134 i205_133 rfl rfl (by decide) ?_
                refine X.lconst (y := 0) 135 i205_134 rfl rfl rfl ?_
                refine X.last' 136 i205_135 rfl rfl (by decide) rfl (by omega) (fun hrm549 m549 hm549 => ?_)
                have hJ550 := w45_3 (x := 0) hJ532 (show m549 = z_upd m531 4 45 3 0 by rw [hm549, hm539]; exact z_upd_upd _ _ _ _ _ _) (by omega) hs0
                have wt551 : m549 4 45 3 = 0 := by rw [hm549]; exact z_upd_same _ _ _ _ _
                have wt552 : m549 4 45 0 = (m 4 45 0) := Eq.trans (by rw [hm549]; exact z_upd_o _ _ rfl) wt542
                have wt553 : m549 4 45 13 = (m 4 45 13) := Eq.trans (by rw [hm549]; exact z_upd_o _ _ rfl) wt543
                have wt554 : m549 4 45 1 = (m 4 45 1) := Eq.trans (by rw [hm549]; exact z_upd_o _ _ rfl) wt544
                have wt555 : m549 4 45 2 = (m 4 45 2) := Eq.trans (by rw [hm549]; exact z_upd_o _ _ rfl) wt545
                clear wt542 wt543
                refine X.iconst 137 i205_136 rfl rfl (by decide) ?_
                refine X.istore 139 [(0, zr 4 44), (4, zi 0)] i205_137 rfl rfl rfl ?_
                refine l205_139_1 (s := s) (S := (zfr [] S)) (m0 := m549) (d := d)   (BE := B + 0) (by omega) (by omega) (fun  m556 B557 hJ558 hBB557 => ?_) ((96 - 0 : Int).toNat + 1) 0 m549 (B) (hJ550.ow.up (by omega)) (by omega)  (by omega) (by omega)
                have hJ559 := hJ550.trans hJ558 zi_n
                have wt560 : m556 4 45 3 = 0 := Eq.trans (hJ558.eq rfl rfl) wt551
                have wt561 : m556 4 45 0 = (m 4 45 0) := Eq.trans (hJ558.eq rfl rfl) wt552
                have wt562 : m556 4 45 13 = (m 4 45 13) := Eq.trans (hJ558.eq rfl rfl) wt553
                have wt563 : m556 4 45 1 = (m 4 45 1) := Eq.trans (hJ558.eq rfl rfl) wt554
                have wt564 : m556 4 45 2 = (m 4 45 2) := Eq.trans (hJ558.eq rfl rfl) wt555
                refine X.aload_n 174 i205_173 rfl rfl rfl ?_
                refine X.callv 177 [] [] [(0, zr 4 44)] i205_174 rfl (by decide) rfl rfl (by omega) rfl rfl (by decide) rfl t208 (Nat.le_of_ble_eq_true rfl) (Nat.le_of_ble_eq_true rfl) rfl ?_
                refine c208_1 (S := zfr [(4, 45, 0), (4, 45, 13)] S) (m0 := m556) (B := B557)   (by omega) (hJ559.ow.up (by omega)) (by omega) zm_z (zm_s zm_z) (fun m565 hJ566 hqv5670 => ?_)
                have hJ568 := hJ559.trans hJ566 (zi_c hs1 (zi_c hs2 zi_n))
                have wt569 : m565 4 45 3 = 0 := Eq.trans (hJ566.eq rfl rfl) wt560
                have wt570 : m565 4 45 1 = (m 4 45 1) := Eq.trans (hJ566.eq rfl rfl) wt563
                have wt571 : m565 4 45 2 = (m 4 45 2) := Eq.trans (hJ566.eq rfl rfl) wt564
                show X (EE s) d 205 177 [(0, zr 4 44)] [] m565 _
                refine X.iconst 178 i205_177 rfl rfl (by decide) ?_
                refine X.reti i205_178 rfl t205 ?_
                exact hQ 0 m565 (by first | trivial | omega) (hJ568.up (by omega)) (by first | exact (.inl ⟨by omega, by omega, by omega, by omega, by omega⟩) | exact (.inr (.inl ⟨by omega, by omega, by omega, by omega, by omega, by omega, by omega, by omega, by omega⟩)) | exact (.inr (.inr ⟨by omega, by omega, by omega, by omega, by omega, by omega, by omega, by omega, by omega⟩)))
              · have h548c : (m539 4 45 3) < z546 := by omega
                clear h548 hz547
                refine X.aload_n 122 i205_121 rfl rfl rfl ?_
                refine X.getF 125 i205_122 rfl rfl (by decide) rfl rfl ?_
                refine X.iconst 126 i205_125 rfl rfl (by decide) ?_
                refine X.lald 127 i205_126 rfl rfl (by decide) rfl (by omega) ?_
                refine X.l2i 128 i205_127 rfl rfl (by omega) ?_
                have hJ572 := w45_3 hJ532 hm539 (by omega) hs0
                refine X.reti i205_128 rfl t205 ?_
                exact hQ (m539 4 45 3) m539 (by first | trivial | omega) (hJ572.up (by omega)) (by first | exact (.inl ⟨by omega, by omega, by omega, by omega, by omega⟩) | exact (.inr (.inl ⟨by omega, by omega, by omega, by omega, by omega, by omega, by omega, by omega, by omega⟩)) | exact (.inr (.inr ⟨by omega, by omega, by omega, by omega, by omega, by omega, by omega, by omega, by omega⟩)))
            · have h573 : (m520 4 45 1) = 2 := by omega
              rw [h573]
              clear h573
              refine X.irem 76 i205_75 rfl rfl (by omega) ?_
              refine X.iload_n 77 i205_76 rfl rfl rfl ?_
              refine X.aload_n 78 i205_77 rfl rfl rfl ?_
              refine X.callv 81 [] [zi (m 4 45 3), zi ((m 4 45 3) % 2), zi 239, zr 4 45] [(0, zr 4 44)] i205_78 rfl (by decide) rfl rfl (by omega) rfl rfl (by decide) rfl t206 (Nat.le_of_ble_eq_true rfl) (Nat.le_of_ble_eq_true rfl) rfl ?_
              refine X.aload_n 1 i206_0 rfl rfl rfl ?_
              refine X.getF 4 i206_1 rfl rfl (by decide) rfl rfl ?_
              refine X.iconst 5 i206_4 rfl rfl (by decide) ?_
              refine X.lald 6 i206_5 rfl rfl (by decide) rfl (by omega) ?_
              refine X.l2i 7 i206_6 rfl rfl (by omega) ?_
              refine X.reti i206_7 rfl t206 ?_
              show X (EE s) d 205 81 [(0, zr 4 44), (1, zi a1), (2, zi a2), (3, zi (m 4 45 3))] [zi (m520 4 45 1), zi (m 4 45 3), zi ((m 4 45 3) % 2), zi 239, zr 4 45] m520 _
              have h574 : (m520 4 45 1) = 2 := by omega
              rw [h574]
              clear h574
              refine X.idiv 82 i205_81 rfl rfl (by omega) ?_
              refine X.calls 85 [zi 239, zi ((m 4 45 3) % 2), zi ((m 4 45 3) / 2)] [zr 4 45] [(0, zi 239), (1, zi ((m 4 45 3) % 2)), (2, zi ((m 4 45 3) / 2))] i205_82 (by decide) rfl rfl (by omega) rfl rfl t207 (Nat.le_of_ble_eq_true rfl) (Nat.le_of_ble_eq_true rfl) rfl ?_
              refine X.iload_n 1 i207_0 rfl rfl rfl ?_
              refine X.bipush 3 i207_1 rfl rfl (by decide) ?_
              refine X.iload_n 4 i207_3 rfl rfl rfl ?_
              refine X.imul 5 i207_4 rfl rfl (by omega) ?_
              refine X.iadd 6 i207_5 rfl rfl (by omega) ?_
              refine X.iload_n 7 i207_6 rfl rfl rfl ?_
              refine X.iadd 8 i207_7 rfl rfl (by omega) ?_
              refine X.reti i207_8 rfl t207 ?_
              show X (EE s) d 205 85 [(0, zr 4 44), (1, zi a1), (2, zi a2), (3, zi (m 4 45 3))] [zi ((239 + (16 * ((m 4 45 3) % 2))) + ((m 4 45 3) / 2)), zr 4 45] m520 _
              refine X.iload_n 86 i205_85 rfl rfl rfl ?_
              refine X.i2l 87 i205_86 rfl rfl ?_
              refine X.last' 88 i205_87 rfl rfl (by decide) rfl (by omega) (fun hrm575 m575 hm575 => ?_)
              have hJ576 := w45_19 hJ521 hm575 (by omega) hrm575
              have wt577 : m575 4 45 3 = (m 4 45 3) := Eq.trans (by rw [hm575]; exact z_upd_i _ _ _ _ (by omega)) wt522
              have wt578 : m575 4 45 0 = (m 4 45 0) := Eq.trans (by rw [hm575]; exact z_upd_i _ _ _ _ (by omega)) wt523
              have wt579 : m575 4 45 13 = (m 4 45 13) := Eq.trans (by rw [hm575]; exact z_upd_i _ _ _ _ (by omega)) wt524
              have wt580 : m575 4 45 1 = (m 4 45 1) := Eq.trans (by rw [hm575]; exact z_upd_i _ _ _ _ (by omega)) wt525
              have wt581 : m575 4 45 2 = (m 4 45 2) := Eq.trans (by rw [hm575]; exact z_upd_i _ _ _ _ (by omega)) wt526
              clear wt522 wt523 wt524 wt526
              refine X.aload_n 89 i205_88 rfl rfl rfl ?_
              refine X.getF 92 i205_89 rfl rfl (by decide) rfl rfl ?_
              refine X.iconst 93 i205_92 rfl rfl (by decide) ?_
              refine X.dup2 94 i205_93 rfl rfl ?_
              refine X.lald 95 i205_94 rfl rfl (by decide) rfl (by omega) ?_
              have h582 := r45_3 hJ576 4
              refine X.lconst (y := 1) 96 i205_95 rfl rfl rfl ?_
              refine X.ladd 97 i205_96 rfl rfl (by omega) ?_
              refine X.last' 98 i205_97 rfl rfl (by decide) rfl (by omega) (fun hrm583 m583 hm583 => ?_)
              have em583 : m583 4 45 3 = ((m575 4 45 3) + 1) := by rw [hm583]; exact z_upd_same _ _ _ _ _
              have qm5831 : m583 4 45 1 = m575 4 45 1 := by rw [hm583]; exact z_upd_o _ _ rfl
              have qqm5831 := r45_1 hJ576 4
              have qm5832 : m583 4 45 2 = m575 4 45 2 := by rw [hm583]; exact z_upd_o _ _ rfl
              have qqm5832 := r45_2 hJ576 4
              have wt585 : m583 4 45 3 = ((m575 4 45 3) + 1) := by rw [hm583]; exact z_upd_same _ _ _ _ _
              have wt586 : m583 4 45 0 = (m 4 45 0) := Eq.trans (by rw [hm583]; exact z_upd_o _ _ rfl) wt578
              have wt587 : m583 4 45 13 = (m 4 45 13) := Eq.trans (by rw [hm583]; exact z_upd_o _ _ rfl) wt579
              have wt588 : m583 4 45 1 = (m 4 45 1) := Eq.trans (by rw [hm583]; exact z_upd_o _ _ rfl) wt580
              have wt589 : m583 4 45 2 = (m 4 45 2) := Eq.trans (by rw [hm583]; exact z_upd_o _ _ rfl) wt581
              clear wt578 wt579 wt580 wt581
              refine X.aload_n 99 i205_98 rfl rfl rfl ?_
              refine X.getF 102 i205_99 rfl rfl (by decide) rfl rfl ?_
              refine X.iconst 103 i205_102 rfl rfl (by decide) ?_
              refine X.lald 104 i205_103 rfl rfl (by decide) rfl (by omega) ?_
              refine X.aload_n 105 i205_104 rfl rfl rfl ?_
              refine X.getF 108 i205_105 rfl rfl (by decide) rfl rfl ?_
              refine X.iconst 109 i205_108 rfl rfl (by decide) ?_
              refine X.lald 110 i205_109 rfl rfl (by decide) rfl (by omega) ?_
              refine X.aload_n 111 i205_110 rfl rfl rfl ?_
              refine X.getF 114 i205_111 rfl rfl (by decide) rfl rfl ?_
              refine X.iconst 115 i205_114 rfl rfl (by decide) ?_
              refine X.lald 116 i205_115 rfl rfl (by decide) rfl (by omega) ?_
              have hz590 := z_mulr (a := 1) (b := 3) (c := 4) (e := 16) (x := (m583 4 45 1)) (y := (m583 4 45 2)) (by omega) (by omega)
              refine X.lmul 117 i205_116 rfl rfl (z_in3 hz590 (by decide) (by decide)) ?_
              obtain ⟨z590, ez590⟩ : ∃ z, z = ((m583 4 45 1) * (m583 4 45 2)) := ⟨_, rfl⟩
              rw [← ez590] at hz590 ⊢
              have gz590 : 4 ≤ z590 ∧ z590 ≤ 48 := z_in3 hz590 (by decide) (by decide)
              clear hz590
              have ppz590 : z590 = (m 4 45 1) * (m 4 45 2) := by rw [ez590, wt588, wt589]
              refine X.lcmp 118 i205_117 rfl rfl (fun z591 hz591 => ?_)
              refine X.ifge 129 121 i205_118 rfl rfl rfl (fun h592 => ?_) (fun h592 => ?_)
              · have h592c : (m583 4 45 3) ≥ z590 := by omega
                clear h592 hz591
                refine X.cut [(0, zr 4 44)] i205_129 rfl ?_
                refine X.aload_n 130 i205_129 rfl rfl rfl ?_
                refine X.getF 133 i205_130 rfl rfl (by decide) rfl rfl ?_
                refine X.iconst 134 i205_133 rfl rfl (by decide) ?_
                refine X.lconst (y := 0) 135 i205_134 rfl rfl rfl ?_
                refine X.last' 136 i205_135 rfl rfl (by decide) rfl (by omega) (fun hrm593 m593 hm593 => ?_)
                have hJ594 := w45_3 (x := 0) hJ576 (show m593 = z_upd m575 4 45 3 0 by rw [hm593, hm583]; exact z_upd_upd _ _ _ _ _ _) (by omega) hs0
                have wt595 : m593 4 45 3 = 0 := by rw [hm593]; exact z_upd_same _ _ _ _ _
                have wt596 : m593 4 45 0 = (m 4 45 0) := Eq.trans (by rw [hm593]; exact z_upd_o _ _ rfl) wt586
                have wt597 : m593 4 45 13 = (m 4 45 13) := Eq.trans (by rw [hm593]; exact z_upd_o _ _ rfl) wt587
                have wt598 : m593 4 45 1 = (m 4 45 1) := Eq.trans (by rw [hm593]; exact z_upd_o _ _ rfl) wt588
                have wt599 : m593 4 45 2 = (m 4 45 2) := Eq.trans (by rw [hm593]; exact z_upd_o _ _ rfl) wt589
                clear wt586 wt587
                refine X.iconst 137 i205_136 rfl rfl (by decide) ?_
                refine X.istore 139 [(0, zr 4 44), (4, zi 0)] i205_137 rfl rfl rfl ?_
                refine l205_139_1 (s := s) (S := (zfr [] S)) (m0 := m593) (d := d)   (BE := B + 0) (by omega) (by omega) (fun  m600 B601 hJ602 hBB601 => ?_) ((96 - 0 : Int).toNat + 1) 0 m593 (B) (hJ594.ow.up (by omega)) (by omega)  (by omega) (by omega)
                have hJ603 := hJ594.trans hJ602 zi_n
                have wt604 : m600 4 45 3 = 0 := Eq.trans (hJ602.eq rfl rfl) wt595
                have wt605 : m600 4 45 0 = (m 4 45 0) := Eq.trans (hJ602.eq rfl rfl) wt596
                have wt606 : m600 4 45 13 = (m 4 45 13) := Eq.trans (hJ602.eq rfl rfl) wt597
                have wt607 : m600 4 45 1 = (m 4 45 1) := Eq.trans (hJ602.eq rfl rfl) wt598
                have wt608 : m600 4 45 2 = (m 4 45 2) := Eq.trans (hJ602.eq rfl rfl) wt599
                refine X.aload_n 174 i205_173 rfl rfl rfl ?_
                refine X.callv 177 [] [] [(0, zr 4 44)] i205_174 rfl (by decide) rfl rfl (by omega) rfl rfl (by decide) rfl t208 (Nat.le_of_ble_eq_true rfl) (Nat.le_of_ble_eq_true rfl) rfl ?_
                refine c208_1 (S := zfr [(4, 45, 0), (4, 45, 13)] S) (m0 := m600) (B := B601)   (by omega) (hJ603.ow.up (by omega)) (by omega) zm_z (zm_s zm_z) (fun m609 hJ610 hqv6110 => ?_)
                have hJ612 := hJ603.trans hJ610 (zi_c hs1 (zi_c hs2 zi_n))
                have wt613 : m609 4 45 3 = 0 := Eq.trans (hJ610.eq rfl rfl) wt604
                have wt614 : m609 4 45 1 = (m 4 45 1) := Eq.trans (hJ610.eq rfl rfl) wt607
                have wt615 : m609 4 45 2 = (m 4 45 2) := Eq.trans (hJ610.eq rfl rfl) wt608
                show X (EE s) d 205 177 [(0, zr 4 44)] [] m609 _
                refine X.iconst 178 i205_177 rfl rfl (by decide) ?_
                refine X.reti i205_178 rfl t205 ?_
                exact hQ 0 m609 (by first | trivial | omega) (hJ612.up (by omega)) (by first | exact (.inl ⟨by omega, by omega, by omega, by omega, by omega⟩) | exact (.inr (.inl ⟨by omega, by omega, by omega, by omega, by omega, by omega, by omega, by omega, by omega⟩)) | exact (.inr (.inr ⟨by omega, by omega, by omega, by omega, by omega, by omega, by omega, by omega, by omega⟩)))
              · have h592c : (m583 4 45 3) < z590 := by omega
                clear h592 hz591
                refine X.aload_n 122 i205_121 rfl rfl rfl ?_
                refine X.getF 125 i205_122 rfl rfl (by decide) rfl rfl ?_
                refine X.iconst 126 i205_125 rfl rfl (by decide) ?_
                refine X.lald 127 i205_126 rfl rfl (by decide) rfl (by omega) ?_
                refine X.l2i 128 i205_127 rfl rfl (by omega) ?_
                have hJ616 := w45_3 hJ576 hm583 (by omega) hs0
                refine X.reti i205_128 rfl t205 ?_
                exact hQ (m583 4 45 3) m583 (by first | trivial | omega) (hJ616.up (by omega)) (by first | exact (.inl ⟨by omega, by omega, by omega, by omega, by omega⟩) | exact (.inr (.inl ⟨by omega, by omega, by omega, by omega, by omega, by omega, by omega, by omega, by omega⟩)) | exact (.inr (.inr ⟨by omega, by omega, by omega, by omega, by omega, by omega, by omega, by omega, by omega⟩)))
            · have h617 : (m520 4 45 1) = 3 := by omega
              rw [h617]
              clear h617
              refine X.irem 76 i205_75 rfl rfl (by omega) ?_
              refine X.iload_n 77 i205_76 rfl rfl rfl ?_
              refine X.aload_n 78 i205_77 rfl rfl rfl ?_
              refine X.callv 81 [] [zi (m 4 45 3), zi ((m 4 45 3) % 3), zi 239, zr 4 45] [(0, zr 4 44)] i205_78 rfl (by decide) rfl rfl (by omega) rfl rfl (by decide) rfl t206 (Nat.le_of_ble_eq_true rfl) (Nat.le_of_ble_eq_true rfl) rfl ?_
              refine X.aload_n 1 i206_0 rfl rfl rfl ?_
              refine X.getF 4 i206_1 rfl rfl (by decide) rfl rfl ?_
              refine X.iconst 5 i206_4 rfl rfl (by decide) ?_
              refine X.lald 6 i206_5 rfl rfl (by decide) rfl (by omega) ?_
              refine X.l2i 7 i206_6 rfl rfl (by omega) ?_
              refine X.reti i206_7 rfl t206 ?_
              show X (EE s) d 205 81 [(0, zr 4 44), (1, zi a1), (2, zi a2), (3, zi (m 4 45 3))] [zi (m520 4 45 1), zi (m 4 45 3), zi ((m 4 45 3) % 3), zi 239, zr 4 45] m520 _
              have h618 : (m520 4 45 1) = 3 := by omega
              rw [h618]
              clear h618
              refine X.idiv 82 i205_81 rfl rfl (by omega) ?_
              refine X.calls 85 [zi 239, zi ((m 4 45 3) % 3), zi ((m 4 45 3) / 3)] [zr 4 45] [(0, zi 239), (1, zi ((m 4 45 3) % 3)), (2, zi ((m 4 45 3) / 3))] i205_82 (by decide) rfl rfl (by omega) rfl rfl t207 (Nat.le_of_ble_eq_true rfl) (Nat.le_of_ble_eq_true rfl) rfl ?_
              refine X.iload_n 1 i207_0 rfl rfl rfl ?_
              refine X.bipush 3 i207_1 rfl rfl (by decide) ?_
              refine X.iload_n 4 i207_3 rfl rfl rfl ?_
              refine X.imul 5 i207_4 rfl rfl (by omega) ?_
              refine X.iadd 6 i207_5 rfl rfl (by omega) ?_
              refine X.iload_n 7 i207_6 rfl rfl rfl ?_
              refine X.iadd 8 i207_7 rfl rfl (by omega) ?_
              refine X.reti i207_8 rfl t207 ?_
              show X (EE s) d 205 85 [(0, zr 4 44), (1, zi a1), (2, zi a2), (3, zi (m 4 45 3))] [zi ((239 + (16 * ((m 4 45 3) % 3))) + ((m 4 45 3) / 3)), zr 4 45] m520 _
              refine X.iload_n 86 i205_85 rfl rfl rfl ?_
              refine X.i2l 87 i205_86 rfl rfl ?_
              refine X.last' 88 i205_87 rfl rfl (by decide) rfl (by omega) (fun hrm619 m619 hm619 => ?_)
              have hJ620 := w45_19 hJ521 hm619 (by omega) hrm619
              have wt621 : m619 4 45 3 = (m 4 45 3) := Eq.trans (by rw [hm619]; exact z_upd_i _ _ _ _ (by omega)) wt522
              have wt622 : m619 4 45 0 = (m 4 45 0) := Eq.trans (by rw [hm619]; exact z_upd_i _ _ _ _ (by omega)) wt523
              have wt623 : m619 4 45 13 = (m 4 45 13) := Eq.trans (by rw [hm619]; exact z_upd_i _ _ _ _ (by omega)) wt524
              have wt624 : m619 4 45 1 = (m 4 45 1) := Eq.trans (by rw [hm619]; exact z_upd_i _ _ _ _ (by omega)) wt525
              have wt625 : m619 4 45 2 = (m 4 45 2) := Eq.trans (by rw [hm619]; exact z_upd_i _ _ _ _ (by omega)) wt526
              clear wt522 wt523 wt524 wt526
              refine X.aload_n 89 i205_88 rfl rfl rfl ?_
              refine X.getF 92 i205_89 rfl rfl (by decide) rfl rfl ?_
              refine X.iconst 93 i205_92 rfl rfl (by decide) ?_
              refine X.dup2 94 i205_93 rfl rfl ?_
              refine X.lald 95 i205_94 rfl rfl (by decide) rfl (by omega) ?_
              have h626 := r45_3 hJ620 4
              refine X.lconst (y := 1) 96 i205_95 rfl rfl rfl ?_
              refine X.ladd 97 i205_96 rfl rfl (by omega) ?_
              refine X.last' 98 i205_97 rfl rfl (by decide) rfl (by omega) (fun hrm627 m627 hm627 => ?_)
              have em627 : m627 4 45 3 = ((m619 4 45 3) + 1) := by rw [hm627]; exact z_upd_same _ _ _ _ _
              have qm6271 : m627 4 45 1 = m619 4 45 1 := by rw [hm627]; exact z_upd_o _ _ rfl
              have qqm6271 := r45_1 hJ620 4
              have qm6272 : m627 4 45 2 = m619 4 45 2 := by rw [hm627]; exact z_upd_o _ _ rfl
              have qqm6272 := r45_2 hJ620 4
              have wt629 : m627 4 45 3 = ((m619 4 45 3) + 1) := by rw [hm627]; exact z_upd_same _ _ _ _ _
              have wt630 : m627 4 45 0 = (m 4 45 0) := Eq.trans (by rw [hm627]; exact z_upd_o _ _ rfl) wt622
              have wt631 : m627 4 45 13 = (m 4 45 13) := Eq.trans (by rw [hm627]; exact z_upd_o _ _ rfl) wt623
              have wt632 : m627 4 45 1 = (m 4 45 1) := Eq.trans (by rw [hm627]; exact z_upd_o _ _ rfl) wt624
              have wt633 : m627 4 45 2 = (m 4 45 2) := Eq.trans (by rw [hm627]; exact z_upd_o _ _ rfl) wt625
              clear wt622 wt623 wt624 wt625
              refine X.aload_n 99 i205_98 rfl rfl rfl ?_
              refine X.getF 102 i205_99 rfl rfl (by decide) rfl rfl ?_
              refine X.iconst 103 i205_102 rfl rfl (by decide) ?_
              refine X.lald 104 i205_103 rfl rfl (by decide) rfl (by omega) ?_
              refine X.aload_n 105 i205_104 rfl rfl rfl ?_
              refine X.getF 108 i205_105 rfl rfl (by decide) rfl rfl ?_
              refine X.iconst 109 i205_108 rfl rfl (by decide) ?_
              refine X.lald 110 i205_109 rfl rfl (by decide) rfl (by omega) ?_
              refine X.aload_n 111 i205_110 rfl rfl rfl ?_
              refine X.getF 114 i205_111 rfl rfl (by decide) rfl rfl ?_
              refine X.iconst 115 i205_114 rfl rfl (by decide) ?_
              refine X.lald 116 i205_115 rfl rfl (by decide) rfl (by omega) ?_
              have hz634 := z_mulr (a := 1) (b := 3) (c := 4) (e := 16) (x := (m627 4 45 1)) (y := (m627 4 45 2)) (by omega) (by omega)
              refine X.lmul 117 i205_116 rfl rfl (z_in3 hz634 (by decide) (by decide)) ?_
              obtain ⟨z634, ez634⟩ : ∃ z, z = ((m627 4 45 1) * (m627 4 45 2)) := ⟨_, rfl⟩
              rw [← ez634] at hz634 ⊢
              have gz634 : 4 ≤ z634 ∧ z634 ≤ 48 := z_in3 hz634 (by decide) (by decide)
              clear hz634
              have ppz634 : z634 = (m 4 45 1) * (m 4 45 2) := by rw [ez634, wt632, wt633]
              refine X.lcmp 118 i205_117 rfl rfl (fun z635 hz635 => ?_)
              refine X.ifge 129 121 i205_118 rfl rfl rfl (fun h636 => ?_) (fun h636 => ?_)
              · have h636c : (m627 4 45 3) ≥ z634 := by omega
                clear h636 hz635
                refine X.cut [(0, zr 4 44)] i205_129 rfl ?_
                refine X.aload_n 130 i205_129 rfl rfl rfl ?_
                refine X.getF 133 i205_130 rfl rfl (by decide) rfl rfl ?_
                refine X.iconst 134 i205_133 rfl rfl (by decide) ?_
                refine X.lconst (y := 0) 135 i205_134 rfl rfl rfl ?_
                refine X.last' 136 i205_135 rfl rfl (by decide) rfl (by omega) (fun hrm637 m637 hm637 => ?_)
                have hJ638 := w45_3 (x := 0) hJ620 (show m637 = z_upd m619 4 45 3 0 by rw [hm637, hm627]; exact z_upd_upd _ _ _ _ _ _) (by omega) hs0
                have wt639 : m637 4 45 3 = 0 := by rw [hm637]; exact z_upd_same _ _ _ _ _
                have wt640 : m637 4 45 0 = (m 4 45 0) := Eq.trans (by rw [hm637]; exact z_upd_o _ _ rfl) wt630
                have wt641 : m637 4 45 13 = (m 4 45 13) := Eq.trans (by rw [hm637]; exact z_upd_o _ _ rfl) wt631
                have wt642 : m637 4 45 1 = (m 4 45 1) := Eq.trans (by rw [hm637]; exact z_upd_o _ _ rfl) wt632
                have wt643 : m637 4 45 2 = (m 4 45 2) := Eq.trans (by rw [hm637]; exact z_upd_o _ _ rfl) wt633
                clear wt630 wt631
                refine X.iconst 137 i205_136 rfl rfl (by decide) ?_
                refine X.istore 139 [(0, zr 4 44), (4, zi 0)] i205_137 rfl rfl rfl ?_
                refine l205_139_1 (s := s) (S := (zfr [] S)) (m0 := m637) (d := d)   (BE := B + 0) (by omega) (by omega) (fun  m644 B645 hJ646 hBB645 => ?_) ((96 - 0 : Int).toNat + 1) 0 m637 (B) (hJ638.ow.up (by omega)) (by omega)  (by omega) (by omega)
                have hJ647 := hJ638.trans hJ646 zi_n
                have wt648 : m644 4 45 3 = 0 := Eq.trans (hJ646.eq rfl rfl) wt639
                have wt649 : m644 4 45 0 = (m 4 45 0) := Eq.trans (hJ646.eq rfl rfl) wt640
                have wt650 : m644 4 45 13 = (m 4 45 13) := Eq.trans (hJ646.eq rfl rfl) wt641
                have wt651 : m644 4 45 1 = (m 4 45 1) := Eq.trans (hJ646.eq rfl rfl) wt642
                have wt652 : m644 4 45 2 = (m 4 45 2) := Eq.trans (hJ646.eq rfl rfl) wt643
                refine X.aload_n 174 i205_173 rfl rfl rfl ?_
                refine X.callv 177 [] [] [(0, zr 4 44)] i205_174 rfl (by decide) rfl rfl (by omega) rfl rfl (by decide) rfl t208 (Nat.le_of_ble_eq_true rfl) (Nat.le_of_ble_eq_true rfl) rfl ?_
                refine c208_1 (S := zfr [(4, 45, 0), (4, 45, 13)] S) (m0 := m644) (B := B645)   (by omega) (hJ647.ow.up (by omega)) (by omega) zm_z (zm_s zm_z) (fun m653 hJ654 hqv6550 => ?_)
                have hJ656 := hJ647.trans hJ654 (zi_c hs1 (zi_c hs2 zi_n))
                have wt657 : m653 4 45 3 = 0 := Eq.trans (hJ654.eq rfl rfl) wt648
                have wt658 : m653 4 45 1 = (m 4 45 1) := Eq.trans (hJ654.eq rfl rfl) wt651
                have wt659 : m653 4 45 2 = (m 4 45 2) := Eq.trans (hJ654.eq rfl rfl) wt652
                show X (EE s) d 205 177 [(0, zr 4 44)] [] m653 _
                refine X.iconst 178 i205_177 rfl rfl (by decide) ?_
                refine X.reti i205_178 rfl t205 ?_
                exact hQ 0 m653 (by first | trivial | omega) (hJ656.up (by omega)) (by first | exact (.inl ⟨by omega, by omega, by omega, by omega, by omega⟩) | exact (.inr (.inl ⟨by omega, by omega, by omega, by omega, by omega, by omega, by omega, by omega, by omega⟩)) | exact (.inr (.inr ⟨by omega, by omega, by omega, by omega, by omega, by omega, by omega, by omega, by omega⟩)))
              · have h636c : (m627 4 45 3) < z634 := by omega
                clear h636 hz635
                refine X.aload_n 122 i205_121 rfl rfl rfl ?_
                refine X.getF 125 i205_122 rfl rfl (by decide) rfl rfl ?_
                refine X.iconst 126 i205_125 rfl rfl (by decide) ?_
                refine X.lald 127 i205_126 rfl rfl (by decide) rfl (by omega) ?_
                refine X.l2i 128 i205_127 rfl rfl (by omega) ?_
                have hJ660 := w45_3 hJ620 hm627 (by omega) hs0
                refine X.reti i205_128 rfl t205 ?_
                exact hQ (m627 4 45 3) m627 (by first | trivial | omega) (hJ660.up (by omega)) (by first | exact (.inl ⟨by omega, by omega, by omega, by omega, by omega⟩) | exact (.inr (.inl ⟨by omega, by omega, by omega, by omega, by omega, by omega, by omega, by omega, by omega⟩)) | exact (.inr (.inr ⟨by omega, by omega, by omega, by omega, by omega, by omega, by omega, by omega, by omega⟩)))
          · have h661 : (m 4 45 1) = 2 := by omega
            rw [h661]
            clear h661
            refine X.irem 51 i205_50 rfl rfl (by omega) ?_
            refine X.iload_n 52 i205_51 rfl rfl rfl ?_
            refine X.aload_n 53 i205_52 rfl rfl rfl ?_
            refine X.callv 56 [] [zi (m 4 45 3), zi ((m 4 45 3) % 2), zi 191, zr 4 45] [(0, zr 4 44)] i205_53 rfl (by decide) rfl rfl (by omega) rfl rfl (by decide) rfl t206 (Nat.le_of_ble_eq_true rfl) (Nat.le_of_ble_eq_true rfl) rfl ?_
            refine X.aload_n 1 i206_0 rfl rfl rfl ?_
            refine X.getF 4 i206_1 rfl rfl (by decide) rfl rfl ?_
            refine X.iconst 5 i206_4 rfl rfl (by decide) ?_
            refine X.lald 6 i206_5 rfl rfl (by decide) rfl (by omega) ?_
            refine X.l2i 7 i206_6 rfl rfl (by omega) ?_
            refine X.reti i206_7 rfl t206 ?_
            show X (EE s) d 205 56 [(0, zr 4 44), (1, zi a1), (2, zi a2), (3, zi (m 4 45 3))] [zi (m 4 45 1), zi (m 4 45 3), zi ((m 4 45 3) % 2), zi 191, zr 4 45] m _
            have h662 : (m 4 45 1) = 2 := by omega
            rw [h662]
            clear h662
            refine X.idiv 57 i205_56 rfl rfl (by omega) ?_
            refine X.calls 60 [zi 191, zi ((m 4 45 3) % 2), zi ((m 4 45 3) / 2)] [zr 4 45] [(0, zi 191), (1, zi ((m 4 45 3) % 2)), (2, zi ((m 4 45 3) / 2))] i205_57 (by decide) rfl rfl (by omega) rfl rfl t207 (Nat.le_of_ble_eq_true rfl) (Nat.le_of_ble_eq_true rfl) rfl ?_
            refine X.iload_n 1 i207_0 rfl rfl rfl ?_
            refine X.bipush 3 i207_1 rfl rfl (by decide) ?_
            refine X.iload_n 4 i207_3 rfl rfl rfl ?_
            refine X.imul 5 i207_4 rfl rfl (by omega) ?_
            refine X.iadd 6 i207_5 rfl rfl (by omega) ?_
            refine X.iload_n 7 i207_6 rfl rfl rfl ?_
            refine X.iadd 8 i207_7 rfl rfl (by omega) ?_
            refine X.reti i207_8 rfl t207 ?_
            show X (EE s) d 205 60 [(0, zr 4 44), (1, zi a1), (2, zi a2), (3, zi (m 4 45 3))] [zi ((191 + (16 * ((m 4 45 3) % 2))) + ((m 4 45 3) / 2)), zr 4 45] m _
            refine X.iload_n 61 i205_60 rfl rfl rfl ?_
            refine X.i2l 62 i205_61 rfl rfl ?_
            refine X.last' 63 i205_62 rfl rfl (by decide) rfl (by omega) (fun hrm663 m663 hm663 => ?_)
            have hJ664 := w45_19 hJ hm663 (by omega) hrm663
            have wt665 : m663 4 45 3 = (m 4 45 3) := by rw [hm663]; exact z_upd_i _ _ _ _ (by omega)
            have wt666 : m663 4 45 0 = (m 4 45 0) := by rw [hm663]; exact z_upd_i _ _ _ _ (by omega)
            have wt667 : m663 4 45 13 = (m 4 45 13) := by rw [hm663]; exact z_upd_i _ _ _ _ (by omega)
            have wt668 : m663 4 45 1 = (m 4 45 1) := by rw [hm663]; exact z_upd_i _ _ _ _ (by omega)
            have wt669 : m663 4 45 2 = (m 4 45 2) := by rw [hm663]; exact z_upd_i _ _ _ _ (by omega)
            refine X.aload_n 64 i205_63 rfl rfl rfl ?_
            refine X.getF 67 i205_64 rfl rfl (by decide) rfl rfl ?_
            refine X.sipush 70 i205_67 rfl rfl (by decide) ?_
            refine X.iload_n 71 i205_70 rfl rfl rfl ?_
            refine X.aload_n 72 i205_71 rfl rfl rfl ?_
            refine X.callv 75 [] [zi (m 4 45 3), zi 239, zr 4 45] [(0, zr 4 44)] i205_72 rfl (by decide) rfl rfl (by omega) rfl rfl (by decide) rfl t206 (Nat.le_of_ble_eq_true rfl) (Nat.le_of_ble_eq_true rfl) rfl ?_
            refine X.aload_n 1 i206_0 rfl rfl rfl ?_
            refine X.getF 4 i206_1 rfl rfl (by decide) rfl rfl ?_
            refine X.iconst 5 i206_4 rfl rfl (by decide) ?_
            refine X.lald 6 i206_5 rfl rfl (by decide) rfl (by omega) ?_
            have h670 := r45_1 hJ664 4
            refine X.l2i 7 i206_6 rfl rfl (by omega) ?_
            refine X.reti i206_7 rfl t206 ?_
            show X (EE s) d 205 75 [(0, zr 4 44), (1, zi a1), (2, zi a2), (3, zi (m 4 45 3))] [zi (m663 4 45 1), zi (m 4 45 3), zi 239, zr 4 45] m663 _
            rcases (show (m663 4 45 1) = 1 ∨ (m663 4 45 1) = 2 ∨ (m663 4 45 1) = 3 by omega) with h671 | h671 | h671
            · have h672 : (m663 4 45 1) = 1 := by omega
              rw [h672]
              clear h672
              refine X.irem 76 i205_75 rfl rfl (by omega) ?_
              refine X.iload_n 77 i205_76 rfl rfl rfl ?_
              refine X.aload_n 78 i205_77 rfl rfl rfl ?_
              refine X.callv 81 [] [zi (m 4 45 3), zi ((m 4 45 3) % 1), zi 239, zr 4 45] [(0, zr 4 44)] i205_78 rfl (by decide) rfl rfl (by omega) rfl rfl (by decide) rfl t206 (Nat.le_of_ble_eq_true rfl) (Nat.le_of_ble_eq_true rfl) rfl ?_
              refine X.aload_n 1 i206_0 rfl rfl rfl ?_
              refine X.getF 4 i206_1 rfl rfl (by decide) rfl rfl ?_
              refine X.iconst 5 i206_4 rfl rfl (by decide) ?_
              refine X.lald 6 i206_5 rfl rfl (by decide) rfl (by omega) ?_
              refine X.l2i 7 i206_6 rfl rfl (by omega) ?_
              refine X.reti i206_7 rfl t206 ?_
              show X (EE s) d 205 81 [(0, zr 4 44), (1, zi a1), (2, zi a2), (3, zi (m 4 45 3))] [zi (m663 4 45 1), zi (m 4 45 3), zi ((m 4 45 3) % 1), zi 239, zr 4 45] m663 _
              have h673 : (m663 4 45 1) = 1 := by omega
              rw [h673]
              clear h673
              refine X.idiv 82 i205_81 rfl rfl (by omega) ?_
              refine X.calls 85 [zi 239, zi ((m 4 45 3) % 1), zi ((m 4 45 3) / 1)] [zr 4 45] [(0, zi 239), (1, zi ((m 4 45 3) % 1)), (2, zi ((m 4 45 3) / 1))] i205_82 (by decide) rfl rfl (by omega) rfl rfl t207 (Nat.le_of_ble_eq_true rfl) (Nat.le_of_ble_eq_true rfl) rfl ?_
              refine X.iload_n 1 i207_0 rfl rfl rfl ?_
              refine X.bipush 3 i207_1 rfl rfl (by decide) ?_
              refine X.iload_n 4 i207_3 rfl rfl rfl ?_
              refine X.imul 5 i207_4 rfl rfl (by omega) ?_
              refine X.iadd 6 i207_5 rfl rfl (by omega) ?_
              refine X.iload_n 7 i207_6 rfl rfl rfl ?_
              refine X.iadd 8 i207_7 rfl rfl (by omega) ?_
              refine X.reti i207_8 rfl t207 ?_
              show X (EE s) d 205 85 [(0, zr 4 44), (1, zi a1), (2, zi a2), (3, zi (m 4 45 3))] [zi ((239 + (16 * ((m 4 45 3) % 1))) + ((m 4 45 3) / 1)), zr 4 45] m663 _
              refine X.iload_n 86 i205_85 rfl rfl rfl ?_
              refine X.i2l 87 i205_86 rfl rfl ?_
              refine X.last' 88 i205_87 rfl rfl (by decide) rfl (by omega) (fun hrm674 m674 hm674 => ?_)
              have hJ675 := w45_19 hJ664 hm674 (by omega) hrm674
              have wt676 : m674 4 45 3 = (m 4 45 3) := Eq.trans (by rw [hm674]; exact z_upd_i _ _ _ _ (by omega)) wt665
              have wt677 : m674 4 45 0 = (m 4 45 0) := Eq.trans (by rw [hm674]; exact z_upd_i _ _ _ _ (by omega)) wt666
              have wt678 : m674 4 45 13 = (m 4 45 13) := Eq.trans (by rw [hm674]; exact z_upd_i _ _ _ _ (by omega)) wt667
              have wt679 : m674 4 45 1 = (m 4 45 1) := Eq.trans (by rw [hm674]; exact z_upd_i _ _ _ _ (by omega)) wt668
              have wt680 : m674 4 45 2 = (m 4 45 2) := Eq.trans (by rw [hm674]; exact z_upd_i _ _ _ _ (by omega)) wt669
              clear wt665 wt666 wt667 wt669
              refine X.aload_n 89 i205_88 rfl rfl rfl ?_
              refine X.getF 92 i205_89 rfl rfl (by decide) rfl rfl ?_
              refine X.iconst 93 i205_92 rfl rfl (by decide) ?_
              refine X.dup2 94 i205_93 rfl rfl ?_
              refine X.lald 95 i205_94 rfl rfl (by decide) rfl (by omega) ?_
              have h681 := r45_3 hJ675 4
              refine X.lconst (y := 1) 96 i205_95 rfl rfl rfl ?_
              refine X.ladd 97 i205_96 rfl rfl (by omega) ?_
              refine X.last' 98 i205_97 rfl rfl (by decide) rfl (by omega) (fun hrm682 m682 hm682 => ?_)
              have em682 : m682 4 45 3 = ((m674 4 45 3) + 1) := by rw [hm682]; exact z_upd_same _ _ _ _ _
              have qm6821 : m682 4 45 1 = m674 4 45 1 := by rw [hm682]; exact z_upd_o _ _ rfl
              have qqm6821 := r45_1 hJ675 4
              have qm6822 : m682 4 45 2 = m674 4 45 2 := by rw [hm682]; exact z_upd_o _ _ rfl
              have qqm6822 := r45_2 hJ675 4
              have wt684 : m682 4 45 3 = ((m674 4 45 3) + 1) := by rw [hm682]; exact z_upd_same _ _ _ _ _
              have wt685 : m682 4 45 0 = (m 4 45 0) := Eq.trans (by rw [hm682]; exact z_upd_o _ _ rfl) wt677
              have wt686 : m682 4 45 13 = (m 4 45 13) := Eq.trans (by rw [hm682]; exact z_upd_o _ _ rfl) wt678
              have wt687 : m682 4 45 1 = (m 4 45 1) := Eq.trans (by rw [hm682]; exact z_upd_o _ _ rfl) wt679
              have wt688 : m682 4 45 2 = (m 4 45 2) := Eq.trans (by rw [hm682]; exact z_upd_o _ _ rfl) wt680
              clear wt677 wt678 wt679 wt680
              refine X.aload_n 99 i205_98 rfl rfl rfl ?_
              refine X.getF 102 i205_99 rfl rfl (by decide) rfl rfl ?_
              refine X.iconst 103 i205_102 rfl rfl (by decide) ?_
              refine X.lald 104 i205_103 rfl rfl (by decide) rfl (by omega) ?_
              refine X.aload_n 105 i205_104 rfl rfl rfl ?_
              refine X.getF 108 i205_105 rfl rfl (by decide) rfl rfl ?_
              refine X.iconst 109 i205_108 rfl rfl (by decide) ?_
              refine X.lald 110 i205_109 rfl rfl (by decide) rfl (by omega) ?_
              refine X.aload_n 111 i205_110 rfl rfl rfl ?_
              refine X.getF 114 i205_111 rfl rfl (by decide) rfl rfl ?_
              refine X.iconst 115 i205_114 rfl rfl (by decide) ?_
              refine X.lald 116 i205_115 rfl rfl (by decide) rfl (by omega) ?_
              have hz689 := z_mulr (a := 1) (b := 3) (c := 4) (e := 16) (x := (m682 4 45 1)) (y := (m682 4 45 2)) (by omega) (by omega)
              refine X.lmul 117 i205_116 rfl rfl (z_in3 hz689 (by decide) (by decide)) ?_
              obtain ⟨z689, ez689⟩ : ∃ z, z = ((m682 4 45 1) * (m682 4 45 2)) := ⟨_, rfl⟩
              rw [← ez689] at hz689 ⊢
              have gz689 : 4 ≤ z689 ∧ z689 ≤ 48 := z_in3 hz689 (by decide) (by decide)
              clear hz689
              have ppz689 : z689 = (m 4 45 1) * (m 4 45 2) := by rw [ez689, wt687, wt688]
              refine X.lcmp 118 i205_117 rfl rfl (fun z690 hz690 => ?_)
              refine X.ifge 129 121 i205_118 rfl rfl rfl (fun h691 => ?_) (fun h691 => ?_)
              · have h691c : (m682 4 45 3) ≥ z689 := by omega
                clear h691 hz690
                refine X.cut [(0, zr 4 44)] i205_129 rfl ?_
                refine X.aload_n 130 i205_129 rfl rfl rfl ?_
                refine X.getF 133 i205_130 rfl rfl (by decide) rfl rfl ?_
                refine X.iconst 134 i205_133 rfl rfl (by decide) ?_
                refine X.lconst (y := 0) 135 i205_134 rfl rfl rfl ?_
                refine X.last' 136 i205_135 rfl rfl (by decide) rfl (by omega) (fun hrm692 m692 hm692 => ?_)
                have hJ693 := w45_3 (x := 0) hJ675 (show m692 = z_upd m674 4 45 3 0 by rw [hm692, hm682]; exact z_upd_upd _ _ _ _ _ _) (by omega) hs0
                have wt694 : m692 4 45 3 = 0 := by rw [hm692]; exact z_upd_same _ _ _ _ _
                have wt695 : m692 4 45 0 = (m 4 45 0) := Eq.trans (by rw [hm692]; exact z_upd_o _ _ rfl) wt685
                have wt696 : m692 4 45 13 = (m 4 45 13) := Eq.trans (by rw [hm692]; exact z_upd_o _ _ rfl) wt686
                have wt697 : m692 4 45 1 = (m 4 45 1) := Eq.trans (by rw [hm692]; exact z_upd_o _ _ rfl) wt687
                have wt698 : m692 4 45 2 = (m 4 45 2) := Eq.trans (by rw [hm692]; exact z_upd_o _ _ rfl) wt688
                clear wt685 wt686
                refine X.iconst 137 i205_136 rfl rfl (by decide) ?_
                refine X.istore 139 [(0, zr 4 44), (4, zi 0)] i205_137 rfl rfl rfl ?_
                refine l205_139_1 (s := s) (S := (zfr [] S)) (m0 := m692) (d := d)   (BE := B + 0) (by omega) (by omega) (fun  m699 B700 hJ701 hBB700 => ?_) ((96 - 0 : Int).toNat + 1) 0 m692 (B) (hJ693.ow.up (by omega)) (by omega)  (by omega) (by omega)
                have hJ702 := hJ693.trans hJ701 zi_n
                have wt703 : m699 4 45 3 = 0 := Eq.trans (hJ701.eq rfl rfl) wt694
                have wt704 : m699 4 45 0 = (m 4 45 0) := Eq.trans (hJ701.eq rfl rfl) wt695
                have wt705 : m699 4 45 13 = (m 4 45 13) := Eq.trans (hJ701.eq rfl rfl) wt696
                have wt706 : m699 4 45 1 = (m 4 45 1) := Eq.trans (hJ701.eq rfl rfl) wt697
                have wt707 : m699 4 45 2 = (m 4 45 2) := Eq.trans (hJ701.eq rfl rfl) wt698
                refine X.aload_n 174 i205_173 rfl rfl rfl ?_
                refine X.callv 177 [] [] [(0, zr 4 44)] i205_174 rfl (by decide) rfl rfl (by omega) rfl rfl (by decide) rfl t208 (Nat.le_of_ble_eq_true rfl) (Nat.le_of_ble_eq_true rfl) rfl ?_
                refine c208_1 (S := zfr [(4, 45, 0), (4, 45, 13)] S) (m0 := m699) (B := B700)   (by omega) (hJ702.ow.up (by omega)) (by omega) zm_z (zm_s zm_z) (fun m708 hJ709 hqv7100 => ?_)
                have hJ711 := hJ702.trans hJ709 (zi_c hs1 (zi_c hs2 zi_n))
                have wt712 : m708 4 45 3 = 0 := Eq.trans (hJ709.eq rfl rfl) wt703
                have wt713 : m708 4 45 1 = (m 4 45 1) := Eq.trans (hJ709.eq rfl rfl) wt706
                have wt714 : m708 4 45 2 = (m 4 45 2) := Eq.trans (hJ709.eq rfl rfl) wt707
                show X (EE s) d 205 177 [(0, zr 4 44)] [] m708 _
                refine X.iconst 178 i205_177 rfl rfl (by decide) ?_
                refine X.reti i205_178 rfl t205 ?_
                exact hQ 0 m708 (by first | trivial | omega) (hJ711.up (by omega)) (by first | exact (.inl ⟨by omega, by omega, by omega, by omega, by omega⟩) | exact (.inr (.inl ⟨by omega, by omega, by omega, by omega, by omega, by omega, by omega, by omega, by omega⟩)) | exact (.inr (.inr ⟨by omega, by omega, by omega, by omega, by omega, by omega, by omega, by omega, by omega⟩)))
              · have h691c : (m682 4 45 3) < z689 := by omega
                clear h691 hz690
                refine X.aload_n 122 i205_121 rfl rfl rfl ?_
                refine X.getF 125 i205_122 rfl rfl (by decide) rfl rfl ?_
                refine X.iconst 126 i205_125 rfl rfl (by decide) ?_
                refine X.lald 127 i205_126 rfl rfl (by decide) rfl (by omega) ?_
                refine X.l2i 128 i205_127 rfl rfl (by omega) ?_
                have hJ715 := w45_3 hJ675 hm682 (by omega) hs0
                refine X.reti i205_128 rfl t205 ?_
                exact hQ (m682 4 45 3) m682 (by first | trivial | omega) (hJ715.up (by omega)) (by first | exact (.inl ⟨by omega, by omega, by omega, by omega, by omega⟩) | exact (.inr (.inl ⟨by omega, by omega, by omega, by omega, by omega, by omega, by omega, by omega, by omega⟩)) | exact (.inr (.inr ⟨by omega, by omega, by omega, by omega, by omega, by omega, by omega, by omega, by omega⟩)))
            · have h716 : (m663 4 45 1) = 2 := by omega
              rw [h716]
              clear h716
              refine X.irem 76 i205_75 rfl rfl (by omega) ?_
              refine X.iload_n 77 i205_76 rfl rfl rfl ?_
              refine X.aload_n 78 i205_77 rfl rfl rfl ?_
              refine X.callv 81 [] [zi (m 4 45 3), zi ((m 4 45 3) % 2), zi 239, zr 4 45] [(0, zr 4 44)] i205_78 rfl (by decide) rfl rfl (by omega) rfl rfl (by decide) rfl t206 (Nat.le_of_ble_eq_true rfl) (Nat.le_of_ble_eq_true rfl) rfl ?_
              refine X.aload_n 1 i206_0 rfl rfl rfl ?_
              refine X.getF 4 i206_1 rfl rfl (by decide) rfl rfl ?_
              refine X.iconst 5 i206_4 rfl rfl (by decide) ?_
              refine X.lald 6 i206_5 rfl rfl (by decide) rfl (by omega) ?_
              refine X.l2i 7 i206_6 rfl rfl (by omega) ?_
              refine X.reti i206_7 rfl t206 ?_
              show X (EE s) d 205 81 [(0, zr 4 44), (1, zi a1), (2, zi a2), (3, zi (m 4 45 3))] [zi (m663 4 45 1), zi (m 4 45 3), zi ((m 4 45 3) % 2), zi 239, zr 4 45] m663 _
              have h717 : (m663 4 45 1) = 2 := by omega
              rw [h717]
              clear h717
              refine X.idiv 82 i205_81 rfl rfl (by omega) ?_
              refine X.calls 85 [zi 239, zi ((m 4 45 3) % 2), zi ((m 4 45 3) / 2)] [zr 4 45] [(0, zi 239), (1, zi ((m 4 45 3) % 2)), (2, zi ((m 4 45 3) / 2))] i205_82 (by decide) rfl rfl (by omega) rfl rfl t207 (Nat.le_of_ble_eq_true rfl) (Nat.le_of_ble_eq_true rfl) rfl ?_
              refine X.iload_n 1 i207_0 rfl rfl rfl ?_
              refine X.bipush 3 i207_1 rfl rfl (by decide) ?_
              refine X.iload_n 4 i207_3 rfl rfl rfl ?_
              refine X.imul 5 i207_4 rfl rfl (by omega) ?_
              refine X.iadd 6 i207_5 rfl rfl (by omega) ?_
              refine X.iload_n 7 i207_6 rfl rfl rfl ?_
              refine X.iadd 8 i207_7 rfl rfl (by omega) ?_
              refine X.reti i207_8 rfl t207 ?_
              show X (EE s) d 205 85 [(0, zr 4 44), (1, zi a1), (2, zi a2), (3, zi (m 4 45 3))] [zi ((239 + (16 * ((m 4 45 3) % 2))) + ((m 4 45 3) / 2)), zr 4 45] m663 _
              refine X.iload_n 86 i205_85 rfl rfl rfl ?_
              refine X.i2l 87 i205_86 rfl rfl ?_
              refine X.last' 88 i205_87 rfl rfl (by decide) rfl (by omega) (fun hrm718 m718 hm718 => ?_)
              have hJ719 := w45_19 hJ664 hm718 (by omega) hrm718
              have wt720 : m718 4 45 3 = (m 4 45 3) := Eq.trans (by rw [hm718]; exact z_upd_i _ _ _ _ (by omega)) wt665
              have wt721 : m718 4 45 0 = (m 4 45 0) := Eq.trans (by rw [hm718]; exact z_upd_i _ _ _ _ (by omega)) wt666
              have wt722 : m718 4 45 13 = (m 4 45 13) := Eq.trans (by rw [hm718]; exact z_upd_i _ _ _ _ (by omega)) wt667
              have wt723 : m718 4 45 1 = (m 4 45 1) := Eq.trans (by rw [hm718]; exact z_upd_i _ _ _ _ (by omega)) wt668
              have wt724 : m718 4 45 2 = (m 4 45 2) := Eq.trans (by rw [hm718]; exact z_upd_i _ _ _ _ (by omega)) wt669
              clear wt665 wt666 wt667 wt669
              refine X.aload_n 89 i205_88 rfl rfl rfl ?_
              refine X.getF 92 i205_89 rfl rfl (by decide) rfl rfl ?_
              refine X.iconst 93 i205_92 rfl rfl (by decide) ?_
              refine X.dup2 94 i205_93 rfl rfl ?_
              refine X.lald 95 i205_94 rfl rfl (by decide) rfl (by omega) ?_
              have h725 := r45_3 hJ719 4
              refine X.lconst (y := 1) 96 i205_95 rfl rfl rfl ?_
              refine X.ladd 97 i205_96 rfl rfl (by omega) ?_
              refine X.last' 98 i205_97 rfl rfl (by decide) rfl (by omega) (fun hrm726 m726 hm726 => ?_)
              have em726 : m726 4 45 3 = ((m718 4 45 3) + 1) := by rw [hm726]; exact z_upd_same _ _ _ _ _
              have qm7261 : m726 4 45 1 = m718 4 45 1 := by rw [hm726]; exact z_upd_o _ _ rfl
              have qqm7261 := r45_1 hJ719 4
              have qm7262 : m726 4 45 2 = m718 4 45 2 := by rw [hm726]; exact z_upd_o _ _ rfl
              have qqm7262 := r45_2 hJ719 4
              have wt728 : m726 4 45 3 = ((m718 4 45 3) + 1) := by rw [hm726]; exact z_upd_same _ _ _ _ _
              have wt729 : m726 4 45 0 = (m 4 45 0) := Eq.trans (by rw [hm726]; exact z_upd_o _ _ rfl) wt721
              have wt730 : m726 4 45 13 = (m 4 45 13) := Eq.trans (by rw [hm726]; exact z_upd_o _ _ rfl) wt722
              have wt731 : m726 4 45 1 = (m 4 45 1) := Eq.trans (by rw [hm726]; exact z_upd_o _ _ rfl) wt723
              have wt732 : m726 4 45 2 = (m 4 45 2) := Eq.trans (by rw [hm726]; exact z_upd_o _ _ rfl) wt724
              clear wt721 wt722 wt723 wt724
              refine X.aload_n 99 i205_98 rfl rfl rfl ?_
              refine X.getF 102 i205_99 rfl rfl (by decide) rfl rfl ?_
              refine X.iconst 103 i205_102 rfl rfl (by decide) ?_
              refine X.lald 104 i205_103 rfl rfl (by decide) rfl (by omega) ?_
              refine X.aload_n 105 i205_104 rfl rfl rfl ?_
              refine X.getF 108 i205_105 rfl rfl (by decide) rfl rfl ?_
              refine X.iconst 109 i205_108 rfl rfl (by decide) ?_
              refine X.lald 110 i205_109 rfl rfl (by decide) rfl (by omega) ?_
              refine X.aload_n 111 i205_110 rfl rfl rfl ?_
              refine X.getF 114 i205_111 rfl rfl (by decide) rfl rfl ?_
              refine X.iconst 115 i205_114 rfl rfl (by decide) ?_
              refine X.lald 116 i205_115 rfl rfl (by decide) rfl (by omega) ?_
              have hz733 := z_mulr (a := 1) (b := 3) (c := 4) (e := 16) (x := (m726 4 45 1)) (y := (m726 4 45 2)) (by omega) (by omega)
              refine X.lmul 117 i205_116 rfl rfl (z_in3 hz733 (by decide) (by decide)) ?_
              obtain ⟨z733, ez733⟩ : ∃ z, z = ((m726 4 45 1) * (m726 4 45 2)) := ⟨_, rfl⟩
              rw [← ez733] at hz733 ⊢
              have gz733 : 4 ≤ z733 ∧ z733 ≤ 48 := z_in3 hz733 (by decide) (by decide)
              clear hz733
              have ppz733 : z733 = (m 4 45 1) * (m 4 45 2) := by rw [ez733, wt731, wt732]
              refine X.lcmp 118 i205_117 rfl rfl (fun z734 hz734 => ?_)
              refine X.ifge 129 121 i205_118 rfl rfl rfl (fun h735 => ?_) (fun h735 => ?_)
              · have h735c : (m726 4 45 3) ≥ z733 := by omega
                clear h735 hz734
                refine X.cut [(0, zr 4 44)] i205_129 rfl ?_
                refine X.aload_n 130 i205_129 rfl rfl rfl ?_
                refine X.getF 133 i205_130 rfl rfl (by decide) rfl rfl ?_
                refine X.iconst 134 i205_133 rfl rfl (by decide) ?_
                refine X.lconst (y := 0) 135 i205_134 rfl rfl rfl ?_
                refine X.last' 136 i205_135 rfl rfl (by decide) rfl (by omega) (fun hrm736 m736 hm736 => ?_)
                have hJ737 := w45_3 (x := 0) hJ719 (show m736 = z_upd m718 4 45 3 0 by rw [hm736, hm726]; exact z_upd_upd _ _ _ _ _ _) (by omega) hs0
                have wt738 : m736 4 45 3 = 0 := by rw [hm736]; exact z_upd_same _ _ _ _ _
                have wt739 : m736 4 45 0 = (m 4 45 0) := Eq.trans (by rw [hm736]; exact z_upd_o _ _ rfl) wt729
                have wt740 : m736 4 45 13 = (m 4 45 13) := Eq.trans (by rw [hm736]; exact z_upd_o _ _ rfl) wt730
                have wt741 : m736 4 45 1 = (m 4 45 1) := Eq.trans (by rw [hm736]; exact z_upd_o _ _ rfl) wt731
                have wt742 : m736 4 45 2 = (m 4 45 2) := Eq.trans (by rw [hm736]; exact z_upd_o _ _ rfl) wt732
                clear wt729 wt730
                refine X.iconst 137 i205_136 rfl rfl (by decide) ?_
                refine X.istore 139 [(0, zr 4 44), (4, zi 0)] i205_137 rfl rfl rfl ?_
                refine l205_139_1 (s := s) (S := (zfr [] S)) (m0 := m736) (d := d)   (BE := B + 0) (by omega) (by omega) (fun  m743 B744 hJ745 hBB744 => ?_) ((96 - 0 : Int).toNat + 1) 0 m736 (B) (hJ737.ow.up (by omega)) (by omega)  (by omega) (by omega)
                have hJ746 := hJ737.trans hJ745 zi_n
                have wt747 : m743 4 45 3 = 0 := Eq.trans (hJ745.eq rfl rfl) wt738
                have wt748 : m743 4 45 0 = (m 4 45 0) := Eq.trans (hJ745.eq rfl rfl) wt739
                have wt749 : m743 4 45 13 = (m 4 45 13) := Eq.trans (hJ745.eq rfl rfl) wt740
                have wt750 : m743 4 45 1 = (m 4 45 1) := Eq.trans (hJ745.eq rfl rfl) wt741
                have wt751 : m743 4 45 2 = (m 4 45 2) := Eq.trans (hJ745.eq rfl rfl) wt742
                refine X.aload_n 174 i205_173 rfl rfl rfl ?_
                refine X.callv 177 [] [] [(0, zr 4 44)] i205_174 rfl (by decide) rfl rfl (by omega) rfl rfl (by decide) rfl t208 (Nat.le_of_ble_eq_true rfl) (Nat.le_of_ble_eq_true rfl) rfl ?_
                refine c208_1 (S := zfr [(4, 45, 0), (4, 45, 13)] S) (m0 := m743) (B := B744)   (by omega) (hJ746.ow.up (by omega)) (by omega) zm_z (zm_s zm_z) (fun m752 hJ753 hqv7540 => ?_)
                have hJ755 := hJ746.trans hJ753 (zi_c hs1 (zi_c hs2 zi_n))
                have wt756 : m752 4 45 3 = 0 := Eq.trans (hJ753.eq rfl rfl) wt747
                have wt757 : m752 4 45 1 = (m 4 45 1) := Eq.trans (hJ753.eq rfl rfl) wt750
                have wt758 : m752 4 45 2 = (m 4 45 2) := Eq.trans (hJ753.eq rfl rfl) wt751
                show X (EE s) d 205 177 [(0, zr 4 44)] [] m752 _
                refine X.iconst 178 i205_177 rfl rfl (by decide) ?_
                refine X.reti i205_178 rfl t205 ?_
                exact hQ 0 m752 (by first | trivial | omega) (hJ755.up (by omega)) (by first | exact (.inl ⟨by omega, by omega, by omega, by omega, by omega⟩) | exact (.inr (.inl ⟨by omega, by omega, by omega, by omega, by omega, by omega, by omega, by omega, by omega⟩)) | exact (.inr (.inr ⟨by omega, by omega, by omega, by omega, by omega, by omega, by omega, by omega, by omega⟩)))
              · have h735c : (m726 4 45 3) < z733 := by omega
                clear h735 hz734
                refine X.aload_n 122 i205_121 rfl rfl rfl ?_
                refine X.getF 125 i205_122 rfl rfl (by decide) rfl rfl ?_
                refine X.iconst 126 i205_125 rfl rfl (by decide) ?_
                refine X.lald 127 i205_126 rfl rfl (by decide) rfl (by omega) ?_
                refine X.l2i 128 i205_127 rfl rfl (by omega) ?_
                have hJ759 := w45_3 hJ719 hm726 (by omega) hs0
                refine X.reti i205_128 rfl t205 ?_
                exact hQ (m726 4 45 3) m726 (by first | trivial | omega) (hJ759.up (by omega)) (by first | exact (.inl ⟨by omega, by omega, by omega, by omega, by omega⟩) | exact (.inr (.inl ⟨by omega, by omega, by omega, by omega, by omega, by omega, by omega, by omega, by omega⟩)) | exact (.inr (.inr ⟨by omega, by omega, by omega, by omega, by omega, by omega, by omega, by omega, by omega⟩)))
            · have h760 : (m663 4 45 1) = 3 := by omega
              rw [h760]
              clear h760
              refine X.irem 76 i205_75 rfl rfl (by omega) ?_
              refine X.iload_n 77 i205_76 rfl rfl rfl ?_
              refine X.aload_n 78 i205_77 rfl rfl rfl ?_
              refine X.callv 81 [] [zi (m 4 45 3), zi ((m 4 45 3) % 3), zi 239, zr 4 45] [(0, zr 4 44)] i205_78 rfl (by decide) rfl rfl (by omega) rfl rfl (by decide) rfl t206 (Nat.le_of_ble_eq_true rfl) (Nat.le_of_ble_eq_true rfl) rfl ?_
              refine X.aload_n 1 i206_0 rfl rfl rfl ?_
              refine X.getF 4 i206_1 rfl rfl (by decide) rfl rfl ?_
              refine X.iconst 5 i206_4 rfl rfl (by decide) ?_
              refine X.lald 6 i206_5 rfl rfl (by decide) rfl (by omega) ?_
              refine X.l2i 7 i206_6 rfl rfl (by omega) ?_
              refine X.reti i206_7 rfl t206 ?_
              show X (EE s) d 205 81 [(0, zr 4 44), (1, zi a1), (2, zi a2), (3, zi (m 4 45 3))] [zi (m663 4 45 1), zi (m 4 45 3), zi ((m 4 45 3) % 3), zi 239, zr 4 45] m663 _
              have h761 : (m663 4 45 1) = 3 := by omega
              rw [h761]
              clear h761
              refine X.idiv 82 i205_81 rfl rfl (by omega) ?_
              refine X.calls 85 [zi 239, zi ((m 4 45 3) % 3), zi ((m 4 45 3) / 3)] [zr 4 45] [(0, zi 239), (1, zi ((m 4 45 3) % 3)), (2, zi ((m 4 45 3) / 3))] i205_82 (by decide) rfl rfl (by omega) rfl rfl t207 (Nat.le_of_ble_eq_true rfl) (Nat.le_of_ble_eq_true rfl) rfl ?_
              refine X.iload_n 1 i207_0 rfl rfl rfl ?_
              refine X.bipush 3 i207_1 rfl rfl (by decide) ?_
              refine X.iload_n 4 i207_3 rfl rfl rfl ?_
              refine X.imul 5 i207_4 rfl rfl (by omega) ?_
              refine X.iadd 6 i207_5 rfl rfl (by omega) ?_
              refine X.iload_n 7 i207_6 rfl rfl rfl ?_
              refine X.iadd 8 i207_7 rfl rfl (by omega) ?_
              refine X.reti i207_8 rfl t207 ?_
              show X (EE s) d 205 85 [(0, zr 4 44), (1, zi a1), (2, zi a2), (3, zi (m 4 45 3))] [zi ((239 + (16 * ((m 4 45 3) % 3))) + ((m 4 45 3) / 3)), zr 4 45] m663 _
              refine X.iload_n 86 i205_85 rfl rfl rfl ?_
              refine X.i2l 87 i205_86 rfl rfl ?_
              refine X.last' 88 i205_87 rfl rfl (by decide) rfl (by omega) (fun hrm762 m762 hm762 => ?_)
              have hJ763 := w45_19 hJ664 hm762 (by omega) hrm762
              have wt764 : m762 4 45 3 = (m 4 45 3) := Eq.trans (by rw [hm762]; exact z_upd_i _ _ _ _ (by omega)) wt665
              have wt765 : m762 4 45 0 = (m 4 45 0) := Eq.trans (by rw [hm762]; exact z_upd_i _ _ _ _ (by omega)) wt666
              have wt766 : m762 4 45 13 = (m 4 45 13) := Eq.trans (by rw [hm762]; exact z_upd_i _ _ _ _ (by omega)) wt667
              have wt767 : m762 4 45 1 = (m 4 45 1) := Eq.trans (by rw [hm762]; exact z_upd_i _ _ _ _ (by omega)) wt668
              have wt768 : m762 4 45 2 = (m 4 45 2) := Eq.trans (by rw [hm762]; exact z_upd_i _ _ _ _ (by omega)) wt669
              clear wt665 wt666 wt667 wt669
              refine X.aload_n 89 i205_88 rfl rfl rfl ?_
              refine X.getF 92 i205_89 rfl rfl (by decide) rfl rfl ?_
              refine X.iconst 93 i205_92 rfl rfl (by decide) ?_
              refine X.dup2 94 i205_93 rfl rfl ?_
              refine X.lald 95 i205_94 rfl rfl (by decide) rfl (by omega) ?_
              have h769 := r45_3 hJ763 4
              refine X.lconst (y := 1) 96 i205_95 rfl rfl rfl ?_
              refine X.ladd 97 i205_96 rfl rfl (by omega) ?_
              refine X.last' 98 i205_97 rfl rfl (by decide) rfl (by omega) (fun hrm770 m770 hm770 => ?_)
              have em770 : m770 4 45 3 = ((m762 4 45 3) + 1) := by rw [hm770]; exact z_upd_same _ _ _ _ _
              have qm7701 : m770 4 45 1 = m762 4 45 1 := by rw [hm770]; exact z_upd_o _ _ rfl
              have qqm7701 := r45_1 hJ763 4
              have qm7702 : m770 4 45 2 = m762 4 45 2 := by rw [hm770]; exact z_upd_o _ _ rfl
              have qqm7702 := r45_2 hJ763 4
              have wt772 : m770 4 45 3 = ((m762 4 45 3) + 1) := by rw [hm770]; exact z_upd_same _ _ _ _ _
              have wt773 : m770 4 45 0 = (m 4 45 0) := Eq.trans (by rw [hm770]; exact z_upd_o _ _ rfl) wt765
              have wt774 : m770 4 45 13 = (m 4 45 13) := Eq.trans (by rw [hm770]; exact z_upd_o _ _ rfl) wt766
              have wt775 : m770 4 45 1 = (m 4 45 1) := Eq.trans (by rw [hm770]; exact z_upd_o _ _ rfl) wt767
              have wt776 : m770 4 45 2 = (m 4 45 2) := Eq.trans (by rw [hm770]; exact z_upd_o _ _ rfl) wt768
              clear wt765 wt766 wt767 wt768
              refine X.aload_n 99 i205_98 rfl rfl rfl ?_
              refine X.getF 102 i205_99 rfl rfl (by decide) rfl rfl ?_
              refine X.iconst 103 i205_102 rfl rfl (by decide) ?_
              refine X.lald 104 i205_103 rfl rfl (by decide) rfl (by omega) ?_
              refine X.aload_n 105 i205_104 rfl rfl rfl ?_
              refine X.getF 108 i205_105 rfl rfl (by decide) rfl rfl ?_
              refine X.iconst 109 i205_108 rfl rfl (by decide) ?_
              refine X.lald 110 i205_109 rfl rfl (by decide) rfl (by omega) ?_
              refine X.aload_n 111 i205_110 rfl rfl rfl ?_
              refine X.getF 114 i205_111 rfl rfl (by decide) rfl rfl ?_
              refine X.iconst 115 i205_114 rfl rfl (by decide) ?_
              refine X.lald 116 i205_115 rfl rfl (by decide) rfl (by omega) ?_
              have hz777 := z_mulr (a := 1) (b := 3) (c := 4) (e := 16) (x := (m770 4 45 1)) (y := (m770 4 45 2)) (by omega) (by omega)
              refine X.lmul 117 i205_116 rfl rfl (z_in3 hz777 (by decide) (by decide)) ?_
              obtain ⟨z777, ez777⟩ : ∃ z, z = ((m770 4 45 1) * (m770 4 45 2)) := ⟨_, rfl⟩
              rw [← ez777] at hz777 ⊢
              have gz777 : 4 ≤ z777 ∧ z777 ≤ 48 := z_in3 hz777 (by decide) (by decide)
              clear hz777
              have ppz777 : z777 = (m 4 45 1) * (m 4 45 2) := by rw [ez777, wt775, wt776]
              refine X.lcmp 118 i205_117 rfl rfl (fun z778 hz778 => ?_)
              refine X.ifge 129 121 i205_118 rfl rfl rfl (fun h779 => ?_) (fun h779 => ?_)
              · have h779c : (m770 4 45 3) ≥ z777 := by omega
                clear h779 hz778
                refine X.cut [(0, zr 4 44)] i205_129 rfl ?_
                refine X.aload_n 130 i205_129 rfl rfl rfl ?_
                refine X.getF 133 i205_130 rfl rfl (by decide) rfl rfl ?_
                refine X.iconst 134 i205_133 rfl rfl (by decide) ?_
                refine X.lconst (y := 0) 135 i205_134 rfl rfl rfl ?_
                refine X.last' 136 i205_135 rfl rfl (by decide) rfl (by omega) (fun hrm780 m780 hm780 => ?_)
                have hJ781 := w45_3 (x := 0) hJ763 (show m780 = z_upd m762 4 45 3 0 by rw [hm780, hm770]; exact z_upd_upd _ _ _ _ _ _) (by omega) hs0
                have wt782 : m780 4 45 3 = 0 := by rw [hm780]; exact z_upd_same _ _ _ _ _
                have wt783 : m780 4 45 0 = (m 4 45 0) := Eq.trans (by rw [hm780]; exact z_upd_o _ _ rfl) wt773
                have wt784 : m780 4 45 13 = (m 4 45 13) := Eq.trans (by rw [hm780]; exact z_upd_o _ _ rfl) wt774
                have wt785 : m780 4 45 1 = (m 4 45 1) := Eq.trans (by rw [hm780]; exact z_upd_o _ _ rfl) wt775
                have wt786 : m780 4 45 2 = (m 4 45 2) := Eq.trans (by rw [hm780]; exact z_upd_o _ _ rfl) wt776
                clear wt773 wt774
                refine X.iconst 137 i205_136 rfl rfl (by decide) ?_
                refine X.istore 139 [(0, zr 4 44), (4, zi 0)] i205_137 rfl rfl rfl ?_
                refine l205_139_1 (s := s) (S := (zfr [] S)) (m0 := m780) (d := d)   (BE := B + 0) (by omega) (by omega) (fun  m787 B788 hJ789 hBB788 => ?_) ((96 - 0 : Int).toNat + 1) 0 m780 (B) (hJ781.ow.up (by omega)) (by omega)  (by omega) (by omega)
                have hJ790 := hJ781.trans hJ789 zi_n
                have wt791 : m787 4 45 3 = 0 := Eq.trans (hJ789.eq rfl rfl) wt782
                have wt792 : m787 4 45 0 = (m 4 45 0) := Eq.trans (hJ789.eq rfl rfl) wt783
                have wt793 : m787 4 45 13 = (m 4 45 13) := Eq.trans (hJ789.eq rfl rfl) wt784
                have wt794 : m787 4 45 1 = (m 4 45 1) := Eq.trans (hJ789.eq rfl rfl) wt785
                have wt795 : m787 4 45 2 = (m 4 45 2) := Eq.trans (hJ789.eq rfl rfl) wt786
                refine X.aload_n 174 i205_173 rfl rfl rfl ?_
                refine X.callv 177 [] [] [(0, zr 4 44)] i205_174 rfl (by decide) rfl rfl (by omega) rfl rfl (by decide) rfl t208 (Nat.le_of_ble_eq_true rfl) (Nat.le_of_ble_eq_true rfl) rfl ?_
                refine c208_1 (S := zfr [(4, 45, 0), (4, 45, 13)] S) (m0 := m787) (B := B788)   (by omega) (hJ790.ow.up (by omega)) (by omega) zm_z (zm_s zm_z) (fun m796 hJ797 hqv7980 => ?_)
                have hJ799 := hJ790.trans hJ797 (zi_c hs1 (zi_c hs2 zi_n))
                have wt800 : m796 4 45 3 = 0 := Eq.trans (hJ797.eq rfl rfl) wt791
                have wt801 : m796 4 45 1 = (m 4 45 1) := Eq.trans (hJ797.eq rfl rfl) wt794
                have wt802 : m796 4 45 2 = (m 4 45 2) := Eq.trans (hJ797.eq rfl rfl) wt795
                show X (EE s) d 205 177 [(0, zr 4 44)] [] m796 _
                refine X.iconst 178 i205_177 rfl rfl (by decide) ?_
                refine X.reti i205_178 rfl t205 ?_
                exact hQ 0 m796 (by first | trivial | omega) (hJ799.up (by omega)) (by first | exact (.inl ⟨by omega, by omega, by omega, by omega, by omega⟩) | exact (.inr (.inl ⟨by omega, by omega, by omega, by omega, by omega, by omega, by omega, by omega, by omega⟩)) | exact (.inr (.inr ⟨by omega, by omega, by omega, by omega, by omega, by omega, by omega, by omega, by omega⟩)))
              · have h779c : (m770 4 45 3) < z777 := by omega
                clear h779 hz778
                refine X.aload_n 122 i205_121 rfl rfl rfl ?_
                refine X.getF 125 i205_122 rfl rfl (by decide) rfl rfl ?_
                refine X.iconst 126 i205_125 rfl rfl (by decide) ?_
                refine X.lald 127 i205_126 rfl rfl (by decide) rfl (by omega) ?_
                refine X.l2i 128 i205_127 rfl rfl (by omega) ?_
                have hJ803 := w45_3 hJ763 hm770 (by omega) hs0
                refine X.reti i205_128 rfl t205 ?_
                exact hQ (m770 4 45 3) m770 (by first | trivial | omega) (hJ803.up (by omega)) (by first | exact (.inl ⟨by omega, by omega, by omega, by omega, by omega⟩) | exact (.inr (.inl ⟨by omega, by omega, by omega, by omega, by omega, by omega, by omega, by omega, by omega⟩)) | exact (.inr (.inr ⟨by omega, by omega, by omega, by omega, by omega, by omega, by omega, by omega, by omega⟩)))
          · have h804 : (m 4 45 1) = 3 := by omega
            rw [h804]
            clear h804
            refine X.irem 51 i205_50 rfl rfl (by omega) ?_
            refine X.iload_n 52 i205_51 rfl rfl rfl ?_
            refine X.aload_n 53 i205_52 rfl rfl rfl ?_
            refine X.callv 56 [] [zi (m 4 45 3), zi ((m 4 45 3) % 3), zi 191, zr 4 45] [(0, zr 4 44)] i205_53 rfl (by decide) rfl rfl (by omega) rfl rfl (by decide) rfl t206 (Nat.le_of_ble_eq_true rfl) (Nat.le_of_ble_eq_true rfl) rfl ?_
            refine X.aload_n 1 i206_0 rfl rfl rfl ?_
            refine X.getF 4 i206_1 rfl rfl (by decide) rfl rfl ?_
            refine X.iconst 5 i206_4 rfl rfl (by decide) ?_
            refine X.lald 6 i206_5 rfl rfl (by decide) rfl (by omega) ?_
            refine X.l2i 7 i206_6 rfl rfl (by omega) ?_
            refine X.reti i206_7 rfl t206 ?_
            show X (EE s) d 205 56 [(0, zr 4 44), (1, zi a1), (2, zi a2), (3, zi (m 4 45 3))] [zi (m 4 45 1), zi (m 4 45 3), zi ((m 4 45 3) % 3), zi 191, zr 4 45] m _
            have h805 : (m 4 45 1) = 3 := by omega
            rw [h805]
            clear h805
            refine X.idiv 57 i205_56 rfl rfl (by omega) ?_
            refine X.calls 60 [zi 191, zi ((m 4 45 3) % 3), zi ((m 4 45 3) / 3)] [zr 4 45] [(0, zi 191), (1, zi ((m 4 45 3) % 3)), (2, zi ((m 4 45 3) / 3))] i205_57 (by decide) rfl rfl (by omega) rfl rfl t207 (Nat.le_of_ble_eq_true rfl) (Nat.le_of_ble_eq_true rfl) rfl ?_
            refine X.iload_n 1 i207_0 rfl rfl rfl ?_
            refine X.bipush 3 i207_1 rfl rfl (by decide) ?_
            refine X.iload_n 4 i207_3 rfl rfl rfl ?_
            refine X.imul 5 i207_4 rfl rfl (by omega) ?_
            refine X.iadd 6 i207_5 rfl rfl (by omega) ?_
            refine X.iload_n 7 i207_6 rfl rfl rfl ?_
            refine X.iadd 8 i207_7 rfl rfl (by omega) ?_
            refine X.reti i207_8 rfl t207 ?_
            show X (EE s) d 205 60 [(0, zr 4 44), (1, zi a1), (2, zi a2), (3, zi (m 4 45 3))] [zi ((191 + (16 * ((m 4 45 3) % 3))) + ((m 4 45 3) / 3)), zr 4 45] m _
            refine X.iload_n 61 i205_60 rfl rfl rfl ?_
            refine X.i2l 62 i205_61 rfl rfl ?_
            refine X.last' 63 i205_62 rfl rfl (by decide) rfl (by omega) (fun hrm806 m806 hm806 => ?_)
            have hJ807 := w45_19 hJ hm806 (by omega) hrm806
            have wt808 : m806 4 45 3 = (m 4 45 3) := by rw [hm806]; exact z_upd_i _ _ _ _ (by omega)
            have wt809 : m806 4 45 0 = (m 4 45 0) := by rw [hm806]; exact z_upd_i _ _ _ _ (by omega)
            have wt810 : m806 4 45 13 = (m 4 45 13) := by rw [hm806]; exact z_upd_i _ _ _ _ (by omega)
            have wt811 : m806 4 45 1 = (m 4 45 1) := by rw [hm806]; exact z_upd_i _ _ _ _ (by omega)
            have wt812 : m806 4 45 2 = (m 4 45 2) := by rw [hm806]; exact z_upd_i _ _ _ _ (by omega)
            refine X.aload_n 64 i205_63 rfl rfl rfl ?_
            refine X.getF 67 i205_64 rfl rfl (by decide) rfl rfl ?_
            refine X.sipush 70 i205_67 rfl rfl (by decide) ?_
            refine X.iload_n 71 i205_70 rfl rfl rfl ?_
            refine X.aload_n 72 i205_71 rfl rfl rfl ?_
            refine X.callv 75 [] [zi (m 4 45 3), zi 239, zr 4 45] [(0, zr 4 44)] i205_72 rfl (by decide) rfl rfl (by omega) rfl rfl (by decide) rfl t206 (Nat.le_of_ble_eq_true rfl) (Nat.le_of_ble_eq_true rfl) rfl ?_
            refine X.aload_n 1 i206_0 rfl rfl rfl ?_
            refine X.getF 4 i206_1 rfl rfl (by decide) rfl rfl ?_
            refine X.iconst 5 i206_4 rfl rfl (by decide) ?_
            refine X.lald 6 i206_5 rfl rfl (by decide) rfl (by omega) ?_
            have h813 := r45_1 hJ807 4
            refine X.l2i 7 i206_6 rfl rfl (by omega) ?_
            refine X.reti i206_7 rfl t206 ?_
            show X (EE s) d 205 75 [(0, zr 4 44), (1, zi a1), (2, zi a2), (3, zi (m 4 45 3))] [zi (m806 4 45 1), zi (m 4 45 3), zi 239, zr 4 45] m806 _
            rcases (show (m806 4 45 1) = 1 ∨ (m806 4 45 1) = 2 ∨ (m806 4 45 1) = 3 by omega) with h814 | h814 | h814
            · have h815 : (m806 4 45 1) = 1 := by omega
              rw [h815]
              clear h815
              refine X.irem 76 i205_75 rfl rfl (by omega) ?_
              refine X.iload_n 77 i205_76 rfl rfl rfl ?_
              refine X.aload_n 78 i205_77 rfl rfl rfl ?_
              refine X.callv 81 [] [zi (m 4 45 3), zi ((m 4 45 3) % 1), zi 239, zr 4 45] [(0, zr 4 44)] i205_78 rfl (by decide) rfl rfl (by omega) rfl rfl (by decide) rfl t206 (Nat.le_of_ble_eq_true rfl) (Nat.le_of_ble_eq_true rfl) rfl ?_
              refine X.aload_n 1 i206_0 rfl rfl rfl ?_
              refine X.getF 4 i206_1 rfl rfl (by decide) rfl rfl ?_
              refine X.iconst 5 i206_4 rfl rfl (by decide) ?_
              refine X.lald 6 i206_5 rfl rfl (by decide) rfl (by omega) ?_
              refine X.l2i 7 i206_6 rfl rfl (by omega) ?_
              refine X.reti i206_7 rfl t206 ?_
              show X (EE s) d 205 81 [(0, zr 4 44), (1, zi a1), (2, zi a2), (3, zi (m 4 45 3))] [zi (m806 4 45 1), zi (m 4 45 3), zi ((m 4 45 3) % 1), zi 239, zr 4 45] m806 _
              have h816 : (m806 4 45 1) = 1 := by omega
              rw [h816]
              clear h816
              refine X.idiv 82 i205_81 rfl rfl (by omega) ?_
              refine X.calls 85 [zi 239, zi ((m 4 45 3) % 1), zi ((m 4 45 3) / 1)] [zr 4 45] [(0, zi 239), (1, zi ((m 4 45 3) % 1)), (2, zi ((m 4 45 3) / 1))] i205_82 (by decide) rfl rfl (by omega) rfl rfl t207 (Nat.le_of_ble_eq_true rfl) (Nat.le_of_ble_eq_true rfl) rfl ?_
              refine X.iload_n 1 i207_0 rfl rfl rfl ?_
              refine X.bipush 3 i207_1 rfl rfl (by decide) ?_
              refine X.iload_n 4 i207_3 rfl rfl rfl ?_
              refine X.imul 5 i207_4 rfl rfl (by omega) ?_
              refine X.iadd 6 i207_5 rfl rfl (by omega) ?_
              refine X.iload_n 7 i207_6 rfl rfl rfl ?_
              refine X.iadd 8 i207_7 rfl rfl (by omega) ?_
              refine X.reti i207_8 rfl t207 ?_
              show X (EE s) d 205 85 [(0, zr 4 44), (1, zi a1), (2, zi a2), (3, zi (m 4 45 3))] [zi ((239 + (16 * ((m 4 45 3) % 1))) + ((m 4 45 3) / 1)), zr 4 45] m806 _
              refine X.iload_n 86 i205_85 rfl rfl rfl ?_
              refine X.i2l 87 i205_86 rfl rfl ?_
              refine X.last' 88 i205_87 rfl rfl (by decide) rfl (by omega) (fun hrm817 m817 hm817 => ?_)
              have hJ818 := w45_19 hJ807 hm817 (by omega) hrm817
              have wt819 : m817 4 45 3 = (m 4 45 3) := Eq.trans (by rw [hm817]; exact z_upd_i _ _ _ _ (by omega)) wt808
              have wt820 : m817 4 45 0 = (m 4 45 0) := Eq.trans (by rw [hm817]; exact z_upd_i _ _ _ _ (by omega)) wt809
              have wt821 : m817 4 45 13 = (m 4 45 13) := Eq.trans (by rw [hm817]; exact z_upd_i _ _ _ _ (by omega)) wt810
              have wt822 : m817 4 45 1 = (m 4 45 1) := Eq.trans (by rw [hm817]; exact z_upd_i _ _ _ _ (by omega)) wt811
              have wt823 : m817 4 45 2 = (m 4 45 2) := Eq.trans (by rw [hm817]; exact z_upd_i _ _ _ _ (by omega)) wt812
              clear wt808 wt809 wt810 wt812
              refine X.aload_n 89 i205_88 rfl rfl rfl ?_
              refine X.getF 92 i205_89 rfl rfl (by decide) rfl rfl ?_
              refine X.iconst 93 i205_92 rfl rfl (by decide) ?_
              refine X.dup2 94 i205_93 rfl rfl ?_
              refine X.lald 95 i205_94 rfl rfl (by decide) rfl (by omega) ?_
              have h824 := r45_3 hJ818 4
              refine X.lconst (y := 1) 96 i205_95 rfl rfl rfl ?_
              refine X.ladd 97 i205_96 rfl rfl (by omega) ?_
              refine X.last' 98 i205_97 rfl rfl (by decide) rfl (by omega) (fun hrm825 m825 hm825 => ?_)
              have em825 : m825 4 45 3 = ((m817 4 45 3) + 1) := by rw [hm825]; exact z_upd_same _ _ _ _ _
              have qm8251 : m825 4 45 1 = m817 4 45 1 := by rw [hm825]; exact z_upd_o _ _ rfl
              have qqm8251 := r45_1 hJ818 4
              have qm8252 : m825 4 45 2 = m817 4 45 2 := by rw [hm825]; exact z_upd_o _ _ rfl
              have qqm8252 := r45_2 hJ818 4
              have wt827 : m825 4 45 3 = ((m817 4 45 3) + 1) := by rw [hm825]; exact z_upd_same _ _ _ _ _
              have wt828 : m825 4 45 0 = (m 4 45 0) := Eq.trans (by rw [hm825]; exact z_upd_o _ _ rfl) wt820
              have wt829 : m825 4 45 13 = (m 4 45 13) := Eq.trans (by rw [hm825]; exact z_upd_o _ _ rfl) wt821
              have wt830 : m825 4 45 1 = (m 4 45 1) := Eq.trans (by rw [hm825]; exact z_upd_o _ _ rfl) wt822
              have wt831 : m825 4 45 2 = (m 4 45 2) := Eq.trans (by rw [hm825]; exact z_upd_o _ _ rfl) wt823
              clear wt820 wt821 wt822 wt823
              refine X.aload_n 99 i205_98 rfl rfl rfl ?_
              refine X.getF 102 i205_99 rfl rfl (by decide) rfl rfl ?_
              refine X.iconst 103 i205_102 rfl rfl (by decide) ?_
              refine X.lald 104 i205_103 rfl rfl (by decide) rfl (by omega) ?_
              refine X.aload_n 105 i205_104 rfl rfl rfl ?_
              refine X.getF 108 i205_105 rfl rfl (by decide) rfl rfl ?_
              refine X.iconst 109 i205_108 rfl rfl (by decide) ?_
              refine X.lald 110 i205_109 rfl rfl (by decide) rfl (by omega) ?_
              refine X.aload_n 111 i205_110 rfl rfl rfl ?_
              refine X.getF 114 i205_111 rfl rfl (by decide) rfl rfl ?_
              refine X.iconst 115 i205_114 rfl rfl (by decide) ?_
              refine X.lald 116 i205_115 rfl rfl (by decide) rfl (by omega) ?_
              have hz832 := z_mulr (a := 1) (b := 3) (c := 4) (e := 16) (x := (m825 4 45 1)) (y := (m825 4 45 2)) (by omega) (by omega)
              refine X.lmul 117 i205_116 rfl rfl (z_in3 hz832 (by decide) (by decide)) ?_
              obtain ⟨z832, ez832⟩ : ∃ z, z = ((m825 4 45 1) * (m825 4 45 2)) := ⟨_, rfl⟩
              rw [← ez832] at hz832 ⊢
              have gz832 : 4 ≤ z832 ∧ z832 ≤ 48 := z_in3 hz832 (by decide) (by decide)
              clear hz832
              have ppz832 : z832 = (m 4 45 1) * (m 4 45 2) := by rw [ez832, wt830, wt831]
              refine X.lcmp 118 i205_117 rfl rfl (fun z833 hz833 => ?_)
              refine X.ifge 129 121 i205_118 rfl rfl rfl (fun h834 => ?_) (fun h834 => ?_)
              · have h834c : (m825 4 45 3) ≥ z832 := by omega
                clear h834 hz833
                refine X.cut [(0, zr 4 44)] i205_129 rfl ?_
                refine X.aload_n 130 i205_129 rfl rfl rfl ?_
                refine X.getF 133 i205_130 rfl rfl (by decide) rfl rfl ?_
                refine X.iconst 134 i205_133 rfl rfl (by decide) ?_
                refine X.lconst (y := 0) 135 i205_134 rfl rfl rfl ?_
                refine X.last' 136 i205_135 rfl rfl (by decide) rfl (by omega) (fun hrm835 m835 hm835 => ?_)
                have hJ836 := w45_3 (x := 0) hJ818 (show m835 = z_upd m817 4 45 3 0 by rw [hm835, hm825]; exact z_upd_upd _ _ _ _ _ _) (by omega) hs0
                have wt837 : m835 4 45 3 = 0 := by rw [hm835]; exact z_upd_same _ _ _ _ _
                have wt838 : m835 4 45 0 = (m 4 45 0) := Eq.trans (by rw [hm835]; exact z_upd_o _ _ rfl) wt828
                have wt839 : m835 4 45 13 = (m 4 45 13) := Eq.trans (by rw [hm835]; exact z_upd_o _ _ rfl) wt829
                have wt840 : m835 4 45 1 = (m 4 45 1) := Eq.trans (by rw [hm835]; exact z_upd_o _ _ rfl) wt830
                have wt841 : m835 4 45 2 = (m 4 45 2) := Eq.trans (by rw [hm835]; exact z_upd_o _ _ rfl) wt831
                clear wt828 wt829
                refine X.iconst 137 i205_136 rfl rfl (by decide) ?_
                refine X.istore 139 [(0, zr 4 44), (4, zi 0)] i205_137 rfl rfl rfl ?_
                refine l205_139_1 (s := s) (S := (zfr [] S)) (m0 := m835) (d := d)   (BE := B + 0) (by omega) (by omega) (fun  m842 B843 hJ844 hBB843 => ?_) ((96 - 0 : Int).toNat + 1) 0 m835 (B) (hJ836.ow.up (by omega)) (by omega)  (by omega) (by omega)
                have hJ845 := hJ836.trans hJ844 zi_n
                have wt846 : m842 4 45 3 = 0 := Eq.trans (hJ844.eq rfl rfl) wt837
                have wt847 : m842 4 45 0 = (m 4 45 0) := Eq.trans (hJ844.eq rfl rfl) wt838
                have wt848 : m842 4 45 13 = (m 4 45 13) := Eq.trans (hJ844.eq rfl rfl) wt839
                have wt849 : m842 4 45 1 = (m 4 45 1) := Eq.trans (hJ844.eq rfl rfl) wt840
                have wt850 : m842 4 45 2 = (m 4 45 2) := Eq.trans (hJ844.eq rfl rfl) wt841
                refine X.aload_n 174 i205_173 rfl rfl rfl ?_
                refine X.callv 177 [] [] [(0, zr 4 44)] i205_174 rfl (by decide) rfl rfl (by omega) rfl rfl (by decide) rfl t208 (Nat.le_of_ble_eq_true rfl) (Nat.le_of_ble_eq_true rfl) rfl ?_
                refine c208_1 (S := zfr [(4, 45, 0), (4, 45, 13)] S) (m0 := m842) (B := B843)   (by omega) (hJ845.ow.up (by omega)) (by omega) zm_z (zm_s zm_z) (fun m851 hJ852 hqv8530 => ?_)
                have hJ854 := hJ845.trans hJ852 (zi_c hs1 (zi_c hs2 zi_n))
                have wt855 : m851 4 45 3 = 0 := Eq.trans (hJ852.eq rfl rfl) wt846
                have wt856 : m851 4 45 1 = (m 4 45 1) := Eq.trans (hJ852.eq rfl rfl) wt849
                have wt857 : m851 4 45 2 = (m 4 45 2) := Eq.trans (hJ852.eq rfl rfl) wt850
                show X (EE s) d 205 177 [(0, zr 4 44)] [] m851 _
                refine X.iconst 178 i205_177 rfl rfl (by decide) ?_
                refine X.reti i205_178 rfl t205 ?_
                exact hQ 0 m851 (by first | trivial | omega) (hJ854.up (by omega)) (by first | exact (.inl ⟨by omega, by omega, by omega, by omega, by omega⟩) | exact (.inr (.inl ⟨by omega, by omega, by omega, by omega, by omega, by omega, by omega, by omega, by omega⟩)) | exact (.inr (.inr ⟨by omega, by omega, by omega, by omega, by omega, by omega, by omega, by omega, by omega⟩)))
              · have h834c : (m825 4 45 3) < z832 := by omega
                clear h834 hz833
                refine X.aload_n 122 i205_121 rfl rfl rfl ?_
                refine X.getF 125 i205_122 rfl rfl (by decide) rfl rfl ?_
                refine X.iconst 126 i205_125 rfl rfl (by decide) ?_
                refine X.lald 127 i205_126 rfl rfl (by decide) rfl (by omega) ?_
                refine X.l2i 128 i205_127 rfl rfl (by omega) ?_
                have hJ858 := w45_3 hJ818 hm825 (by omega) hs0
                refine X.reti i205_128 rfl t205 ?_
                exact hQ (m825 4 45 3) m825 (by first | trivial | omega) (hJ858.up (by omega)) (by first | exact (.inl ⟨by omega, by omega, by omega, by omega, by omega⟩) | exact (.inr (.inl ⟨by omega, by omega, by omega, by omega, by omega, by omega, by omega, by omega, by omega⟩)) | exact (.inr (.inr ⟨by omega, by omega, by omega, by omega, by omega, by omega, by omega, by omega, by omega⟩)))
            · have h859 : (m806 4 45 1) = 2 := by omega
              rw [h859]
              clear h859
              refine X.irem 76 i205_75 rfl rfl (by omega) ?_
              refine X.iload_n 77 i205_76 rfl rfl rfl ?_
              refine X.aload_n 78 i205_77 rfl rfl rfl ?_
              refine X.callv 81 [] [zi (m 4 45 3), zi ((m 4 45 3) % 2), zi 239, zr 4 45] [(0, zr 4 44)] i205_78 rfl (by decide) rfl rfl (by omega) rfl rfl (by decide) rfl t206 (Nat.le_of_ble_eq_true rfl) (Nat.le_of_ble_eq_true rfl) rfl ?_
              refine X.aload_n 1 i206_0 rfl rfl rfl ?_
              refine X.getF 4 i206_1 rfl rfl (by decide) rfl rfl ?_
              refine X.iconst 5 i206_4 rfl rfl (by decide) ?_
              refine X.lald 6 i206_5 rfl rfl (by decide) rfl (by omega) ?_
              refine X.l2i 7 i206_6 rfl rfl (by omega) ?_
              refine X.reti i206_7 rfl t206 ?_
              show X (EE s) d 205 81 [(0, zr 4 44), (1, zi a1), (2, zi a2), (3, zi (m 4 45 3))] [zi (m806 4 45 1), zi (m 4 45 3), zi ((m 4 45 3) % 2), zi 239, zr 4 45] m806 _
              have h860 : (m806 4 45 1) = 2 := by omega
              rw [h860]
              clear h860
              refine X.idiv 82 i205_81 rfl rfl (by omega) ?_
              refine X.calls 85 [zi 239, zi ((m 4 45 3) % 2), zi ((m 4 45 3) / 2)] [zr 4 45] [(0, zi 239), (1, zi ((m 4 45 3) % 2)), (2, zi ((m 4 45 3) / 2))] i205_82 (by decide) rfl rfl (by omega) rfl rfl t207 (Nat.le_of_ble_eq_true rfl) (Nat.le_of_ble_eq_true rfl) rfl ?_
              refine X.iload_n 1 i207_0 rfl rfl rfl ?_
              refine X.bipush 3 i207_1 rfl rfl (by decide) ?_
              refine X.iload_n 4 i207_3 rfl rfl rfl ?_
              refine X.imul 5 i207_4 rfl rfl (by omega) ?_
              refine X.iadd 6 i207_5 rfl rfl (by omega) ?_
              refine X.iload_n 7 i207_6 rfl rfl rfl ?_
              refine X.iadd 8 i207_7 rfl rfl (by omega) ?_
              refine X.reti i207_8 rfl t207 ?_
              show X (EE s) d 205 85 [(0, zr 4 44), (1, zi a1), (2, zi a2), (3, zi (m 4 45 3))] [zi ((239 + (16 * ((m 4 45 3) % 2))) + ((m 4 45 3) / 2)), zr 4 45] m806 _
              refine X.iload_n 86 i205_85 rfl rfl rfl ?_
              refine X.i2l 87 i205_86 rfl rfl ?_
              refine X.last' 88 i205_87 rfl rfl (by decide) rfl (by omega) (fun hrm861 m861 hm861 => ?_)
              have hJ862 := w45_19 hJ807 hm861 (by omega) hrm861
              have wt863 : m861 4 45 3 = (m 4 45 3) := Eq.trans (by rw [hm861]; exact z_upd_i _ _ _ _ (by omega)) wt808
              have wt864 : m861 4 45 0 = (m 4 45 0) := Eq.trans (by rw [hm861]; exact z_upd_i _ _ _ _ (by omega)) wt809
              have wt865 : m861 4 45 13 = (m 4 45 13) := Eq.trans (by rw [hm861]; exact z_upd_i _ _ _ _ (by omega)) wt810
              have wt866 : m861 4 45 1 = (m 4 45 1) := Eq.trans (by rw [hm861]; exact z_upd_i _ _ _ _ (by omega)) wt811
              have wt867 : m861 4 45 2 = (m 4 45 2) := Eq.trans (by rw [hm861]; exact z_upd_i _ _ _ _ (by omega)) wt812
              clear wt808 wt809 wt810 wt812
              refine X.aload_n 89 i205_88 rfl rfl rfl ?_
              refine X.getF 92 i205_89 rfl rfl (by decide) rfl rfl ?_
              refine X.iconst 93 i205_92 rfl rfl (by decide) ?_
              refine X.dup2 94 i205_93 rfl rfl ?_
              refine X.lald 95 i205_94 rfl rfl (by decide) rfl (by omega) ?_
              have h868 := r45_3 hJ862 4
              refine X.lconst (y := 1) 96 i205_95 rfl rfl rfl ?_
              refine X.ladd 97 i205_96 rfl rfl (by omega) ?_
              refine X.last' 98 i205_97 rfl rfl (by decide) rfl (by omega) (fun hrm869 m869 hm869 => ?_)
              have em869 : m869 4 45 3 = ((m861 4 45 3) + 1) := by rw [hm869]; exact z_upd_same _ _ _ _ _
              have qm8691 : m869 4 45 1 = m861 4 45 1 := by rw [hm869]; exact z_upd_o _ _ rfl
              have qqm8691 := r45_1 hJ862 4
              have qm8692 : m869 4 45 2 = m861 4 45 2 := by rw [hm869]; exact z_upd_o _ _ rfl
              have qqm8692 := r45_2 hJ862 4
              have wt871 : m869 4 45 3 = ((m861 4 45 3) + 1) := by rw [hm869]; exact z_upd_same _ _ _ _ _
              have wt872 : m869 4 45 0 = (m 4 45 0) := Eq.trans (by rw [hm869]; exact z_upd_o _ _ rfl) wt864
              have wt873 : m869 4 45 13 = (m 4 45 13) := Eq.trans (by rw [hm869]; exact z_upd_o _ _ rfl) wt865
              have wt874 : m869 4 45 1 = (m 4 45 1) := Eq.trans (by rw [hm869]; exact z_upd_o _ _ rfl) wt866
              have wt875 : m869 4 45 2 = (m 4 45 2) := Eq.trans (by rw [hm869]; exact z_upd_o _ _ rfl) wt867
              clear wt864 wt865 wt866 wt867
              refine X.aload_n 99 i205_98 rfl rfl rfl ?_
              refine X.getF 102 i205_99 rfl rfl (by decide) rfl rfl ?_
              refine X.iconst 103 i205_102 rfl rfl (by decide) ?_
              refine X.lald 104 i205_103 rfl rfl (by decide) rfl (by omega) ?_
              refine X.aload_n 105 i205_104 rfl rfl rfl ?_
              refine X.getF 108 i205_105 rfl rfl (by decide) rfl rfl ?_
              refine X.iconst 109 i205_108 rfl rfl (by decide) ?_
              refine X.lald 110 i205_109 rfl rfl (by decide) rfl (by omega) ?_
              refine X.aload_n 111 i205_110 rfl rfl rfl ?_
              refine X.getF 114 i205_111 rfl rfl (by decide) rfl rfl ?_
              refine X.iconst 115 i205_114 rfl rfl (by decide) ?_
              refine X.lald 116 i205_115 rfl rfl (by decide) rfl (by omega) ?_
              have hz876 := z_mulr (a := 1) (b := 3) (c := 4) (e := 16) (x := (m869 4 45 1)) (y := (m869 4 45 2)) (by omega) (by omega)
              refine X.lmul 117 i205_116 rfl rfl (z_in3 hz876 (by decide) (by decide)) ?_
              obtain ⟨z876, ez876⟩ : ∃ z, z = ((m869 4 45 1) * (m869 4 45 2)) := ⟨_, rfl⟩
              rw [← ez876] at hz876 ⊢
              have gz876 : 4 ≤ z876 ∧ z876 ≤ 48 := z_in3 hz876 (by decide) (by decide)
              clear hz876
              have ppz876 : z876 = (m 4 45 1) * (m 4 45 2) := by rw [ez876, wt874, wt875]
              refine X.lcmp 118 i205_117 rfl rfl (fun z877 hz877 => ?_)
              refine X.ifge 129 121 i205_118 rfl rfl rfl (fun h878 => ?_) (fun h878 => ?_)
              · have h878c : (m869 4 45 3) ≥ z876 := by omega
                clear h878 hz877
                refine X.cut [(0, zr 4 44)] i205_129 rfl ?_
                refine X.aload_n 130 i205_129 rfl rfl rfl ?_
                refine X.getF 133 i205_130 rfl rfl (by decide) rfl rfl ?_
                refine X.iconst 134 i205_133 rfl rfl (by decide) ?_
                refine X.lconst (y := 0) 135 i205_134 rfl rfl rfl ?_
                refine X.last' 136 i205_135 rfl rfl (by decide) rfl (by omega) (fun hrm879 m879 hm879 => ?_)
                have hJ880 := w45_3 (x := 0) hJ862 (show m879 = z_upd m861 4 45 3 0 by rw [hm879, hm869]; exact z_upd_upd _ _ _ _ _ _) (by omega) hs0
                have wt881 : m879 4 45 3 = 0 := by rw [hm879]; exact z_upd_same _ _ _ _ _
                have wt882 : m879 4 45 0 = (m 4 45 0) := Eq.trans (by rw [hm879]; exact z_upd_o _ _ rfl) wt872
                have wt883 : m879 4 45 13 = (m 4 45 13) := Eq.trans (by rw [hm879]; exact z_upd_o _ _ rfl) wt873
                have wt884 : m879 4 45 1 = (m 4 45 1) := Eq.trans (by rw [hm879]; exact z_upd_o _ _ rfl) wt874
                have wt885 : m879 4 45 2 = (m 4 45 2) := Eq.trans (by rw [hm879]; exact z_upd_o _ _ rfl) wt875
                clear wt872 wt873
                refine X.iconst 137 i205_136 rfl rfl (by decide) ?_
                refine X.istore 139 [(0, zr 4 44), (4, zi 0)] i205_137 rfl rfl rfl ?_
                refine l205_139_1 (s := s) (S := (zfr [] S)) (m0 := m879) (d := d)   (BE := B + 0) (by omega) (by omega) (fun  m886 B887 hJ888 hBB887 => ?_) ((96 - 0 : Int).toNat + 1) 0 m879 (B) (hJ880.ow.up (by omega)) (by omega)  (by omega) (by omega)
                have hJ889 := hJ880.trans hJ888 zi_n
                have wt890 : m886 4 45 3 = 0 := Eq.trans (hJ888.eq rfl rfl) wt881
                have wt891 : m886 4 45 0 = (m 4 45 0) := Eq.trans (hJ888.eq rfl rfl) wt882
                have wt892 : m886 4 45 13 = (m 4 45 13) := Eq.trans (hJ888.eq rfl rfl) wt883
                have wt893 : m886 4 45 1 = (m 4 45 1) := Eq.trans (hJ888.eq rfl rfl) wt884
                have wt894 : m886 4 45 2 = (m 4 45 2) := Eq.trans (hJ888.eq rfl rfl) wt885
                refine X.aload_n 174 i205_173 rfl rfl rfl ?_
                refine X.callv 177 [] [] [(0, zr 4 44)] i205_174 rfl (by decide) rfl rfl (by omega) rfl rfl (by decide) rfl t208 (Nat.le_of_ble_eq_true rfl) (Nat.le_of_ble_eq_true rfl) rfl ?_
                refine c208_1 (S := zfr [(4, 45, 0), (4, 45, 13)] S) (m0 := m886) (B := B887)   (by omega) (hJ889.ow.up (by omega)) (by omega) zm_z (zm_s zm_z) (fun m895 hJ896 hqv8970 => ?_)
                have hJ898 := hJ889.trans hJ896 (zi_c hs1 (zi_c hs2 zi_n))
                have wt899 : m895 4 45 3 = 0 := Eq.trans (hJ896.eq rfl rfl) wt890
                have wt900 : m895 4 45 1 = (m 4 45 1) := Eq.trans (hJ896.eq rfl rfl) wt893
                have wt901 : m895 4 45 2 = (m 4 45 2) := Eq.trans (hJ896.eq rfl rfl) wt894
                show X (EE s) d 205 177 [(0, zr 4 44)] [] m895 _
                refine X.iconst 178 i205_177 rfl rfl (by decide) ?_
                refine X.reti i205_178 rfl t205 ?_
                exact hQ 0 m895 (by first | trivial | omega) (hJ898.up (by omega)) (by first | exact (.inl ⟨by omega, by omega, by omega, by omega, by omega⟩) | exact (.inr (.inl ⟨by omega, by omega, by omega, by omega, by omega, by omega, by omega, by omega, by omega⟩)) | exact (.inr (.inr ⟨by omega, by omega, by omega, by omega, by omega, by omega, by omega, by omega, by omega⟩)))
              · have h878c : (m869 4 45 3) < z876 := by omega
                clear h878 hz877
                refine X.aload_n 122 i205_121 rfl rfl rfl ?_
                refine X.getF 125 i205_122 rfl rfl (by decide) rfl rfl ?_
                refine X.iconst 126 i205_125 rfl rfl (by decide) ?_
                refine X.lald 127 i205_126 rfl rfl (by decide) rfl (by omega) ?_
                refine X.l2i 128 i205_127 rfl rfl (by omega) ?_
                have hJ902 := w45_3 hJ862 hm869 (by omega) hs0
                refine X.reti i205_128 rfl t205 ?_
                exact hQ (m869 4 45 3) m869 (by first | trivial | omega) (hJ902.up (by omega)) (by first | exact (.inl ⟨by omega, by omega, by omega, by omega, by omega⟩) | exact (.inr (.inl ⟨by omega, by omega, by omega, by omega, by omega, by omega, by omega, by omega, by omega⟩)) | exact (.inr (.inr ⟨by omega, by omega, by omega, by omega, by omega, by omega, by omega, by omega, by omega⟩)))
            · have h903 : (m806 4 45 1) = 3 := by omega
              rw [h903]
              clear h903
              refine X.irem 76 i205_75 rfl rfl (by omega) ?_
              refine X.iload_n 77 i205_76 rfl rfl rfl ?_
              refine X.aload_n 78 i205_77 rfl rfl rfl ?_
              refine X.callv 81 [] [zi (m 4 45 3), zi ((m 4 45 3) % 3), zi 239, zr 4 45] [(0, zr 4 44)] i205_78 rfl (by decide) rfl rfl (by omega) rfl rfl (by decide) rfl t206 (Nat.le_of_ble_eq_true rfl) (Nat.le_of_ble_eq_true rfl) rfl ?_
              refine X.aload_n 1 i206_0 rfl rfl rfl ?_
              refine X.getF 4 i206_1 rfl rfl (by decide) rfl rfl ?_
              refine X.iconst 5 i206_4 rfl rfl (by decide) ?_
              refine X.lald 6 i206_5 rfl rfl (by decide) rfl (by omega) ?_
              refine X.l2i 7 i206_6 rfl rfl (by omega) ?_
              refine X.reti i206_7 rfl t206 ?_
              show X (EE s) d 205 81 [(0, zr 4 44), (1, zi a1), (2, zi a2), (3, zi (m 4 45 3))] [zi (m806 4 45 1), zi (m 4 45 3), zi ((m 4 45 3) % 3), zi 239, zr 4 45] m806 _
              have h904 : (m806 4 45 1) = 3 := by omega
              rw [h904]
              clear h904
              refine X.idiv 82 i205_81 rfl rfl (by omega) ?_
              refine X.calls 85 [zi 239, zi ((m 4 45 3) % 3), zi ((m 4 45 3) / 3)] [zr 4 45] [(0, zi 239), (1, zi ((m 4 45 3) % 3)), (2, zi ((m 4 45 3) / 3))] i205_82 (by decide) rfl rfl (by omega) rfl rfl t207 (Nat.le_of_ble_eq_true rfl) (Nat.le_of_ble_eq_true rfl) rfl ?_
              refine X.iload_n 1 i207_0 rfl rfl rfl ?_
              refine X.bipush 3 i207_1 rfl rfl (by decide) ?_
              refine X.iload_n 4 i207_3 rfl rfl rfl ?_
              refine X.imul 5 i207_4 rfl rfl (by omega) ?_
              refine X.iadd 6 i207_5 rfl rfl (by omega) ?_
              refine X.iload_n 7 i207_6 rfl rfl rfl ?_
              refine X.iadd 8 i207_7 rfl rfl (by omega) ?_
              refine X.reti i207_8 rfl t207 ?_
              show X (EE s) d 205 85 [(0, zr 4 44), (1, zi a1), (2, zi a2), (3, zi (m 4 45 3))] [zi ((239 + (16 * ((m 4 45 3) % 3))) + ((m 4 45 3) / 3)), zr 4 45] m806 _
              refine X.iload_n 86 i205_85 rfl rfl rfl ?_
              refine X.i2l 87 i205_86 rfl rfl ?_
              refine X.last' 88 i205_87 rfl rfl (by decide) rfl (by omega) (fun hrm905 m905 hm905 => ?_)
              have hJ906 := w45_19 hJ807 hm905 (by omega) hrm905
              have wt907 : m905 4 45 3 = (m 4 45 3) := Eq.trans (by rw [hm905]; exact z_upd_i _ _ _ _ (by omega)) wt808
              have wt908 : m905 4 45 0 = (m 4 45 0) := Eq.trans (by rw [hm905]; exact z_upd_i _ _ _ _ (by omega)) wt809
              have wt909 : m905 4 45 13 = (m 4 45 13) := Eq.trans (by rw [hm905]; exact z_upd_i _ _ _ _ (by omega)) wt810
              have wt910 : m905 4 45 1 = (m 4 45 1) := Eq.trans (by rw [hm905]; exact z_upd_i _ _ _ _ (by omega)) wt811
              have wt911 : m905 4 45 2 = (m 4 45 2) := Eq.trans (by rw [hm905]; exact z_upd_i _ _ _ _ (by omega)) wt812
              clear wt808 wt809 wt810 wt812
              refine X.aload_n 89 i205_88 rfl rfl rfl ?_
              refine X.getF 92 i205_89 rfl rfl (by decide) rfl rfl ?_
              refine X.iconst 93 i205_92 rfl rfl (by decide) ?_
              refine X.dup2 94 i205_93 rfl rfl ?_
              refine X.lald 95 i205_94 rfl rfl (by decide) rfl (by omega) ?_
              have h912 := r45_3 hJ906 4
              refine X.lconst (y := 1) 96 i205_95 rfl rfl rfl ?_
              refine X.ladd 97 i205_96 rfl rfl (by omega) ?_
              refine X.last' 98 i205_97 rfl rfl (by decide) rfl (by omega) (fun hrm913 m913 hm913 => ?_)
              have em913 : m913 4 45 3 = ((m905 4 45 3) + 1) := by rw [hm913]; exact z_upd_same _ _ _ _ _
              have qm9131 : m913 4 45 1 = m905 4 45 1 := by rw [hm913]; exact z_upd_o _ _ rfl
              have qqm9131 := r45_1 hJ906 4
              have qm9132 : m913 4 45 2 = m905 4 45 2 := by rw [hm913]; exact z_upd_o _ _ rfl
              have qqm9132 := r45_2 hJ906 4
              have wt915 : m913 4 45 3 = ((m905 4 45 3) + 1) := by rw [hm913]; exact z_upd_same _ _ _ _ _
              have wt916 : m913 4 45 0 = (m 4 45 0) := Eq.trans (by rw [hm913]; exact z_upd_o _ _ rfl) wt908
              have wt917 : m913 4 45 13 = (m 4 45 13) := Eq.trans (by rw [hm913]; exact z_upd_o _ _ rfl) wt909
              have wt918 : m913 4 45 1 = (m 4 45 1) := Eq.trans (by rw [hm913]; exact z_upd_o _ _ rfl) wt910
              have wt919 : m913 4 45 2 = (m 4 45 2) := Eq.trans (by rw [hm913]; exact z_upd_o _ _ rfl) wt911
              clear wt908 wt909 wt910 wt911
              refine X.aload_n 99 i205_98 rfl rfl rfl ?_
              refine X.getF 102 i205_99 rfl rfl (by decide) rfl rfl ?_
              refine X.iconst 103 i205_102 rfl rfl (by decide) ?_
              refine X.lald 104 i205_103 rfl rfl (by decide) rfl (by omega) ?_
              refine X.aload_n 105 i205_104 rfl rfl rfl ?_
              refine X.getF 108 i205_105 rfl rfl (by decide) rfl rfl ?_
              refine X.iconst 109 i205_108 rfl rfl (by decide) ?_
              refine X.lald 110 i205_109 rfl rfl (by decide) rfl (by omega) ?_
              refine X.aload_n 111 i205_110 rfl rfl rfl ?_
              refine X.getF 114 i205_111 rfl rfl (by decide) rfl rfl ?_
              refine X.iconst 115 i205_114 rfl rfl (by decide) ?_
              refine X.lald 116 i205_115 rfl rfl (by decide) rfl (by omega) ?_
              have hz920 := z_mulr (a := 1) (b := 3) (c := 4) (e := 16) (x := (m913 4 45 1)) (y := (m913 4 45 2)) (by omega) (by omega)
              refine X.lmul 117 i205_116 rfl rfl (z_in3 hz920 (by decide) (by decide)) ?_
              obtain ⟨z920, ez920⟩ : ∃ z, z = ((m913 4 45 1) * (m913 4 45 2)) := ⟨_, rfl⟩
              rw [← ez920] at hz920 ⊢
              have gz920 : 4 ≤ z920 ∧ z920 ≤ 48 := z_in3 hz920 (by decide) (by decide)
              clear hz920
              have ppz920 : z920 = (m 4 45 1) * (m 4 45 2) := by rw [ez920, wt918, wt919]
              refine X.lcmp 118 i205_117 rfl rfl (fun z921 hz921 => ?_)
              refine X.ifge 129 121 i205_118 rfl rfl rfl (fun h922 => ?_) (fun h922 => ?_)
              · have h922c : (m913 4 45 3) ≥ z920 := by omega
                clear h922 hz921
                refine X.cut [(0, zr 4 44)] i205_129 rfl ?_
                refine X.aload_n 130 i205_129 rfl rfl rfl ?_
                refine X.getF 133 i205_130 rfl rfl (by decide) rfl rfl ?_
                refine X.iconst 134 i205_133 rfl rfl (by decide) ?_
                refine X.lconst (y := 0) 135 i205_134 rfl rfl rfl ?_
                refine X.last' 136 i205_135 rfl rfl (by decide) rfl (by omega) (fun hrm923 m923 hm923 => ?_)
                have hJ924 := w45_3 (x := 0) hJ906 (show m923 = z_upd m905 4 45 3 0 by rw [hm923, hm913]; exact z_upd_upd _ _ _ _ _ _) (by omega) hs0
                have wt925 : m923 4 45 3 = 0 := by rw [hm923]; exact z_upd_same _ _ _ _ _
                have wt926 : m923 4 45 0 = (m 4 45 0) := Eq.trans (by rw [hm923]; exact z_upd_o _ _ rfl) wt916
                have wt927 : m923 4 45 13 = (m 4 45 13) := Eq.trans (by rw [hm923]; exact z_upd_o _ _ rfl) wt917
                have wt928 : m923 4 45 1 = (m 4 45 1) := Eq.trans (by rw [hm923]; exact z_upd_o _ _ rfl) wt918
                have wt929 : m923 4 45 2 = (m 4 45 2) := Eq.trans (by rw [hm923]; exact z_upd_o _ _ rfl) wt919
                clear wt916 wt917
                refine X.iconst 137 i205_136 rfl rfl (by decide) ?_
                refine X.istore 139 [(0, zr 4 44), (4, zi 0)] i205_137 rfl rfl rfl ?_
                refine l205_139_1 (s := s) (S := (zfr [] S)) (m0 := m923) (d := d)   (BE := B + 0) (by omega) (by omega) (fun  m930 B931 hJ932 hBB931 => ?_) ((96 - 0 : Int).toNat + 1) 0 m923 (B) (hJ924.ow.up (by omega)) (by omega)  (by omega) (by omega)
                have hJ933 := hJ924.trans hJ932 zi_n
                have wt934 : m930 4 45 3 = 0 := Eq.trans (hJ932.eq rfl rfl) wt925
                have wt935 : m930 4 45 0 = (m 4 45 0) := Eq.trans (hJ932.eq rfl rfl) wt926
                have wt936 : m930 4 45 13 = (m 4 45 13) := Eq.trans (hJ932.eq rfl rfl) wt927
                have wt937 : m930 4 45 1 = (m 4 45 1) := Eq.trans (hJ932.eq rfl rfl) wt928
                have wt938 : m930 4 45 2 = (m 4 45 2) := Eq.trans (hJ932.eq rfl rfl) wt929
                refine X.aload_n 174 i205_173 rfl rfl rfl ?_
                refine X.callv 177 [] [] [(0, zr 4 44)] i205_174 rfl (by decide) rfl rfl (by omega) rfl rfl (by decide) rfl t208 (Nat.le_of_ble_eq_true rfl) (Nat.le_of_ble_eq_true rfl) rfl ?_
                refine c208_1 (S := zfr [(4, 45, 0), (4, 45, 13)] S) (m0 := m930) (B := B931)   (by omega) (hJ933.ow.up (by omega)) (by omega) zm_z (zm_s zm_z) (fun m939 hJ940 hqv9410 => ?_)
                have hJ942 := hJ933.trans hJ940 (zi_c hs1 (zi_c hs2 zi_n))
                have wt943 : m939 4 45 3 = 0 := Eq.trans (hJ940.eq rfl rfl) wt934
                have wt944 : m939 4 45 1 = (m 4 45 1) := Eq.trans (hJ940.eq rfl rfl) wt937
                have wt945 : m939 4 45 2 = (m 4 45 2) := Eq.trans (hJ940.eq rfl rfl) wt938
                show X (EE s) d 205 177 [(0, zr 4 44)] [] m939 _
                refine X.iconst 178 i205_177 rfl rfl (by decide) ?_
                refine X.reti i205_178 rfl t205 ?_
                exact hQ 0 m939 (by first | trivial | omega) (hJ942.up (by omega)) (by first | exact (.inl ⟨by omega, by omega, by omega, by omega, by omega⟩) | exact (.inr (.inl ⟨by omega, by omega, by omega, by omega, by omega, by omega, by omega, by omega, by omega⟩)) | exact (.inr (.inr ⟨by omega, by omega, by omega, by omega, by omega, by omega, by omega, by omega, by omega⟩)))
              · have h922c : (m913 4 45 3) < z920 := by omega
                clear h922 hz921
                refine X.aload_n 122 i205_121 rfl rfl rfl ?_
                refine X.getF 125 i205_122 rfl rfl (by decide) rfl rfl ?_
                refine X.iconst 126 i205_125 rfl rfl (by decide) ?_
                refine X.lald 127 i205_126 rfl rfl (by decide) rfl (by omega) ?_
                refine X.l2i 128 i205_127 rfl rfl (by omega) ?_
                have hJ946 := w45_3 hJ906 hm913 (by omega) hs0
                refine X.reti i205_128 rfl t205 ?_
                exact hQ (m913 4 45 3) m913 (by first | trivial | omega) (hJ946.up (by omega)) (by first | exact (.inl ⟨by omega, by omega, by omega, by omega, by omega⟩) | exact (.inr (.inl ⟨by omega, by omega, by omega, by omega, by omega, by omega, by omega, by omega, by omega⟩)) | exact (.inr (.inr ⟨by omega, by omega, by omega, by omega, by omega, by omega, by omega, by omega, by omega⟩)))
theorem l25_4_2 {s : Nat × (Nat → Int32)} {S : zS} {m0 : zM} {d : Nat} {Q : Option zV → zM → Prop} (g0 : Nat) (y1 : Int) (BE : Int) (hE : BE ≤ 1000000000) (hd : 18 ≤ d) (hy1 : 1 ≤ y1 ∧ y1 ≤ 900) (hs0 : S.1 g0 8 9) (hs1 : S.1 g0 8 13)
    (K27 : ∀ (m' : zM) (B' : Int), J S m0 B' m' → B' ≤ BE → (m0 g0 8 13 ≤ 1200000000) → (m' g0 8 9 = min (m0 g0 8 9 + y1) 2000000000) → (m' g0 8 13 = m0 g0 8 13 + y1) → X (EE s) d 25 27 [] [] m' Q) :
    ∀ (n : Nat) (y2 y3 : Int) (m : zM) (B : Int), J S m0 B m → B + 8 * (n : Int) ≤ BE → (0 ≤ y2 ∧ y2 ≤ 3600) → (0 ≤ y3 ∧ y3 ≤ 900) → (0 ≤ y2) → (y2 + y3 ≤ y1) → (m g0 8 9 = min (m0 g0 8 9 + (y1 - y2)) 2000000000) → (m g0 8 13 + y2 = m0 g0 8 13 + y1) → (m0 g0 8 13 ≤ 1200000000) → 900 - y3 < (n : Int) → X (EE s) d 25 4 [(0, zr g0 8), (1, zi y1), (2, zi y2), (3, zi y3)] [] m Q := by
  intro n
  induction n with
  | zero =>
    intro y2 y3 m B hJ hB  hy2 hy3 hr0 hr1 hr2 hr3 hr4 hn
    exfalso
    omega
  | succ n ih =>
    intro y2 y3 m B hJ hB  hy2 hy3 hr0 hr1 hr2 hr3 hr4 hn
    refine X.iload_n 5 i25_4 rfl rfl rfl ?_
    refine X.iload_n 6 i25_5 rfl rfl rfl ?_
    refine X.icmpge 27 9 i25_6 rfl rfl rfl (fun h507 => ?_) (fun h507 => ?_)
    · refine X.cut [] i25_27 rfl ?_
      exact K27  m (B) (hJ.up (by omega)) (by omega)  (by omega) (by omega) (by omega)
    · refine X.iload_n 10 i25_9 rfl rfl rfl ?_
      refine X.ifle 27 13 i25_10 rfl rfl rfl (fun h508 => ?_) (fun h508 => ?_)
      · refine X.cut [] i25_27 rfl ?_
        exact K27  m (B) (hJ.up (by omega)) (by omega)  (by omega) (by omega) (by omega)
      · refine X.iload_n 14 i25_13 rfl rfl rfl ?_
        refine X.aload_n 15 i25_14 rfl rfl rfl ?_
        refine X.iload_n 16 i25_15 rfl rfl rfl ?_
        refine X.callv 19 [zi y2] [zi y2] [(0, zr g0 8), (1, zi y2)] i25_16 rfl (by decide) rfl rfl (by omega) rfl rfl (by decide) rfl t26 (Nat.le_of_ble_eq_true rfl) (Nat.le_of_ble_eq_true rfl) rfl ?_
        refine c26_1 (S := zfr [(g0, 8, 9), (g0, 8, 13)] S) (m0 := m) (B := B) g0 y2 (by omega) (hJ.ow.up (by omega)) (by omega) (by omega) (by omega) (by omega) zm_z (zm_s zm_z) (fun v511 m509 hv511 hJ510 hqv5110 hqv5111 hqv5112 => ?_)
        have hJ512 := hJ.trans hJ510 (zi_c hs0 (zi_c hs1 zi_n))
        show X (EE s) d 25 19 [(0, zr g0 8), (1, zi y1), (2, zi y2), (3, zi y3)] [zi v511, zi y2] m509 _
        refine X.isub 20 i25_19 rfl rfl (by omega) ?_
        refine X.istore_n 21 [(0, zr g0 8), (1, zi y1), (2, zi (y2 - v511)), (3, zi y3)] i25_20 rfl rfl rfl ?_
        refine X.iinc 24 [(0, zr g0 8), (1, zi y1), (2, zi (y2 - v511)), (3, zi (y3 + 1))] i25_21 rfl rfl rfl (by omega) rfl ?_
        refine X.goto 4 i25_24 rfl rfl ?_
        exact ih (y2 - v511) (y3 + 1) m509 (B + 8) (hJ512.up (by omega)) (by omega)  (by omega) (by omega) (by omega) (by omega) (by omega) (by omega) (by omega) (by omega)
-- WorkMeter$Meter.meterTimes
theorem c25_2 {s : Nat × (Nat → Int32)} {S : zS} {m0 m : zM} {B : Int} {d : Nat} {Q : Option zV → zM → Prop} (g0 : Nat) (a1 : Int) (hd : 18 ≤ d) (hJ : J S m0 B m) (hB : B + 7208 ≤ 1000000000) (ha1 : 1 ≤ a1 ∧ a1 ≤ 900) (hp0 : 1 ≤ a1) (hp1 : m g0 8 13 ≤ 1200000000) (hs0 : S.1 g0 8 9) (hs1 : S.1 g0 8 13) (hQ : ∀ m', J S m0 (B + 7208) m' → (m' g0 8 9 = min (m g0 8 9 + a1) 2000000000 ∧ m' g0 8 13 = m g0 8 13 + a1) → Q none m') : X (EE s) d 25 0 [(0, zr g0 8), (1, zi a1)] [] m Q := by
  have f0 := r8_9 hJ g0
  refine X.iload_n 1 i25_0 rfl rfl rfl ?_
  refine X.istore_n 2 [(0, zr g0 8), (1, zi a1), (2, zi a1)] i25_1 rfl rfl rfl ?_
  refine X.iconst 3 i25_2 rfl rfl (by decide) ?_
  refine X.istore_n 4 [(0, zr g0 8), (1, zi a1), (2, zi a1), (3, zi 0)] i25_3 rfl rfl rfl ?_
  refine l25_4_2 (s := s) (S := (zfr [(g0, 8, 9), (g0, 8, 13)] S)) (m0 := m) (d := d) g0 a1 (BE := B + 7208) (by omega) (by omega) (by omega) zm_z (zm_s zm_z) (fun  m501 B502 hJ503 hBB502 hrlm5010 hrlm5011 hrlm5012 => ?_) ((900 - 0 : Int).toNat + 1) a1 0 m (B) (hJ.ow.up (by omega)) (by omega)  (by omega) (by omega) (by omega) (by omega) (by omega) (by omega) (by omega) (by omega)
  have hJ504 := hJ.trans hJ503 (zi_c hs0 (zi_c hs1 zi_n))
  refine X.retv i25_27 rfl t25 ?_
  exact hQ  m501  (hJ504.up (by omega)) (by exact ⟨by omega, by omega⟩)
theorem l72_16_1 {s : Nat × (Nat → Int32)} {S : zS} {m0 m : zM} {B : Int} {d : Nat} {Q : Option zV → zM → Prop} (g0 : Nat) (y1 : Int) (hd : 13 ≤ d) (hJ : J S m0 B m) (hB9 : B ≤ 1000000000) (hy1 : 0 ≤ y1 ∧ y1 ≤ 0)
    (K37 : ∀ (x3 : Int) , (True) → X (EE s) d 72 37 [(3, zl x3)] [] m Q) :
    ∀ (n : Nat) (y3 y5 : Int) , (0 ≤ y5 ∧ y5 ≤ 4) → 4 - y5 < (n : Int) → X (EE s) d 72 16 [(0, zr g0 24), (1, zi y1), (3, zl y3), (5, zi y5)] [] m Q := by
  intro n
  induction n with
  | zero =>
    intro y3 y5 hy5 hn
    exfalso
    omega
  | succ n ih =>
    intro y3 y5 hy5 hn
    refine X.iload 18 i72_16 rfl rfl rfl ?_
    refine X.iconst 19 i72_18 rfl rfl (by decide) ?_
    refine X.icmpge 37 22 i72_19 rfl rfl rfl (fun h505 => ?_) (fun h505 => ?_)
    · refine X.cut [(3, zl y3)] i72_37 rfl ?_
      exact K37 y3 (by first | trivial | omega)
    · refine X.lload_n 23 i72_22 rfl rfl rfl ?_
      refine X.aload_n 24 i72_23 rfl rfl rfl ?_
      refine X.iload_n 25 i72_24 rfl rfl rfl ?_
      refine X.iload 27 i72_25 rfl rfl rfl ?_
      refine X.iadd 28 i72_27 rfl rfl (by omega) ?_
      refine X.lald 29 i72_28 rfl rfl (by decide) rfl (by omega) ?_
      refine X.llF 30 .ladd (fun x y => x + y) i72_29 rfl rfl rfl (fun _ _ => rfl) (fun z506 hz506 => ?_)
      refine X.lstore_n 31 [(0, zr g0 24), (1, zi y1), (3, zl z506), (5, zi y5)] i72_30 rfl rfl rfl ?_
      refine X.iinc 34 [(0, zr g0 24), (1, zi y1), (3, zl z506), (5, zi (y5 + 1))] i72_31 rfl rfl rfl (by omega) rfl ?_
      refine X.goto 16 i72_34 rfl rfl ?_
      exact ih z506 (y5 + 1) (by omega) (by omega)
-- WorkMeter$Registers.sumIn
theorem c72_1 {s : Nat × (Nat → Int32)} {S : zS} {m0 m : zM} {B : Int} {d : Nat} {Q : Option zV → zM → Prop} (g0 : Nat) (a1 a2 : Int) (hd : 13 ≤ d) (hJ : J S m0 B m) (hB : B + 0 ≤ 1000000000) (ha1 : 0 ≤ a1 ∧ a1 ≤ 0) (ha2 : (-1) ≤ a2 ∧ a2 ≤ (-1)) (hQ : ∀ (v : Int), (True) → Q (some (zl v)) m) : X (EE s) d 72 0 [(0, zr g0 24), (1, zi a1), (2, zi a2)] [] m Q := by
  refine X.iload_n 1 i72_0 rfl rfl rfl ?_
  refine X.iconst 2 i72_1 rfl rfl (by decide) ?_
  refine X.icmpeq 11 5 i72_2 rfl rfl rfl (fun h501 => ?_) (fun h501 => (by exfalso; omega))
  refine X.cut [(0, zr g0 24), (1, zi a1)] i72_11 rfl ?_
  refine X.lconst (y := 0) 12 i72_11 rfl rfl rfl ?_
  refine X.lstore_n 13 [(0, zr g0 24), (1, zi a1), (3, zl 0)] i72_12 rfl rfl rfl ?_
  refine X.iconst 14 i72_13 rfl rfl (by decide) ?_
  refine X.istore 16 [(0, zr g0 24), (1, zi a1), (3, zl 0), (5, zi 0)] i72_14 rfl rfl rfl ?_
  refine l72_16_1 (s := s) (S := S) (m0 := m0) (m := m) (B := B) (d := d) g0 a1 (by omega) (hJ.up (by omega)) (by omega) (by omega) (fun y502 hby502 => ?_) ((4 - 0 : Int).toNat + 1) 0 0 (by omega) (by omega)
  refine X.lload_n 38 i72_37 rfl rfl rfl ?_
  refine X.retl i72_38 rfl t72 ?_
  exact hQ y502 (by first | trivial | omega) 
-- WorkMeter.again
theorem c69_1 {s : Nat × (Nat → Int32)} {S : zS} {m0 m : zM} {B : Int} {d : Nat} {Q : Option zV → zM → Prop} (a1 : Int) (hd : 19 ≤ d) (hJ : J S m0 B m) (hB : B + 7208 ≤ 1000000000) (ha1 : (-2147483648) ≤ a1 ∧ a1 ≤ 2147483647) (hp0 : m 0 8 13 ≤ 1000000000) (hs0 : S.1 0 8 9) (hs1 : S.1 0 8 13) (hQ : ∀ (v : Int) m', (True) → J S m0 (B + 7208) m' → ((¬ (1 ≤ a1 ∧ a1 ≤ 900) ∧ m' 0 8 9 = m 0 8 9 ∧ m' 0 8 13 = m 0 8 13) ∨ (1 ≤ a1 ∧ a1 ≤ 900 ∧ m' 0 8 9 = min (m 0 8 9 + a1) 2000000000 ∧ m' 0 8 13 = m 0 8 13 + a1)) → Q (some (zl v)) m') : X (EE s) d 69 0 [(0, zr 4 40), (1, zi a1)] [] m Q := by
  refine X.iload_n 1 i69_0 rfl rfl rfl ?_
  refine X.iconst 2 i69_1 rfl rfl (by decide) ?_
  refine X.icmplt 12 5 i69_2 rfl rfl rfl (fun h501 => ?_) (fun h501 => ?_)
  · refine X.cut [] i69_12 rfl ?_
    refine X.ldc2 15 i69_12 rfl rfl (by decide) ?_
    refine X.retl i69_15 rfl t69 ?_
    exact hQ (-1) m (by first | trivial | omega) (hJ.up (by omega)) (by first | exact (.inl ⟨by omega, by omega, by omega⟩) | exact (.inr ⟨by omega, by omega, by omega, by omega⟩))
  · refine X.iload_n 6 i69_5 rfl rfl rfl ?_
    refine X.sipush 9 i69_6 rfl rfl (by decide) ?_
    refine X.icmple 16 12 i69_9 rfl rfl rfl (fun h502 => ?_) (fun h502 => ?_)
    · refine X.aload_n 17 i69_16 rfl rfl rfl ?_
      refine X.getF 20 i69_17 rfl rfl (by decide) rfl rfl ?_
      refine X.iload_n 21 i69_20 rfl rfl rfl ?_
      refine X.callv 24 [zi a1] [] [(0, zr 0 8), (1, zi a1)] i69_21 rfl (by decide) rfl rfl (by omega) rfl rfl (by decide) rfl t25 (Nat.le_of_ble_eq_true rfl) (Nat.le_of_ble_eq_true rfl) rfl ?_
      refine c25_2 (S := zfr [(0, 8, 9), (0, 8, 13)] S) (m0 := m) (B := B) 0 a1 (by omega) (hJ.ow.up (by omega)) (by omega) (by omega) (by omega) (by omega) zm_z (zm_s zm_z) (fun m503 hJ504 hqv5050 => ?_)
      have hJ506 := hJ.trans hJ504 (zi_c hs0 (zi_c hs1 zi_n))
      show X (EE s) d 69 24 [(0, zr 4 40), (1, zi a1)] [] m503 _
      refine X.aload_n 25 i69_24 rfl rfl rfl ?_
      refine X.getF 28 i69_25 rfl rfl (by decide) rfl rfl ?_
      refine X.iconst 29 i69_28 rfl rfl (by decide) ?_
      refine X.callv 32 [zi 0] [] [(0, zr 0 8), (1, zi 0)] i69_29 rfl (by decide) rfl rfl (by omega) rfl rfl (by decide) rfl t70 (Nat.le_of_ble_eq_true rfl) (Nat.le_of_ble_eq_true rfl) rfl ?_
      refine X.aload_n 1 i70_0 rfl rfl rfl ?_
      refine X.getR 4 i70_1 rfl rfl (by decide) rfl rfl ?_
      refine X.iload_n 5 i70_4 rfl rfl rfl ?_
      refine X.iconst 6 i70_5 rfl rfl (by decide) ?_
      refine X.callv 9 [zi 0, zi (-1)] [] [(0, zr 0 23), (1, zi 0), (2, zi (-1))] i70_6 rfl (by decide) rfl rfl (by omega) rfl rfl (by decide) rfl t71 (Nat.le_of_ble_eq_true rfl) (Nat.le_of_ble_eq_true rfl) rfl ?_
      refine X.aload_n 1 i71_0 rfl rfl rfl ?_
      refine X.getR 4 i71_1 rfl rfl (by decide) rfl rfl ?_
      refine X.iload_n 5 i71_4 rfl rfl rfl ?_
      refine X.iconst 6 i71_5 rfl rfl (by decide) ?_
      refine X.imul 7 i71_6 rfl rfl (by omega) ?_
      refine X.iload_n 8 i71_7 rfl rfl rfl ?_
      refine X.calls 11 [zr 0 24, zi (0 * 4), zi (-1)] [] [(0, zr 0 24), (1, zi (0 * 4)), (2, zi (-1))] i71_8 (by decide) rfl rfl (by omega) rfl rfl t72 (Nat.le_of_ble_eq_true rfl) (Nat.le_of_ble_eq_true rfl) rfl ?_
      refine c72_1 (B := B + 7208) 0 (0 * 4) (-1) (by omega) (hJ506.up (by omega)) (by omega) (by omega) (by omega) (fun v509 hv509 => ?_)
      show X (EE s) ((d - 1) - 1) 71 11 [(0, zr 0 23), (1, zi 0), (2, zi (-1))] [zl v509] m503 _
      refine X.retl i71_11 rfl t71 ?_
      show X (EE s) (d - 1) 70 9 [(0, zr 0 8), (1, zi 0)] [zl v509] m503 _
      refine X.aload_n 10 i70_9 rfl rfl rfl ?_
      refine X.getR 13 i70_10 rfl rfl (by decide) rfl rfl ?_
      refine X.callv 16 [] [zl v509] [(0, zr 0 9)] i70_13 rfl (by decide) rfl rfl (by omega) rfl rfl (by decide) rfl t48 (Nat.le_of_ble_eq_true rfl) (Nat.le_of_ble_eq_true rfl) rfl ?_
      refine X.iconst 1 i48_0 rfl rfl (by decide) ?_
      refine X.aload_n 2 i48_1 rfl rfl rfl ?_
      refine X.getR 5 i48_2 rfl rfl (by decide) rfl rfl ?_
      refine X.iconst 6 i48_5 rfl rfl (by decide) ?_
      refine X.iald 7 i48_6 rfl rfl (by decide) rfl (by omega) ?_
      have h510 := r10_0 hJ506 0 (i := 1) (by omega)
      refine X.maxI 10 i48_7 rfl rfl (by omega) (Nat.le_of_ble_eq_true rfl) ?_
      refine X.reti i48_10 rfl t48 ?_
      show X (EE s) (d - 1) 70 16 [(0, zr 0 8), (1, zi 0)] [zi (max 1 (m503 0 10 1)), zl v509] m503 _
      refine X.i2l 17 i70_16 rfl rfl ?_
      refine X.ldivF 18 i70_17 rfl rfl (by omega) (fun z511 => ?_)
      refine X.retl i70_18 rfl t70 ?_
      show X (EE s) d 69 32 [(0, zr 4 40), (1, zi a1)] [zl z511] m503 _
      refine X.retl i69_32 rfl t69 ?_
      exact hQ z511 m503 (by first | trivial | omega) (hJ506.up (by omega)) (by first | exact (.inl ⟨by omega, by omega, by omega⟩) | exact (.inr ⟨by omega, by omega, by omega, by omega⟩))
    · refine X.cut [] i69_12 rfl ?_
      refine X.ldc2 15 i69_12 rfl rfl (by decide) ?_
      refine X.retl i69_15 rfl t69 ?_
      exact hQ (-1) m (by first | trivial | omega) (hJ.up (by omega)) (by first | exact (.inl ⟨by omega, by omega, by omega⟩) | exact (.inr ⟨by omega, by omega, by omega, by omega⟩))
theorem l279_18_1 {s : Nat × (Nat → Int32)} {S : zS} {m0 : zM} {d : Nat} {Q : Option zV → zM → Prop} (y1 : Int) (BE : Int) (hE : BE ≤ 1000000000) (hd : 20 ≤ d) (hy1 : 1 ≤ y1 ∧ y1 ≤ 900) (hs0 : S.1 4 45 0) (hs1 : S.1 4 45 13)
    (K33 : ∀ (m' : zM) (B' : Int), J S m0 B' m' → B' ≤ BE → (m' 4 45 0 = min (m0 4 45 0 + y1) 2000000000) → (m' 4 45 13 = m0 4 45 13 + y1) → X (EE s) d 279 33 [(0, zr 4 44)] [] m' Q) :
    ∀ (n : Nat) (y2 : Int) (m : zM) (B : Int), J S m0 B m → B + 11 * (n : Int) ≤ BE → (0 ≤ y2 ∧ y2 ≤ 900) → (y2 ≤ y1) → (m 4 45 0 = min (m0 4 45 0 + y2) 2000000000) → (m 4 45 13 = m0 4 45 13 + y2) → 900 - y2 < (n : Int) → X (EE s) d 279 18 [(0, zr 4 44), (1, zi y1), (2, zi y2)] [] m Q := by
  intro n
  induction n with
  | zero =>
    intro y2 m B hJ hB  hy2 hr0 hr1 hr2 hn
    exfalso
    omega
  | succ n ih =>
    intro y2 m B hJ hB  hy2 hr0 hr1 hr2 hn
    refine X.iload_n 19 i279_18 rfl rfl rfl ?_
    refine X.iload_n 20 i279_19 rfl rfl rfl ?_
    refine X.icmpge 33 23 i279_20 rfl rfl rfl (fun h506 => ?_) (fun h506 => ?_)
    · refine X.cut [(0, zr 4 44)] i279_33 rfl ?_
      exact K33  m (B) (hJ.up (by omega)) (by omega)  (by omega) (by omega)
    · refine X.aload_n 24 i279_23 rfl rfl rfl ?_
      refine X.callv 27 [] [] [(0, zr 4 44)] i279_24 rfl (by decide) rfl rfl (by omega) rfl rfl (by decide) rfl t208 (Nat.le_of_ble_eq_true rfl) (Nat.le_of_ble_eq_true rfl) rfl ?_
      refine c208_1 (S := zfr [(4, 45, 0), (4, 45, 13)] S) (m0 := m) (B := B)   (by omega) (hJ.ow.up (by omega)) (by omega) zm_z (zm_s zm_z) (fun m507 hJ508 hqv5090 => ?_)
      have hJ510 := hJ.trans hJ508 (zi_c hs0 (zi_c hs1 zi_n))
      show X (EE s) d 279 27 [(0, zr 4 44), (1, zi y1), (2, zi y2)] [] m507 _
      refine X.iinc 30 [(0, zr 4 44), (1, zi y1), (2, zi (y2 + 1))] i279_27 rfl rfl rfl (by omega) rfl ?_
      refine X.goto 18 i279_30 rfl rfl ?_
      exact ih (y2 + 1) m507 (B + 11) (hJ510.up (by omega)) (by omega)  (by omega) (by omega) (by omega) (by omega) (by omega)
-- WorkMeterModel.again
theorem c279_1 {s : Nat × (Nat → Int32)} {S : zS} {m0 m : zM} {B : Int} {d : Nat} {Q : Option zV → zM → Prop} (a1 : Int) (hd : 20 ≤ d) (hJ : J S m0 B m) (hB : B + 9911 ≤ 1000000000) (ha1 : (-2147483648) ≤ a1 ∧ a1 ≤ 2147483647) (hs0 : S.1 4 45 0) (hs1 : S.1 4 45 13) (hQ : ∀ (v : Int) m', (True) → J S m0 (B + 9911) m' → ((¬ (1 ≤ a1 ∧ a1 ≤ 900) ∧ m' 4 45 0 = m 4 45 0 ∧ m' 4 45 13 = m 4 45 13) ∨ (1 ≤ a1 ∧ a1 ≤ 900 ∧ m' 4 45 0 = min (m 4 45 0 + a1) 2000000000 ∧ m' 4 45 13 = m 4 45 13 + a1)) → Q (some (zl v)) m') : X (EE s) d 279 0 [(0, zr 4 44), (1, zi a1)] [] m Q := by
  have f0 := r45_0 hJ 4
  refine X.iload_n 1 i279_0 rfl rfl rfl ?_
  refine X.i2l 2 i279_1 rfl rfl ?_
  refine X.lconst (y := 1) 3 i279_2 rfl rfl rfl ?_
  refine X.ldc2 6 i279_3 rfl rfl (by decide) ?_
  refine X.calls 9 [zl a1, zl 1, zl 900] [] [(0, zl a1), (2, zl 1), (4, zl 900)] i279_6 (by decide) rfl rfl (by omega) rfl rfl t204 (Nat.le_of_ble_eq_true rfl) (Nat.le_of_ble_eq_true rfl) rfl ?_
  refine X.lload_n 1 i204_0 rfl rfl rfl ?_
  refine X.lload_n 2 i204_1 rfl rfl rfl ?_
  refine X.lcmp 3 i204_2 rfl rfl (fun z501 hz501 => ?_)
  refine X.iflt 17 6 i204_3 rfl rfl rfl (fun h502 => ?_) (fun h502 => ?_)
  · have h502c : a1 < 1 := by omega
    clear h502 hz501
    refine X.cut [] i204_17 rfl ?_
    refine X.iconst 18 i204_17 rfl rfl (by decide) ?_
    refine X.retz i204_18 rfl t204 (by omega) ?_
    show X (EE s) d 279 9 [(0, zr 4 44), (1, zi a1)] [zi 0] m _
    refine X.ifne 16 12 i279_9 rfl rfl rfl (fun h503 => (by exfalso; omega)) (fun h503 => ?_)
    refine X.ldc2 15 i279_12 rfl rfl (by decide) ?_
    refine X.retl i279_15 rfl t279 ?_
    exact hQ (-1) m (by first | trivial | omega) (hJ.up (by omega)) (by first | exact (.inl ⟨by omega, by omega, by omega⟩) | exact (.inr ⟨by omega, by omega, by omega, by omega⟩))
  · have h502c : a1 ≥ 1 := by omega
    clear h502 hz501
    refine X.lload_n 7 i204_6 rfl rfl rfl ?_
    refine X.lload 9 i204_7 rfl rfl rfl ?_
    refine X.lcmp 10 i204_9 rfl rfl (fun z504 hz504 => ?_)
    refine X.ifgt 17 13 i204_10 rfl rfl rfl (fun h505 => ?_) (fun h505 => ?_)
    · have h505c : a1 > 900 := by omega
      clear h505 hz504
      refine X.cut [] i204_17 rfl ?_
      refine X.iconst 18 i204_17 rfl rfl (by decide) ?_
      refine X.retz i204_18 rfl t204 (by omega) ?_
      show X (EE s) d 279 9 [(0, zr 4 44), (1, zi a1)] [zi 0] m _
      refine X.ifne 16 12 i279_9 rfl rfl rfl (fun h506 => (by exfalso; omega)) (fun h506 => ?_)
      refine X.ldc2 15 i279_12 rfl rfl (by decide) ?_
      refine X.retl i279_15 rfl t279 ?_
      exact hQ (-1) m (by first | trivial | omega) (hJ.up (by omega)) (by first | exact (.inl ⟨by omega, by omega, by omega⟩) | exact (.inr ⟨by omega, by omega, by omega, by omega⟩))
    · have h505c : a1 ≤ 900 := by omega
      clear h505 hz504
      refine X.iconst 14 i204_13 rfl rfl (by decide) ?_
      refine X.goto 18 i204_14 rfl rfl ?_
      refine X.cut [] i204_18 rfl ?_
      refine X.retz i204_18 rfl t204 (by omega) ?_
      show X (EE s) d 279 9 [(0, zr 4 44), (1, zi a1)] [zi 1] m _
      refine X.ifne 16 12 i279_9 rfl rfl rfl (fun h507 => ?_) (fun h507 => (by exfalso; omega))
      refine X.iconst 17 i279_16 rfl rfl (by decide) ?_
      refine X.istore_n 18 [(0, zr 4 44), (1, zi a1), (2, zi 0)] i279_17 rfl rfl rfl ?_
      refine l279_18_1 (s := s) (S := (zfr [(4, 45, 0), (4, 45, 13)] S)) (m0 := m) (d := d)  a1 (BE := B + 9911) (by omega) (by omega) (by omega) zm_z (zm_s zm_z) (fun  m508 B509 hJ510 hBB509 hrlm5080 hrlm5081 => ?_) ((900 - 0 : Int).toNat + 1) 0 m (B) (hJ.ow.up (by omega)) (by omega)  (by omega) (by omega) (by omega) (by omega) (by omega)
      have hJ511 := hJ.trans hJ510 (zi_c hs0 (zi_c hs1 zi_n))
      refine X.aload_n 34 i279_33 rfl rfl rfl ?_
      refine X.getF 37 i279_34 rfl rfl (by decide) rfl rfl ?_
      refine X.bipush 39 i279_37 rfl rfl (by decide) ?_
      refine X.lald 40 i279_39 rfl rfl (by decide) rfl (by omega) ?_
      refine X.aload_n 41 i279_40 rfl rfl rfl ?_
      refine X.getF 44 i279_41 rfl rfl (by decide) rfl rfl ?_
      refine X.iconst 45 i279_44 rfl rfl (by decide) ?_
      refine X.lald 46 i279_45 rfl rfl (by decide) rfl (by omega) ?_
      have h512 := r45_5 hJ511 4
      refine X.ldivF 47 i279_46 rfl rfl (by omega) (fun z513 => ?_)
      refine X.retl i279_47 rfl t279 ?_
      exact hQ z513 m508 (by first | trivial | omega) (hJ511.up (by omega)) (by first | exact (.inl ⟨by omega, by omega, by omega⟩) | exact (.inr ⟨by omega, by omega, by omega, by omega⟩))
-- WorkMeter$Settings.canBe
theorem c75_1 {s : Nat × (Nat → Int32)} {S : zS} {m0 m : zM} {B : Int} {d : Nat} {Q : Option zV → zM → Prop} (g0 : Nat) (a1 a2 : Int) (hd : 13 ≤ d) (hJ : J S m0 B m) (hB : B + 0 ≤ 1000000000) (ha1 : (-2147483648) ≤ a1 ∧ a1 ≤ 2147483647) (ha2 : (-2147483648) ≤ a2 ∧ a2 ≤ 2147483647) (hQ : ∀ (v : Int), (0 ≤ v ∧ v ≤ 1) → (v = 1 → 0 ≤ a2 ∧ a2 ≤ 1000000) → (v = 1 → a1 = 5 → 1 ≤ a2 ∧ a2 ≤ 6) → (v = cBi a1 a2) → Q (some (zi v)) m) : X (EE s) d 75 0 [(0, zr g0 9), (1, zi a1), (2, zi a2)] [] m Q := by
  refine X.iload_n 1 i75_0 rfl rfl rfl ?_
  refine X.calls 4 [zi a1] [] [(0, zi a1)] i75_1 (by decide) rfl rfl (by omega) rfl rfl t76 (Nat.le_of_ble_eq_true rfl) (Nat.le_of_ble_eq_true rfl) rfl ?_
  refine X.iload_n 1 i76_0 rfl rfl rfl ?_
  refine X.iflt 11 4 i76_1 rfl rfl rfl (fun h501 => ?_) (fun h501 => ?_)
  · refine X.iload_n 12 i76_11 rfl rfl rfl ?_
    refine X.bipush 14 i76_12 rfl rfl (by decide) ?_
    refine X.icmplt 31 17 i76_14 rfl rfl rfl (fun h502 => ?_) (fun h502 => (by exfalso; omega))
    refine X.iload_n 32 i76_31 rfl rfl rfl ?_
    refine X.bipush 34 i76_32 rfl rfl (by decide) ?_
    refine X.icmplt 51 37 i76_34 rfl rfl rfl (fun h503 => ?_) (fun h503 => (by exfalso; omega))
    refine X.cut [] i76_51 rfl ?_
    refine X.iconst 52 i76_51 rfl rfl (by decide) ?_
    refine X.reti i76_52 rfl t76 ?_
    show X (EE s) d 75 4 [(0, zr g0 9), (1, zi a1), (2, zi a2)] [zi (-1)] m _
    refine X.istore_n 5 [(0, zr g0 9), (1, zi a1), (2, zi a2), (3, zi (-1))] i75_4 rfl rfl rfl ?_
    refine X.iload_n 6 i75_5 rfl rfl rfl ?_
    refine X.iconst 7 i75_6 rfl rfl (by decide) ?_
    refine X.icmpeq 28 10 i75_7 rfl rfl rfl (fun h504 => ?_) (fun h504 => (by exfalso; omega))
    refine X.cut [] i75_28 rfl ?_
    refine X.iconst 29 i75_28 rfl rfl (by decide) ?_
    refine X.retz i75_29 rfl t75 (by omega) ?_
    exact hQ 0 (by first | trivial | omega) (by omega) (by omega) (by exact (cBi_0 (by unfold cB; omega)).symm)
  · refine X.iload_n 5 i76_4 rfl rfl rfl ?_
    refine X.iconst 6 i76_5 rfl rfl (by decide) ?_
    refine X.icmpgt 11 9 i76_6 rfl rfl rfl (fun h505 => ?_) (fun h505 => ?_)
    · refine X.iload_n 12 i76_11 rfl rfl rfl ?_
      refine X.bipush 14 i76_12 rfl rfl (by decide) ?_
      refine X.icmplt 31 17 i76_14 rfl rfl rfl (fun h506 => ?_) (fun h506 => ?_)
      · refine X.iload_n 32 i76_31 rfl rfl rfl ?_
        refine X.bipush 34 i76_32 rfl rfl (by decide) ?_
        refine X.icmplt 51 37 i76_34 rfl rfl rfl (fun h507 => ?_) (fun h507 => (by exfalso; omega))
        refine X.cut [] i76_51 rfl ?_
        refine X.iconst 52 i76_51 rfl rfl (by decide) ?_
        refine X.reti i76_52 rfl t76 ?_
        show X (EE s) d 75 4 [(0, zr g0 9), (1, zi a1), (2, zi a2)] [zi (-1)] m _
        refine X.istore_n 5 [(0, zr g0 9), (1, zi a1), (2, zi a2), (3, zi (-1))] i75_4 rfl rfl rfl ?_
        refine X.iload_n 6 i75_5 rfl rfl rfl ?_
        refine X.iconst 7 i75_6 rfl rfl (by decide) ?_
        refine X.icmpeq 28 10 i75_7 rfl rfl rfl (fun h508 => ?_) (fun h508 => (by exfalso; omega))
        refine X.cut [] i75_28 rfl ?_
        refine X.iconst 29 i75_28 rfl rfl (by decide) ?_
        refine X.retz i75_29 rfl t75 (by omega) ?_
        exact hQ 0 (by first | trivial | omega) (by omega) (by omega) (by exact (cBi_0 (by unfold cB; omega)).symm)
      · refine X.iload_n 18 i76_17 rfl rfl rfl ?_
        refine X.bipush 20 i76_18 rfl rfl (by decide) ?_
        refine X.icmpge 31 23 i76_20 rfl rfl rfl (fun h509 => ?_) (fun h509 => ?_)
        · refine X.iload_n 32 i76_31 rfl rfl rfl ?_
          refine X.bipush 34 i76_32 rfl rfl (by decide) ?_
          refine X.icmplt 51 37 i76_34 rfl rfl rfl (fun h510 => ?_) (fun h510 => ?_)
          · refine X.cut [] i76_51 rfl ?_
            refine X.iconst 52 i76_51 rfl rfl (by decide) ?_
            refine X.reti i76_52 rfl t76 ?_
            show X (EE s) d 75 4 [(0, zr g0 9), (1, zi a1), (2, zi a2)] [zi (-1)] m _
            refine X.istore_n 5 [(0, zr g0 9), (1, zi a1), (2, zi a2), (3, zi (-1))] i75_4 rfl rfl rfl ?_
            refine X.iload_n 6 i75_5 rfl rfl rfl ?_
            refine X.iconst 7 i75_6 rfl rfl (by decide) ?_
            refine X.icmpeq 28 10 i75_7 rfl rfl rfl (fun h511 => ?_) (fun h511 => (by exfalso; omega))
            refine X.cut [] i75_28 rfl ?_
            refine X.iconst 29 i75_28 rfl rfl (by decide) ?_
            refine X.retz i75_29 rfl t75 (by omega) ?_
            exact hQ 0 (by first | trivial | omega) (by omega) (by omega) (by exact (cBi_0 (by unfold cB; omega)).symm)
          · refine X.iload_n 38 i76_37 rfl rfl rfl ?_
            refine X.bipush 40 i76_38 rfl rfl (by decide) ?_
            refine X.icmpgt 51 43 i76_40 rfl rfl rfl (fun h512 => ?_) (fun h512 => ?_)
            · refine X.cut [] i76_51 rfl ?_
              refine X.iconst 52 i76_51 rfl rfl (by decide) ?_
              refine X.reti i76_52 rfl t76 ?_
              show X (EE s) d 75 4 [(0, zr g0 9), (1, zi a1), (2, zi a2)] [zi (-1)] m _
              refine X.istore_n 5 [(0, zr g0 9), (1, zi a1), (2, zi a2), (3, zi (-1))] i75_4 rfl rfl rfl ?_
              refine X.iload_n 6 i75_5 rfl rfl rfl ?_
              refine X.iconst 7 i75_6 rfl rfl (by decide) ?_
              refine X.icmpeq 28 10 i75_7 rfl rfl rfl (fun h513 => ?_) (fun h513 => (by exfalso; omega))
              refine X.cut [] i75_28 rfl ?_
              refine X.iconst 29 i75_28 rfl rfl (by decide) ?_
              refine X.retz i75_29 rfl t75 (by omega) ?_
              exact hQ 0 (by first | trivial | omega) (by omega) (by omega) (by exact (cBi_0 (by unfold cB; omega)).symm)
            · refine X.iload_n 44 i76_43 rfl rfl rfl ?_
              refine X.bipush 46 i76_44 rfl rfl (by decide) ?_
              refine X.isub 47 i76_46 rfl rfl (by omega) ?_
              refine X.bipush 49 i76_47 rfl rfl (by decide) ?_
              refine X.iadd 50 i76_49 rfl rfl (by omega) ?_
              refine X.reti i76_50 rfl t76 ?_
              show X (EE s) d 75 4 [(0, zr g0 9), (1, zi a1), (2, zi a2)] [zi ((a1 - 20) + 10)] m _
              refine X.istore_n 5 [(0, zr g0 9), (1, zi a1), (2, zi a2), (3, zi ((a1 - 20) + 10))] i75_4 rfl rfl rfl ?_
              refine X.iload_n 6 i75_5 rfl rfl rfl ?_
              refine X.iconst 7 i75_6 rfl rfl (by decide) ?_
              refine X.icmpeq 28 10 i75_7 rfl rfl rfl (fun h514 => (by exfalso; omega)) (fun h514 => ?_)
              refine X.iload_n 11 i75_10 rfl rfl rfl ?_
              refine X.gets 14 i75_11 rfl rfl (by decide) ?_
              refine X.iload_n 15 i75_14 rfl rfl rfl ?_
              rcases (show ((a1 - 20) + 10) = 10 ∨ ((a1 - 20) + 10) = 11 ∨ ((a1 - 20) + 10) = 12 by omega) with h515 | h515 | h515
              · rw [h515]
                refine X.rald 16 i75_15 rfl rfl (by decide) (by show 0 ≤ _ ∧ _ < (13 : Int); omega) (fun hz516 => ?_)
                rw [zro2_10]
                clear hz516
                show X (EE s) d 75 16 [(0, zr g0 9), (1, zi a1), (2, zi a2), (3, zi 10)] [zi 0, zi a2] m _
                refine X.icmplt 28 19 i75_16 rfl rfl rfl (fun h517 => ?_) (fun h517 => ?_)
                · refine X.cut [] i75_28 rfl ?_
                  refine X.iconst 29 i75_28 rfl rfl (by decide) ?_
                  refine X.retz i75_29 rfl t75 (by omega) ?_
                  exact hQ 0 (by first | trivial | omega) (by omega) (by omega) (by exact (cBi_0 (by unfold cB; omega)).symm)
                · refine X.iload_n 20 i75_19 rfl rfl rfl ?_
                  refine X.gets 23 i75_20 rfl rfl (by decide) ?_
                  refine X.iload_n 24 i75_23 rfl rfl rfl ?_
                  refine X.rald 25 i75_24 rfl rfl (by decide) (by show 0 ≤ _ ∧ _ < (13 : Int); omega) (fun hz518 => ?_)
                  rw [zro3_10]
                  clear hz518
                  show X (EE s) d 75 25 [(0, zr g0 9), (1, zi a1), (2, zi a2), (3, zi 10)] [zi 100, zi a2] m _
                  refine X.icmple 30 28 i75_25 rfl rfl rfl (fun h519 => ?_) (fun h519 => ?_)
                  · refine X.cut [(1, zi a1), (2, zi a2)] i75_30 rfl ?_
                    refine X.iload_n 31 i75_30 rfl rfl rfl ?_
                    refine X.iconst 32 i75_31 rfl rfl (by decide) ?_
                    refine X.icmpne 69 35 i75_32 rfl rfl rfl (fun h520 => ?_) (fun h520 => (by exfalso; omega))
                    refine X.cut [] i75_69 rfl ?_
                    refine X.iconst 70 i75_69 rfl rfl (by decide) ?_
                    refine X.goto 74 i75_70 rfl rfl ?_
                    refine X.retz i75_74 rfl t75 (by omega) ?_
                    exact hQ 1 (by first | trivial | omega) (by omega) (by omega) (by exact (cBi_1 (by unfold cB; first | exact (.inl ⟨by omega, by omega, by omega⟩) | exact (.inr (.inl ⟨by omega, by omega, by omega⟩)) | exact (.inr (.inr (.inl ⟨by omega, by omega, by omega⟩))) | exact (.inr (.inr (.inr (.inl ⟨by omega, by omega, by omega⟩)))) | exact (.inr (.inr (.inr (.inr (.inl ⟨by omega, by omega⟩))))) | exact (.inr (.inr (.inr (.inr (.inr (.inl ⟨by omega, by omega, by omega⟩)))))) | exact (.inr (.inr (.inr (.inr (.inr (.inr (.inl ⟨by omega, by omega, by omega, by omega⟩))))))) | exact (.inr (.inr (.inr (.inr (.inr (.inr (.inr (.inl ⟨by omega, by omega, by omega⟩)))))))) | exact (.inr (.inr (.inr (.inr (.inr (.inr (.inr (.inr (.inl ⟨by omega, by omega, by omega⟩))))))))) | exact (.inr (.inr (.inr (.inr (.inr (.inr (.inr (.inr (.inr ⟨by omega, by omega, by omega⟩))))))))))).symm)
                  · refine X.cut [] i75_28 rfl ?_
                    refine X.iconst 29 i75_28 rfl rfl (by decide) ?_
                    refine X.retz i75_29 rfl t75 (by omega) ?_
                    exact hQ 0 (by first | trivial | omega) (by omega) (by omega) (by exact (cBi_0 (by unfold cB; omega)).symm)
              · rw [h515]
                refine X.rald 16 i75_15 rfl rfl (by decide) (by show 0 ≤ _ ∧ _ < (13 : Int); omega) (fun hz521 => ?_)
                rw [zro2_11]
                clear hz521
                show X (EE s) d 75 16 [(0, zr g0 9), (1, zi a1), (2, zi a2), (3, zi 11)] [zi 0, zi a2] m _
                refine X.icmplt 28 19 i75_16 rfl rfl rfl (fun h522 => ?_) (fun h522 => ?_)
                · refine X.cut [] i75_28 rfl ?_
                  refine X.iconst 29 i75_28 rfl rfl (by decide) ?_
                  refine X.retz i75_29 rfl t75 (by omega) ?_
                  exact hQ 0 (by first | trivial | omega) (by omega) (by omega) (by exact (cBi_0 (by unfold cB; omega)).symm)
                · refine X.iload_n 20 i75_19 rfl rfl rfl ?_
                  refine X.gets 23 i75_20 rfl rfl (by decide) ?_
                  refine X.iload_n 24 i75_23 rfl rfl rfl ?_
                  refine X.rald 25 i75_24 rfl rfl (by decide) (by show 0 ≤ _ ∧ _ < (13 : Int); omega) (fun hz523 => ?_)
                  rw [zro3_11]
                  clear hz523
                  show X (EE s) d 75 25 [(0, zr g0 9), (1, zi a1), (2, zi a2), (3, zi 11)] [zi 200, zi a2] m _
                  refine X.icmple 30 28 i75_25 rfl rfl rfl (fun h524 => ?_) (fun h524 => ?_)
                  · refine X.cut [(1, zi a1), (2, zi a2)] i75_30 rfl ?_
                    refine X.iload_n 31 i75_30 rfl rfl rfl ?_
                    refine X.iconst 32 i75_31 rfl rfl (by decide) ?_
                    refine X.icmpne 69 35 i75_32 rfl rfl rfl (fun h525 => ?_) (fun h525 => (by exfalso; omega))
                    refine X.cut [] i75_69 rfl ?_
                    refine X.iconst 70 i75_69 rfl rfl (by decide) ?_
                    refine X.goto 74 i75_70 rfl rfl ?_
                    refine X.retz i75_74 rfl t75 (by omega) ?_
                    exact hQ 1 (by first | trivial | omega) (by omega) (by omega) (by exact (cBi_1 (by unfold cB; first | exact (.inl ⟨by omega, by omega, by omega⟩) | exact (.inr (.inl ⟨by omega, by omega, by omega⟩)) | exact (.inr (.inr (.inl ⟨by omega, by omega, by omega⟩))) | exact (.inr (.inr (.inr (.inl ⟨by omega, by omega, by omega⟩)))) | exact (.inr (.inr (.inr (.inr (.inl ⟨by omega, by omega⟩))))) | exact (.inr (.inr (.inr (.inr (.inr (.inl ⟨by omega, by omega, by omega⟩)))))) | exact (.inr (.inr (.inr (.inr (.inr (.inr (.inl ⟨by omega, by omega, by omega, by omega⟩))))))) | exact (.inr (.inr (.inr (.inr (.inr (.inr (.inr (.inl ⟨by omega, by omega, by omega⟩)))))))) | exact (.inr (.inr (.inr (.inr (.inr (.inr (.inr (.inr (.inl ⟨by omega, by omega, by omega⟩))))))))) | exact (.inr (.inr (.inr (.inr (.inr (.inr (.inr (.inr (.inr ⟨by omega, by omega, by omega⟩))))))))))).symm)
                  · refine X.cut [] i75_28 rfl ?_
                    refine X.iconst 29 i75_28 rfl rfl (by decide) ?_
                    refine X.retz i75_29 rfl t75 (by omega) ?_
                    exact hQ 0 (by first | trivial | omega) (by omega) (by omega) (by exact (cBi_0 (by unfold cB; omega)).symm)
              · rw [h515]
                refine X.rald 16 i75_15 rfl rfl (by decide) (by show 0 ≤ _ ∧ _ < (13 : Int); omega) (fun hz526 => ?_)
                rw [zro2_12]
                clear hz526
                show X (EE s) d 75 16 [(0, zr g0 9), (1, zi a1), (2, zi a2), (3, zi 12)] [zi 0, zi a2] m _
                refine X.icmplt 28 19 i75_16 rfl rfl rfl (fun h527 => ?_) (fun h527 => ?_)
                · refine X.cut [] i75_28 rfl ?_
                  refine X.iconst 29 i75_28 rfl rfl (by decide) ?_
                  refine X.retz i75_29 rfl t75 (by omega) ?_
                  exact hQ 0 (by first | trivial | omega) (by omega) (by omega) (by exact (cBi_0 (by unfold cB; omega)).symm)
                · refine X.iload_n 20 i75_19 rfl rfl rfl ?_
                  refine X.gets 23 i75_20 rfl rfl (by decide) ?_
                  refine X.iload_n 24 i75_23 rfl rfl rfl ?_
                  refine X.rald 25 i75_24 rfl rfl (by decide) (by show 0 ≤ _ ∧ _ < (13 : Int); omega) (fun hz528 => ?_)
                  rw [zro3_12]
                  clear hz528
                  show X (EE s) d 75 25 [(0, zr g0 9), (1, zi a1), (2, zi a2), (3, zi 12)] [zi 100, zi a2] m _
                  refine X.icmple 30 28 i75_25 rfl rfl rfl (fun h529 => ?_) (fun h529 => ?_)
                  · refine X.cut [(1, zi a1), (2, zi a2)] i75_30 rfl ?_
                    refine X.iload_n 31 i75_30 rfl rfl rfl ?_
                    refine X.iconst 32 i75_31 rfl rfl (by decide) ?_
                    refine X.icmpne 69 35 i75_32 rfl rfl rfl (fun h530 => ?_) (fun h530 => (by exfalso; omega))
                    refine X.cut [] i75_69 rfl ?_
                    refine X.iconst 70 i75_69 rfl rfl (by decide) ?_
                    refine X.goto 74 i75_70 rfl rfl ?_
                    refine X.retz i75_74 rfl t75 (by omega) ?_
                    exact hQ 1 (by first | trivial | omega) (by omega) (by omega) (by exact (cBi_1 (by unfold cB; first | exact (.inl ⟨by omega, by omega, by omega⟩) | exact (.inr (.inl ⟨by omega, by omega, by omega⟩)) | exact (.inr (.inr (.inl ⟨by omega, by omega, by omega⟩))) | exact (.inr (.inr (.inr (.inl ⟨by omega, by omega, by omega⟩)))) | exact (.inr (.inr (.inr (.inr (.inl ⟨by omega, by omega⟩))))) | exact (.inr (.inr (.inr (.inr (.inr (.inl ⟨by omega, by omega, by omega⟩)))))) | exact (.inr (.inr (.inr (.inr (.inr (.inr (.inl ⟨by omega, by omega, by omega, by omega⟩))))))) | exact (.inr (.inr (.inr (.inr (.inr (.inr (.inr (.inl ⟨by omega, by omega, by omega⟩)))))))) | exact (.inr (.inr (.inr (.inr (.inr (.inr (.inr (.inr (.inl ⟨by omega, by omega, by omega⟩))))))))) | exact (.inr (.inr (.inr (.inr (.inr (.inr (.inr (.inr (.inr ⟨by omega, by omega, by omega⟩))))))))))).symm)
                  · refine X.cut [] i75_28 rfl ?_
                    refine X.iconst 29 i75_28 rfl rfl (by decide) ?_
                    refine X.retz i75_29 rfl t75 (by omega) ?_
                    exact hQ 0 (by first | trivial | omega) (by omega) (by omega) (by exact (cBi_0 (by unfold cB; omega)).symm)
        · refine X.iload_n 24 i76_23 rfl rfl rfl ?_
          refine X.bipush 26 i76_24 rfl rfl (by decide) ?_
          refine X.isub 27 i76_26 rfl rfl (by omega) ?_
          refine X.bipush 29 i76_27 rfl rfl (by decide) ?_
          refine X.iadd 30 i76_29 rfl rfl (by omega) ?_
          refine X.reti i76_30 rfl t76 ?_
          show X (EE s) d 75 4 [(0, zr g0 9), (1, zi a1), (2, zi a2)] [zi ((a1 - 10) + 6)] m _
          refine X.istore_n 5 [(0, zr g0 9), (1, zi a1), (2, zi a2), (3, zi ((a1 - 10) + 6))] i75_4 rfl rfl rfl ?_
          refine X.iload_n 6 i75_5 rfl rfl rfl ?_
          refine X.iconst 7 i75_6 rfl rfl (by decide) ?_
          refine X.icmpeq 28 10 i75_7 rfl rfl rfl (fun h531 => (by exfalso; omega)) (fun h531 => ?_)
          refine X.iload_n 11 i75_10 rfl rfl rfl ?_
          refine X.gets 14 i75_11 rfl rfl (by decide) ?_
          refine X.iload_n 15 i75_14 rfl rfl rfl ?_
          rcases (show ((a1 - 10) + 6) = 6 ∨ ((a1 - 10) + 6) = 7 ∨ ((a1 - 10) + 6) = 8 ∨ ((a1 - 10) + 6) = 9 by omega) with h532 | h532 | h532 | h532
          · rw [h532]
            refine X.rald 16 i75_15 rfl rfl (by decide) (by show 0 ≤ _ ∧ _ < (13 : Int); omega) (fun hz533 => ?_)
            rw [zro2_6]
            clear hz533
            show X (EE s) d 75 16 [(0, zr g0 9), (1, zi a1), (2, zi a2), (3, zi 6)] [zi 0, zi a2] m _
            refine X.icmplt 28 19 i75_16 rfl rfl rfl (fun h534 => ?_) (fun h534 => ?_)
            · refine X.cut [] i75_28 rfl ?_
              refine X.iconst 29 i75_28 rfl rfl (by decide) ?_
              refine X.retz i75_29 rfl t75 (by omega) ?_
              exact hQ 0 (by first | trivial | omega) (by omega) (by omega) (by exact (cBi_0 (by unfold cB; omega)).symm)
            · refine X.iload_n 20 i75_19 rfl rfl rfl ?_
              refine X.gets 23 i75_20 rfl rfl (by decide) ?_
              refine X.iload_n 24 i75_23 rfl rfl rfl ?_
              refine X.rald 25 i75_24 rfl rfl (by decide) (by show 0 ≤ _ ∧ _ < (13 : Int); omega) (fun hz535 => ?_)
              rw [zro3_6]
              clear hz535
              show X (EE s) d 75 25 [(0, zr g0 9), (1, zi a1), (2, zi a2), (3, zi 6)] [zi 100, zi a2] m _
              refine X.icmple 30 28 i75_25 rfl rfl rfl (fun h536 => ?_) (fun h536 => ?_)
              · refine X.cut [(1, zi a1), (2, zi a2)] i75_30 rfl ?_
                refine X.iload_n 31 i75_30 rfl rfl rfl ?_
                refine X.iconst 32 i75_31 rfl rfl (by decide) ?_
                refine X.icmpne 69 35 i75_32 rfl rfl rfl (fun h537 => ?_) (fun h537 => (by exfalso; omega))
                refine X.cut [] i75_69 rfl ?_
                refine X.iconst 70 i75_69 rfl rfl (by decide) ?_
                refine X.goto 74 i75_70 rfl rfl ?_
                refine X.retz i75_74 rfl t75 (by omega) ?_
                exact hQ 1 (by first | trivial | omega) (by omega) (by omega) (by exact (cBi_1 (by unfold cB; first | exact (.inl ⟨by omega, by omega, by omega⟩) | exact (.inr (.inl ⟨by omega, by omega, by omega⟩)) | exact (.inr (.inr (.inl ⟨by omega, by omega, by omega⟩))) | exact (.inr (.inr (.inr (.inl ⟨by omega, by omega, by omega⟩)))) | exact (.inr (.inr (.inr (.inr (.inl ⟨by omega, by omega⟩))))) | exact (.inr (.inr (.inr (.inr (.inr (.inl ⟨by omega, by omega, by omega⟩)))))) | exact (.inr (.inr (.inr (.inr (.inr (.inr (.inl ⟨by omega, by omega, by omega, by omega⟩))))))) | exact (.inr (.inr (.inr (.inr (.inr (.inr (.inr (.inl ⟨by omega, by omega, by omega⟩)))))))) | exact (.inr (.inr (.inr (.inr (.inr (.inr (.inr (.inr (.inl ⟨by omega, by omega, by omega⟩))))))))) | exact (.inr (.inr (.inr (.inr (.inr (.inr (.inr (.inr (.inr ⟨by omega, by omega, by omega⟩))))))))))).symm)
              · refine X.cut [] i75_28 rfl ?_
                refine X.iconst 29 i75_28 rfl rfl (by decide) ?_
                refine X.retz i75_29 rfl t75 (by omega) ?_
                exact hQ 0 (by first | trivial | omega) (by omega) (by omega) (by exact (cBi_0 (by unfold cB; omega)).symm)
          · rw [h532]
            refine X.rald 16 i75_15 rfl rfl (by decide) (by show 0 ≤ _ ∧ _ < (13 : Int); omega) (fun hz538 => ?_)
            rw [zro2_7]
            clear hz538
            show X (EE s) d 75 16 [(0, zr g0 9), (1, zi a1), (2, zi a2), (3, zi 7)] [zi 0, zi a2] m _
            refine X.icmplt 28 19 i75_16 rfl rfl rfl (fun h539 => ?_) (fun h539 => ?_)
            · refine X.cut [] i75_28 rfl ?_
              refine X.iconst 29 i75_28 rfl rfl (by decide) ?_
              refine X.retz i75_29 rfl t75 (by omega) ?_
              exact hQ 0 (by first | trivial | omega) (by omega) (by omega) (by exact (cBi_0 (by unfold cB; omega)).symm)
            · refine X.iload_n 20 i75_19 rfl rfl rfl ?_
              refine X.gets 23 i75_20 rfl rfl (by decide) ?_
              refine X.iload_n 24 i75_23 rfl rfl rfl ?_
              refine X.rald 25 i75_24 rfl rfl (by decide) (by show 0 ≤ _ ∧ _ < (13 : Int); omega) (fun hz540 => ?_)
              rw [zro3_7]
              clear hz540
              show X (EE s) d 75 25 [(0, zr g0 9), (1, zi a1), (2, zi a2), (3, zi 7)] [zi 100, zi a2] m _
              refine X.icmple 30 28 i75_25 rfl rfl rfl (fun h541 => ?_) (fun h541 => ?_)
              · refine X.cut [(1, zi a1), (2, zi a2)] i75_30 rfl ?_
                refine X.iload_n 31 i75_30 rfl rfl rfl ?_
                refine X.iconst 32 i75_31 rfl rfl (by decide) ?_
                refine X.icmpne 69 35 i75_32 rfl rfl rfl (fun h542 => ?_) (fun h542 => (by exfalso; omega))
                refine X.cut [] i75_69 rfl ?_
                refine X.iconst 70 i75_69 rfl rfl (by decide) ?_
                refine X.goto 74 i75_70 rfl rfl ?_
                refine X.retz i75_74 rfl t75 (by omega) ?_
                exact hQ 1 (by first | trivial | omega) (by omega) (by omega) (by exact (cBi_1 (by unfold cB; first | exact (.inl ⟨by omega, by omega, by omega⟩) | exact (.inr (.inl ⟨by omega, by omega, by omega⟩)) | exact (.inr (.inr (.inl ⟨by omega, by omega, by omega⟩))) | exact (.inr (.inr (.inr (.inl ⟨by omega, by omega, by omega⟩)))) | exact (.inr (.inr (.inr (.inr (.inl ⟨by omega, by omega⟩))))) | exact (.inr (.inr (.inr (.inr (.inr (.inl ⟨by omega, by omega, by omega⟩)))))) | exact (.inr (.inr (.inr (.inr (.inr (.inr (.inl ⟨by omega, by omega, by omega, by omega⟩))))))) | exact (.inr (.inr (.inr (.inr (.inr (.inr (.inr (.inl ⟨by omega, by omega, by omega⟩)))))))) | exact (.inr (.inr (.inr (.inr (.inr (.inr (.inr (.inr (.inl ⟨by omega, by omega, by omega⟩))))))))) | exact (.inr (.inr (.inr (.inr (.inr (.inr (.inr (.inr (.inr ⟨by omega, by omega, by omega⟩))))))))))).symm)
              · refine X.cut [] i75_28 rfl ?_
                refine X.iconst 29 i75_28 rfl rfl (by decide) ?_
                refine X.retz i75_29 rfl t75 (by omega) ?_
                exact hQ 0 (by first | trivial | omega) (by omega) (by omega) (by exact (cBi_0 (by unfold cB; omega)).symm)
          · rw [h532]
            refine X.rald 16 i75_15 rfl rfl (by decide) (by show 0 ≤ _ ∧ _ < (13 : Int); omega) (fun hz543 => ?_)
            rw [zro2_8]
            clear hz543
            show X (EE s) d 75 16 [(0, zr g0 9), (1, zi a1), (2, zi a2), (3, zi 8)] [zi 0, zi a2] m _
            refine X.icmplt 28 19 i75_16 rfl rfl rfl (fun h544 => ?_) (fun h544 => ?_)
            · refine X.cut [] i75_28 rfl ?_
              refine X.iconst 29 i75_28 rfl rfl (by decide) ?_
              refine X.retz i75_29 rfl t75 (by omega) ?_
              exact hQ 0 (by first | trivial | omega) (by omega) (by omega) (by exact (cBi_0 (by unfold cB; omega)).symm)
            · refine X.iload_n 20 i75_19 rfl rfl rfl ?_
              refine X.gets 23 i75_20 rfl rfl (by decide) ?_
              refine X.iload_n 24 i75_23 rfl rfl rfl ?_
              refine X.rald 25 i75_24 rfl rfl (by decide) (by show 0 ≤ _ ∧ _ < (13 : Int); omega) (fun hz545 => ?_)
              rw [zro3_8]
              clear hz545
              show X (EE s) d 75 25 [(0, zr g0 9), (1, zi a1), (2, zi a2), (3, zi 8)] [zi 100, zi a2] m _
              refine X.icmple 30 28 i75_25 rfl rfl rfl (fun h546 => ?_) (fun h546 => ?_)
              · refine X.cut [(1, zi a1), (2, zi a2)] i75_30 rfl ?_
                refine X.iload_n 31 i75_30 rfl rfl rfl ?_
                refine X.iconst 32 i75_31 rfl rfl (by decide) ?_
                refine X.icmpne 69 35 i75_32 rfl rfl rfl (fun h547 => ?_) (fun h547 => (by exfalso; omega))
                refine X.cut [] i75_69 rfl ?_
                refine X.iconst 70 i75_69 rfl rfl (by decide) ?_
                refine X.goto 74 i75_70 rfl rfl ?_
                refine X.retz i75_74 rfl t75 (by omega) ?_
                exact hQ 1 (by first | trivial | omega) (by omega) (by omega) (by exact (cBi_1 (by unfold cB; first | exact (.inl ⟨by omega, by omega, by omega⟩) | exact (.inr (.inl ⟨by omega, by omega, by omega⟩)) | exact (.inr (.inr (.inl ⟨by omega, by omega, by omega⟩))) | exact (.inr (.inr (.inr (.inl ⟨by omega, by omega, by omega⟩)))) | exact (.inr (.inr (.inr (.inr (.inl ⟨by omega, by omega⟩))))) | exact (.inr (.inr (.inr (.inr (.inr (.inl ⟨by omega, by omega, by omega⟩)))))) | exact (.inr (.inr (.inr (.inr (.inr (.inr (.inl ⟨by omega, by omega, by omega, by omega⟩))))))) | exact (.inr (.inr (.inr (.inr (.inr (.inr (.inr (.inl ⟨by omega, by omega, by omega⟩)))))))) | exact (.inr (.inr (.inr (.inr (.inr (.inr (.inr (.inr (.inl ⟨by omega, by omega, by omega⟩))))))))) | exact (.inr (.inr (.inr (.inr (.inr (.inr (.inr (.inr (.inr ⟨by omega, by omega, by omega⟩))))))))))).symm)
              · refine X.cut [] i75_28 rfl ?_
                refine X.iconst 29 i75_28 rfl rfl (by decide) ?_
                refine X.retz i75_29 rfl t75 (by omega) ?_
                exact hQ 0 (by first | trivial | omega) (by omega) (by omega) (by exact (cBi_0 (by unfold cB; omega)).symm)
          · rw [h532]
            refine X.rald 16 i75_15 rfl rfl (by decide) (by show 0 ≤ _ ∧ _ < (13 : Int); omega) (fun hz548 => ?_)
            rw [zro2_9]
            clear hz548
            show X (EE s) d 75 16 [(0, zr g0 9), (1, zi a1), (2, zi a2), (3, zi 9)] [zi 0, zi a2] m _
            refine X.icmplt 28 19 i75_16 rfl rfl rfl (fun h549 => ?_) (fun h549 => ?_)
            · refine X.cut [] i75_28 rfl ?_
              refine X.iconst 29 i75_28 rfl rfl (by decide) ?_
              refine X.retz i75_29 rfl t75 (by omega) ?_
              exact hQ 0 (by first | trivial | omega) (by omega) (by omega) (by exact (cBi_0 (by unfold cB; omega)).symm)
            · refine X.iload_n 20 i75_19 rfl rfl rfl ?_
              refine X.gets 23 i75_20 rfl rfl (by decide) ?_
              refine X.iload_n 24 i75_23 rfl rfl rfl ?_
              refine X.rald 25 i75_24 rfl rfl (by decide) (by show 0 ≤ _ ∧ _ < (13 : Int); omega) (fun hz550 => ?_)
              rw [zro3_9]
              clear hz550
              show X (EE s) d 75 25 [(0, zr g0 9), (1, zi a1), (2, zi a2), (3, zi 9)] [zi 100, zi a2] m _
              refine X.icmple 30 28 i75_25 rfl rfl rfl (fun h551 => ?_) (fun h551 => ?_)
              · refine X.cut [(1, zi a1), (2, zi a2)] i75_30 rfl ?_
                refine X.iload_n 31 i75_30 rfl rfl rfl ?_
                refine X.iconst 32 i75_31 rfl rfl (by decide) ?_
                refine X.icmpne 69 35 i75_32 rfl rfl rfl (fun h552 => ?_) (fun h552 => (by exfalso; omega))
                refine X.cut [] i75_69 rfl ?_
                refine X.iconst 70 i75_69 rfl rfl (by decide) ?_
                refine X.goto 74 i75_70 rfl rfl ?_
                refine X.retz i75_74 rfl t75 (by omega) ?_
                exact hQ 1 (by first | trivial | omega) (by omega) (by omega) (by exact (cBi_1 (by unfold cB; first | exact (.inl ⟨by omega, by omega, by omega⟩) | exact (.inr (.inl ⟨by omega, by omega, by omega⟩)) | exact (.inr (.inr (.inl ⟨by omega, by omega, by omega⟩))) | exact (.inr (.inr (.inr (.inl ⟨by omega, by omega, by omega⟩)))) | exact (.inr (.inr (.inr (.inr (.inl ⟨by omega, by omega⟩))))) | exact (.inr (.inr (.inr (.inr (.inr (.inl ⟨by omega, by omega, by omega⟩)))))) | exact (.inr (.inr (.inr (.inr (.inr (.inr (.inl ⟨by omega, by omega, by omega, by omega⟩))))))) | exact (.inr (.inr (.inr (.inr (.inr (.inr (.inr (.inl ⟨by omega, by omega, by omega⟩)))))))) | exact (.inr (.inr (.inr (.inr (.inr (.inr (.inr (.inr (.inl ⟨by omega, by omega, by omega⟩))))))))) | exact (.inr (.inr (.inr (.inr (.inr (.inr (.inr (.inr (.inr ⟨by omega, by omega, by omega⟩))))))))))).symm)
              · refine X.cut [] i75_28 rfl ?_
                refine X.iconst 29 i75_28 rfl rfl (by decide) ?_
                refine X.retz i75_29 rfl t75 (by omega) ?_
                exact hQ 0 (by first | trivial | omega) (by omega) (by omega) (by exact (cBi_0 (by unfold cB; omega)).symm)
    · refine X.iload_n 10 i76_9 rfl rfl rfl ?_
      refine X.reti i76_10 rfl t76 ?_
      show X (EE s) d 75 4 [(0, zr g0 9), (1, zi a1), (2, zi a2)] [zi a1] m _
      refine X.istore_n 5 [(0, zr g0 9), (1, zi a1), (2, zi a2), (3, zi a1)] i75_4 rfl rfl rfl ?_
      refine X.iload_n 6 i75_5 rfl rfl rfl ?_
      refine X.iconst 7 i75_6 rfl rfl (by decide) ?_
      refine X.icmpeq 28 10 i75_7 rfl rfl rfl (fun h553 => (by exfalso; omega)) (fun h553 => ?_)
      refine X.iload_n 11 i75_10 rfl rfl rfl ?_
      refine X.gets 14 i75_11 rfl rfl (by decide) ?_
      refine X.iload_n 15 i75_14 rfl rfl rfl ?_
      rcases (show a1 = 0 ∨ a1 = 1 ∨ a1 = 2 ∨ a1 = 3 ∨ a1 = 4 ∨ a1 = 5 by omega) with h554 | h554 | h554 | h554 | h554 | h554
      · rw [h554]
        refine X.rald 16 i75_15 rfl rfl (by decide) (by show 0 ≤ _ ∧ _ < (13 : Int); omega) (fun hz555 => ?_)
        rw [zro2_0]
        clear hz555
        show X (EE s) d 75 16 [(0, zr g0 9), (1, zi 0), (2, zi a2), (3, zi 0)] [zi 0, zi a2] m _
        refine X.icmplt 28 19 i75_16 rfl rfl rfl (fun h556 => ?_) (fun h556 => ?_)
        · refine X.cut [] i75_28 rfl ?_
          refine X.iconst 29 i75_28 rfl rfl (by decide) ?_
          refine X.retz i75_29 rfl t75 (by omega) ?_
          exact hQ 0 (by first | trivial | omega) (by omega) (by omega) (by exact (cBi_0 (by unfold cB; omega)).symm)
        · refine X.iload_n 20 i75_19 rfl rfl rfl ?_
          refine X.gets 23 i75_20 rfl rfl (by decide) ?_
          refine X.iload_n 24 i75_23 rfl rfl rfl ?_
          refine X.rald 25 i75_24 rfl rfl (by decide) (by show 0 ≤ _ ∧ _ < (13 : Int); omega) (fun hz557 => ?_)
          rw [zro3_0]
          clear hz557
          show X (EE s) d 75 25 [(0, zr g0 9), (1, zi 0), (2, zi a2), (3, zi 0)] [zi 1000000, zi a2] m _
          refine X.icmple 30 28 i75_25 rfl rfl rfl (fun h558 => ?_) (fun h558 => ?_)
          · refine X.cut [(1, zi 0), (2, zi a2)] i75_30 rfl ?_
            refine X.iload_n 31 i75_30 rfl rfl rfl ?_
            refine X.iconst 32 i75_31 rfl rfl (by decide) ?_
            refine X.icmpne 69 35 i75_32 rfl rfl rfl (fun h559 => ?_) (fun h559 => (by exfalso; omega))
            refine X.cut [] i75_69 rfl ?_
            refine X.iconst 70 i75_69 rfl rfl (by decide) ?_
            refine X.goto 74 i75_70 rfl rfl ?_
            refine X.retz i75_74 rfl t75 (by omega) ?_
            exact hQ 1 (by first | trivial | omega) (by omega) (by omega) (by exact (cBi_1 (by unfold cB; first | exact (.inl ⟨by omega, by omega, by omega⟩) | exact (.inr (.inl ⟨by omega, by omega, by omega⟩)) | exact (.inr (.inr (.inl ⟨by omega, by omega, by omega⟩))) | exact (.inr (.inr (.inr (.inl ⟨by omega, by omega, by omega⟩)))) | exact (.inr (.inr (.inr (.inr (.inl ⟨by omega, by omega⟩))))) | exact (.inr (.inr (.inr (.inr (.inr (.inl ⟨by omega, by omega, by omega⟩)))))) | exact (.inr (.inr (.inr (.inr (.inr (.inr (.inl ⟨by omega, by omega, by omega, by omega⟩))))))) | exact (.inr (.inr (.inr (.inr (.inr (.inr (.inr (.inl ⟨by omega, by omega, by omega⟩)))))))) | exact (.inr (.inr (.inr (.inr (.inr (.inr (.inr (.inr (.inl ⟨by omega, by omega, by omega⟩))))))))) | exact (.inr (.inr (.inr (.inr (.inr (.inr (.inr (.inr (.inr ⟨by omega, by omega, by omega⟩))))))))))).symm)
          · refine X.cut [] i75_28 rfl ?_
            refine X.iconst 29 i75_28 rfl rfl (by decide) ?_
            refine X.retz i75_29 rfl t75 (by omega) ?_
            exact hQ 0 (by first | trivial | omega) (by omega) (by omega) (by exact (cBi_0 (by unfold cB; omega)).symm)
      · rw [h554]
        refine X.rald 16 i75_15 rfl rfl (by decide) (by show 0 ≤ _ ∧ _ < (13 : Int); omega) (fun hz560 => ?_)
        rw [zro2_1]
        clear hz560
        show X (EE s) d 75 16 [(0, zr g0 9), (1, zi 1), (2, zi a2), (3, zi 1)] [zi 1, zi a2] m _
        refine X.icmplt 28 19 i75_16 rfl rfl rfl (fun h561 => ?_) (fun h561 => ?_)
        · refine X.cut [] i75_28 rfl ?_
          refine X.iconst 29 i75_28 rfl rfl (by decide) ?_
          refine X.retz i75_29 rfl t75 (by omega) ?_
          exact hQ 0 (by first | trivial | omega) (by omega) (by omega) (by exact (cBi_0 (by unfold cB; omega)).symm)
        · refine X.iload_n 20 i75_19 rfl rfl rfl ?_
          refine X.gets 23 i75_20 rfl rfl (by decide) ?_
          refine X.iload_n 24 i75_23 rfl rfl rfl ?_
          refine X.rald 25 i75_24 rfl rfl (by decide) (by show 0 ≤ _ ∧ _ < (13 : Int); omega) (fun hz562 => ?_)
          rw [zro3_1]
          clear hz562
          show X (EE s) d 75 25 [(0, zr g0 9), (1, zi 1), (2, zi a2), (3, zi 1)] [zi 1000000, zi a2] m _
          refine X.icmple 30 28 i75_25 rfl rfl rfl (fun h563 => ?_) (fun h563 => ?_)
          · refine X.cut [(1, zi 1), (2, zi a2)] i75_30 rfl ?_
            refine X.iload_n 31 i75_30 rfl rfl rfl ?_
            refine X.iconst 32 i75_31 rfl rfl (by decide) ?_
            refine X.icmpne 69 35 i75_32 rfl rfl rfl (fun h564 => ?_) (fun h564 => (by exfalso; omega))
            refine X.cut [] i75_69 rfl ?_
            refine X.iconst 70 i75_69 rfl rfl (by decide) ?_
            refine X.goto 74 i75_70 rfl rfl ?_
            refine X.retz i75_74 rfl t75 (by omega) ?_
            exact hQ 1 (by first | trivial | omega) (by omega) (by omega) (by exact (cBi_1 (by unfold cB; first | exact (.inl ⟨by omega, by omega, by omega⟩) | exact (.inr (.inl ⟨by omega, by omega, by omega⟩)) | exact (.inr (.inr (.inl ⟨by omega, by omega, by omega⟩))) | exact (.inr (.inr (.inr (.inl ⟨by omega, by omega, by omega⟩)))) | exact (.inr (.inr (.inr (.inr (.inl ⟨by omega, by omega⟩))))) | exact (.inr (.inr (.inr (.inr (.inr (.inl ⟨by omega, by omega, by omega⟩)))))) | exact (.inr (.inr (.inr (.inr (.inr (.inr (.inl ⟨by omega, by omega, by omega, by omega⟩))))))) | exact (.inr (.inr (.inr (.inr (.inr (.inr (.inr (.inl ⟨by omega, by omega, by omega⟩)))))))) | exact (.inr (.inr (.inr (.inr (.inr (.inr (.inr (.inr (.inl ⟨by omega, by omega, by omega⟩))))))))) | exact (.inr (.inr (.inr (.inr (.inr (.inr (.inr (.inr (.inr ⟨by omega, by omega, by omega⟩))))))))))).symm)
          · refine X.cut [] i75_28 rfl ?_
            refine X.iconst 29 i75_28 rfl rfl (by decide) ?_
            refine X.retz i75_29 rfl t75 (by omega) ?_
            exact hQ 0 (by first | trivial | omega) (by omega) (by omega) (by exact (cBi_0 (by unfold cB; omega)).symm)
      · rw [h554]
        refine X.rald 16 i75_15 rfl rfl (by decide) (by show 0 ≤ _ ∧ _ < (13 : Int); omega) (fun hz565 => ?_)
        rw [zro2_2]
        clear hz565
        show X (EE s) d 75 16 [(0, zr g0 9), (1, zi 2), (2, zi a2), (3, zi 2)] [zi 0, zi a2] m _
        refine X.icmplt 28 19 i75_16 rfl rfl rfl (fun h566 => ?_) (fun h566 => ?_)
        · refine X.cut [] i75_28 rfl ?_
          refine X.iconst 29 i75_28 rfl rfl (by decide) ?_
          refine X.retz i75_29 rfl t75 (by omega) ?_
          exact hQ 0 (by first | trivial | omega) (by omega) (by omega) (by exact (cBi_0 (by unfold cB; omega)).symm)
        · refine X.iload_n 20 i75_19 rfl rfl rfl ?_
          refine X.gets 23 i75_20 rfl rfl (by decide) ?_
          refine X.iload_n 24 i75_23 rfl rfl rfl ?_
          refine X.rald 25 i75_24 rfl rfl (by decide) (by show 0 ≤ _ ∧ _ < (13 : Int); omega) (fun hz567 => ?_)
          rw [zro3_2]
          clear hz567
          show X (EE s) d 75 25 [(0, zr g0 9), (1, zi 2), (2, zi a2), (3, zi 2)] [zi 250000, zi a2] m _
          refine X.icmple 30 28 i75_25 rfl rfl rfl (fun h568 => ?_) (fun h568 => ?_)
          · refine X.cut [(1, zi 2), (2, zi a2)] i75_30 rfl ?_
            refine X.iload_n 31 i75_30 rfl rfl rfl ?_
            refine X.iconst 32 i75_31 rfl rfl (by decide) ?_
            refine X.icmpne 69 35 i75_32 rfl rfl rfl (fun h569 => ?_) (fun h569 => (by exfalso; omega))
            refine X.cut [] i75_69 rfl ?_
            refine X.iconst 70 i75_69 rfl rfl (by decide) ?_
            refine X.goto 74 i75_70 rfl rfl ?_
            refine X.retz i75_74 rfl t75 (by omega) ?_
            exact hQ 1 (by first | trivial | omega) (by omega) (by omega) (by exact (cBi_1 (by unfold cB; first | exact (.inl ⟨by omega, by omega, by omega⟩) | exact (.inr (.inl ⟨by omega, by omega, by omega⟩)) | exact (.inr (.inr (.inl ⟨by omega, by omega, by omega⟩))) | exact (.inr (.inr (.inr (.inl ⟨by omega, by omega, by omega⟩)))) | exact (.inr (.inr (.inr (.inr (.inl ⟨by omega, by omega⟩))))) | exact (.inr (.inr (.inr (.inr (.inr (.inl ⟨by omega, by omega, by omega⟩)))))) | exact (.inr (.inr (.inr (.inr (.inr (.inr (.inl ⟨by omega, by omega, by omega, by omega⟩))))))) | exact (.inr (.inr (.inr (.inr (.inr (.inr (.inr (.inl ⟨by omega, by omega, by omega⟩)))))))) | exact (.inr (.inr (.inr (.inr (.inr (.inr (.inr (.inr (.inl ⟨by omega, by omega, by omega⟩))))))))) | exact (.inr (.inr (.inr (.inr (.inr (.inr (.inr (.inr (.inr ⟨by omega, by omega, by omega⟩))))))))))).symm)
          · refine X.cut [] i75_28 rfl ?_
            refine X.iconst 29 i75_28 rfl rfl (by decide) ?_
            refine X.retz i75_29 rfl t75 (by omega) ?_
            exact hQ 0 (by first | trivial | omega) (by omega) (by omega) (by exact (cBi_0 (by unfold cB; omega)).symm)
      · rw [h554]
        refine X.rald 16 i75_15 rfl rfl (by decide) (by show 0 ≤ _ ∧ _ < (13 : Int); omega) (fun hz570 => ?_)
        rw [zro2_3]
        clear hz570
        show X (EE s) d 75 16 [(0, zr g0 9), (1, zi 3), (2, zi a2), (3, zi 3)] [zi 0, zi a2] m _
        refine X.icmplt 28 19 i75_16 rfl rfl rfl (fun h571 => ?_) (fun h571 => ?_)
        · refine X.cut [] i75_28 rfl ?_
          refine X.iconst 29 i75_28 rfl rfl (by decide) ?_
          refine X.retz i75_29 rfl t75 (by omega) ?_
          exact hQ 0 (by first | trivial | omega) (by omega) (by omega) (by exact (cBi_0 (by unfold cB; omega)).symm)
        · refine X.iload_n 20 i75_19 rfl rfl rfl ?_
          refine X.gets 23 i75_20 rfl rfl (by decide) ?_
          refine X.iload_n 24 i75_23 rfl rfl rfl ?_
          refine X.rald 25 i75_24 rfl rfl (by decide) (by show 0 ≤ _ ∧ _ < (13 : Int); omega) (fun hz572 => ?_)
          rw [zro3_3]
          clear hz572
          show X (EE s) d 75 25 [(0, zr g0 9), (1, zi 3), (2, zi a2), (3, zi 3)] [zi 60, zi a2] m _
          refine X.icmple 30 28 i75_25 rfl rfl rfl (fun h573 => ?_) (fun h573 => ?_)
          · refine X.cut [(1, zi 3), (2, zi a2)] i75_30 rfl ?_
            refine X.iload_n 31 i75_30 rfl rfl rfl ?_
            refine X.iconst 32 i75_31 rfl rfl (by decide) ?_
            refine X.icmpne 69 35 i75_32 rfl rfl rfl (fun h574 => ?_) (fun h574 => (by exfalso; omega))
            refine X.cut [] i75_69 rfl ?_
            refine X.iconst 70 i75_69 rfl rfl (by decide) ?_
            refine X.goto 74 i75_70 rfl rfl ?_
            refine X.retz i75_74 rfl t75 (by omega) ?_
            exact hQ 1 (by first | trivial | omega) (by omega) (by omega) (by exact (cBi_1 (by unfold cB; first | exact (.inl ⟨by omega, by omega, by omega⟩) | exact (.inr (.inl ⟨by omega, by omega, by omega⟩)) | exact (.inr (.inr (.inl ⟨by omega, by omega, by omega⟩))) | exact (.inr (.inr (.inr (.inl ⟨by omega, by omega, by omega⟩)))) | exact (.inr (.inr (.inr (.inr (.inl ⟨by omega, by omega⟩))))) | exact (.inr (.inr (.inr (.inr (.inr (.inl ⟨by omega, by omega, by omega⟩)))))) | exact (.inr (.inr (.inr (.inr (.inr (.inr (.inl ⟨by omega, by omega, by omega, by omega⟩))))))) | exact (.inr (.inr (.inr (.inr (.inr (.inr (.inr (.inl ⟨by omega, by omega, by omega⟩)))))))) | exact (.inr (.inr (.inr (.inr (.inr (.inr (.inr (.inr (.inl ⟨by omega, by omega, by omega⟩))))))))) | exact (.inr (.inr (.inr (.inr (.inr (.inr (.inr (.inr (.inr ⟨by omega, by omega, by omega⟩))))))))))).symm)
          · refine X.cut [] i75_28 rfl ?_
            refine X.iconst 29 i75_28 rfl rfl (by decide) ?_
            refine X.retz i75_29 rfl t75 (by omega) ?_
            exact hQ 0 (by first | trivial | omega) (by omega) (by omega) (by exact (cBi_0 (by unfold cB; omega)).symm)
      · rw [h554]
        refine X.rald 16 i75_15 rfl rfl (by decide) (by show 0 ≤ _ ∧ _ < (13 : Int); omega) (fun hz575 => ?_)
        rw [zro2_4]
        clear hz575
        show X (EE s) d 75 16 [(0, zr g0 9), (1, zi 4), (2, zi a2), (3, zi 4)] [zi 60, zi a2] m _
        refine X.icmplt 28 19 i75_16 rfl rfl rfl (fun h576 => ?_) (fun h576 => ?_)
        · refine X.cut [] i75_28 rfl ?_
          refine X.iconst 29 i75_28 rfl rfl (by decide) ?_
          refine X.retz i75_29 rfl t75 (by omega) ?_
          exact hQ 0 (by first | trivial | omega) (by omega) (by omega) (by exact (cBi_0 (by unfold cB; omega)).symm)
        · refine X.iload_n 20 i75_19 rfl rfl rfl ?_
          refine X.gets 23 i75_20 rfl rfl (by decide) ?_
          refine X.iload_n 24 i75_23 rfl rfl rfl ?_
          refine X.rald 25 i75_24 rfl rfl (by decide) (by show 0 ≤ _ ∧ _ < (13 : Int); omega) (fun hz577 => ?_)
          rw [zro3_4]
          clear hz577
          show X (EE s) d 75 25 [(0, zr g0 9), (1, zi 4), (2, zi a2), (3, zi 4)] [zi 3600, zi a2] m _
          refine X.icmple 30 28 i75_25 rfl rfl rfl (fun h578 => ?_) (fun h578 => ?_)
          · refine X.cut [(1, zi 4), (2, zi a2)] i75_30 rfl ?_
            refine X.iload_n 31 i75_30 rfl rfl rfl ?_
            refine X.iconst 32 i75_31 rfl rfl (by decide) ?_
            refine X.icmpne 69 35 i75_32 rfl rfl rfl (fun h579 => (by exfalso; omega)) (fun h579 => ?_)
            refine X.iload_n 36 i75_35 rfl rfl rfl ?_
            refine X.bipush 38 i75_36 rfl rfl (by decide) ?_
            refine X.icmpeq 69 41 i75_38 rfl rfl rfl (fun h580 => ?_) (fun h580 => ?_)
            · refine X.cut [] i75_69 rfl ?_
              refine X.iconst 70 i75_69 rfl rfl (by decide) ?_
              refine X.goto 74 i75_70 rfl rfl ?_
              refine X.retz i75_74 rfl t75 (by omega) ?_
              exact hQ 1 (by first | trivial | omega) (by omega) (by omega) (by exact (cBi_1 (by unfold cB; first | exact (.inl ⟨by omega, by omega, by omega⟩) | exact (.inr (.inl ⟨by omega, by omega, by omega⟩)) | exact (.inr (.inr (.inl ⟨by omega, by omega, by omega⟩))) | exact (.inr (.inr (.inr (.inl ⟨by omega, by omega, by omega⟩)))) | exact (.inr (.inr (.inr (.inr (.inl ⟨by omega, by omega⟩))))) | exact (.inr (.inr (.inr (.inr (.inr (.inl ⟨by omega, by omega, by omega⟩)))))) | exact (.inr (.inr (.inr (.inr (.inr (.inr (.inl ⟨by omega, by omega, by omega, by omega⟩))))))) | exact (.inr (.inr (.inr (.inr (.inr (.inr (.inr (.inl ⟨by omega, by omega, by omega⟩)))))))) | exact (.inr (.inr (.inr (.inr (.inr (.inr (.inr (.inr (.inl ⟨by omega, by omega, by omega⟩))))))))) | exact (.inr (.inr (.inr (.inr (.inr (.inr (.inr (.inr (.inr ⟨by omega, by omega, by omega⟩))))))))))).symm)
            · refine X.iload_n 42 i75_41 rfl rfl rfl ?_
              refine X.sipush 45 i75_42 rfl rfl (by decide) ?_
              refine X.icmpeq 69 48 i75_45 rfl rfl rfl (fun h581 => ?_) (fun h581 => ?_)
              · refine X.cut [] i75_69 rfl ?_
                refine X.iconst 70 i75_69 rfl rfl (by decide) ?_
                refine X.goto 74 i75_70 rfl rfl ?_
                refine X.retz i75_74 rfl t75 (by omega) ?_
                exact hQ 1 (by first | trivial | omega) (by omega) (by omega) (by exact (cBi_1 (by unfold cB; first | exact (.inl ⟨by omega, by omega, by omega⟩) | exact (.inr (.inl ⟨by omega, by omega, by omega⟩)) | exact (.inr (.inr (.inl ⟨by omega, by omega, by omega⟩))) | exact (.inr (.inr (.inr (.inl ⟨by omega, by omega, by omega⟩)))) | exact (.inr (.inr (.inr (.inr (.inl ⟨by omega, by omega⟩))))) | exact (.inr (.inr (.inr (.inr (.inr (.inl ⟨by omega, by omega, by omega⟩)))))) | exact (.inr (.inr (.inr (.inr (.inr (.inr (.inl ⟨by omega, by omega, by omega, by omega⟩))))))) | exact (.inr (.inr (.inr (.inr (.inr (.inr (.inr (.inl ⟨by omega, by omega, by omega⟩)))))))) | exact (.inr (.inr (.inr (.inr (.inr (.inr (.inr (.inr (.inl ⟨by omega, by omega, by omega⟩))))))))) | exact (.inr (.inr (.inr (.inr (.inr (.inr (.inr (.inr (.inr ⟨by omega, by omega, by omega⟩))))))))))).symm)
              · refine X.iload_n 49 i75_48 rfl rfl rfl ?_
                refine X.sipush 52 i75_49 rfl rfl (by decide) ?_
                refine X.icmpeq 69 55 i75_52 rfl rfl rfl (fun h582 => ?_) (fun h582 => ?_)
                · refine X.cut [] i75_69 rfl ?_
                  refine X.iconst 70 i75_69 rfl rfl (by decide) ?_
                  refine X.goto 74 i75_70 rfl rfl ?_
                  refine X.retz i75_74 rfl t75 (by omega) ?_
                  exact hQ 1 (by first | trivial | omega) (by omega) (by omega) (by exact (cBi_1 (by unfold cB; first | exact (.inl ⟨by omega, by omega, by omega⟩) | exact (.inr (.inl ⟨by omega, by omega, by omega⟩)) | exact (.inr (.inr (.inl ⟨by omega, by omega, by omega⟩))) | exact (.inr (.inr (.inr (.inl ⟨by omega, by omega, by omega⟩)))) | exact (.inr (.inr (.inr (.inr (.inl ⟨by omega, by omega⟩))))) | exact (.inr (.inr (.inr (.inr (.inr (.inl ⟨by omega, by omega, by omega⟩)))))) | exact (.inr (.inr (.inr (.inr (.inr (.inr (.inl ⟨by omega, by omega, by omega, by omega⟩))))))) | exact (.inr (.inr (.inr (.inr (.inr (.inr (.inr (.inl ⟨by omega, by omega, by omega⟩)))))))) | exact (.inr (.inr (.inr (.inr (.inr (.inr (.inr (.inr (.inl ⟨by omega, by omega, by omega⟩))))))))) | exact (.inr (.inr (.inr (.inr (.inr (.inr (.inr (.inr (.inr ⟨by omega, by omega, by omega⟩))))))))))).symm)
                · refine X.iload_n 56 i75_55 rfl rfl rfl ?_
                  refine X.sipush 59 i75_56 rfl rfl (by decide) ?_
                  refine X.icmpeq 69 62 i75_59 rfl rfl rfl (fun h583 => ?_) (fun h583 => ?_)
                  · refine X.cut [] i75_69 rfl ?_
                    refine X.iconst 70 i75_69 rfl rfl (by decide) ?_
                    refine X.goto 74 i75_70 rfl rfl ?_
                    refine X.retz i75_74 rfl t75 (by omega) ?_
                    exact hQ 1 (by first | trivial | omega) (by omega) (by omega) (by exact (cBi_1 (by unfold cB; first | exact (.inl ⟨by omega, by omega, by omega⟩) | exact (.inr (.inl ⟨by omega, by omega, by omega⟩)) | exact (.inr (.inr (.inl ⟨by omega, by omega, by omega⟩))) | exact (.inr (.inr (.inr (.inl ⟨by omega, by omega, by omega⟩)))) | exact (.inr (.inr (.inr (.inr (.inl ⟨by omega, by omega⟩))))) | exact (.inr (.inr (.inr (.inr (.inr (.inl ⟨by omega, by omega, by omega⟩)))))) | exact (.inr (.inr (.inr (.inr (.inr (.inr (.inl ⟨by omega, by omega, by omega, by omega⟩))))))) | exact (.inr (.inr (.inr (.inr (.inr (.inr (.inr (.inl ⟨by omega, by omega, by omega⟩)))))))) | exact (.inr (.inr (.inr (.inr (.inr (.inr (.inr (.inr (.inl ⟨by omega, by omega, by omega⟩))))))))) | exact (.inr (.inr (.inr (.inr (.inr (.inr (.inr (.inr (.inr ⟨by omega, by omega, by omega⟩))))))))))).symm)
                  · refine X.iload_n 63 i75_62 rfl rfl rfl ?_
                    refine X.sipush 66 i75_63 rfl rfl (by decide) ?_
                    refine X.icmpne 73 69 i75_66 rfl rfl rfl (fun h584 => ?_) (fun h584 => ?_)
                    · refine X.cut [] i75_73 rfl ?_
                      refine X.iconst 74 i75_73 rfl rfl (by decide) ?_
                      refine X.retz i75_74 rfl t75 (by omega) ?_
                      exact hQ 0 (by first | trivial | omega) (by omega) (by omega) (by exact (cBi_0 (by unfold cB; omega)).symm)
                    · refine X.cut [] i75_69 rfl ?_
                      refine X.iconst 70 i75_69 rfl rfl (by decide) ?_
                      refine X.goto 74 i75_70 rfl rfl ?_
                      refine X.retz i75_74 rfl t75 (by omega) ?_
                      exact hQ 1 (by first | trivial | omega) (by omega) (by omega) (by exact (cBi_1 (by unfold cB; first | exact (.inl ⟨by omega, by omega, by omega⟩) | exact (.inr (.inl ⟨by omega, by omega, by omega⟩)) | exact (.inr (.inr (.inl ⟨by omega, by omega, by omega⟩))) | exact (.inr (.inr (.inr (.inl ⟨by omega, by omega, by omega⟩)))) | exact (.inr (.inr (.inr (.inr (.inl ⟨by omega, by omega⟩))))) | exact (.inr (.inr (.inr (.inr (.inr (.inl ⟨by omega, by omega, by omega⟩)))))) | exact (.inr (.inr (.inr (.inr (.inr (.inr (.inl ⟨by omega, by omega, by omega, by omega⟩))))))) | exact (.inr (.inr (.inr (.inr (.inr (.inr (.inr (.inl ⟨by omega, by omega, by omega⟩)))))))) | exact (.inr (.inr (.inr (.inr (.inr (.inr (.inr (.inr (.inl ⟨by omega, by omega, by omega⟩))))))))) | exact (.inr (.inr (.inr (.inr (.inr (.inr (.inr (.inr (.inr ⟨by omega, by omega, by omega⟩))))))))))).symm)
          · refine X.cut [] i75_28 rfl ?_
            refine X.iconst 29 i75_28 rfl rfl (by decide) ?_
            refine X.retz i75_29 rfl t75 (by omega) ?_
            exact hQ 0 (by first | trivial | omega) (by omega) (by omega) (by exact (cBi_0 (by unfold cB; omega)).symm)
      · rw [h554]
        refine X.rald 16 i75_15 rfl rfl (by decide) (by show 0 ≤ _ ∧ _ < (13 : Int); omega) (fun hz585 => ?_)
        rw [zro2_5]
        clear hz585
        show X (EE s) d 75 16 [(0, zr g0 9), (1, zi 5), (2, zi a2), (3, zi 5)] [zi 1, zi a2] m _
        refine X.icmplt 28 19 i75_16 rfl rfl rfl (fun h586 => ?_) (fun h586 => ?_)
        · refine X.cut [] i75_28 rfl ?_
          refine X.iconst 29 i75_28 rfl rfl (by decide) ?_
          refine X.retz i75_29 rfl t75 (by omega) ?_
          exact hQ 0 (by first | trivial | omega) (by omega) (by omega) (by exact (cBi_0 (by unfold cB; omega)).symm)
        · refine X.iload_n 20 i75_19 rfl rfl rfl ?_
          refine X.gets 23 i75_20 rfl rfl (by decide) ?_
          refine X.iload_n 24 i75_23 rfl rfl rfl ?_
          refine X.rald 25 i75_24 rfl rfl (by decide) (by show 0 ≤ _ ∧ _ < (13 : Int); omega) (fun hz587 => ?_)
          rw [zro3_5]
          clear hz587
          show X (EE s) d 75 25 [(0, zr g0 9), (1, zi 5), (2, zi a2), (3, zi 5)] [zi 6, zi a2] m _
          refine X.icmple 30 28 i75_25 rfl rfl rfl (fun h588 => ?_) (fun h588 => ?_)
          · refine X.cut [(1, zi 5), (2, zi a2)] i75_30 rfl ?_
            refine X.iload_n 31 i75_30 rfl rfl rfl ?_
            refine X.iconst 32 i75_31 rfl rfl (by decide) ?_
            refine X.icmpne 69 35 i75_32 rfl rfl rfl (fun h589 => ?_) (fun h589 => (by exfalso; omega))
            refine X.cut [] i75_69 rfl ?_
            refine X.iconst 70 i75_69 rfl rfl (by decide) ?_
            refine X.goto 74 i75_70 rfl rfl ?_
            refine X.retz i75_74 rfl t75 (by omega) ?_
            exact hQ 1 (by first | trivial | omega) (by omega) (by omega) (by exact (cBi_1 (by unfold cB; first | exact (.inl ⟨by omega, by omega, by omega⟩) | exact (.inr (.inl ⟨by omega, by omega, by omega⟩)) | exact (.inr (.inr (.inl ⟨by omega, by omega, by omega⟩))) | exact (.inr (.inr (.inr (.inl ⟨by omega, by omega, by omega⟩)))) | exact (.inr (.inr (.inr (.inr (.inl ⟨by omega, by omega⟩))))) | exact (.inr (.inr (.inr (.inr (.inr (.inl ⟨by omega, by omega, by omega⟩)))))) | exact (.inr (.inr (.inr (.inr (.inr (.inr (.inl ⟨by omega, by omega, by omega, by omega⟩))))))) | exact (.inr (.inr (.inr (.inr (.inr (.inr (.inr (.inl ⟨by omega, by omega, by omega⟩)))))))) | exact (.inr (.inr (.inr (.inr (.inr (.inr (.inr (.inr (.inl ⟨by omega, by omega, by omega⟩))))))))) | exact (.inr (.inr (.inr (.inr (.inr (.inr (.inr (.inr (.inr ⟨by omega, by omega, by omega⟩))))))))))).symm)
          · refine X.cut [] i75_28 rfl ?_
            refine X.iconst 29 i75_28 rfl rfl (by decide) ?_
            refine X.retz i75_29 rfl t75 (by omega) ?_
            exact hQ 0 (by first | trivial | omega) (by omega) (by omega) (by exact (cBi_0 (by unfold cB; omega)).symm)
-- WorkMeter$Meter.tellSetting
theorem c74_1 {s : Nat × (Nat → Int32)} {S : zS} {m0 m : zM} {B : Int} {d : Nat} {Q : Option zV → zM → Prop} (g0 : Nat) (a1 a2 : Int) (hd : 15 ≤ d) (hJ : J S m0 B m) (hB : B + 1 ≤ 1000000000) (ha1 : (-2147483648) ≤ a1 ∧ a1 ≤ 2147483647) (ha2 : (-2147483648) ≤ a2 ∧ a2 ≤ 2147483647) (hQ : ∀ (v : Int) m', (0 ≤ v ∧ v ≤ 1) → J S m0 (B + 1) m' → (v = 1 ↔ (cBi a1 a2 = 1 ∧ ¬ (a1 = 1 ∧ 0 < m g0 8 13))) → Q (some (zi v)) m') : X (EE s) d 74 0 [(0, zr g0 8), (1, zi a1), (2, zi a2)] [] m Q := by
  refine X.aload_n 1 i74_0 rfl rfl rfl ?_
  refine X.getR 4 i74_1 rfl rfl (by decide) rfl rfl ?_
  refine X.iload_n 5 i74_4 rfl rfl rfl ?_
  refine X.iload_n 6 i74_5 rfl rfl rfl ?_
  refine X.callv 9 [zi a1, zi a2] [] [(0, zr g0 9), (1, zi a1), (2, zi a2)] i74_6 rfl (by decide) rfl rfl (by omega) rfl rfl (by decide) rfl t75 (Nat.le_of_ble_eq_true rfl) (Nat.le_of_ble_eq_true rfl) rfl ?_
  refine c75_1 (B := B) g0 a1 a2 (by omega) (hJ.up (by omega)) (by omega) (by omega) (by omega) (fun v503 hv503 hqv5030 hqv5031 hqv5032 => ?_)
  show X (EE s) d 74 9 [(0, zr g0 8), (1, zi a1), (2, zi a2)] [zi v503] m _
  refine X.ifeq 24 12 i74_9 rfl rfl rfl (fun h504 => ?_) (fun h504 => ?_)
  · refine X.cut [] i74_24 rfl ?_
    refine X.iconst 25 i74_24 rfl rfl (by decide) ?_
    refine X.retz i74_25 rfl t74 (by omega) ?_
    exact hQ 0 m (by first | trivial | omega) (hJ.up (by omega)) (by omega)
  · refine X.iload_n 13 i74_12 rfl rfl rfl ?_
    refine X.iconst 14 i74_13 rfl rfl (by decide) ?_
    refine X.icmpne 26 17 i74_14 rfl rfl rfl (fun h505 => ?_) (fun h505 => ?_)
    · refine X.iload_n 27 i74_26 rfl rfl rfl ?_
      refine X.iconst 28 i74_27 rfl rfl (by decide) ?_
      refine X.icmpne 51 31 i74_28 rfl rfl rfl (fun h506 => ?_) (fun h506 => ?_)
      · refine X.aload_n 52 i74_51 rfl rfl rfl ?_
        refine X.getR 55 i74_52 rfl rfl (by decide) rfl rfl ?_
        refine X.iload_n 56 i74_55 rfl rfl rfl ?_
        refine X.iload_n 57 i74_56 rfl rfl rfl ?_
        refine X.callv 60 [zi a1, zi a2] [] [(0, zr g0 9), (1, zi a1), (2, zi a2)] i74_57 rfl (by decide) rfl rfl (by omega) rfl rfl (by decide) rfl t77 (Nat.le_of_ble_eq_true rfl) (Nat.le_of_ble_eq_true rfl) rfl ?_
        refine X.iload_n 1 i77_0 rfl rfl rfl ?_
        refine X.calls 4 [zi a1] [] [(0, zi a1)] i77_1 (by decide) rfl rfl (by omega) rfl rfl t76 (Nat.le_of_ble_eq_true rfl) (Nat.le_of_ble_eq_true rfl) rfl ?_
        refine X.iload_n 1 i76_0 rfl rfl rfl ?_
        refine X.iflt 11 4 i76_1 rfl rfl rfl (fun h507 => ?_) (fun h507 => ?_)
        · refine X.iload_n 12 i76_11 rfl rfl rfl ?_
          refine X.bipush 14 i76_12 rfl rfl (by decide) ?_
          refine X.icmplt 31 17 i76_14 rfl rfl rfl (fun h508 => ?_) (fun h508 => (by exfalso; omega))
          refine X.iload_n 32 i76_31 rfl rfl rfl ?_
          refine X.bipush 34 i76_32 rfl rfl (by decide) ?_
          refine X.icmplt 51 37 i76_34 rfl rfl rfl (fun h509 => ?_) (fun h509 => (by exfalso; omega))
          refine X.cut [] i76_51 rfl ?_
          refine X.iconst 52 i76_51 rfl rfl (by decide) ?_
          refine X.reti i76_52 rfl t76 ?_
          show X (EE s) (d - 1) 77 4 [(0, zr g0 9), (1, zi a1), (2, zi a2)] [zi (-1)] m _
          refine X.istore_n 5 [(0, zr g0 9), (1, zi a1), (2, zi a2), (3, zi (-1))] i77_4 rfl rfl rfl ?_
          refine X.iload_n 6 i77_5 rfl rfl rfl ?_
          refine X.iconst 7 i77_6 rfl rfl (by decide) ?_
          refine X.icmpeq 17 10 i77_7 rfl rfl rfl (fun h510 => ?_) (fun h510 => (by exfalso; omega))
          refine X.cut [] i77_17 rfl ?_
          refine X.retv i77_17 rfl t77 ?_
          show X (EE s) d 74 60 [(0, zr g0 8), (1, zi a1), (2, zi a2)] [] m _
          refine X.iconst 61 i74_60 rfl rfl (by decide) ?_
          refine X.retz i74_61 rfl t74 (by omega) ?_
          exact hQ 1 m (by first | trivial | omega) (hJ.up (by omega)) (by omega)
        · refine X.iload_n 5 i76_4 rfl rfl rfl ?_
          refine X.iconst 6 i76_5 rfl rfl (by decide) ?_
          refine X.icmpgt 11 9 i76_6 rfl rfl rfl (fun h511 => ?_) (fun h511 => ?_)
          · refine X.iload_n 12 i76_11 rfl rfl rfl ?_
            refine X.bipush 14 i76_12 rfl rfl (by decide) ?_
            refine X.icmplt 31 17 i76_14 rfl rfl rfl (fun h512 => ?_) (fun h512 => ?_)
            · refine X.iload_n 32 i76_31 rfl rfl rfl ?_
              refine X.bipush 34 i76_32 rfl rfl (by decide) ?_
              refine X.icmplt 51 37 i76_34 rfl rfl rfl (fun h513 => ?_) (fun h513 => (by exfalso; omega))
              refine X.cut [] i76_51 rfl ?_
              refine X.iconst 52 i76_51 rfl rfl (by decide) ?_
              refine X.reti i76_52 rfl t76 ?_
              show X (EE s) (d - 1) 77 4 [(0, zr g0 9), (1, zi a1), (2, zi a2)] [zi (-1)] m _
              refine X.istore_n 5 [(0, zr g0 9), (1, zi a1), (2, zi a2), (3, zi (-1))] i77_4 rfl rfl rfl ?_
              refine X.iload_n 6 i77_5 rfl rfl rfl ?_
              refine X.iconst 7 i77_6 rfl rfl (by decide) ?_
              refine X.icmpeq 17 10 i77_7 rfl rfl rfl (fun h514 => ?_) (fun h514 => (by exfalso; omega))
              refine X.cut [] i77_17 rfl ?_
              refine X.retv i77_17 rfl t77 ?_
              show X (EE s) d 74 60 [(0, zr g0 8), (1, zi a1), (2, zi a2)] [] m _
              refine X.iconst 61 i74_60 rfl rfl (by decide) ?_
              refine X.retz i74_61 rfl t74 (by omega) ?_
              exact hQ 1 m (by first | trivial | omega) (hJ.up (by omega)) (by omega)
            · refine X.iload_n 18 i76_17 rfl rfl rfl ?_
              refine X.bipush 20 i76_18 rfl rfl (by decide) ?_
              refine X.icmpge 31 23 i76_20 rfl rfl rfl (fun h515 => ?_) (fun h515 => ?_)
              · refine X.iload_n 32 i76_31 rfl rfl rfl ?_
                refine X.bipush 34 i76_32 rfl rfl (by decide) ?_
                refine X.icmplt 51 37 i76_34 rfl rfl rfl (fun h516 => ?_) (fun h516 => ?_)
                · refine X.cut [] i76_51 rfl ?_
                  refine X.iconst 52 i76_51 rfl rfl (by decide) ?_
                  refine X.reti i76_52 rfl t76 ?_
                  show X (EE s) (d - 1) 77 4 [(0, zr g0 9), (1, zi a1), (2, zi a2)] [zi (-1)] m _
                  refine X.istore_n 5 [(0, zr g0 9), (1, zi a1), (2, zi a2), (3, zi (-1))] i77_4 rfl rfl rfl ?_
                  refine X.iload_n 6 i77_5 rfl rfl rfl ?_
                  refine X.iconst 7 i77_6 rfl rfl (by decide) ?_
                  refine X.icmpeq 17 10 i77_7 rfl rfl rfl (fun h517 => ?_) (fun h517 => (by exfalso; omega))
                  refine X.cut [] i77_17 rfl ?_
                  refine X.retv i77_17 rfl t77 ?_
                  show X (EE s) d 74 60 [(0, zr g0 8), (1, zi a1), (2, zi a2)] [] m _
                  refine X.iconst 61 i74_60 rfl rfl (by decide) ?_
                  refine X.retz i74_61 rfl t74 (by omega) ?_
                  exact hQ 1 m (by first | trivial | omega) (hJ.up (by omega)) (by omega)
                · refine X.iload_n 38 i76_37 rfl rfl rfl ?_
                  refine X.bipush 40 i76_38 rfl rfl (by decide) ?_
                  refine X.icmpgt 51 43 i76_40 rfl rfl rfl (fun h518 => ?_) (fun h518 => ?_)
                  · refine X.cut [] i76_51 rfl ?_
                    refine X.iconst 52 i76_51 rfl rfl (by decide) ?_
                    refine X.reti i76_52 rfl t76 ?_
                    show X (EE s) (d - 1) 77 4 [(0, zr g0 9), (1, zi a1), (2, zi a2)] [zi (-1)] m _
                    refine X.istore_n 5 [(0, zr g0 9), (1, zi a1), (2, zi a2), (3, zi (-1))] i77_4 rfl rfl rfl ?_
                    refine X.iload_n 6 i77_5 rfl rfl rfl ?_
                    refine X.iconst 7 i77_6 rfl rfl (by decide) ?_
                    refine X.icmpeq 17 10 i77_7 rfl rfl rfl (fun h519 => ?_) (fun h519 => (by exfalso; omega))
                    refine X.cut [] i77_17 rfl ?_
                    refine X.retv i77_17 rfl t77 ?_
                    show X (EE s) d 74 60 [(0, zr g0 8), (1, zi a1), (2, zi a2)] [] m _
                    refine X.iconst 61 i74_60 rfl rfl (by decide) ?_
                    refine X.retz i74_61 rfl t74 (by omega) ?_
                    exact hQ 1 m (by first | trivial | omega) (hJ.up (by omega)) (by omega)
                  · refine X.iload_n 44 i76_43 rfl rfl rfl ?_
                    refine X.bipush 46 i76_44 rfl rfl (by decide) ?_
                    refine X.isub 47 i76_46 rfl rfl (by omega) ?_
                    refine X.bipush 49 i76_47 rfl rfl (by decide) ?_
                    refine X.iadd 50 i76_49 rfl rfl (by omega) ?_
                    refine X.reti i76_50 rfl t76 ?_
                    show X (EE s) (d - 1) 77 4 [(0, zr g0 9), (1, zi a1), (2, zi a2)] [zi ((a1 - 20) + 10)] m _
                    refine X.istore_n 5 [(0, zr g0 9), (1, zi a1), (2, zi a2), (3, zi ((a1 - 20) + 10))] i77_4 rfl rfl rfl ?_
                    refine X.iload_n 6 i77_5 rfl rfl rfl ?_
                    refine X.iconst 7 i77_6 rfl rfl (by decide) ?_
                    refine X.icmpeq 17 10 i77_7 rfl rfl rfl (fun h520 => (by exfalso; omega)) (fun h520 => ?_)
                    refine X.aload_n 11 i77_10 rfl rfl rfl ?_
                    refine X.getR 14 i77_11 rfl rfl (by decide) rfl rfl ?_
                    refine X.iload_n 15 i77_14 rfl rfl rfl ?_
                    refine X.iload_n 16 i77_15 rfl rfl rfl ?_
                    refine X.iast' 17 i77_16 rfl rfl (by decide) rfl (by omega) (fun hrm521 m521 hm521 => ?_)
                    have hJ522 := w10_6 hJ hm521 (by omega) (by omega)
                    have wt523 : m521 g0 8 13 = (m g0 8 13) := by rw [hm521]; exact z_upd_o _ _ rfl
                    refine X.cut [] i77_17 rfl ?_
                    refine X.retv i77_17 rfl t77 ?_
                    show X (EE s) d 74 60 [(0, zr g0 8), (1, zi a1), (2, zi a2)] [] m521 _
                    refine X.iconst 61 i74_60 rfl rfl (by decide) ?_
                    refine X.retz i74_61 rfl t74 (by omega) ?_
                    exact hQ 1 m521 (by first | trivial | omega) (hJ522.up (by omega)) (by omega)
              · refine X.iload_n 24 i76_23 rfl rfl rfl ?_
                refine X.bipush 26 i76_24 rfl rfl (by decide) ?_
                refine X.isub 27 i76_26 rfl rfl (by omega) ?_
                refine X.bipush 29 i76_27 rfl rfl (by decide) ?_
                refine X.iadd 30 i76_29 rfl rfl (by omega) ?_
                refine X.reti i76_30 rfl t76 ?_
                show X (EE s) (d - 1) 77 4 [(0, zr g0 9), (1, zi a1), (2, zi a2)] [zi ((a1 - 10) + 6)] m _
                refine X.istore_n 5 [(0, zr g0 9), (1, zi a1), (2, zi a2), (3, zi ((a1 - 10) + 6))] i77_4 rfl rfl rfl ?_
                refine X.iload_n 6 i77_5 rfl rfl rfl ?_
                refine X.iconst 7 i77_6 rfl rfl (by decide) ?_
                refine X.icmpeq 17 10 i77_7 rfl rfl rfl (fun h524 => (by exfalso; omega)) (fun h524 => ?_)
                refine X.aload_n 11 i77_10 rfl rfl rfl ?_
                refine X.getR 14 i77_11 rfl rfl (by decide) rfl rfl ?_
                refine X.iload_n 15 i77_14 rfl rfl rfl ?_
                refine X.iload_n 16 i77_15 rfl rfl rfl ?_
                refine X.iast' 17 i77_16 rfl rfl (by decide) rfl (by omega) (fun hrm525 m525 hm525 => ?_)
                have hJ526 := w10_6 hJ hm525 (by omega) (by omega)
                have wt527 : m525 g0 8 13 = (m g0 8 13) := by rw [hm525]; exact z_upd_o _ _ rfl
                refine X.cut [] i77_17 rfl ?_
                refine X.retv i77_17 rfl t77 ?_
                show X (EE s) d 74 60 [(0, zr g0 8), (1, zi a1), (2, zi a2)] [] m525 _
                refine X.iconst 61 i74_60 rfl rfl (by decide) ?_
                refine X.retz i74_61 rfl t74 (by omega) ?_
                exact hQ 1 m525 (by first | trivial | omega) (hJ526.up (by omega)) (by omega)
          · refine X.iload_n 10 i76_9 rfl rfl rfl ?_
            refine X.reti i76_10 rfl t76 ?_
            show X (EE s) (d - 1) 77 4 [(0, zr g0 9), (1, zi a1), (2, zi a2)] [zi a1] m _
            refine X.istore_n 5 [(0, zr g0 9), (1, zi a1), (2, zi a2), (3, zi a1)] i77_4 rfl rfl rfl ?_
            refine X.iload_n 6 i77_5 rfl rfl rfl ?_
            refine X.iconst 7 i77_6 rfl rfl (by decide) ?_
            refine X.icmpeq 17 10 i77_7 rfl rfl rfl (fun h528 => (by exfalso; omega)) (fun h528 => ?_)
            refine X.aload_n 11 i77_10 rfl rfl rfl ?_
            refine X.getR 14 i77_11 rfl rfl (by decide) rfl rfl ?_
            refine X.iload_n 15 i77_14 rfl rfl rfl ?_
            refine X.iload_n 16 i77_15 rfl rfl rfl ?_
            by_cases h529 : a1 ≤ 4
            · refine X.iast' 17 i77_16 rfl rfl (by decide) rfl (by omega) (fun hrm530 m530 hm530 => ?_)
              have hJ531 := w10_0 hJ hm530 (by omega) (by omega)
              have wt532 : m530 g0 8 13 = (m g0 8 13) := by rw [hm530]; exact z_upd_o _ _ rfl
              refine X.cut [] i77_17 rfl ?_
              refine X.retv i77_17 rfl t77 ?_
              show X (EE s) d 74 60 [(0, zr g0 8), (1, zi a1), (2, zi a2)] [] m530 _
              refine X.iconst 61 i74_60 rfl rfl (by decide) ?_
              refine X.retz i74_61 rfl t74 (by omega) ?_
              exact hQ 1 m530 (by first | trivial | omega) (hJ531.up (by omega)) (by omega)
            · refine X.iast' 17 i77_16 rfl rfl (by decide) rfl (by omega) (fun hrm533 m533 hm533 => ?_)
              have eim533 : a1 = 5 := by omega
              rw [eim533] at hm533
              have hJ534 := w10_5 hJ hm533 (by omega)
              have wt535 : m533 g0 8 13 = (m g0 8 13) := by rw [hm533]; exact z_upd_o _ _ rfl
              refine X.cut [] i77_17 rfl ?_
              refine X.retv i77_17 rfl t77 ?_
              show X (EE s) d 74 60 [(0, zr g0 8), (1, zi a1), (2, zi a2)] [] m533 _
              refine X.iconst 61 i74_60 rfl rfl (by decide) ?_
              refine X.retz i74_61 rfl t74 (by omega) ?_
              exact hQ 1 m533 (by first | trivial | omega) (hJ534.up (by omega)) (by omega)
      · refine X.aload_n 32 i74_31 rfl rfl rfl ?_
        refine X.getR 35 i74_32 rfl rfl (by decide) rfl rfl ?_
        refine X.aload_n 36 i74_35 rfl rfl rfl ?_
        refine X.getI 39 9 i74_36 rfl rfl (by decide) rfl rfl rfl ?_
        have h536 := r8_9 hJ g0
        refine X.aload_n 40 i74_39 rfl rfl rfl ?_
        refine X.getR 43 i74_40 rfl rfl (by decide) rfl rfl ?_
        refine X.callv 46 [] [zi (m g0 8 9), zr g0 27] [(0, zr g0 9)] i74_43 rfl (by decide) rfl rfl (by omega) rfl rfl (by decide) rfl t36 (Nat.le_of_ble_eq_true rfl) (Nat.le_of_ble_eq_true rfl) rfl ?_
        refine X.iconst 1 i36_0 rfl rfl (by decide) ?_
        refine X.aload_n 2 i36_1 rfl rfl rfl ?_
        refine X.getR 5 i36_2 rfl rfl (by decide) rfl rfl ?_
        refine X.iconst 6 i36_5 rfl rfl (by decide) ?_
        refine X.iald 7 i36_6 rfl rfl (by decide) rfl (by omega) ?_
        have h537 := r10_0 hJ g0 (i := 4) (by omega)
        refine X.maxI 10 i36_7 rfl rfl (by omega) (Nat.le_of_ble_eq_true rfl) ?_
        refine X.reti i36_10 rfl t36 ?_
        show X (EE s) d 74 46 [(0, zr g0 8), (1, zi a1), (2, zi a2)] [zi (max 1 (m g0 10 4)), zi (m g0 8 9), zr g0 27] m _
        refine X.bipush 48 i74_46 rfl rfl (by decide) ?_
        refine X.callv 51 [zi (m g0 8 9), zi (max 1 (m g0 10 4)), zi 64] [] [(0, zr g0 27), (1, zi (m g0 8 9)), (2, zi (max 1 (m g0 10 4))), (3, zi 64)] i74_48 rfl (by decide) rfl rfl (by omega) rfl rfl (by decide) rfl t60 (Nat.le_of_ble_eq_true rfl) (Nat.le_of_ble_eq_true rfl) rfl ?_
        refine c60_1 (S := zfr [] S) (m0 := m) (B := B) g0 (m g0 8 9) (max 1 (m g0 10 4)) 64 (by omega) (hJ.ow.up (by omega)) (by omega) (by omega) (by omega) (by omega) (fun m538 hJ539 => ?_)
        have hJ541 := hJ.trans hJ539 zi_n
        have wt542 : m538 g0 8 13 = (m g0 8 13) := hJ539.eq rfl rfl
        show X (EE s) d 74 51 [(0, zr g0 8), (1, zi a1), (2, zi a2)] [] m538 _
        refine X.aload_n 52 i74_51 rfl rfl rfl ?_
        refine X.getR 55 i74_52 rfl rfl (by decide) rfl rfl ?_
        refine X.iload_n 56 i74_55 rfl rfl rfl ?_
        refine X.iload_n 57 i74_56 rfl rfl rfl ?_
        refine X.callv 60 [zi a1, zi a2] [] [(0, zr g0 9), (1, zi a1), (2, zi a2)] i74_57 rfl (by decide) rfl rfl (by omega) rfl rfl (by decide) rfl t77 (Nat.le_of_ble_eq_true rfl) (Nat.le_of_ble_eq_true rfl) rfl ?_
        refine X.iload_n 1 i77_0 rfl rfl rfl ?_
        refine X.calls 4 [zi a1] [] [(0, zi a1)] i77_1 (by decide) rfl rfl (by omega) rfl rfl t76 (Nat.le_of_ble_eq_true rfl) (Nat.le_of_ble_eq_true rfl) rfl ?_
        refine X.iload_n 1 i76_0 rfl rfl rfl ?_
        refine X.iflt 11 4 i76_1 rfl rfl rfl (fun h543 => (by exfalso; omega)) (fun h543 => ?_)
        refine X.iload_n 5 i76_4 rfl rfl rfl ?_
        refine X.iconst 6 i76_5 rfl rfl (by decide) ?_
        refine X.icmpgt 11 9 i76_6 rfl rfl rfl (fun h544 => (by exfalso; omega)) (fun h544 => ?_)
        refine X.iload_n 10 i76_9 rfl rfl rfl ?_
        refine X.reti i76_10 rfl t76 ?_
        show X (EE s) (d - 1) 77 4 [(0, zr g0 9), (1, zi a1), (2, zi a2)] [zi a1] m538 _
        refine X.istore_n 5 [(0, zr g0 9), (1, zi a1), (2, zi a2), (3, zi a1)] i77_4 rfl rfl rfl ?_
        refine X.iload_n 6 i77_5 rfl rfl rfl ?_
        refine X.iconst 7 i77_6 rfl rfl (by decide) ?_
        refine X.icmpeq 17 10 i77_7 rfl rfl rfl (fun h545 => (by exfalso; omega)) (fun h545 => ?_)
        refine X.aload_n 11 i77_10 rfl rfl rfl ?_
        refine X.getR 14 i77_11 rfl rfl (by decide) rfl rfl ?_
        refine X.iload_n 15 i77_14 rfl rfl rfl ?_
        refine X.iload_n 16 i77_15 rfl rfl rfl ?_
        refine X.iast' 17 i77_16 rfl rfl (by decide) rfl (by omega) (fun hrm546 m546 hm546 => ?_)
        have hJ547 := w10_0 hJ541 hm546 (by omega) (by omega)
        have wt548 : m546 g0 8 13 = (m g0 8 13) := Eq.trans (by rw [hm546]; exact z_upd_o _ _ rfl) wt542
        clear wt542
        refine X.cut [] i77_17 rfl ?_
        refine X.retv i77_17 rfl t77 ?_
        show X (EE s) d 74 60 [(0, zr g0 8), (1, zi a1), (2, zi a2)] [] m546 _
        refine X.iconst 61 i74_60 rfl rfl (by decide) ?_
        refine X.retz i74_61 rfl t74 (by omega) ?_
        exact hQ 1 m546 (by first | trivial | omega) (hJ547.up (by omega)) (by omega)
    · refine X.aload_n 18 i74_17 rfl rfl rfl ?_
      refine X.getI 21 13 i74_18 rfl rfl (by decide) rfl rfl rfl ?_
      have h549 := r8_13 hJ g0
      refine X.ifle 26 24 i74_21 rfl rfl rfl (fun h550 => ?_) (fun h550 => ?_)
      · refine X.iload_n 27 i74_26 rfl rfl rfl ?_
        refine X.iconst 28 i74_27 rfl rfl (by decide) ?_
        refine X.icmpne 51 31 i74_28 rfl rfl rfl (fun h551 => ?_) (fun h551 => (by exfalso; omega))
        refine X.aload_n 52 i74_51 rfl rfl rfl ?_
        refine X.getR 55 i74_52 rfl rfl (by decide) rfl rfl ?_
        refine X.iload_n 56 i74_55 rfl rfl rfl ?_
        refine X.iload_n 57 i74_56 rfl rfl rfl ?_
        refine X.callv 60 [zi a1, zi a2] [] [(0, zr g0 9), (1, zi a1), (2, zi a2)] i74_57 rfl (by decide) rfl rfl (by omega) rfl rfl (by decide) rfl t77 (Nat.le_of_ble_eq_true rfl) (Nat.le_of_ble_eq_true rfl) rfl ?_
        refine X.iload_n 1 i77_0 rfl rfl rfl ?_
        refine X.calls 4 [zi a1] [] [(0, zi a1)] i77_1 (by decide) rfl rfl (by omega) rfl rfl t76 (Nat.le_of_ble_eq_true rfl) (Nat.le_of_ble_eq_true rfl) rfl ?_
        refine X.iload_n 1 i76_0 rfl rfl rfl ?_
        refine X.iflt 11 4 i76_1 rfl rfl rfl (fun h552 => (by exfalso; omega)) (fun h552 => ?_)
        refine X.iload_n 5 i76_4 rfl rfl rfl ?_
        refine X.iconst 6 i76_5 rfl rfl (by decide) ?_
        refine X.icmpgt 11 9 i76_6 rfl rfl rfl (fun h553 => (by exfalso; omega)) (fun h553 => ?_)
        refine X.iload_n 10 i76_9 rfl rfl rfl ?_
        refine X.reti i76_10 rfl t76 ?_
        show X (EE s) (d - 1) 77 4 [(0, zr g0 9), (1, zi a1), (2, zi a2)] [zi a1] m _
        refine X.istore_n 5 [(0, zr g0 9), (1, zi a1), (2, zi a2), (3, zi a1)] i77_4 rfl rfl rfl ?_
        refine X.iload_n 6 i77_5 rfl rfl rfl ?_
        refine X.iconst 7 i77_6 rfl rfl (by decide) ?_
        refine X.icmpeq 17 10 i77_7 rfl rfl rfl (fun h554 => (by exfalso; omega)) (fun h554 => ?_)
        refine X.aload_n 11 i77_10 rfl rfl rfl ?_
        refine X.getR 14 i77_11 rfl rfl (by decide) rfl rfl ?_
        refine X.iload_n 15 i77_14 rfl rfl rfl ?_
        refine X.iload_n 16 i77_15 rfl rfl rfl ?_
        refine X.iast' 17 i77_16 rfl rfl (by decide) rfl (by omega) (fun hrm555 m555 hm555 => ?_)
        have hJ556 := w10_0 hJ hm555 (by omega) (by omega)
        have wt557 : m555 g0 8 13 = (m g0 8 13) := by rw [hm555]; exact z_upd_o _ _ rfl
        refine X.cut [] i77_17 rfl ?_
        refine X.retv i77_17 rfl t77 ?_
        show X (EE s) d 74 60 [(0, zr g0 8), (1, zi a1), (2, zi a2)] [] m555 _
        refine X.iconst 61 i74_60 rfl rfl (by decide) ?_
        refine X.retz i74_61 rfl t74 (by omega) ?_
        exact hQ 1 m555 (by first | trivial | omega) (hJ556.up (by omega)) (by omega)
      · refine X.cut [] i74_24 rfl ?_
        refine X.iconst 25 i74_24 rfl rfl (by decide) ?_
        refine X.retz i74_25 rfl t74 (by omega) ?_
        exact hQ 0 m (by first | trivial | omega) (hJ.up (by omega)) (by omega)
-- WorkMeter.set
theorem c73_1 {s : Nat × (Nat → Int32)} {S : zS} {m0 m : zM} {B : Int} {d : Nat} {Q : Option zV → zM → Prop} (a1 a2 : Int) (hd : 16 ≤ d) (hJ : J S m0 B m) (hB : B + 1 ≤ 1000000000) (ha1 : (-2147483648) ≤ a1 ∧ a1 ≤ 2147483647) (ha2 : (-2147483648) ≤ a2 ∧ a2 ≤ 2147483647) (hQ : ∀ (v : Int) m', (0 ≤ v ∧ v ≤ 1) → J S m0 (B + 1) m' → (v = 1 ↔ (m 0 39 0 = 0 ∧ cBi a1 a2 = 1 ∧ ¬ (a1 = 1 ∧ 0 < m 0 8 13))) → Q (some (zi v)) m') : X (EE s) d 73 0 [(0, zr 4 40), (1, zi a1), (2, zi a2)] [] m Q := by
  refine X.aload_n 1 i73_0 rfl rfl rfl ?_
  refine X.getF 4 i73_1 rfl rfl (by decide) rfl rfl ?_
  refine X.getR 7 i73_4 rfl rfl (by decide) rfl rfl ?_
  refine X.callv 10 [] [] [(0, zr 0 39)] i73_7 rfl (by decide) rfl rfl (by omega) rfl rfl (by decide) rfl t17 (Nat.le_of_ble_eq_true rfl) (Nat.le_of_ble_eq_true rfl) rfl ?_
  refine X.aload_n 1 i17_0 rfl rfl rfl ?_
  refine X.getZ 4 0 i17_1 rfl rfl (by decide) rfl rfl rfl (fun h501 => ?_)
  refine X.ifeq 17 7 i17_4 rfl rfl rfl (fun h502 => ?_) (fun h502 => ?_)
  · refine X.aload_n 18 i17_17 rfl rfl rfl ?_
    refine X.getZ 21 0 i17_18 rfl rfl (by decide) rfl rfl rfl (fun h503 => ?_)
    refine X.retz i17_21 rfl t17 (by omega) ?_
    show X (EE s) d 73 10 [(0, zr 4 40), (1, zi a1), (2, zi a2)] [zi (m 0 39 0)] m _
    refine X.ifeq 15 13 i73_10 rfl rfl rfl (fun h504 => ?_) (fun h504 => ?_)
    · refine X.aload_n 16 i73_15 rfl rfl rfl ?_
      refine X.getF 19 i73_16 rfl rfl (by decide) rfl rfl ?_
      refine X.iload_n 20 i73_19 rfl rfl rfl ?_
      refine X.iload_n 21 i73_20 rfl rfl rfl ?_
      refine X.callv 24 [zi a1, zi a2] [] [(0, zr 0 8), (1, zi a1), (2, zi a2)] i73_21 rfl (by decide) rfl rfl (by omega) rfl rfl (by decide) rfl t74 (Nat.le_of_ble_eq_true rfl) (Nat.le_of_ble_eq_true rfl) rfl ?_
      refine c74_1 (S := zfr [] S) (m0 := m) (B := B) 0 a1 a2 (by omega) (hJ.ow.up (by omega)) (by omega) (by omega) (by omega) (fun v507 m505 hv507 hJ506 hqv5070 => ?_)
      have hJ508 := hJ.trans hJ506 zi_n
      have wt509 : m505 0 39 0 = (m 0 39 0) := hJ506.eq rfl rfl
      have wt510 : m505 0 8 13 = (m 0 8 13) := hJ506.eq rfl rfl
      show X (EE s) d 73 24 [(0, zr 4 40), (1, zi a1), (2, zi a2)] [zi v507] m505 _
      refine X.retz i73_24 rfl t73 (by omega) ?_
      exact hQ v507 m505 (by first | trivial | omega) (hJ508.up (by omega)) (by omega)
    · refine X.iconst 14 i73_13 rfl rfl (by decide) ?_
      refine X.retz i73_14 rfl t73 (by omega) ?_
      exact hQ 0 m (by first | trivial | omega) (hJ.up (by omega)) (by omega)
  · refine X.aload_n 8 i17_7 rfl rfl rfl ?_
    refine X.dup 9 i17_8 rfl rfl rfl ?_
    refine X.getIr 12 3 i17_9 rfl rfl (by decide) rfl rfl rfl (fun h511 => ?_)
    refine X.iconst 13 i17_12 rfl rfl (by decide) ?_
    refine X.iiF 14 .iadd (fun x y => x + y) i17_13 rfl rfl rfl (fun _ _ => rfl) (fun z512 hz512 => ?_)
    refine X.putI' 17 3 i17_14 rfl rfl (by decide) rfl rfl rfl (fun hrm513 m513 hm513 => ?_)
    have hJ514 := w39_3 hJ hm513 hrm513
    have wt515 : m513 0 39 0 = (m 0 39 0) := by rw [hm513]; exact z_upd_o _ _ rfl
    have wt516 : m513 0 8 13 = (m 0 8 13) := by rw [hm513]; exact z_upd_o _ _ rfl
    refine X.aload_n 18 i17_17 rfl rfl rfl ?_
    refine X.getZ 21 0 i17_18 rfl rfl (by decide) rfl rfl rfl (fun h517 => ?_)
    refine X.retz i17_21 rfl t17 (by omega) ?_
    show X (EE s) d 73 10 [(0, zr 4 40), (1, zi a1), (2, zi a2)] [zi (m513 0 39 0)] m513 _
    refine X.ifeq 15 13 i73_10 rfl rfl rfl (fun h518 => ?_) (fun h518 => ?_)
    · refine X.aload_n 16 i73_15 rfl rfl rfl ?_
      refine X.getF 19 i73_16 rfl rfl (by decide) rfl rfl ?_
      refine X.iload_n 20 i73_19 rfl rfl rfl ?_
      refine X.iload_n 21 i73_20 rfl rfl rfl ?_
      refine X.callv 24 [zi a1, zi a2] [] [(0, zr 0 8), (1, zi a1), (2, zi a2)] i73_21 rfl (by decide) rfl rfl (by omega) rfl rfl (by decide) rfl t74 (Nat.le_of_ble_eq_true rfl) (Nat.le_of_ble_eq_true rfl) rfl ?_
      refine c74_1 (S := zfr [] S) (m0 := m513) (B := B) 0 a1 a2 (by omega) (hJ514.ow.up (by omega)) (by omega) (by omega) (by omega) (fun v521 m519 hv521 hJ520 hqv5210 => ?_)
      have hJ522 := hJ514.trans hJ520 zi_n
      have wt523 : m519 0 39 0 = (m 0 39 0) := Eq.trans (hJ520.eq rfl rfl) wt515
      have wt524 : m519 0 8 13 = (m 0 8 13) := Eq.trans (hJ520.eq rfl rfl) wt516
      show X (EE s) d 73 24 [(0, zr 4 40), (1, zi a1), (2, zi a2)] [zi v521] m519 _
      refine X.retz i73_24 rfl t73 (by omega) ?_
      exact hQ v521 m519 (by first | trivial | omega) (hJ522.up (by omega)) (by omega)
    · refine X.iconst 14 i73_13 rfl rfl (by decide) ?_
      refine X.retz i73_14 rfl t73 (by omega) ?_
      exact hQ 0 m513 (by first | trivial | omega) (hJ514.up (by omega)) (by omega)
