section
variable {E : zE} {d j pc : Nat} {lv : List (Nat × zV)} {st : List zV} {m : zM} {Q : Option zV → zM → Prop} {q : Nat × Nat × Nat × Nat} {c : Value} {ks : Option (List Nat)}
theorem X.pop2 (pc' : Nat) {x : Int} (hi : z_I E j pc = some (.pop2, 1, q, c, ks)) (hc : z_cut ks lv = lv) (hp : pc + 1 = pc') (kk : X E d j pc' lv st m Q) : X E d j pc lv (zl x :: st) m Q :=
  X.num pc' hi hc hp rfl kk (fun h => ⟨z_tl h, fun _ => by
    show x_d2 1 (fun _ r => r) (fun _ _ r => r) (.long (Int64.ofInt x) :: st.map (z_v E.2.2.2)) _ = _
    simp only [x_d2, if_true]⟩)
theorem X.mok (kk : z_mok E.2.2.2 m → X E d j pc lv st m Q) : X E d j pc lv st m Q := fun h1 h2 h3 => kk h3 h1 h2 h3
end
abbrev zS0 : zS := (fun _ => False, fun _ => False, False, False)
theorem J.jb0 {m0 m : zM} {B : Int} (h : J zS0 m0 B m) : JB B m := h.1
theorem lw0 {s : Nat × (Nat → Int32)} {m : zM} {B : Int} {d : Nat} {Q : Option zV → zM → Prop} (y : Int) (hd : 200 ≤ d) (hJ : JB B m) (hR : Rel3 B m m) (hZ : ZZ m) (hB : B + 220000 ≤ 700000000) (hy : 0 ≤ y ∧ y + 6 ≤ (s.1 : Int)) (hs : s.1 ≤ 6) (K : ∀ (m' : zM), JB (B + 220000) m' → Rel3 (B + 220000) m' m' → X (EE s) d 316 1674 [(0, zr 99 0), (1, zr 4 40), (2, zr 4 44), (3, zi y)] [] m' Q) : X (EE s) d 316 236 [(0, zr 99 0), (1, zr 4 40), (2, zr 4 44), (3, zi y)] [] m Q := by
  refine X.mok (fun hk => ?_)
  refine X.aload_n 237 i316_236 rfl rfl rfl ?_
  refine X.aload_n 238 i316_237 rfl rfl rfl ?_
  refine X.iload_n 239 i316_238 rfl rfl rfl ?_
  refine X.iconst 240 i316_239 rfl rfl (by decide) ?_
  refine X.iadd 241 i316_240 rfl rfl (by omega) ?_
  refine X.rald 242 i316_241 rfl rfl (by decide) (by show 0 ≤ _ ∧ _ < ((s.1 : Nat) : Int); omega) (fun h1 => ?_)
  refine X.aload_n 243 i316_242 rfl rfl rfl ?_
  refine X.iload_n 244 i316_243 rfl rfl rfl ?_
  refine X.iconst 245 i316_244 rfl rfl (by decide) ?_
  refine X.iadd 246 i316_245 rfl rfl (by omega) ?_
  refine X.rald 247 i316_246 rfl rfl (by decide) (by show 0 ≤ _ ∧ _ < ((s.1 : Nat) : Int); omega) (fun h2 => ?_)
  refine X.callv 250 [zi (z_ro (EE s) 0 (y + 1)), zi (z_ro (EE s) 0 (y + 2))] [] [(0, zr 4 40), (1, zi (z_ro (EE s) 0 (y + 1))), (2, zi (z_ro (EE s) 0 (y + 2)))] i316_247 rfl (by decide) rfl rfl (by omega) rfl rfl (by decide) rfl t16 (Nat.le_of_ble_eq_true rfl) (Nat.le_of_ble_eq_true rfl) rfl ?_
  refine c16_1 (S := zS0) (m0 := m) (B := B) (z_ro (EE s) 0 (y + 1)) (z_ro (EE s) 0 (y + 2)) (by omega) (J.rf hJ) (by omega) (by omega) (by omega) (fun h => h) (fun h => h) (fun h => h) (fun v3 m4 hv3 hF6 hJ5 => ?_)
  show X (EE s) d 316 250 [(0, zr 99 0), (1, zr 4 40), (2, zr 4 44), (3, zi y)] [zi v3] m4 _
  refine X.aload_n 251 i316_250 rfl rfl rfl ?_
  refine X.aload_n 252 i316_251 rfl rfl rfl ?_
  refine X.iload_n 253 i316_252 rfl rfl rfl ?_
  refine X.iconst 254 i316_253 rfl rfl (by decide) ?_
  refine X.iadd 255 i316_254 rfl rfl (by omega) ?_
  refine X.rald 256 i316_255 rfl rfl (by decide) (by show 0 ≤ _ ∧ _ < ((s.1 : Nat) : Int); omega) (fun h7 => ?_)
  refine X.aload_n 257 i316_256 rfl rfl rfl ?_
  refine X.iload_n 258 i316_257 rfl rfl rfl ?_
  refine X.iconst 259 i316_258 rfl rfl (by decide) ?_
  refine X.iadd 260 i316_259 rfl rfl (by omega) ?_
  refine X.rald 261 i316_260 rfl rfl (by decide) (by show 0 ≤ _ ∧ _ < ((s.1 : Nat) : Int); omega) (fun h8 => ?_)
  refine X.callv 264 [zi (z_ro (EE s) 0 (y + 1)), zi (z_ro (EE s) 0 (y + 2))] [zi v3] [(0, zr 4 44), (1, zi (z_ro (EE s) 0 (y + 1))), (2, zi (z_ro (EE s) 0 (y + 2)))] i316_261 rfl (by decide) rfl rfl (by omega) rfl rfl (by decide) rfl t202 (Nat.le_of_ble_eq_true rfl) (Nat.le_of_ble_eq_true rfl) rfl ?_
  refine c202_1 (S := zS0) (m0 := m4) (B := B) (z_ro (EE s) 0 (y + 1)) (z_ro (EE s) 0 (y + 2)) (by omega) (J.rf hJ5.jb0) (by omega) (by omega) (by omega) (fun h => h) (fun h => h) (fun h => h) (fun v9 m10 hv9 hF12 hJ11 => ?_)
  show X (EE s) d 316 264 [(0, zr 99 0), (1, zr 4 40), (2, zr 4 44), (3, zi y)] [zi v9, zi v3] m10 _
  refine X.icmpeq 1674 267 i316_264 rfl rfl rfl (fun h13 => ?_) (fun h13 => ?_)
  · exact K _ (hJ11.jb0.up (by omega)) (st3_phases (by omega) (by omega) hk hJ (by omega) hR hF6 hF12).2
  · exact absurd ((st3_phases (by omega) (by omega) hk hJ (by omega) hR hF6 hF12).1) h13
theorem lw1 {s : Nat × (Nat → Int32)} {m : zM} {B : Int} {d : Nat} {Q : Option zV → zM → Prop} (y : Int) (hd : 200 ≤ d) (hJ : JB B m) (hR : Rel3 B m m) (hZ : ZZ m) (hB : B + 220000 ≤ 700000000) (hy : 0 ≤ y ∧ y + 6 ≤ (s.1 : Int)) (hs : s.1 ≤ 6) (K : ∀ (m' : zM), JB (B + 220000) m' → Rel3 (B + 220000) m' m' → X (EE s) d 316 1674 [(0, zr 99 0), (1, zr 4 40), (2, zr 4 44), (3, zi y)] [] m' Q) : X (EE s) d 316 269 [(0, zr 99 0), (1, zr 4 40), (2, zr 4 44), (3, zi y)] [] m Q := by
  refine X.mok (fun hk => ?_)
  refine X.aload_n 270 i316_269 rfl rfl rfl ?_
  refine X.aload_n 271 i316_270 rfl rfl rfl ?_
  refine X.iload_n 272 i316_271 rfl rfl rfl ?_
  refine X.iconst 273 i316_272 rfl rfl (by decide) ?_
  refine X.iadd 274 i316_273 rfl rfl (by omega) ?_
  refine X.rald 275 i316_274 rfl rfl (by decide) (by show 0 ≤ _ ∧ _ < ((s.1 : Nat) : Int); omega) (fun h1 => ?_)
  refine X.aload_n 276 i316_275 rfl rfl rfl ?_
  refine X.iload_n 277 i316_276 rfl rfl rfl ?_
  refine X.iconst 278 i316_277 rfl rfl (by decide) ?_
  refine X.iadd 279 i316_278 rfl rfl (by omega) ?_
  refine X.rald 280 i316_279 rfl rfl (by decide) (by show 0 ≤ _ ∧ _ < ((s.1 : Nat) : Int); omega) (fun h2 => ?_)
  refine X.callv 283 [zi (z_ro (EE s) 0 (y + 1)), zi (z_ro (EE s) 0 (y + 2))] [] [(0, zr 4 40), (1, zi (z_ro (EE s) 0 (y + 1))), (2, zi (z_ro (EE s) 0 (y + 2)))] i316_280 rfl (by decide) rfl rfl (by omega) rfl rfl (by decide) rfl t19 (Nat.le_of_ble_eq_true rfl) (Nat.le_of_ble_eq_true rfl) rfl ?_
  refine c19_1 (S := zS0) (m0 := m) (B := B) (z_ro (EE s) 0 (y + 1)) (z_ro (EE s) 0 (y + 2)) (by omega) (J.rf hJ) (by omega) (by omega) (by omega) (fun h => h) (fun h => h) (fun h => h) (fun h => h) (fun h => h) (fun h => h) (fun h => h) (fun h => h) (fun h => h) (fun h => h) (fun v3 m4 hv3 hF6 hJ5 => ?_)
  show X (EE s) d 316 283 [(0, zr 99 0), (1, zr 4 40), (2, zr 4 44), (3, zi y)] [zi v3] m4 _
  refine X.aload_n 284 i316_283 rfl rfl rfl ?_
  refine X.aload_n 285 i316_284 rfl rfl rfl ?_
  refine X.iload_n 286 i316_285 rfl rfl rfl ?_
  refine X.iconst 287 i316_286 rfl rfl (by decide) ?_
  refine X.iadd 288 i316_287 rfl rfl (by omega) ?_
  refine X.rald 289 i316_288 rfl rfl (by decide) (by show 0 ≤ _ ∧ _ < ((s.1 : Nat) : Int); omega) (fun h7 => ?_)
  refine X.aload_n 290 i316_289 rfl rfl rfl ?_
  refine X.iload_n 291 i316_290 rfl rfl rfl ?_
  refine X.iconst 292 i316_291 rfl rfl (by decide) ?_
  refine X.iadd 293 i316_292 rfl rfl (by omega) ?_
  refine X.rald 294 i316_293 rfl rfl (by decide) (by show 0 ≤ _ ∧ _ < ((s.1 : Nat) : Int); omega) (fun h8 => ?_)
  refine X.callv 297 [zi (z_ro (EE s) 0 (y + 1)), zi (z_ro (EE s) 0 (y + 2))] [zi v3] [(0, zr 4 44), (1, zi (z_ro (EE s) 0 (y + 1))), (2, zi (z_ro (EE s) 0 (y + 2)))] i316_294 rfl (by decide) rfl rfl (by omega) rfl rfl (by decide) rfl t205 (Nat.le_of_ble_eq_true rfl) (Nat.le_of_ble_eq_true rfl) rfl ?_
  refine c205_1 (S := zS0) (m0 := m4) (B := B + 7208) (z_ro (EE s) 0 (y + 1)) (z_ro (EE s) 0 (y + 2)) (by omega) (J.rf hJ5.jb0) (by omega) (by omega) (by omega) (fun h => h) (fun h => h) (fun h => h) (fun h => h) (fun h => h) (fun h => h) (fun h => h) (fun h => h) (fun h => h) (fun h => h) (fun v9 m10 hv9 hF12 hJ11 => ?_)
  show X (EE s) d 316 297 [(0, zr 99 0), (1, zr 4 40), (2, zr 4 44), (3, zi y)] [zi v9, zi v3] m10 _
  refine X.icmpeq 1674 300 i316_297 rfl rfl rfl (fun h13 => ?_) (fun h13 => ?_)
  · exact K _ (hJ11.jb0.up (by omega)) (st3_sample (by omega) (by omega) hk hJ (by omega) hR hF6 hF12).2
  · exact absurd ((st3_sample (by omega) (by omega) hk hJ (by omega) hR hF6 hF12).1) h13
theorem lw2 {s : Nat × (Nat → Int32)} {m : zM} {B : Int} {d : Nat} {Q : Option zV → zM → Prop} (y : Int) (hd : 200 ≤ d) (hJ : JB B m) (hR : Rel3 B m m) (hZ : ZZ m) (hB : B + 220000 ≤ 700000000) (hy : 0 ≤ y ∧ y + 6 ≤ (s.1 : Int)) (hs : s.1 ≤ 6) (K : ∀ (m' : zM), JB (B + 220000) m' → Rel3 (B + 220000) m' m' → X (EE s) d 316 1674 [(0, zr 99 0), (1, zr 4 40), (2, zr 4 44), (3, zi y)] [] m' Q) : X (EE s) d 316 302 [(0, zr 99 0), (1, zr 4 40), (2, zr 4 44), (3, zi y)] [] m Q := by
  refine X.mok (fun hk => ?_)
  refine X.aload_n 303 i316_302 rfl rfl rfl ?_
  refine X.aload_n 304 i316_303 rfl rfl rfl ?_
  refine X.iload_n 305 i316_304 rfl rfl rfl ?_
  refine X.iconst 306 i316_305 rfl rfl (by decide) ?_
  refine X.iadd 307 i316_306 rfl rfl (by omega) ?_
  refine X.rald 308 i316_307 rfl rfl (by decide) (by show 0 ≤ _ ∧ _ < ((s.1 : Nat) : Int); omega) (fun h1 => ?_)
  refine X.callv 311 [zi (z_ro (EE s) 0 (y + 1))] [] [(0, zr 4 40), (1, zi (z_ro (EE s) 0 (y + 1)))] i316_308 rfl (by decide) rfl rfl (by omega) rfl rfl (by decide) rfl t69 (Nat.le_of_ble_eq_true rfl) (Nat.le_of_ble_eq_true rfl) rfl ?_
  refine c69_1 (S := zS0) (m0 := m) (B := B) (z_ro (EE s) 0 (y + 1)) (by omega) (J.rf hJ) (by omega) (by omega) (fun h => h) (fun h => h) (fun h => h) (fun h => h) (fun h => h) (fun h => h) (fun h => h) (fun h => h) (fun h => h) (fun v2 m3 hv2 hF5 hJ4 => ?_)
  show X (EE s) d 316 311 [(0, zr 99 0), (1, zr 4 40), (2, zr 4 44), (3, zi y)] [zl v2] m3 _
  refine X.aload_n 312 i316_311 rfl rfl rfl ?_
  refine X.aload_n 313 i316_312 rfl rfl rfl ?_
  refine X.iload_n 314 i316_313 rfl rfl rfl ?_
  refine X.iconst 315 i316_314 rfl rfl (by decide) ?_
  refine X.iadd 316 i316_315 rfl rfl (by omega) ?_
  refine X.rald 317 i316_316 rfl rfl (by decide) (by show 0 ≤ _ ∧ _ < ((s.1 : Nat) : Int); omega) (fun h6 => ?_)
  refine X.callv 320 [zi (z_ro (EE s) 0 (y + 1))] [zl v2] [(0, zr 4 44), (1, zi (z_ro (EE s) 0 (y + 1)))] i316_317 rfl (by decide) rfl rfl (by omega) rfl rfl (by decide) rfl t279 (Nat.le_of_ble_eq_true rfl) (Nat.le_of_ble_eq_true rfl) rfl ?_
  refine c279_1 (S := zS0) (m0 := m3) (B := B + 7208) (z_ro (EE s) 0 (y + 1)) (by omega) (J.rf hJ4.jb0) (by omega) (by omega) (fun h => h) (fun h => h) (fun h => h) (fun h => h) (fun h => h) (fun h => h) (fun h => h) (fun h => h) (fun h => h) (fun v7 m8 hv7 hF10 hJ9 => ?_)
  show X (EE s) d 316 320 [(0, zr 99 0), (1, zr 4 40), (2, zr 4 44), (3, zi y)] [zl v7, zl v2] m8 _
  refine X.lcmp 321 i316_320 rfl rfl (fun z11 hz12 => ?_)
  refine X.ifeq 1674 324 i316_321 rfl rfl rfl (fun h13 => ?_) (fun h13 => ?_)
  · exact K _ (hJ9.jb0.up (by omega)) (st3_again (by omega) hk hJ (by omega) hR hF5 hF10).2
  · exact absurd (by have e9 := (st3_again (by omega) hk hJ (by omega) hR hF5 hF10).1; omega) h13
theorem lw3 {s : Nat × (Nat → Int32)} {m : zM} {B : Int} {d : Nat} {Q : Option zV → zM → Prop} (y : Int) (hd : 200 ≤ d) (hJ : JB B m) (hR : Rel3 B m m) (hZ : ZZ m) (hB : B + 220000 ≤ 700000000) (hy : 0 ≤ y ∧ y + 6 ≤ (s.1 : Int)) (hs : s.1 ≤ 6) (K : ∀ (m' : zM), JB (B + 220000) m' → Rel3 (B + 220000) m' m' → X (EE s) d 316 1674 [(0, zr 99 0), (1, zr 4 40), (2, zr 4 44), (3, zi y)] [] m' Q) : X (EE s) d 316 326 [(0, zr 99 0), (1, zr 4 40), (2, zr 4 44), (3, zi y)] [] m Q := by
  refine X.mok (fun hk => ?_)
  refine X.aload_n 327 i316_326 rfl rfl rfl ?_
  refine X.aload_n 328 i316_327 rfl rfl rfl ?_
  refine X.iload_n 329 i316_328 rfl rfl rfl ?_
  refine X.iconst 330 i316_329 rfl rfl (by decide) ?_
  refine X.iadd 331 i316_330 rfl rfl (by omega) ?_
  refine X.rald 332 i316_331 rfl rfl (by decide) (by show 0 ≤ _ ∧ _ < ((s.1 : Nat) : Int); omega) (fun h1 => ?_)
  refine X.aload_n 333 i316_332 rfl rfl rfl ?_
  refine X.iload_n 334 i316_333 rfl rfl rfl ?_
  refine X.iconst 335 i316_334 rfl rfl (by decide) ?_
  refine X.iadd 336 i316_335 rfl rfl (by omega) ?_
  refine X.rald 337 i316_336 rfl rfl (by decide) (by show 0 ≤ _ ∧ _ < ((s.1 : Nat) : Int); omega) (fun h2 => ?_)
  refine X.callv 340 [zi (z_ro (EE s) 0 (y + 1)), zi (z_ro (EE s) 0 (y + 2))] [] [(0, zr 4 40), (1, zi (z_ro (EE s) 0 (y + 1))), (2, zi (z_ro (EE s) 0 (y + 2)))] i316_337 rfl (by decide) rfl rfl (by omega) rfl rfl (by decide) rfl t73 (Nat.le_of_ble_eq_true rfl) (Nat.le_of_ble_eq_true rfl) rfl ?_
  refine c73_1 (S := zS0) (m0 := m) (B := B) (z_ro (EE s) 0 (y + 1)) (z_ro (EE s) 0 (y + 2)) (by omega) (J.rf hJ) (by omega) (by omega) (by omega) (fun h => h) (fun h => h) (fun h => h) (fun h => h) (fun v3 m4 hv3 hF6 hJ5 => ?_)
  show X (EE s) d 316 340 [(0, zr 99 0), (1, zr 4 40), (2, zr 4 44), (3, zi y)] [zi v3] m4 _
  refine X.aload_n 341 i316_340 rfl rfl rfl ?_
  refine X.aload_n 342 i316_341 rfl rfl rfl ?_
  refine X.iload_n 343 i316_342 rfl rfl rfl ?_
  refine X.iconst 344 i316_343 rfl rfl (by decide) ?_
  refine X.iadd 345 i316_344 rfl rfl (by omega) ?_
  refine X.rald 346 i316_345 rfl rfl (by decide) (by show 0 ≤ _ ∧ _ < ((s.1 : Nat) : Int); omega) (fun h7 => ?_)
  refine X.aload_n 347 i316_346 rfl rfl rfl ?_
  refine X.iload_n 348 i316_347 rfl rfl rfl ?_
  refine X.iconst 349 i316_348 rfl rfl (by decide) ?_
  refine X.iadd 350 i316_349 rfl rfl (by omega) ?_
  refine X.rald 351 i316_350 rfl rfl (by decide) (by show 0 ≤ _ ∧ _ < ((s.1 : Nat) : Int); omega) (fun h8 => ?_)
  refine X.callv 354 [zi (z_ro (EE s) 0 (y + 1)), zi (z_ro (EE s) 0 (y + 2))] [zi v3] [(0, zr 4 44), (1, zi (z_ro (EE s) 0 (y + 1))), (2, zi (z_ro (EE s) 0 (y + 2)))] i316_351 rfl (by decide) rfl rfl (by omega) rfl rfl (by decide) rfl t280 (Nat.le_of_ble_eq_true rfl) (Nat.le_of_ble_eq_true rfl) rfl ?_
  refine c280_1 (S := zS0) (m0 := m4) (B := B + 1) (z_ro (EE s) 0 (y + 1)) (z_ro (EE s) 0 (y + 2)) (by omega) (J.rf hJ5.jb0) (by omega) (by omega) (by omega) (fun h => h) (fun h => h) (fun h => h) (fun h => h) (fun h => h) (fun v9 m10 hv9 hF12 hJ11 => ?_)
  show X (EE s) d 316 354 [(0, zr 99 0), (1, zr 4 40), (2, zr 4 44), (3, zi y)] [zi v9, zi v3] m10 _
  refine X.icmpeq 1674 357 i316_354 rfl rfl rfl (fun h13 => ?_) (fun h13 => ?_)
  · exact K _ (hJ11.jb0.up (by omega)) (st3_set (by omega) (by omega) hk hJ (by omega) hR hF6 hF12).2
  · exact absurd ((st3_set (by omega) (by omega) hk hJ (by omega) hR hF6 hF12).1) h13
theorem lw4 {s : Nat × (Nat → Int32)} {m : zM} {B : Int} {d : Nat} {Q : Option zV → zM → Prop} (y : Int) (hd : 200 ≤ d) (hJ : JB B m) (hR : Rel3 B m m) (hZ : ZZ m) (hB : B + 220000 ≤ 700000000) (hy : 0 ≤ y ∧ y + 6 ≤ (s.1 : Int)) (hs : s.1 ≤ 6) (K : ∀ (m' : zM), JB (B + 220000) m' → Rel3 (B + 220000) m' m' → X (EE s) d 316 1674 [(0, zr 99 0), (1, zr 4 40), (2, zr 4 44), (3, zi y)] [] m' Q) : X (EE s) d 316 359 [(0, zr 99 0), (1, zr 4 40), (2, zr 4 44), (3, zi y)] [] m Q := by
  refine X.mok (fun hk => ?_)
  refine X.aload_n 360 i316_359 rfl rfl rfl ?_
  refine X.aload_n 361 i316_360 rfl rfl rfl ?_
  refine X.iload_n 362 i316_361 rfl rfl rfl ?_
  refine X.iconst 363 i316_362 rfl rfl (by decide) ?_
  refine X.iadd 364 i316_363 rfl rfl (by omega) ?_
  refine X.rald 365 i316_364 rfl rfl (by decide) (by show 0 ≤ _ ∧ _ < ((s.1 : Nat) : Int); omega) (fun h1 => ?_)
  refine X.aload_n 366 i316_365 rfl rfl rfl ?_
  refine X.iload_n 367 i316_366 rfl rfl rfl ?_
  refine X.iconst 368 i316_367 rfl rfl (by decide) ?_
  refine X.iadd 369 i316_368 rfl rfl (by omega) ?_
  refine X.rald 370 i316_369 rfl rfl (by decide) (by show 0 ≤ _ ∧ _ < ((s.1 : Nat) : Int); omega) (fun h2 => ?_)
  refine X.aload_n 371 i316_370 rfl rfl rfl ?_
  refine X.iload_n 372 i316_371 rfl rfl rfl ?_
  refine X.iconst 373 i316_372 rfl rfl (by decide) ?_
  refine X.iadd 374 i316_373 rfl rfl (by omega) ?_
  refine X.rald 375 i316_374 rfl rfl (by decide) (by show 0 ≤ _ ∧ _ < ((s.1 : Nat) : Int); omega) (fun h3 => ?_)
  refine X.callv 378 [zi (z_ro (EE s) 0 (y + 1)), zi (z_ro (EE s) 0 (y + 2)), zi (z_ro (EE s) 0 (y + 3))] [] [(0, zr 4 40), (1, zi (z_ro (EE s) 0 (y + 1))), (2, zi (z_ro (EE s) 0 (y + 2))), (3, zi (z_ro (EE s) 0 (y + 3)))] i316_375 rfl (by decide) rfl rfl (by omega) rfl rfl (by decide) rfl t78 (Nat.le_of_ble_eq_true rfl) (Nat.le_of_ble_eq_true rfl) rfl ?_
  refine c78_1 (S := zS0) (m0 := m) (B := B) (z_ro (EE s) 0 (y + 1)) (z_ro (EE s) 0 (y + 2)) (z_ro (EE s) 0 (y + 3)) (by omega) (J.rf hJ) (by omega) (by omega) (by omega) (by omega) (fun h => h) (fun h => h) (fun h => h) (fun v4 m5 hv4 hF7 hJ6 => ?_)
  show X (EE s) d 316 378 [(0, zr 99 0), (1, zr 4 40), (2, zr 4 44), (3, zi y)] [zi v4] m5 _
  refine X.aload_n 379 i316_378 rfl rfl rfl ?_
  refine X.aload_n 380 i316_379 rfl rfl rfl ?_
  refine X.iload_n 381 i316_380 rfl rfl rfl ?_
  refine X.iconst 382 i316_381 rfl rfl (by decide) ?_
  refine X.iadd 383 i316_382 rfl rfl (by omega) ?_
  refine X.rald 384 i316_383 rfl rfl (by decide) (by show 0 ≤ _ ∧ _ < ((s.1 : Nat) : Int); omega) (fun h8 => ?_)
  refine X.aload_n 385 i316_384 rfl rfl rfl ?_
  refine X.iload_n 386 i316_385 rfl rfl rfl ?_
  refine X.iconst 387 i316_386 rfl rfl (by decide) ?_
  refine X.iadd 388 i316_387 rfl rfl (by omega) ?_
  refine X.rald 389 i316_388 rfl rfl (by decide) (by show 0 ≤ _ ∧ _ < ((s.1 : Nat) : Int); omega) (fun h9 => ?_)
  refine X.aload_n 390 i316_389 rfl rfl rfl ?_
  refine X.iload_n 391 i316_390 rfl rfl rfl ?_
  refine X.iconst 392 i316_391 rfl rfl (by decide) ?_
  refine X.iadd 393 i316_392 rfl rfl (by omega) ?_
  refine X.rald 394 i316_393 rfl rfl (by decide) (by show 0 ≤ _ ∧ _ < ((s.1 : Nat) : Int); omega) (fun h10 => ?_)
  refine X.callv 397 [zi (z_ro (EE s) 0 (y + 1)), zi (z_ro (EE s) 0 (y + 2)), zi (z_ro (EE s) 0 (y + 3))] [zi v4] [(0, zr 4 44), (1, zi (z_ro (EE s) 0 (y + 1))), (2, zi (z_ro (EE s) 0 (y + 2))), (3, zi (z_ro (EE s) 0 (y + 3)))] i316_394 rfl (by decide) rfl rfl (by omega) rfl rfl (by decide) rfl t240 (Nat.le_of_ble_eq_true rfl) (Nat.le_of_ble_eq_true rfl) rfl ?_
  refine c240_1 (S := zS0) (m0 := m5) (B := B) (z_ro (EE s) 0 (y + 1)) (z_ro (EE s) 0 (y + 2)) (z_ro (EE s) 0 (y + 3)) (by omega) (J.rf hJ6.jb0) (by omega) (by omega) (by omega) (by omega) (fun h => h) (fun h => h) (fun h => h) (fun v11 m12 hv11 hF14 hJ13 => ?_)
  show X (EE s) d 316 397 [(0, zr 99 0), (1, zr 4 40), (2, zr 4 44), (3, zi y)] [zi v11, zi v4] m12 _
  refine X.icmpeq 1674 400 i316_397 rfl rfl rfl (fun h15 => ?_) (fun h15 => ?_)
  · exact K _ (hJ13.jb0.up (by omega)) (st3_table (by omega) (by omega) (by omega) hk hJ (by omega) hR hF7 hF14).2
  · exact absurd ((st3_table (by omega) (by omega) (by omega) hk hJ (by omega) hR hF7 hF14).1) h15
theorem lw5 {s : Nat × (Nat → Int32)} {m : zM} {B : Int} {d : Nat} {Q : Option zV → zM → Prop} (y : Int) (hd : 200 ≤ d) (hJ : JB B m) (hR : Rel3 B m m) (hZ : ZZ m) (hB : B + 220000 ≤ 700000000) (hy : 0 ≤ y ∧ y + 6 ≤ (s.1 : Int)) (hs : s.1 ≤ 6) (K : ∀ (m' : zM), JB (B + 220000) m' → Rel3 (B + 220000) m' m' → X (EE s) d 316 1674 [(0, zr 99 0), (1, zr 4 40), (2, zr 4 44), (3, zi y)] [] m' Q) : X (EE s) d 316 402 [(0, zr 99 0), (1, zr 4 40), (2, zr 4 44), (3, zi y)] [] m Q := by
  refine X.mok (fun hk => ?_)
  refine X.aload_n 403 i316_402 rfl rfl rfl ?_
  refine X.aload_n 404 i316_403 rfl rfl rfl ?_
  refine X.iload_n 405 i316_404 rfl rfl rfl ?_
  refine X.iconst 406 i316_405 rfl rfl (by decide) ?_
  refine X.iadd 407 i316_406 rfl rfl (by omega) ?_
  refine X.rald 408 i316_407 rfl rfl (by decide) (by show 0 ≤ _ ∧ _ < ((s.1 : Nat) : Int); omega) (fun h1 => ?_)
  refine X.callv 411 [zi (z_ro (EE s) 0 (y + 1))] [] [(0, zr 4 40), (1, zi (z_ro (EE s) 0 (y + 1)))] i316_408 rfl (by decide) rfl rfl (by omega) rfl rfl (by decide) rfl t83 (Nat.le_of_ble_eq_true rfl) (Nat.le_of_ble_eq_true rfl) rfl ?_
  refine c83_1 (S := zS0) (m0 := m) (B := B) (z_ro (EE s) 0 (y + 1)) (by omega) (J.rf hJ) (by omega) (by omega) (fun h => h) (fun h => h) (fun h => h) (fun v2 m3 hv2 hF5 hJ4 => ?_)
  show X (EE s) d 316 411 [(0, zr 99 0), (1, zr 4 40), (2, zr 4 44), (3, zi y)] [zi v2] m3 _
  refine X.aload_n 412 i316_411 rfl rfl rfl ?_
  refine X.aload_n 413 i316_412 rfl rfl rfl ?_
  refine X.iload_n 414 i316_413 rfl rfl rfl ?_
  refine X.iconst 415 i316_414 rfl rfl (by decide) ?_
  refine X.iadd 416 i316_415 rfl rfl (by omega) ?_
  refine X.rald 417 i316_416 rfl rfl (by decide) (by show 0 ≤ _ ∧ _ < ((s.1 : Nat) : Int); omega) (fun h6 => ?_)
  refine X.callv 420 [zi (z_ro (EE s) 0 (y + 1))] [zi v2] [(0, zr 4 44), (1, zi (z_ro (EE s) 0 (y + 1)))] i316_417 rfl (by decide) rfl rfl (by omega) rfl rfl (by decide) rfl t244 (Nat.le_of_ble_eq_true rfl) (Nat.le_of_ble_eq_true rfl) rfl ?_
  refine c244_1 (S := zS0) (m0 := m3) (B := B) (z_ro (EE s) 0 (y + 1)) (by omega) (J.rf hJ4.jb0) (by omega) (by omega) (fun h => h) (fun h => h) (fun h => h) (fun v7 m8 hv7 hF10 hJ9 => ?_)
  show X (EE s) d 316 420 [(0, zr 99 0), (1, zr 4 40), (2, zr 4 44), (3, zi y)] [zi v7, zi v2] m8 _
  refine X.icmpeq 1674 423 i316_420 rfl rfl rfl (fun h11 => ?_) (fun h11 => ?_)
  · exact K _ (hJ9.jb0.up (by omega)) (st3_wipe (by omega) hk hJ (by omega) hR hF5 hF10).2
  · exact absurd ((st3_wipe (by omega) hk hJ (by omega) hR hF5 hF10).1) h11
theorem lw6 {s : Nat × (Nat → Int32)} {m : zM} {B : Int} {d : Nat} {Q : Option zV → zM → Prop} (y : Int) (hd : 200 ≤ d) (hJ : JB B m) (hR : Rel3 B m m) (hZ : ZZ m) (hB : B + 220000 ≤ 700000000) (hy : 0 ≤ y ∧ y + 6 ≤ (s.1 : Int)) (hs : s.1 ≤ 6) (K : ∀ (m' : zM), JB (B + 220000) m' → Rel3 (B + 220000) m' m' → X (EE s) d 316 1674 [(0, zr 99 0), (1, zr 4 40), (2, zr 4 44), (3, zi y)] [] m' Q) : X (EE s) d 316 425 [(0, zr 99 0), (1, zr 4 40), (2, zr 4 44), (3, zi y)] [] m Q := by
  refine X.mok (fun hk => ?_)
  refine X.aload_n 426 i316_425 rfl rfl rfl ?_
  refine X.aload_n 427 i316_426 rfl rfl rfl ?_
  refine X.iload_n 428 i316_427 rfl rfl rfl ?_
  refine X.iconst 429 i316_428 rfl rfl (by decide) ?_
  refine X.iadd 430 i316_429 rfl rfl (by omega) ?_
  refine X.rald 431 i316_430 rfl rfl (by decide) (by show 0 ≤ _ ∧ _ < ((s.1 : Nat) : Int); omega) (fun h1 => ?_)
  refine X.aload_n 432 i316_431 rfl rfl rfl ?_
  refine X.iload_n 433 i316_432 rfl rfl rfl ?_
  refine X.iconst 434 i316_433 rfl rfl (by decide) ?_
  refine X.iadd 435 i316_434 rfl rfl (by omega) ?_
  refine X.rald 436 i316_435 rfl rfl (by decide) (by show 0 ≤ _ ∧ _ < ((s.1 : Nat) : Int); omega) (fun h2 => ?_)
  refine X.aload_n 437 i316_436 rfl rfl rfl ?_
  refine X.iload_n 438 i316_437 rfl rfl rfl ?_
  refine X.iconst 439 i316_438 rfl rfl (by decide) ?_
  refine X.iadd 440 i316_439 rfl rfl (by omega) ?_
  refine X.rald 441 i316_440 rfl rfl (by decide) (by show 0 ≤ _ ∧ _ < ((s.1 : Nat) : Int); omega) (fun h3 => ?_)
  refine X.aload_n 442 i316_441 rfl rfl rfl ?_
  refine X.iload_n 443 i316_442 rfl rfl rfl ?_
  refine X.iconst 444 i316_443 rfl rfl (by decide) ?_
  refine X.iadd 445 i316_444 rfl rfl (by omega) ?_
  refine X.rald 446 i316_445 rfl rfl (by decide) (by show 0 ≤ _ ∧ _ < ((s.1 : Nat) : Int); omega) (fun h4 => ?_)
  refine X.aload_n 447 i316_446 rfl rfl rfl ?_
  refine X.iload_n 448 i316_447 rfl rfl rfl ?_
  refine X.iconst 449 i316_448 rfl rfl (by decide) ?_
  refine X.iadd 450 i316_449 rfl rfl (by omega) ?_
  refine X.rald 451 i316_450 rfl rfl (by decide) (by show 0 ≤ _ ∧ _ < ((s.1 : Nat) : Int); omega) (fun h5 => ?_)
  refine X.callv 454 [zi (z_ro (EE s) 0 (y + 1)), zi (z_ro (EE s) 0 (y + 2)), zi (z_ro (EE s) 0 (y + 3)), zi (z_ro (EE s) 0 (y + 4)), zi (z_ro (EE s) 0 (y + 5))] [] [(0, zr 4 40), (1, zi (z_ro (EE s) 0 (y + 1))), (2, zi (z_ro (EE s) 0 (y + 2))), (3, zi (z_ro (EE s) 0 (y + 3))), (4, zi (z_ro (EE s) 0 (y + 4))), (5, zi (z_ro (EE s) 0 (y + 5)))] i316_451 rfl (by decide) rfl rfl (by omega) rfl rfl (by decide) rfl t85 (Nat.le_of_ble_eq_true rfl) (Nat.le_of_ble_eq_true rfl) rfl ?_
  refine c85_1 (S := zS0) (m0 := m) (B := B) (z_ro (EE s) 0 (y + 1)) (z_ro (EE s) 0 (y + 2)) (z_ro (EE s) 0 (y + 3)) (z_ro (EE s) 0 (y + 4)) (z_ro (EE s) 0 (y + 5)) (by omega) (J.rf hJ) (by omega) (by omega) (by omega) (by omega) (by omega) (by omega) (fun h => h) (fun h => h) (fun v6 m7 hv6 hF9 hJ8 => ?_)
  show X (EE s) d 316 454 [(0, zr 99 0), (1, zr 4 40), (2, zr 4 44), (3, zi y)] [zi v6] m7 _
  refine X.aload_n 455 i316_454 rfl rfl rfl ?_
  refine X.aload_n 456 i316_455 rfl rfl rfl ?_
  refine X.iload_n 457 i316_456 rfl rfl rfl ?_
  refine X.iconst 458 i316_457 rfl rfl (by decide) ?_
  refine X.iadd 459 i316_458 rfl rfl (by omega) ?_
  refine X.rald 460 i316_459 rfl rfl (by decide) (by show 0 ≤ _ ∧ _ < ((s.1 : Nat) : Int); omega) (fun h10 => ?_)
  refine X.aload_n 461 i316_460 rfl rfl rfl ?_
  refine X.iload_n 462 i316_461 rfl rfl rfl ?_
  refine X.iconst 463 i316_462 rfl rfl (by decide) ?_
  refine X.iadd 464 i316_463 rfl rfl (by omega) ?_
  refine X.rald 465 i316_464 rfl rfl (by decide) (by show 0 ≤ _ ∧ _ < ((s.1 : Nat) : Int); omega) (fun h11 => ?_)
  refine X.aload_n 466 i316_465 rfl rfl rfl ?_
  refine X.iload_n 467 i316_466 rfl rfl rfl ?_
  refine X.iconst 468 i316_467 rfl rfl (by decide) ?_
  refine X.iadd 469 i316_468 rfl rfl (by omega) ?_
  refine X.rald 470 i316_469 rfl rfl (by decide) (by show 0 ≤ _ ∧ _ < ((s.1 : Nat) : Int); omega) (fun h12 => ?_)
  refine X.aload_n 471 i316_470 rfl rfl rfl ?_
  refine X.iload_n 472 i316_471 rfl rfl rfl ?_
  refine X.iconst 473 i316_472 rfl rfl (by decide) ?_
  refine X.iadd 474 i316_473 rfl rfl (by omega) ?_
  refine X.rald 475 i316_474 rfl rfl (by decide) (by show 0 ≤ _ ∧ _ < ((s.1 : Nat) : Int); omega) (fun h13 => ?_)
  refine X.aload_n 476 i316_475 rfl rfl rfl ?_
  refine X.iload_n 477 i316_476 rfl rfl rfl ?_
  refine X.iconst 478 i316_477 rfl rfl (by decide) ?_
  refine X.iadd 479 i316_478 rfl rfl (by omega) ?_
  refine X.rald 480 i316_479 rfl rfl (by decide) (by show 0 ≤ _ ∧ _ < ((s.1 : Nat) : Int); omega) (fun h14 => ?_)
  refine X.callv 483 [zi (z_ro (EE s) 0 (y + 1)), zi (z_ro (EE s) 0 (y + 2)), zi (z_ro (EE s) 0 (y + 3)), zi (z_ro (EE s) 0 (y + 4)), zi (z_ro (EE s) 0 (y + 5))] [zi v6] [(0, zr 4 44), (1, zi (z_ro (EE s) 0 (y + 1))), (2, zi (z_ro (EE s) 0 (y + 2))), (3, zi (z_ro (EE s) 0 (y + 3))), (4, zi (z_ro (EE s) 0 (y + 4))), (5, zi (z_ro (EE s) 0 (y + 5)))] i316_480 rfl (by decide) rfl rfl (by omega) rfl rfl (by decide) rfl t256 (Nat.le_of_ble_eq_true rfl) (Nat.le_of_ble_eq_true rfl) rfl ?_
  refine c256_1 (S := zS0) (m0 := m7) (B := B) (z_ro (EE s) 0 (y + 1)) (z_ro (EE s) 0 (y + 2)) (z_ro (EE s) 0 (y + 3)) (z_ro (EE s) 0 (y + 4)) (z_ro (EE s) 0 (y + 5)) (by omega) (J.rf hJ8.jb0) (by omega) (by omega) (by omega) (by omega) (by omega) (by omega) (fun h => h) (fun h => h) (fun v15 m16 hv15 hF18 hJ17 => ?_)
  show X (EE s) d 316 483 [(0, zr 99 0), (1, zr 4 40), (2, zr 4 44), (3, zi y)] [zi v15, zi v6] m16 _
  refine X.icmpeq 1674 486 i316_483 rfl rfl rfl (fun h19 => ?_) (fun h19 => ?_)
  · exact K _ (hJ17.jb0.up (by omega)) (st3_feed (by omega) (by omega) (by omega) (by omega) (by omega) hk hJ (by omega) hR hF9 hF18).2
  · exact absurd ((st3_feed (by omega) (by omega) (by omega) (by omega) (by omega) hk hJ (by omega) hR hF9 hF18).1) h19
theorem lw7 {s : Nat × (Nat → Int32)} {m : zM} {B : Int} {d : Nat} {Q : Option zV → zM → Prop} (y : Int) (hd : 200 ≤ d) (hJ : JB B m) (hR : Rel3 B m m) (hZ : ZZ m) (hB : B + 220000 ≤ 700000000) (hy : 0 ≤ y ∧ y + 6 ≤ (s.1 : Int)) (hs : s.1 ≤ 6) (K : ∀ (m' : zM), JB (B + 220000) m' → Rel3 (B + 220000) m' m' → X (EE s) d 316 1674 [(0, zr 99 0), (1, zr 4 40), (2, zr 4 44), (3, zi y)] [] m' Q) : X (EE s) d 316 488 [(0, zr 99 0), (1, zr 4 40), (2, zr 4 44), (3, zi y)] [] m Q := by
  refine X.mok (fun hk => ?_)
  refine X.aload_n 489 i316_488 rfl rfl rfl ?_
  refine X.aload_n 490 i316_489 rfl rfl rfl ?_
  refine X.iload_n 491 i316_490 rfl rfl rfl ?_
  refine X.iconst 492 i316_491 rfl rfl (by decide) ?_
  refine X.iadd 493 i316_492 rfl rfl (by omega) ?_
  refine X.rald 494 i316_493 rfl rfl (by decide) (by show 0 ≤ _ ∧ _ < ((s.1 : Nat) : Int); omega) (fun h1 => ?_)
  refine X.callv 497 [zi (z_ro (EE s) 0 (y + 1))] [] [(0, zr 4 40), (1, zi (z_ro (EE s) 0 (y + 1)))] i316_494 rfl (by decide) rfl rfl (by omega) rfl rfl (by decide) rfl t88 (Nat.le_of_ble_eq_true rfl) (Nat.le_of_ble_eq_true rfl) rfl ?_
  refine c88_1 (S := zS0) (m0 := m) (B := B) (z_ro (EE s) 0 (y + 1)) (by omega) (J.rf hJ) (by omega) (by omega) (fun h => h) (fun h => h) (fun v2 m3 hv2 hF5 hJ4 => ?_)
  show X (EE s) d 316 497 [(0, zr 99 0), (1, zr 4 40), (2, zr 4 44), (3, zi y)] [zi v2] m3 _
  refine X.aload_n 498 i316_497 rfl rfl rfl ?_
  refine X.aload_n 499 i316_498 rfl rfl rfl ?_
  refine X.iload_n 500 i316_499 rfl rfl rfl ?_
  refine X.iconst 501 i316_500 rfl rfl (by decide) ?_
  refine X.iadd 502 i316_501 rfl rfl (by omega) ?_
  refine X.rald 503 i316_502 rfl rfl (by decide) (by show 0 ≤ _ ∧ _ < ((s.1 : Nat) : Int); omega) (fun h6 => ?_)
  refine X.callv 506 [zi (z_ro (EE s) 0 (y + 1))] [zi v2] [(0, zr 4 44), (1, zi (z_ro (EE s) 0 (y + 1)))] i316_503 rfl (by decide) rfl rfl (by omega) rfl rfl (by decide) rfl t258 (Nat.le_of_ble_eq_true rfl) (Nat.le_of_ble_eq_true rfl) rfl ?_
  refine c258_1 (S := zS0) (m0 := m3) (B := B) (z_ro (EE s) 0 (y + 1)) (by omega) (J.rf hJ4.jb0) (by omega) (by omega) (fun h => h) (fun h => h) (fun v7 m8 hv7 hF10 hJ9 => ?_)
  show X (EE s) d 316 506 [(0, zr 99 0), (1, zr 4 40), (2, zr 4 44), (3, zi y)] [zi v7, zi v2] m8 _
  refine X.icmpeq 1674 509 i316_506 rfl rfl rfl (fun h11 => ?_) (fun h11 => ?_)
  · exact K _ (hJ9.jb0.up (by omega)) (st3_end (by omega) hk hJ (by omega) hR hF5 hF10).2
  · exact absurd ((st3_end (by omega) hk hJ (by omega) hR hF5 hF10).1) h11
theorem lw8 {s : Nat × (Nat → Int32)} {m : zM} {B : Int} {d : Nat} {Q : Option zV → zM → Prop} (y : Int) (hd : 200 ≤ d) (hJ : JB B m) (hR : Rel3 B m m) (hZ : ZZ m) (hB : B + 220000 ≤ 700000000) (hy : 0 ≤ y ∧ y + 6 ≤ (s.1 : Int)) (hs : s.1 ≤ 6) (K : ∀ (m' : zM), JB (B + 220000) m' → Rel3 (B + 220000) m' m' → X (EE s) d 316 1674 [(0, zr 99 0), (1, zr 4 40), (2, zr 4 44), (3, zi y)] [] m' Q) : X (EE s) d 316 511 [(0, zr 99 0), (1, zr 4 40), (2, zr 4 44), (3, zi y)] [] m Q := by
  refine X.mok (fun hk => ?_)
  refine X.aload_n 512 i316_511 rfl rfl rfl ?_
  refine X.callv 515 [] [] [(0, zr 4 40)] i316_512 rfl (by decide) rfl rfl (by omega) rfl rfl (by decide) rfl t90 (Nat.le_of_ble_eq_true rfl) (Nat.le_of_ble_eq_true rfl) rfl ?_
  refine c90_1 (S := zS0) (m0 := m) (B := B)  (by omega) (J.rf hJ) (by omega) (fun h => h) (fun h => h) (fun h => h) (fun h => h) (fun h => h) (fun h => h) (fun h => h) (fun h => h) (fun h => h) (fun v1 m2 hv1 hF4 hJ3 => ?_)
  show X (EE s) d 316 515 [(0, zr 99 0), (1, zr 4 40), (2, zr 4 44), (3, zi y)] [zi v1] m2 _
  refine X.aload_n 516 i316_515 rfl rfl rfl ?_
  refine X.callv 519 [] [zi v1] [(0, zr 4 44)] i316_516 rfl (by decide) rfl rfl (by omega) rfl rfl (by decide) rfl t260 (Nat.le_of_ble_eq_true rfl) (Nat.le_of_ble_eq_true rfl) rfl ?_
  refine c260_1 (S := zS0) (m0 := m2) (B := B)  (by omega) (J.rf hJ3.jb0) (by omega) (fun h => h) (fun h => h) (fun h => h) (fun h => h) (fun h => h) (fun h => h) (fun h => h) (fun h => h) (fun h => h) (fun h => h) (fun h => h) (fun h => h) (fun h => h) (fun h => h) (fun h => h) (fun h => h) (fun h => h) (fun h => h) (fun v5 m6 hv5 hF8 hJ7 => ?_)
  show X (EE s) d 316 519 [(0, zr 99 0), (1, zr 4 40), (2, zr 4 44), (3, zi y)] [zi v5, zi v1] m6 _
  refine X.icmpeq 1674 522 i316_519 rfl rfl rfl (fun h9 => ?_) (fun h9 => ?_)
  · exact K _ (hJ7.jb0.up (by omega)) (st3_calendar  hk hJ (by omega) hR hF4 hF8).2
  · exact absurd ((st3_calendar  hk hJ (by omega) hR hF4 hF8).1) h9
theorem lw9 {s : Nat × (Nat → Int32)} {m : zM} {B : Int} {d : Nat} {Q : Option zV → zM → Prop} (y : Int) (hd : 200 ≤ d) (hJ : JB B m) (hR : Rel3 B m m) (hZ : ZZ m) (hB : B + 220000 ≤ 700000000) (hy : 0 ≤ y ∧ y + 6 ≤ (s.1 : Int)) (hs : s.1 ≤ 6) (K : ∀ (m' : zM), JB (B + 220000) m' → Rel3 (B + 220000) m' m' → X (EE s) d 316 1674 [(0, zr 99 0), (1, zr 4 40), (2, zr 4 44), (3, zi y)] [] m' Q) : X (EE s) d 316 524 [(0, zr 99 0), (1, zr 4 40), (2, zr 4 44), (3, zi y)] [] m Q := by
  refine X.mok (fun hk => ?_)
  refine X.aload_n 525 i316_524 rfl rfl rfl ?_
  refine X.aload_n 526 i316_525 rfl rfl rfl ?_
  refine X.iload_n 527 i316_526 rfl rfl rfl ?_
  refine X.iconst 528 i316_527 rfl rfl (by decide) ?_
  refine X.iadd 529 i316_528 rfl rfl (by omega) ?_
  refine X.rald 530 i316_529 rfl rfl (by decide) (by show 0 ≤ _ ∧ _ < ((s.1 : Nat) : Int); omega) (fun h1 => ?_)
  refine X.callv 533 [zi (z_ro (EE s) 0 (y + 1))] [] [(0, zr 4 40), (1, zi (z_ro (EE s) 0 (y + 1)))] i316_530 rfl (by decide) rfl rfl (by omega) rfl rfl (by decide) rfl t113 (Nat.le_of_ble_eq_true rfl) (Nat.le_of_ble_eq_true rfl) rfl ?_
  refine c113_1 (S := zS0) (m0 := m) (B := B) (z_ro (EE s) 0 (y + 1)) (by omega) (J.rf hJ) (by omega) (by omega) (fun v2 hv2 hF5 => ?_)
  show X (EE s) d 316 533 [(0, zr 99 0), (1, zr 4 40), (2, zr 4 44), (3, zi y)] [zi v2] m _
  refine X.aload_n 534 i316_533 rfl rfl rfl ?_
  refine X.aload_n 535 i316_534 rfl rfl rfl ?_
  refine X.iload_n 536 i316_535 rfl rfl rfl ?_
  refine X.iconst 537 i316_536 rfl rfl (by decide) ?_
  refine X.iadd 538 i316_537 rfl rfl (by omega) ?_
  refine X.rald 539 i316_538 rfl rfl (by decide) (by show 0 ≤ _ ∧ _ < ((s.1 : Nat) : Int); omega) (fun h6 => ?_)
  refine X.callv 542 [zi (z_ro (EE s) 0 (y + 1))] [zi v2] [(0, zr 4 44), (1, zi (z_ro (EE s) 0 (y + 1)))] i316_539 rfl (by decide) rfl rfl (by omega) rfl rfl (by decide) rfl t259 (Nat.le_of_ble_eq_true rfl) (Nat.le_of_ble_eq_true rfl) rfl ?_
  refine c259_1 (S := zS0) (m0 := m) (B := B) (z_ro (EE s) 0 (y + 1)) (by omega) (J.rf hJ) (by omega) (by omega) (fun v7 hv7 hF10 => ?_)
  show X (EE s) d 316 542 [(0, zr 99 0), (1, zr 4 40), (2, zr 4 44), (3, zi y)] [zi v7, zi v2] m _
  refine X.icmpeq 1674 545 i316_542 rfl rfl rfl (fun h11 => ?_) (fun h11 => ?_)
  · exact K _ (hJ.up (by omega)) (hR.up (by omega))
  · exact absurd (hF5.symm.trans ((an_fault ⟨hk, hJ⟩ (by omega) hR.1).trans hF10)) h11
theorem lw10 {s : Nat × (Nat → Int32)} {m : zM} {B : Int} {d : Nat} {Q : Option zV → zM → Prop} (y : Int) (hd : 200 ≤ d) (hJ : JB B m) (hR : Rel3 B m m) (hZ : ZZ m) (hB : B + 220000 ≤ 700000000) (hy : 0 ≤ y ∧ y + 6 ≤ (s.1 : Int)) (hs : s.1 ≤ 6) (K : ∀ (m' : zM), JB (B + 220000) m' → Rel3 (B + 220000) m' m' → X (EE s) d 316 1674 [(0, zr 99 0), (1, zr 4 40), (2, zr 4 44), (3, zi y)] [] m' Q) : X (EE s) d 316 547 [(0, zr 99 0), (1, zr 4 40), (2, zr 4 44), (3, zi y)] [] m Q := by
  refine X.mok (fun hk => ?_)
  refine X.aload_n 548 i316_547 rfl rfl rfl ?_
  refine X.aload_n 549 i316_548 rfl rfl rfl ?_
  refine X.iload_n 550 i316_549 rfl rfl rfl ?_
  refine X.iconst 551 i316_550 rfl rfl (by decide) ?_
  refine X.iadd 552 i316_551 rfl rfl (by omega) ?_
  refine X.rald 553 i316_552 rfl rfl (by decide) (by show 0 ≤ _ ∧ _ < ((s.1 : Nat) : Int); omega) (fun h1 => ?_)
  refine X.callv 556 [zi (z_ro (EE s) 0 (y + 1))] [] [(0, zr 4 40), (1, zi (z_ro (EE s) 0 (y + 1)))] i316_553 rfl (by decide) rfl rfl (by omega) rfl rfl (by decide) rfl t114 (Nat.le_of_ble_eq_true rfl) (Nat.le_of_ble_eq_true rfl) rfl ?_
  refine c114_1 (S := zS0) (m0 := m) (B := B) (z_ro (EE s) 0 (y + 1)) (by omega) (J.rf hJ) (by omega) (by omega) (fun h => h) (fun h => h) (fun h => h) (fun v2 m3 hv2 hF5 hJ4 => ?_)
  show X (EE s) d 316 556 [(0, zr 99 0), (1, zr 4 40), (2, zr 4 44), (3, zi y)] [zi v2] m3 _
  refine X.aload_n 557 i316_556 rfl rfl rfl ?_
  refine X.aload_n 558 i316_557 rfl rfl rfl ?_
  refine X.iload_n 559 i316_558 rfl rfl rfl ?_
  refine X.iconst 560 i316_559 rfl rfl (by decide) ?_
  refine X.iadd 561 i316_560 rfl rfl (by omega) ?_
  refine X.rald 562 i316_561 rfl rfl (by decide) (by show 0 ≤ _ ∧ _ < ((s.1 : Nat) : Int); omega) (fun h6 => ?_)
  refine X.callv 565 [zi (z_ro (EE s) 0 (y + 1))] [zi v2] [(0, zr 4 44), (1, zi (z_ro (EE s) 0 (y + 1)))] i316_562 rfl (by decide) rfl rfl (by omega) rfl rfl (by decide) rfl t276 (Nat.le_of_ble_eq_true rfl) (Nat.le_of_ble_eq_true rfl) rfl ?_
  refine c276_1 (S := zS0) (m0 := m3) (B := B + 1) (z_ro (EE s) 0 (y + 1)) (by omega) (J.rf hJ4.jb0) (by omega) (by omega) (fun h => h) (fun h => h) (fun h => h) (fun v7 m8 hv7 hF10 hJ9 => ?_)
  show X (EE s) d 316 565 [(0, zr 99 0), (1, zr 4 40), (2, zr 4 44), (3, zi y)] [zi v7, zi v2] m8 _
  refine X.icmpeq 1674 568 i316_565 rfl rfl rfl (fun h11 => ?_) (fun h11 => ?_)
  · exact K _ (hJ9.jb0.up (by omega)) (st3_seal (by omega) hk hJ (by omega) hR hF5 hF10).2
  · exact absurd ((st3_seal (by omega) hk hJ (by omega) hR hF5 hF10).1) h11
theorem lw11 {s : Nat × (Nat → Int32)} {m : zM} {B : Int} {d : Nat} {Q : Option zV → zM → Prop} (y : Int) (hd : 200 ≤ d) (hJ : JB B m) (hR : Rel3 B m m) (hZ : ZZ m) (hB : B + 220000 ≤ 700000000) (hy : 0 ≤ y ∧ y + 6 ≤ (s.1 : Int)) (hs : s.1 ≤ 6) (K : ∀ (m' : zM), JB (B + 220000) m' → Rel3 (B + 220000) m' m' → X (EE s) d 316 1674 [(0, zr 99 0), (1, zr 4 40), (2, zr 4 44), (3, zi y)] [] m' Q) : X (EE s) d 316 570 [(0, zr 99 0), (1, zr 4 40), (2, zr 4 44), (3, zi y)] [] m Q := by
  refine X.mok (fun hk => ?_)
  refine X.aload_n 571 i316_570 rfl rfl rfl ?_
  refine X.aload_n 572 i316_571 rfl rfl rfl ?_
  refine X.iload_n 573 i316_572 rfl rfl rfl ?_
  refine X.iconst 574 i316_573 rfl rfl (by decide) ?_
  refine X.iadd 575 i316_574 rfl rfl (by omega) ?_
  refine X.rald 576 i316_575 rfl rfl (by decide) (by show 0 ≤ _ ∧ _ < ((s.1 : Nat) : Int); omega) (fun h1 => ?_)
  refine X.callv 579 [zi (z_ro (EE s) 0 (y + 1))] [] [(0, zr 4 40), (1, zi (z_ro (EE s) 0 (y + 1)))] i316_576 rfl (by decide) rfl rfl (by omega) rfl rfl (by decide) rfl t116 (Nat.le_of_ble_eq_true rfl) (Nat.le_of_ble_eq_true rfl) rfl ?_
  refine c116_1 (S := zS0) (m0 := m) (B := B) (z_ro (EE s) 0 (y + 1)) (by omega) (J.rf hJ) (by omega) (by omega) (fun h => h) (fun h => h) (fun h => h) (fun v2 m3 hv2 hF5 hJ4 => ?_)
  show X (EE s) d 316 579 [(0, zr 99 0), (1, zr 4 40), (2, zr 4 44), (3, zi y)] [zi v2] m3 _
  refine X.aload_n 580 i316_579 rfl rfl rfl ?_
  refine X.aload_n 581 i316_580 rfl rfl rfl ?_
  refine X.iload_n 582 i316_581 rfl rfl rfl ?_
  refine X.iconst 583 i316_582 rfl rfl (by decide) ?_
  refine X.iadd 584 i316_583 rfl rfl (by omega) ?_
  refine X.rald 585 i316_584 rfl rfl (by decide) (by show 0 ≤ _ ∧ _ < ((s.1 : Nat) : Int); omega) (fun h6 => ?_)
  refine X.callv 588 [zi (z_ro (EE s) 0 (y + 1))] [zi v2] [(0, zr 4 44), (1, zi (z_ro (EE s) 0 (y + 1)))] i316_585 rfl (by decide) rfl rfl (by omega) rfl rfl (by decide) rfl t277 (Nat.le_of_ble_eq_true rfl) (Nat.le_of_ble_eq_true rfl) rfl ?_
  refine c277_1 (S := zS0) (m0 := m3) (B := B + 4) (z_ro (EE s) 0 (y + 1)) (by omega) (J.rf hJ4.jb0) (by omega) (by omega) (fun h => h) (fun h => h) (fun h => h) (fun v7 m8 hv7 hF10 hJ9 => ?_)
  show X (EE s) d 316 588 [(0, zr 99 0), (1, zr 4 40), (2, zr 4 44), (3, zi y)] [zi v7, zi v2] m8 _
  refine X.icmpeq 1674 591 i316_588 rfl rfl rfl (fun h11 => ?_) (fun h11 => ?_)
  · exact K _ (hJ9.jb0.up (by omega)) (st3_open (by omega) hk hJ (by omega) hR hF5 hF10).2
  · exact absurd ((st3_open (by omega) hk hJ (by omega) hR hF5 hF10).1) h11
theorem lw12 {s : Nat × (Nat → Int32)} {m : zM} {B : Int} {d : Nat} {Q : Option zV → zM → Prop} (y : Int) (hd : 200 ≤ d) (hJ : JB B m) (hR : Rel3 B m m) (hZ : ZZ m) (hB : B + 220000 ≤ 700000000) (hy : 0 ≤ y ∧ y + 6 ≤ (s.1 : Int)) (hs : s.1 ≤ 6) (K : ∀ (m' : zM), JB (B + 220000) m' → Rel3 (B + 220000) m' m' → X (EE s) d 316 1674 [(0, zr 99 0), (1, zr 4 40), (2, zr 4 44), (3, zi y)] [] m' Q) : X (EE s) d 316 593 [(0, zr 99 0), (1, zr 4 40), (2, zr 4 44), (3, zi y)] [] m Q := by
  refine X.mok (fun hk => ?_)
  refine X.aload_n 594 i316_593 rfl rfl rfl ?_
  refine X.aload_n 595 i316_594 rfl rfl rfl ?_
  refine X.iload_n 596 i316_595 rfl rfl rfl ?_
  refine X.iconst 597 i316_596 rfl rfl (by decide) ?_
  refine X.iadd 598 i316_597 rfl rfl (by omega) ?_
  refine X.rald 599 i316_598 rfl rfl (by decide) (by show 0 ≤ _ ∧ _ < ((s.1 : Nat) : Int); omega) (fun h1 => ?_)
  refine X.aload_n 600 i316_599 rfl rfl rfl ?_
  refine X.iload_n 601 i316_600 rfl rfl rfl ?_
  refine X.iconst 602 i316_601 rfl rfl (by decide) ?_
  refine X.iadd 603 i316_602 rfl rfl (by omega) ?_
  refine X.rald 604 i316_603 rfl rfl (by decide) (by show 0 ≤ _ ∧ _ < ((s.1 : Nat) : Int); omega) (fun h2 => ?_)
  refine X.callv 607 [zi (z_ro (EE s) 0 (y + 1)), zi (z_ro (EE s) 0 (y + 2))] [] [(0, zr 4 40), (1, zi (z_ro (EE s) 0 (y + 1))), (2, zi (z_ro (EE s) 0 (y + 2)))] i316_604 rfl (by decide) rfl rfl (by omega) rfl rfl (by decide) rfl t122 (Nat.le_of_ble_eq_true rfl) (Nat.le_of_ble_eq_true rfl) rfl ?_
  refine c122_1 (S := zS0) (m0 := m) (B := B) (z_ro (EE s) 0 (y + 1)) (z_ro (EE s) 0 (y + 2)) (by omega) (J.rf hJ) (by omega) (by omega) (by omega) (fun h => h) (fun h => h) (fun h => h) (fun v3 m4 hv3 hF6 hJ5 => ?_)
  show X (EE s) d 316 607 [(0, zr 99 0), (1, zr 4 40), (2, zr 4 44), (3, zi y)] [zi v3] m4 _
  refine X.aload_n 608 i316_607 rfl rfl rfl ?_
  refine X.aload_n 609 i316_608 rfl rfl rfl ?_
  refine X.iload_n 610 i316_609 rfl rfl rfl ?_
  refine X.iconst 611 i316_610 rfl rfl (by decide) ?_
  refine X.iadd 612 i316_611 rfl rfl (by omega) ?_
  refine X.rald 613 i316_612 rfl rfl (by decide) (by show 0 ≤ _ ∧ _ < ((s.1 : Nat) : Int); omega) (fun h7 => ?_)
  refine X.aload_n 614 i316_613 rfl rfl rfl ?_
  refine X.iload_n 615 i316_614 rfl rfl rfl ?_
  refine X.iconst 616 i316_615 rfl rfl (by decide) ?_
  refine X.iadd 617 i316_616 rfl rfl (by omega) ?_
  refine X.rald 618 i316_617 rfl rfl (by decide) (by show 0 ≤ _ ∧ _ < ((s.1 : Nat) : Int); omega) (fun h8 => ?_)
  refine X.callv 621 [zi (z_ro (EE s) 0 (y + 1)), zi (z_ro (EE s) 0 (y + 2))] [zi v3] [(0, zr 4 44), (1, zi (z_ro (EE s) 0 (y + 1))), (2, zi (z_ro (EE s) 0 (y + 2)))] i316_618 rfl (by decide) rfl rfl (by omega) rfl rfl (by decide) rfl t245 (Nat.le_of_ble_eq_true rfl) (Nat.le_of_ble_eq_true rfl) rfl ?_
  refine c245_1 (S := zS0) (m0 := m4) (B := B) (z_ro (EE s) 0 (y + 1)) (z_ro (EE s) 0 (y + 2)) (by omega) (J.rf hJ5.jb0) (by omega) (by omega) (by omega) (fun h => h) (fun h => h) (fun h => h) (fun v9 m10 hv9 hF12 hJ11 => ?_)
  show X (EE s) d 316 621 [(0, zr 99 0), (1, zr 4 40), (2, zr 4 44), (3, zi y)] [zi v9, zi v3] m10 _
  refine X.icmpeq 1674 624 i316_621 rfl rfl rfl (fun h13 => ?_) (fun h13 => ?_)
  · exact K _ (hJ11.jb0.up (by omega)) (st3_season (by omega) (by omega) hk hJ (by omega) hR hF6 hF12).2
  · exact absurd ((st3_season (by omega) (by omega) hk hJ (by omega) hR hF6 hF12).1) h13
theorem lw13 {s : Nat × (Nat → Int32)} {m : zM} {B : Int} {d : Nat} {Q : Option zV → zM → Prop} (y : Int) (hd : 200 ≤ d) (hJ : JB B m) (hR : Rel3 B m m) (hZ : ZZ m) (hB : B + 220000 ≤ 700000000) (hy : 0 ≤ y ∧ y + 6 ≤ (s.1 : Int)) (hs : s.1 ≤ 6) (K : ∀ (m' : zM), JB (B + 220000) m' → Rel3 (B + 220000) m' m' → X (EE s) d 316 1674 [(0, zr 99 0), (1, zr 4 40), (2, zr 4 44), (3, zi y)] [] m' Q) : X (EE s) d 316 626 [(0, zr 99 0), (1, zr 4 40), (2, zr 4 44), (3, zi y)] [] m Q := by
  refine X.mok (fun hk => ?_)
  refine X.aload_n 627 i316_626 rfl rfl rfl ?_
  refine X.aload_n 628 i316_627 rfl rfl rfl ?_
  refine X.iload_n 629 i316_628 rfl rfl rfl ?_
  refine X.iconst 630 i316_629 rfl rfl (by decide) ?_
  refine X.iadd 631 i316_630 rfl rfl (by omega) ?_
  refine X.rald 632 i316_631 rfl rfl (by decide) (by show 0 ≤ _ ∧ _ < ((s.1 : Nat) : Int); omega) (fun h1 => ?_)
  refine X.aload_n 633 i316_632 rfl rfl rfl ?_
  refine X.iload_n 634 i316_633 rfl rfl rfl ?_
  refine X.iconst 635 i316_634 rfl rfl (by decide) ?_
  refine X.iadd 636 i316_635 rfl rfl (by omega) ?_
  refine X.rald 637 i316_636 rfl rfl (by decide) (by show 0 ≤ _ ∧ _ < ((s.1 : Nat) : Int); omega) (fun h2 => ?_)
  refine X.aload_n 638 i316_637 rfl rfl rfl ?_
  refine X.iload_n 639 i316_638 rfl rfl rfl ?_
  refine X.iconst 640 i316_639 rfl rfl (by decide) ?_
  refine X.iadd 641 i316_640 rfl rfl (by omega) ?_
  refine X.rald 642 i316_641 rfl rfl (by decide) (by show 0 ≤ _ ∧ _ < ((s.1 : Nat) : Int); omega) (fun h3 => ?_)
  refine X.callv 645 [zi (z_ro (EE s) 0 (y + 1)), zi (z_ro (EE s) 0 (y + 2)), zi (z_ro (EE s) 0 (y + 3))] [] [(0, zr 4 40), (1, zi (z_ro (EE s) 0 (y + 1))), (2, zi (z_ro (EE s) 0 (y + 2))), (3, zi (z_ro (EE s) 0 (y + 3)))] i316_642 rfl (by decide) rfl rfl (by omega) rfl rfl (by decide) rfl t124 (Nat.le_of_ble_eq_true rfl) (Nat.le_of_ble_eq_true rfl) rfl ?_
  refine c124_1 (S := zS0) (m0 := m) (B := B) (z_ro (EE s) 0 (y + 1)) (z_ro (EE s) 0 (y + 2)) (z_ro (EE s) 0 (y + 3)) (by omega) (J.rf hJ) (by omega) (by omega) (by omega) (by omega) (fun h => h) (fun h => h) (fun h => h) (fun v4 m5 hv4 hF7 hJ6 => ?_)
  show X (EE s) d 316 645 [(0, zr 99 0), (1, zr 4 40), (2, zr 4 44), (3, zi y)] [zi v4] m5 _
  refine X.aload_n 646 i316_645 rfl rfl rfl ?_
  refine X.aload_n 647 i316_646 rfl rfl rfl ?_
  refine X.iload_n 648 i316_647 rfl rfl rfl ?_
  refine X.iconst 649 i316_648 rfl rfl (by decide) ?_
  refine X.iadd 650 i316_649 rfl rfl (by omega) ?_
  refine X.rald 651 i316_650 rfl rfl (by decide) (by show 0 ≤ _ ∧ _ < ((s.1 : Nat) : Int); omega) (fun h8 => ?_)
  refine X.aload_n 652 i316_651 rfl rfl rfl ?_
  refine X.iload_n 653 i316_652 rfl rfl rfl ?_
  refine X.iconst 654 i316_653 rfl rfl (by decide) ?_
  refine X.iadd 655 i316_654 rfl rfl (by omega) ?_
  refine X.rald 656 i316_655 rfl rfl (by decide) (by show 0 ≤ _ ∧ _ < ((s.1 : Nat) : Int); omega) (fun h9 => ?_)
  refine X.aload_n 657 i316_656 rfl rfl rfl ?_
  refine X.iload_n 658 i316_657 rfl rfl rfl ?_
  refine X.iconst 659 i316_658 rfl rfl (by decide) ?_
  refine X.iadd 660 i316_659 rfl rfl (by omega) ?_
  refine X.rald 661 i316_660 rfl rfl (by decide) (by show 0 ≤ _ ∧ _ < ((s.1 : Nat) : Int); omega) (fun h10 => ?_)
  refine X.callv 664 [zi (z_ro (EE s) 0 (y + 1)), zi (z_ro (EE s) 0 (y + 2)), zi (z_ro (EE s) 0 (y + 3))] [zi v4] [(0, zr 4 44), (1, zi (z_ro (EE s) 0 (y + 1))), (2, zi (z_ro (EE s) 0 (y + 2))), (3, zi (z_ro (EE s) 0 (y + 3)))] i316_661 rfl (by decide) rfl rfl (by omega) rfl rfl (by decide) rfl t247 (Nat.le_of_ble_eq_true rfl) (Nat.le_of_ble_eq_true rfl) rfl ?_
  refine c247_1 (S := zS0) (m0 := m5) (B := B) (z_ro (EE s) 0 (y + 1)) (z_ro (EE s) 0 (y + 2)) (z_ro (EE s) 0 (y + 3)) (by omega) (J.rf hJ6.jb0) (by omega) (by omega) (by omega) (by omega) (fun h => h) (fun h => h) (fun h => h) (fun v11 m12 hv11 hF14 hJ13 => ?_)
  show X (EE s) d 316 664 [(0, zr 99 0), (1, zr 4 40), (2, zr 4 44), (3, zi y)] [zi v11, zi v4] m12 _
  refine X.icmpeq 1674 667 i316_664 rfl rfl rfl (fun h15 => ?_) (fun h15 => ?_)
  · exact K _ (hJ13.jb0.up (by omega)) (st3_week (by omega) (by omega) (by omega) hk hJ (by omega) hR hF7 hF14).2
  · exact absurd ((st3_week (by omega) (by omega) (by omega) hk hJ (by omega) hR hF7 hF14).1) h15
theorem lw14 {s : Nat × (Nat → Int32)} {m : zM} {B : Int} {d : Nat} {Q : Option zV → zM → Prop} (y : Int) (hd : 200 ≤ d) (hJ : JB B m) (hR : Rel3 B m m) (hZ : ZZ m) (hB : B + 220000 ≤ 700000000) (hy : 0 ≤ y ∧ y + 6 ≤ (s.1 : Int)) (hs : s.1 ≤ 6) (K : ∀ (m' : zM), JB (B + 220000) m' → Rel3 (B + 220000) m' m' → X (EE s) d 316 1674 [(0, zr 99 0), (1, zr 4 40), (2, zr 4 44), (3, zi y)] [] m' Q) : X (EE s) d 316 669 [(0, zr 99 0), (1, zr 4 40), (2, zr 4 44), (3, zi y)] [] m Q := by
  refine X.mok (fun hk => ?_)
  refine X.aload_n 670 i316_669 rfl rfl rfl ?_
  refine X.aload_n 671 i316_670 rfl rfl rfl ?_
  refine X.iload_n 672 i316_671 rfl rfl rfl ?_
  refine X.iconst 673 i316_672 rfl rfl (by decide) ?_
  refine X.iadd 674 i316_673 rfl rfl (by omega) ?_
  refine X.rald 675 i316_674 rfl rfl (by decide) (by show 0 ≤ _ ∧ _ < ((s.1 : Nat) : Int); omega) (fun h1 => ?_)
  refine X.aload_n 676 i316_675 rfl rfl rfl ?_
  refine X.iload_n 677 i316_676 rfl rfl rfl ?_
  refine X.iconst 678 i316_677 rfl rfl (by decide) ?_
  refine X.iadd 679 i316_678 rfl rfl (by omega) ?_
  refine X.rald 680 i316_679 rfl rfl (by decide) (by show 0 ≤ _ ∧ _ < ((s.1 : Nat) : Int); omega) (fun h2 => ?_)
  refine X.callv 683 [zi (z_ro (EE s) 0 (y + 1)), zi (z_ro (EE s) 0 (y + 2))] [] [(0, zr 4 40), (1, zi (z_ro (EE s) 0 (y + 1))), (2, zi (z_ro (EE s) 0 (y + 2)))] i316_680 rfl (by decide) rfl rfl (by omega) rfl rfl (by decide) rfl t125 (Nat.le_of_ble_eq_true rfl) (Nat.le_of_ble_eq_true rfl) rfl ?_
  refine c125_1 (S := zS0) (m0 := m) (B := B) (z_ro (EE s) 0 (y + 1)) (z_ro (EE s) 0 (y + 2)) (by omega) (J.rf hJ) (by omega) (by omega) (by omega) (fun h => h) (fun h => h) (fun h => h) (fun v3 m4 hv3 hF6 hJ5 => ?_)
  show X (EE s) d 316 683 [(0, zr 99 0), (1, zr 4 40), (2, zr 4 44), (3, zi y)] [zi v3] m4 _
  refine X.aload_n 684 i316_683 rfl rfl rfl ?_
  refine X.aload_n 685 i316_684 rfl rfl rfl ?_
  refine X.iload_n 686 i316_685 rfl rfl rfl ?_
  refine X.iconst 687 i316_686 rfl rfl (by decide) ?_
  refine X.iadd 688 i316_687 rfl rfl (by omega) ?_
  refine X.rald 689 i316_688 rfl rfl (by decide) (by show 0 ≤ _ ∧ _ < ((s.1 : Nat) : Int); omega) (fun h7 => ?_)
  refine X.aload_n 690 i316_689 rfl rfl rfl ?_
  refine X.iload_n 691 i316_690 rfl rfl rfl ?_
  refine X.iconst 692 i316_691 rfl rfl (by decide) ?_
  refine X.iadd 693 i316_692 rfl rfl (by omega) ?_
  refine X.rald 694 i316_693 rfl rfl (by decide) (by show 0 ≤ _ ∧ _ < ((s.1 : Nat) : Int); omega) (fun h8 => ?_)
  refine X.callv 697 [zi (z_ro (EE s) 0 (y + 1)), zi (z_ro (EE s) 0 (y + 2))] [zi v3] [(0, zr 4 44), (1, zi (z_ro (EE s) 0 (y + 1))), (2, zi (z_ro (EE s) 0 (y + 2)))] i316_694 rfl (by decide) rfl rfl (by omega) rfl rfl (by decide) rfl t248 (Nat.le_of_ble_eq_true rfl) (Nat.le_of_ble_eq_true rfl) rfl ?_
  refine c248_1 (S := zS0) (m0 := m4) (B := B) (z_ro (EE s) 0 (y + 1)) (z_ro (EE s) 0 (y + 2)) (by omega) (J.rf hJ5.jb0) (by omega) (by omega) (by omega) (fun h => h) (fun h => h) (fun h => h) (fun v9 m10 hv9 hF12 hJ11 => ?_)
  show X (EE s) d 316 697 [(0, zr 99 0), (1, zr 4 40), (2, zr 4 44), (3, zi y)] [zi v9, zi v3] m10 _
  refine X.icmpeq 1674 700 i316_697 rfl rfl rfl (fun h13 => ?_) (fun h13 => ?_)
  · exact K _ (hJ11.jb0.up (by omega)) (st3_special (by omega) (by omega) hk hJ (by omega) hR hF6 hF12).2
  · exact absurd ((st3_special (by omega) (by omega) hk hJ (by omega) hR hF6 hF12).1) h13
theorem lw15 {s : Nat × (Nat → Int32)} {m : zM} {B : Int} {d : Nat} {Q : Option zV → zM → Prop} (y : Int) (hd : 200 ≤ d) (hJ : JB B m) (hR : Rel3 B m m) (hZ : ZZ m) (hB : B + 220000 ≤ 700000000) (hy : 0 ≤ y ∧ y + 6 ≤ (s.1 : Int)) (hs : s.1 ≤ 6) (K : ∀ (m' : zM), JB (B + 220000) m' → Rel3 (B + 220000) m' m' → X (EE s) d 316 1674 [(0, zr 99 0), (1, zr 4 40), (2, zr 4 44), (3, zi y)] [] m' Q) : X (EE s) d 316 702 [(0, zr 99 0), (1, zr 4 40), (2, zr 4 44), (3, zi y)] [] m Q := by
  refine X.mok (fun hk => ?_)
  refine X.aload_n 703 i316_702 rfl rfl rfl ?_
  refine X.aload_n 704 i316_703 rfl rfl rfl ?_
  refine X.iload_n 705 i316_704 rfl rfl rfl ?_
  refine X.iconst 706 i316_705 rfl rfl (by decide) ?_
  refine X.iadd 707 i316_706 rfl rfl (by omega) ?_
  refine X.rald 708 i316_707 rfl rfl (by decide) (by show 0 ≤ _ ∧ _ < ((s.1 : Nat) : Int); omega) (fun h1 => ?_)
  refine X.callv 711 [zi (z_ro (EE s) 0 (y + 1))] [] [(0, zr 4 40), (1, zi (z_ro (EE s) 0 (y + 1)))] i316_708 rfl (by decide) rfl rfl (by omega) rfl rfl (by decide) rfl t127 (Nat.le_of_ble_eq_true rfl) (Nat.le_of_ble_eq_true rfl) rfl ?_
  refine c127_1 (S := zS0) (m0 := m) (B := B) (z_ro (EE s) 0 (y + 1)) (by omega) (J.rf hJ) (by omega) (by omega) (fun h => h) (fun h => h) (fun h => h) (fun h => h) (fun h => h) (fun v2 m3 hv2 hF5 hJ4 => ?_)
  show X (EE s) d 316 711 [(0, zr 99 0), (1, zr 4 40), (2, zr 4 44), (3, zi y)] [zi v2] m3 _
  refine X.aload_n 712 i316_711 rfl rfl rfl ?_
  refine X.aload_n 713 i316_712 rfl rfl rfl ?_
  refine X.iload_n 714 i316_713 rfl rfl rfl ?_
  refine X.iconst 715 i316_714 rfl rfl (by decide) ?_
  refine X.iadd 716 i316_715 rfl rfl (by omega) ?_
  refine X.rald 717 i316_716 rfl rfl (by decide) (by show 0 ≤ _ ∧ _ < ((s.1 : Nat) : Int); omega) (fun h6 => ?_)
  refine X.callv 720 [zi (z_ro (EE s) 0 (y + 1))] [zi v2] [(0, zr 4 44), (1, zi (z_ro (EE s) 0 (y + 1)))] i316_717 rfl (by decide) rfl rfl (by omega) rfl rfl (by decide) rfl t281 (Nat.le_of_ble_eq_true rfl) (Nat.le_of_ble_eq_true rfl) rfl ?_
  refine c281_1 (S := zS0) (m0 := m3) (B := B + 2) (z_ro (EE s) 0 (y + 1)) (by omega) (J.rf hJ4.jb0) (by omega) (by omega) (fun h => h) (fun h => h) (fun h => h) (fun h => h) (fun h => h) (fun h => h) (fun v7 m8 hv7 hF10 hJ9 => ?_)
  show X (EE s) d 316 720 [(0, zr 99 0), (1, zr 4 40), (2, zr 4 44), (3, zi y)] [zi v7, zi v2] m8 _
  refine X.icmpeq 1674 723 i316_720 rfl rfl rfl (fun h11 => ?_) (fun h11 => ?_)
  · exact K _ (hJ9.jb0.up (by omega)) (st3_move (by omega) hk hJ (by omega) hR hF5 hF10).2
  · exact absurd ((st3_move (by omega) hk hJ (by omega) hR hF5 hF10).1) h11
theorem lw16 {s : Nat × (Nat → Int32)} {m : zM} {B : Int} {d : Nat} {Q : Option zV → zM → Prop} (y : Int) (hd : 200 ≤ d) (hJ : JB B m) (hR : Rel3 B m m) (hZ : ZZ m) (hB : B + 220000 ≤ 700000000) (hy : 0 ≤ y ∧ y + 6 ≤ (s.1 : Int)) (hs : s.1 ≤ 6) (K : ∀ (m' : zM), JB (B + 220000) m' → Rel3 (B + 220000) m' m' → X (EE s) d 316 1674 [(0, zr 99 0), (1, zr 4 40), (2, zr 4 44), (3, zi y)] [] m' Q) : X (EE s) d 316 725 [(0, zr 99 0), (1, zr 4 40), (2, zr 4 44), (3, zi y)] [] m Q := by
  refine X.mok (fun hk => ?_)
  refine X.aload_n 726 i316_725 rfl rfl rfl ?_
  refine X.aload_n 727 i316_726 rfl rfl rfl ?_
  refine X.iload_n 728 i316_727 rfl rfl rfl ?_
  refine X.iconst 729 i316_728 rfl rfl (by decide) ?_
  refine X.iadd 730 i316_729 rfl rfl (by omega) ?_
  refine X.rald 731 i316_730 rfl rfl (by decide) (by show 0 ≤ _ ∧ _ < ((s.1 : Nat) : Int); omega) (fun h1 => ?_)
  refine X.callv 734 [zi (z_ro (EE s) 0 (y + 1))] [] [(0, zr 4 40), (1, zi (z_ro (EE s) 0 (y + 1)))] i316_731 rfl (by decide) rfl rfl (by omega) rfl rfl (by decide) rfl t130 (Nat.le_of_ble_eq_true rfl) (Nat.le_of_ble_eq_true rfl) rfl ?_
  refine c130_1 (S := zS0) (m0 := m) (B := B) (z_ro (EE s) 0 (y + 1)) (by omega) (J.rf hJ) (by omega) (by omega) (fun h => h) (fun h => h) (fun h => h) (fun h => h) (fun h => h) (fun h => h) (fun h => h) (fun h => h) (fun v2 m3 hv2 hF5 hJ4 => ?_)
  show X (EE s) d 316 734 [(0, zr 99 0), (1, zr 4 40), (2, zr 4 44), (3, zi y)] [zi v2] m3 _
  refine X.aload_n 735 i316_734 rfl rfl rfl ?_
  refine X.aload_n 736 i316_735 rfl rfl rfl ?_
  refine X.iload_n 737 i316_736 rfl rfl rfl ?_
  refine X.iconst 738 i316_737 rfl rfl (by decide) ?_
  refine X.iadd 739 i316_738 rfl rfl (by omega) ?_
  refine X.rald 740 i316_739 rfl rfl (by decide) (by show 0 ≤ _ ∧ _ < ((s.1 : Nat) : Int); omega) (fun h6 => ?_)
  refine X.callv 743 [zi (z_ro (EE s) 0 (y + 1))] [zi v2] [(0, zr 4 44), (1, zi (z_ro (EE s) 0 (y + 1)))] i316_740 rfl (by decide) rfl rfl (by omega) rfl rfl (by decide) rfl t282 (Nat.le_of_ble_eq_true rfl) (Nat.le_of_ble_eq_true rfl) rfl ?_
  refine c282_1 (S := zS0) (m0 := m3) (B := B + 100006) (z_ro (EE s) 0 (y + 1)) (by omega) (J.rf hJ4.jb0) (by omega) (by omega) (fun h => h) (fun h => h) (fun h => h) (fun h => h) (fun h => h) (fun h => h) (fun h => h) (fun h => h) (fun v7 m8 hv7 hF10 hJ9 => ?_)
  show X (EE s) d 316 743 [(0, zr 99 0), (1, zr 4 40), (2, zr 4 44), (3, zi y)] [zi v7, zi v2] m8 _
  refine X.icmpeq 1674 746 i316_743 rfl rfl rfl (fun h11 => ?_) (fun h11 => ?_)
  · exact K _ (hJ9.jb0.up (by omega)) (st3_off (by omega) hk hJ (by omega) hR hF5 hF10).2
  · exact absurd ((st3_off (by omega) hk hJ (by omega) hR hF5 hF10).1) h11
theorem lw17 {s : Nat × (Nat → Int32)} {m : zM} {B : Int} {d : Nat} {Q : Option zV → zM → Prop} (y : Int) (hd : 200 ≤ d) (hJ : JB B m) (hR : Rel3 B m m) (hZ : ZZ m) (hB : B + 220000 ≤ 700000000) (hy : 0 ≤ y ∧ y + 6 ≤ (s.1 : Int)) (hs : s.1 ≤ 6) (K : ∀ (m' : zM), JB (B + 220000) m' → Rel3 (B + 220000) m' m' → X (EE s) d 316 1674 [(0, zr 99 0), (1, zr 4 40), (2, zr 4 44), (3, zi y)] [] m' Q) : X (EE s) d 316 748 [(0, zr 99 0), (1, zr 4 40), (2, zr 4 44), (3, zi y)] [] m Q := by
  refine X.mok (fun hk => ?_)
  refine X.aload_n 749 i316_748 rfl rfl rfl ?_
  refine X.aload_n 750 i316_749 rfl rfl rfl ?_
  refine X.iload_n 751 i316_750 rfl rfl rfl ?_
  refine X.iconst 752 i316_751 rfl rfl (by decide) ?_
  refine X.iadd 753 i316_752 rfl rfl (by omega) ?_
  refine X.rald 754 i316_753 rfl rfl (by decide) (by show 0 ≤ _ ∧ _ < ((s.1 : Nat) : Int); omega) (fun h1 => ?_)
  refine X.aload_n 755 i316_754 rfl rfl rfl ?_
  refine X.iload_n 756 i316_755 rfl rfl rfl ?_
  refine X.iconst 757 i316_756 rfl rfl (by decide) ?_
  refine X.iadd 758 i316_757 rfl rfl (by omega) ?_
  refine X.rald 759 i316_758 rfl rfl (by decide) (by show 0 ≤ _ ∧ _ < ((s.1 : Nat) : Int); omega) (fun h2 => ?_)
  refine X.ifeq 766 762 i316_759 rfl rfl rfl (fun h3 => ?_) (fun h3 => ?_)
  · refine X.iconst 767 i316_766 rfl rfl (by decide) ?_
    refine X.callv 770 [zi (z_ro (EE s) 0 (y + 1)), zi 0] [] [(0, zr 4 40), (1, zi (z_ro (EE s) 0 (y + 1))), (2, zi 0)] i316_767 rfl (by decide) rfl rfl (by omega) rfl rfl (by decide) rfl t134 (Nat.le_of_ble_eq_true rfl) (Nat.le_of_ble_eq_true rfl) rfl ?_
    refine c134_1 (S := zS0) (m0 := m) (B := B) (z_ro (EE s) 0 (y + 1)) 0 (by omega) (J.rf hJ) (by omega) (by omega) (by omega) (fun h => h) (fun h => h) (fun h => h) (fun v4 m5 hv4 hF7 hJ6 => ?_)
    show X (EE s) d 316 770 [(0, zr 99 0), (1, zr 4 40), (2, zr 4 44), (3, zi y)] [zi v4] m5 _
    refine X.aload_n 771 i316_770 rfl rfl rfl ?_
    refine X.aload_n 772 i316_771 rfl rfl rfl ?_
    refine X.iload_n 773 i316_772 rfl rfl rfl ?_
    refine X.iconst 774 i316_773 rfl rfl (by decide) ?_
    refine X.iadd 775 i316_774 rfl rfl (by omega) ?_
    refine X.rald 776 i316_775 rfl rfl (by decide) (by show 0 ≤ _ ∧ _ < ((s.1 : Nat) : Int); omega) (fun h8 => ?_)
    refine X.aload_n 777 i316_776 rfl rfl rfl ?_
    refine X.iload_n 778 i316_777 rfl rfl rfl ?_
    refine X.iconst 779 i316_778 rfl rfl (by decide) ?_
    refine X.iadd 780 i316_779 rfl rfl (by omega) ?_
    refine X.rald 781 i316_780 rfl rfl (by decide) (by show 0 ≤ _ ∧ _ < ((s.1 : Nat) : Int); omega) (fun h9 => ?_)
    refine X.ifeq 788 784 i316_781 rfl rfl rfl (fun h10 => ?_) (fun h10 => ?_)
    · refine X.iconst 789 i316_788 rfl rfl (by decide) ?_
      refine X.callv 792 [zi (z_ro (EE s) 0 (y + 1)), zi 0] [zi v4] [(0, zr 4 44), (1, zi (z_ro (EE s) 0 (y + 1))), (2, zi 0)] i316_789 rfl (by decide) rfl rfl (by omega) rfl rfl (by decide) rfl t283 (Nat.le_of_ble_eq_true rfl) (Nat.le_of_ble_eq_true rfl) rfl ?_
      refine c283_1 (S := zS0) (m0 := m5) (B := B + 1) (z_ro (EE s) 0 (y + 1)) 0 (by omega) (J.rf hJ6.jb0) (by omega) (by omega) (by omega) (fun h => h) (fun h => h) (fun h => h) (fun v11 m12 hv11 hF14 hJ13 => ?_)
      show X (EE s) d 316 792 [(0, zr 99 0), (1, zr 4 40), (2, zr 4 44), (3, zi y)] [zi v11, zi v4] m12 _
      refine X.icmpeq 1674 795 i316_792 rfl rfl rfl (fun h15 => ?_) (fun h15 => ?_)
      · exact K _ (hJ13.jb0.up (by omega)) (st3_mark (by omega) (by omega) hk hJ (by omega) hR hF7 hF14)
      · exact absurd (aw_mark (by omega) (by omega) hk hJ (by omega) hR hF7 hF14) h15
    · exfalso
      omega
  · refine X.iconst 763 i316_762 rfl rfl (by decide) ?_
    refine X.goto 767 i316_763 rfl rfl ?_
    refine X.callv 770 [zi (z_ro (EE s) 0 (y + 1)), zi 1] [] [(0, zr 4 40), (1, zi (z_ro (EE s) 0 (y + 1))), (2, zi 1)] i316_767 rfl (by decide) rfl rfl (by omega) rfl rfl (by decide) rfl t134 (Nat.le_of_ble_eq_true rfl) (Nat.le_of_ble_eq_true rfl) rfl ?_
    refine c134_1 (S := zS0) (m0 := m) (B := B) (z_ro (EE s) 0 (y + 1)) 1 (by omega) (J.rf hJ) (by omega) (by omega) (by omega) (fun h => h) (fun h => h) (fun h => h) (fun v16 m17 hv16 hF19 hJ18 => ?_)
    show X (EE s) d 316 770 [(0, zr 99 0), (1, zr 4 40), (2, zr 4 44), (3, zi y)] [zi v16] m17 _
    refine X.aload_n 771 i316_770 rfl rfl rfl ?_
    refine X.aload_n 772 i316_771 rfl rfl rfl ?_
    refine X.iload_n 773 i316_772 rfl rfl rfl ?_
    refine X.iconst 774 i316_773 rfl rfl (by decide) ?_
    refine X.iadd 775 i316_774 rfl rfl (by omega) ?_
    refine X.rald 776 i316_775 rfl rfl (by decide) (by show 0 ≤ _ ∧ _ < ((s.1 : Nat) : Int); omega) (fun h20 => ?_)
    refine X.aload_n 777 i316_776 rfl rfl rfl ?_
    refine X.iload_n 778 i316_777 rfl rfl rfl ?_
    refine X.iconst 779 i316_778 rfl rfl (by decide) ?_
    refine X.iadd 780 i316_779 rfl rfl (by omega) ?_
    refine X.rald 781 i316_780 rfl rfl (by decide) (by show 0 ≤ _ ∧ _ < ((s.1 : Nat) : Int); omega) (fun h21 => ?_)
    refine X.ifeq 788 784 i316_781 rfl rfl rfl (fun h22 => ?_) (fun h22 => ?_)
    · exfalso
      omega
    · refine X.iconst 785 i316_784 rfl rfl (by decide) ?_
      refine X.goto 789 i316_785 rfl rfl ?_
      refine X.callv 792 [zi (z_ro (EE s) 0 (y + 1)), zi 1] [zi v16] [(0, zr 4 44), (1, zi (z_ro (EE s) 0 (y + 1))), (2, zi 1)] i316_789 rfl (by decide) rfl rfl (by omega) rfl rfl (by decide) rfl t283 (Nat.le_of_ble_eq_true rfl) (Nat.le_of_ble_eq_true rfl) rfl ?_
      refine c283_1 (S := zS0) (m0 := m17) (B := B + 1) (z_ro (EE s) 0 (y + 1)) 1 (by omega) (J.rf hJ18.jb0) (by omega) (by omega) (by omega) (fun h => h) (fun h => h) (fun h => h) (fun v23 m24 hv23 hF26 hJ25 => ?_)
      show X (EE s) d 316 792 [(0, zr 99 0), (1, zr 4 40), (2, zr 4 44), (3, zi y)] [zi v23, zi v16] m24 _
      refine X.icmpeq 1674 795 i316_792 rfl rfl rfl (fun h27 => ?_) (fun h27 => ?_)
      · exact K _ (hJ25.jb0.up (by omega)) (st3_mark (by omega) (by omega) hk hJ (by omega) hR hF19 hF26)
      · exact absurd (aw_mark (by omega) (by omega) hk hJ (by omega) hR hF19 hF26) h27
theorem lw18 {s : Nat × (Nat → Int32)} {m : zM} {B : Int} {d : Nat} {Q : Option zV → zM → Prop} (y : Int) (hd : 200 ≤ d) (hJ : JB B m) (hR : Rel3 B m m) (hZ : ZZ m) (hB : B + 220000 ≤ 700000000) (hy : 0 ≤ y ∧ y + 6 ≤ (s.1 : Int)) (hs : s.1 ≤ 6) (K : ∀ (m' : zM), JB (B + 220000) m' → Rel3 (B + 220000) m' m' → X (EE s) d 316 1674 [(0, zr 99 0), (1, zr 4 40), (2, zr 4 44), (3, zi y)] [] m' Q) : X (EE s) d 316 797 [(0, zr 99 0), (1, zr 4 40), (2, zr 4 44), (3, zi y)] [] m Q := by
  refine X.mok (fun hk => ?_)
  refine X.aload_n 798 i316_797 rfl rfl rfl ?_
  refine X.aload_n 799 i316_798 rfl rfl rfl ?_
  refine X.iload_n 800 i316_799 rfl rfl rfl ?_
  refine X.iconst 801 i316_800 rfl rfl (by decide) ?_
  refine X.iadd 802 i316_801 rfl rfl (by omega) ?_
  refine X.rald 803 i316_802 rfl rfl (by decide) (by show 0 ≤ _ ∧ _ < ((s.1 : Nat) : Int); omega) (fun h1 => ?_)
  refine X.ifeq 810 806 i316_803 rfl rfl rfl (fun h2 => ?_) (fun h2 => ?_)
  · refine X.iconst 811 i316_810 rfl rfl (by decide) ?_
    refine X.callv 814 [zi 0] [] [(0, zr 4 40), (1, zi 0)] i316_811 rfl (by decide) rfl rfl (by omega) rfl rfl (by decide) rfl t135 (Nat.le_of_ble_eq_true rfl) (Nat.le_of_ble_eq_true rfl) rfl ?_
    refine c135_1 (S := zS0) (m0 := m) (B := B) 0 (by omega) (J.rf hJ) (by omega) (by omega) (fun h => h) (fun h => h) (fun h => h) (fun v3 m4 hv3 hF6 hJ5 => ?_)
    show X (EE s) d 316 814 [(0, zr 99 0), (1, zr 4 40), (2, zr 4 44), (3, zi y)] [zi v3] m4 _
    refine X.aload_n 815 i316_814 rfl rfl rfl ?_
    refine X.aload_n 816 i316_815 rfl rfl rfl ?_
    refine X.iload_n 817 i316_816 rfl rfl rfl ?_
    refine X.iconst 818 i316_817 rfl rfl (by decide) ?_
    refine X.iadd 819 i316_818 rfl rfl (by omega) ?_
    refine X.rald 820 i316_819 rfl rfl (by decide) (by show 0 ≤ _ ∧ _ < ((s.1 : Nat) : Int); omega) (fun h7 => ?_)
    refine X.ifeq 827 823 i316_820 rfl rfl rfl (fun h8 => ?_) (fun h8 => ?_)
    · refine X.iconst 828 i316_827 rfl rfl (by decide) ?_
      refine X.callv 831 [zi 0] [zi v3] [(0, zr 4 44), (1, zi 0)] i316_828 rfl (by decide) rfl rfl (by omega) rfl rfl (by decide) rfl t284 (Nat.le_of_ble_eq_true rfl) (Nat.le_of_ble_eq_true rfl) rfl ?_
      refine c284_1 (S := zS0) (m0 := m4) (B := B + 1) 0 (by omega) (J.rf hJ5.jb0) (by omega) (by omega) (fun h => h) (fun h => h) (fun h => h) (fun v9 m10 hv9 hF12 hJ11 => ?_)
      show X (EE s) d 316 831 [(0, zr 99 0), (1, zr 4 40), (2, zr 4 44), (3, zi y)] [zi v9, zi v3] m10 _
      refine X.icmpeq 1674 834 i316_831 rfl rfl rfl (fun h13 => ?_) (fun h13 => ?_)
      · exact K _ (hJ11.jb0.up (by omega)) (st3_prepaid (by omega) hk hJ (by omega) hR hF6 hF12)
      · exact absurd (aw_prepaid (by omega) hk hJ (by omega) hR hF6 hF12) h13
    · exfalso
      omega
  · refine X.iconst 807 i316_806 rfl rfl (by decide) ?_
    refine X.goto 811 i316_807 rfl rfl ?_
    refine X.callv 814 [zi 1] [] [(0, zr 4 40), (1, zi 1)] i316_811 rfl (by decide) rfl rfl (by omega) rfl rfl (by decide) rfl t135 (Nat.le_of_ble_eq_true rfl) (Nat.le_of_ble_eq_true rfl) rfl ?_
    refine c135_1 (S := zS0) (m0 := m) (B := B) 1 (by omega) (J.rf hJ) (by omega) (by omega) (fun h => h) (fun h => h) (fun h => h) (fun v14 m15 hv14 hF17 hJ16 => ?_)
    show X (EE s) d 316 814 [(0, zr 99 0), (1, zr 4 40), (2, zr 4 44), (3, zi y)] [zi v14] m15 _
    refine X.aload_n 815 i316_814 rfl rfl rfl ?_
    refine X.aload_n 816 i316_815 rfl rfl rfl ?_
    refine X.iload_n 817 i316_816 rfl rfl rfl ?_
    refine X.iconst 818 i316_817 rfl rfl (by decide) ?_
    refine X.iadd 819 i316_818 rfl rfl (by omega) ?_
    refine X.rald 820 i316_819 rfl rfl (by decide) (by show 0 ≤ _ ∧ _ < ((s.1 : Nat) : Int); omega) (fun h18 => ?_)
    refine X.ifeq 827 823 i316_820 rfl rfl rfl (fun h19 => ?_) (fun h19 => ?_)
    · exfalso
      omega
    · refine X.iconst 824 i316_823 rfl rfl (by decide) ?_
      refine X.goto 828 i316_824 rfl rfl ?_
      refine X.callv 831 [zi 1] [zi v14] [(0, zr 4 44), (1, zi 1)] i316_828 rfl (by decide) rfl rfl (by omega) rfl rfl (by decide) rfl t284 (Nat.le_of_ble_eq_true rfl) (Nat.le_of_ble_eq_true rfl) rfl ?_
      refine c284_1 (S := zS0) (m0 := m15) (B := B + 1) 1 (by omega) (J.rf hJ16.jb0) (by omega) (by omega) (fun h => h) (fun h => h) (fun h => h) (fun v20 m21 hv20 hF23 hJ22 => ?_)
      show X (EE s) d 316 831 [(0, zr 99 0), (1, zr 4 40), (2, zr 4 44), (3, zi y)] [zi v20, zi v14] m21 _
      refine X.icmpeq 1674 834 i316_831 rfl rfl rfl (fun h24 => ?_) (fun h24 => ?_)
      · exact K _ (hJ22.jb0.up (by omega)) (st3_prepaid (by omega) hk hJ (by omega) hR hF17 hF23)
      · exact absurd (aw_prepaid (by omega) hk hJ (by omega) hR hF17 hF23) h24
theorem lw19 {s : Nat × (Nat → Int32)} {m : zM} {B : Int} {d : Nat} {Q : Option zV → zM → Prop} (y : Int) (hd : 200 ≤ d) (hJ : JB B m) (hR : Rel3 B m m) (hZ : ZZ m) (hB : B + 220000 ≤ 700000000) (hy : 0 ≤ y ∧ y + 6 ≤ (s.1 : Int)) (hs : s.1 ≤ 6) (K : ∀ (m' : zM), JB (B + 220000) m' → Rel3 (B + 220000) m' m' → X (EE s) d 316 1674 [(0, zr 99 0), (1, zr 4 40), (2, zr 4 44), (3, zi y)] [] m' Q) : X (EE s) d 316 836 [(0, zr 99 0), (1, zr 4 40), (2, zr 4 44), (3, zi y)] [] m Q := by
  refine X.mok (fun hk => ?_)
  refine X.aload_n 837 i316_836 rfl rfl rfl ?_
  refine X.aload_n 838 i316_837 rfl rfl rfl ?_
  refine X.iload_n 839 i316_838 rfl rfl rfl ?_
  refine X.iconst 840 i316_839 rfl rfl (by decide) ?_
  refine X.iadd 841 i316_840 rfl rfl (by omega) ?_
  refine X.rald 842 i316_841 rfl rfl (by decide) (by show 0 ≤ _ ∧ _ < ((s.1 : Nat) : Int); omega) (fun h1 => ?_)
  refine X.callv 845 [zi (z_ro (EE s) 0 (y + 1))] [] [(0, zr 4 40), (1, zi (z_ro (EE s) 0 (y + 1)))] i316_842 rfl (by decide) rfl rfl (by omega) rfl rfl (by decide) rfl t136 (Nat.le_of_ble_eq_true rfl) (Nat.le_of_ble_eq_true rfl) rfl ?_
  refine c136_1 (S := zS0) (m0 := m) (B := B) (z_ro (EE s) 0 (y + 1)) (by omega) (J.rf hJ) (by omega) (by omega) (fun h => h) (fun h => h) (fun h => h) (fun v2 m3 hv2 hF5 hJ4 => ?_)
  show X (EE s) d 316 845 [(0, zr 99 0), (1, zr 4 40), (2, zr 4 44), (3, zi y)] [zl v2] m3 _
  refine X.aload_n 846 i316_845 rfl rfl rfl ?_
  refine X.aload_n 847 i316_846 rfl rfl rfl ?_
  refine X.iload_n 848 i316_847 rfl rfl rfl ?_
  refine X.iconst 849 i316_848 rfl rfl (by decide) ?_
  refine X.iadd 850 i316_849 rfl rfl (by omega) ?_
  refine X.rald 851 i316_850 rfl rfl (by decide) (by show 0 ≤ _ ∧ _ < ((s.1 : Nat) : Int); omega) (fun h6 => ?_)
  refine X.callv 854 [zi (z_ro (EE s) 0 (y + 1))] [zl v2] [(0, zr 4 44), (1, zi (z_ro (EE s) 0 (y + 1)))] i316_851 rfl (by decide) rfl rfl (by omega) rfl rfl (by decide) rfl t285 (Nat.le_of_ble_eq_true rfl) (Nat.le_of_ble_eq_true rfl) rfl ?_
  refine c285_1 (S := zS0) (m0 := m3) (B := B + 1) (z_ro (EE s) 0 (y + 1)) (by omega) (J.rf hJ4.jb0) (by omega) (by omega) (fun h => h) (fun h => h) (fun h => h) (fun v7 m8 hv7 hF10 hJ9 => ?_)
  show X (EE s) d 316 854 [(0, zr 99 0), (1, zr 4 40), (2, zr 4 44), (3, zi y)] [zl v7, zl v2] m8 _
  refine X.lcmp 855 i316_854 rfl rfl (fun z11 hz12 => ?_)
  refine X.ifeq 1674 858 i316_855 rfl rfl rfl (fun h13 => ?_) (fun h13 => ?_)
  · exact K _ (hJ9.jb0.up (by omega)) (st3_pay (by omega) hk hJ (by omega) hR hF5 hF10).2
  · exact absurd (by have e9 := (st3_pay (by omega) hk hJ (by omega) hR hF5 hF10).1; omega) h13
theorem lw20 {s : Nat × (Nat → Int32)} {m : zM} {B : Int} {d : Nat} {Q : Option zV → zM → Prop} (y : Int) (hd : 200 ≤ d) (hJ : JB B m) (hR : Rel3 B m m) (hZ : ZZ m) (hB : B + 220000 ≤ 700000000) (hy : 0 ≤ y ∧ y + 6 ≤ (s.1 : Int)) (hs : s.1 ≤ 6) (K : ∀ (m' : zM), JB (B + 220000) m' → Rel3 (B + 220000) m' m' → X (EE s) d 316 1674 [(0, zr 99 0), (1, zr 4 40), (2, zr 4 44), (3, zi y)] [] m' Q) : X (EE s) d 316 860 [(0, zr 99 0), (1, zr 4 40), (2, zr 4 44), (3, zi y)] [] m Q := by
  refine X.mok (fun hk => ?_)
  refine X.aload_n 861 i316_860 rfl rfl rfl ?_
  refine X.callv 864 [] [] [(0, zr 4 40)] i316_861 rfl (by decide) rfl rfl (by omega) rfl rfl (by decide) rfl t137 (Nat.le_of_ble_eq_true rfl) (Nat.le_of_ble_eq_true rfl) rfl ?_
  refine c137_1 (S := zS0) (m0 := m) (B := B)  (by omega) (J.rf hJ) (by omega) (fun h => h) (fun h => h) (fun h => h) (fun h => h) (fun v1 m2 hv1 hF4 hJ3 => ?_)
  show X (EE s) d 316 864 [(0, zr 99 0), (1, zr 4 40), (2, zr 4 44), (3, zi y)] [zi v1] m2 _
  refine X.aload_n 865 i316_864 rfl rfl rfl ?_
  refine X.callv 868 [] [zi v1] [(0, zr 4 44)] i316_865 rfl (by decide) rfl rfl (by omega) rfl rfl (by decide) rfl t286 (Nat.le_of_ble_eq_true rfl) (Nat.le_of_ble_eq_true rfl) rfl ?_
  refine c286_1 (S := zS0) (m0 := m2) (B := B + 2)  (by omega) (J.rf hJ3.jb0) (by omega) (fun h => h) (fun h => h) (fun h => h) (fun h => h) (fun v5 m6 hv5 hF8 hJ7 => ?_)
  show X (EE s) d 316 868 [(0, zr 99 0), (1, zr 4 40), (2, zr 4 44), (3, zi y)] [zi v5, zi v1] m6 _
  refine X.icmpeq 1674 871 i316_868 rfl rfl rfl (fun h9 => ?_) (fun h9 => ?_)
  · exact K _ (hJ7.jb0.up (by omega)) (st3_bill  hk hJ (by omega) hR hF4 hF8)
  · exact absurd (aw_bill  hk hJ (by omega) hR hF4 hF8) h9
theorem lw21 {s : Nat × (Nat → Int32)} {m : zM} {B : Int} {d : Nat} {Q : Option zV → zM → Prop} (y : Int) (hd : 200 ≤ d) (hJ : JB B m) (hR : Rel3 B m m) (hZ : ZZ m) (hB : B + 220000 ≤ 700000000) (hy : 0 ≤ y ∧ y + 6 ≤ (s.1 : Int)) (hs : s.1 ≤ 6) (K : ∀ (m' : zM), JB (B + 220000) m' → Rel3 (B + 220000) m' m' → X (EE s) d 316 1674 [(0, zr 99 0), (1, zr 4 40), (2, zr 4 44), (3, zi y)] [] m' Q) : X (EE s) d 316 873 [(0, zr 99 0), (1, zr 4 40), (2, zr 4 44), (3, zi y)] [] m Q := by
  refine X.mok (fun hk => ?_)
  refine X.aload_n 874 i316_873 rfl rfl rfl ?_
  refine X.aload_n 875 i316_874 rfl rfl rfl ?_
  refine X.iload_n 876 i316_875 rfl rfl rfl ?_
  refine X.iconst 877 i316_876 rfl rfl (by decide) ?_
  refine X.iadd 878 i316_877 rfl rfl (by omega) ?_
  refine X.rald 879 i316_878 rfl rfl (by decide) (by show 0 ≤ _ ∧ _ < ((s.1 : Nat) : Int); omega) (fun h1 => ?_)
  refine X.aload_n 880 i316_879 rfl rfl rfl ?_
  refine X.iload_n 881 i316_880 rfl rfl rfl ?_
  refine X.iconst 882 i316_881 rfl rfl (by decide) ?_
  refine X.iadd 883 i316_882 rfl rfl (by omega) ?_
  refine X.rald 884 i316_883 rfl rfl (by decide) (by show 0 ≤ _ ∧ _ < ((s.1 : Nat) : Int); omega) (fun h2 => ?_)
  refine X.callv 887 [zi (z_ro (EE s) 0 (y + 1)), zi (z_ro (EE s) 0 (y + 2))] [] [(0, zr 4 40), (1, zi (z_ro (EE s) 0 (y + 1))), (2, zi (z_ro (EE s) 0 (y + 2)))] i316_884 rfl (by decide) rfl rfl (by omega) rfl rfl (by decide) rfl t140 (Nat.le_of_ble_eq_true rfl) (Nat.le_of_ble_eq_true rfl) rfl ?_
  refine c140_1 (S := zS0) (m0 := m) (B := B) (z_ro (EE s) 0 (y + 1)) (z_ro (EE s) 0 (y + 2)) (by omega) (J.rf hJ) (by omega) (by omega) (by omega) (fun v3 hv3 hF6 => ?_)
  show X (EE s) d 316 887 [(0, zr 99 0), (1, zr 4 40), (2, zr 4 44), (3, zi y)] [zl v3] m _
  refine X.aload_n 888 i316_887 rfl rfl rfl ?_
  refine X.aload_n 889 i316_888 rfl rfl rfl ?_
  refine X.iload_n 890 i316_889 rfl rfl rfl ?_
  refine X.iconst 891 i316_890 rfl rfl (by decide) ?_
  refine X.iadd 892 i316_891 rfl rfl (by omega) ?_
  refine X.rald 893 i316_892 rfl rfl (by decide) (by show 0 ≤ _ ∧ _ < ((s.1 : Nat) : Int); omega) (fun h7 => ?_)
  refine X.aload_n 894 i316_893 rfl rfl rfl ?_
  refine X.iload_n 895 i316_894 rfl rfl rfl ?_
  refine X.iconst 896 i316_895 rfl rfl (by decide) ?_
  refine X.iadd 897 i316_896 rfl rfl (by omega) ?_
  refine X.rald 898 i316_897 rfl rfl (by decide) (by show 0 ≤ _ ∧ _ < ((s.1 : Nat) : Int); omega) (fun h8 => ?_)
  refine X.callv 901 [zi (z_ro (EE s) 0 (y + 1)), zi (z_ro (EE s) 0 (y + 2))] [zl v3] [(0, zr 4 44), (1, zi (z_ro (EE s) 0 (y + 1))), (2, zi (z_ro (EE s) 0 (y + 2)))] i316_898 rfl (by decide) rfl rfl (by omega) rfl rfl (by decide) rfl t237 (Nat.le_of_ble_eq_true rfl) (Nat.le_of_ble_eq_true rfl) rfl ?_
  refine c237_1 (S := zS0) (m0 := m) (B := B) (z_ro (EE s) 0 (y + 1)) (z_ro (EE s) 0 (y + 2)) (by omega) (J.rf hJ) (by omega) (by omega) (by omega) (fun v9 hv9 hF12 => ?_)
  show X (EE s) d 316 901 [(0, zr 99 0), (1, zr 4 40), (2, zr 4 44), (3, zi y)] [zl v9, zl v3] m _
  refine X.lcmp 902 i316_901 rfl rfl (fun z13 hz14 => ?_)
  refine X.ifeq 1674 905 i316_902 rfl rfl rfl (fun h15 => ?_) (fun h15 => ?_)
  · exact K _ (hJ.up (by omega)) (hR.up (by omega))
  · exact absurd (by have e9 := hF6.symm.trans ((an_period ⟨hk, hJ⟩ (by omega) hR).trans hF12); omega) h15
theorem lw22 {s : Nat × (Nat → Int32)} {m : zM} {B : Int} {d : Nat} {Q : Option zV → zM → Prop} (y : Int) (hd : 200 ≤ d) (hJ : JB B m) (hR : Rel3 B m m) (hZ : ZZ m) (hB : B + 220000 ≤ 700000000) (hy : 0 ≤ y ∧ y + 6 ≤ (s.1 : Int)) (hs : s.1 ≤ 6) (K : ∀ (m' : zM), JB (B + 220000) m' → Rel3 (B + 220000) m' m' → X (EE s) d 316 1674 [(0, zr 99 0), (1, zr 4 40), (2, zr 4 44), (3, zi y)] [] m' Q) : X (EE s) d 316 907 [(0, zr 99 0), (1, zr 4 40), (2, zr 4 44), (3, zi y)] [] m Q := by
  refine X.mok (fun hk => ?_)
  refine X.aload_n 908 i316_907 rfl rfl rfl ?_
  refine X.aload_n 909 i316_908 rfl rfl rfl ?_
  refine X.iload_n 910 i316_909 rfl rfl rfl ?_
  refine X.iconst 911 i316_910 rfl rfl (by decide) ?_
  refine X.iadd 912 i316_911 rfl rfl (by omega) ?_
  refine X.rald 913 i316_912 rfl rfl (by decide) (by show 0 ≤ _ ∧ _ < ((s.1 : Nat) : Int); omega) (fun h1 => ?_)
  refine X.aload_n 914 i316_913 rfl rfl rfl ?_
  refine X.iload_n 915 i316_914 rfl rfl rfl ?_
  refine X.iconst 916 i316_915 rfl rfl (by decide) ?_
  refine X.iadd 917 i316_916 rfl rfl (by omega) ?_
  refine X.rald 918 i316_917 rfl rfl (by decide) (by show 0 ≤ _ ∧ _ < ((s.1 : Nat) : Int); omega) (fun h2 => ?_)
  refine X.callv 921 [zi (z_ro (EE s) 0 (y + 1)), zi (z_ro (EE s) 0 (y + 2))] [] [(0, zr 4 40), (1, zi (z_ro (EE s) 0 (y + 1))), (2, zi (z_ro (EE s) 0 (y + 2)))] i316_918 rfl (by decide) rfl rfl (by omega) rfl rfl (by decide) rfl t144 (Nat.le_of_ble_eq_true rfl) (Nat.le_of_ble_eq_true rfl) rfl ?_
  refine c144_1 (S := zS0) (m0 := m) (B := B) (z_ro (EE s) 0 (y + 1)) (z_ro (EE s) 0 (y + 2)) (by omega) (J.rf hJ) (by omega) (by omega) (by omega) (fun v3 hv3 hF6 => ?_)
  show X (EE s) d 316 921 [(0, zr 99 0), (1, zr 4 40), (2, zr 4 44), (3, zi y)] [zl v3] m _
  refine X.aload_n 922 i316_921 rfl rfl rfl ?_
  refine X.aload_n 923 i316_922 rfl rfl rfl ?_
  refine X.iload_n 924 i316_923 rfl rfl rfl ?_
  refine X.iconst 925 i316_924 rfl rfl (by decide) ?_
  refine X.iadd 926 i316_925 rfl rfl (by omega) ?_
  refine X.rald 927 i316_926 rfl rfl (by decide) (by show 0 ≤ _ ∧ _ < ((s.1 : Nat) : Int); omega) (fun h7 => ?_)
  refine X.aload_n 928 i316_927 rfl rfl rfl ?_
  refine X.iload_n 929 i316_928 rfl rfl rfl ?_
  refine X.iconst 930 i316_929 rfl rfl (by decide) ?_
  refine X.iadd 931 i316_930 rfl rfl (by omega) ?_
  refine X.rald 932 i316_931 rfl rfl (by decide) (by show 0 ≤ _ ∧ _ < ((s.1 : Nat) : Int); omega) (fun h8 => ?_)
  refine X.callv 935 [zi (z_ro (EE s) 0 (y + 1)), zi (z_ro (EE s) 0 (y + 2))] [zl v3] [(0, zr 4 44), (1, zi (z_ro (EE s) 0 (y + 1))), (2, zi (z_ro (EE s) 0 (y + 2)))] i316_932 rfl (by decide) rfl rfl (by omega) rfl rfl (by decide) rfl t295 (Nat.le_of_ble_eq_true rfl) (Nat.le_of_ble_eq_true rfl) rfl ?_
  refine c295_1 (S := zS0) (m0 := m) (B := B) (z_ro (EE s) 0 (y + 1)) (z_ro (EE s) 0 (y + 2)) (by omega) (J.rf hJ) (by omega) (by omega) (by omega) (fun v9 hv9 hF12 => ?_)
  show X (EE s) d 316 935 [(0, zr 99 0), (1, zr 4 40), (2, zr 4 44), (3, zi y)] [zl v9, zl v3] m _
  refine X.lcmp 936 i316_935 rfl rfl (fun z13 hz14 => ?_)
  refine X.ifeq 1674 939 i316_936 rfl rfl rfl (fun h15 => ?_) (fun h15 => ?_)
  · exact K _ (hJ.up (by omega)) (hR.up (by omega))
  · exact absurd (by have e9 := hF6.symm.trans ((an_raw ⟨hk, hJ⟩ (by omega) hR).trans hF12); omega) h15
theorem lw23 {s : Nat × (Nat → Int32)} {m : zM} {B : Int} {d : Nat} {Q : Option zV → zM → Prop} (y : Int) (hd : 200 ≤ d) (hJ : JB B m) (hR : Rel3 B m m) (hZ : ZZ m) (hB : B + 220000 ≤ 700000000) (hy : 0 ≤ y ∧ y + 6 ≤ (s.1 : Int)) (hs : s.1 ≤ 6) (K : ∀ (m' : zM), JB (B + 220000) m' → Rel3 (B + 220000) m' m' → X (EE s) d 316 1674 [(0, zr 99 0), (1, zr 4 40), (2, zr 4 44), (3, zi y)] [] m' Q) : X (EE s) d 316 941 [(0, zr 99 0), (1, zr 4 40), (2, zr 4 44), (3, zi y)] [] m Q := by
  refine X.mok (fun hk => ?_)
  refine X.aload_n 942 i316_941 rfl rfl rfl ?_
  refine X.aload_n 943 i316_942 rfl rfl rfl ?_
  refine X.iload_n 944 i316_943 rfl rfl rfl ?_
  refine X.iconst 945 i316_944 rfl rfl (by decide) ?_
  refine X.iadd 946 i316_945 rfl rfl (by omega) ?_
  refine X.rald 947 i316_946 rfl rfl (by decide) (by show 0 ≤ _ ∧ _ < ((s.1 : Nat) : Int); omega) (fun h1 => ?_)
  refine X.aload_n 948 i316_947 rfl rfl rfl ?_
  refine X.iload_n 949 i316_948 rfl rfl rfl ?_
  refine X.iconst 950 i316_949 rfl rfl (by decide) ?_
  refine X.iadd 951 i316_950 rfl rfl (by omega) ?_
  refine X.rald 952 i316_951 rfl rfl (by decide) (by show 0 ≤ _ ∧ _ < ((s.1 : Nat) : Int); omega) (fun h2 => ?_)
  refine X.callv 955 [zi (z_ro (EE s) 0 (y + 1)), zi (z_ro (EE s) 0 (y + 2))] [] [(0, zr 4 40), (1, zi (z_ro (EE s) 0 (y + 1))), (2, zi (z_ro (EE s) 0 (y + 2)))] i316_952 rfl (by decide) rfl rfl (by omega) rfl rfl (by decide) rfl t147 (Nat.le_of_ble_eq_true rfl) (Nat.le_of_ble_eq_true rfl) rfl ?_
  refine c147_1 (S := zS0) (m0 := m) (B := B) (z_ro (EE s) 0 (y + 1)) (z_ro (EE s) 0 (y + 2)) (by omega) (J.rf hJ) (by omega) (by omega) (by omega) (fun v3 hv3 hF6 => ?_)
  show X (EE s) d 316 955 [(0, zr 99 0), (1, zr 4 40), (2, zr 4 44), (3, zi y)] [zl v3] m _
  refine X.aload_n 956 i316_955 rfl rfl rfl ?_
  refine X.aload_n 957 i316_956 rfl rfl rfl ?_
  refine X.iload_n 958 i316_957 rfl rfl rfl ?_
  refine X.iconst 959 i316_958 rfl rfl (by decide) ?_
  refine X.iadd 960 i316_959 rfl rfl (by omega) ?_
  refine X.rald 961 i316_960 rfl rfl (by decide) (by show 0 ≤ _ ∧ _ < ((s.1 : Nat) : Int); omega) (fun h7 => ?_)
  refine X.aload_n 962 i316_961 rfl rfl rfl ?_
  refine X.iload_n 963 i316_962 rfl rfl rfl ?_
  refine X.iconst 964 i316_963 rfl rfl (by decide) ?_
  refine X.iadd 965 i316_964 rfl rfl (by omega) ?_
  refine X.rald 966 i316_965 rfl rfl (by decide) (by show 0 ≤ _ ∧ _ < ((s.1 : Nat) : Int); omega) (fun h8 => ?_)
  refine X.callv 969 [zi (z_ro (EE s) 0 (y + 1)), zi (z_ro (EE s) 0 (y + 2))] [zl v3] [(0, zr 4 44), (1, zi (z_ro (EE s) 0 (y + 1))), (2, zi (z_ro (EE s) 0 (y + 2)))] i316_966 rfl (by decide) rfl rfl (by omega) rfl rfl (by decide) rfl t296 (Nat.le_of_ble_eq_true rfl) (Nat.le_of_ble_eq_true rfl) rfl ?_
  refine c296_1 (S := zS0) (m0 := m) (B := B) (z_ro (EE s) 0 (y + 1)) (z_ro (EE s) 0 (y + 2)) (by omega) (J.rf hJ) (by omega) (by omega) (by omega) (fun v9 hv9 hF12 => ?_)
  show X (EE s) d 316 969 [(0, zr 99 0), (1, zr 4 40), (2, zr 4 44), (3, zi y)] [zl v9, zl v3] m _
  refine X.lcmp 970 i316_969 rfl rfl (fun z13 hz14 => ?_)
  refine X.ifeq 1674 973 i316_970 rfl rfl rfl (fun h15 => ?_) (fun h15 => ?_)
  · exact K _ (hJ.up (by omega)) (hR.up (by omega))
  · exact absurd (by have e9 := hF6.symm.trans ((an_reading ⟨hk, hJ⟩ (by omega) hR).trans hF12); omega) h15
theorem lw24 {s : Nat × (Nat → Int32)} {m : zM} {B : Int} {d : Nat} {Q : Option zV → zM → Prop} (y : Int) (hd : 200 ≤ d) (hJ : JB B m) (hR : Rel3 B m m) (hZ : ZZ m) (hB : B + 220000 ≤ 700000000) (hy : 0 ≤ y ∧ y + 6 ≤ (s.1 : Int)) (hs : s.1 ≤ 6) (K : ∀ (m' : zM), JB (B + 220000) m' → Rel3 (B + 220000) m' m' → X (EE s) d 316 1674 [(0, zr 99 0), (1, zr 4 40), (2, zr 4 44), (3, zi y)] [] m' Q) : X (EE s) d 316 975 [(0, zr 99 0), (1, zr 4 40), (2, zr 4 44), (3, zi y)] [] m Q := by
  refine X.mok (fun hk => ?_)
  refine X.aload_n 976 i316_975 rfl rfl rfl ?_
  refine X.aload_n 977 i316_976 rfl rfl rfl ?_
  refine X.iload_n 978 i316_977 rfl rfl rfl ?_
  refine X.iconst 979 i316_978 rfl rfl (by decide) ?_
  refine X.iadd 980 i316_979 rfl rfl (by omega) ?_
  refine X.rald 981 i316_980 rfl rfl (by decide) (by show 0 ≤ _ ∧ _ < ((s.1 : Nat) : Int); omega) (fun h1 => ?_)
  refine X.callv 984 [zi (z_ro (EE s) 0 (y + 1))] [] [(0, zr 4 40), (1, zi (z_ro (EE s) 0 (y + 1)))] i316_981 rfl (by decide) rfl rfl (by omega) rfl rfl (by decide) rfl t148 (Nat.le_of_ble_eq_true rfl) (Nat.le_of_ble_eq_true rfl) rfl ?_
  refine c148_1 (S := zS0) (m0 := m) (B := B) (z_ro (EE s) 0 (y + 1)) (by omega) (J.rf hJ) (by omega) (by omega) (fun v2 hv2 hF5 => ?_)
  show X (EE s) d 316 984 [(0, zr 99 0), (1, zr 4 40), (2, zr 4 44), (3, zi y)] [zi v2] m _
  refine X.aload_n 985 i316_984 rfl rfl rfl ?_
  refine X.aload_n 986 i316_985 rfl rfl rfl ?_
  refine X.iload_n 987 i316_986 rfl rfl rfl ?_
  refine X.iconst 988 i316_987 rfl rfl (by decide) ?_
  refine X.iadd 989 i316_988 rfl rfl (by omega) ?_
  refine X.rald 990 i316_989 rfl rfl (by decide) (by show 0 ≤ _ ∧ _ < ((s.1 : Nat) : Int); omega) (fun h6 => ?_)
  refine X.callv 993 [zi (z_ro (EE s) 0 (y + 1))] [zi v2] [(0, zr 4 44), (1, zi (z_ro (EE s) 0 (y + 1)))] i316_990 rfl (by decide) rfl rfl (by omega) rfl rfl (by decide) rfl t250 (Nat.le_of_ble_eq_true rfl) (Nat.le_of_ble_eq_true rfl) rfl ?_
  refine c250_1 (S := zS0) (m0 := m) (B := B) (z_ro (EE s) 0 (y + 1)) (by omega) (J.rf hJ) (by omega) (by omega) (fun v7 hv7 hF10 => ?_)
  show X (EE s) d 316 993 [(0, zr 99 0), (1, zr 4 40), (2, zr 4 44), (3, zi y)] [zi v7, zi v2] m _
  refine X.icmpeq 1674 996 i316_993 rfl rfl rfl (fun h11 => ?_) (fun h11 => ?_)
  · exact K _ (hJ.up (by omega)) (hR.up (by omega))
  · exact absurd (hF5.symm.trans ((an_tariffAt ⟨hk, hJ⟩ (by omega) hR.1).trans hF10)) h11
theorem lw25 {s : Nat × (Nat → Int32)} {m : zM} {B : Int} {d : Nat} {Q : Option zV → zM → Prop} (y : Int) (hd : 200 ≤ d) (hJ : JB B m) (hR : Rel3 B m m) (hZ : ZZ m) (hB : B + 220000 ≤ 700000000) (hy : 0 ≤ y ∧ y + 6 ≤ (s.1 : Int)) (hs : s.1 ≤ 6) (K : ∀ (m' : zM), JB (B + 220000) m' → Rel3 (B + 220000) m' m' → X (EE s) d 316 1674 [(0, zr 99 0), (1, zr 4 40), (2, zr 4 44), (3, zi y)] [] m' Q) : X (EE s) d 316 998 [(0, zr 99 0), (1, zr 4 40), (2, zr 4 44), (3, zi y)] [] m Q := by
  refine X.mok (fun hk => ?_)
  refine X.aload_n 999 i316_998 rfl rfl rfl ?_
  refine X.aload_n 1000 i316_999 rfl rfl rfl ?_
  refine X.iload_n 1001 i316_1000 rfl rfl rfl ?_
  refine X.iconst 1002 i316_1001 rfl rfl (by decide) ?_
  refine X.iadd 1003 i316_1002 rfl rfl (by omega) ?_
  refine X.rald 1004 i316_1003 rfl rfl (by decide) (by show 0 ≤ _ ∧ _ < ((s.1 : Nat) : Int); omega) (fun h1 => ?_)
  refine X.callv 1007 [zi (z_ro (EE s) 0 (y + 1))] [] [(0, zr 4 40), (1, zi (z_ro (EE s) 0 (y + 1)))] i316_1004 rfl (by decide) rfl rfl (by omega) rfl rfl (by decide) rfl t149 (Nat.le_of_ble_eq_true rfl) (Nat.le_of_ble_eq_true rfl) rfl ?_
  refine c149_1 (S := zS0) (m0 := m) (B := B) (z_ro (EE s) 0 (y + 1)) (by omega) (J.rf hJ) (by omega) (by omega) (fun v2 hv2 hF5 => ?_)
  show X (EE s) d 316 1007 [(0, zr 99 0), (1, zr 4 40), (2, zr 4 44), (3, zi y)] [zi v2] m _
  refine X.aload_n 1008 i316_1007 rfl rfl rfl ?_
  refine X.aload_n 1009 i316_1008 rfl rfl rfl ?_
  refine X.iload_n 1010 i316_1009 rfl rfl rfl ?_
  refine X.iconst 1011 i316_1010 rfl rfl (by decide) ?_
  refine X.iadd 1012 i316_1011 rfl rfl (by omega) ?_
  refine X.rald 1013 i316_1012 rfl rfl (by decide) (by show 0 ≤ _ ∧ _ < ((s.1 : Nat) : Int); omega) (fun h6 => ?_)
  refine X.callv 1016 [zi (z_ro (EE s) 0 (y + 1))] [zi v2] [(0, zr 4 44), (1, zi (z_ro (EE s) 0 (y + 1)))] i316_1013 rfl (by decide) rfl rfl (by omega) rfl rfl (by decide) rfl t251 (Nat.le_of_ble_eq_true rfl) (Nat.le_of_ble_eq_true rfl) rfl ?_
  refine c251_1 (S := zS0) (m0 := m) (B := B) (z_ro (EE s) 0 (y + 1)) (by omega) (J.rf hJ) (by omega) (by omega) (fun v7 hv7 hF10 => ?_)
  show X (EE s) d 316 1016 [(0, zr 99 0), (1, zr 4 40), (2, zr 4 44), (3, zi y)] [zi v7, zi v2] m _
  refine X.icmpeq 1674 1019 i316_1016 rfl rfl rfl (fun h11 => ?_) (fun h11 => ?_)
  · exact K _ (hJ.up (by omega)) (hR.up (by omega))
  · exact absurd (hF5.symm.trans ((an_tableOf ⟨hk, hJ⟩ (by omega) hR.1).trans hF10)) h11
theorem lw26 {s : Nat × (Nat → Int32)} {m : zM} {B : Int} {d : Nat} {Q : Option zV → zM → Prop} (y : Int) (hd : 200 ≤ d) (hJ : JB B m) (hR : Rel3 B m m) (hZ : ZZ m) (hB : B + 220000 ≤ 700000000) (hy : 0 ≤ y ∧ y + 6 ≤ (s.1 : Int)) (hs : s.1 ≤ 6) (K : ∀ (m' : zM), JB (B + 220000) m' → Rel3 (B + 220000) m' m' → X (EE s) d 316 1674 [(0, zr 99 0), (1, zr 4 40), (2, zr 4 44), (3, zi y)] [] m' Q) : X (EE s) d 316 1021 [(0, zr 99 0), (1, zr 4 40), (2, zr 4 44), (3, zi y)] [] m Q := by
  refine X.mok (fun hk => ?_)
  refine X.aload_n 1022 i316_1021 rfl rfl rfl ?_
  refine X.aload_n 1023 i316_1022 rfl rfl rfl ?_
  refine X.iload_n 1024 i316_1023 rfl rfl rfl ?_
  refine X.iconst 1025 i316_1024 rfl rfl (by decide) ?_
  refine X.iadd 1026 i316_1025 rfl rfl (by omega) ?_
  refine X.rald 1027 i316_1026 rfl rfl (by decide) (by show 0 ≤ _ ∧ _ < ((s.1 : Nat) : Int); omega) (fun h1 => ?_)
  refine X.aload_n 1028 i316_1027 rfl rfl rfl ?_
  refine X.iload_n 1029 i316_1028 rfl rfl rfl ?_
  refine X.iconst 1030 i316_1029 rfl rfl (by decide) ?_
  refine X.iadd 1031 i316_1030 rfl rfl (by omega) ?_
  refine X.rald 1032 i316_1031 rfl rfl (by decide) (by show 0 ≤ _ ∧ _ < ((s.1 : Nat) : Int); omega) (fun h2 => ?_)
  refine X.aload_n 1033 i316_1032 rfl rfl rfl ?_
  refine X.iload_n 1034 i316_1033 rfl rfl rfl ?_
  refine X.iconst 1035 i316_1034 rfl rfl (by decide) ?_
  refine X.iadd 1036 i316_1035 rfl rfl (by omega) ?_
  refine X.rald 1037 i316_1036 rfl rfl (by decide) (by show 0 ≤ _ ∧ _ < ((s.1 : Nat) : Int); omega) (fun h3 => ?_)
  refine X.callv 1040 [zi (z_ro (EE s) 0 (y + 1)), zi (z_ro (EE s) 0 (y + 2)), zi (z_ro (EE s) 0 (y + 3))] [] [(0, zr 4 40), (1, zi (z_ro (EE s) 0 (y + 1))), (2, zi (z_ro (EE s) 0 (y + 2))), (3, zi (z_ro (EE s) 0 (y + 3)))] i316_1037 rfl (by decide) rfl rfl (by omega) rfl rfl (by decide) rfl t151 (Nat.le_of_ble_eq_true rfl) (Nat.le_of_ble_eq_true rfl) rfl ?_
  refine c151_1 (S := zS0) (m0 := m) (B := B) (z_ro (EE s) 0 (y + 1)) (z_ro (EE s) 0 (y + 2)) (z_ro (EE s) 0 (y + 3)) (by omega) (J.rf hJ) (by omega) (by omega) (by omega) (by omega) (fun v4 hv4 hF7 => ?_)
  show X (EE s) d 316 1040 [(0, zr 99 0), (1, zr 4 40), (2, zr 4 44), (3, zi y)] [zi v4] m _
  refine X.aload_n 1041 i316_1040 rfl rfl rfl ?_
  refine X.aload_n 1042 i316_1041 rfl rfl rfl ?_
  refine X.iload_n 1043 i316_1042 rfl rfl rfl ?_
  refine X.iconst 1044 i316_1043 rfl rfl (by decide) ?_
  refine X.iadd 1045 i316_1044 rfl rfl (by omega) ?_
  refine X.rald 1046 i316_1045 rfl rfl (by decide) (by show 0 ≤ _ ∧ _ < ((s.1 : Nat) : Int); omega) (fun h8 => ?_)
  refine X.aload_n 1047 i316_1046 rfl rfl rfl ?_
  refine X.iload_n 1048 i316_1047 rfl rfl rfl ?_
  refine X.iconst 1049 i316_1048 rfl rfl (by decide) ?_
  refine X.iadd 1050 i316_1049 rfl rfl (by omega) ?_
  refine X.rald 1051 i316_1050 rfl rfl (by decide) (by show 0 ≤ _ ∧ _ < ((s.1 : Nat) : Int); omega) (fun h9 => ?_)
  refine X.aload_n 1052 i316_1051 rfl rfl rfl ?_
  refine X.iload_n 1053 i316_1052 rfl rfl rfl ?_
  refine X.iconst 1054 i316_1053 rfl rfl (by decide) ?_
  refine X.iadd 1055 i316_1054 rfl rfl (by omega) ?_
  refine X.rald 1056 i316_1055 rfl rfl (by decide) (by show 0 ≤ _ ∧ _ < ((s.1 : Nat) : Int); omega) (fun h10 => ?_)
  refine X.callv 1059 [zi (z_ro (EE s) 0 (y + 1)), zi (z_ro (EE s) 0 (y + 2)), zi (z_ro (EE s) 0 (y + 3))] [zi v4] [(0, zr 4 44), (1, zi (z_ro (EE s) 0 (y + 1))), (2, zi (z_ro (EE s) 0 (y + 2))), (3, zi (z_ro (EE s) 0 (y + 3)))] i316_1056 rfl (by decide) rfl rfl (by omega) rfl rfl (by decide) rfl t252 (Nat.le_of_ble_eq_true rfl) (Nat.le_of_ble_eq_true rfl) rfl ?_
  refine c252_1 (S := zS0) (m0 := m) (B := B) (z_ro (EE s) 0 (y + 1)) (z_ro (EE s) 0 (y + 2)) (z_ro (EE s) 0 (y + 3)) (by omega) (J.rf hJ) (by omega) (by omega) (by omega) (by omega) (fun v11 hv11 hF14 => ?_)
  show X (EE s) d 316 1059 [(0, zr 99 0), (1, zr 4 40), (2, zr 4 44), (3, zi y)] [zi v11, zi v4] m _
  refine X.icmpeq 1674 1062 i316_1059 rfl rfl rfl (fun h15 => ?_) (fun h15 => ?_)
  · exact K _ (hJ.up (by omega)) (hR.up (by omega))
  · exact absurd (hF7.symm.trans ((an_switching ⟨hk, hJ⟩ (by omega) hR.1).trans hF14)) h15
theorem lw27 {s : Nat × (Nat → Int32)} {m : zM} {B : Int} {d : Nat} {Q : Option zV → zM → Prop} (y : Int) (hd : 200 ≤ d) (hJ : JB B m) (hR : Rel3 B m m) (hZ : ZZ m) (hB : B + 220000 ≤ 700000000) (hy : 0 ≤ y ∧ y + 6 ≤ (s.1 : Int)) (hs : s.1 ≤ 6) (K : ∀ (m' : zM), JB (B + 220000) m' → Rel3 (B + 220000) m' m' → X (EE s) d 316 1674 [(0, zr 99 0), (1, zr 4 40), (2, zr 4 44), (3, zi y)] [] m' Q) : X (EE s) d 316 1064 [(0, zr 99 0), (1, zr 4 40), (2, zr 4 44), (3, zi y)] [] m Q := by
  refine X.mok (fun hk => ?_)
  refine X.aload_n 1065 i316_1064 rfl rfl rfl ?_
  refine X.aload_n 1066 i316_1065 rfl rfl rfl ?_
  refine X.iload_n 1067 i316_1066 rfl rfl rfl ?_
  refine X.iconst 1068 i316_1067 rfl rfl (by decide) ?_
  refine X.iadd 1069 i316_1068 rfl rfl (by omega) ?_
  refine X.rald 1070 i316_1069 rfl rfl (by decide) (by show 0 ≤ _ ∧ _ < ((s.1 : Nat) : Int); omega) (fun h1 => ?_)
  refine X.callv 1073 [zi (z_ro (EE s) 0 (y + 1))] [] [(0, zr 4 40), (1, zi (z_ro (EE s) 0 (y + 1)))] i316_1070 rfl (by decide) rfl rfl (by omega) rfl rfl (by decide) rfl t152 (Nat.le_of_ble_eq_true rfl) (Nat.le_of_ble_eq_true rfl) rfl ?_
  refine c152_1 (S := zS0) (m0 := m) (B := B) (z_ro (EE s) 0 (y + 1)) (by omega) (J.rf hJ) (by omega) (by omega) (fun v2 hv2 hF5 => ?_)
  show X (EE s) d 316 1073 [(0, zr 99 0), (1, zr 4 40), (2, zr 4 44), (3, zi y)] [zi v2] m _
  refine X.aload_n 1074 i316_1073 rfl rfl rfl ?_
  refine X.aload_n 1075 i316_1074 rfl rfl rfl ?_
  refine X.iload_n 1076 i316_1075 rfl rfl rfl ?_
  refine X.iconst 1077 i316_1076 rfl rfl (by decide) ?_
  refine X.iadd 1078 i316_1077 rfl rfl (by omega) ?_
  refine X.rald 1079 i316_1078 rfl rfl (by decide) (by show 0 ≤ _ ∧ _ < ((s.1 : Nat) : Int); omega) (fun h6 => ?_)
  refine X.callv 1082 [zi (z_ro (EE s) 0 (y + 1))] [zi v2] [(0, zr 4 44), (1, zi (z_ro (EE s) 0 (y + 1)))] i316_1079 rfl (by decide) rfl rfl (by omega) rfl rfl (by decide) rfl t254 (Nat.le_of_ble_eq_true rfl) (Nat.le_of_ble_eq_true rfl) rfl ?_
  refine c254_1 (S := zS0) (m0 := m) (B := B) (z_ro (EE s) 0 (y + 1)) (by omega) (J.rf hJ) (by omega) (by omega) (fun v7 hv7 hF10 => ?_)
  show X (EE s) d 316 1082 [(0, zr 99 0), (1, zr 4 40), (2, zr 4 44), (3, zi y)] [zi v7, zi v2] m _
  refine X.icmpeq 1674 1085 i316_1082 rfl rfl rfl (fun h11 => ?_) (fun h11 => ?_)
  · exact K _ (hJ.up (by omega)) (hR.up (by omega))
  · exact absurd (hF5.symm.trans ((an_next ⟨hk, hJ⟩ (by omega) hR.1).trans hF10)) h11
theorem lw28 {s : Nat × (Nat → Int32)} {m : zM} {B : Int} {d : Nat} {Q : Option zV → zM → Prop} (y : Int) (hd : 200 ≤ d) (hJ : JB B m) (hR : Rel3 B m m) (hZ : ZZ m) (hB : B + 220000 ≤ 700000000) (hy : 0 ≤ y ∧ y + 6 ≤ (s.1 : Int)) (hs : s.1 ≤ 6) (K : ∀ (m' : zM), JB (B + 220000) m' → Rel3 (B + 220000) m' m' → X (EE s) d 316 1674 [(0, zr 99 0), (1, zr 4 40), (2, zr 4 44), (3, zi y)] [] m' Q) : X (EE s) d 316 1087 [(0, zr 99 0), (1, zr 4 40), (2, zr 4 44), (3, zi y)] [] m Q := by
  refine X.mok (fun hk => ?_)
  refine X.aload_n 1088 i316_1087 rfl rfl rfl ?_
  refine X.aload_n 1089 i316_1088 rfl rfl rfl ?_
  refine X.iload_n 1090 i316_1089 rfl rfl rfl ?_
  refine X.iconst 1091 i316_1090 rfl rfl (by decide) ?_
  refine X.iadd 1092 i316_1091 rfl rfl (by omega) ?_
  refine X.rald 1093 i316_1092 rfl rfl (by decide) (by show 0 ≤ _ ∧ _ < ((s.1 : Nat) : Int); omega) (fun h1 => ?_)
  refine X.aload_n 1094 i316_1093 rfl rfl rfl ?_
  refine X.iload_n 1095 i316_1094 rfl rfl rfl ?_
  refine X.iconst 1096 i316_1095 rfl rfl (by decide) ?_
  refine X.iadd 1097 i316_1096 rfl rfl (by omega) ?_
  refine X.rald 1098 i316_1097 rfl rfl (by decide) (by show 0 ≤ _ ∧ _ < ((s.1 : Nat) : Int); omega) (fun h2 => ?_)
  refine X.callv 1101 [zi (z_ro (EE s) 0 (y + 1)), zi (z_ro (EE s) 0 (y + 2))] [] [(0, zr 4 40), (1, zi (z_ro (EE s) 0 (y + 1))), (2, zi (z_ro (EE s) 0 (y + 2)))] i316_1098 rfl (by decide) rfl rfl (by omega) rfl rfl (by decide) rfl t154 (Nat.le_of_ble_eq_true rfl) (Nat.le_of_ble_eq_true rfl) rfl ?_
  refine c154_1 (S := zS0) (m0 := m) (B := B) (z_ro (EE s) 0 (y + 1)) (z_ro (EE s) 0 (y + 2)) (by omega) (J.rf hJ) (by omega) (by omega) (by omega) (fun v3 hv3 hF6 => ?_)
  show X (EE s) d 316 1101 [(0, zr 99 0), (1, zr 4 40), (2, zr 4 44), (3, zi y)] [zi v3] m _
  refine X.aload_n 1102 i316_1101 rfl rfl rfl ?_
  refine X.aload_n 1103 i316_1102 rfl rfl rfl ?_
  refine X.iload_n 1104 i316_1103 rfl rfl rfl ?_
  refine X.iconst 1105 i316_1104 rfl rfl (by decide) ?_
  refine X.iadd 1106 i316_1105 rfl rfl (by omega) ?_
  refine X.rald 1107 i316_1106 rfl rfl (by decide) (by show 0 ≤ _ ∧ _ < ((s.1 : Nat) : Int); omega) (fun h7 => ?_)
  refine X.aload_n 1108 i316_1107 rfl rfl rfl ?_
  refine X.iload_n 1109 i316_1108 rfl rfl rfl ?_
  refine X.iconst 1110 i316_1109 rfl rfl (by decide) ?_
  refine X.iadd 1111 i316_1110 rfl rfl (by omega) ?_
  refine X.rald 1112 i316_1111 rfl rfl (by decide) (by show 0 ≤ _ ∧ _ < ((s.1 : Nat) : Int); omega) (fun h8 => ?_)
  refine X.callv 1115 [zi (z_ro (EE s) 0 (y + 1)), zi (z_ro (EE s) 0 (y + 2))] [zi v3] [(0, zr 4 44), (1, zi (z_ro (EE s) 0 (y + 1))), (2, zi (z_ro (EE s) 0 (y + 2)))] i316_1112 rfl (by decide) rfl rfl (by omega) rfl rfl (by decide) rfl t297 (Nat.le_of_ble_eq_true rfl) (Nat.le_of_ble_eq_true rfl) rfl ?_
  refine c297_1 (S := zS0) (m0 := m) (B := B) (z_ro (EE s) 0 (y + 1)) (z_ro (EE s) 0 (y + 2)) (by omega) (J.rf hJ) (by omega) (by omega) (by omega) (fun v9 hv9 hF12 => ?_)
  show X (EE s) d 316 1115 [(0, zr 99 0), (1, zr 4 40), (2, zr 4 44), (3, zi y)] [zi v9, zi v3] m _
  refine X.icmpeq 1674 1118 i316_1115 rfl rfl rfl (fun h13 => ?_) (fun h13 => ?_)
  · exact K _ (hJ.up (by omega)) (hR.up (by omega))
  · exact absurd (hF6.symm.trans ((an_marked ⟨hk, hJ⟩ (by omega) hR).trans hF12)) h13
theorem lw29 {s : Nat × (Nat → Int32)} {m : zM} {B : Int} {d : Nat} {Q : Option zV → zM → Prop} (y : Int) (hd : 200 ≤ d) (hJ : JB B m) (hR : Rel3 B m m) (hZ : ZZ m) (hB : B + 220000 ≤ 700000000) (hy : 0 ≤ y ∧ y + 6 ≤ (s.1 : Int)) (hs : s.1 ≤ 6) (K : ∀ (m' : zM), JB (B + 220000) m' → Rel3 (B + 220000) m' m' → X (EE s) d 316 1674 [(0, zr 99 0), (1, zr 4 40), (2, zr 4 44), (3, zi y)] [] m' Q) : X (EE s) d 316 1120 [(0, zr 99 0), (1, zr 4 40), (2, zr 4 44), (3, zi y)] [] m Q := by
  refine X.mok (fun hk => ?_)
  refine X.aload_n 1121 i316_1120 rfl rfl rfl ?_
  refine X.aload_n 1122 i316_1121 rfl rfl rfl ?_
  refine X.iload_n 1123 i316_1122 rfl rfl rfl ?_
  refine X.iconst 1124 i316_1123 rfl rfl (by decide) ?_
  refine X.iadd 1125 i316_1124 rfl rfl (by omega) ?_
  refine X.rald 1126 i316_1125 rfl rfl (by decide) (by show 0 ≤ _ ∧ _ < ((s.1 : Nat) : Int); omega) (fun h1 => ?_)
  refine X.aload_n 1127 i316_1126 rfl rfl rfl ?_
  refine X.iload_n 1128 i316_1127 rfl rfl rfl ?_
  refine X.iconst 1129 i316_1128 rfl rfl (by decide) ?_
  refine X.iadd 1130 i316_1129 rfl rfl (by omega) ?_
  refine X.rald 1131 i316_1130 rfl rfl (by decide) (by show 0 ≤ _ ∧ _ < ((s.1 : Nat) : Int); omega) (fun h2 => ?_)
  refine X.callv 1134 [zi (z_ro (EE s) 0 (y + 1)), zi (z_ro (EE s) 0 (y + 2))] [] [(0, zr 4 40), (1, zi (z_ro (EE s) 0 (y + 1))), (2, zi (z_ro (EE s) 0 (y + 2)))] i316_1131 rfl (by decide) rfl rfl (by omega) rfl rfl (by decide) rfl t155 (Nat.le_of_ble_eq_true rfl) (Nat.le_of_ble_eq_true rfl) rfl ?_
  refine c155_1 (S := zS0) (m0 := m) (B := B) (z_ro (EE s) 0 (y + 1)) (z_ro (EE s) 0 (y + 2)) (by omega) (J.rf hJ) (by omega) (by omega) (by omega) (fun v3 hv3 hF6 => ?_)
  show X (EE s) d 316 1134 [(0, zr 99 0), (1, zr 4 40), (2, zr 4 44), (3, zi y)] [zl v3] m _
  refine X.aload_n 1135 i316_1134 rfl rfl rfl ?_
  refine X.aload_n 1136 i316_1135 rfl rfl rfl ?_
  refine X.iload_n 1137 i316_1136 rfl rfl rfl ?_
  refine X.iconst 1138 i316_1137 rfl rfl (by decide) ?_
  refine X.iadd 1139 i316_1138 rfl rfl (by omega) ?_
  refine X.rald 1140 i316_1139 rfl rfl (by decide) (by show 0 ≤ _ ∧ _ < ((s.1 : Nat) : Int); omega) (fun h7 => ?_)
  refine X.aload_n 1141 i316_1140 rfl rfl rfl ?_
  refine X.iload_n 1142 i316_1141 rfl rfl rfl ?_
  refine X.iconst 1143 i316_1142 rfl rfl (by decide) ?_
  refine X.iadd 1144 i316_1143 rfl rfl (by omega) ?_
  refine X.rald 1145 i316_1144 rfl rfl (by decide) (by show 0 ≤ _ ∧ _ < ((s.1 : Nat) : Int); omega) (fun h8 => ?_)
  refine X.callv 1148 [zi (z_ro (EE s) 0 (y + 1)), zi (z_ro (EE s) 0 (y + 2))] [zl v3] [(0, zr 4 44), (1, zi (z_ro (EE s) 0 (y + 1))), (2, zi (z_ro (EE s) 0 (y + 2)))] i316_1145 rfl (by decide) rfl rfl (by omega) rfl rfl (by decide) rfl t298 (Nat.le_of_ble_eq_true rfl) (Nat.le_of_ble_eq_true rfl) rfl ?_
  refine c298_1 (S := zS0) (m0 := m) (B := B) (z_ro (EE s) 0 (y + 1)) (z_ro (EE s) 0 (y + 2)) (by omega) (J.rf hJ) (by omega) (by omega) (by omega) (fun v9 hv9 hF12 => ?_)
  show X (EE s) d 316 1148 [(0, zr 99 0), (1, zr 4 40), (2, zr 4 44), (3, zi y)] [zl v9, zl v3] m _
  refine X.lcmp 1149 i316_1148 rfl rfl (fun z13 hz14 => ?_)
  refine X.ifeq 1674 1152 i316_1149 rfl rfl rfl (fun h15 => ?_) (fun h15 => ?_)
  · exact K _ (hJ.up (by omega)) (hR.up (by omega))
  · exact absurd (by have e9 := hF6.symm.trans ((an_load ⟨hk, hJ⟩ (by omega) hR).trans hF12); omega) h15
theorem lw30 {s : Nat × (Nat → Int32)} {m : zM} {B : Int} {d : Nat} {Q : Option zV → zM → Prop} (y : Int) (hd : 200 ≤ d) (hJ : JB B m) (hR : Rel3 B m m) (hZ : ZZ m) (hB : B + 220000 ≤ 700000000) (hy : 0 ≤ y ∧ y + 6 ≤ (s.1 : Int)) (hs : s.1 ≤ 6) (K : ∀ (m' : zM), JB (B + 220000) m' → Rel3 (B + 220000) m' m' → X (EE s) d 316 1674 [(0, zr 99 0), (1, zr 4 40), (2, zr 4 44), (3, zi y)] [] m' Q) : X (EE s) d 316 1154 [(0, zr 99 0), (1, zr 4 40), (2, zr 4 44), (3, zi y)] [] m Q := by
  refine X.mok (fun hk => ?_)
  refine X.aload_n 1155 i316_1154 rfl rfl rfl ?_
  refine X.aload_n 1156 i316_1155 rfl rfl rfl ?_
  refine X.iload_n 1157 i316_1156 rfl rfl rfl ?_
  refine X.iconst 1158 i316_1157 rfl rfl (by decide) ?_
  refine X.iadd 1159 i316_1158 rfl rfl (by omega) ?_
  refine X.rald 1160 i316_1159 rfl rfl (by decide) (by show 0 ≤ _ ∧ _ < ((s.1 : Nat) : Int); omega) (fun h1 => ?_)
  refine X.callv 1163 [zi (z_ro (EE s) 0 (y + 1))] [] [(0, zr 4 40), (1, zi (z_ro (EE s) 0 (y + 1)))] i316_1160 rfl (by decide) rfl rfl (by omega) rfl rfl (by decide) rfl t156 (Nat.le_of_ble_eq_true rfl) (Nat.le_of_ble_eq_true rfl) rfl ?_
  refine c156_1 (S := zS0) (m0 := m) (B := B) (z_ro (EE s) 0 (y + 1)) (by omega) (J.rf hJ) (by omega) (by omega) (fun v2 hv2 hF5 => ?_)
  show X (EE s) d 316 1163 [(0, zr 99 0), (1, zr 4 40), (2, zr 4 44), (3, zi y)] [zl v2] m _
  refine X.aload_n 1164 i316_1163 rfl rfl rfl ?_
  refine X.aload_n 1165 i316_1164 rfl rfl rfl ?_
  refine X.iload_n 1166 i316_1165 rfl rfl rfl ?_
  refine X.iconst 1167 i316_1166 rfl rfl (by decide) ?_
  refine X.iadd 1168 i316_1167 rfl rfl (by omega) ?_
  refine X.rald 1169 i316_1168 rfl rfl (by decide) (by show 0 ≤ _ ∧ _ < ((s.1 : Nat) : Int); omega) (fun h6 => ?_)
  refine X.callv 1172 [zi (z_ro (EE s) 0 (y + 1))] [zl v2] [(0, zr 4 44), (1, zi (z_ro (EE s) 0 (y + 1)))] i316_1169 rfl (by decide) rfl rfl (by omega) rfl rfl (by decide) rfl t299 (Nat.le_of_ble_eq_true rfl) (Nat.le_of_ble_eq_true rfl) rfl ?_
  refine c299_1 (S := zS0) (m0 := m) (B := B) (z_ro (EE s) 0 (y + 1)) (by omega) (J.rf hJ) (by omega) (by omega) (fun v7 hv7 hF10 => ?_)
  show X (EE s) d 316 1172 [(0, zr 99 0), (1, zr 4 40), (2, zr 4 44), (3, zi y)] [zl v7, zl v2] m _
  refine X.lcmp 1173 i316_1172 rfl rfl (fun z11 hz12 => ?_)
  refine X.ifeq 1674 1176 i316_1173 rfl rfl rfl (fun h13 => ?_) (fun h13 => ?_)
  · exact K _ (hJ.up (by omega)) (hR.up (by omega))
  · exact absurd (by have e9 := hF5.symm.trans ((an_block ⟨hk, hJ⟩ (by omega) hR).trans hF10); omega) h13
theorem lw31 {s : Nat × (Nat → Int32)} {m : zM} {B : Int} {d : Nat} {Q : Option zV → zM → Prop} (y : Int) (hd : 200 ≤ d) (hJ : JB B m) (hR : Rel3 B m m) (hZ : ZZ m) (hB : B + 220000 ≤ 700000000) (hy : 0 ≤ y ∧ y + 6 ≤ (s.1 : Int)) (hs : s.1 ≤ 6) (K : ∀ (m' : zM), JB (B + 220000) m' → Rel3 (B + 220000) m' m' → X (EE s) d 316 1674 [(0, zr 99 0), (1, zr 4 40), (2, zr 4 44), (3, zi y)] [] m' Q) : X (EE s) d 316 1178 [(0, zr 99 0), (1, zr 4 40), (2, zr 4 44), (3, zi y)] [] m Q := by
  refine X.mok (fun hk => ?_)
  refine X.aload_n 1179 i316_1178 rfl rfl rfl ?_
  refine X.aload_n 1180 i316_1179 rfl rfl rfl ?_
  refine X.iload_n 1181 i316_1180 rfl rfl rfl ?_
  refine X.iconst 1182 i316_1181 rfl rfl (by decide) ?_
  refine X.iadd 1183 i316_1182 rfl rfl (by omega) ?_
  refine X.rald 1184 i316_1183 rfl rfl (by decide) (by show 0 ≤ _ ∧ _ < ((s.1 : Nat) : Int); omega) (fun h1 => ?_)
  refine X.callv 1187 [zi (z_ro (EE s) 0 (y + 1))] [] [(0, zr 4 40), (1, zi (z_ro (EE s) 0 (y + 1)))] i316_1184 rfl (by decide) rfl rfl (by omega) rfl rfl (by decide) rfl t157 (Nat.le_of_ble_eq_true rfl) (Nat.le_of_ble_eq_true rfl) rfl ?_
  refine c157_1 (S := zS0) (m0 := m) (B := B) (z_ro (EE s) 0 (y + 1)) (by omega) (J.rf hJ) (by omega) (by omega) (fun v2 hv2 hF5 => ?_)
  show X (EE s) d 316 1187 [(0, zr 99 0), (1, zr 4 40), (2, zr 4 44), (3, zi y)] [zl v2] m _
  refine X.aload_n 1188 i316_1187 rfl rfl rfl ?_
  refine X.aload_n 1189 i316_1188 rfl rfl rfl ?_
  refine X.iload_n 1190 i316_1189 rfl rfl rfl ?_
  refine X.iconst 1191 i316_1190 rfl rfl (by decide) ?_
  refine X.iadd 1192 i316_1191 rfl rfl (by omega) ?_
  refine X.rald 1193 i316_1192 rfl rfl (by decide) (by show 0 ≤ _ ∧ _ < ((s.1 : Nat) : Int); omega) (fun h6 => ?_)
  refine X.callv 1196 [zi (z_ro (EE s) 0 (y + 1))] [zl v2] [(0, zr 4 44), (1, zi (z_ro (EE s) 0 (y + 1)))] i316_1193 rfl (by decide) rfl rfl (by omega) rfl rfl (by decide) rfl t300 (Nat.le_of_ble_eq_true rfl) (Nat.le_of_ble_eq_true rfl) rfl ?_
  refine c300_1 (S := zS0) (m0 := m) (B := B) (z_ro (EE s) 0 (y + 1)) (by omega) (J.rf hJ) (by omega) (by omega) (fun v7 hv7 hF10 => ?_)
  show X (EE s) d 316 1196 [(0, zr 99 0), (1, zr 4 40), (2, zr 4 44), (3, zi y)] [zl v7, zl v2] m _
  refine X.lcmp 1197 i316_1196 rfl rfl (fun z11 hz12 => ?_)
  refine X.ifeq 1674 1200 i316_1197 rfl rfl rfl (fun h13 => ?_) (fun h13 => ?_)
  · exact K _ (hJ.up (by omega)) (hR.up (by omega))
  · exact absurd (by have e9 := hF5.symm.trans ((an_demand ⟨hk, hJ⟩ (by omega) hR).trans hF10); omega) h13
theorem lw32 {s : Nat × (Nat → Int32)} {m : zM} {B : Int} {d : Nat} {Q : Option zV → zM → Prop} (y : Int) (hd : 200 ≤ d) (hJ : JB B m) (hR : Rel3 B m m) (hZ : ZZ m) (hB : B + 220000 ≤ 700000000) (hy : 0 ≤ y ∧ y + 6 ≤ (s.1 : Int)) (hs : s.1 ≤ 6) (K : ∀ (m' : zM), JB (B + 220000) m' → Rel3 (B + 220000) m' m' → X (EE s) d 316 1674 [(0, zr 99 0), (1, zr 4 40), (2, zr 4 44), (3, zi y)] [] m' Q) : X (EE s) d 316 1202 [(0, zr 99 0), (1, zr 4 40), (2, zr 4 44), (3, zi y)] [] m Q := by
  refine X.mok (fun hk => ?_)
  refine X.aload_n 1203 i316_1202 rfl rfl rfl ?_
  refine X.aload_n 1204 i316_1203 rfl rfl rfl ?_
  refine X.iload_n 1205 i316_1204 rfl rfl rfl ?_
  refine X.iconst 1206 i316_1205 rfl rfl (by decide) ?_
  refine X.iadd 1207 i316_1206 rfl rfl (by omega) ?_
  refine X.rald 1208 i316_1207 rfl rfl (by decide) (by show 0 ≤ _ ∧ _ < ((s.1 : Nat) : Int); omega) (fun h1 => ?_)
  refine X.aload_n 1209 i316_1208 rfl rfl rfl ?_
  refine X.iload_n 1210 i316_1209 rfl rfl rfl ?_
  refine X.iconst 1211 i316_1210 rfl rfl (by decide) ?_
  refine X.iadd 1212 i316_1211 rfl rfl (by omega) ?_
  refine X.rald 1213 i316_1212 rfl rfl (by decide) (by show 0 ≤ _ ∧ _ < ((s.1 : Nat) : Int); omega) (fun h2 => ?_)
  refine X.callv 1216 [zi (z_ro (EE s) 0 (y + 1)), zi (z_ro (EE s) 0 (y + 2))] [] [(0, zr 4 40), (1, zi (z_ro (EE s) 0 (y + 1))), (2, zi (z_ro (EE s) 0 (y + 2)))] i316_1213 rfl (by decide) rfl rfl (by omega) rfl rfl (by decide) rfl t158 (Nat.le_of_ble_eq_true rfl) (Nat.le_of_ble_eq_true rfl) rfl ?_
  refine c158_1 (S := zS0) (m0 := m) (B := B) (z_ro (EE s) 0 (y + 1)) (z_ro (EE s) 0 (y + 2)) (by omega) (J.rf hJ) (by omega) (by omega) (by omega) (fun v3 hv3 hF6 => ?_)
  show X (EE s) d 316 1216 [(0, zr 99 0), (1, zr 4 40), (2, zr 4 44), (3, zi y)] [zl v3] m _
  refine X.aload_n 1217 i316_1216 rfl rfl rfl ?_
  refine X.aload_n 1218 i316_1217 rfl rfl rfl ?_
  refine X.iload_n 1219 i316_1218 rfl rfl rfl ?_
  refine X.iconst 1220 i316_1219 rfl rfl (by decide) ?_
  refine X.iadd 1221 i316_1220 rfl rfl (by omega) ?_
  refine X.rald 1222 i316_1221 rfl rfl (by decide) (by show 0 ≤ _ ∧ _ < ((s.1 : Nat) : Int); omega) (fun h7 => ?_)
  refine X.aload_n 1223 i316_1222 rfl rfl rfl ?_
  refine X.iload_n 1224 i316_1223 rfl rfl rfl ?_
  refine X.iconst 1225 i316_1224 rfl rfl (by decide) ?_
  refine X.iadd 1226 i316_1225 rfl rfl (by omega) ?_
  refine X.rald 1227 i316_1226 rfl rfl (by decide) (by show 0 ≤ _ ∧ _ < ((s.1 : Nat) : Int); omega) (fun h8 => ?_)
  refine X.callv 1230 [zi (z_ro (EE s) 0 (y + 1)), zi (z_ro (EE s) 0 (y + 2))] [zl v3] [(0, zr 4 44), (1, zi (z_ro (EE s) 0 (y + 1))), (2, zi (z_ro (EE s) 0 (y + 2)))] i316_1227 rfl (by decide) rfl rfl (by omega) rfl rfl (by decide) rfl t301 (Nat.le_of_ble_eq_true rfl) (Nat.le_of_ble_eq_true rfl) rfl ?_
  refine c301_1 (S := zS0) (m0 := m) (B := B) (z_ro (EE s) 0 (y + 1)) (z_ro (EE s) 0 (y + 2)) (by omega) (J.rf hJ) (by omega) (by omega) (by omega) (fun v9 hv9 hF12 => ?_)
  show X (EE s) d 316 1230 [(0, zr 99 0), (1, zr 4 40), (2, zr 4 44), (3, zi y)] [zl v9, zl v3] m _
  refine X.lcmp 1231 i316_1230 rfl rfl (fun z13 hz14 => ?_)
  refine X.ifeq 1674 1234 i316_1231 rfl rfl rfl (fun h15 => ?_) (fun h15 => ?_)
  · exact K _ (hJ.up (by omega)) (hR.up (by omega))
  · exact absurd (by have e9 := hF6.symm.trans ((an_greatest ⟨hk, hJ⟩ (by omega) hR).trans hF12); omega) h15
theorem lw33 {s : Nat × (Nat → Int32)} {m : zM} {B : Int} {d : Nat} {Q : Option zV → zM → Prop} (y : Int) (hd : 200 ≤ d) (hJ : JB B m) (hR : Rel3 B m m) (hZ : ZZ m) (hB : B + 220000 ≤ 700000000) (hy : 0 ≤ y ∧ y + 6 ≤ (s.1 : Int)) (hs : s.1 ≤ 6) (K : ∀ (m' : zM), JB (B + 220000) m' → Rel3 (B + 220000) m' m' → X (EE s) d 316 1674 [(0, zr 99 0), (1, zr 4 40), (2, zr 4 44), (3, zi y)] [] m' Q) : X (EE s) d 316 1236 [(0, zr 99 0), (1, zr 4 40), (2, zr 4 44), (3, zi y)] [] m Q := by
  refine X.mok (fun hk => ?_)
  refine X.aload_n 1237 i316_1236 rfl rfl rfl ?_
  refine X.aload_n 1238 i316_1237 rfl rfl rfl ?_
  refine X.iload_n 1239 i316_1238 rfl rfl rfl ?_
  refine X.iconst 1240 i316_1239 rfl rfl (by decide) ?_
  refine X.iadd 1241 i316_1240 rfl rfl (by omega) ?_
  refine X.rald 1242 i316_1241 rfl rfl (by decide) (by show 0 ≤ _ ∧ _ < ((s.1 : Nat) : Int); omega) (fun h1 => ?_)
  refine X.aload_n 1243 i316_1242 rfl rfl rfl ?_
  refine X.iload_n 1244 i316_1243 rfl rfl rfl ?_
  refine X.iconst 1245 i316_1244 rfl rfl (by decide) ?_
  refine X.iadd 1246 i316_1245 rfl rfl (by omega) ?_
  refine X.rald 1247 i316_1246 rfl rfl (by decide) (by show 0 ≤ _ ∧ _ < ((s.1 : Nat) : Int); omega) (fun h2 => ?_)
  refine X.aload_n 1248 i316_1247 rfl rfl rfl ?_
  refine X.iload_n 1249 i316_1248 rfl rfl rfl ?_
  refine X.iconst 1250 i316_1249 rfl rfl (by decide) ?_
  refine X.iadd 1251 i316_1250 rfl rfl (by omega) ?_
  refine X.rald 1252 i316_1251 rfl rfl (by decide) (by show 0 ≤ _ ∧ _ < ((s.1 : Nat) : Int); omega) (fun h3 => ?_)
  refine X.callv 1255 [zi (z_ro (EE s) 0 (y + 1)), zi (z_ro (EE s) 0 (y + 2)), zi (z_ro (EE s) 0 (y + 3))] [] [(0, zr 4 40), (1, zi (z_ro (EE s) 0 (y + 1))), (2, zi (z_ro (EE s) 0 (y + 2))), (3, zi (z_ro (EE s) 0 (y + 3)))] i316_1252 rfl (by decide) rfl rfl (by omega) rfl rfl (by decide) rfl t159 (Nat.le_of_ble_eq_true rfl) (Nat.le_of_ble_eq_true rfl) rfl ?_
  refine c159_1 (S := zS0) (m0 := m) (B := B) (z_ro (EE s) 0 (y + 1)) (z_ro (EE s) 0 (y + 2)) (z_ro (EE s) 0 (y + 3)) (by omega) (J.rf hJ) (by omega) (by omega) (by omega) (by omega) (fun v4 hv4 hF7 => ?_)
  show X (EE s) d 316 1255 [(0, zr 99 0), (1, zr 4 40), (2, zr 4 44), (3, zi y)] [zl v4] m _
  refine X.aload_n 1256 i316_1255 rfl rfl rfl ?_
  refine X.aload_n 1257 i316_1256 rfl rfl rfl ?_
  refine X.iload_n 1258 i316_1257 rfl rfl rfl ?_
  refine X.iconst 1259 i316_1258 rfl rfl (by decide) ?_
  refine X.iadd 1260 i316_1259 rfl rfl (by omega) ?_
  refine X.rald 1261 i316_1260 rfl rfl (by decide) (by show 0 ≤ _ ∧ _ < ((s.1 : Nat) : Int); omega) (fun h8 => ?_)
  refine X.aload_n 1262 i316_1261 rfl rfl rfl ?_
  refine X.iload_n 1263 i316_1262 rfl rfl rfl ?_
  refine X.iconst 1264 i316_1263 rfl rfl (by decide) ?_
  refine X.iadd 1265 i316_1264 rfl rfl (by omega) ?_
  refine X.rald 1266 i316_1265 rfl rfl (by decide) (by show 0 ≤ _ ∧ _ < ((s.1 : Nat) : Int); omega) (fun h9 => ?_)
  refine X.aload_n 1267 i316_1266 rfl rfl rfl ?_
  refine X.iload_n 1268 i316_1267 rfl rfl rfl ?_
  refine X.iconst 1269 i316_1268 rfl rfl (by decide) ?_
  refine X.iadd 1270 i316_1269 rfl rfl (by omega) ?_
  refine X.rald 1271 i316_1270 rfl rfl (by decide) (by show 0 ≤ _ ∧ _ < ((s.1 : Nat) : Int); omega) (fun h10 => ?_)
  refine X.callv 1274 [zi (z_ro (EE s) 0 (y + 1)), zi (z_ro (EE s) 0 (y + 2)), zi (z_ro (EE s) 0 (y + 3))] [zl v4] [(0, zr 4 44), (1, zi (z_ro (EE s) 0 (y + 1))), (2, zi (z_ro (EE s) 0 (y + 2))), (3, zi (z_ro (EE s) 0 (y + 3)))] i316_1271 rfl (by decide) rfl rfl (by omega) rfl rfl (by decide) rfl t288 (Nat.le_of_ble_eq_true rfl) (Nat.le_of_ble_eq_true rfl) rfl ?_
  refine c288_1 (S := zS0) (m0 := m) (B := B) (z_ro (EE s) 0 (y + 1)) (z_ro (EE s) 0 (y + 2)) (z_ro (EE s) 0 (y + 3)) (by omega) (J.rf hJ) (by omega) (by omega) (by omega) (by omega) (fun v11 hv11 hF14 => ?_)
  show X (EE s) d 316 1274 [(0, zr 99 0), (1, zr 4 40), (2, zr 4 44), (3, zi y)] [zl v11, zl v4] m _
  refine X.lcmp 1275 i316_1274 rfl rfl (fun z15 hz16 => ?_)
  refine X.ifeq 1674 1278 i316_1275 rfl rfl rfl (fun h17 => ?_) (fun h17 => ?_)
  · exact K _ (hJ.up (by omega)) (hR.up (by omega))
  · exact absurd (by have e9 := hF7.symm.trans ((an_billed ⟨hk, hJ⟩ (by omega) hR).trans hF14); omega) h17
theorem lw34 {s : Nat × (Nat → Int32)} {m : zM} {B : Int} {d : Nat} {Q : Option zV → zM → Prop} (y : Int) (hd : 200 ≤ d) (hJ : JB B m) (hR : Rel3 B m m) (hZ : ZZ m) (hB : B + 220000 ≤ 700000000) (hy : 0 ≤ y ∧ y + 6 ≤ (s.1 : Int)) (hs : s.1 ≤ 6) (K : ∀ (m' : zM), JB (B + 220000) m' → Rel3 (B + 220000) m' m' → X (EE s) d 316 1674 [(0, zr 99 0), (1, zr 4 40), (2, zr 4 44), (3, zi y)] [] m' Q) : X (EE s) d 316 1280 [(0, zr 99 0), (1, zr 4 40), (2, zr 4 44), (3, zi y)] [] m Q := by
  refine X.mok (fun hk => ?_)
  refine X.aload_n 1281 i316_1280 rfl rfl rfl ?_
  refine X.aload_n 1282 i316_1281 rfl rfl rfl ?_
  refine X.iload_n 1283 i316_1282 rfl rfl rfl ?_
  refine X.iconst 1284 i316_1283 rfl rfl (by decide) ?_
  refine X.iadd 1285 i316_1284 rfl rfl (by omega) ?_
  refine X.rald 1286 i316_1285 rfl rfl (by decide) (by show 0 ≤ _ ∧ _ < ((s.1 : Nat) : Int); omega) (fun h1 => ?_)
  refine X.aload_n 1287 i316_1286 rfl rfl rfl ?_
  refine X.iload_n 1288 i316_1287 rfl rfl rfl ?_
  refine X.iconst 1289 i316_1288 rfl rfl (by decide) ?_
  refine X.iadd 1290 i316_1289 rfl rfl (by omega) ?_
  refine X.rald 1291 i316_1290 rfl rfl (by decide) (by show 0 ≤ _ ∧ _ < ((s.1 : Nat) : Int); omega) (fun h2 => ?_)
  refine X.callv 1294 [zi (z_ro (EE s) 0 (y + 1)), zi (z_ro (EE s) 0 (y + 2))] [] [(0, zr 4 40), (1, zi (z_ro (EE s) 0 (y + 1))), (2, zi (z_ro (EE s) 0 (y + 2)))] i316_1291 rfl (by decide) rfl rfl (by omega) rfl rfl (by decide) rfl t163 (Nat.le_of_ble_eq_true rfl) (Nat.le_of_ble_eq_true rfl) rfl ?_
  refine c163_1 (S := zS0) (m0 := m) (B := B) (z_ro (EE s) 0 (y + 1)) (z_ro (EE s) 0 (y + 2)) (by omega) (J.rf hJ) (by omega) (by omega) (by omega) (fun v3 hv3 hF6 => ?_)
  show X (EE s) d 316 1294 [(0, zr 99 0), (1, zr 4 40), (2, zr 4 44), (3, zi y)] [zl v3] m _
  refine X.aload_n 1295 i316_1294 rfl rfl rfl ?_
  refine X.aload_n 1296 i316_1295 rfl rfl rfl ?_
  refine X.iload_n 1297 i316_1296 rfl rfl rfl ?_
  refine X.iconst 1298 i316_1297 rfl rfl (by decide) ?_
  refine X.iadd 1299 i316_1298 rfl rfl (by omega) ?_
  refine X.rald 1300 i316_1299 rfl rfl (by decide) (by show 0 ≤ _ ∧ _ < ((s.1 : Nat) : Int); omega) (fun h7 => ?_)
  refine X.aload_n 1301 i316_1300 rfl rfl rfl ?_
  refine X.iload_n 1302 i316_1301 rfl rfl rfl ?_
  refine X.iconst 1303 i316_1302 rfl rfl (by decide) ?_
  refine X.iadd 1304 i316_1303 rfl rfl (by omega) ?_
  refine X.rald 1305 i316_1304 rfl rfl (by decide) (by show 0 ≤ _ ∧ _ < ((s.1 : Nat) : Int); omega) (fun h8 => ?_)
  refine X.callv 1308 [zi (z_ro (EE s) 0 (y + 1)), zi (z_ro (EE s) 0 (y + 2))] [zl v3] [(0, zr 4 44), (1, zi (z_ro (EE s) 0 (y + 1))), (2, zi (z_ro (EE s) 0 (y + 2)))] i316_1305 rfl (by decide) rfl rfl (by omega) rfl rfl (by decide) rfl t292 (Nat.le_of_ble_eq_true rfl) (Nat.le_of_ble_eq_true rfl) rfl ?_
  refine c292_1 (S := zS0) (m0 := m) (B := B) (z_ro (EE s) 0 (y + 1)) (z_ro (EE s) 0 (y + 2)) (by omega) (J.rf hJ) (by omega) (by omega) (by omega) (fun v9 hv9 hF12 => ?_)
  show X (EE s) d 316 1308 [(0, zr 99 0), (1, zr 4 40), (2, zr 4 44), (3, zi y)] [zl v9, zl v3] m _
  refine X.lcmp 1309 i316_1308 rfl rfl (fun z13 hz14 => ?_)
  refine X.ifeq 1674 1312 i316_1309 rfl rfl rfl (fun h15 => ?_) (fun h15 => ?_)
  · exact K _ (hJ.up (by omega)) (hR.up (by omega))
  · exact absurd (by have e9 := hF6.symm.trans ((an_bills ⟨hk, hJ⟩ (by omega) hR).trans hF12); omega) h15
theorem lw35 {s : Nat × (Nat → Int32)} {m : zM} {B : Int} {d : Nat} {Q : Option zV → zM → Prop} (y : Int) (hd : 200 ≤ d) (hJ : JB B m) (hR : Rel3 B m m) (hZ : ZZ m) (hB : B + 220000 ≤ 700000000) (hy : 0 ≤ y ∧ y + 6 ≤ (s.1 : Int)) (hs : s.1 ≤ 6) (K : ∀ (m' : zM), JB (B + 220000) m' → Rel3 (B + 220000) m' m' → X (EE s) d 316 1674 [(0, zr 99 0), (1, zr 4 40), (2, zr 4 44), (3, zi y)] [] m' Q) : X (EE s) d 316 1314 [(0, zr 99 0), (1, zr 4 40), (2, zr 4 44), (3, zi y)] [] m Q := by
  refine X.mok (fun hk => ?_)
  refine X.aload_n 1315 i316_1314 rfl rfl rfl ?_
  refine X.aload_n 1316 i316_1315 rfl rfl rfl ?_
  refine X.iload_n 1317 i316_1316 rfl rfl rfl ?_
  refine X.iconst 1318 i316_1317 rfl rfl (by decide) ?_
  refine X.iadd 1319 i316_1318 rfl rfl (by omega) ?_
  refine X.rald 1320 i316_1319 rfl rfl (by decide) (by show 0 ≤ _ ∧ _ < ((s.1 : Nat) : Int); omega) (fun h1 => ?_)
  refine X.aload_n 1321 i316_1320 rfl rfl rfl ?_
  refine X.iload_n 1322 i316_1321 rfl rfl rfl ?_
  refine X.iconst 1323 i316_1322 rfl rfl (by decide) ?_
  refine X.iadd 1324 i316_1323 rfl rfl (by omega) ?_
  refine X.rald 1325 i316_1324 rfl rfl (by decide) (by show 0 ≤ _ ∧ _ < ((s.1 : Nat) : Int); omega) (fun h2 => ?_)
  refine X.callv 1328 [zi (z_ro (EE s) 0 (y + 1)), zi (z_ro (EE s) 0 (y + 2))] [] [(0, zr 4 40), (1, zi (z_ro (EE s) 0 (y + 1))), (2, zi (z_ro (EE s) 0 (y + 2)))] i316_1325 rfl (by decide) rfl rfl (by omega) rfl rfl (by decide) rfl t166 (Nat.le_of_ble_eq_true rfl) (Nat.le_of_ble_eq_true rfl) rfl ?_
  refine c166_1 (S := zS0) (m0 := m) (B := B) (z_ro (EE s) 0 (y + 1)) (z_ro (EE s) 0 (y + 2)) (by omega) (J.rf hJ) (by omega) (by omega) (by omega) (fun v3 hv3 hF6 => ?_)
  show X (EE s) d 316 1328 [(0, zr 99 0), (1, zr 4 40), (2, zr 4 44), (3, zi y)] [zl v3] m _
  refine X.aload_n 1329 i316_1328 rfl rfl rfl ?_
  refine X.aload_n 1330 i316_1329 rfl rfl rfl ?_
  refine X.iload_n 1331 i316_1330 rfl rfl rfl ?_
  refine X.iconst 1332 i316_1331 rfl rfl (by decide) ?_
  refine X.iadd 1333 i316_1332 rfl rfl (by omega) ?_
  refine X.rald 1334 i316_1333 rfl rfl (by decide) (by show 0 ≤ _ ∧ _ < ((s.1 : Nat) : Int); omega) (fun h7 => ?_)
  refine X.aload_n 1335 i316_1334 rfl rfl rfl ?_
  refine X.iload_n 1336 i316_1335 rfl rfl rfl ?_
  refine X.iconst 1337 i316_1336 rfl rfl (by decide) ?_
  refine X.iadd 1338 i316_1337 rfl rfl (by omega) ?_
  refine X.rald 1339 i316_1338 rfl rfl (by decide) (by show 0 ≤ _ ∧ _ < ((s.1 : Nat) : Int); omega) (fun h8 => ?_)
  refine X.callv 1342 [zi (z_ro (EE s) 0 (y + 1)), zi (z_ro (EE s) 0 (y + 2))] [zl v3] [(0, zr 4 44), (1, zi (z_ro (EE s) 0 (y + 1))), (2, zi (z_ro (EE s) 0 (y + 2)))] i316_1339 rfl (by decide) rfl rfl (by omega) rfl rfl (by decide) rfl t293 (Nat.le_of_ble_eq_true rfl) (Nat.le_of_ble_eq_true rfl) rfl ?_
  refine c293_1 (S := zS0) (m0 := m) (B := B) (z_ro (EE s) 0 (y + 1)) (z_ro (EE s) 0 (y + 2)) (by omega) (J.rf hJ) (by omega) (by omega) (by omega) (fun v9 hv9 hF12 => ?_)
  show X (EE s) d 316 1342 [(0, zr 99 0), (1, zr 4 40), (2, zr 4 44), (3, zi y)] [zl v9, zl v3] m _
  refine X.lcmp 1343 i316_1342 rfl rfl (fun z13 hz14 => ?_)
  refine X.ifeq 1674 1346 i316_1343 rfl rfl rfl (fun h15 => ?_) (fun h15 => ?_)
  · exact K _ (hJ.up (by omega)) (hR.up (by omega))
  · exact absurd (by have e9 := hF6.symm.trans ((an_money ⟨hk, hJ⟩ (by omega) hR).trans hF12); omega) h15
theorem lw36 {s : Nat × (Nat → Int32)} {m : zM} {B : Int} {d : Nat} {Q : Option zV → zM → Prop} (y : Int) (hd : 200 ≤ d) (hJ : JB B m) (hR : Rel3 B m m) (hZ : ZZ m) (hB : B + 220000 ≤ 700000000) (hy : 0 ≤ y ∧ y + 6 ≤ (s.1 : Int)) (hs : s.1 ≤ 6) (K : ∀ (m' : zM), JB (B + 220000) m' → Rel3 (B + 220000) m' m' → X (EE s) d 316 1674 [(0, zr 99 0), (1, zr 4 40), (2, zr 4 44), (3, zi y)] [] m' Q) : X (EE s) d 316 1348 [(0, zr 99 0), (1, zr 4 40), (2, zr 4 44), (3, zi y)] [] m Q := by
  refine X.mok (fun hk => ?_)
  refine X.aload_n 1349 i316_1348 rfl rfl rfl ?_
  refine X.aload_n 1350 i316_1349 rfl rfl rfl ?_
  refine X.iload_n 1351 i316_1350 rfl rfl rfl ?_
  refine X.iconst 1352 i316_1351 rfl rfl (by decide) ?_
  refine X.iadd 1353 i316_1352 rfl rfl (by omega) ?_
  refine X.rald 1354 i316_1353 rfl rfl (by decide) (by show 0 ≤ _ ∧ _ < ((s.1 : Nat) : Int); omega) (fun h1 => ?_)
  refine X.aload_n 1355 i316_1354 rfl rfl rfl ?_
  refine X.iload_n 1356 i316_1355 rfl rfl rfl ?_
  refine X.iconst 1357 i316_1356 rfl rfl (by decide) ?_
  refine X.iadd 1358 i316_1357 rfl rfl (by omega) ?_
  refine X.rald 1359 i316_1358 rfl rfl (by decide) (by show 0 ≤ _ ∧ _ < ((s.1 : Nat) : Int); omega) (fun h2 => ?_)
  refine X.callv 1362 [zi (z_ro (EE s) 0 (y + 1)), zi (z_ro (EE s) 0 (y + 2))] [] [(0, zr 4 40), (1, zi (z_ro (EE s) 0 (y + 1))), (2, zi (z_ro (EE s) 0 (y + 2)))] i316_1359 rfl (by decide) rfl rfl (by omega) rfl rfl (by decide) rfl t170 (Nat.le_of_ble_eq_true rfl) (Nat.le_of_ble_eq_true rfl) rfl ?_
  refine c170_1 (S := zS0) (m0 := m) (B := B) (z_ro (EE s) 0 (y + 1)) (z_ro (EE s) 0 (y + 2)) (by omega) (J.rf hJ) (by omega) (by omega) (by omega) (fun h => h) (fun h => h) (fun h => h) (fun h => h) (fun h => h) (fun h => h) (fun h => h) (fun h => h) (fun h => h) (fun h => h) (fun h => h) (fun h => h) (fun h => h) (fun h => h) (fun v3 m4 hv3 hF6 hJ5 => ?_)
  show X (EE s) d 316 1362 [(0, zr 99 0), (1, zr 4 40), (2, zr 4 44), (3, zi y)] [zl v3] m4 _
  refine X.aload_n 1363 i316_1362 rfl rfl rfl ?_
  refine X.aload_n 1364 i316_1363 rfl rfl rfl ?_
  refine X.iload_n 1365 i316_1364 rfl rfl rfl ?_
  refine X.iconst 1366 i316_1365 rfl rfl (by decide) ?_
  refine X.iadd 1367 i316_1366 rfl rfl (by omega) ?_
  refine X.rald 1368 i316_1367 rfl rfl (by decide) (by show 0 ≤ _ ∧ _ < ((s.1 : Nat) : Int); omega) (fun h7 => ?_)
  refine X.aload_n 1369 i316_1368 rfl rfl rfl ?_
  refine X.iload_n 1370 i316_1369 rfl rfl rfl ?_
  refine X.iconst 1371 i316_1370 rfl rfl (by decide) ?_
  refine X.iadd 1372 i316_1371 rfl rfl (by omega) ?_
  refine X.rald 1373 i316_1372 rfl rfl (by decide) (by show 0 ≤ _ ∧ _ < ((s.1 : Nat) : Int); omega) (fun h8 => ?_)
  refine X.callv 1376 [zi (z_ro (EE s) 0 (y + 1)), zi (z_ro (EE s) 0 (y + 2))] [zl v3] [(0, zr 4 44), (1, zi (z_ro (EE s) 0 (y + 1))), (2, zi (z_ro (EE s) 0 (y + 2)))] i316_1373 rfl (by decide) rfl rfl (by omega) rfl rfl (by decide) rfl t302 (Nat.le_of_ble_eq_true rfl) (Nat.le_of_ble_eq_true rfl) rfl ?_
  refine c302_1 (S := zS0) (m0 := m4) (B := B + 7212) (z_ro (EE s) 0 (y + 1)) (z_ro (EE s) 0 (y + 2)) (by omega) (J.rf hJ5.jb0) (by omega) (by omega) (by omega) (fun h => h) (fun h => h) (fun h => h) (fun h => h) (fun h => h) (fun h => h) (fun h => h) (fun h => h) (fun h => h) (fun h => h) (fun h => h) (fun h => h) (fun h => h) (fun h => h) (fun h => h) (fun v9 m10 hv9 hF12 hJ11 => ?_)
  show X (EE s) d 316 1376 [(0, zr 99 0), (1, zr 4 40), (2, zr 4 44), (3, zi y)] [zl v9, zl v3] m10 _
  refine X.lcmp 1377 i316_1376 rfl rfl (fun z13 hz14 => ?_)
  refine X.ifeq 1674 1380 i316_1377 rfl rfl rfl (fun h15 => ?_) (fun h15 => ?_)
  · exact K _ (hJ11.jb0.up (by omega)) (st3_would (by omega) (by omega) hk hJ (by omega) hR hF6 hF12).2
  · exact absurd (by have e9 := (st3_would (by omega) (by omega) hk hJ (by omega) hR hF6 hF12).1; omega) h15
theorem lw37 {s : Nat × (Nat → Int32)} {m : zM} {B : Int} {d : Nat} {Q : Option zV → zM → Prop} (y : Int) (hd : 200 ≤ d) (hJ : JB B m) (hR : Rel3 B m m) (hZ : ZZ m) (hB : B + 220000 ≤ 700000000) (hy : 0 ≤ y ∧ y + 6 ≤ (s.1 : Int)) (hs : s.1 ≤ 6) (K : ∀ (m' : zM), JB (B + 220000) m' → Rel3 (B + 220000) m' m' → X (EE s) d 316 1674 [(0, zr 99 0), (1, zr 4 40), (2, zr 4 44), (3, zi y)] [] m' Q) : X (EE s) d 316 1382 [(0, zr 99 0), (1, zr 4 40), (2, zr 4 44), (3, zi y)] [] m Q := by
  refine X.mok (fun hk => ?_)
  refine X.aload_n 1383 i316_1382 rfl rfl rfl ?_
  refine X.aload_n 1384 i316_1383 rfl rfl rfl ?_
  refine X.iload_n 1385 i316_1384 rfl rfl rfl ?_
  refine X.iconst 1386 i316_1385 rfl rfl (by decide) ?_
  refine X.iadd 1387 i316_1386 rfl rfl (by omega) ?_
  refine X.rald 1388 i316_1387 rfl rfl (by decide) (by show 0 ≤ _ ∧ _ < ((s.1 : Nat) : Int); omega) (fun h1 => ?_)
  refine X.callv 1391 [zi (z_ro (EE s) 0 (y + 1))] [] [(0, zr 4 40), (1, zi (z_ro (EE s) 0 (y + 1)))] i316_1388 rfl (by decide) rfl rfl (by omega) rfl rfl (by decide) rfl t181 (Nat.le_of_ble_eq_true rfl) (Nat.le_of_ble_eq_true rfl) rfl ?_
  refine c181_1 (S := zS0) (m0 := m) (B := B) (z_ro (EE s) 0 (y + 1)) (by omega) (J.rf hJ) (by omega) (by omega) (fun v2 hv2 hF5 => ?_)
  show X (EE s) d 316 1391 [(0, zr 99 0), (1, zr 4 40), (2, zr 4 44), (3, zi y)] [zl v2] m _
  refine X.aload_n 1392 i316_1391 rfl rfl rfl ?_
  refine X.aload_n 1393 i316_1392 rfl rfl rfl ?_
  refine X.iload_n 1394 i316_1393 rfl rfl rfl ?_
  refine X.iconst 1395 i316_1394 rfl rfl (by decide) ?_
  refine X.iadd 1396 i316_1395 rfl rfl (by omega) ?_
  refine X.rald 1397 i316_1396 rfl rfl (by decide) (by show 0 ≤ _ ∧ _ < ((s.1 : Nat) : Int); omega) (fun h6 => ?_)
  refine X.callv 1400 [zi (z_ro (EE s) 0 (y + 1))] [zl v2] [(0, zr 4 44), (1, zi (z_ro (EE s) 0 (y + 1)))] i316_1397 rfl (by decide) rfl rfl (by omega) rfl rfl (by decide) rfl t305 (Nat.le_of_ble_eq_true rfl) (Nat.le_of_ble_eq_true rfl) rfl ?_
  refine c305_1 (S := zS0) (m0 := m) (B := B) (z_ro (EE s) 0 (y + 1)) (by omega) (J.rf hJ) (by omega) (by omega) (fun v7 hv7 hF10 => ?_)
  show X (EE s) d 316 1400 [(0, zr 99 0), (1, zr 4 40), (2, zr 4 44), (3, zi y)] [zl v7, zl v2] m _
  refine X.lcmp 1401 i316_1400 rfl rfl (fun z11 hz12 => ?_)
  refine X.ifeq 1674 1404 i316_1401 rfl rfl rfl (fun h13 => ?_) (fun h13 => ?_)
  · exact K _ (hJ.up (by omega)) (hR.up (by omega))
  · exact absurd (by have e9 := hF5.symm.trans ((an_cost0 ⟨hk, hJ⟩ (by omega) hZ).trans hF10); omega) h13
theorem lw38 {s : Nat × (Nat → Int32)} {m : zM} {B : Int} {d : Nat} {Q : Option zV → zM → Prop} (y : Int) (hd : 200 ≤ d) (hJ : JB B m) (hR : Rel3 B m m) (hZ : ZZ m) (hB : B + 220000 ≤ 700000000) (hy : 0 ≤ y ∧ y + 6 ≤ (s.1 : Int)) (hs : s.1 ≤ 6) (K : ∀ (m' : zM), JB (B + 220000) m' → Rel3 (B + 220000) m' m' → X (EE s) d 316 1674 [(0, zr 99 0), (1, zr 4 40), (2, zr 4 44), (3, zi y)] [] m' Q) : X (EE s) d 316 1406 [(0, zr 99 0), (1, zr 4 40), (2, zr 4 44), (3, zi y)] [] m Q := by
  refine X.mok (fun hk => ?_)
  refine X.aload_n 1407 i316_1406 rfl rfl rfl ?_
  refine X.aload_n 1408 i316_1407 rfl rfl rfl ?_
  refine X.iload_n 1409 i316_1408 rfl rfl rfl ?_
  refine X.iconst 1410 i316_1409 rfl rfl (by decide) ?_
  refine X.iadd 1411 i316_1410 rfl rfl (by omega) ?_
  refine X.rald 1412 i316_1411 rfl rfl (by decide) (by show 0 ≤ _ ∧ _ < ((s.1 : Nat) : Int); omega) (fun h1 => ?_)
  refine X.aload_n 1413 i316_1412 rfl rfl rfl ?_
  refine X.iload_n 1414 i316_1413 rfl rfl rfl ?_
  refine X.iconst 1415 i316_1414 rfl rfl (by decide) ?_
  refine X.iadd 1416 i316_1415 rfl rfl (by omega) ?_
  refine X.rald 1417 i316_1416 rfl rfl (by decide) (by show 0 ≤ _ ∧ _ < ((s.1 : Nat) : Int); omega) (fun h2 => ?_)
  refine X.callv 1420 [zi (z_ro (EE s) 0 (y + 1)), zi (z_ro (EE s) 0 (y + 2))] [] [(0, zr 4 40), (1, zi (z_ro (EE s) 0 (y + 1))), (2, zi (z_ro (EE s) 0 (y + 2)))] i316_1417 rfl (by decide) rfl rfl (by omega) rfl rfl (by decide) rfl t183 (Nat.le_of_ble_eq_true rfl) (Nat.le_of_ble_eq_true rfl) rfl ?_
  refine c183_1 (S := zS0) (m0 := m) (B := B) (z_ro (EE s) 0 (y + 1)) (z_ro (EE s) 0 (y + 2)) (by omega) (J.rf hJ) (by omega) (by omega) (by omega) (fun v3 hv3 hF6 => ?_)
  show X (EE s) d 316 1420 [(0, zr 99 0), (1, zr 4 40), (2, zr 4 44), (3, zi y)] [zl v3] m _
  refine X.aload_n 1421 i316_1420 rfl rfl rfl ?_
  refine X.aload_n 1422 i316_1421 rfl rfl rfl ?_
  refine X.iload_n 1423 i316_1422 rfl rfl rfl ?_
  refine X.iconst 1424 i316_1423 rfl rfl (by decide) ?_
  refine X.iadd 1425 i316_1424 rfl rfl (by omega) ?_
  refine X.rald 1426 i316_1425 rfl rfl (by decide) (by show 0 ≤ _ ∧ _ < ((s.1 : Nat) : Int); omega) (fun h7 => ?_)
  refine X.aload_n 1427 i316_1426 rfl rfl rfl ?_
  refine X.iload_n 1428 i316_1427 rfl rfl rfl ?_
  refine X.iconst 1429 i316_1428 rfl rfl (by decide) ?_
  refine X.iadd 1430 i316_1429 rfl rfl (by omega) ?_
  refine X.rald 1431 i316_1430 rfl rfl (by decide) (by show 0 ≤ _ ∧ _ < ((s.1 : Nat) : Int); omega) (fun h8 => ?_)
  refine X.callv 1434 [zi (z_ro (EE s) 0 (y + 1)), zi (z_ro (EE s) 0 (y + 2))] [zl v3] [(0, zr 4 44), (1, zi (z_ro (EE s) 0 (y + 1))), (2, zi (z_ro (EE s) 0 (y + 2)))] i316_1431 rfl (by decide) rfl rfl (by omega) rfl rfl (by decide) rfl t308 (Nat.le_of_ble_eq_true rfl) (Nat.le_of_ble_eq_true rfl) rfl ?_
  refine c308_1 (S := zS0) (m0 := m) (B := B) (z_ro (EE s) 0 (y + 1)) (z_ro (EE s) 0 (y + 2)) (by omega) (J.rf hJ) (by omega) (by omega) (by omega) (fun v9 hv9 hF12 => ?_)
  show X (EE s) d 316 1434 [(0, zr 99 0), (1, zr 4 40), (2, zr 4 44), (3, zi y)] [zl v9, zl v3] m _
  refine X.lcmp 1435 i316_1434 rfl rfl (fun z13 hz14 => ?_)
  refine X.ifeq 1674 1438 i316_1435 rfl rfl rfl (fun h15 => ?_) (fun h15 => ?_)
  · exact K _ (hJ.up (by omega)) (hR.up (by omega))
  · exact absurd (by have e9 := hF6.symm.trans ((an_cheapest0 ⟨hk, hJ⟩ (by omega) hZ).trans hF12); omega) h15
theorem lw39 {s : Nat × (Nat → Int32)} {m : zM} {B : Int} {d : Nat} {Q : Option zV → zM → Prop} (y : Int) (hd : 200 ≤ d) (hJ : JB B m) (hR : Rel3 B m m) (hZ : ZZ m) (hB : B + 220000 ≤ 700000000) (hy : 0 ≤ y ∧ y + 6 ≤ (s.1 : Int)) (hs : s.1 ≤ 6) (K : ∀ (m' : zM), JB (B + 220000) m' → Rel3 (B + 220000) m' m' → X (EE s) d 316 1674 [(0, zr 99 0), (1, zr 4 40), (2, zr 4 44), (3, zi y)] [] m' Q) : X (EE s) d 316 1440 [(0, zr 99 0), (1, zr 4 40), (2, zr 4 44), (3, zi y)] [] m Q := by
  refine X.mok (fun hk => ?_)
  refine X.aload_n 1441 i316_1440 rfl rfl rfl ?_
  refine X.callv 1444 [] [] [(0, zr 4 40)] i316_1441 rfl (by decide) rfl rfl (by omega) rfl rfl (by decide) rfl t184 (Nat.le_of_ble_eq_true rfl) (Nat.le_of_ble_eq_true rfl) rfl ?_
  refine c184_1 (S := zS0) (m0 := m) (B := B)  (by omega) (J.rf hJ) (by omega) (fun h => h) (fun h => h) (fun h => h) (fun h => h) (fun h => h) (fun h => h) (fun h => h) (fun h => h) (fun h => h) (fun h => h) (fun h => h) (fun h => h) (fun h => h) (fun h => h) (fun v1 m2 hv1 hF4 hJ3 => ?_)
  show X (EE s) d 316 1444 [(0, zr 99 0), (1, zr 4 40), (2, zr 4 44), (3, zi y)] [zi v1] m2 _
  refine X.aload_n 1445 i316_1444 rfl rfl rfl ?_
  refine X.callv 1448 [] [zi v1] [(0, zr 4 44)] i316_1445 rfl (by decide) rfl rfl (by omega) rfl rfl (by decide) rfl t309 (Nat.le_of_ble_eq_true rfl) (Nat.le_of_ble_eq_true rfl) rfl ?_
  refine c309_1 (S := zS0) (m0 := m2) (B := B + 28812)  (by omega) (J.rf hJ3.jb0) (by omega) (fun h => h) (fun h => h) (fun h => h) (fun h => h) (fun h => h) (fun h => h) (fun h => h) (fun h => h) (fun h => h) (fun h => h) (fun h => h) (fun h => h) (fun h => h) (fun h => h) (fun h => h) (fun v5 m6 hv5 hF8 hJ7 => ?_)
  show X (EE s) d 316 1448 [(0, zr 99 0), (1, zr 4 40), (2, zr 4 44), (3, zi y)] [zi v5, zi v1] m6 _
  refine X.icmpeq 1674 1451 i316_1448 rfl rfl rfl (fun h9 => ?_) (fun h9 => ?_)
  · exact K _ (hJ7.jb0.up (by omega)) (st3_lasts  hk hJ (by omega) hR hF4 hF8).2
  · exact absurd ((st3_lasts  hk hJ (by omega) hR hF4 hF8).1) h9
theorem lw40 {s : Nat × (Nat → Int32)} {m : zM} {B : Int} {d : Nat} {Q : Option zV → zM → Prop} (y : Int) (hd : 200 ≤ d) (hJ : JB B m) (hR : Rel3 B m m) (hZ : ZZ m) (hB : B + 220000 ≤ 700000000) (hy : 0 ≤ y ∧ y + 6 ≤ (s.1 : Int)) (hs : s.1 ≤ 6) (K : ∀ (m' : zM), JB (B + 220000) m' → Rel3 (B + 220000) m' m' → X (EE s) d 316 1674 [(0, zr 99 0), (1, zr 4 40), (2, zr 4 44), (3, zi y)] [] m' Q) : X (EE s) d 316 1453 [(0, zr 99 0), (1, zr 4 40), (2, zr 4 44), (3, zi y)] [] m Q := by
  refine X.mok (fun hk => ?_)
  refine X.aload_n 1454 i316_1453 rfl rfl rfl ?_
  refine X.aload_n 1455 i316_1454 rfl rfl rfl ?_
  refine X.iload_n 1456 i316_1455 rfl rfl rfl ?_
  refine X.iconst 1457 i316_1456 rfl rfl (by decide) ?_
  refine X.iadd 1458 i316_1457 rfl rfl (by omega) ?_
  refine X.rald 1459 i316_1458 rfl rfl (by decide) (by show 0 ≤ _ ∧ _ < ((s.1 : Nat) : Int); omega) (fun h1 => ?_)
  refine X.callv 1462 [zi (z_ro (EE s) 0 (y + 1))] [] [(0, zr 4 40), (1, zi (z_ro (EE s) 0 (y + 1)))] i316_1459 rfl (by decide) rfl rfl (by omega) rfl rfl (by decide) rfl t186 (Nat.le_of_ble_eq_true rfl) (Nat.le_of_ble_eq_true rfl) rfl ?_
  refine c186_1 (S := zS0) (m0 := m) (B := B) (z_ro (EE s) 0 (y + 1)) (by omega) (J.rf hJ) (by omega) (by omega) (fun v2 hv2 hF5 => ?_)
  show X (EE s) d 316 1462 [(0, zr 99 0), (1, zr 4 40), (2, zr 4 44), (3, zi y)] [zl v2] m _
  refine X.aload_n 1463 i316_1462 rfl rfl rfl ?_
  refine X.aload_n 1464 i316_1463 rfl rfl rfl ?_
  refine X.iload_n 1465 i316_1464 rfl rfl rfl ?_
  refine X.iconst 1466 i316_1465 rfl rfl (by decide) ?_
  refine X.iadd 1467 i316_1466 rfl rfl (by omega) ?_
  refine X.rald 1468 i316_1467 rfl rfl (by decide) (by show 0 ≤ _ ∧ _ < ((s.1 : Nat) : Int); omega) (fun h6 => ?_)
  refine X.callv 1471 [zi (z_ro (EE s) 0 (y + 1))] [zl v2] [(0, zr 4 44), (1, zi (z_ro (EE s) 0 (y + 1)))] i316_1468 rfl (by decide) rfl rfl (by omega) rfl rfl (by decide) rfl t310 (Nat.le_of_ble_eq_true rfl) (Nat.le_of_ble_eq_true rfl) rfl ?_
  refine c310_1 (S := zS0) (m0 := m) (B := B) (z_ro (EE s) 0 (y + 1)) (by omega) (J.rf hJ) (by omega) (by omega) (fun v7 hv7 hF10 => ?_)
  show X (EE s) d 316 1471 [(0, zr 99 0), (1, zr 4 40), (2, zr 4 44), (3, zi y)] [zl v7, zl v2] m _
  refine X.lcmp 1472 i316_1471 rfl rfl (fun z11 hz12 => ?_)
  refine X.ifeq 1674 1475 i316_1472 rfl rfl rfl (fun h13 => ?_) (fun h13 => ?_)
  · exact K _ (hJ.up (by omega)) (hR.up (by omega))
  · exact absurd (by have e9 := hF5.symm.trans ((an_lost ⟨hk, hJ⟩ (by omega) hR).trans hF10); omega) h13
theorem lw41 {s : Nat × (Nat → Int32)} {m : zM} {B : Int} {d : Nat} {Q : Option zV → zM → Prop} (y : Int) (hd : 200 ≤ d) (hJ : JB B m) (hR : Rel3 B m m) (hZ : ZZ m) (hB : B + 220000 ≤ 700000000) (hy : 0 ≤ y ∧ y + 6 ≤ (s.1 : Int)) (hs : s.1 ≤ 6) (K : ∀ (m' : zM), JB (B + 220000) m' → Rel3 (B + 220000) m' m' → X (EE s) d 316 1674 [(0, zr 99 0), (1, zr 4 40), (2, zr 4 44), (3, zi y)] [] m' Q) : X (EE s) d 316 1477 [(0, zr 99 0), (1, zr 4 40), (2, zr 4 44), (3, zi y)] [] m Q := by
  refine X.mok (fun hk => ?_)
  refine X.aload_n 1478 i316_1477 rfl rfl rfl ?_
  refine X.aload_n 1479 i316_1478 rfl rfl rfl ?_
  refine X.iload_n 1480 i316_1479 rfl rfl rfl ?_
  refine X.iconst 1481 i316_1480 rfl rfl (by decide) ?_
  refine X.iadd 1482 i316_1481 rfl rfl (by omega) ?_
  refine X.rald 1483 i316_1482 rfl rfl (by decide) (by show 0 ≤ _ ∧ _ < ((s.1 : Nat) : Int); omega) (fun h1 => ?_)
  refine X.aload_n 1484 i316_1483 rfl rfl rfl ?_
  refine X.iload_n 1485 i316_1484 rfl rfl rfl ?_
  refine X.iconst 1486 i316_1485 rfl rfl (by decide) ?_
  refine X.iadd 1487 i316_1486 rfl rfl (by omega) ?_
  refine X.rald 1488 i316_1487 rfl rfl (by decide) (by show 0 ≤ _ ∧ _ < ((s.1 : Nat) : Int); omega) (fun h2 => ?_)
  refine X.callv 1491 [zi (z_ro (EE s) 0 (y + 1)), zi (z_ro (EE s) 0 (y + 2))] [] [(0, zr 4 40), (1, zi (z_ro (EE s) 0 (y + 1))), (2, zi (z_ro (EE s) 0 (y + 2)))] i316_1488 rfl (by decide) rfl rfl (by omega) rfl rfl (by decide) rfl t187 (Nat.le_of_ble_eq_true rfl) (Nat.le_of_ble_eq_true rfl) rfl ?_
  refine c187_1 (S := zS0) (m0 := m) (B := B) (z_ro (EE s) 0 (y + 1)) (z_ro (EE s) 0 (y + 2)) (by omega) (J.rf hJ) (by omega) (by omega) (by omega) (fun v3 hv3 hF6 => ?_)
  show X (EE s) d 316 1491 [(0, zr 99 0), (1, zr 4 40), (2, zr 4 44), (3, zi y)] [zl v3] m _
  refine X.aload_n 1492 i316_1491 rfl rfl rfl ?_
  refine X.aload_n 1493 i316_1492 rfl rfl rfl ?_
  refine X.iload_n 1494 i316_1493 rfl rfl rfl ?_
  refine X.iconst 1495 i316_1494 rfl rfl (by decide) ?_
  refine X.iadd 1496 i316_1495 rfl rfl (by omega) ?_
  refine X.rald 1497 i316_1496 rfl rfl (by decide) (by show 0 ≤ _ ∧ _ < ((s.1 : Nat) : Int); omega) (fun h7 => ?_)
  refine X.aload_n 1498 i316_1497 rfl rfl rfl ?_
  refine X.iload_n 1499 i316_1498 rfl rfl rfl ?_
  refine X.iconst 1500 i316_1499 rfl rfl (by decide) ?_
  refine X.iadd 1501 i316_1500 rfl rfl (by omega) ?_
  refine X.rald 1502 i316_1501 rfl rfl (by decide) (by show 0 ≤ _ ∧ _ < ((s.1 : Nat) : Int); omega) (fun h8 => ?_)
  refine X.callv 1505 [zi (z_ro (EE s) 0 (y + 1)), zi (z_ro (EE s) 0 (y + 2))] [zl v3] [(0, zr 4 44), (1, zi (z_ro (EE s) 0 (y + 1))), (2, zi (z_ro (EE s) 0 (y + 2)))] i316_1502 rfl (by decide) rfl rfl (by omega) rfl rfl (by decide) rfl t311 (Nat.le_of_ble_eq_true rfl) (Nat.le_of_ble_eq_true rfl) rfl ?_
  refine c311_1 (S := zS0) (m0 := m) (B := B) (z_ro (EE s) 0 (y + 1)) (z_ro (EE s) 0 (y + 2)) (by omega) (J.rf hJ) (by omega) (by omega) (by omega) (fun v9 hv9 hF12 => ?_)
  show X (EE s) d 316 1505 [(0, zr 99 0), (1, zr 4 40), (2, zr 4 44), (3, zi y)] [zl v9, zl v3] m _
  refine X.lcmp 1506 i316_1505 rfl rfl (fun z13 hz14 => ?_)
  refine X.ifeq 1674 1509 i316_1506 rfl rfl rfl (fun h15 => ?_) (fun h15 => ?_)
  · exact K _ (hJ.up (by omega)) (hR.up (by omega))
  · exact absurd (by have e9 := hF6.symm.trans ((an_best ⟨hk, hJ⟩ (by omega) hR).trans hF12); omega) h15
theorem lw42 {s : Nat × (Nat → Int32)} {m : zM} {B : Int} {d : Nat} {Q : Option zV → zM → Prop} (y : Int) (hd : 200 ≤ d) (hJ : JB B m) (hR : Rel3 B m m) (hZ : ZZ m) (hB : B + 220000 ≤ 700000000) (hy : 0 ≤ y ∧ y + 6 ≤ (s.1 : Int)) (hs : s.1 ≤ 6) (K : ∀ (m' : zM), JB (B + 220000) m' → Rel3 (B + 220000) m' m' → X (EE s) d 316 1674 [(0, zr 99 0), (1, zr 4 40), (2, zr 4 44), (3, zi y)] [] m' Q) : X (EE s) d 316 1511 [(0, zr 99 0), (1, zr 4 40), (2, zr 4 44), (3, zi y)] [] m Q := by
  refine X.mok (fun hk => ?_)
  refine X.aload_n 1512 i316_1511 rfl rfl rfl ?_
  refine X.aload_n 1513 i316_1512 rfl rfl rfl ?_
  refine X.iload_n 1514 i316_1513 rfl rfl rfl ?_
  refine X.iconst 1515 i316_1514 rfl rfl (by decide) ?_
  refine X.iadd 1516 i316_1515 rfl rfl (by omega) ?_
  refine X.rald 1517 i316_1516 rfl rfl (by decide) (by show 0 ≤ _ ∧ _ < ((s.1 : Nat) : Int); omega) (fun h1 => ?_)
  refine X.aload_n 1518 i316_1517 rfl rfl rfl ?_
  refine X.iload_n 1519 i316_1518 rfl rfl rfl ?_
  refine X.iconst 1520 i316_1519 rfl rfl (by decide) ?_
  refine X.iadd 1521 i316_1520 rfl rfl (by omega) ?_
  refine X.rald 1522 i316_1521 rfl rfl (by decide) (by show 0 ≤ _ ∧ _ < ((s.1 : Nat) : Int); omega) (fun h2 => ?_)
  refine X.callv 1525 [zi (z_ro (EE s) 0 (y + 1)), zi (z_ro (EE s) 0 (y + 2))] [] [(0, zr 4 40), (1, zi (z_ro (EE s) 0 (y + 1))), (2, zi (z_ro (EE s) 0 (y + 2)))] i316_1522 rfl (by decide) rfl rfl (by omega) rfl rfl (by decide) rfl t189 (Nat.le_of_ble_eq_true rfl) (Nat.le_of_ble_eq_true rfl) rfl ?_
  refine c189_1 (S := zS0) (m0 := m) (B := B) (z_ro (EE s) 0 (y + 1)) (z_ro (EE s) 0 (y + 2)) (by omega) (J.rf hJ) (by omega) (by omega) (by omega) (fun v3 hv3 hF6 => ?_)
  show X (EE s) d 316 1525 [(0, zr 99 0), (1, zr 4 40), (2, zr 4 44), (3, zi y)] [zl v3] m _
  refine X.aload_n 1526 i316_1525 rfl rfl rfl ?_
  refine X.aload_n 1527 i316_1526 rfl rfl rfl ?_
  refine X.iload_n 1528 i316_1527 rfl rfl rfl ?_
  refine X.iconst 1529 i316_1528 rfl rfl (by decide) ?_
  refine X.iadd 1530 i316_1529 rfl rfl (by omega) ?_
  refine X.rald 1531 i316_1530 rfl rfl (by decide) (by show 0 ≤ _ ∧ _ < ((s.1 : Nat) : Int); omega) (fun h7 => ?_)
  refine X.aload_n 1532 i316_1531 rfl rfl rfl ?_
  refine X.iload_n 1533 i316_1532 rfl rfl rfl ?_
  refine X.iconst 1534 i316_1533 rfl rfl (by decide) ?_
  refine X.iadd 1535 i316_1534 rfl rfl (by omega) ?_
  refine X.rald 1536 i316_1535 rfl rfl (by decide) (by show 0 ≤ _ ∧ _ < ((s.1 : Nat) : Int); omega) (fun h8 => ?_)
  refine X.callv 1539 [zi (z_ro (EE s) 0 (y + 1)), zi (z_ro (EE s) 0 (y + 2))] [zl v3] [(0, zr 4 44), (1, zi (z_ro (EE s) 0 (y + 1))), (2, zi (z_ro (EE s) 0 (y + 2)))] i316_1536 rfl (by decide) rfl rfl (by omega) rfl rfl (by decide) rfl t312 (Nat.le_of_ble_eq_true rfl) (Nat.le_of_ble_eq_true rfl) rfl ?_
  refine c312_1 (S := zS0) (m0 := m) (B := B) (z_ro (EE s) 0 (y + 1)) (z_ro (EE s) 0 (y + 2)) (by omega) (J.rf hJ) (by omega) (by omega) (by omega) (fun v9 hv9 hF12 => ?_)
  show X (EE s) d 316 1539 [(0, zr 99 0), (1, zr 4 40), (2, zr 4 44), (3, zi y)] [zl v9, zl v3] m _
  refine X.lcmp 1540 i316_1539 rfl rfl (fun z13 hz14 => ?_)
  refine X.ifeq 1674 1543 i316_1540 rfl rfl rfl (fun h15 => ?_) (fun h15 => ?_)
  · exact K _ (hJ.up (by omega)) (hR.up (by omega))
  · exact absurd (by have e9 := hF6.symm.trans ((an_between ⟨hk, hJ⟩ (by omega) hR).trans hF12); omega) h15
theorem lw43 {s : Nat × (Nat → Int32)} {m : zM} {B : Int} {d : Nat} {Q : Option zV → zM → Prop} (y : Int) (hd : 200 ≤ d) (hJ : JB B m) (hR : Rel3 B m m) (hZ : ZZ m) (hB : B + 220000 ≤ 700000000) (hy : 0 ≤ y ∧ y + 6 ≤ (s.1 : Int)) (hs : s.1 ≤ 6) (K : ∀ (m' : zM), JB (B + 220000) m' → Rel3 (B + 220000) m' m' → X (EE s) d 316 1674 [(0, zr 99 0), (1, zr 4 40), (2, zr 4 44), (3, zi y)] [] m' Q) : X (EE s) d 316 1545 [(0, zr 99 0), (1, zr 4 40), (2, zr 4 44), (3, zi y)] [] m Q := by
  refine X.mok (fun hk => ?_)
  refine X.aload_n 1546 i316_1545 rfl rfl rfl ?_
  refine X.aload_n 1547 i316_1546 rfl rfl rfl ?_
  refine X.iload_n 1548 i316_1547 rfl rfl rfl ?_
  refine X.iconst 1549 i316_1548 rfl rfl (by decide) ?_
  refine X.iadd 1550 i316_1549 rfl rfl (by omega) ?_
  refine X.rald 1551 i316_1550 rfl rfl (by decide) (by show 0 ≤ _ ∧ _ < ((s.1 : Nat) : Int); omega) (fun h1 => ?_)
  refine X.aload_n 1552 i316_1551 rfl rfl rfl ?_
  refine X.iload_n 1553 i316_1552 rfl rfl rfl ?_
  refine X.iconst 1554 i316_1553 rfl rfl (by decide) ?_
  refine X.iadd 1555 i316_1554 rfl rfl (by omega) ?_
  refine X.rald 1556 i316_1555 rfl rfl (by decide) (by show 0 ≤ _ ∧ _ < ((s.1 : Nat) : Int); omega) (fun h2 => ?_)
  refine X.callv 1559 [zi (z_ro (EE s) 0 (y + 1)), zi (z_ro (EE s) 0 (y + 2))] [] [(0, zr 4 40), (1, zi (z_ro (EE s) 0 (y + 1))), (2, zi (z_ro (EE s) 0 (y + 2)))] i316_1556 rfl (by decide) rfl rfl (by omega) rfl rfl (by decide) rfl t190 (Nat.le_of_ble_eq_true rfl) (Nat.le_of_ble_eq_true rfl) rfl ?_
  refine c190_1 (S := zS0) (m0 := m) (B := B) (z_ro (EE s) 0 (y + 1)) (z_ro (EE s) 0 (y + 2)) (by omega) (J.rf hJ) (by omega) (by omega) (by omega) (fun v3 hv3 hF6 => ?_)
  show X (EE s) d 316 1559 [(0, zr 99 0), (1, zr 4 40), (2, zr 4 44), (3, zi y)] [zi v3] m _
  refine X.aload_n 1560 i316_1559 rfl rfl rfl ?_
  refine X.aload_n 1561 i316_1560 rfl rfl rfl ?_
  refine X.iload_n 1562 i316_1561 rfl rfl rfl ?_
  refine X.iconst 1563 i316_1562 rfl rfl (by decide) ?_
  refine X.iadd 1564 i316_1563 rfl rfl (by omega) ?_
  refine X.rald 1565 i316_1564 rfl rfl (by decide) (by show 0 ≤ _ ∧ _ < ((s.1 : Nat) : Int); omega) (fun h7 => ?_)
  refine X.aload_n 1566 i316_1565 rfl rfl rfl ?_
  refine X.iload_n 1567 i316_1566 rfl rfl rfl ?_
  refine X.iconst 1568 i316_1567 rfl rfl (by decide) ?_
  refine X.iadd 1569 i316_1568 rfl rfl (by omega) ?_
  refine X.rald 1570 i316_1569 rfl rfl (by decide) (by show 0 ≤ _ ∧ _ < ((s.1 : Nat) : Int); omega) (fun h8 => ?_)
  refine X.callv 1573 [zi (z_ro (EE s) 0 (y + 1)), zi (z_ro (EE s) 0 (y + 2))] [zi v3] [(0, zr 4 44), (1, zi (z_ro (EE s) 0 (y + 1))), (2, zi (z_ro (EE s) 0 (y + 2)))] i316_1570 rfl (by decide) rfl rfl (by omega) rfl rfl (by decide) rfl t313 (Nat.le_of_ble_eq_true rfl) (Nat.le_of_ble_eq_true rfl) rfl ?_
  refine c313_1 (S := zS0) (m0 := m) (B := B) (z_ro (EE s) 0 (y + 1)) (z_ro (EE s) 0 (y + 2)) (by omega) (J.rf hJ) (by omega) (by omega) (by omega) (fun v9 hv9 hF12 => ?_)
  show X (EE s) d 316 1573 [(0, zr 99 0), (1, zr 4 40), (2, zr 4 44), (3, zi y)] [zi v9, zi v3] m _
  refine X.icmpeq 1674 1576 i316_1573 rfl rfl rfl (fun h13 => ?_) (fun h13 => ?_)
  · exact K _ (hJ.up (by omega)) (hR.up (by omega))
  · exact absurd (hF6.symm.trans ((an_log ⟨hk, hJ⟩ (by omega) hR).trans hF12)) h13
theorem lw44 {s : Nat × (Nat → Int32)} {m : zM} {B : Int} {d : Nat} {Q : Option zV → zM → Prop} (y : Int) (hd : 200 ≤ d) (hJ : JB B m) (hR : Rel3 B m m) (hZ : ZZ m) (hB : B + 220000 ≤ 700000000) (hy : 0 ≤ y ∧ y + 6 ≤ (s.1 : Int)) (hs : s.1 ≤ 6) (K : ∀ (m' : zM), JB (B + 220000) m' → Rel3 (B + 220000) m' m' → X (EE s) d 316 1674 [(0, zr 99 0), (1, zr 4 40), (2, zr 4 44), (3, zi y)] [] m' Q) : X (EE s) d 316 1578 [(0, zr 99 0), (1, zr 4 40), (2, zr 4 44), (3, zi y)] [] m Q := by
  refine X.mok (fun hk => ?_)
  refine X.aload_n 1579 i316_1578 rfl rfl rfl ?_
  refine X.aload_n 1580 i316_1579 rfl rfl rfl ?_
  refine X.iload_n 1581 i316_1580 rfl rfl rfl ?_
  refine X.iconst 1582 i316_1581 rfl rfl (by decide) ?_
  refine X.iadd 1583 i316_1582 rfl rfl (by omega) ?_
  refine X.rald 1584 i316_1583 rfl rfl (by decide) (by show 0 ≤ _ ∧ _ < ((s.1 : Nat) : Int); omega) (fun h1 => ?_)
  refine X.aload_n 1585 i316_1584 rfl rfl rfl ?_
  refine X.iload_n 1586 i316_1585 rfl rfl rfl ?_
  refine X.iconst 1587 i316_1586 rfl rfl (by decide) ?_
  refine X.iadd 1588 i316_1587 rfl rfl (by omega) ?_
  refine X.rald 1589 i316_1588 rfl rfl (by decide) (by show 0 ≤ _ ∧ _ < ((s.1 : Nat) : Int); omega) (fun h2 => ?_)
  refine X.callv 1592 [zi (z_ro (EE s) 0 (y + 1)), zi (z_ro (EE s) 0 (y + 2))] [] [(0, zr 4 40), (1, zi (z_ro (EE s) 0 (y + 1))), (2, zi (z_ro (EE s) 0 (y + 2)))] i316_1589 rfl (by decide) rfl rfl (by omega) rfl rfl (by decide) rfl t193 (Nat.le_of_ble_eq_true rfl) (Nat.le_of_ble_eq_true rfl) rfl ?_
  refine c193_1 (S := zS0) (m0 := m) (B := B) (z_ro (EE s) 0 (y + 1)) (z_ro (EE s) 0 (y + 2)) (by omega) (J.rf hJ) (by omega) (by omega) (by omega) (fun v3 hv3 hF6 => ?_)
  show X (EE s) d 316 1592 [(0, zr 99 0), (1, zr 4 40), (2, zr 4 44), (3, zi y)] [zi v3] m _
  refine X.aload_n 1593 i316_1592 rfl rfl rfl ?_
  refine X.aload_n 1594 i316_1593 rfl rfl rfl ?_
  refine X.iload_n 1595 i316_1594 rfl rfl rfl ?_
  refine X.iconst 1596 i316_1595 rfl rfl (by decide) ?_
  refine X.iadd 1597 i316_1596 rfl rfl (by omega) ?_
  refine X.rald 1598 i316_1597 rfl rfl (by decide) (by show 0 ≤ _ ∧ _ < ((s.1 : Nat) : Int); omega) (fun h7 => ?_)
  refine X.aload_n 1599 i316_1598 rfl rfl rfl ?_
  refine X.iload_n 1600 i316_1599 rfl rfl rfl ?_
  refine X.iconst 1601 i316_1600 rfl rfl (by decide) ?_
  refine X.iadd 1602 i316_1601 rfl rfl (by omega) ?_
  refine X.rald 1603 i316_1602 rfl rfl (by decide) (by show 0 ≤ _ ∧ _ < ((s.1 : Nat) : Int); omega) (fun h8 => ?_)
  refine X.callv 1606 [zi (z_ro (EE s) 0 (y + 1)), zi (z_ro (EE s) 0 (y + 2))] [zi v3] [(0, zr 4 44), (1, zi (z_ro (EE s) 0 (y + 1))), (2, zi (z_ro (EE s) 0 (y + 2)))] i316_1603 rfl (by decide) rfl rfl (by omega) rfl rfl (by decide) rfl t253 (Nat.le_of_ble_eq_true rfl) (Nat.le_of_ble_eq_true rfl) rfl ?_
  refine c253_1 (S := zS0) (m0 := m) (B := B) (z_ro (EE s) 0 (y + 1)) (z_ro (EE s) 0 (y + 2)) (by omega) (J.rf hJ) (by omega) (by omega) (by omega) (fun v9 hv9 hF12 => ?_)
  show X (EE s) d 316 1606 [(0, zr 99 0), (1, zr 4 40), (2, zr 4 44), (3, zi y)] [zi v9, zi v3] m _
  refine X.icmpeq 1674 1609 i316_1606 rfl rfl rfl (fun h13 => ?_) (fun h13 => ?_)
  · exact K _ (hJ.up (by omega)) (hR.up (by omega))
  · exact absurd (hF6.symm.trans ((an_holds ⟨hk, hJ⟩ (by omega) hR.1).trans hF12)) h13
theorem lw45 {s : Nat × (Nat → Int32)} {m : zM} {B : Int} {d : Nat} {Q : Option zV → zM → Prop} (y : Int) (hd : 200 ≤ d) (hJ : JB B m) (hR : Rel3 B m m) (hZ : ZZ m) (hB : B + 220000 ≤ 700000000) (hy : 0 ≤ y ∧ y + 6 ≤ (s.1 : Int)) (hs : s.1 ≤ 6) (K : ∀ (m' : zM), JB (B + 220000) m' → Rel3 (B + 220000) m' m' → X (EE s) d 316 1674 [(0, zr 99 0), (1, zr 4 40), (2, zr 4 44), (3, zi y)] [] m' Q) : X (EE s) d 316 1611 [(0, zr 99 0), (1, zr 4 40), (2, zr 4 44), (3, zi y)] [] m Q := by
  refine X.mok (fun hk => ?_)
  refine X.aload_n 1612 i316_1611 rfl rfl rfl ?_
  refine X.aload_n 1613 i316_1612 rfl rfl rfl ?_
  refine X.iload_n 1614 i316_1613 rfl rfl rfl ?_
  refine X.iconst 1615 i316_1614 rfl rfl (by decide) ?_
  refine X.iadd 1616 i316_1615 rfl rfl (by omega) ?_
  refine X.rald 1617 i316_1616 rfl rfl (by decide) (by show 0 ≤ _ ∧ _ < ((s.1 : Nat) : Int); omega) (fun h1 => ?_)
  refine X.ifeq 1624 1620 i316_1617 rfl rfl rfl (fun h2 => ?_) (fun h2 => ?_)
  · refine X.iconst 1625 i316_1624 rfl rfl (by decide) ?_
    refine X.callv 1628 [zi 0] [] [(0, zr 4 40), (1, zi 0)] i316_1625 rfl (by decide) rfl rfl (by omega) rfl rfl (by decide) rfl t195 (Nat.le_of_ble_eq_true rfl) (Nat.le_of_ble_eq_true rfl) rfl ?_
    refine c195_1 (S := zS0) (m0 := m) (B := B) 0 (by omega) (J.rf hJ) (by omega) (by omega) (fun h => h) (fun h => h) (fun h => h) (fun h => h) (fun h => h) (fun h => h) (fun h => h) (fun h => h) (fun h => h) (fun h => h) (fun h => h) (fun h => h) (fun h => h) (fun h => h) (fun h => h) (fun h => h) (fun h => h) (fun v3 m4 hv3 hF6 hJ5 => ?_)
    show X (EE s) d 316 1628 [(0, zr 99 0), (1, zr 4 40), (2, zr 4 44), (3, zi y)] [zi v3] m4 _
    refine X.aload_n 1629 i316_1628 rfl rfl rfl ?_
    refine X.aload_n 1630 i316_1629 rfl rfl rfl ?_
    refine X.iload_n 1631 i316_1630 rfl rfl rfl ?_
    refine X.iconst 1632 i316_1631 rfl rfl (by decide) ?_
    refine X.iadd 1633 i316_1632 rfl rfl (by omega) ?_
    refine X.rald 1634 i316_1633 rfl rfl (by decide) (by show 0 ≤ _ ∧ _ < ((s.1 : Nat) : Int); omega) (fun h7 => ?_)
    refine X.ifeq 1641 1637 i316_1634 rfl rfl rfl (fun h8 => ?_) (fun h8 => ?_)
    · refine X.iconst 1642 i316_1641 rfl rfl (by decide) ?_
      refine X.callv 1645 [zi 0] [zi v3] [(0, zr 4 44), (1, zi 0)] i316_1642 rfl (by decide) rfl rfl (by omega) rfl rfl (by decide) rfl t314 (Nat.le_of_ble_eq_true rfl) (Nat.le_of_ble_eq_true rfl) rfl ?_
      refine c314_1 (S := zS0) (m0 := m4) (B := B + 4) 0 (by omega) (J.rf hJ5.jb0) (by omega) (by omega) (fun h => h) (fun h => h) (fun h => h) (fun h => h) (fun h => h) (fun h => h) (fun h => h) (fun h => h) (fun h => h) (fun h => h) (fun h => h) (fun h => h) (fun h => h) (fun h => h) (fun h => h) (fun h => h) (fun v9 m10 hv9 hF12 hJ11 => ?_)
      show X (EE s) d 316 1645 [(0, zr 99 0), (1, zr 4 40), (2, zr 4 44), (3, zi y)] [zi v9, zi v3] m10 _
      refine X.icmpeq 1674 1648 i316_1645 rfl rfl rfl (fun h13 => ?_) (fun h13 => ?_)
      · exact K _ (hJ11.jb0.up (by omega)) (st3_image (by omega) hk hJ (by omega) hR hF6 hF12).2
      · exact absurd ((st3_image (by omega) hk hJ (by omega) hR hF6 hF12).1) h13
    · exfalso
      omega
  · refine X.iconst 1621 i316_1620 rfl rfl (by decide) ?_
    refine X.goto 1625 i316_1621 rfl rfl ?_
    refine X.callv 1628 [zi 1] [] [(0, zr 4 40), (1, zi 1)] i316_1625 rfl (by decide) rfl rfl (by omega) rfl rfl (by decide) rfl t195 (Nat.le_of_ble_eq_true rfl) (Nat.le_of_ble_eq_true rfl) rfl ?_
    refine c195_1 (S := zS0) (m0 := m) (B := B) 1 (by omega) (J.rf hJ) (by omega) (by omega) (fun h => h) (fun h => h) (fun h => h) (fun h => h) (fun h => h) (fun h => h) (fun h => h) (fun h => h) (fun h => h) (fun h => h) (fun h => h) (fun h => h) (fun h => h) (fun h => h) (fun h => h) (fun h => h) (fun h => h) (fun v14 m15 hv14 hF17 hJ16 => ?_)
    show X (EE s) d 316 1628 [(0, zr 99 0), (1, zr 4 40), (2, zr 4 44), (3, zi y)] [zi v14] m15 _
    refine X.aload_n 1629 i316_1628 rfl rfl rfl ?_
    refine X.aload_n 1630 i316_1629 rfl rfl rfl ?_
    refine X.iload_n 1631 i316_1630 rfl rfl rfl ?_
    refine X.iconst 1632 i316_1631 rfl rfl (by decide) ?_
    refine X.iadd 1633 i316_1632 rfl rfl (by omega) ?_
    refine X.rald 1634 i316_1633 rfl rfl (by decide) (by show 0 ≤ _ ∧ _ < ((s.1 : Nat) : Int); omega) (fun h18 => ?_)
    refine X.ifeq 1641 1637 i316_1634 rfl rfl rfl (fun h19 => ?_) (fun h19 => ?_)
    · exfalso
      omega
    · refine X.iconst 1638 i316_1637 rfl rfl (by decide) ?_
      refine X.goto 1642 i316_1638 rfl rfl ?_
      refine X.callv 1645 [zi 1] [zi v14] [(0, zr 4 44), (1, zi 1)] i316_1642 rfl (by decide) rfl rfl (by omega) rfl rfl (by decide) rfl t314 (Nat.le_of_ble_eq_true rfl) (Nat.le_of_ble_eq_true rfl) rfl ?_
      refine c314_1 (S := zS0) (m0 := m15) (B := B + 4) 1 (by omega) (J.rf hJ16.jb0) (by omega) (by omega) (fun h => h) (fun h => h) (fun h => h) (fun h => h) (fun h => h) (fun h => h) (fun h => h) (fun h => h) (fun h => h) (fun h => h) (fun h => h) (fun h => h) (fun h => h) (fun h => h) (fun h => h) (fun h => h) (fun v20 m21 hv20 hF23 hJ22 => ?_)
      show X (EE s) d 316 1645 [(0, zr 99 0), (1, zr 4 40), (2, zr 4 44), (3, zi y)] [zi v20, zi v14] m21 _
      refine X.icmpeq 1674 1648 i316_1645 rfl rfl rfl (fun h24 => ?_) (fun h24 => ?_)
      · exact K _ (hJ22.jb0.up (by omega)) (st3_image (by omega) hk hJ (by omega) hR hF17 hF23).2
      · exact absurd ((st3_image (by omega) hk hJ (by omega) hR hF17 hF23).1) h24
theorem lw46 {s : Nat × (Nat → Int32)} {m : zM} {B : Int} {d : Nat} {Q : Option zV → zM → Prop} (y : Int) (hd : 200 ≤ d) (hJ : JB B m) (hR : Rel3 B m m) (hZ : ZZ m) (hB : B + 220000 ≤ 700000000) (hy : 0 ≤ y ∧ y + 6 ≤ (s.1 : Int)) (hs : s.1 ≤ 6) (K : ∀ (m' : zM), JB (B + 220000) m' → Rel3 (B + 220000) m' m' → X (EE s) d 316 1674 [(0, zr 99 0), (1, zr 4 40), (2, zr 4 44), (3, zi y)] [] m' Q) : X (EE s) d 316 1650 [(0, zr 99 0), (1, zr 4 40), (2, zr 4 44), (3, zi y)] [] m Q := by
  refine X.mok (fun hk => ?_)
  refine X.aload_n 1651 i316_1650 rfl rfl rfl ?_
  refine X.aload_n 1652 i316_1651 rfl rfl rfl ?_
  refine X.iload_n 1653 i316_1652 rfl rfl rfl ?_
  refine X.iconst 1654 i316_1653 rfl rfl (by decide) ?_
  refine X.iadd 1655 i316_1654 rfl rfl (by omega) ?_
  refine X.rald 1656 i316_1655 rfl rfl (by decide) (by show 0 ≤ _ ∧ _ < ((s.1 : Nat) : Int); omega) (fun h1 => ?_)
  refine X.callv 1659 [zi (z_ro (EE s) 0 (y + 1))] [] [(0, zr 4 40), (1, zi (z_ro (EE s) 0 (y + 1)))] i316_1656 rfl (by decide) rfl rfl (by omega) rfl rfl (by decide) rfl t196 (Nat.le_of_ble_eq_true rfl) (Nat.le_of_ble_eq_true rfl) rfl ?_
  refine c196_1 (S := zS0) (m0 := m) (B := B) (z_ro (EE s) 0 (y + 1)) (by omega) (J.rf hJ) (by omega) (by omega) (fun v2 hv2 hF5 => ?_)
  show X (EE s) d 316 1659 [(0, zr 99 0), (1, zr 4 40), (2, zr 4 44), (3, zi y)] [zl v2] m _
  refine X.aload_n 1660 i316_1659 rfl rfl rfl ?_
  refine X.aload_n 1661 i316_1660 rfl rfl rfl ?_
  refine X.iload_n 1662 i316_1661 rfl rfl rfl ?_
  refine X.iconst 1663 i316_1662 rfl rfl (by decide) ?_
  refine X.iadd 1664 i316_1663 rfl rfl (by omega) ?_
  refine X.rald 1665 i316_1664 rfl rfl (by decide) (by show 0 ≤ _ ∧ _ < ((s.1 : Nat) : Int); omega) (fun h6 => ?_)
  refine X.callv 1668 [zi (z_ro (EE s) 0 (y + 1))] [zl v2] [(0, zr 4 44), (1, zi (z_ro (EE s) 0 (y + 1)))] i316_1665 rfl (by decide) rfl rfl (by omega) rfl rfl (by decide) rfl t315 (Nat.le_of_ble_eq_true rfl) (Nat.le_of_ble_eq_true rfl) rfl ?_
  refine c315_1 (S := zS0) (m0 := m) (B := B) (z_ro (EE s) 0 (y + 1)) (by omega) (J.rf hJ) (by omega) (by omega) (fun v7 hv7 hF10 => ?_)
  show X (EE s) d 316 1668 [(0, zr 99 0), (1, zr 4 40), (2, zr 4 44), (3, zi y)] [zl v7, zl v2] m _
  refine X.lcmp 1669 i316_1668 rfl rfl (fun z11 hz12 => ?_)
  refine X.ifeq 1674 1672 i316_1669 rfl rfl rfl (fun h13 => ?_) (fun h13 => ?_)
  · exact K _ (hJ.up (by omega)) (hR.up (by omega))
  · exact absurd (by have e9 := hF5.symm.trans ((an_look ⟨hk, hJ⟩ (by omega) hR).trans hF10); omega) h13
