section
variable {E : zE} {d j pc : Nat} {lv : List (Nat × zV)} {st : List zV} {m : zM} {Q : Option zV → zM → Prop} {q : Nat × Nat × Nat × Nat} {c : Value} {ks : Option (List Nat)}
theorem X.pop2 (pc' : Nat) {x : Int} (hi : z_I E j pc = some (.pop2, 1, q, c, ks)) (hc : z_cut ks lv = lv) (hp : pc + 1 = pc') (kk : X E d j pc' lv st m Q) : X E d j pc lv (zl x :: st) m Q :=
  X.num pc' hi hc hp rfl kk (fun h => ⟨z_tl h, fun _ => by
    show x_d2 1 (fun _ r => r) (fun _ _ r => r) (.long (Int64.ofInt x) :: st.map (z_v E.2.2.2)) _ = _
    simp only [x_d2, if_true]⟩)
theorem X.mok (kk : z_mok E.2.2.2 m → X E d j pc lv st m Q) : X E d j pc lv st m Q := fun h1 h2 h3 => kk h3 h1 h2 h3
end
abbrev zS0 : zS := (fun _ => False, fun _ => False, False, False)
theorem J.jb0 {m0 m : zM} {B : Int} (h : J zS0 m0 B m) : JB B m := h.1
theorem lw0 {s : Nat × (Nat → Int32)} {m : zM} {B : Int} {d : Nat} {Q : Option zV → zM → Prop} (y : Int) (hd : 200 ≤ d) (hJ : JB B m) (hR : Rel2 B m m) (hB : B + 220000 ≤ 1000000000) (hy : 0 ≤ y ∧ y + 6 ≤ (s.1 : Int)) (hs : s.1 ≤ 3072) (K : ∀ (m' : zM), JB (B + 220000) m' → Rel2 (B + 220000) m' m' → X (EE s) d 316 1655 [(0, zr 99 0), (1, zr 4 40), (2, zr 4 44), (3, zi y)] [] m' Q) : X (EE s) d 316 236 [(0, zr 99 0), (1, zr 4 40), (2, zr 4 44), (3, zi y)] [] m Q := by
  refine X.mok (fun hk => ?_)
  refine X.aload_n 237 i316_236 rfl rfl rfl ?_
  refine X.aload_n 238 i316_237 rfl rfl rfl ?_
  refine X.iload_n 239 i316_238 rfl rfl rfl ?_
  refine X.iconst 240 i316_239 rfl rfl (by decide) ?_
  refine X.iadd 241 i316_240 rfl rfl (by omega) ?_
  refine X.rald 242 i316_241 rfl rfl (by decide) (by show 0 ≤ _ ∧ _ < ((s.1 : Nat) : Int); omega) (fun h1 => ?_)
  refine X.aload_n 243 i316_242 rfl rfl rfl ?_
  refine X.iload_n 244 i316_243 rfl rfl rfl ?_
  refine X.iconst 245 i316_244 rfl rfl (by decide) ?_
  refine X.iadd 246 i316_245 rfl rfl (by omega) ?_
  refine X.rald 247 i316_246 rfl rfl (by decide) (by show 0 ≤ _ ∧ _ < ((s.1 : Nat) : Int); omega) (fun h2 => ?_)
  refine X.callv 250 [zi (z_ro (EE s) 0 (y + 1)), zi (z_ro (EE s) 0 (y + 2))] [] [(0, zr 4 40), (1, zi (z_ro (EE s) 0 (y + 1))), (2, zi (z_ro (EE s) 0 (y + 2)))] i316_247 rfl (by decide) rfl rfl (by omega) rfl rfl (by decide) rfl t16 (Nat.le_of_ble_eq_true rfl) (Nat.le_of_ble_eq_true rfl) rfl ?_
  refine c16_1 (S := zS0) (m0 := m) (B := B) (z_ro (EE s) 0 (y + 1)) (z_ro (EE s) 0 (y + 2)) (by omega) (J.rf hJ) (by omega) (by omega) (by omega) (fun h => h) (fun h => h) (fun h => h) (fun v3 m4 hv3 hF6 hJ5 => ?_)
  show X (EE s) d 316 250 [(0, zr 99 0), (1, zr 4 40), (2, zr 4 44), (3, zi y)] [zi v3] m4 _
  refine X.pop 251 i316_250 rfl rfl rfl ?_
  refine X.aload_n 252 i316_251 rfl rfl rfl ?_
  refine X.aload_n 253 i316_252 rfl rfl rfl ?_
  refine X.iload_n 254 i316_253 rfl rfl rfl ?_
  refine X.iconst 255 i316_254 rfl rfl (by decide) ?_
  refine X.iadd 256 i316_255 rfl rfl (by omega) ?_
  refine X.rald 257 i316_256 rfl rfl (by decide) (by show 0 ≤ _ ∧ _ < ((s.1 : Nat) : Int); omega) (fun h7 => ?_)
  refine X.aload_n 258 i316_257 rfl rfl rfl ?_
  refine X.iload_n 259 i316_258 rfl rfl rfl ?_
  refine X.iconst 260 i316_259 rfl rfl (by decide) ?_
  refine X.iadd 261 i316_260 rfl rfl (by omega) ?_
  refine X.rald 262 i316_261 rfl rfl (by decide) (by show 0 ≤ _ ∧ _ < ((s.1 : Nat) : Int); omega) (fun h8 => ?_)
  refine X.callv 265 [zi (z_ro (EE s) 0 (y + 1)), zi (z_ro (EE s) 0 (y + 2))] [] [(0, zr 4 44), (1, zi (z_ro (EE s) 0 (y + 1))), (2, zi (z_ro (EE s) 0 (y + 2)))] i316_262 rfl (by decide) rfl rfl (by omega) rfl rfl (by decide) rfl t202 (Nat.le_of_ble_eq_true rfl) (Nat.le_of_ble_eq_true rfl) rfl ?_
  refine c202_1 (S := zS0) (m0 := m4) (B := B) (z_ro (EE s) 0 (y + 1)) (z_ro (EE s) 0 (y + 2)) (by omega) (J.rf hJ5.jb0) (by omega) (by omega) (by omega) (fun h => h) (fun h => h) (fun h => h) (fun v9 m10 hv9 hF12 hJ11 => ?_)
  show X (EE s) d 316 265 [(0, zr 99 0), (1, zr 4 40), (2, zr 4 44), (3, zi y)] [zi v9] m10 _
  refine X.pop 266 i316_265 rfl rfl rfl ?_
  refine X.goto 1655 i316_266 rfl rfl ?_
  exact K _ (hJ11.jb0.up (by omega)) (st_phases (by omega) (by omega) hk hJ (by omega) hR hF6 hF12).2
theorem lw1 {s : Nat × (Nat → Int32)} {m : zM} {B : Int} {d : Nat} {Q : Option zV → zM → Prop} (y : Int) (hd : 200 ≤ d) (hJ : JB B m) (hR : Rel2 B m m) (hB : B + 220000 ≤ 1000000000) (hy : 0 ≤ y ∧ y + 6 ≤ (s.1 : Int)) (hs : s.1 ≤ 3072) (K : ∀ (m' : zM), JB (B + 220000) m' → Rel2 (B + 220000) m' m' → X (EE s) d 316 1655 [(0, zr 99 0), (1, zr 4 40), (2, zr 4 44), (3, zi y)] [] m' Q) : X (EE s) d 316 269 [(0, zr 99 0), (1, zr 4 40), (2, zr 4 44), (3, zi y)] [] m Q := by
  refine X.mok (fun hk => ?_)
  refine X.aload_n 270 i316_269 rfl rfl rfl ?_
  refine X.aload_n 271 i316_270 rfl rfl rfl ?_
  refine X.iload_n 272 i316_271 rfl rfl rfl ?_
  refine X.iconst 273 i316_272 rfl rfl (by decide) ?_
  refine X.iadd 274 i316_273 rfl rfl (by omega) ?_
  refine X.rald 275 i316_274 rfl rfl (by decide) (by show 0 ≤ _ ∧ _ < ((s.1 : Nat) : Int); omega) (fun h1 => ?_)
  refine X.aload_n 276 i316_275 rfl rfl rfl ?_
  refine X.iload_n 277 i316_276 rfl rfl rfl ?_
  refine X.iconst 278 i316_277 rfl rfl (by decide) ?_
  refine X.iadd 279 i316_278 rfl rfl (by omega) ?_
  refine X.rald 280 i316_279 rfl rfl (by decide) (by show 0 ≤ _ ∧ _ < ((s.1 : Nat) : Int); omega) (fun h2 => ?_)
  refine X.callv 283 [zi (z_ro (EE s) 0 (y + 1)), zi (z_ro (EE s) 0 (y + 2))] [] [(0, zr 4 40), (1, zi (z_ro (EE s) 0 (y + 1))), (2, zi (z_ro (EE s) 0 (y + 2)))] i316_280 rfl (by decide) rfl rfl (by omega) rfl rfl (by decide) rfl t19 (Nat.le_of_ble_eq_true rfl) (Nat.le_of_ble_eq_true rfl) rfl ?_
  refine c19_1 (S := zS0) (m0 := m) (B := B) (z_ro (EE s) 0 (y + 1)) (z_ro (EE s) 0 (y + 2)) (by omega) (J.rf hJ) (by omega) (by omega) (by omega) (fun h => h) (fun h => h) (fun h => h) (fun h => h) (fun h => h) (fun h => h) (fun h => h) (fun h => h) (fun h => h) (fun h => h) (fun v3 m4 hv3 hF6 hJ5 => ?_)
  show X (EE s) d 316 283 [(0, zr 99 0), (1, zr 4 40), (2, zr 4 44), (3, zi y)] [zi v3] m4 _
  refine X.pop 284 i316_283 rfl rfl rfl ?_
  refine X.aload_n 285 i316_284 rfl rfl rfl ?_
  refine X.aload_n 286 i316_285 rfl rfl rfl ?_
  refine X.iload_n 287 i316_286 rfl rfl rfl ?_
  refine X.iconst 288 i316_287 rfl rfl (by decide) ?_
  refine X.iadd 289 i316_288 rfl rfl (by omega) ?_
  refine X.rald 290 i316_289 rfl rfl (by decide) (by show 0 ≤ _ ∧ _ < ((s.1 : Nat) : Int); omega) (fun h7 => ?_)
  refine X.aload_n 291 i316_290 rfl rfl rfl ?_
  refine X.iload_n 292 i316_291 rfl rfl rfl ?_
  refine X.iconst 293 i316_292 rfl rfl (by decide) ?_
  refine X.iadd 294 i316_293 rfl rfl (by omega) ?_
  refine X.rald 295 i316_294 rfl rfl (by decide) (by show 0 ≤ _ ∧ _ < ((s.1 : Nat) : Int); omega) (fun h8 => ?_)
  refine X.callv 298 [zi (z_ro (EE s) 0 (y + 1)), zi (z_ro (EE s) 0 (y + 2))] [] [(0, zr 4 44), (1, zi (z_ro (EE s) 0 (y + 1))), (2, zi (z_ro (EE s) 0 (y + 2)))] i316_295 rfl (by decide) rfl rfl (by omega) rfl rfl (by decide) rfl t205 (Nat.le_of_ble_eq_true rfl) (Nat.le_of_ble_eq_true rfl) rfl ?_
  refine c205_1 (S := zS0) (m0 := m4) (B := B + 7208) (z_ro (EE s) 0 (y + 1)) (z_ro (EE s) 0 (y + 2)) (by omega) (J.rf hJ5.jb0) (by omega) (by omega) (by omega) (fun h => h) (fun h => h) (fun h => h) (fun h => h) (fun h => h) (fun h => h) (fun h => h) (fun h => h) (fun h => h) (fun h => h) (fun v9 m10 hv9 hF12 hJ11 => ?_)
  show X (EE s) d 316 298 [(0, zr 99 0), (1, zr 4 40), (2, zr 4 44), (3, zi y)] [zi v9] m10 _
  refine X.pop 299 i316_298 rfl rfl rfl ?_
  refine X.goto 1655 i316_299 rfl rfl ?_
  exact K _ (hJ11.jb0.up (by omega)) (st_sample (by omega) (by omega) hk hJ (by omega) hR hF6 hF12).2
theorem lw2 {s : Nat × (Nat → Int32)} {m : zM} {B : Int} {d : Nat} {Q : Option zV → zM → Prop} (y : Int) (hd : 200 ≤ d) (hJ : JB B m) (hR : Rel2 B m m) (hB : B + 220000 ≤ 1000000000) (hy : 0 ≤ y ∧ y + 6 ≤ (s.1 : Int)) (hs : s.1 ≤ 3072) (K : ∀ (m' : zM), JB (B + 220000) m' → Rel2 (B + 220000) m' m' → X (EE s) d 316 1655 [(0, zr 99 0), (1, zr 4 40), (2, zr 4 44), (3, zi y)] [] m' Q) : X (EE s) d 316 302 [(0, zr 99 0), (1, zr 4 40), (2, zr 4 44), (3, zi y)] [] m Q := by
  refine X.mok (fun hk => ?_)
  refine X.aload_n 303 i316_302 rfl rfl rfl ?_
  refine X.aload_n 304 i316_303 rfl rfl rfl ?_
  refine X.iload_n 305 i316_304 rfl rfl rfl ?_
  refine X.iconst 306 i316_305 rfl rfl (by decide) ?_
  refine X.iadd 307 i316_306 rfl rfl (by omega) ?_
  refine X.rald 308 i316_307 rfl rfl (by decide) (by show 0 ≤ _ ∧ _ < ((s.1 : Nat) : Int); omega) (fun h1 => ?_)
  refine X.callv 311 [zi (z_ro (EE s) 0 (y + 1))] [] [(0, zr 4 40), (1, zi (z_ro (EE s) 0 (y + 1)))] i316_308 rfl (by decide) rfl rfl (by omega) rfl rfl (by decide) rfl t69 (Nat.le_of_ble_eq_true rfl) (Nat.le_of_ble_eq_true rfl) rfl ?_
  refine c69_1 (S := zS0) (m0 := m) (B := B) (z_ro (EE s) 0 (y + 1)) (by omega) (J.rf hJ) (by omega) (by omega) (fun h => h) (fun h => h) (fun h => h) (fun h => h) (fun h => h) (fun h => h) (fun h => h) (fun h => h) (fun h => h) (fun v2 m3 hv2 hF5 hJ4 => ?_)
  show X (EE s) d 316 311 [(0, zr 99 0), (1, zr 4 40), (2, zr 4 44), (3, zi y)] [zl v2] m3 _
  refine X.pop2 312 i316_311 rfl rfl ?_
  refine X.aload_n 313 i316_312 rfl rfl rfl ?_
  refine X.aload_n 314 i316_313 rfl rfl rfl ?_
  refine X.iload_n 315 i316_314 rfl rfl rfl ?_
  refine X.iconst 316 i316_315 rfl rfl (by decide) ?_
  refine X.iadd 317 i316_316 rfl rfl (by omega) ?_
  refine X.rald 318 i316_317 rfl rfl (by decide) (by show 0 ≤ _ ∧ _ < ((s.1 : Nat) : Int); omega) (fun h6 => ?_)
  refine X.callv 321 [zi (z_ro (EE s) 0 (y + 1))] [] [(0, zr 4 44), (1, zi (z_ro (EE s) 0 (y + 1)))] i316_318 rfl (by decide) rfl rfl (by omega) rfl rfl (by decide) rfl t279 (Nat.le_of_ble_eq_true rfl) (Nat.le_of_ble_eq_true rfl) rfl ?_
  refine c279_1 (S := zS0) (m0 := m3) (B := B + 7208) (z_ro (EE s) 0 (y + 1)) (by omega) (J.rf hJ4.jb0) (by omega) (by omega) (fun h => h) (fun h => h) (fun h => h) (fun h => h) (fun h => h) (fun h => h) (fun h => h) (fun h => h) (fun h => h) (fun v7 m8 hv7 hF10 hJ9 => ?_)
  show X (EE s) d 316 321 [(0, zr 99 0), (1, zr 4 40), (2, zr 4 44), (3, zi y)] [zl v7] m8 _
  refine X.pop2 322 i316_321 rfl rfl ?_
  refine X.goto 1655 i316_322 rfl rfl ?_
  exact K _ (hJ9.jb0.up (by omega)) (st_again (by omega) hk hJ (by omega) hR hF5 hF10)
theorem lw3 {s : Nat × (Nat → Int32)} {m : zM} {B : Int} {d : Nat} {Q : Option zV → zM → Prop} (y : Int) (hd : 200 ≤ d) (hJ : JB B m) (hR : Rel2 B m m) (hB : B + 220000 ≤ 1000000000) (hy : 0 ≤ y ∧ y + 6 ≤ (s.1 : Int)) (hs : s.1 ≤ 3072) (K : ∀ (m' : zM), JB (B + 220000) m' → Rel2 (B + 220000) m' m' → X (EE s) d 316 1655 [(0, zr 99 0), (1, zr 4 40), (2, zr 4 44), (3, zi y)] [] m' Q) : X (EE s) d 316 325 [(0, zr 99 0), (1, zr 4 40), (2, zr 4 44), (3, zi y)] [] m Q := by
  refine X.mok (fun hk => ?_)
  refine X.aload_n 326 i316_325 rfl rfl rfl ?_
  refine X.aload_n 327 i316_326 rfl rfl rfl ?_
  refine X.iload_n 328 i316_327 rfl rfl rfl ?_
  refine X.iconst 329 i316_328 rfl rfl (by decide) ?_
  refine X.iadd 330 i316_329 rfl rfl (by omega) ?_
  refine X.rald 331 i316_330 rfl rfl (by decide) (by show 0 ≤ _ ∧ _ < ((s.1 : Nat) : Int); omega) (fun h1 => ?_)
  refine X.aload_n 332 i316_331 rfl rfl rfl ?_
  refine X.iload_n 333 i316_332 rfl rfl rfl ?_
  refine X.iconst 334 i316_333 rfl rfl (by decide) ?_
  refine X.iadd 335 i316_334 rfl rfl (by omega) ?_
  refine X.rald 336 i316_335 rfl rfl (by decide) (by show 0 ≤ _ ∧ _ < ((s.1 : Nat) : Int); omega) (fun h2 => ?_)
  refine X.callv 339 [zi (z_ro (EE s) 0 (y + 1)), zi (z_ro (EE s) 0 (y + 2))] [] [(0, zr 4 40), (1, zi (z_ro (EE s) 0 (y + 1))), (2, zi (z_ro (EE s) 0 (y + 2)))] i316_336 rfl (by decide) rfl rfl (by omega) rfl rfl (by decide) rfl t73 (Nat.le_of_ble_eq_true rfl) (Nat.le_of_ble_eq_true rfl) rfl ?_
  refine c73_1 (S := zS0) (m0 := m) (B := B) (z_ro (EE s) 0 (y + 1)) (z_ro (EE s) 0 (y + 2)) (by omega) (J.rf hJ) (by omega) (by omega) (by omega) (fun h => h) (fun h => h) (fun h => h) (fun h => h) (fun v3 m4 hv3 hF6 hJ5 => ?_)
  show X (EE s) d 316 339 [(0, zr 99 0), (1, zr 4 40), (2, zr 4 44), (3, zi y)] [zi v3] m4 _
  refine X.pop 340 i316_339 rfl rfl rfl ?_
  refine X.aload_n 341 i316_340 rfl rfl rfl ?_
  refine X.aload_n 342 i316_341 rfl rfl rfl ?_
  refine X.iload_n 343 i316_342 rfl rfl rfl ?_
  refine X.iconst 344 i316_343 rfl rfl (by decide) ?_
  refine X.iadd 345 i316_344 rfl rfl (by omega) ?_
  refine X.rald 346 i316_345 rfl rfl (by decide) (by show 0 ≤ _ ∧ _ < ((s.1 : Nat) : Int); omega) (fun h7 => ?_)
  refine X.aload_n 347 i316_346 rfl rfl rfl ?_
  refine X.iload_n 348 i316_347 rfl rfl rfl ?_
  refine X.iconst 349 i316_348 rfl rfl (by decide) ?_
  refine X.iadd 350 i316_349 rfl rfl (by omega) ?_
  refine X.rald 351 i316_350 rfl rfl (by decide) (by show 0 ≤ _ ∧ _ < ((s.1 : Nat) : Int); omega) (fun h8 => ?_)
  refine X.callv 354 [zi (z_ro (EE s) 0 (y + 1)), zi (z_ro (EE s) 0 (y + 2))] [] [(0, zr 4 44), (1, zi (z_ro (EE s) 0 (y + 1))), (2, zi (z_ro (EE s) 0 (y + 2)))] i316_351 rfl (by decide) rfl rfl (by omega) rfl rfl (by decide) rfl t280 (Nat.le_of_ble_eq_true rfl) (Nat.le_of_ble_eq_true rfl) rfl ?_
  refine c280_1 (S := zS0) (m0 := m4) (B := B + 1) (z_ro (EE s) 0 (y + 1)) (z_ro (EE s) 0 (y + 2)) (by omega) (J.rf hJ5.jb0) (by omega) (by omega) (by omega) (fun h => h) (fun h => h) (fun h => h) (fun h => h) (fun h => h) (fun v9 m10 hv9 hF12 hJ11 => ?_)
  show X (EE s) d 316 354 [(0, zr 99 0), (1, zr 4 40), (2, zr 4 44), (3, zi y)] [zi v9] m10 _
  refine X.pop 355 i316_354 rfl rfl rfl ?_
  refine X.goto 1655 i316_355 rfl rfl ?_
  exact K _ (hJ11.jb0.up (by omega)) (st_set (by omega) (by omega) hk hJ (by omega) hR hF6 hF12)
theorem lw4 {s : Nat × (Nat → Int32)} {m : zM} {B : Int} {d : Nat} {Q : Option zV → zM → Prop} (y : Int) (hd : 200 ≤ d) (hJ : JB B m) (hR : Rel2 B m m) (hB : B + 220000 ≤ 1000000000) (hy : 0 ≤ y ∧ y + 6 ≤ (s.1 : Int)) (hs : s.1 ≤ 3072) (K : ∀ (m' : zM), JB (B + 220000) m' → Rel2 (B + 220000) m' m' → X (EE s) d 316 1655 [(0, zr 99 0), (1, zr 4 40), (2, zr 4 44), (3, zi y)] [] m' Q) : X (EE s) d 316 358 [(0, zr 99 0), (1, zr 4 40), (2, zr 4 44), (3, zi y)] [] m Q := by
  refine X.mok (fun hk => ?_)
  refine X.aload_n 359 i316_358 rfl rfl rfl ?_
  refine X.aload_n 360 i316_359 rfl rfl rfl ?_
  refine X.iload_n 361 i316_360 rfl rfl rfl ?_
  refine X.iconst 362 i316_361 rfl rfl (by decide) ?_
  refine X.iadd 363 i316_362 rfl rfl (by omega) ?_
  refine X.rald 364 i316_363 rfl rfl (by decide) (by show 0 ≤ _ ∧ _ < ((s.1 : Nat) : Int); omega) (fun h1 => ?_)
  refine X.aload_n 365 i316_364 rfl rfl rfl ?_
  refine X.iload_n 366 i316_365 rfl rfl rfl ?_
  refine X.iconst 367 i316_366 rfl rfl (by decide) ?_
  refine X.iadd 368 i316_367 rfl rfl (by omega) ?_
  refine X.rald 369 i316_368 rfl rfl (by decide) (by show 0 ≤ _ ∧ _ < ((s.1 : Nat) : Int); omega) (fun h2 => ?_)
  refine X.aload_n 370 i316_369 rfl rfl rfl ?_
  refine X.iload_n 371 i316_370 rfl rfl rfl ?_
  refine X.iconst 372 i316_371 rfl rfl (by decide) ?_
  refine X.iadd 373 i316_372 rfl rfl (by omega) ?_
  refine X.rald 374 i316_373 rfl rfl (by decide) (by show 0 ≤ _ ∧ _ < ((s.1 : Nat) : Int); omega) (fun h3 => ?_)
  refine X.callv 377 [zi (z_ro (EE s) 0 (y + 1)), zi (z_ro (EE s) 0 (y + 2)), zi (z_ro (EE s) 0 (y + 3))] [] [(0, zr 4 40), (1, zi (z_ro (EE s) 0 (y + 1))), (2, zi (z_ro (EE s) 0 (y + 2))), (3, zi (z_ro (EE s) 0 (y + 3)))] i316_374 rfl (by decide) rfl rfl (by omega) rfl rfl (by decide) rfl t78 (Nat.le_of_ble_eq_true rfl) (Nat.le_of_ble_eq_true rfl) rfl ?_
  refine c78_1 (S := zS0) (m0 := m) (B := B) (z_ro (EE s) 0 (y + 1)) (z_ro (EE s) 0 (y + 2)) (z_ro (EE s) 0 (y + 3)) (by omega) (J.rf hJ) (by omega) (by omega) (by omega) (by omega) (fun h => h) (fun h => h) (fun h => h) (fun v4 m5 hv4 hF7 hJ6 => ?_)
  show X (EE s) d 316 377 [(0, zr 99 0), (1, zr 4 40), (2, zr 4 44), (3, zi y)] [zi v4] m5 _
  refine X.pop 378 i316_377 rfl rfl rfl ?_
  refine X.aload_n 379 i316_378 rfl rfl rfl ?_
  refine X.aload_n 380 i316_379 rfl rfl rfl ?_
  refine X.iload_n 381 i316_380 rfl rfl rfl ?_
  refine X.iconst 382 i316_381 rfl rfl (by decide) ?_
  refine X.iadd 383 i316_382 rfl rfl (by omega) ?_
  refine X.rald 384 i316_383 rfl rfl (by decide) (by show 0 ≤ _ ∧ _ < ((s.1 : Nat) : Int); omega) (fun h8 => ?_)
  refine X.aload_n 385 i316_384 rfl rfl rfl ?_
  refine X.iload_n 386 i316_385 rfl rfl rfl ?_
  refine X.iconst 387 i316_386 rfl rfl (by decide) ?_
  refine X.iadd 388 i316_387 rfl rfl (by omega) ?_
  refine X.rald 389 i316_388 rfl rfl (by decide) (by show 0 ≤ _ ∧ _ < ((s.1 : Nat) : Int); omega) (fun h9 => ?_)
  refine X.aload_n 390 i316_389 rfl rfl rfl ?_
  refine X.iload_n 391 i316_390 rfl rfl rfl ?_
  refine X.iconst 392 i316_391 rfl rfl (by decide) ?_
  refine X.iadd 393 i316_392 rfl rfl (by omega) ?_
  refine X.rald 394 i316_393 rfl rfl (by decide) (by show 0 ≤ _ ∧ _ < ((s.1 : Nat) : Int); omega) (fun h10 => ?_)
  refine X.callv 397 [zi (z_ro (EE s) 0 (y + 1)), zi (z_ro (EE s) 0 (y + 2)), zi (z_ro (EE s) 0 (y + 3))] [] [(0, zr 4 44), (1, zi (z_ro (EE s) 0 (y + 1))), (2, zi (z_ro (EE s) 0 (y + 2))), (3, zi (z_ro (EE s) 0 (y + 3)))] i316_394 rfl (by decide) rfl rfl (by omega) rfl rfl (by decide) rfl t240 (Nat.le_of_ble_eq_true rfl) (Nat.le_of_ble_eq_true rfl) rfl ?_
  refine c240_1 (S := zS0) (m0 := m5) (B := B) (z_ro (EE s) 0 (y + 1)) (z_ro (EE s) 0 (y + 2)) (z_ro (EE s) 0 (y + 3)) (by omega) (J.rf hJ6.jb0) (by omega) (by omega) (by omega) (by omega) (fun h => h) (fun h => h) (fun h => h) (fun v11 m12 hv11 hF14 hJ13 => ?_)
  show X (EE s) d 316 397 [(0, zr 99 0), (1, zr 4 40), (2, zr 4 44), (3, zi y)] [zi v11] m12 _
  refine X.pop 398 i316_397 rfl rfl rfl ?_
  refine X.goto 1655 i316_398 rfl rfl ?_
  exact K _ (hJ13.jb0.up (by omega)) (st_table (by omega) (by omega) (by omega) hk hJ (by omega) hR hF7 hF14).2
theorem lw5 {s : Nat × (Nat → Int32)} {m : zM} {B : Int} {d : Nat} {Q : Option zV → zM → Prop} (y : Int) (hd : 200 ≤ d) (hJ : JB B m) (hR : Rel2 B m m) (hB : B + 220000 ≤ 1000000000) (hy : 0 ≤ y ∧ y + 6 ≤ (s.1 : Int)) (hs : s.1 ≤ 3072) (K : ∀ (m' : zM), JB (B + 220000) m' → Rel2 (B + 220000) m' m' → X (EE s) d 316 1655 [(0, zr 99 0), (1, zr 4 40), (2, zr 4 44), (3, zi y)] [] m' Q) : X (EE s) d 316 401 [(0, zr 99 0), (1, zr 4 40), (2, zr 4 44), (3, zi y)] [] m Q := by
  refine X.mok (fun hk => ?_)
  refine X.aload_n 402 i316_401 rfl rfl rfl ?_
  refine X.aload_n 403 i316_402 rfl rfl rfl ?_
  refine X.iload_n 404 i316_403 rfl rfl rfl ?_
  refine X.iconst 405 i316_404 rfl rfl (by decide) ?_
  refine X.iadd 406 i316_405 rfl rfl (by omega) ?_
  refine X.rald 407 i316_406 rfl rfl (by decide) (by show 0 ≤ _ ∧ _ < ((s.1 : Nat) : Int); omega) (fun h1 => ?_)
  refine X.callv 410 [zi (z_ro (EE s) 0 (y + 1))] [] [(0, zr 4 40), (1, zi (z_ro (EE s) 0 (y + 1)))] i316_407 rfl (by decide) rfl rfl (by omega) rfl rfl (by decide) rfl t83 (Nat.le_of_ble_eq_true rfl) (Nat.le_of_ble_eq_true rfl) rfl ?_
  refine c83_1 (S := zS0) (m0 := m) (B := B) (z_ro (EE s) 0 (y + 1)) (by omega) (J.rf hJ) (by omega) (by omega) (fun h => h) (fun h => h) (fun h => h) (fun v2 m3 hv2 hF5 hJ4 => ?_)
  show X (EE s) d 316 410 [(0, zr 99 0), (1, zr 4 40), (2, zr 4 44), (3, zi y)] [zi v2] m3 _
  refine X.pop 411 i316_410 rfl rfl rfl ?_
  refine X.aload_n 412 i316_411 rfl rfl rfl ?_
  refine X.aload_n 413 i316_412 rfl rfl rfl ?_
  refine X.iload_n 414 i316_413 rfl rfl rfl ?_
  refine X.iconst 415 i316_414 rfl rfl (by decide) ?_
  refine X.iadd 416 i316_415 rfl rfl (by omega) ?_
  refine X.rald 417 i316_416 rfl rfl (by decide) (by show 0 ≤ _ ∧ _ < ((s.1 : Nat) : Int); omega) (fun h6 => ?_)
  refine X.callv 420 [zi (z_ro (EE s) 0 (y + 1))] [] [(0, zr 4 44), (1, zi (z_ro (EE s) 0 (y + 1)))] i316_417 rfl (by decide) rfl rfl (by omega) rfl rfl (by decide) rfl t244 (Nat.le_of_ble_eq_true rfl) (Nat.le_of_ble_eq_true rfl) rfl ?_
  refine c244_1 (S := zS0) (m0 := m3) (B := B) (z_ro (EE s) 0 (y + 1)) (by omega) (J.rf hJ4.jb0) (by omega) (by omega) (fun h => h) (fun h => h) (fun h => h) (fun v7 m8 hv7 hF10 hJ9 => ?_)
  show X (EE s) d 316 420 [(0, zr 99 0), (1, zr 4 40), (2, zr 4 44), (3, zi y)] [zi v7] m8 _
  refine X.pop 421 i316_420 rfl rfl rfl ?_
  refine X.goto 1655 i316_421 rfl rfl ?_
  exact K _ (hJ9.jb0.up (by omega)) (st_wipe (by omega) hk hJ (by omega) hR hF5 hF10).2
theorem lw6 {s : Nat × (Nat → Int32)} {m : zM} {B : Int} {d : Nat} {Q : Option zV → zM → Prop} (y : Int) (hd : 200 ≤ d) (hJ : JB B m) (hR : Rel2 B m m) (hB : B + 220000 ≤ 1000000000) (hy : 0 ≤ y ∧ y + 6 ≤ (s.1 : Int)) (hs : s.1 ≤ 3072) (K : ∀ (m' : zM), JB (B + 220000) m' → Rel2 (B + 220000) m' m' → X (EE s) d 316 1655 [(0, zr 99 0), (1, zr 4 40), (2, zr 4 44), (3, zi y)] [] m' Q) : X (EE s) d 316 424 [(0, zr 99 0), (1, zr 4 40), (2, zr 4 44), (3, zi y)] [] m Q := by
  refine X.mok (fun hk => ?_)
  refine X.aload_n 425 i316_424 rfl rfl rfl ?_
  refine X.aload_n 426 i316_425 rfl rfl rfl ?_
  refine X.iload_n 427 i316_426 rfl rfl rfl ?_
  refine X.iconst 428 i316_427 rfl rfl (by decide) ?_
  refine X.iadd 429 i316_428 rfl rfl (by omega) ?_
  refine X.rald 430 i316_429 rfl rfl (by decide) (by show 0 ≤ _ ∧ _ < ((s.1 : Nat) : Int); omega) (fun h1 => ?_)
  refine X.aload_n 431 i316_430 rfl rfl rfl ?_
  refine X.iload_n 432 i316_431 rfl rfl rfl ?_
  refine X.iconst 433 i316_432 rfl rfl (by decide) ?_
  refine X.iadd 434 i316_433 rfl rfl (by omega) ?_
  refine X.rald 435 i316_434 rfl rfl (by decide) (by show 0 ≤ _ ∧ _ < ((s.1 : Nat) : Int); omega) (fun h2 => ?_)
  refine X.aload_n 436 i316_435 rfl rfl rfl ?_
  refine X.iload_n 437 i316_436 rfl rfl rfl ?_
  refine X.iconst 438 i316_437 rfl rfl (by decide) ?_
  refine X.iadd 439 i316_438 rfl rfl (by omega) ?_
  refine X.rald 440 i316_439 rfl rfl (by decide) (by show 0 ≤ _ ∧ _ < ((s.1 : Nat) : Int); omega) (fun h3 => ?_)
  refine X.aload_n 441 i316_440 rfl rfl rfl ?_
  refine X.iload_n 442 i316_441 rfl rfl rfl ?_
  refine X.iconst 443 i316_442 rfl rfl (by decide) ?_
  refine X.iadd 444 i316_443 rfl rfl (by omega) ?_
  refine X.rald 445 i316_444 rfl rfl (by decide) (by show 0 ≤ _ ∧ _ < ((s.1 : Nat) : Int); omega) (fun h4 => ?_)
  refine X.aload_n 446 i316_445 rfl rfl rfl ?_
  refine X.iload_n 447 i316_446 rfl rfl rfl ?_
  refine X.iconst 448 i316_447 rfl rfl (by decide) ?_
  refine X.iadd 449 i316_448 rfl rfl (by omega) ?_
  refine X.rald 450 i316_449 rfl rfl (by decide) (by show 0 ≤ _ ∧ _ < ((s.1 : Nat) : Int); omega) (fun h5 => ?_)
  refine X.callv 453 [zi (z_ro (EE s) 0 (y + 1)), zi (z_ro (EE s) 0 (y + 2)), zi (z_ro (EE s) 0 (y + 3)), zi (z_ro (EE s) 0 (y + 4)), zi (z_ro (EE s) 0 (y + 5))] [] [(0, zr 4 40), (1, zi (z_ro (EE s) 0 (y + 1))), (2, zi (z_ro (EE s) 0 (y + 2))), (3, zi (z_ro (EE s) 0 (y + 3))), (4, zi (z_ro (EE s) 0 (y + 4))), (5, zi (z_ro (EE s) 0 (y + 5)))] i316_450 rfl (by decide) rfl rfl (by omega) rfl rfl (by decide) rfl t85 (Nat.le_of_ble_eq_true rfl) (Nat.le_of_ble_eq_true rfl) rfl ?_
  refine c85_1 (S := zS0) (m0 := m) (B := B) (z_ro (EE s) 0 (y + 1)) (z_ro (EE s) 0 (y + 2)) (z_ro (EE s) 0 (y + 3)) (z_ro (EE s) 0 (y + 4)) (z_ro (EE s) 0 (y + 5)) (by omega) (J.rf hJ) (by omega) (by omega) (by omega) (by omega) (by omega) (by omega) (fun h => h) (fun h => h) (fun v6 m7 hv6 hF9 hJ8 => ?_)
  show X (EE s) d 316 453 [(0, zr 99 0), (1, zr 4 40), (2, zr 4 44), (3, zi y)] [zi v6] m7 _
  refine X.pop 454 i316_453 rfl rfl rfl ?_
  refine X.aload_n 455 i316_454 rfl rfl rfl ?_
  refine X.aload_n 456 i316_455 rfl rfl rfl ?_
  refine X.iload_n 457 i316_456 rfl rfl rfl ?_
  refine X.iconst 458 i316_457 rfl rfl (by decide) ?_
  refine X.iadd 459 i316_458 rfl rfl (by omega) ?_
  refine X.rald 460 i316_459 rfl rfl (by decide) (by show 0 ≤ _ ∧ _ < ((s.1 : Nat) : Int); omega) (fun h10 => ?_)
  refine X.aload_n 461 i316_460 rfl rfl rfl ?_
  refine X.iload_n 462 i316_461 rfl rfl rfl ?_
  refine X.iconst 463 i316_462 rfl rfl (by decide) ?_
  refine X.iadd 464 i316_463 rfl rfl (by omega) ?_
  refine X.rald 465 i316_464 rfl rfl (by decide) (by show 0 ≤ _ ∧ _ < ((s.1 : Nat) : Int); omega) (fun h11 => ?_)
  refine X.aload_n 466 i316_465 rfl rfl rfl ?_
  refine X.iload_n 467 i316_466 rfl rfl rfl ?_
  refine X.iconst 468 i316_467 rfl rfl (by decide) ?_
  refine X.iadd 469 i316_468 rfl rfl (by omega) ?_
  refine X.rald 470 i316_469 rfl rfl (by decide) (by show 0 ≤ _ ∧ _ < ((s.1 : Nat) : Int); omega) (fun h12 => ?_)
  refine X.aload_n 471 i316_470 rfl rfl rfl ?_
  refine X.iload_n 472 i316_471 rfl rfl rfl ?_
  refine X.iconst 473 i316_472 rfl rfl (by decide) ?_
  refine X.iadd 474 i316_473 rfl rfl (by omega) ?_
  refine X.rald 475 i316_474 rfl rfl (by decide) (by show 0 ≤ _ ∧ _ < ((s.1 : Nat) : Int); omega) (fun h13 => ?_)
  refine X.aload_n 476 i316_475 rfl rfl rfl ?_
  refine X.iload_n 477 i316_476 rfl rfl rfl ?_
  refine X.iconst 478 i316_477 rfl rfl (by decide) ?_
  refine X.iadd 479 i316_478 rfl rfl (by omega) ?_
  refine X.rald 480 i316_479 rfl rfl (by decide) (by show 0 ≤ _ ∧ _ < ((s.1 : Nat) : Int); omega) (fun h14 => ?_)
  refine X.callv 483 [zi (z_ro (EE s) 0 (y + 1)), zi (z_ro (EE s) 0 (y + 2)), zi (z_ro (EE s) 0 (y + 3)), zi (z_ro (EE s) 0 (y + 4)), zi (z_ro (EE s) 0 (y + 5))] [] [(0, zr 4 44), (1, zi (z_ro (EE s) 0 (y + 1))), (2, zi (z_ro (EE s) 0 (y + 2))), (3, zi (z_ro (EE s) 0 (y + 3))), (4, zi (z_ro (EE s) 0 (y + 4))), (5, zi (z_ro (EE s) 0 (y + 5)))] i316_480 rfl (by decide) rfl rfl (by omega) rfl rfl (by decide) rfl t256 (Nat.le_of_ble_eq_true rfl) (Nat.le_of_ble_eq_true rfl) rfl ?_
  refine c256_1 (S := zS0) (m0 := m7) (B := B) (z_ro (EE s) 0 (y + 1)) (z_ro (EE s) 0 (y + 2)) (z_ro (EE s) 0 (y + 3)) (z_ro (EE s) 0 (y + 4)) (z_ro (EE s) 0 (y + 5)) (by omega) (J.rf hJ8.jb0) (by omega) (by omega) (by omega) (by omega) (by omega) (by omega) (fun h => h) (fun h => h) (fun v15 m16 hv15 hF18 hJ17 => ?_)
  show X (EE s) d 316 483 [(0, zr 99 0), (1, zr 4 40), (2, zr 4 44), (3, zi y)] [zi v15] m16 _
  refine X.pop 484 i316_483 rfl rfl rfl ?_
  refine X.goto 1655 i316_484 rfl rfl ?_
  exact K _ (hJ17.jb0.up (by omega)) (st_feed (by omega) (by omega) (by omega) (by omega) (by omega) hk hJ (by omega) hR hF9 hF18).2
theorem lw7 {s : Nat × (Nat → Int32)} {m : zM} {B : Int} {d : Nat} {Q : Option zV → zM → Prop} (y : Int) (hd : 200 ≤ d) (hJ : JB B m) (hR : Rel2 B m m) (hB : B + 220000 ≤ 1000000000) (hy : 0 ≤ y ∧ y + 6 ≤ (s.1 : Int)) (hs : s.1 ≤ 3072) (K : ∀ (m' : zM), JB (B + 220000) m' → Rel2 (B + 220000) m' m' → X (EE s) d 316 1655 [(0, zr 99 0), (1, zr 4 40), (2, zr 4 44), (3, zi y)] [] m' Q) : X (EE s) d 316 487 [(0, zr 99 0), (1, zr 4 40), (2, zr 4 44), (3, zi y)] [] m Q := by
  refine X.mok (fun hk => ?_)
  refine X.aload_n 488 i316_487 rfl rfl rfl ?_
  refine X.aload_n 489 i316_488 rfl rfl rfl ?_
  refine X.iload_n 490 i316_489 rfl rfl rfl ?_
  refine X.iconst 491 i316_490 rfl rfl (by decide) ?_
  refine X.iadd 492 i316_491 rfl rfl (by omega) ?_
  refine X.rald 493 i316_492 rfl rfl (by decide) (by show 0 ≤ _ ∧ _ < ((s.1 : Nat) : Int); omega) (fun h1 => ?_)
  refine X.callv 496 [zi (z_ro (EE s) 0 (y + 1))] [] [(0, zr 4 40), (1, zi (z_ro (EE s) 0 (y + 1)))] i316_493 rfl (by decide) rfl rfl (by omega) rfl rfl (by decide) rfl t88 (Nat.le_of_ble_eq_true rfl) (Nat.le_of_ble_eq_true rfl) rfl ?_
  refine c88_1 (S := zS0) (m0 := m) (B := B) (z_ro (EE s) 0 (y + 1)) (by omega) (J.rf hJ) (by omega) (by omega) (fun h => h) (fun h => h) (fun v2 m3 hv2 hF5 hJ4 => ?_)
  show X (EE s) d 316 496 [(0, zr 99 0), (1, zr 4 40), (2, zr 4 44), (3, zi y)] [zi v2] m3 _
  refine X.pop 497 i316_496 rfl rfl rfl ?_
  refine X.aload_n 498 i316_497 rfl rfl rfl ?_
  refine X.aload_n 499 i316_498 rfl rfl rfl ?_
  refine X.iload_n 500 i316_499 rfl rfl rfl ?_
  refine X.iconst 501 i316_500 rfl rfl (by decide) ?_
  refine X.iadd 502 i316_501 rfl rfl (by omega) ?_
  refine X.rald 503 i316_502 rfl rfl (by decide) (by show 0 ≤ _ ∧ _ < ((s.1 : Nat) : Int); omega) (fun h6 => ?_)
  refine X.callv 506 [zi (z_ro (EE s) 0 (y + 1))] [] [(0, zr 4 44), (1, zi (z_ro (EE s) 0 (y + 1)))] i316_503 rfl (by decide) rfl rfl (by omega) rfl rfl (by decide) rfl t258 (Nat.le_of_ble_eq_true rfl) (Nat.le_of_ble_eq_true rfl) rfl ?_
  refine c258_1 (S := zS0) (m0 := m3) (B := B) (z_ro (EE s) 0 (y + 1)) (by omega) (J.rf hJ4.jb0) (by omega) (by omega) (fun h => h) (fun h => h) (fun v7 m8 hv7 hF10 hJ9 => ?_)
  show X (EE s) d 316 506 [(0, zr 99 0), (1, zr 4 40), (2, zr 4 44), (3, zi y)] [zi v7] m8 _
  refine X.pop 507 i316_506 rfl rfl rfl ?_
  refine X.goto 1655 i316_507 rfl rfl ?_
  exact K _ (hJ9.jb0.up (by omega)) (st_end (by omega) hk hJ (by omega) hR hF5 hF10).2
theorem lw8 {s : Nat × (Nat → Int32)} {m : zM} {B : Int} {d : Nat} {Q : Option zV → zM → Prop} (y : Int) (hd : 200 ≤ d) (hJ : JB B m) (hR : Rel2 B m m) (hB : B + 220000 ≤ 1000000000) (hy : 0 ≤ y ∧ y + 6 ≤ (s.1 : Int)) (hs : s.1 ≤ 3072) (K : ∀ (m' : zM), JB (B + 220000) m' → Rel2 (B + 220000) m' m' → X (EE s) d 316 1655 [(0, zr 99 0), (1, zr 4 40), (2, zr 4 44), (3, zi y)] [] m' Q) : X (EE s) d 316 510 [(0, zr 99 0), (1, zr 4 40), (2, zr 4 44), (3, zi y)] [] m Q := by
  refine X.mok (fun hk => ?_)
  refine X.aload_n 511 i316_510 rfl rfl rfl ?_
  refine X.callv 514 [] [] [(0, zr 4 40)] i316_511 rfl (by decide) rfl rfl (by omega) rfl rfl (by decide) rfl t90 (Nat.le_of_ble_eq_true rfl) (Nat.le_of_ble_eq_true rfl) rfl ?_
  refine c90_1 (S := zS0) (m0 := m) (B := B)  (by omega) (J.rf hJ) (by omega) (fun h => h) (fun h => h) (fun h => h) (fun h => h) (fun h => h) (fun h => h) (fun h => h) (fun h => h) (fun h => h) (fun v1 m2 hv1 hF4 hJ3 => ?_)
  show X (EE s) d 316 514 [(0, zr 99 0), (1, zr 4 40), (2, zr 4 44), (3, zi y)] [zi v1] m2 _
  refine X.pop 515 i316_514 rfl rfl rfl ?_
  refine X.aload_n 516 i316_515 rfl rfl rfl ?_
  refine X.callv 519 [] [] [(0, zr 4 44)] i316_516 rfl (by decide) rfl rfl (by omega) rfl rfl (by decide) rfl t260 (Nat.le_of_ble_eq_true rfl) (Nat.le_of_ble_eq_true rfl) rfl ?_
  refine c260_1 (S := zS0) (m0 := m2) (B := B)  (by omega) (J.rf hJ3.jb0) (by omega) (fun h => h) (fun h => h) (fun h => h) (fun h => h) (fun h => h) (fun h => h) (fun h => h) (fun h => h) (fun h => h) (fun h => h) (fun h => h) (fun h => h) (fun h => h) (fun h => h) (fun h => h) (fun h => h) (fun h => h) (fun h => h) (fun v5 m6 hv5 hF8 hJ7 => ?_)
  show X (EE s) d 316 519 [(0, zr 99 0), (1, zr 4 40), (2, zr 4 44), (3, zi y)] [zi v5] m6 _
  refine X.pop 520 i316_519 rfl rfl rfl ?_
  refine X.goto 1655 i316_520 rfl rfl ?_
  exact K _ (hJ7.jb0.up (by omega)) (st_calendar  hk hJ (by omega) hR hF4 hF8).2
theorem lw9 {s : Nat × (Nat → Int32)} {m : zM} {B : Int} {d : Nat} {Q : Option zV → zM → Prop} (y : Int) (hd : 200 ≤ d) (hJ : JB B m) (hR : Rel2 B m m) (hB : B + 220000 ≤ 1000000000) (hy : 0 ≤ y ∧ y + 6 ≤ (s.1 : Int)) (hs : s.1 ≤ 3072) (K : ∀ (m' : zM), JB (B + 220000) m' → Rel2 (B + 220000) m' m' → X (EE s) d 316 1655 [(0, zr 99 0), (1, zr 4 40), (2, zr 4 44), (3, zi y)] [] m' Q) : X (EE s) d 316 523 [(0, zr 99 0), (1, zr 4 40), (2, zr 4 44), (3, zi y)] [] m Q := by
  refine X.mok (fun hk => ?_)
  refine X.aload_n 524 i316_523 rfl rfl rfl ?_
  refine X.aload_n 525 i316_524 rfl rfl rfl ?_
  refine X.iload_n 526 i316_525 rfl rfl rfl ?_
  refine X.iconst 527 i316_526 rfl rfl (by decide) ?_
  refine X.iadd 528 i316_527 rfl rfl (by omega) ?_
  refine X.rald 529 i316_528 rfl rfl (by decide) (by show 0 ≤ _ ∧ _ < ((s.1 : Nat) : Int); omega) (fun h1 => ?_)
  refine X.callv 532 [zi (z_ro (EE s) 0 (y + 1))] [] [(0, zr 4 40), (1, zi (z_ro (EE s) 0 (y + 1)))] i316_529 rfl (by decide) rfl rfl (by omega) rfl rfl (by decide) rfl t113 (Nat.le_of_ble_eq_true rfl) (Nat.le_of_ble_eq_true rfl) rfl ?_
  refine c113_1 (S := zS0) (m0 := m) (B := B) (z_ro (EE s) 0 (y + 1)) (by omega) (J.rf hJ) (by omega) (by omega) (fun v2 hv2 hF5 => ?_)
  show X (EE s) d 316 532 [(0, zr 99 0), (1, zr 4 40), (2, zr 4 44), (3, zi y)] [zi v2] m _
  refine X.pop 533 i316_532 rfl rfl rfl ?_
  refine X.aload_n 534 i316_533 rfl rfl rfl ?_
  refine X.aload_n 535 i316_534 rfl rfl rfl ?_
  refine X.iload_n 536 i316_535 rfl rfl rfl ?_
  refine X.iconst 537 i316_536 rfl rfl (by decide) ?_
  refine X.iadd 538 i316_537 rfl rfl (by omega) ?_
  refine X.rald 539 i316_538 rfl rfl (by decide) (by show 0 ≤ _ ∧ _ < ((s.1 : Nat) : Int); omega) (fun h6 => ?_)
  refine X.callv 542 [zi (z_ro (EE s) 0 (y + 1))] [] [(0, zr 4 44), (1, zi (z_ro (EE s) 0 (y + 1)))] i316_539 rfl (by decide) rfl rfl (by omega) rfl rfl (by decide) rfl t259 (Nat.le_of_ble_eq_true rfl) (Nat.le_of_ble_eq_true rfl) rfl ?_
  refine c259_1 (S := zS0) (m0 := m) (B := B) (z_ro (EE s) 0 (y + 1)) (by omega) (J.rf hJ) (by omega) (by omega) (fun v7 hv7 hF10 => ?_)
  show X (EE s) d 316 542 [(0, zr 99 0), (1, zr 4 40), (2, zr 4 44), (3, zi y)] [zi v7] m _
  refine X.pop 543 i316_542 rfl rfl rfl ?_
  refine X.goto 1655 i316_543 rfl rfl ?_
  exact K _ (hJ.up (by omega)) (hR.up (by omega))
theorem lw10 {s : Nat × (Nat → Int32)} {m : zM} {B : Int} {d : Nat} {Q : Option zV → zM → Prop} (y : Int) (hd : 200 ≤ d) (hJ : JB B m) (hR : Rel2 B m m) (hB : B + 220000 ≤ 1000000000) (hy : 0 ≤ y ∧ y + 6 ≤ (s.1 : Int)) (hs : s.1 ≤ 3072) (K : ∀ (m' : zM), JB (B + 220000) m' → Rel2 (B + 220000) m' m' → X (EE s) d 316 1655 [(0, zr 99 0), (1, zr 4 40), (2, zr 4 44), (3, zi y)] [] m' Q) : X (EE s) d 316 546 [(0, zr 99 0), (1, zr 4 40), (2, zr 4 44), (3, zi y)] [] m Q := by
  refine X.mok (fun hk => ?_)
  refine X.aload_n 547 i316_546 rfl rfl rfl ?_
  refine X.aload_n 548 i316_547 rfl rfl rfl ?_
  refine X.iload_n 549 i316_548 rfl rfl rfl ?_
  refine X.iconst 550 i316_549 rfl rfl (by decide) ?_
  refine X.iadd 551 i316_550 rfl rfl (by omega) ?_
  refine X.rald 552 i316_551 rfl rfl (by decide) (by show 0 ≤ _ ∧ _ < ((s.1 : Nat) : Int); omega) (fun h1 => ?_)
  refine X.callv 555 [zi (z_ro (EE s) 0 (y + 1))] [] [(0, zr 4 40), (1, zi (z_ro (EE s) 0 (y + 1)))] i316_552 rfl (by decide) rfl rfl (by omega) rfl rfl (by decide) rfl t114 (Nat.le_of_ble_eq_true rfl) (Nat.le_of_ble_eq_true rfl) rfl ?_
  refine c114_1 (S := zS0) (m0 := m) (B := B) (z_ro (EE s) 0 (y + 1)) (by omega) (J.rf hJ) (by omega) (by omega) (fun h => h) (fun h => h) (fun h => h) (fun v2 m3 hv2 hF5 hJ4 => ?_)
  show X (EE s) d 316 555 [(0, zr 99 0), (1, zr 4 40), (2, zr 4 44), (3, zi y)] [zi v2] m3 _
  refine X.pop 556 i316_555 rfl rfl rfl ?_
  refine X.aload_n 557 i316_556 rfl rfl rfl ?_
  refine X.aload_n 558 i316_557 rfl rfl rfl ?_
  refine X.iload_n 559 i316_558 rfl rfl rfl ?_
  refine X.iconst 560 i316_559 rfl rfl (by decide) ?_
  refine X.iadd 561 i316_560 rfl rfl (by omega) ?_
  refine X.rald 562 i316_561 rfl rfl (by decide) (by show 0 ≤ _ ∧ _ < ((s.1 : Nat) : Int); omega) (fun h6 => ?_)
  refine X.callv 565 [zi (z_ro (EE s) 0 (y + 1))] [] [(0, zr 4 44), (1, zi (z_ro (EE s) 0 (y + 1)))] i316_562 rfl (by decide) rfl rfl (by omega) rfl rfl (by decide) rfl t276 (Nat.le_of_ble_eq_true rfl) (Nat.le_of_ble_eq_true rfl) rfl ?_
  refine c276_1 (S := zS0) (m0 := m3) (B := B + 1) (z_ro (EE s) 0 (y + 1)) (by omega) (J.rf hJ4.jb0) (by omega) (by omega) (fun h => h) (fun h => h) (fun h => h) (fun v7 m8 hv7 hF10 hJ9 => ?_)
  show X (EE s) d 316 565 [(0, zr 99 0), (1, zr 4 40), (2, zr 4 44), (3, zi y)] [zi v7] m8 _
  refine X.pop 566 i316_565 rfl rfl rfl ?_
  refine X.goto 1655 i316_566 rfl rfl ?_
  exact K _ (hJ9.jb0.up (by omega)) (st_seal (by omega) hk hJ (by omega) hR hF5 hF10).2
theorem lw11 {s : Nat × (Nat → Int32)} {m : zM} {B : Int} {d : Nat} {Q : Option zV → zM → Prop} (y : Int) (hd : 200 ≤ d) (hJ : JB B m) (hR : Rel2 B m m) (hB : B + 220000 ≤ 1000000000) (hy : 0 ≤ y ∧ y + 6 ≤ (s.1 : Int)) (hs : s.1 ≤ 3072) (K : ∀ (m' : zM), JB (B + 220000) m' → Rel2 (B + 220000) m' m' → X (EE s) d 316 1655 [(0, zr 99 0), (1, zr 4 40), (2, zr 4 44), (3, zi y)] [] m' Q) : X (EE s) d 316 569 [(0, zr 99 0), (1, zr 4 40), (2, zr 4 44), (3, zi y)] [] m Q := by
  refine X.mok (fun hk => ?_)
  refine X.aload_n 570 i316_569 rfl rfl rfl ?_
  refine X.aload_n 571 i316_570 rfl rfl rfl ?_
  refine X.iload_n 572 i316_571 rfl rfl rfl ?_
  refine X.iconst 573 i316_572 rfl rfl (by decide) ?_
  refine X.iadd 574 i316_573 rfl rfl (by omega) ?_
  refine X.rald 575 i316_574 rfl rfl (by decide) (by show 0 ≤ _ ∧ _ < ((s.1 : Nat) : Int); omega) (fun h1 => ?_)
  refine X.callv 578 [zi (z_ro (EE s) 0 (y + 1))] [] [(0, zr 4 40), (1, zi (z_ro (EE s) 0 (y + 1)))] i316_575 rfl (by decide) rfl rfl (by omega) rfl rfl (by decide) rfl t116 (Nat.le_of_ble_eq_true rfl) (Nat.le_of_ble_eq_true rfl) rfl ?_
  refine c116_1 (S := zS0) (m0 := m) (B := B) (z_ro (EE s) 0 (y + 1)) (by omega) (J.rf hJ) (by omega) (by omega) (fun h => h) (fun h => h) (fun h => h) (fun v2 m3 hv2 hF5 hJ4 => ?_)
  show X (EE s) d 316 578 [(0, zr 99 0), (1, zr 4 40), (2, zr 4 44), (3, zi y)] [zi v2] m3 _
  refine X.pop 579 i316_578 rfl rfl rfl ?_
  refine X.aload_n 580 i316_579 rfl rfl rfl ?_
  refine X.aload_n 581 i316_580 rfl rfl rfl ?_
  refine X.iload_n 582 i316_581 rfl rfl rfl ?_
  refine X.iconst 583 i316_582 rfl rfl (by decide) ?_
  refine X.iadd 584 i316_583 rfl rfl (by omega) ?_
  refine X.rald 585 i316_584 rfl rfl (by decide) (by show 0 ≤ _ ∧ _ < ((s.1 : Nat) : Int); omega) (fun h6 => ?_)
  refine X.callv 588 [zi (z_ro (EE s) 0 (y + 1))] [] [(0, zr 4 44), (1, zi (z_ro (EE s) 0 (y + 1)))] i316_585 rfl (by decide) rfl rfl (by omega) rfl rfl (by decide) rfl t277 (Nat.le_of_ble_eq_true rfl) (Nat.le_of_ble_eq_true rfl) rfl ?_
  refine c277_1 (S := zS0) (m0 := m3) (B := B + 4) (z_ro (EE s) 0 (y + 1)) (by omega) (J.rf hJ4.jb0) (by omega) (by omega) (fun h => h) (fun h => h) (fun h => h) (fun v7 m8 hv7 hF10 hJ9 => ?_)
  show X (EE s) d 316 588 [(0, zr 99 0), (1, zr 4 40), (2, zr 4 44), (3, zi y)] [zi v7] m8 _
  refine X.pop 589 i316_588 rfl rfl rfl ?_
  refine X.goto 1655 i316_589 rfl rfl ?_
  exact K _ (hJ9.jb0.up (by omega)) (st_open (by omega) hk hJ (by omega) hR hF5 hF10).2
theorem lw12 {s : Nat × (Nat → Int32)} {m : zM} {B : Int} {d : Nat} {Q : Option zV → zM → Prop} (y : Int) (hd : 200 ≤ d) (hJ : JB B m) (hR : Rel2 B m m) (hB : B + 220000 ≤ 1000000000) (hy : 0 ≤ y ∧ y + 6 ≤ (s.1 : Int)) (hs : s.1 ≤ 3072) (K : ∀ (m' : zM), JB (B + 220000) m' → Rel2 (B + 220000) m' m' → X (EE s) d 316 1655 [(0, zr 99 0), (1, zr 4 40), (2, zr 4 44), (3, zi y)] [] m' Q) : X (EE s) d 316 592 [(0, zr 99 0), (1, zr 4 40), (2, zr 4 44), (3, zi y)] [] m Q := by
  refine X.mok (fun hk => ?_)
  refine X.aload_n 593 i316_592 rfl rfl rfl ?_
  refine X.aload_n 594 i316_593 rfl rfl rfl ?_
  refine X.iload_n 595 i316_594 rfl rfl rfl ?_
  refine X.iconst 596 i316_595 rfl rfl (by decide) ?_
  refine X.iadd 597 i316_596 rfl rfl (by omega) ?_
  refine X.rald 598 i316_597 rfl rfl (by decide) (by show 0 ≤ _ ∧ _ < ((s.1 : Nat) : Int); omega) (fun h1 => ?_)
  refine X.aload_n 599 i316_598 rfl rfl rfl ?_
  refine X.iload_n 600 i316_599 rfl rfl rfl ?_
  refine X.iconst 601 i316_600 rfl rfl (by decide) ?_
  refine X.iadd 602 i316_601 rfl rfl (by omega) ?_
  refine X.rald 603 i316_602 rfl rfl (by decide) (by show 0 ≤ _ ∧ _ < ((s.1 : Nat) : Int); omega) (fun h2 => ?_)
  refine X.callv 606 [zi (z_ro (EE s) 0 (y + 1)), zi (z_ro (EE s) 0 (y + 2))] [] [(0, zr 4 40), (1, zi (z_ro (EE s) 0 (y + 1))), (2, zi (z_ro (EE s) 0 (y + 2)))] i316_603 rfl (by decide) rfl rfl (by omega) rfl rfl (by decide) rfl t122 (Nat.le_of_ble_eq_true rfl) (Nat.le_of_ble_eq_true rfl) rfl ?_
  refine c122_1 (S := zS0) (m0 := m) (B := B) (z_ro (EE s) 0 (y + 1)) (z_ro (EE s) 0 (y + 2)) (by omega) (J.rf hJ) (by omega) (by omega) (by omega) (fun h => h) (fun h => h) (fun h => h) (fun v3 m4 hv3 hF6 hJ5 => ?_)
  show X (EE s) d 316 606 [(0, zr 99 0), (1, zr 4 40), (2, zr 4 44), (3, zi y)] [zi v3] m4 _
  refine X.pop 607 i316_606 rfl rfl rfl ?_
  refine X.aload_n 608 i316_607 rfl rfl rfl ?_
  refine X.aload_n 609 i316_608 rfl rfl rfl ?_
  refine X.iload_n 610 i316_609 rfl rfl rfl ?_
  refine X.iconst 611 i316_610 rfl rfl (by decide) ?_
  refine X.iadd 612 i316_611 rfl rfl (by omega) ?_
  refine X.rald 613 i316_612 rfl rfl (by decide) (by show 0 ≤ _ ∧ _ < ((s.1 : Nat) : Int); omega) (fun h7 => ?_)
  refine X.aload_n 614 i316_613 rfl rfl rfl ?_
  refine X.iload_n 615 i316_614 rfl rfl rfl ?_
  refine X.iconst 616 i316_615 rfl rfl (by decide) ?_
  refine X.iadd 617 i316_616 rfl rfl (by omega) ?_
  refine X.rald 618 i316_617 rfl rfl (by decide) (by show 0 ≤ _ ∧ _ < ((s.1 : Nat) : Int); omega) (fun h8 => ?_)
  refine X.callv 621 [zi (z_ro (EE s) 0 (y + 1)), zi (z_ro (EE s) 0 (y + 2))] [] [(0, zr 4 44), (1, zi (z_ro (EE s) 0 (y + 1))), (2, zi (z_ro (EE s) 0 (y + 2)))] i316_618 rfl (by decide) rfl rfl (by omega) rfl rfl (by decide) rfl t245 (Nat.le_of_ble_eq_true rfl) (Nat.le_of_ble_eq_true rfl) rfl ?_
  refine c245_1 (S := zS0) (m0 := m4) (B := B) (z_ro (EE s) 0 (y + 1)) (z_ro (EE s) 0 (y + 2)) (by omega) (J.rf hJ5.jb0) (by omega) (by omega) (by omega) (fun h => h) (fun h => h) (fun h => h) (fun v9 m10 hv9 hF12 hJ11 => ?_)
  show X (EE s) d 316 621 [(0, zr 99 0), (1, zr 4 40), (2, zr 4 44), (3, zi y)] [zi v9] m10 _
  refine X.pop 622 i316_621 rfl rfl rfl ?_
  refine X.goto 1655 i316_622 rfl rfl ?_
  exact K _ (hJ11.jb0.up (by omega)) (st_season (by omega) (by omega) hk hJ (by omega) hR hF6 hF12).2
theorem lw13 {s : Nat × (Nat → Int32)} {m : zM} {B : Int} {d : Nat} {Q : Option zV → zM → Prop} (y : Int) (hd : 200 ≤ d) (hJ : JB B m) (hR : Rel2 B m m) (hB : B + 220000 ≤ 1000000000) (hy : 0 ≤ y ∧ y + 6 ≤ (s.1 : Int)) (hs : s.1 ≤ 3072) (K : ∀ (m' : zM), JB (B + 220000) m' → Rel2 (B + 220000) m' m' → X (EE s) d 316 1655 [(0, zr 99 0), (1, zr 4 40), (2, zr 4 44), (3, zi y)] [] m' Q) : X (EE s) d 316 625 [(0, zr 99 0), (1, zr 4 40), (2, zr 4 44), (3, zi y)] [] m Q := by
  refine X.mok (fun hk => ?_)
  refine X.aload_n 626 i316_625 rfl rfl rfl ?_
  refine X.aload_n 627 i316_626 rfl rfl rfl ?_
  refine X.iload_n 628 i316_627 rfl rfl rfl ?_
  refine X.iconst 629 i316_628 rfl rfl (by decide) ?_
  refine X.iadd 630 i316_629 rfl rfl (by omega) ?_
  refine X.rald 631 i316_630 rfl rfl (by decide) (by show 0 ≤ _ ∧ _ < ((s.1 : Nat) : Int); omega) (fun h1 => ?_)
  refine X.aload_n 632 i316_631 rfl rfl rfl ?_
  refine X.iload_n 633 i316_632 rfl rfl rfl ?_
  refine X.iconst 634 i316_633 rfl rfl (by decide) ?_
  refine X.iadd 635 i316_634 rfl rfl (by omega) ?_
  refine X.rald 636 i316_635 rfl rfl (by decide) (by show 0 ≤ _ ∧ _ < ((s.1 : Nat) : Int); omega) (fun h2 => ?_)
  refine X.aload_n 637 i316_636 rfl rfl rfl ?_
  refine X.iload_n 638 i316_637 rfl rfl rfl ?_
  refine X.iconst 639 i316_638 rfl rfl (by decide) ?_
  refine X.iadd 640 i316_639 rfl rfl (by omega) ?_
  refine X.rald 641 i316_640 rfl rfl (by decide) (by show 0 ≤ _ ∧ _ < ((s.1 : Nat) : Int); omega) (fun h3 => ?_)
  refine X.callv 644 [zi (z_ro (EE s) 0 (y + 1)), zi (z_ro (EE s) 0 (y + 2)), zi (z_ro (EE s) 0 (y + 3))] [] [(0, zr 4 40), (1, zi (z_ro (EE s) 0 (y + 1))), (2, zi (z_ro (EE s) 0 (y + 2))), (3, zi (z_ro (EE s) 0 (y + 3)))] i316_641 rfl (by decide) rfl rfl (by omega) rfl rfl (by decide) rfl t124 (Nat.le_of_ble_eq_true rfl) (Nat.le_of_ble_eq_true rfl) rfl ?_
  refine c124_1 (S := zS0) (m0 := m) (B := B) (z_ro (EE s) 0 (y + 1)) (z_ro (EE s) 0 (y + 2)) (z_ro (EE s) 0 (y + 3)) (by omega) (J.rf hJ) (by omega) (by omega) (by omega) (by omega) (fun h => h) (fun h => h) (fun h => h) (fun v4 m5 hv4 hF7 hJ6 => ?_)
  show X (EE s) d 316 644 [(0, zr 99 0), (1, zr 4 40), (2, zr 4 44), (3, zi y)] [zi v4] m5 _
  refine X.pop 645 i316_644 rfl rfl rfl ?_
  refine X.aload_n 646 i316_645 rfl rfl rfl ?_
  refine X.aload_n 647 i316_646 rfl rfl rfl ?_
  refine X.iload_n 648 i316_647 rfl rfl rfl ?_
  refine X.iconst 649 i316_648 rfl rfl (by decide) ?_
  refine X.iadd 650 i316_649 rfl rfl (by omega) ?_
  refine X.rald 651 i316_650 rfl rfl (by decide) (by show 0 ≤ _ ∧ _ < ((s.1 : Nat) : Int); omega) (fun h8 => ?_)
  refine X.aload_n 652 i316_651 rfl rfl rfl ?_
  refine X.iload_n 653 i316_652 rfl rfl rfl ?_
  refine X.iconst 654 i316_653 rfl rfl (by decide) ?_
  refine X.iadd 655 i316_654 rfl rfl (by omega) ?_
  refine X.rald 656 i316_655 rfl rfl (by decide) (by show 0 ≤ _ ∧ _ < ((s.1 : Nat) : Int); omega) (fun h9 => ?_)
  refine X.aload_n 657 i316_656 rfl rfl rfl ?_
  refine X.iload_n 658 i316_657 rfl rfl rfl ?_
  refine X.iconst 659 i316_658 rfl rfl (by decide) ?_
  refine X.iadd 660 i316_659 rfl rfl (by omega) ?_
  refine X.rald 661 i316_660 rfl rfl (by decide) (by show 0 ≤ _ ∧ _ < ((s.1 : Nat) : Int); omega) (fun h10 => ?_)
  refine X.callv 664 [zi (z_ro (EE s) 0 (y + 1)), zi (z_ro (EE s) 0 (y + 2)), zi (z_ro (EE s) 0 (y + 3))] [] [(0, zr 4 44), (1, zi (z_ro (EE s) 0 (y + 1))), (2, zi (z_ro (EE s) 0 (y + 2))), (3, zi (z_ro (EE s) 0 (y + 3)))] i316_661 rfl (by decide) rfl rfl (by omega) rfl rfl (by decide) rfl t247 (Nat.le_of_ble_eq_true rfl) (Nat.le_of_ble_eq_true rfl) rfl ?_
  refine c247_1 (S := zS0) (m0 := m5) (B := B) (z_ro (EE s) 0 (y + 1)) (z_ro (EE s) 0 (y + 2)) (z_ro (EE s) 0 (y + 3)) (by omega) (J.rf hJ6.jb0) (by omega) (by omega) (by omega) (by omega) (fun h => h) (fun h => h) (fun h => h) (fun v11 m12 hv11 hF14 hJ13 => ?_)
  show X (EE s) d 316 664 [(0, zr 99 0), (1, zr 4 40), (2, zr 4 44), (3, zi y)] [zi v11] m12 _
  refine X.pop 665 i316_664 rfl rfl rfl ?_
  refine X.goto 1655 i316_665 rfl rfl ?_
  exact K _ (hJ13.jb0.up (by omega)) (st_week (by omega) (by omega) (by omega) hk hJ (by omega) hR hF7 hF14).2
theorem lw14 {s : Nat × (Nat → Int32)} {m : zM} {B : Int} {d : Nat} {Q : Option zV → zM → Prop} (y : Int) (hd : 200 ≤ d) (hJ : JB B m) (hR : Rel2 B m m) (hB : B + 220000 ≤ 1000000000) (hy : 0 ≤ y ∧ y + 6 ≤ (s.1 : Int)) (hs : s.1 ≤ 3072) (K : ∀ (m' : zM), JB (B + 220000) m' → Rel2 (B + 220000) m' m' → X (EE s) d 316 1655 [(0, zr 99 0), (1, zr 4 40), (2, zr 4 44), (3, zi y)] [] m' Q) : X (EE s) d 316 668 [(0, zr 99 0), (1, zr 4 40), (2, zr 4 44), (3, zi y)] [] m Q := by
  refine X.mok (fun hk => ?_)
  refine X.aload_n 669 i316_668 rfl rfl rfl ?_
  refine X.aload_n 670 i316_669 rfl rfl rfl ?_
  refine X.iload_n 671 i316_670 rfl rfl rfl ?_
  refine X.iconst 672 i316_671 rfl rfl (by decide) ?_
  refine X.iadd 673 i316_672 rfl rfl (by omega) ?_
  refine X.rald 674 i316_673 rfl rfl (by decide) (by show 0 ≤ _ ∧ _ < ((s.1 : Nat) : Int); omega) (fun h1 => ?_)
  refine X.aload_n 675 i316_674 rfl rfl rfl ?_
  refine X.iload_n 676 i316_675 rfl rfl rfl ?_
  refine X.iconst 677 i316_676 rfl rfl (by decide) ?_
  refine X.iadd 678 i316_677 rfl rfl (by omega) ?_
  refine X.rald 679 i316_678 rfl rfl (by decide) (by show 0 ≤ _ ∧ _ < ((s.1 : Nat) : Int); omega) (fun h2 => ?_)
  refine X.callv 682 [zi (z_ro (EE s) 0 (y + 1)), zi (z_ro (EE s) 0 (y + 2))] [] [(0, zr 4 40), (1, zi (z_ro (EE s) 0 (y + 1))), (2, zi (z_ro (EE s) 0 (y + 2)))] i316_679 rfl (by decide) rfl rfl (by omega) rfl rfl (by decide) rfl t125 (Nat.le_of_ble_eq_true rfl) (Nat.le_of_ble_eq_true rfl) rfl ?_
  refine c125_1 (S := zS0) (m0 := m) (B := B) (z_ro (EE s) 0 (y + 1)) (z_ro (EE s) 0 (y + 2)) (by omega) (J.rf hJ) (by omega) (by omega) (by omega) (fun h => h) (fun h => h) (fun h => h) (fun v3 m4 hv3 hF6 hJ5 => ?_)
  show X (EE s) d 316 682 [(0, zr 99 0), (1, zr 4 40), (2, zr 4 44), (3, zi y)] [zi v3] m4 _
  refine X.pop 683 i316_682 rfl rfl rfl ?_
  refine X.aload_n 684 i316_683 rfl rfl rfl ?_
  refine X.aload_n 685 i316_684 rfl rfl rfl ?_
  refine X.iload_n 686 i316_685 rfl rfl rfl ?_
  refine X.iconst 687 i316_686 rfl rfl (by decide) ?_
  refine X.iadd 688 i316_687 rfl rfl (by omega) ?_
  refine X.rald 689 i316_688 rfl rfl (by decide) (by show 0 ≤ _ ∧ _ < ((s.1 : Nat) : Int); omega) (fun h7 => ?_)
  refine X.aload_n 690 i316_689 rfl rfl rfl ?_
  refine X.iload_n 691 i316_690 rfl rfl rfl ?_
  refine X.iconst 692 i316_691 rfl rfl (by decide) ?_
  refine X.iadd 693 i316_692 rfl rfl (by omega) ?_
  refine X.rald 694 i316_693 rfl rfl (by decide) (by show 0 ≤ _ ∧ _ < ((s.1 : Nat) : Int); omega) (fun h8 => ?_)
  refine X.callv 697 [zi (z_ro (EE s) 0 (y + 1)), zi (z_ro (EE s) 0 (y + 2))] [] [(0, zr 4 44), (1, zi (z_ro (EE s) 0 (y + 1))), (2, zi (z_ro (EE s) 0 (y + 2)))] i316_694 rfl (by decide) rfl rfl (by omega) rfl rfl (by decide) rfl t248 (Nat.le_of_ble_eq_true rfl) (Nat.le_of_ble_eq_true rfl) rfl ?_
  refine c248_1 (S := zS0) (m0 := m4) (B := B) (z_ro (EE s) 0 (y + 1)) (z_ro (EE s) 0 (y + 2)) (by omega) (J.rf hJ5.jb0) (by omega) (by omega) (by omega) (fun h => h) (fun h => h) (fun h => h) (fun v9 m10 hv9 hF12 hJ11 => ?_)
  show X (EE s) d 316 697 [(0, zr 99 0), (1, zr 4 40), (2, zr 4 44), (3, zi y)] [zi v9] m10 _
  refine X.pop 698 i316_697 rfl rfl rfl ?_
  refine X.goto 1655 i316_698 rfl rfl ?_
  exact K _ (hJ11.jb0.up (by omega)) (st_special (by omega) (by omega) hk hJ (by omega) hR hF6 hF12).2
theorem lw15 {s : Nat × (Nat → Int32)} {m : zM} {B : Int} {d : Nat} {Q : Option zV → zM → Prop} (y : Int) (hd : 200 ≤ d) (hJ : JB B m) (hR : Rel2 B m m) (hB : B + 220000 ≤ 1000000000) (hy : 0 ≤ y ∧ y + 6 ≤ (s.1 : Int)) (hs : s.1 ≤ 3072) (K : ∀ (m' : zM), JB (B + 220000) m' → Rel2 (B + 220000) m' m' → X (EE s) d 316 1655 [(0, zr 99 0), (1, zr 4 40), (2, zr 4 44), (3, zi y)] [] m' Q) : X (EE s) d 316 701 [(0, zr 99 0), (1, zr 4 40), (2, zr 4 44), (3, zi y)] [] m Q := by
  refine X.mok (fun hk => ?_)
  refine X.aload_n 702 i316_701 rfl rfl rfl ?_
  refine X.aload_n 703 i316_702 rfl rfl rfl ?_
  refine X.iload_n 704 i316_703 rfl rfl rfl ?_
  refine X.iconst 705 i316_704 rfl rfl (by decide) ?_
  refine X.iadd 706 i316_705 rfl rfl (by omega) ?_
  refine X.rald 707 i316_706 rfl rfl (by decide) (by show 0 ≤ _ ∧ _ < ((s.1 : Nat) : Int); omega) (fun h1 => ?_)
  refine X.callv 710 [zi (z_ro (EE s) 0 (y + 1))] [] [(0, zr 4 40), (1, zi (z_ro (EE s) 0 (y + 1)))] i316_707 rfl (by decide) rfl rfl (by omega) rfl rfl (by decide) rfl t127 (Nat.le_of_ble_eq_true rfl) (Nat.le_of_ble_eq_true rfl) rfl ?_
  refine c127_1 (S := zS0) (m0 := m) (B := B) (z_ro (EE s) 0 (y + 1)) (by omega) (J.rf hJ) (by omega) (by omega) (fun h => h) (fun h => h) (fun h => h) (fun h => h) (fun h => h) (fun v2 m3 hv2 hF5 hJ4 => ?_)
  show X (EE s) d 316 710 [(0, zr 99 0), (1, zr 4 40), (2, zr 4 44), (3, zi y)] [zi v2] m3 _
  refine X.pop 711 i316_710 rfl rfl rfl ?_
  refine X.aload_n 712 i316_711 rfl rfl rfl ?_
  refine X.aload_n 713 i316_712 rfl rfl rfl ?_
  refine X.iload_n 714 i316_713 rfl rfl rfl ?_
  refine X.iconst 715 i316_714 rfl rfl (by decide) ?_
  refine X.iadd 716 i316_715 rfl rfl (by omega) ?_
  refine X.rald 717 i316_716 rfl rfl (by decide) (by show 0 ≤ _ ∧ _ < ((s.1 : Nat) : Int); omega) (fun h6 => ?_)
  refine X.callv 720 [zi (z_ro (EE s) 0 (y + 1))] [] [(0, zr 4 44), (1, zi (z_ro (EE s) 0 (y + 1)))] i316_717 rfl (by decide) rfl rfl (by omega) rfl rfl (by decide) rfl t281 (Nat.le_of_ble_eq_true rfl) (Nat.le_of_ble_eq_true rfl) rfl ?_
  refine c281_1 (S := zS0) (m0 := m3) (B := B + 2) (z_ro (EE s) 0 (y + 1)) (by omega) (J.rf hJ4.jb0) (by omega) (by omega) (fun h => h) (fun h => h) (fun h => h) (fun h => h) (fun h => h) (fun h => h) (fun v7 m8 hv7 hF10 hJ9 => ?_)
  show X (EE s) d 316 720 [(0, zr 99 0), (1, zr 4 40), (2, zr 4 44), (3, zi y)] [zi v7] m8 _
  refine X.pop 721 i316_720 rfl rfl rfl ?_
  refine X.goto 1655 i316_721 rfl rfl ?_
  exact K _ (hJ9.jb0.up (by omega)) (st_move (by omega) hk hJ (by omega) hR hF5 hF10).2
theorem lw16 {s : Nat × (Nat → Int32)} {m : zM} {B : Int} {d : Nat} {Q : Option zV → zM → Prop} (y : Int) (hd : 200 ≤ d) (hJ : JB B m) (hR : Rel2 B m m) (hB : B + 220000 ≤ 1000000000) (hy : 0 ≤ y ∧ y + 6 ≤ (s.1 : Int)) (hs : s.1 ≤ 3072) (K : ∀ (m' : zM), JB (B + 220000) m' → Rel2 (B + 220000) m' m' → X (EE s) d 316 1655 [(0, zr 99 0), (1, zr 4 40), (2, zr 4 44), (3, zi y)] [] m' Q) : X (EE s) d 316 724 [(0, zr 99 0), (1, zr 4 40), (2, zr 4 44), (3, zi y)] [] m Q := by
  refine X.mok (fun hk => ?_)
  refine X.aload_n 725 i316_724 rfl rfl rfl ?_
  refine X.aload_n 726 i316_725 rfl rfl rfl ?_
  refine X.iload_n 727 i316_726 rfl rfl rfl ?_
  refine X.iconst 728 i316_727 rfl rfl (by decide) ?_
  refine X.iadd 729 i316_728 rfl rfl (by omega) ?_
  refine X.rald 730 i316_729 rfl rfl (by decide) (by show 0 ≤ _ ∧ _ < ((s.1 : Nat) : Int); omega) (fun h1 => ?_)
  refine X.callv 733 [zi (z_ro (EE s) 0 (y + 1))] [] [(0, zr 4 40), (1, zi (z_ro (EE s) 0 (y + 1)))] i316_730 rfl (by decide) rfl rfl (by omega) rfl rfl (by decide) rfl t130 (Nat.le_of_ble_eq_true rfl) (Nat.le_of_ble_eq_true rfl) rfl ?_
  refine c130_1 (S := zS0) (m0 := m) (B := B) (z_ro (EE s) 0 (y + 1)) (by omega) (J.rf hJ) (by omega) (by omega) (fun h => h) (fun h => h) (fun h => h) (fun h => h) (fun h => h) (fun h => h) (fun h => h) (fun h => h) (fun v2 m3 hv2 hF5 hJ4 => ?_)
  show X (EE s) d 316 733 [(0, zr 99 0), (1, zr 4 40), (2, zr 4 44), (3, zi y)] [zi v2] m3 _
  refine X.pop 734 i316_733 rfl rfl rfl ?_
  refine X.aload_n 735 i316_734 rfl rfl rfl ?_
  refine X.aload_n 736 i316_735 rfl rfl rfl ?_
  refine X.iload_n 737 i316_736 rfl rfl rfl ?_
  refine X.iconst 738 i316_737 rfl rfl (by decide) ?_
  refine X.iadd 739 i316_738 rfl rfl (by omega) ?_
  refine X.rald 740 i316_739 rfl rfl (by decide) (by show 0 ≤ _ ∧ _ < ((s.1 : Nat) : Int); omega) (fun h6 => ?_)
  refine X.callv 743 [zi (z_ro (EE s) 0 (y + 1))] [] [(0, zr 4 44), (1, zi (z_ro (EE s) 0 (y + 1)))] i316_740 rfl (by decide) rfl rfl (by omega) rfl rfl (by decide) rfl t282 (Nat.le_of_ble_eq_true rfl) (Nat.le_of_ble_eq_true rfl) rfl ?_
  refine c282_1 (S := zS0) (m0 := m3) (B := B + 100006) (z_ro (EE s) 0 (y + 1)) (by omega) (J.rf hJ4.jb0) (by omega) (by omega) (fun h => h) (fun h => h) (fun h => h) (fun h => h) (fun h => h) (fun h => h) (fun h => h) (fun h => h) (fun v7 m8 hv7 hF10 hJ9 => ?_)
  show X (EE s) d 316 743 [(0, zr 99 0), (1, zr 4 40), (2, zr 4 44), (3, zi y)] [zi v7] m8 _
  refine X.pop 744 i316_743 rfl rfl rfl ?_
  refine X.goto 1655 i316_744 rfl rfl ?_
  exact K _ (hJ9.jb0.up (by omega)) (st_off (by omega) hk hJ (by omega) hR hF5 hF10).2
theorem lw17 {s : Nat × (Nat → Int32)} {m : zM} {B : Int} {d : Nat} {Q : Option zV → zM → Prop} (y : Int) (hd : 200 ≤ d) (hJ : JB B m) (hR : Rel2 B m m) (hB : B + 220000 ≤ 1000000000) (hy : 0 ≤ y ∧ y + 6 ≤ (s.1 : Int)) (hs : s.1 ≤ 3072) (K : ∀ (m' : zM), JB (B + 220000) m' → Rel2 (B + 220000) m' m' → X (EE s) d 316 1655 [(0, zr 99 0), (1, zr 4 40), (2, zr 4 44), (3, zi y)] [] m' Q) : X (EE s) d 316 747 [(0, zr 99 0), (1, zr 4 40), (2, zr 4 44), (3, zi y)] [] m Q := by
  refine X.mok (fun hk => ?_)
  refine X.aload_n 748 i316_747 rfl rfl rfl ?_
  refine X.aload_n 749 i316_748 rfl rfl rfl ?_
  refine X.iload_n 750 i316_749 rfl rfl rfl ?_
  refine X.iconst 751 i316_750 rfl rfl (by decide) ?_
  refine X.iadd 752 i316_751 rfl rfl (by omega) ?_
  refine X.rald 753 i316_752 rfl rfl (by decide) (by show 0 ≤ _ ∧ _ < ((s.1 : Nat) : Int); omega) (fun h1 => ?_)
  refine X.aload_n 754 i316_753 rfl rfl rfl ?_
  refine X.iload_n 755 i316_754 rfl rfl rfl ?_
  refine X.iconst 756 i316_755 rfl rfl (by decide) ?_
  refine X.iadd 757 i316_756 rfl rfl (by omega) ?_
  refine X.rald 758 i316_757 rfl rfl (by decide) (by show 0 ≤ _ ∧ _ < ((s.1 : Nat) : Int); omega) (fun h2 => ?_)
  refine X.ifeq 765 761 i316_758 rfl rfl rfl (fun h3 => ?_) (fun h3 => ?_)
  · refine X.iconst 766 i316_765 rfl rfl (by decide) ?_
    refine X.callv 769 [zi (z_ro (EE s) 0 (y + 1)), zi 0] [] [(0, zr 4 40), (1, zi (z_ro (EE s) 0 (y + 1))), (2, zi 0)] i316_766 rfl (by decide) rfl rfl (by omega) rfl rfl (by decide) rfl t134 (Nat.le_of_ble_eq_true rfl) (Nat.le_of_ble_eq_true rfl) rfl ?_
    refine c134_1 (S := zS0) (m0 := m) (B := B) (z_ro (EE s) 0 (y + 1)) 0 (by omega) (J.rf hJ) (by omega) (by omega) (by omega) (fun h => h) (fun h => h) (fun h => h) (fun v4 m5 hv4 hF7 hJ6 => ?_)
    show X (EE s) d 316 769 [(0, zr 99 0), (1, zr 4 40), (2, zr 4 44), (3, zi y)] [zi v4] m5 _
    refine X.pop 770 i316_769 rfl rfl rfl ?_
    refine X.aload_n 771 i316_770 rfl rfl rfl ?_
    refine X.aload_n 772 i316_771 rfl rfl rfl ?_
    refine X.iload_n 773 i316_772 rfl rfl rfl ?_
    refine X.iconst 774 i316_773 rfl rfl (by decide) ?_
    refine X.iadd 775 i316_774 rfl rfl (by omega) ?_
    refine X.rald 776 i316_775 rfl rfl (by decide) (by show 0 ≤ _ ∧ _ < ((s.1 : Nat) : Int); omega) (fun h8 => ?_)
    refine X.aload_n 777 i316_776 rfl rfl rfl ?_
    refine X.iload_n 778 i316_777 rfl rfl rfl ?_
    refine X.iconst 779 i316_778 rfl rfl (by decide) ?_
    refine X.iadd 780 i316_779 rfl rfl (by omega) ?_
    refine X.rald 781 i316_780 rfl rfl (by decide) (by show 0 ≤ _ ∧ _ < ((s.1 : Nat) : Int); omega) (fun h9 => ?_)
    refine X.ifeq 788 784 i316_781 rfl rfl rfl (fun h10 => ?_) (fun h10 => ?_)
    · refine X.iconst 789 i316_788 rfl rfl (by decide) ?_
      refine X.callv 792 [zi (z_ro (EE s) 0 (y + 1)), zi 0] [] [(0, zr 4 44), (1, zi (z_ro (EE s) 0 (y + 1))), (2, zi 0)] i316_789 rfl (by decide) rfl rfl (by omega) rfl rfl (by decide) rfl t283 (Nat.le_of_ble_eq_true rfl) (Nat.le_of_ble_eq_true rfl) rfl ?_
      refine c283_1 (S := zS0) (m0 := m5) (B := B + 1) (z_ro (EE s) 0 (y + 1)) 0 (by omega) (J.rf hJ6.jb0) (by omega) (by omega) (by omega) (fun h => h) (fun h => h) (fun h => h) (fun v11 m12 hv11 hF14 hJ13 => ?_)
      show X (EE s) d 316 792 [(0, zr 99 0), (1, zr 4 40), (2, zr 4 44), (3, zi y)] [zi v11] m12 _
      refine X.pop 793 i316_792 rfl rfl rfl ?_
      refine X.goto 1655 i316_793 rfl rfl ?_
      exact K _ (hJ13.jb0.up (by omega)) (st_mark (by omega) (by omega) hk hJ (by omega) hR hF7 hF14)
    · exfalso
      omega
  · refine X.iconst 762 i316_761 rfl rfl (by decide) ?_
    refine X.goto 766 i316_762 rfl rfl ?_
    refine X.callv 769 [zi (z_ro (EE s) 0 (y + 1)), zi 1] [] [(0, zr 4 40), (1, zi (z_ro (EE s) 0 (y + 1))), (2, zi 1)] i316_766 rfl (by decide) rfl rfl (by omega) rfl rfl (by decide) rfl t134 (Nat.le_of_ble_eq_true rfl) (Nat.le_of_ble_eq_true rfl) rfl ?_
    refine c134_1 (S := zS0) (m0 := m) (B := B) (z_ro (EE s) 0 (y + 1)) 1 (by omega) (J.rf hJ) (by omega) (by omega) (by omega) (fun h => h) (fun h => h) (fun h => h) (fun v15 m16 hv15 hF18 hJ17 => ?_)
    show X (EE s) d 316 769 [(0, zr 99 0), (1, zr 4 40), (2, zr 4 44), (3, zi y)] [zi v15] m16 _
    refine X.pop 770 i316_769 rfl rfl rfl ?_
    refine X.aload_n 771 i316_770 rfl rfl rfl ?_
    refine X.aload_n 772 i316_771 rfl rfl rfl ?_
    refine X.iload_n 773 i316_772 rfl rfl rfl ?_
    refine X.iconst 774 i316_773 rfl rfl (by decide) ?_
    refine X.iadd 775 i316_774 rfl rfl (by omega) ?_
    refine X.rald 776 i316_775 rfl rfl (by decide) (by show 0 ≤ _ ∧ _ < ((s.1 : Nat) : Int); omega) (fun h19 => ?_)
    refine X.aload_n 777 i316_776 rfl rfl rfl ?_
    refine X.iload_n 778 i316_777 rfl rfl rfl ?_
    refine X.iconst 779 i316_778 rfl rfl (by decide) ?_
    refine X.iadd 780 i316_779 rfl rfl (by omega) ?_
    refine X.rald 781 i316_780 rfl rfl (by decide) (by show 0 ≤ _ ∧ _ < ((s.1 : Nat) : Int); omega) (fun h20 => ?_)
    refine X.ifeq 788 784 i316_781 rfl rfl rfl (fun h21 => ?_) (fun h21 => ?_)
    · exfalso
      omega
    · refine X.iconst 785 i316_784 rfl rfl (by decide) ?_
      refine X.goto 789 i316_785 rfl rfl ?_
      refine X.callv 792 [zi (z_ro (EE s) 0 (y + 1)), zi 1] [] [(0, zr 4 44), (1, zi (z_ro (EE s) 0 (y + 1))), (2, zi 1)] i316_789 rfl (by decide) rfl rfl (by omega) rfl rfl (by decide) rfl t283 (Nat.le_of_ble_eq_true rfl) (Nat.le_of_ble_eq_true rfl) rfl ?_
      refine c283_1 (S := zS0) (m0 := m16) (B := B + 1) (z_ro (EE s) 0 (y + 1)) 1 (by omega) (J.rf hJ17.jb0) (by omega) (by omega) (by omega) (fun h => h) (fun h => h) (fun h => h) (fun v22 m23 hv22 hF25 hJ24 => ?_)
      show X (EE s) d 316 792 [(0, zr 99 0), (1, zr 4 40), (2, zr 4 44), (3, zi y)] [zi v22] m23 _
      refine X.pop 793 i316_792 rfl rfl rfl ?_
      refine X.goto 1655 i316_793 rfl rfl ?_
      exact K _ (hJ24.jb0.up (by omega)) (st_mark (by omega) (by omega) hk hJ (by omega) hR hF18 hF25)
theorem lw18 {s : Nat × (Nat → Int32)} {m : zM} {B : Int} {d : Nat} {Q : Option zV → zM → Prop} (y : Int) (hd : 200 ≤ d) (hJ : JB B m) (hR : Rel2 B m m) (hB : B + 220000 ≤ 1000000000) (hy : 0 ≤ y ∧ y + 6 ≤ (s.1 : Int)) (hs : s.1 ≤ 3072) (K : ∀ (m' : zM), JB (B + 220000) m' → Rel2 (B + 220000) m' m' → X (EE s) d 316 1655 [(0, zr 99 0), (1, zr 4 40), (2, zr 4 44), (3, zi y)] [] m' Q) : X (EE s) d 316 796 [(0, zr 99 0), (1, zr 4 40), (2, zr 4 44), (3, zi y)] [] m Q := by
  refine X.mok (fun hk => ?_)
  refine X.aload_n 797 i316_796 rfl rfl rfl ?_
  refine X.aload_n 798 i316_797 rfl rfl rfl ?_
  refine X.iload_n 799 i316_798 rfl rfl rfl ?_
  refine X.iconst 800 i316_799 rfl rfl (by decide) ?_
  refine X.iadd 801 i316_800 rfl rfl (by omega) ?_
  refine X.rald 802 i316_801 rfl rfl (by decide) (by show 0 ≤ _ ∧ _ < ((s.1 : Nat) : Int); omega) (fun h1 => ?_)
  refine X.ifeq 809 805 i316_802 rfl rfl rfl (fun h2 => ?_) (fun h2 => ?_)
  · refine X.iconst 810 i316_809 rfl rfl (by decide) ?_
    refine X.callv 813 [zi 0] [] [(0, zr 4 40), (1, zi 0)] i316_810 rfl (by decide) rfl rfl (by omega) rfl rfl (by decide) rfl t135 (Nat.le_of_ble_eq_true rfl) (Nat.le_of_ble_eq_true rfl) rfl ?_
    refine c135_1 (S := zS0) (m0 := m) (B := B) 0 (by omega) (J.rf hJ) (by omega) (by omega) (fun h => h) (fun h => h) (fun h => h) (fun v3 m4 hv3 hF6 hJ5 => ?_)
    show X (EE s) d 316 813 [(0, zr 99 0), (1, zr 4 40), (2, zr 4 44), (3, zi y)] [zi v3] m4 _
    refine X.pop 814 i316_813 rfl rfl rfl ?_
    refine X.aload_n 815 i316_814 rfl rfl rfl ?_
    refine X.aload_n 816 i316_815 rfl rfl rfl ?_
    refine X.iload_n 817 i316_816 rfl rfl rfl ?_
    refine X.iconst 818 i316_817 rfl rfl (by decide) ?_
    refine X.iadd 819 i316_818 rfl rfl (by omega) ?_
    refine X.rald 820 i316_819 rfl rfl (by decide) (by show 0 ≤ _ ∧ _ < ((s.1 : Nat) : Int); omega) (fun h7 => ?_)
    refine X.ifeq 827 823 i316_820 rfl rfl rfl (fun h8 => ?_) (fun h8 => ?_)
    · refine X.iconst 828 i316_827 rfl rfl (by decide) ?_
      refine X.callv 831 [zi 0] [] [(0, zr 4 44), (1, zi 0)] i316_828 rfl (by decide) rfl rfl (by omega) rfl rfl (by decide) rfl t284 (Nat.le_of_ble_eq_true rfl) (Nat.le_of_ble_eq_true rfl) rfl ?_
      refine c284_1 (S := zS0) (m0 := m4) (B := B + 1) 0 (by omega) (J.rf hJ5.jb0) (by omega) (by omega) (fun h => h) (fun h => h) (fun h => h) (fun v9 m10 hv9 hF12 hJ11 => ?_)
      show X (EE s) d 316 831 [(0, zr 99 0), (1, zr 4 40), (2, zr 4 44), (3, zi y)] [zi v9] m10 _
      refine X.pop 832 i316_831 rfl rfl rfl ?_
      refine X.goto 1655 i316_832 rfl rfl ?_
      exact K _ (hJ11.jb0.up (by omega)) (st_prepaid (by omega) hk hJ (by omega) hR hF6 hF12)
    · exfalso
      omega
  · refine X.iconst 806 i316_805 rfl rfl (by decide) ?_
    refine X.goto 810 i316_806 rfl rfl ?_
    refine X.callv 813 [zi 1] [] [(0, zr 4 40), (1, zi 1)] i316_810 rfl (by decide) rfl rfl (by omega) rfl rfl (by decide) rfl t135 (Nat.le_of_ble_eq_true rfl) (Nat.le_of_ble_eq_true rfl) rfl ?_
    refine c135_1 (S := zS0) (m0 := m) (B := B) 1 (by omega) (J.rf hJ) (by omega) (by omega) (fun h => h) (fun h => h) (fun h => h) (fun v13 m14 hv13 hF16 hJ15 => ?_)
    show X (EE s) d 316 813 [(0, zr 99 0), (1, zr 4 40), (2, zr 4 44), (3, zi y)] [zi v13] m14 _
    refine X.pop 814 i316_813 rfl rfl rfl ?_
    refine X.aload_n 815 i316_814 rfl rfl rfl ?_
    refine X.aload_n 816 i316_815 rfl rfl rfl ?_
    refine X.iload_n 817 i316_816 rfl rfl rfl ?_
    refine X.iconst 818 i316_817 rfl rfl (by decide) ?_
    refine X.iadd 819 i316_818 rfl rfl (by omega) ?_
    refine X.rald 820 i316_819 rfl rfl (by decide) (by show 0 ≤ _ ∧ _ < ((s.1 : Nat) : Int); omega) (fun h17 => ?_)
    refine X.ifeq 827 823 i316_820 rfl rfl rfl (fun h18 => ?_) (fun h18 => ?_)
    · exfalso
      omega
    · refine X.iconst 824 i316_823 rfl rfl (by decide) ?_
      refine X.goto 828 i316_824 rfl rfl ?_
      refine X.callv 831 [zi 1] [] [(0, zr 4 44), (1, zi 1)] i316_828 rfl (by decide) rfl rfl (by omega) rfl rfl (by decide) rfl t284 (Nat.le_of_ble_eq_true rfl) (Nat.le_of_ble_eq_true rfl) rfl ?_
      refine c284_1 (S := zS0) (m0 := m14) (B := B + 1) 1 (by omega) (J.rf hJ15.jb0) (by omega) (by omega) (fun h => h) (fun h => h) (fun h => h) (fun v19 m20 hv19 hF22 hJ21 => ?_)
      show X (EE s) d 316 831 [(0, zr 99 0), (1, zr 4 40), (2, zr 4 44), (3, zi y)] [zi v19] m20 _
      refine X.pop 832 i316_831 rfl rfl rfl ?_
      refine X.goto 1655 i316_832 rfl rfl ?_
      exact K _ (hJ21.jb0.up (by omega)) (st_prepaid (by omega) hk hJ (by omega) hR hF16 hF22)
theorem lw19 {s : Nat × (Nat → Int32)} {m : zM} {B : Int} {d : Nat} {Q : Option zV → zM → Prop} (y : Int) (hd : 200 ≤ d) (hJ : JB B m) (hR : Rel2 B m m) (hB : B + 220000 ≤ 1000000000) (hy : 0 ≤ y ∧ y + 6 ≤ (s.1 : Int)) (hs : s.1 ≤ 3072) (K : ∀ (m' : zM), JB (B + 220000) m' → Rel2 (B + 220000) m' m' → X (EE s) d 316 1655 [(0, zr 99 0), (1, zr 4 40), (2, zr 4 44), (3, zi y)] [] m' Q) : X (EE s) d 316 835 [(0, zr 99 0), (1, zr 4 40), (2, zr 4 44), (3, zi y)] [] m Q := by
  refine X.mok (fun hk => ?_)
  refine X.aload_n 836 i316_835 rfl rfl rfl ?_
  refine X.aload_n 837 i316_836 rfl rfl rfl ?_
  refine X.iload_n 838 i316_837 rfl rfl rfl ?_
  refine X.iconst 839 i316_838 rfl rfl (by decide) ?_
  refine X.iadd 840 i316_839 rfl rfl (by omega) ?_
  refine X.rald 841 i316_840 rfl rfl (by decide) (by show 0 ≤ _ ∧ _ < ((s.1 : Nat) : Int); omega) (fun h1 => ?_)
  refine X.callv 844 [zi (z_ro (EE s) 0 (y + 1))] [] [(0, zr 4 40), (1, zi (z_ro (EE s) 0 (y + 1)))] i316_841 rfl (by decide) rfl rfl (by omega) rfl rfl (by decide) rfl t136 (Nat.le_of_ble_eq_true rfl) (Nat.le_of_ble_eq_true rfl) rfl ?_
  refine c136_1 (S := zS0) (m0 := m) (B := B) (z_ro (EE s) 0 (y + 1)) (by omega) (J.rf hJ) (by omega) (by omega) (fun h => h) (fun h => h) (fun h => h) (fun v2 m3 hv2 hF5 hJ4 => ?_)
  show X (EE s) d 316 844 [(0, zr 99 0), (1, zr 4 40), (2, zr 4 44), (3, zi y)] [zl v2] m3 _
  refine X.pop2 845 i316_844 rfl rfl ?_
  refine X.aload_n 846 i316_845 rfl rfl rfl ?_
  refine X.aload_n 847 i316_846 rfl rfl rfl ?_
  refine X.iload_n 848 i316_847 rfl rfl rfl ?_
  refine X.iconst 849 i316_848 rfl rfl (by decide) ?_
  refine X.iadd 850 i316_849 rfl rfl (by omega) ?_
  refine X.rald 851 i316_850 rfl rfl (by decide) (by show 0 ≤ _ ∧ _ < ((s.1 : Nat) : Int); omega) (fun h6 => ?_)
  refine X.callv 854 [zi (z_ro (EE s) 0 (y + 1))] [] [(0, zr 4 44), (1, zi (z_ro (EE s) 0 (y + 1)))] i316_851 rfl (by decide) rfl rfl (by omega) rfl rfl (by decide) rfl t285 (Nat.le_of_ble_eq_true rfl) (Nat.le_of_ble_eq_true rfl) rfl ?_
  refine c285_1 (S := zS0) (m0 := m3) (B := B + 1) (z_ro (EE s) 0 (y + 1)) (by omega) (J.rf hJ4.jb0) (by omega) (by omega) (fun h => h) (fun h => h) (fun h => h) (fun v7 m8 hv7 hF10 hJ9 => ?_)
  show X (EE s) d 316 854 [(0, zr 99 0), (1, zr 4 40), (2, zr 4 44), (3, zi y)] [zl v7] m8 _
  refine X.pop2 855 i316_854 rfl rfl ?_
  refine X.goto 1655 i316_855 rfl rfl ?_
  exact K _ (hJ9.jb0.up (by omega)) (st_pay (by omega) hk hJ (by omega) hR hF5 hF10)
theorem lw20 {s : Nat × (Nat → Int32)} {m : zM} {B : Int} {d : Nat} {Q : Option zV → zM → Prop} (y : Int) (hd : 200 ≤ d) (hJ : JB B m) (hR : Rel2 B m m) (hB : B + 220000 ≤ 1000000000) (hy : 0 ≤ y ∧ y + 6 ≤ (s.1 : Int)) (hs : s.1 ≤ 3072) (K : ∀ (m' : zM), JB (B + 220000) m' → Rel2 (B + 220000) m' m' → X (EE s) d 316 1655 [(0, zr 99 0), (1, zr 4 40), (2, zr 4 44), (3, zi y)] [] m' Q) : X (EE s) d 316 858 [(0, zr 99 0), (1, zr 4 40), (2, zr 4 44), (3, zi y)] [] m Q := by
  refine X.mok (fun hk => ?_)
  refine X.aload_n 859 i316_858 rfl rfl rfl ?_
  refine X.callv 862 [] [] [(0, zr 4 40)] i316_859 rfl (by decide) rfl rfl (by omega) rfl rfl (by decide) rfl t137 (Nat.le_of_ble_eq_true rfl) (Nat.le_of_ble_eq_true rfl) rfl ?_
  refine c137_1 (S := zS0) (m0 := m) (B := B)  (by omega) (J.rf hJ) (by omega) (fun h => h) (fun h => h) (fun h => h) (fun h => h) (fun v1 m2 hv1 hF4 hJ3 => ?_)
  show X (EE s) d 316 862 [(0, zr 99 0), (1, zr 4 40), (2, zr 4 44), (3, zi y)] [zi v1] m2 _
  refine X.pop 863 i316_862 rfl rfl rfl ?_
  refine X.aload_n 864 i316_863 rfl rfl rfl ?_
  refine X.callv 867 [] [] [(0, zr 4 44)] i316_864 rfl (by decide) rfl rfl (by omega) rfl rfl (by decide) rfl t286 (Nat.le_of_ble_eq_true rfl) (Nat.le_of_ble_eq_true rfl) rfl ?_
  refine c286_1 (S := zS0) (m0 := m2) (B := B + 2)  (by omega) (J.rf hJ3.jb0) (by omega) (fun h => h) (fun h => h) (fun h => h) (fun h => h) (fun v5 m6 hv5 hF8 hJ7 => ?_)
  show X (EE s) d 316 867 [(0, zr 99 0), (1, zr 4 40), (2, zr 4 44), (3, zi y)] [zi v5] m6 _
  refine X.pop 868 i316_867 rfl rfl rfl ?_
  refine X.goto 1655 i316_868 rfl rfl ?_
  exact K _ (hJ7.jb0.up (by omega)) (st_bill  hk hJ (by omega) hR hF4 hF8)
theorem lw21 {s : Nat × (Nat → Int32)} {m : zM} {B : Int} {d : Nat} {Q : Option zV → zM → Prop} (y : Int) (hd : 200 ≤ d) (hJ : JB B m) (hR : Rel2 B m m) (hB : B + 220000 ≤ 1000000000) (hy : 0 ≤ y ∧ y + 6 ≤ (s.1 : Int)) (hs : s.1 ≤ 3072) (K : ∀ (m' : zM), JB (B + 220000) m' → Rel2 (B + 220000) m' m' → X (EE s) d 316 1655 [(0, zr 99 0), (1, zr 4 40), (2, zr 4 44), (3, zi y)] [] m' Q) : X (EE s) d 316 871 [(0, zr 99 0), (1, zr 4 40), (2, zr 4 44), (3, zi y)] [] m Q := by
  refine X.mok (fun hk => ?_)
  refine X.aload_n 872 i316_871 rfl rfl rfl ?_
  refine X.aload_n 873 i316_872 rfl rfl rfl ?_
  refine X.iload_n 874 i316_873 rfl rfl rfl ?_
  refine X.iconst 875 i316_874 rfl rfl (by decide) ?_
  refine X.iadd 876 i316_875 rfl rfl (by omega) ?_
  refine X.rald 877 i316_876 rfl rfl (by decide) (by show 0 ≤ _ ∧ _ < ((s.1 : Nat) : Int); omega) (fun h1 => ?_)
  refine X.aload_n 878 i316_877 rfl rfl rfl ?_
  refine X.iload_n 879 i316_878 rfl rfl rfl ?_
  refine X.iconst 880 i316_879 rfl rfl (by decide) ?_
  refine X.iadd 881 i316_880 rfl rfl (by omega) ?_
  refine X.rald 882 i316_881 rfl rfl (by decide) (by show 0 ≤ _ ∧ _ < ((s.1 : Nat) : Int); omega) (fun h2 => ?_)
  refine X.callv 885 [zi (z_ro (EE s) 0 (y + 1)), zi (z_ro (EE s) 0 (y + 2))] [] [(0, zr 4 40), (1, zi (z_ro (EE s) 0 (y + 1))), (2, zi (z_ro (EE s) 0 (y + 2)))] i316_882 rfl (by decide) rfl rfl (by omega) rfl rfl (by decide) rfl t140 (Nat.le_of_ble_eq_true rfl) (Nat.le_of_ble_eq_true rfl) rfl ?_
  refine c140_1 (S := zS0) (m0 := m) (B := B) (z_ro (EE s) 0 (y + 1)) (z_ro (EE s) 0 (y + 2)) (by omega) (J.rf hJ) (by omega) (by omega) (by omega) (fun v3 hv3 hF6 => ?_)
  show X (EE s) d 316 885 [(0, zr 99 0), (1, zr 4 40), (2, zr 4 44), (3, zi y)] [zl v3] m _
  refine X.pop2 886 i316_885 rfl rfl ?_
  refine X.aload_n 887 i316_886 rfl rfl rfl ?_
  refine X.aload_n 888 i316_887 rfl rfl rfl ?_
  refine X.iload_n 889 i316_888 rfl rfl rfl ?_
  refine X.iconst 890 i316_889 rfl rfl (by decide) ?_
  refine X.iadd 891 i316_890 rfl rfl (by omega) ?_
  refine X.rald 892 i316_891 rfl rfl (by decide) (by show 0 ≤ _ ∧ _ < ((s.1 : Nat) : Int); omega) (fun h7 => ?_)
  refine X.aload_n 893 i316_892 rfl rfl rfl ?_
  refine X.iload_n 894 i316_893 rfl rfl rfl ?_
  refine X.iconst 895 i316_894 rfl rfl (by decide) ?_
  refine X.iadd 896 i316_895 rfl rfl (by omega) ?_
  refine X.rald 897 i316_896 rfl rfl (by decide) (by show 0 ≤ _ ∧ _ < ((s.1 : Nat) : Int); omega) (fun h8 => ?_)
  refine X.callv 900 [zi (z_ro (EE s) 0 (y + 1)), zi (z_ro (EE s) 0 (y + 2))] [] [(0, zr 4 44), (1, zi (z_ro (EE s) 0 (y + 1))), (2, zi (z_ro (EE s) 0 (y + 2)))] i316_897 rfl (by decide) rfl rfl (by omega) rfl rfl (by decide) rfl t237 (Nat.le_of_ble_eq_true rfl) (Nat.le_of_ble_eq_true rfl) rfl ?_
  refine c237_1 (S := zS0) (m0 := m) (B := B) (z_ro (EE s) 0 (y + 1)) (z_ro (EE s) 0 (y + 2)) (by omega) (J.rf hJ) (by omega) (by omega) (by omega) (fun v9 hv9 hF12 => ?_)
  show X (EE s) d 316 900 [(0, zr 99 0), (1, zr 4 40), (2, zr 4 44), (3, zi y)] [zl v9] m _
  refine X.pop2 901 i316_900 rfl rfl ?_
  refine X.goto 1655 i316_901 rfl rfl ?_
  exact K _ (hJ.up (by omega)) (hR.up (by omega))
theorem lw22 {s : Nat × (Nat → Int32)} {m : zM} {B : Int} {d : Nat} {Q : Option zV → zM → Prop} (y : Int) (hd : 200 ≤ d) (hJ : JB B m) (hR : Rel2 B m m) (hB : B + 220000 ≤ 1000000000) (hy : 0 ≤ y ∧ y + 6 ≤ (s.1 : Int)) (hs : s.1 ≤ 3072) (K : ∀ (m' : zM), JB (B + 220000) m' → Rel2 (B + 220000) m' m' → X (EE s) d 316 1655 [(0, zr 99 0), (1, zr 4 40), (2, zr 4 44), (3, zi y)] [] m' Q) : X (EE s) d 316 904 [(0, zr 99 0), (1, zr 4 40), (2, zr 4 44), (3, zi y)] [] m Q := by
  refine X.mok (fun hk => ?_)
  refine X.aload_n 905 i316_904 rfl rfl rfl ?_
  refine X.aload_n 906 i316_905 rfl rfl rfl ?_
  refine X.iload_n 907 i316_906 rfl rfl rfl ?_
  refine X.iconst 908 i316_907 rfl rfl (by decide) ?_
  refine X.iadd 909 i316_908 rfl rfl (by omega) ?_
  refine X.rald 910 i316_909 rfl rfl (by decide) (by show 0 ≤ _ ∧ _ < ((s.1 : Nat) : Int); omega) (fun h1 => ?_)
  refine X.aload_n 911 i316_910 rfl rfl rfl ?_
  refine X.iload_n 912 i316_911 rfl rfl rfl ?_
  refine X.iconst 913 i316_912 rfl rfl (by decide) ?_
  refine X.iadd 914 i316_913 rfl rfl (by omega) ?_
  refine X.rald 915 i316_914 rfl rfl (by decide) (by show 0 ≤ _ ∧ _ < ((s.1 : Nat) : Int); omega) (fun h2 => ?_)
  refine X.callv 918 [zi (z_ro (EE s) 0 (y + 1)), zi (z_ro (EE s) 0 (y + 2))] [] [(0, zr 4 40), (1, zi (z_ro (EE s) 0 (y + 1))), (2, zi (z_ro (EE s) 0 (y + 2)))] i316_915 rfl (by decide) rfl rfl (by omega) rfl rfl (by decide) rfl t144 (Nat.le_of_ble_eq_true rfl) (Nat.le_of_ble_eq_true rfl) rfl ?_
  refine c144_1 (S := zS0) (m0 := m) (B := B) (z_ro (EE s) 0 (y + 1)) (z_ro (EE s) 0 (y + 2)) (by omega) (J.rf hJ) (by omega) (by omega) (by omega) (fun v3 hv3 hF6 => ?_)
  show X (EE s) d 316 918 [(0, zr 99 0), (1, zr 4 40), (2, zr 4 44), (3, zi y)] [zl v3] m _
  refine X.pop2 919 i316_918 rfl rfl ?_
  refine X.aload_n 920 i316_919 rfl rfl rfl ?_
  refine X.aload_n 921 i316_920 rfl rfl rfl ?_
  refine X.iload_n 922 i316_921 rfl rfl rfl ?_
  refine X.iconst 923 i316_922 rfl rfl (by decide) ?_
  refine X.iadd 924 i316_923 rfl rfl (by omega) ?_
  refine X.rald 925 i316_924 rfl rfl (by decide) (by show 0 ≤ _ ∧ _ < ((s.1 : Nat) : Int); omega) (fun h7 => ?_)
  refine X.aload_n 926 i316_925 rfl rfl rfl ?_
  refine X.iload_n 927 i316_926 rfl rfl rfl ?_
  refine X.iconst 928 i316_927 rfl rfl (by decide) ?_
  refine X.iadd 929 i316_928 rfl rfl (by omega) ?_
  refine X.rald 930 i316_929 rfl rfl (by decide) (by show 0 ≤ _ ∧ _ < ((s.1 : Nat) : Int); omega) (fun h8 => ?_)
  refine X.callv 933 [zi (z_ro (EE s) 0 (y + 1)), zi (z_ro (EE s) 0 (y + 2))] [] [(0, zr 4 44), (1, zi (z_ro (EE s) 0 (y + 1))), (2, zi (z_ro (EE s) 0 (y + 2)))] i316_930 rfl (by decide) rfl rfl (by omega) rfl rfl (by decide) rfl t295 (Nat.le_of_ble_eq_true rfl) (Nat.le_of_ble_eq_true rfl) rfl ?_
  refine c295_1 (S := zS0) (m0 := m) (B := B) (z_ro (EE s) 0 (y + 1)) (z_ro (EE s) 0 (y + 2)) (by omega) (J.rf hJ) (by omega) (by omega) (by omega) (fun v9 hv9 hF12 => ?_)
  show X (EE s) d 316 933 [(0, zr 99 0), (1, zr 4 40), (2, zr 4 44), (3, zi y)] [zl v9] m _
  refine X.pop2 934 i316_933 rfl rfl ?_
  refine X.goto 1655 i316_934 rfl rfl ?_
  exact K _ (hJ.up (by omega)) (hR.up (by omega))
theorem lw23 {s : Nat × (Nat → Int32)} {m : zM} {B : Int} {d : Nat} {Q : Option zV → zM → Prop} (y : Int) (hd : 200 ≤ d) (hJ : JB B m) (hR : Rel2 B m m) (hB : B + 220000 ≤ 1000000000) (hy : 0 ≤ y ∧ y + 6 ≤ (s.1 : Int)) (hs : s.1 ≤ 3072) (K : ∀ (m' : zM), JB (B + 220000) m' → Rel2 (B + 220000) m' m' → X (EE s) d 316 1655 [(0, zr 99 0), (1, zr 4 40), (2, zr 4 44), (3, zi y)] [] m' Q) : X (EE s) d 316 937 [(0, zr 99 0), (1, zr 4 40), (2, zr 4 44), (3, zi y)] [] m Q := by
  refine X.mok (fun hk => ?_)
  refine X.aload_n 938 i316_937 rfl rfl rfl ?_
  refine X.aload_n 939 i316_938 rfl rfl rfl ?_
  refine X.iload_n 940 i316_939 rfl rfl rfl ?_
  refine X.iconst 941 i316_940 rfl rfl (by decide) ?_
  refine X.iadd 942 i316_941 rfl rfl (by omega) ?_
  refine X.rald 943 i316_942 rfl rfl (by decide) (by show 0 ≤ _ ∧ _ < ((s.1 : Nat) : Int); omega) (fun h1 => ?_)
  refine X.aload_n 944 i316_943 rfl rfl rfl ?_
  refine X.iload_n 945 i316_944 rfl rfl rfl ?_
  refine X.iconst 946 i316_945 rfl rfl (by decide) ?_
  refine X.iadd 947 i316_946 rfl rfl (by omega) ?_
  refine X.rald 948 i316_947 rfl rfl (by decide) (by show 0 ≤ _ ∧ _ < ((s.1 : Nat) : Int); omega) (fun h2 => ?_)
  refine X.callv 951 [zi (z_ro (EE s) 0 (y + 1)), zi (z_ro (EE s) 0 (y + 2))] [] [(0, zr 4 40), (1, zi (z_ro (EE s) 0 (y + 1))), (2, zi (z_ro (EE s) 0 (y + 2)))] i316_948 rfl (by decide) rfl rfl (by omega) rfl rfl (by decide) rfl t147 (Nat.le_of_ble_eq_true rfl) (Nat.le_of_ble_eq_true rfl) rfl ?_
  refine c147_1 (S := zS0) (m0 := m) (B := B) (z_ro (EE s) 0 (y + 1)) (z_ro (EE s) 0 (y + 2)) (by omega) (J.rf hJ) (by omega) (by omega) (by omega) (fun v3 hv3 hF6 => ?_)
  show X (EE s) d 316 951 [(0, zr 99 0), (1, zr 4 40), (2, zr 4 44), (3, zi y)] [zl v3] m _
  refine X.pop2 952 i316_951 rfl rfl ?_
  refine X.aload_n 953 i316_952 rfl rfl rfl ?_
  refine X.aload_n 954 i316_953 rfl rfl rfl ?_
  refine X.iload_n 955 i316_954 rfl rfl rfl ?_
  refine X.iconst 956 i316_955 rfl rfl (by decide) ?_
  refine X.iadd 957 i316_956 rfl rfl (by omega) ?_
  refine X.rald 958 i316_957 rfl rfl (by decide) (by show 0 ≤ _ ∧ _ < ((s.1 : Nat) : Int); omega) (fun h7 => ?_)
  refine X.aload_n 959 i316_958 rfl rfl rfl ?_
  refine X.iload_n 960 i316_959 rfl rfl rfl ?_
  refine X.iconst 961 i316_960 rfl rfl (by decide) ?_
  refine X.iadd 962 i316_961 rfl rfl (by omega) ?_
  refine X.rald 963 i316_962 rfl rfl (by decide) (by show 0 ≤ _ ∧ _ < ((s.1 : Nat) : Int); omega) (fun h8 => ?_)
  refine X.callv 966 [zi (z_ro (EE s) 0 (y + 1)), zi (z_ro (EE s) 0 (y + 2))] [] [(0, zr 4 44), (1, zi (z_ro (EE s) 0 (y + 1))), (2, zi (z_ro (EE s) 0 (y + 2)))] i316_963 rfl (by decide) rfl rfl (by omega) rfl rfl (by decide) rfl t296 (Nat.le_of_ble_eq_true rfl) (Nat.le_of_ble_eq_true rfl) rfl ?_
  refine c296_1 (S := zS0) (m0 := m) (B := B) (z_ro (EE s) 0 (y + 1)) (z_ro (EE s) 0 (y + 2)) (by omega) (J.rf hJ) (by omega) (by omega) (by omega) (fun v9 hv9 hF12 => ?_)
  show X (EE s) d 316 966 [(0, zr 99 0), (1, zr 4 40), (2, zr 4 44), (3, zi y)] [zl v9] m _
  refine X.pop2 967 i316_966 rfl rfl ?_
  refine X.goto 1655 i316_967 rfl rfl ?_
  exact K _ (hJ.up (by omega)) (hR.up (by omega))
theorem lw24 {s : Nat × (Nat → Int32)} {m : zM} {B : Int} {d : Nat} {Q : Option zV → zM → Prop} (y : Int) (hd : 200 ≤ d) (hJ : JB B m) (hR : Rel2 B m m) (hB : B + 220000 ≤ 1000000000) (hy : 0 ≤ y ∧ y + 6 ≤ (s.1 : Int)) (hs : s.1 ≤ 3072) (K : ∀ (m' : zM), JB (B + 220000) m' → Rel2 (B + 220000) m' m' → X (EE s) d 316 1655 [(0, zr 99 0), (1, zr 4 40), (2, zr 4 44), (3, zi y)] [] m' Q) : X (EE s) d 316 970 [(0, zr 99 0), (1, zr 4 40), (2, zr 4 44), (3, zi y)] [] m Q := by
  refine X.mok (fun hk => ?_)
  refine X.aload_n 971 i316_970 rfl rfl rfl ?_
  refine X.aload_n 972 i316_971 rfl rfl rfl ?_
  refine X.iload_n 973 i316_972 rfl rfl rfl ?_
  refine X.iconst 974 i316_973 rfl rfl (by decide) ?_
  refine X.iadd 975 i316_974 rfl rfl (by omega) ?_
  refine X.rald 976 i316_975 rfl rfl (by decide) (by show 0 ≤ _ ∧ _ < ((s.1 : Nat) : Int); omega) (fun h1 => ?_)
  refine X.callv 979 [zi (z_ro (EE s) 0 (y + 1))] [] [(0, zr 4 40), (1, zi (z_ro (EE s) 0 (y + 1)))] i316_976 rfl (by decide) rfl rfl (by omega) rfl rfl (by decide) rfl t148 (Nat.le_of_ble_eq_true rfl) (Nat.le_of_ble_eq_true rfl) rfl ?_
  refine c148_1 (S := zS0) (m0 := m) (B := B) (z_ro (EE s) 0 (y + 1)) (by omega) (J.rf hJ) (by omega) (by omega) (fun v2 hv2 hF5 => ?_)
  show X (EE s) d 316 979 [(0, zr 99 0), (1, zr 4 40), (2, zr 4 44), (3, zi y)] [zi v2] m _
  refine X.pop 980 i316_979 rfl rfl rfl ?_
  refine X.aload_n 981 i316_980 rfl rfl rfl ?_
  refine X.aload_n 982 i316_981 rfl rfl rfl ?_
  refine X.iload_n 983 i316_982 rfl rfl rfl ?_
  refine X.iconst 984 i316_983 rfl rfl (by decide) ?_
  refine X.iadd 985 i316_984 rfl rfl (by omega) ?_
  refine X.rald 986 i316_985 rfl rfl (by decide) (by show 0 ≤ _ ∧ _ < ((s.1 : Nat) : Int); omega) (fun h6 => ?_)
  refine X.callv 989 [zi (z_ro (EE s) 0 (y + 1))] [] [(0, zr 4 44), (1, zi (z_ro (EE s) 0 (y + 1)))] i316_986 rfl (by decide) rfl rfl (by omega) rfl rfl (by decide) rfl t250 (Nat.le_of_ble_eq_true rfl) (Nat.le_of_ble_eq_true rfl) rfl ?_
  refine c250_1 (S := zS0) (m0 := m) (B := B) (z_ro (EE s) 0 (y + 1)) (by omega) (J.rf hJ) (by omega) (by omega) (fun v7 hv7 hF10 => ?_)
  show X (EE s) d 316 989 [(0, zr 99 0), (1, zr 4 40), (2, zr 4 44), (3, zi y)] [zi v7] m _
  refine X.pop 990 i316_989 rfl rfl rfl ?_
  refine X.goto 1655 i316_990 rfl rfl ?_
  exact K _ (hJ.up (by omega)) (hR.up (by omega))
theorem lw25 {s : Nat × (Nat → Int32)} {m : zM} {B : Int} {d : Nat} {Q : Option zV → zM → Prop} (y : Int) (hd : 200 ≤ d) (hJ : JB B m) (hR : Rel2 B m m) (hB : B + 220000 ≤ 1000000000) (hy : 0 ≤ y ∧ y + 6 ≤ (s.1 : Int)) (hs : s.1 ≤ 3072) (K : ∀ (m' : zM), JB (B + 220000) m' → Rel2 (B + 220000) m' m' → X (EE s) d 316 1655 [(0, zr 99 0), (1, zr 4 40), (2, zr 4 44), (3, zi y)] [] m' Q) : X (EE s) d 316 993 [(0, zr 99 0), (1, zr 4 40), (2, zr 4 44), (3, zi y)] [] m Q := by
  refine X.mok (fun hk => ?_)
  refine X.aload_n 994 i316_993 rfl rfl rfl ?_
  refine X.aload_n 995 i316_994 rfl rfl rfl ?_
  refine X.iload_n 996 i316_995 rfl rfl rfl ?_
  refine X.iconst 997 i316_996 rfl rfl (by decide) ?_
  refine X.iadd 998 i316_997 rfl rfl (by omega) ?_
  refine X.rald 999 i316_998 rfl rfl (by decide) (by show 0 ≤ _ ∧ _ < ((s.1 : Nat) : Int); omega) (fun h1 => ?_)
  refine X.callv 1002 [zi (z_ro (EE s) 0 (y + 1))] [] [(0, zr 4 40), (1, zi (z_ro (EE s) 0 (y + 1)))] i316_999 rfl (by decide) rfl rfl (by omega) rfl rfl (by decide) rfl t149 (Nat.le_of_ble_eq_true rfl) (Nat.le_of_ble_eq_true rfl) rfl ?_
  refine c149_1 (S := zS0) (m0 := m) (B := B) (z_ro (EE s) 0 (y + 1)) (by omega) (J.rf hJ) (by omega) (by omega) (fun v2 hv2 hF5 => ?_)
  show X (EE s) d 316 1002 [(0, zr 99 0), (1, zr 4 40), (2, zr 4 44), (3, zi y)] [zi v2] m _
  refine X.aload_n 1003 i316_1002 rfl rfl rfl ?_
  refine X.aload_n 1004 i316_1003 rfl rfl rfl ?_
  refine X.iload_n 1005 i316_1004 rfl rfl rfl ?_
  refine X.iconst 1006 i316_1005 rfl rfl (by decide) ?_
  refine X.iadd 1007 i316_1006 rfl rfl (by omega) ?_
  refine X.rald 1008 i316_1007 rfl rfl (by decide) (by show 0 ≤ _ ∧ _ < ((s.1 : Nat) : Int); omega) (fun h6 => ?_)
  refine X.callv 1011 [zi (z_ro (EE s) 0 (y + 1))] [zi v2] [(0, zr 4 44), (1, zi (z_ro (EE s) 0 (y + 1)))] i316_1008 rfl (by decide) rfl rfl (by omega) rfl rfl (by decide) rfl t251 (Nat.le_of_ble_eq_true rfl) (Nat.le_of_ble_eq_true rfl) rfl ?_
  refine c251_1 (S := zS0) (m0 := m) (B := B) (z_ro (EE s) 0 (y + 1)) (by omega) (J.rf hJ) (by omega) (by omega) (fun v7 hv7 hF10 => ?_)
  show X (EE s) d 316 1011 [(0, zr 99 0), (1, zr 4 40), (2, zr 4 44), (3, zi y)] [zi v7, zi v2] m _
  refine X.icmpeq 1655 1014 i316_1011 rfl rfl rfl (fun h11 => ?_) (fun h11 => ?_)
  · exact K _ (hJ.up (by omega)) (hR.up (by omega))
  · exact absurd (hF5.symm.trans ((an_tableOf ⟨hk, hJ⟩ (by omega) hR).trans hF10)) h11
theorem lw26 {s : Nat × (Nat → Int32)} {m : zM} {B : Int} {d : Nat} {Q : Option zV → zM → Prop} (y : Int) (hd : 200 ≤ d) (hJ : JB B m) (hR : Rel2 B m m) (hB : B + 220000 ≤ 1000000000) (hy : 0 ≤ y ∧ y + 6 ≤ (s.1 : Int)) (hs : s.1 ≤ 3072) (K : ∀ (m' : zM), JB (B + 220000) m' → Rel2 (B + 220000) m' m' → X (EE s) d 316 1655 [(0, zr 99 0), (1, zr 4 40), (2, zr 4 44), (3, zi y)] [] m' Q) : X (EE s) d 316 1016 [(0, zr 99 0), (1, zr 4 40), (2, zr 4 44), (3, zi y)] [] m Q := by
  refine X.mok (fun hk => ?_)
  refine X.aload_n 1017 i316_1016 rfl rfl rfl ?_
  refine X.aload_n 1018 i316_1017 rfl rfl rfl ?_
  refine X.iload_n 1019 i316_1018 rfl rfl rfl ?_
  refine X.iconst 1020 i316_1019 rfl rfl (by decide) ?_
  refine X.iadd 1021 i316_1020 rfl rfl (by omega) ?_
  refine X.rald 1022 i316_1021 rfl rfl (by decide) (by show 0 ≤ _ ∧ _ < ((s.1 : Nat) : Int); omega) (fun h1 => ?_)
  refine X.aload_n 1023 i316_1022 rfl rfl rfl ?_
  refine X.iload_n 1024 i316_1023 rfl rfl rfl ?_
  refine X.iconst 1025 i316_1024 rfl rfl (by decide) ?_
  refine X.iadd 1026 i316_1025 rfl rfl (by omega) ?_
  refine X.rald 1027 i316_1026 rfl rfl (by decide) (by show 0 ≤ _ ∧ _ < ((s.1 : Nat) : Int); omega) (fun h2 => ?_)
  refine X.aload_n 1028 i316_1027 rfl rfl rfl ?_
  refine X.iload_n 1029 i316_1028 rfl rfl rfl ?_
  refine X.iconst 1030 i316_1029 rfl rfl (by decide) ?_
  refine X.iadd 1031 i316_1030 rfl rfl (by omega) ?_
  refine X.rald 1032 i316_1031 rfl rfl (by decide) (by show 0 ≤ _ ∧ _ < ((s.1 : Nat) : Int); omega) (fun h3 => ?_)
  refine X.callv 1035 [zi (z_ro (EE s) 0 (y + 1)), zi (z_ro (EE s) 0 (y + 2)), zi (z_ro (EE s) 0 (y + 3))] [] [(0, zr 4 40), (1, zi (z_ro (EE s) 0 (y + 1))), (2, zi (z_ro (EE s) 0 (y + 2))), (3, zi (z_ro (EE s) 0 (y + 3)))] i316_1032 rfl (by decide) rfl rfl (by omega) rfl rfl (by decide) rfl t151 (Nat.le_of_ble_eq_true rfl) (Nat.le_of_ble_eq_true rfl) rfl ?_
  refine c151_1 (S := zS0) (m0 := m) (B := B) (z_ro (EE s) 0 (y + 1)) (z_ro (EE s) 0 (y + 2)) (z_ro (EE s) 0 (y + 3)) (by omega) (J.rf hJ) (by omega) (by omega) (by omega) (by omega) (fun v4 hv4 hF7 => ?_)
  show X (EE s) d 316 1035 [(0, zr 99 0), (1, zr 4 40), (2, zr 4 44), (3, zi y)] [zi v4] m _
  refine X.pop 1036 i316_1035 rfl rfl rfl ?_
  refine X.aload_n 1037 i316_1036 rfl rfl rfl ?_
  refine X.aload_n 1038 i316_1037 rfl rfl rfl ?_
  refine X.iload_n 1039 i316_1038 rfl rfl rfl ?_
  refine X.iconst 1040 i316_1039 rfl rfl (by decide) ?_
  refine X.iadd 1041 i316_1040 rfl rfl (by omega) ?_
  refine X.rald 1042 i316_1041 rfl rfl (by decide) (by show 0 ≤ _ ∧ _ < ((s.1 : Nat) : Int); omega) (fun h8 => ?_)
  refine X.aload_n 1043 i316_1042 rfl rfl rfl ?_
  refine X.iload_n 1044 i316_1043 rfl rfl rfl ?_
  refine X.iconst 1045 i316_1044 rfl rfl (by decide) ?_
  refine X.iadd 1046 i316_1045 rfl rfl (by omega) ?_
  refine X.rald 1047 i316_1046 rfl rfl (by decide) (by show 0 ≤ _ ∧ _ < ((s.1 : Nat) : Int); omega) (fun h9 => ?_)
  refine X.aload_n 1048 i316_1047 rfl rfl rfl ?_
  refine X.iload_n 1049 i316_1048 rfl rfl rfl ?_
  refine X.iconst 1050 i316_1049 rfl rfl (by decide) ?_
  refine X.iadd 1051 i316_1050 rfl rfl (by omega) ?_
  refine X.rald 1052 i316_1051 rfl rfl (by decide) (by show 0 ≤ _ ∧ _ < ((s.1 : Nat) : Int); omega) (fun h10 => ?_)
  refine X.callv 1055 [zi (z_ro (EE s) 0 (y + 1)), zi (z_ro (EE s) 0 (y + 2)), zi (z_ro (EE s) 0 (y + 3))] [] [(0, zr 4 44), (1, zi (z_ro (EE s) 0 (y + 1))), (2, zi (z_ro (EE s) 0 (y + 2))), (3, zi (z_ro (EE s) 0 (y + 3)))] i316_1052 rfl (by decide) rfl rfl (by omega) rfl rfl (by decide) rfl t252 (Nat.le_of_ble_eq_true rfl) (Nat.le_of_ble_eq_true rfl) rfl ?_
  refine c252_1 (S := zS0) (m0 := m) (B := B) (z_ro (EE s) 0 (y + 1)) (z_ro (EE s) 0 (y + 2)) (z_ro (EE s) 0 (y + 3)) (by omega) (J.rf hJ) (by omega) (by omega) (by omega) (by omega) (fun v11 hv11 hF14 => ?_)
  show X (EE s) d 316 1055 [(0, zr 99 0), (1, zr 4 40), (2, zr 4 44), (3, zi y)] [zi v11] m _
  refine X.pop 1056 i316_1055 rfl rfl rfl ?_
  refine X.goto 1655 i316_1056 rfl rfl ?_
  exact K _ (hJ.up (by omega)) (hR.up (by omega))
theorem lw27 {s : Nat × (Nat → Int32)} {m : zM} {B : Int} {d : Nat} {Q : Option zV → zM → Prop} (y : Int) (hd : 200 ≤ d) (hJ : JB B m) (hR : Rel2 B m m) (hB : B + 220000 ≤ 1000000000) (hy : 0 ≤ y ∧ y + 6 ≤ (s.1 : Int)) (hs : s.1 ≤ 3072) (K : ∀ (m' : zM), JB (B + 220000) m' → Rel2 (B + 220000) m' m' → X (EE s) d 316 1655 [(0, zr 99 0), (1, zr 4 40), (2, zr 4 44), (3, zi y)] [] m' Q) : X (EE s) d 316 1059 [(0, zr 99 0), (1, zr 4 40), (2, zr 4 44), (3, zi y)] [] m Q := by
  refine X.mok (fun hk => ?_)
  refine X.aload_n 1060 i316_1059 rfl rfl rfl ?_
  refine X.aload_n 1061 i316_1060 rfl rfl rfl ?_
  refine X.iload_n 1062 i316_1061 rfl rfl rfl ?_
  refine X.iconst 1063 i316_1062 rfl rfl (by decide) ?_
  refine X.iadd 1064 i316_1063 rfl rfl (by omega) ?_
  refine X.rald 1065 i316_1064 rfl rfl (by decide) (by show 0 ≤ _ ∧ _ < ((s.1 : Nat) : Int); omega) (fun h1 => ?_)
  refine X.callv 1068 [zi (z_ro (EE s) 0 (y + 1))] [] [(0, zr 4 40), (1, zi (z_ro (EE s) 0 (y + 1)))] i316_1065 rfl (by decide) rfl rfl (by omega) rfl rfl (by decide) rfl t152 (Nat.le_of_ble_eq_true rfl) (Nat.le_of_ble_eq_true rfl) rfl ?_
  refine c152_1 (S := zS0) (m0 := m) (B := B) (z_ro (EE s) 0 (y + 1)) (by omega) (J.rf hJ) (by omega) (by omega) (fun v2 hv2 hF5 => ?_)
  show X (EE s) d 316 1068 [(0, zr 99 0), (1, zr 4 40), (2, zr 4 44), (3, zi y)] [zi v2] m _
  refine X.pop 1069 i316_1068 rfl rfl rfl ?_
  refine X.aload_n 1070 i316_1069 rfl rfl rfl ?_
  refine X.aload_n 1071 i316_1070 rfl rfl rfl ?_
  refine X.iload_n 1072 i316_1071 rfl rfl rfl ?_
  refine X.iconst 1073 i316_1072 rfl rfl (by decide) ?_
  refine X.iadd 1074 i316_1073 rfl rfl (by omega) ?_
  refine X.rald 1075 i316_1074 rfl rfl (by decide) (by show 0 ≤ _ ∧ _ < ((s.1 : Nat) : Int); omega) (fun h6 => ?_)
  refine X.callv 1078 [zi (z_ro (EE s) 0 (y + 1))] [] [(0, zr 4 44), (1, zi (z_ro (EE s) 0 (y + 1)))] i316_1075 rfl (by decide) rfl rfl (by omega) rfl rfl (by decide) rfl t254 (Nat.le_of_ble_eq_true rfl) (Nat.le_of_ble_eq_true rfl) rfl ?_
  refine c254_1 (S := zS0) (m0 := m) (B := B) (z_ro (EE s) 0 (y + 1)) (by omega) (J.rf hJ) (by omega) (by omega) (fun v7 hv7 hF10 => ?_)
  show X (EE s) d 316 1078 [(0, zr 99 0), (1, zr 4 40), (2, zr 4 44), (3, zi y)] [zi v7] m _
  refine X.pop 1079 i316_1078 rfl rfl rfl ?_
  refine X.goto 1655 i316_1079 rfl rfl ?_
  exact K _ (hJ.up (by omega)) (hR.up (by omega))
theorem lw28 {s : Nat × (Nat → Int32)} {m : zM} {B : Int} {d : Nat} {Q : Option zV → zM → Prop} (y : Int) (hd : 200 ≤ d) (hJ : JB B m) (hR : Rel2 B m m) (hB : B + 220000 ≤ 1000000000) (hy : 0 ≤ y ∧ y + 6 ≤ (s.1 : Int)) (hs : s.1 ≤ 3072) (K : ∀ (m' : zM), JB (B + 220000) m' → Rel2 (B + 220000) m' m' → X (EE s) d 316 1655 [(0, zr 99 0), (1, zr 4 40), (2, zr 4 44), (3, zi y)] [] m' Q) : X (EE s) d 316 1082 [(0, zr 99 0), (1, zr 4 40), (2, zr 4 44), (3, zi y)] [] m Q := by
  refine X.mok (fun hk => ?_)
  refine X.aload_n 1083 i316_1082 rfl rfl rfl ?_
  refine X.aload_n 1084 i316_1083 rfl rfl rfl ?_
  refine X.iload_n 1085 i316_1084 rfl rfl rfl ?_
  refine X.iconst 1086 i316_1085 rfl rfl (by decide) ?_
  refine X.iadd 1087 i316_1086 rfl rfl (by omega) ?_
  refine X.rald 1088 i316_1087 rfl rfl (by decide) (by show 0 ≤ _ ∧ _ < ((s.1 : Nat) : Int); omega) (fun h1 => ?_)
  refine X.aload_n 1089 i316_1088 rfl rfl rfl ?_
  refine X.iload_n 1090 i316_1089 rfl rfl rfl ?_
  refine X.iconst 1091 i316_1090 rfl rfl (by decide) ?_
  refine X.iadd 1092 i316_1091 rfl rfl (by omega) ?_
  refine X.rald 1093 i316_1092 rfl rfl (by decide) (by show 0 ≤ _ ∧ _ < ((s.1 : Nat) : Int); omega) (fun h2 => ?_)
  refine X.callv 1096 [zi (z_ro (EE s) 0 (y + 1)), zi (z_ro (EE s) 0 (y + 2))] [] [(0, zr 4 40), (1, zi (z_ro (EE s) 0 (y + 1))), (2, zi (z_ro (EE s) 0 (y + 2)))] i316_1093 rfl (by decide) rfl rfl (by omega) rfl rfl (by decide) rfl t154 (Nat.le_of_ble_eq_true rfl) (Nat.le_of_ble_eq_true rfl) rfl ?_
  refine c154_1 (S := zS0) (m0 := m) (B := B) (z_ro (EE s) 0 (y + 1)) (z_ro (EE s) 0 (y + 2)) (by omega) (J.rf hJ) (by omega) (by omega) (by omega) (fun v3 hv3 hF6 => ?_)
  show X (EE s) d 316 1096 [(0, zr 99 0), (1, zr 4 40), (2, zr 4 44), (3, zi y)] [zi v3] m _
  refine X.pop 1097 i316_1096 rfl rfl rfl ?_
  refine X.aload_n 1098 i316_1097 rfl rfl rfl ?_
  refine X.aload_n 1099 i316_1098 rfl rfl rfl ?_
  refine X.iload_n 1100 i316_1099 rfl rfl rfl ?_
  refine X.iconst 1101 i316_1100 rfl rfl (by decide) ?_
  refine X.iadd 1102 i316_1101 rfl rfl (by omega) ?_
  refine X.rald 1103 i316_1102 rfl rfl (by decide) (by show 0 ≤ _ ∧ _ < ((s.1 : Nat) : Int); omega) (fun h7 => ?_)
  refine X.aload_n 1104 i316_1103 rfl rfl rfl ?_
  refine X.iload_n 1105 i316_1104 rfl rfl rfl ?_
  refine X.iconst 1106 i316_1105 rfl rfl (by decide) ?_
  refine X.iadd 1107 i316_1106 rfl rfl (by omega) ?_
  refine X.rald 1108 i316_1107 rfl rfl (by decide) (by show 0 ≤ _ ∧ _ < ((s.1 : Nat) : Int); omega) (fun h8 => ?_)
  refine X.callv 1111 [zi (z_ro (EE s) 0 (y + 1)), zi (z_ro (EE s) 0 (y + 2))] [] [(0, zr 4 44), (1, zi (z_ro (EE s) 0 (y + 1))), (2, zi (z_ro (EE s) 0 (y + 2)))] i316_1108 rfl (by decide) rfl rfl (by omega) rfl rfl (by decide) rfl t297 (Nat.le_of_ble_eq_true rfl) (Nat.le_of_ble_eq_true rfl) rfl ?_
  refine c297_1 (S := zS0) (m0 := m) (B := B) (z_ro (EE s) 0 (y + 1)) (z_ro (EE s) 0 (y + 2)) (by omega) (J.rf hJ) (by omega) (by omega) (by omega) (fun v9 hv9 hF12 => ?_)
  show X (EE s) d 316 1111 [(0, zr 99 0), (1, zr 4 40), (2, zr 4 44), (3, zi y)] [zi v9] m _
  refine X.pop 1112 i316_1111 rfl rfl rfl ?_
  refine X.goto 1655 i316_1112 rfl rfl ?_
  exact K _ (hJ.up (by omega)) (hR.up (by omega))
theorem lw29 {s : Nat × (Nat → Int32)} {m : zM} {B : Int} {d : Nat} {Q : Option zV → zM → Prop} (y : Int) (hd : 200 ≤ d) (hJ : JB B m) (hR : Rel2 B m m) (hB : B + 220000 ≤ 1000000000) (hy : 0 ≤ y ∧ y + 6 ≤ (s.1 : Int)) (hs : s.1 ≤ 3072) (K : ∀ (m' : zM), JB (B + 220000) m' → Rel2 (B + 220000) m' m' → X (EE s) d 316 1655 [(0, zr 99 0), (1, zr 4 40), (2, zr 4 44), (3, zi y)] [] m' Q) : X (EE s) d 316 1115 [(0, zr 99 0), (1, zr 4 40), (2, zr 4 44), (3, zi y)] [] m Q := by
  refine X.mok (fun hk => ?_)
  refine X.aload_n 1116 i316_1115 rfl rfl rfl ?_
  refine X.aload_n 1117 i316_1116 rfl rfl rfl ?_
  refine X.iload_n 1118 i316_1117 rfl rfl rfl ?_
  refine X.iconst 1119 i316_1118 rfl rfl (by decide) ?_
  refine X.iadd 1120 i316_1119 rfl rfl (by omega) ?_
  refine X.rald 1121 i316_1120 rfl rfl (by decide) (by show 0 ≤ _ ∧ _ < ((s.1 : Nat) : Int); omega) (fun h1 => ?_)
  refine X.aload_n 1122 i316_1121 rfl rfl rfl ?_
  refine X.iload_n 1123 i316_1122 rfl rfl rfl ?_
  refine X.iconst 1124 i316_1123 rfl rfl (by decide) ?_
  refine X.iadd 1125 i316_1124 rfl rfl (by omega) ?_
  refine X.rald 1126 i316_1125 rfl rfl (by decide) (by show 0 ≤ _ ∧ _ < ((s.1 : Nat) : Int); omega) (fun h2 => ?_)
  refine X.callv 1129 [zi (z_ro (EE s) 0 (y + 1)), zi (z_ro (EE s) 0 (y + 2))] [] [(0, zr 4 40), (1, zi (z_ro (EE s) 0 (y + 1))), (2, zi (z_ro (EE s) 0 (y + 2)))] i316_1126 rfl (by decide) rfl rfl (by omega) rfl rfl (by decide) rfl t155 (Nat.le_of_ble_eq_true rfl) (Nat.le_of_ble_eq_true rfl) rfl ?_
  refine c155_1 (S := zS0) (m0 := m) (B := B) (z_ro (EE s) 0 (y + 1)) (z_ro (EE s) 0 (y + 2)) (by omega) (J.rf hJ) (by omega) (by omega) (by omega) (fun v3 hv3 hF6 => ?_)
  show X (EE s) d 316 1129 [(0, zr 99 0), (1, zr 4 40), (2, zr 4 44), (3, zi y)] [zl v3] m _
  refine X.pop2 1130 i316_1129 rfl rfl ?_
  refine X.aload_n 1131 i316_1130 rfl rfl rfl ?_
  refine X.aload_n 1132 i316_1131 rfl rfl rfl ?_
  refine X.iload_n 1133 i316_1132 rfl rfl rfl ?_
  refine X.iconst 1134 i316_1133 rfl rfl (by decide) ?_
  refine X.iadd 1135 i316_1134 rfl rfl (by omega) ?_
  refine X.rald 1136 i316_1135 rfl rfl (by decide) (by show 0 ≤ _ ∧ _ < ((s.1 : Nat) : Int); omega) (fun h7 => ?_)
  refine X.aload_n 1137 i316_1136 rfl rfl rfl ?_
  refine X.iload_n 1138 i316_1137 rfl rfl rfl ?_
  refine X.iconst 1139 i316_1138 rfl rfl (by decide) ?_
  refine X.iadd 1140 i316_1139 rfl rfl (by omega) ?_
  refine X.rald 1141 i316_1140 rfl rfl (by decide) (by show 0 ≤ _ ∧ _ < ((s.1 : Nat) : Int); omega) (fun h8 => ?_)
  refine X.callv 1144 [zi (z_ro (EE s) 0 (y + 1)), zi (z_ro (EE s) 0 (y + 2))] [] [(0, zr 4 44), (1, zi (z_ro (EE s) 0 (y + 1))), (2, zi (z_ro (EE s) 0 (y + 2)))] i316_1141 rfl (by decide) rfl rfl (by omega) rfl rfl (by decide) rfl t298 (Nat.le_of_ble_eq_true rfl) (Nat.le_of_ble_eq_true rfl) rfl ?_
  refine c298_1 (S := zS0) (m0 := m) (B := B) (z_ro (EE s) 0 (y + 1)) (z_ro (EE s) 0 (y + 2)) (by omega) (J.rf hJ) (by omega) (by omega) (by omega) (fun v9 hv9 hF12 => ?_)
  show X (EE s) d 316 1144 [(0, zr 99 0), (1, zr 4 40), (2, zr 4 44), (3, zi y)] [zl v9] m _
  refine X.pop2 1145 i316_1144 rfl rfl ?_
  refine X.goto 1655 i316_1145 rfl rfl ?_
  exact K _ (hJ.up (by omega)) (hR.up (by omega))
theorem lw30 {s : Nat × (Nat → Int32)} {m : zM} {B : Int} {d : Nat} {Q : Option zV → zM → Prop} (y : Int) (hd : 200 ≤ d) (hJ : JB B m) (hR : Rel2 B m m) (hB : B + 220000 ≤ 1000000000) (hy : 0 ≤ y ∧ y + 6 ≤ (s.1 : Int)) (hs : s.1 ≤ 3072) (K : ∀ (m' : zM), JB (B + 220000) m' → Rel2 (B + 220000) m' m' → X (EE s) d 316 1655 [(0, zr 99 0), (1, zr 4 40), (2, zr 4 44), (3, zi y)] [] m' Q) : X (EE s) d 316 1148 [(0, zr 99 0), (1, zr 4 40), (2, zr 4 44), (3, zi y)] [] m Q := by
  refine X.mok (fun hk => ?_)
  refine X.aload_n 1149 i316_1148 rfl rfl rfl ?_
  refine X.aload_n 1150 i316_1149 rfl rfl rfl ?_
  refine X.iload_n 1151 i316_1150 rfl rfl rfl ?_
  refine X.iconst 1152 i316_1151 rfl rfl (by decide) ?_
  refine X.iadd 1153 i316_1152 rfl rfl (by omega) ?_
  refine X.rald 1154 i316_1153 rfl rfl (by decide) (by show 0 ≤ _ ∧ _ < ((s.1 : Nat) : Int); omega) (fun h1 => ?_)
  refine X.callv 1157 [zi (z_ro (EE s) 0 (y + 1))] [] [(0, zr 4 40), (1, zi (z_ro (EE s) 0 (y + 1)))] i316_1154 rfl (by decide) rfl rfl (by omega) rfl rfl (by decide) rfl t156 (Nat.le_of_ble_eq_true rfl) (Nat.le_of_ble_eq_true rfl) rfl ?_
  refine c156_1 (S := zS0) (m0 := m) (B := B) (z_ro (EE s) 0 (y + 1)) (by omega) (J.rf hJ) (by omega) (by omega) (fun v2 hv2 hF5 => ?_)
  show X (EE s) d 316 1157 [(0, zr 99 0), (1, zr 4 40), (2, zr 4 44), (3, zi y)] [zl v2] m _
  refine X.pop2 1158 i316_1157 rfl rfl ?_
  refine X.aload_n 1159 i316_1158 rfl rfl rfl ?_
  refine X.aload_n 1160 i316_1159 rfl rfl rfl ?_
  refine X.iload_n 1161 i316_1160 rfl rfl rfl ?_
  refine X.iconst 1162 i316_1161 rfl rfl (by decide) ?_
  refine X.iadd 1163 i316_1162 rfl rfl (by omega) ?_
  refine X.rald 1164 i316_1163 rfl rfl (by decide) (by show 0 ≤ _ ∧ _ < ((s.1 : Nat) : Int); omega) (fun h6 => ?_)
  refine X.callv 1167 [zi (z_ro (EE s) 0 (y + 1))] [] [(0, zr 4 44), (1, zi (z_ro (EE s) 0 (y + 1)))] i316_1164 rfl (by decide) rfl rfl (by omega) rfl rfl (by decide) rfl t299 (Nat.le_of_ble_eq_true rfl) (Nat.le_of_ble_eq_true rfl) rfl ?_
  refine c299_1 (S := zS0) (m0 := m) (B := B) (z_ro (EE s) 0 (y + 1)) (by omega) (J.rf hJ) (by omega) (by omega) (fun v7 hv7 hF10 => ?_)
  show X (EE s) d 316 1167 [(0, zr 99 0), (1, zr 4 40), (2, zr 4 44), (3, zi y)] [zl v7] m _
  refine X.pop2 1168 i316_1167 rfl rfl ?_
  refine X.goto 1655 i316_1168 rfl rfl ?_
  exact K _ (hJ.up (by omega)) (hR.up (by omega))
theorem lw31 {s : Nat × (Nat → Int32)} {m : zM} {B : Int} {d : Nat} {Q : Option zV → zM → Prop} (y : Int) (hd : 200 ≤ d) (hJ : JB B m) (hR : Rel2 B m m) (hB : B + 220000 ≤ 1000000000) (hy : 0 ≤ y ∧ y + 6 ≤ (s.1 : Int)) (hs : s.1 ≤ 3072) (K : ∀ (m' : zM), JB (B + 220000) m' → Rel2 (B + 220000) m' m' → X (EE s) d 316 1655 [(0, zr 99 0), (1, zr 4 40), (2, zr 4 44), (3, zi y)] [] m' Q) : X (EE s) d 316 1171 [(0, zr 99 0), (1, zr 4 40), (2, zr 4 44), (3, zi y)] [] m Q := by
  refine X.mok (fun hk => ?_)
  refine X.aload_n 1172 i316_1171 rfl rfl rfl ?_
  refine X.aload_n 1173 i316_1172 rfl rfl rfl ?_
  refine X.iload_n 1174 i316_1173 rfl rfl rfl ?_
  refine X.iconst 1175 i316_1174 rfl rfl (by decide) ?_
  refine X.iadd 1176 i316_1175 rfl rfl (by omega) ?_
  refine X.rald 1177 i316_1176 rfl rfl (by decide) (by show 0 ≤ _ ∧ _ < ((s.1 : Nat) : Int); omega) (fun h1 => ?_)
  refine X.callv 1180 [zi (z_ro (EE s) 0 (y + 1))] [] [(0, zr 4 40), (1, zi (z_ro (EE s) 0 (y + 1)))] i316_1177 rfl (by decide) rfl rfl (by omega) rfl rfl (by decide) rfl t157 (Nat.le_of_ble_eq_true rfl) (Nat.le_of_ble_eq_true rfl) rfl ?_
  refine c157_1 (S := zS0) (m0 := m) (B := B) (z_ro (EE s) 0 (y + 1)) (by omega) (J.rf hJ) (by omega) (by omega) (fun v2 hv2 hF5 => ?_)
  show X (EE s) d 316 1180 [(0, zr 99 0), (1, zr 4 40), (2, zr 4 44), (3, zi y)] [zl v2] m _
  refine X.pop2 1181 i316_1180 rfl rfl ?_
  refine X.aload_n 1182 i316_1181 rfl rfl rfl ?_
  refine X.aload_n 1183 i316_1182 rfl rfl rfl ?_
  refine X.iload_n 1184 i316_1183 rfl rfl rfl ?_
  refine X.iconst 1185 i316_1184 rfl rfl (by decide) ?_
  refine X.iadd 1186 i316_1185 rfl rfl (by omega) ?_
  refine X.rald 1187 i316_1186 rfl rfl (by decide) (by show 0 ≤ _ ∧ _ < ((s.1 : Nat) : Int); omega) (fun h6 => ?_)
  refine X.callv 1190 [zi (z_ro (EE s) 0 (y + 1))] [] [(0, zr 4 44), (1, zi (z_ro (EE s) 0 (y + 1)))] i316_1187 rfl (by decide) rfl rfl (by omega) rfl rfl (by decide) rfl t300 (Nat.le_of_ble_eq_true rfl) (Nat.le_of_ble_eq_true rfl) rfl ?_
  refine c300_1 (S := zS0) (m0 := m) (B := B) (z_ro (EE s) 0 (y + 1)) (by omega) (J.rf hJ) (by omega) (by omega) (fun v7 hv7 hF10 => ?_)
  show X (EE s) d 316 1190 [(0, zr 99 0), (1, zr 4 40), (2, zr 4 44), (3, zi y)] [zl v7] m _
  refine X.pop2 1191 i316_1190 rfl rfl ?_
  refine X.goto 1655 i316_1191 rfl rfl ?_
  exact K _ (hJ.up (by omega)) (hR.up (by omega))
theorem lw32 {s : Nat × (Nat → Int32)} {m : zM} {B : Int} {d : Nat} {Q : Option zV → zM → Prop} (y : Int) (hd : 200 ≤ d) (hJ : JB B m) (hR : Rel2 B m m) (hB : B + 220000 ≤ 1000000000) (hy : 0 ≤ y ∧ y + 6 ≤ (s.1 : Int)) (hs : s.1 ≤ 3072) (K : ∀ (m' : zM), JB (B + 220000) m' → Rel2 (B + 220000) m' m' → X (EE s) d 316 1655 [(0, zr 99 0), (1, zr 4 40), (2, zr 4 44), (3, zi y)] [] m' Q) : X (EE s) d 316 1194 [(0, zr 99 0), (1, zr 4 40), (2, zr 4 44), (3, zi y)] [] m Q := by
  refine X.mok (fun hk => ?_)
  refine X.aload_n 1195 i316_1194 rfl rfl rfl ?_
  refine X.aload_n 1196 i316_1195 rfl rfl rfl ?_
  refine X.iload_n 1197 i316_1196 rfl rfl rfl ?_
  refine X.iconst 1198 i316_1197 rfl rfl (by decide) ?_
  refine X.iadd 1199 i316_1198 rfl rfl (by omega) ?_
  refine X.rald 1200 i316_1199 rfl rfl (by decide) (by show 0 ≤ _ ∧ _ < ((s.1 : Nat) : Int); omega) (fun h1 => ?_)
  refine X.aload_n 1201 i316_1200 rfl rfl rfl ?_
  refine X.iload_n 1202 i316_1201 rfl rfl rfl ?_
  refine X.iconst 1203 i316_1202 rfl rfl (by decide) ?_
  refine X.iadd 1204 i316_1203 rfl rfl (by omega) ?_
  refine X.rald 1205 i316_1204 rfl rfl (by decide) (by show 0 ≤ _ ∧ _ < ((s.1 : Nat) : Int); omega) (fun h2 => ?_)
  refine X.callv 1208 [zi (z_ro (EE s) 0 (y + 1)), zi (z_ro (EE s) 0 (y + 2))] [] [(0, zr 4 40), (1, zi (z_ro (EE s) 0 (y + 1))), (2, zi (z_ro (EE s) 0 (y + 2)))] i316_1205 rfl (by decide) rfl rfl (by omega) rfl rfl (by decide) rfl t158 (Nat.le_of_ble_eq_true rfl) (Nat.le_of_ble_eq_true rfl) rfl ?_
  refine c158_1 (S := zS0) (m0 := m) (B := B) (z_ro (EE s) 0 (y + 1)) (z_ro (EE s) 0 (y + 2)) (by omega) (J.rf hJ) (by omega) (by omega) (by omega) (fun v3 hv3 hF6 => ?_)
  show X (EE s) d 316 1208 [(0, zr 99 0), (1, zr 4 40), (2, zr 4 44), (3, zi y)] [zl v3] m _
  refine X.pop2 1209 i316_1208 rfl rfl ?_
  refine X.aload_n 1210 i316_1209 rfl rfl rfl ?_
  refine X.aload_n 1211 i316_1210 rfl rfl rfl ?_
  refine X.iload_n 1212 i316_1211 rfl rfl rfl ?_
  refine X.iconst 1213 i316_1212 rfl rfl (by decide) ?_
  refine X.iadd 1214 i316_1213 rfl rfl (by omega) ?_
  refine X.rald 1215 i316_1214 rfl rfl (by decide) (by show 0 ≤ _ ∧ _ < ((s.1 : Nat) : Int); omega) (fun h7 => ?_)
  refine X.aload_n 1216 i316_1215 rfl rfl rfl ?_
  refine X.iload_n 1217 i316_1216 rfl rfl rfl ?_
  refine X.iconst 1218 i316_1217 rfl rfl (by decide) ?_
  refine X.iadd 1219 i316_1218 rfl rfl (by omega) ?_
  refine X.rald 1220 i316_1219 rfl rfl (by decide) (by show 0 ≤ _ ∧ _ < ((s.1 : Nat) : Int); omega) (fun h8 => ?_)
  refine X.callv 1223 [zi (z_ro (EE s) 0 (y + 1)), zi (z_ro (EE s) 0 (y + 2))] [] [(0, zr 4 44), (1, zi (z_ro (EE s) 0 (y + 1))), (2, zi (z_ro (EE s) 0 (y + 2)))] i316_1220 rfl (by decide) rfl rfl (by omega) rfl rfl (by decide) rfl t301 (Nat.le_of_ble_eq_true rfl) (Nat.le_of_ble_eq_true rfl) rfl ?_
  refine c301_1 (S := zS0) (m0 := m) (B := B) (z_ro (EE s) 0 (y + 1)) (z_ro (EE s) 0 (y + 2)) (by omega) (J.rf hJ) (by omega) (by omega) (by omega) (fun v9 hv9 hF12 => ?_)
  show X (EE s) d 316 1223 [(0, zr 99 0), (1, zr 4 40), (2, zr 4 44), (3, zi y)] [zl v9] m _
  refine X.pop2 1224 i316_1223 rfl rfl ?_
  refine X.goto 1655 i316_1224 rfl rfl ?_
  exact K _ (hJ.up (by omega)) (hR.up (by omega))
theorem lw33 {s : Nat × (Nat → Int32)} {m : zM} {B : Int} {d : Nat} {Q : Option zV → zM → Prop} (y : Int) (hd : 200 ≤ d) (hJ : JB B m) (hR : Rel2 B m m) (hB : B + 220000 ≤ 1000000000) (hy : 0 ≤ y ∧ y + 6 ≤ (s.1 : Int)) (hs : s.1 ≤ 3072) (K : ∀ (m' : zM), JB (B + 220000) m' → Rel2 (B + 220000) m' m' → X (EE s) d 316 1655 [(0, zr 99 0), (1, zr 4 40), (2, zr 4 44), (3, zi y)] [] m' Q) : X (EE s) d 316 1227 [(0, zr 99 0), (1, zr 4 40), (2, zr 4 44), (3, zi y)] [] m Q := by
  refine X.mok (fun hk => ?_)
  refine X.aload_n 1228 i316_1227 rfl rfl rfl ?_
  refine X.aload_n 1229 i316_1228 rfl rfl rfl ?_
  refine X.iload_n 1230 i316_1229 rfl rfl rfl ?_
  refine X.iconst 1231 i316_1230 rfl rfl (by decide) ?_
  refine X.iadd 1232 i316_1231 rfl rfl (by omega) ?_
  refine X.rald 1233 i316_1232 rfl rfl (by decide) (by show 0 ≤ _ ∧ _ < ((s.1 : Nat) : Int); omega) (fun h1 => ?_)
  refine X.aload_n 1234 i316_1233 rfl rfl rfl ?_
  refine X.iload_n 1235 i316_1234 rfl rfl rfl ?_
  refine X.iconst 1236 i316_1235 rfl rfl (by decide) ?_
  refine X.iadd 1237 i316_1236 rfl rfl (by omega) ?_
  refine X.rald 1238 i316_1237 rfl rfl (by decide) (by show 0 ≤ _ ∧ _ < ((s.1 : Nat) : Int); omega) (fun h2 => ?_)
  refine X.aload_n 1239 i316_1238 rfl rfl rfl ?_
  refine X.iload_n 1240 i316_1239 rfl rfl rfl ?_
  refine X.iconst 1241 i316_1240 rfl rfl (by decide) ?_
  refine X.iadd 1242 i316_1241 rfl rfl (by omega) ?_
  refine X.rald 1243 i316_1242 rfl rfl (by decide) (by show 0 ≤ _ ∧ _ < ((s.1 : Nat) : Int); omega) (fun h3 => ?_)
  refine X.callv 1246 [zi (z_ro (EE s) 0 (y + 1)), zi (z_ro (EE s) 0 (y + 2)), zi (z_ro (EE s) 0 (y + 3))] [] [(0, zr 4 40), (1, zi (z_ro (EE s) 0 (y + 1))), (2, zi (z_ro (EE s) 0 (y + 2))), (3, zi (z_ro (EE s) 0 (y + 3)))] i316_1243 rfl (by decide) rfl rfl (by omega) rfl rfl (by decide) rfl t159 (Nat.le_of_ble_eq_true rfl) (Nat.le_of_ble_eq_true rfl) rfl ?_
  refine c159_1 (S := zS0) (m0 := m) (B := B) (z_ro (EE s) 0 (y + 1)) (z_ro (EE s) 0 (y + 2)) (z_ro (EE s) 0 (y + 3)) (by omega) (J.rf hJ) (by omega) (by omega) (by omega) (by omega) (fun v4 hv4 hF7 => ?_)
  show X (EE s) d 316 1246 [(0, zr 99 0), (1, zr 4 40), (2, zr 4 44), (3, zi y)] [zl v4] m _
  refine X.pop2 1247 i316_1246 rfl rfl ?_
  refine X.aload_n 1248 i316_1247 rfl rfl rfl ?_
  refine X.aload_n 1249 i316_1248 rfl rfl rfl ?_
  refine X.iload_n 1250 i316_1249 rfl rfl rfl ?_
  refine X.iconst 1251 i316_1250 rfl rfl (by decide) ?_
  refine X.iadd 1252 i316_1251 rfl rfl (by omega) ?_
  refine X.rald 1253 i316_1252 rfl rfl (by decide) (by show 0 ≤ _ ∧ _ < ((s.1 : Nat) : Int); omega) (fun h8 => ?_)
  refine X.aload_n 1254 i316_1253 rfl rfl rfl ?_
  refine X.iload_n 1255 i316_1254 rfl rfl rfl ?_
  refine X.iconst 1256 i316_1255 rfl rfl (by decide) ?_
  refine X.iadd 1257 i316_1256 rfl rfl (by omega) ?_
  refine X.rald 1258 i316_1257 rfl rfl (by decide) (by show 0 ≤ _ ∧ _ < ((s.1 : Nat) : Int); omega) (fun h9 => ?_)
  refine X.aload_n 1259 i316_1258 rfl rfl rfl ?_
  refine X.iload_n 1260 i316_1259 rfl rfl rfl ?_
  refine X.iconst 1261 i316_1260 rfl rfl (by decide) ?_
  refine X.iadd 1262 i316_1261 rfl rfl (by omega) ?_
  refine X.rald 1263 i316_1262 rfl rfl (by decide) (by show 0 ≤ _ ∧ _ < ((s.1 : Nat) : Int); omega) (fun h10 => ?_)
  refine X.callv 1266 [zi (z_ro (EE s) 0 (y + 1)), zi (z_ro (EE s) 0 (y + 2)), zi (z_ro (EE s) 0 (y + 3))] [] [(0, zr 4 44), (1, zi (z_ro (EE s) 0 (y + 1))), (2, zi (z_ro (EE s) 0 (y + 2))), (3, zi (z_ro (EE s) 0 (y + 3)))] i316_1263 rfl (by decide) rfl rfl (by omega) rfl rfl (by decide) rfl t288 (Nat.le_of_ble_eq_true rfl) (Nat.le_of_ble_eq_true rfl) rfl ?_
  refine c288_1 (S := zS0) (m0 := m) (B := B) (z_ro (EE s) 0 (y + 1)) (z_ro (EE s) 0 (y + 2)) (z_ro (EE s) 0 (y + 3)) (by omega) (J.rf hJ) (by omega) (by omega) (by omega) (by omega) (fun v11 hv11 hF14 => ?_)
  show X (EE s) d 316 1266 [(0, zr 99 0), (1, zr 4 40), (2, zr 4 44), (3, zi y)] [zl v11] m _
  refine X.pop2 1267 i316_1266 rfl rfl ?_
  refine X.goto 1655 i316_1267 rfl rfl ?_
  exact K _ (hJ.up (by omega)) (hR.up (by omega))
theorem lw34 {s : Nat × (Nat → Int32)} {m : zM} {B : Int} {d : Nat} {Q : Option zV → zM → Prop} (y : Int) (hd : 200 ≤ d) (hJ : JB B m) (hR : Rel2 B m m) (hB : B + 220000 ≤ 1000000000) (hy : 0 ≤ y ∧ y + 6 ≤ (s.1 : Int)) (hs : s.1 ≤ 3072) (K : ∀ (m' : zM), JB (B + 220000) m' → Rel2 (B + 220000) m' m' → X (EE s) d 316 1655 [(0, zr 99 0), (1, zr 4 40), (2, zr 4 44), (3, zi y)] [] m' Q) : X (EE s) d 316 1270 [(0, zr 99 0), (1, zr 4 40), (2, zr 4 44), (3, zi y)] [] m Q := by
  refine X.mok (fun hk => ?_)
  refine X.aload_n 1271 i316_1270 rfl rfl rfl ?_
  refine X.aload_n 1272 i316_1271 rfl rfl rfl ?_
  refine X.iload_n 1273 i316_1272 rfl rfl rfl ?_
  refine X.iconst 1274 i316_1273 rfl rfl (by decide) ?_
  refine X.iadd 1275 i316_1274 rfl rfl (by omega) ?_
  refine X.rald 1276 i316_1275 rfl rfl (by decide) (by show 0 ≤ _ ∧ _ < ((s.1 : Nat) : Int); omega) (fun h1 => ?_)
  refine X.aload_n 1277 i316_1276 rfl rfl rfl ?_
  refine X.iload_n 1278 i316_1277 rfl rfl rfl ?_
  refine X.iconst 1279 i316_1278 rfl rfl (by decide) ?_
  refine X.iadd 1280 i316_1279 rfl rfl (by omega) ?_
  refine X.rald 1281 i316_1280 rfl rfl (by decide) (by show 0 ≤ _ ∧ _ < ((s.1 : Nat) : Int); omega) (fun h2 => ?_)
  refine X.callv 1284 [zi (z_ro (EE s) 0 (y + 1)), zi (z_ro (EE s) 0 (y + 2))] [] [(0, zr 4 40), (1, zi (z_ro (EE s) 0 (y + 1))), (2, zi (z_ro (EE s) 0 (y + 2)))] i316_1281 rfl (by decide) rfl rfl (by omega) rfl rfl (by decide) rfl t163 (Nat.le_of_ble_eq_true rfl) (Nat.le_of_ble_eq_true rfl) rfl ?_
  refine c163_1 (S := zS0) (m0 := m) (B := B) (z_ro (EE s) 0 (y + 1)) (z_ro (EE s) 0 (y + 2)) (by omega) (J.rf hJ) (by omega) (by omega) (by omega) (fun v3 hv3 hF6 => ?_)
  show X (EE s) d 316 1284 [(0, zr 99 0), (1, zr 4 40), (2, zr 4 44), (3, zi y)] [zl v3] m _
  refine X.pop2 1285 i316_1284 rfl rfl ?_
  refine X.aload_n 1286 i316_1285 rfl rfl rfl ?_
  refine X.aload_n 1287 i316_1286 rfl rfl rfl ?_
  refine X.iload_n 1288 i316_1287 rfl rfl rfl ?_
  refine X.iconst 1289 i316_1288 rfl rfl (by decide) ?_
  refine X.iadd 1290 i316_1289 rfl rfl (by omega) ?_
  refine X.rald 1291 i316_1290 rfl rfl (by decide) (by show 0 ≤ _ ∧ _ < ((s.1 : Nat) : Int); omega) (fun h7 => ?_)
  refine X.aload_n 1292 i316_1291 rfl rfl rfl ?_
  refine X.iload_n 1293 i316_1292 rfl rfl rfl ?_
  refine X.iconst 1294 i316_1293 rfl rfl (by decide) ?_
  refine X.iadd 1295 i316_1294 rfl rfl (by omega) ?_
  refine X.rald 1296 i316_1295 rfl rfl (by decide) (by show 0 ≤ _ ∧ _ < ((s.1 : Nat) : Int); omega) (fun h8 => ?_)
  refine X.callv 1299 [zi (z_ro (EE s) 0 (y + 1)), zi (z_ro (EE s) 0 (y + 2))] [] [(0, zr 4 44), (1, zi (z_ro (EE s) 0 (y + 1))), (2, zi (z_ro (EE s) 0 (y + 2)))] i316_1296 rfl (by decide) rfl rfl (by omega) rfl rfl (by decide) rfl t292 (Nat.le_of_ble_eq_true rfl) (Nat.le_of_ble_eq_true rfl) rfl ?_
  refine c292_1 (S := zS0) (m0 := m) (B := B) (z_ro (EE s) 0 (y + 1)) (z_ro (EE s) 0 (y + 2)) (by omega) (J.rf hJ) (by omega) (by omega) (by omega) (fun v9 hv9 hF12 => ?_)
  show X (EE s) d 316 1299 [(0, zr 99 0), (1, zr 4 40), (2, zr 4 44), (3, zi y)] [zl v9] m _
  refine X.pop2 1300 i316_1299 rfl rfl ?_
  refine X.goto 1655 i316_1300 rfl rfl ?_
  exact K _ (hJ.up (by omega)) (hR.up (by omega))
theorem lw35 {s : Nat × (Nat → Int32)} {m : zM} {B : Int} {d : Nat} {Q : Option zV → zM → Prop} (y : Int) (hd : 200 ≤ d) (hJ : JB B m) (hR : Rel2 B m m) (hB : B + 220000 ≤ 1000000000) (hy : 0 ≤ y ∧ y + 6 ≤ (s.1 : Int)) (hs : s.1 ≤ 3072) (K : ∀ (m' : zM), JB (B + 220000) m' → Rel2 (B + 220000) m' m' → X (EE s) d 316 1655 [(0, zr 99 0), (1, zr 4 40), (2, zr 4 44), (3, zi y)] [] m' Q) : X (EE s) d 316 1303 [(0, zr 99 0), (1, zr 4 40), (2, zr 4 44), (3, zi y)] [] m Q := by
  refine X.mok (fun hk => ?_)
  refine X.aload_n 1304 i316_1303 rfl rfl rfl ?_
  refine X.aload_n 1305 i316_1304 rfl rfl rfl ?_
  refine X.iload_n 1306 i316_1305 rfl rfl rfl ?_
  refine X.iconst 1307 i316_1306 rfl rfl (by decide) ?_
  refine X.iadd 1308 i316_1307 rfl rfl (by omega) ?_
  refine X.rald 1309 i316_1308 rfl rfl (by decide) (by show 0 ≤ _ ∧ _ < ((s.1 : Nat) : Int); omega) (fun h1 => ?_)
  refine X.aload_n 1310 i316_1309 rfl rfl rfl ?_
  refine X.iload_n 1311 i316_1310 rfl rfl rfl ?_
  refine X.iconst 1312 i316_1311 rfl rfl (by decide) ?_
  refine X.iadd 1313 i316_1312 rfl rfl (by omega) ?_
  refine X.rald 1314 i316_1313 rfl rfl (by decide) (by show 0 ≤ _ ∧ _ < ((s.1 : Nat) : Int); omega) (fun h2 => ?_)
  refine X.callv 1317 [zi (z_ro (EE s) 0 (y + 1)), zi (z_ro (EE s) 0 (y + 2))] [] [(0, zr 4 40), (1, zi (z_ro (EE s) 0 (y + 1))), (2, zi (z_ro (EE s) 0 (y + 2)))] i316_1314 rfl (by decide) rfl rfl (by omega) rfl rfl (by decide) rfl t166 (Nat.le_of_ble_eq_true rfl) (Nat.le_of_ble_eq_true rfl) rfl ?_
  refine c166_1 (S := zS0) (m0 := m) (B := B) (z_ro (EE s) 0 (y + 1)) (z_ro (EE s) 0 (y + 2)) (by omega) (J.rf hJ) (by omega) (by omega) (by omega) (fun v3 hv3 hF6 => ?_)
  show X (EE s) d 316 1317 [(0, zr 99 0), (1, zr 4 40), (2, zr 4 44), (3, zi y)] [zl v3] m _
  refine X.pop2 1318 i316_1317 rfl rfl ?_
  refine X.aload_n 1319 i316_1318 rfl rfl rfl ?_
  refine X.aload_n 1320 i316_1319 rfl rfl rfl ?_
  refine X.iload_n 1321 i316_1320 rfl rfl rfl ?_
  refine X.iconst 1322 i316_1321 rfl rfl (by decide) ?_
  refine X.iadd 1323 i316_1322 rfl rfl (by omega) ?_
  refine X.rald 1324 i316_1323 rfl rfl (by decide) (by show 0 ≤ _ ∧ _ < ((s.1 : Nat) : Int); omega) (fun h7 => ?_)
  refine X.aload_n 1325 i316_1324 rfl rfl rfl ?_
  refine X.iload_n 1326 i316_1325 rfl rfl rfl ?_
  refine X.iconst 1327 i316_1326 rfl rfl (by decide) ?_
  refine X.iadd 1328 i316_1327 rfl rfl (by omega) ?_
  refine X.rald 1329 i316_1328 rfl rfl (by decide) (by show 0 ≤ _ ∧ _ < ((s.1 : Nat) : Int); omega) (fun h8 => ?_)
  refine X.callv 1332 [zi (z_ro (EE s) 0 (y + 1)), zi (z_ro (EE s) 0 (y + 2))] [] [(0, zr 4 44), (1, zi (z_ro (EE s) 0 (y + 1))), (2, zi (z_ro (EE s) 0 (y + 2)))] i316_1329 rfl (by decide) rfl rfl (by omega) rfl rfl (by decide) rfl t293 (Nat.le_of_ble_eq_true rfl) (Nat.le_of_ble_eq_true rfl) rfl ?_
  refine c293_1 (S := zS0) (m0 := m) (B := B) (z_ro (EE s) 0 (y + 1)) (z_ro (EE s) 0 (y + 2)) (by omega) (J.rf hJ) (by omega) (by omega) (by omega) (fun v9 hv9 hF12 => ?_)
  show X (EE s) d 316 1332 [(0, zr 99 0), (1, zr 4 40), (2, zr 4 44), (3, zi y)] [zl v9] m _
  refine X.pop2 1333 i316_1332 rfl rfl ?_
  refine X.goto 1655 i316_1333 rfl rfl ?_
  exact K _ (hJ.up (by omega)) (hR.up (by omega))
theorem lw36 {s : Nat × (Nat → Int32)} {m : zM} {B : Int} {d : Nat} {Q : Option zV → zM → Prop} (y : Int) (hd : 200 ≤ d) (hJ : JB B m) (hR : Rel2 B m m) (hB : B + 220000 ≤ 1000000000) (hy : 0 ≤ y ∧ y + 6 ≤ (s.1 : Int)) (hs : s.1 ≤ 3072) (K : ∀ (m' : zM), JB (B + 220000) m' → Rel2 (B + 220000) m' m' → X (EE s) d 316 1655 [(0, zr 99 0), (1, zr 4 40), (2, zr 4 44), (3, zi y)] [] m' Q) : X (EE s) d 316 1336 [(0, zr 99 0), (1, zr 4 40), (2, zr 4 44), (3, zi y)] [] m Q := by
  refine X.mok (fun hk => ?_)
  refine X.aload_n 1337 i316_1336 rfl rfl rfl ?_
  refine X.aload_n 1338 i316_1337 rfl rfl rfl ?_
  refine X.iload_n 1339 i316_1338 rfl rfl rfl ?_
  refine X.iconst 1340 i316_1339 rfl rfl (by decide) ?_
  refine X.iadd 1341 i316_1340 rfl rfl (by omega) ?_
  refine X.rald 1342 i316_1341 rfl rfl (by decide) (by show 0 ≤ _ ∧ _ < ((s.1 : Nat) : Int); omega) (fun h1 => ?_)
  refine X.aload_n 1343 i316_1342 rfl rfl rfl ?_
  refine X.iload_n 1344 i316_1343 rfl rfl rfl ?_
  refine X.iconst 1345 i316_1344 rfl rfl (by decide) ?_
  refine X.iadd 1346 i316_1345 rfl rfl (by omega) ?_
  refine X.rald 1347 i316_1346 rfl rfl (by decide) (by show 0 ≤ _ ∧ _ < ((s.1 : Nat) : Int); omega) (fun h2 => ?_)
  refine X.callv 1350 [zi (z_ro (EE s) 0 (y + 1)), zi (z_ro (EE s) 0 (y + 2))] [] [(0, zr 4 40), (1, zi (z_ro (EE s) 0 (y + 1))), (2, zi (z_ro (EE s) 0 (y + 2)))] i316_1347 rfl (by decide) rfl rfl (by omega) rfl rfl (by decide) rfl t170 (Nat.le_of_ble_eq_true rfl) (Nat.le_of_ble_eq_true rfl) rfl ?_
  refine c170_1 (S := zS0) (m0 := m) (B := B) (z_ro (EE s) 0 (y + 1)) (z_ro (EE s) 0 (y + 2)) (by omega) (J.rf hJ) (by omega) (by omega) (by omega) (fun h => h) (fun h => h) (fun h => h) (fun h => h) (fun h => h) (fun h => h) (fun h => h) (fun h => h) (fun h => h) (fun h => h) (fun h => h) (fun h => h) (fun h => h) (fun h => h) (fun v3 m4 hv3 hF6 hJ5 => ?_)
  show X (EE s) d 316 1350 [(0, zr 99 0), (1, zr 4 40), (2, zr 4 44), (3, zi y)] [zl v3] m4 _
  refine X.pop2 1351 i316_1350 rfl rfl ?_
  refine X.aload_n 1352 i316_1351 rfl rfl rfl ?_
  refine X.aload_n 1353 i316_1352 rfl rfl rfl ?_
  refine X.iload_n 1354 i316_1353 rfl rfl rfl ?_
  refine X.iconst 1355 i316_1354 rfl rfl (by decide) ?_
  refine X.iadd 1356 i316_1355 rfl rfl (by omega) ?_
  refine X.rald 1357 i316_1356 rfl rfl (by decide) (by show 0 ≤ _ ∧ _ < ((s.1 : Nat) : Int); omega) (fun h7 => ?_)
  refine X.aload_n 1358 i316_1357 rfl rfl rfl ?_
  refine X.iload_n 1359 i316_1358 rfl rfl rfl ?_
  refine X.iconst 1360 i316_1359 rfl rfl (by decide) ?_
  refine X.iadd 1361 i316_1360 rfl rfl (by omega) ?_
  refine X.rald 1362 i316_1361 rfl rfl (by decide) (by show 0 ≤ _ ∧ _ < ((s.1 : Nat) : Int); omega) (fun h8 => ?_)
  refine X.callv 1365 [zi (z_ro (EE s) 0 (y + 1)), zi (z_ro (EE s) 0 (y + 2))] [] [(0, zr 4 44), (1, zi (z_ro (EE s) 0 (y + 1))), (2, zi (z_ro (EE s) 0 (y + 2)))] i316_1362 rfl (by decide) rfl rfl (by omega) rfl rfl (by decide) rfl t302 (Nat.le_of_ble_eq_true rfl) (Nat.le_of_ble_eq_true rfl) rfl ?_
  refine c302_1 (S := zS0) (m0 := m4) (B := B + 7212) (z_ro (EE s) 0 (y + 1)) (z_ro (EE s) 0 (y + 2)) (by omega) (J.rf hJ5.jb0) (by omega) (by omega) (by omega) (fun h => h) (fun h => h) (fun h => h) (fun h => h) (fun h => h) (fun h => h) (fun h => h) (fun h => h) (fun h => h) (fun h => h) (fun h => h) (fun h => h) (fun h => h) (fun h => h) (fun h => h) (fun v9 m10 hv9 hF12 hJ11 => ?_)
  show X (EE s) d 316 1365 [(0, zr 99 0), (1, zr 4 40), (2, zr 4 44), (3, zi y)] [zl v9] m10 _
  refine X.pop2 1366 i316_1365 rfl rfl ?_
  refine X.goto 1655 i316_1366 rfl rfl ?_
  exact K _ (hJ11.jb0.up (by omega)) (st_would (by omega) (by omega) hk hJ (by omega) hR hF6 hF12)
theorem lw37 {s : Nat × (Nat → Int32)} {m : zM} {B : Int} {d : Nat} {Q : Option zV → zM → Prop} (y : Int) (hd : 200 ≤ d) (hJ : JB B m) (hR : Rel2 B m m) (hB : B + 220000 ≤ 1000000000) (hy : 0 ≤ y ∧ y + 6 ≤ (s.1 : Int)) (hs : s.1 ≤ 3072) (K : ∀ (m' : zM), JB (B + 220000) m' → Rel2 (B + 220000) m' m' → X (EE s) d 316 1655 [(0, zr 99 0), (1, zr 4 40), (2, zr 4 44), (3, zi y)] [] m' Q) : X (EE s) d 316 1369 [(0, zr 99 0), (1, zr 4 40), (2, zr 4 44), (3, zi y)] [] m Q := by
  refine X.mok (fun hk => ?_)
  refine X.aload_n 1370 i316_1369 rfl rfl rfl ?_
  refine X.aload_n 1371 i316_1370 rfl rfl rfl ?_
  refine X.iload_n 1372 i316_1371 rfl rfl rfl ?_
  refine X.iconst 1373 i316_1372 rfl rfl (by decide) ?_
  refine X.iadd 1374 i316_1373 rfl rfl (by omega) ?_
  refine X.rald 1375 i316_1374 rfl rfl (by decide) (by show 0 ≤ _ ∧ _ < ((s.1 : Nat) : Int); omega) (fun h1 => ?_)
  refine X.callv 1378 [zi (z_ro (EE s) 0 (y + 1))] [] [(0, zr 4 40), (1, zi (z_ro (EE s) 0 (y + 1)))] i316_1375 rfl (by decide) rfl rfl (by omega) rfl rfl (by decide) rfl t181 (Nat.le_of_ble_eq_true rfl) (Nat.le_of_ble_eq_true rfl) rfl ?_
  refine c181_1 (S := zS0) (m0 := m) (B := B) (z_ro (EE s) 0 (y + 1)) (by omega) (J.rf hJ) (by omega) (by omega) (fun v2 hv2 hF5 => ?_)
  show X (EE s) d 316 1378 [(0, zr 99 0), (1, zr 4 40), (2, zr 4 44), (3, zi y)] [zl v2] m _
  refine X.pop2 1379 i316_1378 rfl rfl ?_
  refine X.aload_n 1380 i316_1379 rfl rfl rfl ?_
  refine X.aload_n 1381 i316_1380 rfl rfl rfl ?_
  refine X.iload_n 1382 i316_1381 rfl rfl rfl ?_
  refine X.iconst 1383 i316_1382 rfl rfl (by decide) ?_
  refine X.iadd 1384 i316_1383 rfl rfl (by omega) ?_
  refine X.rald 1385 i316_1384 rfl rfl (by decide) (by show 0 ≤ _ ∧ _ < ((s.1 : Nat) : Int); omega) (fun h6 => ?_)
  refine X.callv 1388 [zi (z_ro (EE s) 0 (y + 1))] [] [(0, zr 4 44), (1, zi (z_ro (EE s) 0 (y + 1)))] i316_1385 rfl (by decide) rfl rfl (by omega) rfl rfl (by decide) rfl t305 (Nat.le_of_ble_eq_true rfl) (Nat.le_of_ble_eq_true rfl) rfl ?_
  refine c305_1 (S := zS0) (m0 := m) (B := B) (z_ro (EE s) 0 (y + 1)) (by omega) (J.rf hJ) (by omega) (by omega) (fun v7 hv7 hF10 => ?_)
  show X (EE s) d 316 1388 [(0, zr 99 0), (1, zr 4 40), (2, zr 4 44), (3, zi y)] [zl v7] m _
  refine X.pop2 1389 i316_1388 rfl rfl ?_
  refine X.goto 1655 i316_1389 rfl rfl ?_
  exact K _ (hJ.up (by omega)) (hR.up (by omega))
theorem lw38 {s : Nat × (Nat → Int32)} {m : zM} {B : Int} {d : Nat} {Q : Option zV → zM → Prop} (y : Int) (hd : 200 ≤ d) (hJ : JB B m) (hR : Rel2 B m m) (hB : B + 220000 ≤ 1000000000) (hy : 0 ≤ y ∧ y + 6 ≤ (s.1 : Int)) (hs : s.1 ≤ 3072) (K : ∀ (m' : zM), JB (B + 220000) m' → Rel2 (B + 220000) m' m' → X (EE s) d 316 1655 [(0, zr 99 0), (1, zr 4 40), (2, zr 4 44), (3, zi y)] [] m' Q) : X (EE s) d 316 1392 [(0, zr 99 0), (1, zr 4 40), (2, zr 4 44), (3, zi y)] [] m Q := by
  refine X.mok (fun hk => ?_)
  refine X.aload_n 1393 i316_1392 rfl rfl rfl ?_
  refine X.aload_n 1394 i316_1393 rfl rfl rfl ?_
  refine X.iload_n 1395 i316_1394 rfl rfl rfl ?_
  refine X.iconst 1396 i316_1395 rfl rfl (by decide) ?_
  refine X.iadd 1397 i316_1396 rfl rfl (by omega) ?_
  refine X.rald 1398 i316_1397 rfl rfl (by decide) (by show 0 ≤ _ ∧ _ < ((s.1 : Nat) : Int); omega) (fun h1 => ?_)
  refine X.aload_n 1399 i316_1398 rfl rfl rfl ?_
  refine X.iload_n 1400 i316_1399 rfl rfl rfl ?_
  refine X.iconst 1401 i316_1400 rfl rfl (by decide) ?_
  refine X.iadd 1402 i316_1401 rfl rfl (by omega) ?_
  refine X.rald 1403 i316_1402 rfl rfl (by decide) (by show 0 ≤ _ ∧ _ < ((s.1 : Nat) : Int); omega) (fun h2 => ?_)
  refine X.callv 1406 [zi (z_ro (EE s) 0 (y + 1)), zi (z_ro (EE s) 0 (y + 2))] [] [(0, zr 4 40), (1, zi (z_ro (EE s) 0 (y + 1))), (2, zi (z_ro (EE s) 0 (y + 2)))] i316_1403 rfl (by decide) rfl rfl (by omega) rfl rfl (by decide) rfl t183 (Nat.le_of_ble_eq_true rfl) (Nat.le_of_ble_eq_true rfl) rfl ?_
  refine c183_1 (S := zS0) (m0 := m) (B := B) (z_ro (EE s) 0 (y + 1)) (z_ro (EE s) 0 (y + 2)) (by omega) (J.rf hJ) (by omega) (by omega) (by omega) (fun v3 hv3 hF6 => ?_)
  show X (EE s) d 316 1406 [(0, zr 99 0), (1, zr 4 40), (2, zr 4 44), (3, zi y)] [zl v3] m _
  refine X.pop2 1407 i316_1406 rfl rfl ?_
  refine X.aload_n 1408 i316_1407 rfl rfl rfl ?_
  refine X.aload_n 1409 i316_1408 rfl rfl rfl ?_
  refine X.iload_n 1410 i316_1409 rfl rfl rfl ?_
  refine X.iconst 1411 i316_1410 rfl rfl (by decide) ?_
  refine X.iadd 1412 i316_1411 rfl rfl (by omega) ?_
  refine X.rald 1413 i316_1412 rfl rfl (by decide) (by show 0 ≤ _ ∧ _ < ((s.1 : Nat) : Int); omega) (fun h7 => ?_)
  refine X.aload_n 1414 i316_1413 rfl rfl rfl ?_
  refine X.iload_n 1415 i316_1414 rfl rfl rfl ?_
  refine X.iconst 1416 i316_1415 rfl rfl (by decide) ?_
  refine X.iadd 1417 i316_1416 rfl rfl (by omega) ?_
  refine X.rald 1418 i316_1417 rfl rfl (by decide) (by show 0 ≤ _ ∧ _ < ((s.1 : Nat) : Int); omega) (fun h8 => ?_)
  refine X.callv 1421 [zi (z_ro (EE s) 0 (y + 1)), zi (z_ro (EE s) 0 (y + 2))] [] [(0, zr 4 44), (1, zi (z_ro (EE s) 0 (y + 1))), (2, zi (z_ro (EE s) 0 (y + 2)))] i316_1418 rfl (by decide) rfl rfl (by omega) rfl rfl (by decide) rfl t308 (Nat.le_of_ble_eq_true rfl) (Nat.le_of_ble_eq_true rfl) rfl ?_
  refine c308_1 (S := zS0) (m0 := m) (B := B) (z_ro (EE s) 0 (y + 1)) (z_ro (EE s) 0 (y + 2)) (by omega) (J.rf hJ) (by omega) (by omega) (by omega) (fun v9 hv9 hF12 => ?_)
  show X (EE s) d 316 1421 [(0, zr 99 0), (1, zr 4 40), (2, zr 4 44), (3, zi y)] [zl v9] m _
  refine X.pop2 1422 i316_1421 rfl rfl ?_
  refine X.goto 1655 i316_1422 rfl rfl ?_
  exact K _ (hJ.up (by omega)) (hR.up (by omega))
theorem lw39 {s : Nat × (Nat → Int32)} {m : zM} {B : Int} {d : Nat} {Q : Option zV → zM → Prop} (y : Int) (hd : 200 ≤ d) (hJ : JB B m) (hR : Rel2 B m m) (hB : B + 220000 ≤ 1000000000) (hy : 0 ≤ y ∧ y + 6 ≤ (s.1 : Int)) (hs : s.1 ≤ 3072) (K : ∀ (m' : zM), JB (B + 220000) m' → Rel2 (B + 220000) m' m' → X (EE s) d 316 1655 [(0, zr 99 0), (1, zr 4 40), (2, zr 4 44), (3, zi y)] [] m' Q) : X (EE s) d 316 1425 [(0, zr 99 0), (1, zr 4 40), (2, zr 4 44), (3, zi y)] [] m Q := by
  refine X.mok (fun hk => ?_)
  refine X.aload_n 1426 i316_1425 rfl rfl rfl ?_
  refine X.callv 1429 [] [] [(0, zr 4 40)] i316_1426 rfl (by decide) rfl rfl (by omega) rfl rfl (by decide) rfl t184 (Nat.le_of_ble_eq_true rfl) (Nat.le_of_ble_eq_true rfl) rfl ?_
  refine c184_1 (S := zS0) (m0 := m) (B := B)  (by omega) (J.rf hJ) (by omega) (fun h => h) (fun h => h) (fun h => h) (fun h => h) (fun h => h) (fun h => h) (fun h => h) (fun h => h) (fun h => h) (fun h => h) (fun h => h) (fun h => h) (fun h => h) (fun h => h) (fun v1 m2 hv1 hF4 hJ3 => ?_)
  show X (EE s) d 316 1429 [(0, zr 99 0), (1, zr 4 40), (2, zr 4 44), (3, zi y)] [zi v1] m2 _
  refine X.pop 1430 i316_1429 rfl rfl rfl ?_
  refine X.aload_n 1431 i316_1430 rfl rfl rfl ?_
  refine X.callv 1434 [] [] [(0, zr 4 44)] i316_1431 rfl (by decide) rfl rfl (by omega) rfl rfl (by decide) rfl t309 (Nat.le_of_ble_eq_true rfl) (Nat.le_of_ble_eq_true rfl) rfl ?_
  refine c309_1 (S := zS0) (m0 := m2) (B := B + 28812)  (by omega) (J.rf hJ3.jb0) (by omega) (fun h => h) (fun h => h) (fun h => h) (fun h => h) (fun h => h) (fun h => h) (fun h => h) (fun h => h) (fun h => h) (fun h => h) (fun h => h) (fun h => h) (fun h => h) (fun h => h) (fun h => h) (fun v5 m6 hv5 hF8 hJ7 => ?_)
  show X (EE s) d 316 1434 [(0, zr 99 0), (1, zr 4 40), (2, zr 4 44), (3, zi y)] [zi v5] m6 _
  refine X.pop 1435 i316_1434 rfl rfl rfl ?_
  refine X.goto 1655 i316_1435 rfl rfl ?_
  exact K _ (hJ7.jb0.up (by omega)) (st_lasts  hk hJ (by omega) hR hF4 hF8)
theorem lw40 {s : Nat × (Nat → Int32)} {m : zM} {B : Int} {d : Nat} {Q : Option zV → zM → Prop} (y : Int) (hd : 200 ≤ d) (hJ : JB B m) (hR : Rel2 B m m) (hB : B + 220000 ≤ 1000000000) (hy : 0 ≤ y ∧ y + 6 ≤ (s.1 : Int)) (hs : s.1 ≤ 3072) (K : ∀ (m' : zM), JB (B + 220000) m' → Rel2 (B + 220000) m' m' → X (EE s) d 316 1655 [(0, zr 99 0), (1, zr 4 40), (2, zr 4 44), (3, zi y)] [] m' Q) : X (EE s) d 316 1438 [(0, zr 99 0), (1, zr 4 40), (2, zr 4 44), (3, zi y)] [] m Q := by
  refine X.mok (fun hk => ?_)
  refine X.aload_n 1439 i316_1438 rfl rfl rfl ?_
  refine X.aload_n 1440 i316_1439 rfl rfl rfl ?_
  refine X.iload_n 1441 i316_1440 rfl rfl rfl ?_
  refine X.iconst 1442 i316_1441 rfl rfl (by decide) ?_
  refine X.iadd 1443 i316_1442 rfl rfl (by omega) ?_
  refine X.rald 1444 i316_1443 rfl rfl (by decide) (by show 0 ≤ _ ∧ _ < ((s.1 : Nat) : Int); omega) (fun h1 => ?_)
  refine X.callv 1447 [zi (z_ro (EE s) 0 (y + 1))] [] [(0, zr 4 40), (1, zi (z_ro (EE s) 0 (y + 1)))] i316_1444 rfl (by decide) rfl rfl (by omega) rfl rfl (by decide) rfl t186 (Nat.le_of_ble_eq_true rfl) (Nat.le_of_ble_eq_true rfl) rfl ?_
  refine c186_1 (S := zS0) (m0 := m) (B := B) (z_ro (EE s) 0 (y + 1)) (by omega) (J.rf hJ) (by omega) (by omega) (fun v2 hv2 hF5 => ?_)
  show X (EE s) d 316 1447 [(0, zr 99 0), (1, zr 4 40), (2, zr 4 44), (3, zi y)] [zl v2] m _
  refine X.pop2 1448 i316_1447 rfl rfl ?_
  refine X.aload_n 1449 i316_1448 rfl rfl rfl ?_
  refine X.aload_n 1450 i316_1449 rfl rfl rfl ?_
  refine X.iload_n 1451 i316_1450 rfl rfl rfl ?_
  refine X.iconst 1452 i316_1451 rfl rfl (by decide) ?_
  refine X.iadd 1453 i316_1452 rfl rfl (by omega) ?_
  refine X.rald 1454 i316_1453 rfl rfl (by decide) (by show 0 ≤ _ ∧ _ < ((s.1 : Nat) : Int); omega) (fun h6 => ?_)
  refine X.callv 1457 [zi (z_ro (EE s) 0 (y + 1))] [] [(0, zr 4 44), (1, zi (z_ro (EE s) 0 (y + 1)))] i316_1454 rfl (by decide) rfl rfl (by omega) rfl rfl (by decide) rfl t310 (Nat.le_of_ble_eq_true rfl) (Nat.le_of_ble_eq_true rfl) rfl ?_
  refine c310_1 (S := zS0) (m0 := m) (B := B) (z_ro (EE s) 0 (y + 1)) (by omega) (J.rf hJ) (by omega) (by omega) (fun v7 hv7 hF10 => ?_)
  show X (EE s) d 316 1457 [(0, zr 99 0), (1, zr 4 40), (2, zr 4 44), (3, zi y)] [zl v7] m _
  refine X.pop2 1458 i316_1457 rfl rfl ?_
  refine X.goto 1655 i316_1458 rfl rfl ?_
  exact K _ (hJ.up (by omega)) (hR.up (by omega))
theorem lw41 {s : Nat × (Nat → Int32)} {m : zM} {B : Int} {d : Nat} {Q : Option zV → zM → Prop} (y : Int) (hd : 200 ≤ d) (hJ : JB B m) (hR : Rel2 B m m) (hB : B + 220000 ≤ 1000000000) (hy : 0 ≤ y ∧ y + 6 ≤ (s.1 : Int)) (hs : s.1 ≤ 3072) (K : ∀ (m' : zM), JB (B + 220000) m' → Rel2 (B + 220000) m' m' → X (EE s) d 316 1655 [(0, zr 99 0), (1, zr 4 40), (2, zr 4 44), (3, zi y)] [] m' Q) : X (EE s) d 316 1461 [(0, zr 99 0), (1, zr 4 40), (2, zr 4 44), (3, zi y)] [] m Q := by
  refine X.mok (fun hk => ?_)
  refine X.aload_n 1462 i316_1461 rfl rfl rfl ?_
  refine X.aload_n 1463 i316_1462 rfl rfl rfl ?_
  refine X.iload_n 1464 i316_1463 rfl rfl rfl ?_
  refine X.iconst 1465 i316_1464 rfl rfl (by decide) ?_
  refine X.iadd 1466 i316_1465 rfl rfl (by omega) ?_
  refine X.rald 1467 i316_1466 rfl rfl (by decide) (by show 0 ≤ _ ∧ _ < ((s.1 : Nat) : Int); omega) (fun h1 => ?_)
  refine X.aload_n 1468 i316_1467 rfl rfl rfl ?_
  refine X.iload_n 1469 i316_1468 rfl rfl rfl ?_
  refine X.iconst 1470 i316_1469 rfl rfl (by decide) ?_
  refine X.iadd 1471 i316_1470 rfl rfl (by omega) ?_
  refine X.rald 1472 i316_1471 rfl rfl (by decide) (by show 0 ≤ _ ∧ _ < ((s.1 : Nat) : Int); omega) (fun h2 => ?_)
  refine X.callv 1475 [zi (z_ro (EE s) 0 (y + 1)), zi (z_ro (EE s) 0 (y + 2))] [] [(0, zr 4 40), (1, zi (z_ro (EE s) 0 (y + 1))), (2, zi (z_ro (EE s) 0 (y + 2)))] i316_1472 rfl (by decide) rfl rfl (by omega) rfl rfl (by decide) rfl t187 (Nat.le_of_ble_eq_true rfl) (Nat.le_of_ble_eq_true rfl) rfl ?_
  refine c187_1 (S := zS0) (m0 := m) (B := B) (z_ro (EE s) 0 (y + 1)) (z_ro (EE s) 0 (y + 2)) (by omega) (J.rf hJ) (by omega) (by omega) (by omega) (fun v3 hv3 hF6 => ?_)
  show X (EE s) d 316 1475 [(0, zr 99 0), (1, zr 4 40), (2, zr 4 44), (3, zi y)] [zl v3] m _
  refine X.pop2 1476 i316_1475 rfl rfl ?_
  refine X.aload_n 1477 i316_1476 rfl rfl rfl ?_
  refine X.aload_n 1478 i316_1477 rfl rfl rfl ?_
  refine X.iload_n 1479 i316_1478 rfl rfl rfl ?_
  refine X.iconst 1480 i316_1479 rfl rfl (by decide) ?_
  refine X.iadd 1481 i316_1480 rfl rfl (by omega) ?_
  refine X.rald 1482 i316_1481 rfl rfl (by decide) (by show 0 ≤ _ ∧ _ < ((s.1 : Nat) : Int); omega) (fun h7 => ?_)
  refine X.aload_n 1483 i316_1482 rfl rfl rfl ?_
  refine X.iload_n 1484 i316_1483 rfl rfl rfl ?_
  refine X.iconst 1485 i316_1484 rfl rfl (by decide) ?_
  refine X.iadd 1486 i316_1485 rfl rfl (by omega) ?_
  refine X.rald 1487 i316_1486 rfl rfl (by decide) (by show 0 ≤ _ ∧ _ < ((s.1 : Nat) : Int); omega) (fun h8 => ?_)
  refine X.callv 1490 [zi (z_ro (EE s) 0 (y + 1)), zi (z_ro (EE s) 0 (y + 2))] [] [(0, zr 4 44), (1, zi (z_ro (EE s) 0 (y + 1))), (2, zi (z_ro (EE s) 0 (y + 2)))] i316_1487 rfl (by decide) rfl rfl (by omega) rfl rfl (by decide) rfl t311 (Nat.le_of_ble_eq_true rfl) (Nat.le_of_ble_eq_true rfl) rfl ?_
  refine c311_1 (S := zS0) (m0 := m) (B := B) (z_ro (EE s) 0 (y + 1)) (z_ro (EE s) 0 (y + 2)) (by omega) (J.rf hJ) (by omega) (by omega) (by omega) (fun v9 hv9 hF12 => ?_)
  show X (EE s) d 316 1490 [(0, zr 99 0), (1, zr 4 40), (2, zr 4 44), (3, zi y)] [zl v9] m _
  refine X.pop2 1491 i316_1490 rfl rfl ?_
  refine X.goto 1655 i316_1491 rfl rfl ?_
  exact K _ (hJ.up (by omega)) (hR.up (by omega))
theorem lw42 {s : Nat × (Nat → Int32)} {m : zM} {B : Int} {d : Nat} {Q : Option zV → zM → Prop} (y : Int) (hd : 200 ≤ d) (hJ : JB B m) (hR : Rel2 B m m) (hB : B + 220000 ≤ 1000000000) (hy : 0 ≤ y ∧ y + 6 ≤ (s.1 : Int)) (hs : s.1 ≤ 3072) (K : ∀ (m' : zM), JB (B + 220000) m' → Rel2 (B + 220000) m' m' → X (EE s) d 316 1655 [(0, zr 99 0), (1, zr 4 40), (2, zr 4 44), (3, zi y)] [] m' Q) : X (EE s) d 316 1494 [(0, zr 99 0), (1, zr 4 40), (2, zr 4 44), (3, zi y)] [] m Q := by
  refine X.mok (fun hk => ?_)
  refine X.aload_n 1495 i316_1494 rfl rfl rfl ?_
  refine X.aload_n 1496 i316_1495 rfl rfl rfl ?_
  refine X.iload_n 1497 i316_1496 rfl rfl rfl ?_
  refine X.iconst 1498 i316_1497 rfl rfl (by decide) ?_
  refine X.iadd 1499 i316_1498 rfl rfl (by omega) ?_
  refine X.rald 1500 i316_1499 rfl rfl (by decide) (by show 0 ≤ _ ∧ _ < ((s.1 : Nat) : Int); omega) (fun h1 => ?_)
  refine X.aload_n 1501 i316_1500 rfl rfl rfl ?_
  refine X.iload_n 1502 i316_1501 rfl rfl rfl ?_
  refine X.iconst 1503 i316_1502 rfl rfl (by decide) ?_
  refine X.iadd 1504 i316_1503 rfl rfl (by omega) ?_
  refine X.rald 1505 i316_1504 rfl rfl (by decide) (by show 0 ≤ _ ∧ _ < ((s.1 : Nat) : Int); omega) (fun h2 => ?_)
  refine X.callv 1508 [zi (z_ro (EE s) 0 (y + 1)), zi (z_ro (EE s) 0 (y + 2))] [] [(0, zr 4 40), (1, zi (z_ro (EE s) 0 (y + 1))), (2, zi (z_ro (EE s) 0 (y + 2)))] i316_1505 rfl (by decide) rfl rfl (by omega) rfl rfl (by decide) rfl t189 (Nat.le_of_ble_eq_true rfl) (Nat.le_of_ble_eq_true rfl) rfl ?_
  refine c189_1 (S := zS0) (m0 := m) (B := B) (z_ro (EE s) 0 (y + 1)) (z_ro (EE s) 0 (y + 2)) (by omega) (J.rf hJ) (by omega) (by omega) (by omega) (fun v3 hv3 hF6 => ?_)
  show X (EE s) d 316 1508 [(0, zr 99 0), (1, zr 4 40), (2, zr 4 44), (3, zi y)] [zl v3] m _
  refine X.pop2 1509 i316_1508 rfl rfl ?_
  refine X.aload_n 1510 i316_1509 rfl rfl rfl ?_
  refine X.aload_n 1511 i316_1510 rfl rfl rfl ?_
  refine X.iload_n 1512 i316_1511 rfl rfl rfl ?_
  refine X.iconst 1513 i316_1512 rfl rfl (by decide) ?_
  refine X.iadd 1514 i316_1513 rfl rfl (by omega) ?_
  refine X.rald 1515 i316_1514 rfl rfl (by decide) (by show 0 ≤ _ ∧ _ < ((s.1 : Nat) : Int); omega) (fun h7 => ?_)
  refine X.aload_n 1516 i316_1515 rfl rfl rfl ?_
  refine X.iload_n 1517 i316_1516 rfl rfl rfl ?_
  refine X.iconst 1518 i316_1517 rfl rfl (by decide) ?_
  refine X.iadd 1519 i316_1518 rfl rfl (by omega) ?_
  refine X.rald 1520 i316_1519 rfl rfl (by decide) (by show 0 ≤ _ ∧ _ < ((s.1 : Nat) : Int); omega) (fun h8 => ?_)
  refine X.callv 1523 [zi (z_ro (EE s) 0 (y + 1)), zi (z_ro (EE s) 0 (y + 2))] [] [(0, zr 4 44), (1, zi (z_ro (EE s) 0 (y + 1))), (2, zi (z_ro (EE s) 0 (y + 2)))] i316_1520 rfl (by decide) rfl rfl (by omega) rfl rfl (by decide) rfl t312 (Nat.le_of_ble_eq_true rfl) (Nat.le_of_ble_eq_true rfl) rfl ?_
  refine c312_1 (S := zS0) (m0 := m) (B := B) (z_ro (EE s) 0 (y + 1)) (z_ro (EE s) 0 (y + 2)) (by omega) (J.rf hJ) (by omega) (by omega) (by omega) (fun v9 hv9 hF12 => ?_)
  show X (EE s) d 316 1523 [(0, zr 99 0), (1, zr 4 40), (2, zr 4 44), (3, zi y)] [zl v9] m _
  refine X.pop2 1524 i316_1523 rfl rfl ?_
  refine X.goto 1655 i316_1524 rfl rfl ?_
  exact K _ (hJ.up (by omega)) (hR.up (by omega))
theorem lw43 {s : Nat × (Nat → Int32)} {m : zM} {B : Int} {d : Nat} {Q : Option zV → zM → Prop} (y : Int) (hd : 200 ≤ d) (hJ : JB B m) (hR : Rel2 B m m) (hB : B + 220000 ≤ 1000000000) (hy : 0 ≤ y ∧ y + 6 ≤ (s.1 : Int)) (hs : s.1 ≤ 3072) (K : ∀ (m' : zM), JB (B + 220000) m' → Rel2 (B + 220000) m' m' → X (EE s) d 316 1655 [(0, zr 99 0), (1, zr 4 40), (2, zr 4 44), (3, zi y)] [] m' Q) : X (EE s) d 316 1527 [(0, zr 99 0), (1, zr 4 40), (2, zr 4 44), (3, zi y)] [] m Q := by
  refine X.mok (fun hk => ?_)
  refine X.aload_n 1528 i316_1527 rfl rfl rfl ?_
  refine X.aload_n 1529 i316_1528 rfl rfl rfl ?_
  refine X.iload_n 1530 i316_1529 rfl rfl rfl ?_
  refine X.iconst 1531 i316_1530 rfl rfl (by decide) ?_
  refine X.iadd 1532 i316_1531 rfl rfl (by omega) ?_
  refine X.rald 1533 i316_1532 rfl rfl (by decide) (by show 0 ≤ _ ∧ _ < ((s.1 : Nat) : Int); omega) (fun h1 => ?_)
  refine X.aload_n 1534 i316_1533 rfl rfl rfl ?_
  refine X.iload_n 1535 i316_1534 rfl rfl rfl ?_
  refine X.iconst 1536 i316_1535 rfl rfl (by decide) ?_
  refine X.iadd 1537 i316_1536 rfl rfl (by omega) ?_
  refine X.rald 1538 i316_1537 rfl rfl (by decide) (by show 0 ≤ _ ∧ _ < ((s.1 : Nat) : Int); omega) (fun h2 => ?_)
  refine X.callv 1541 [zi (z_ro (EE s) 0 (y + 1)), zi (z_ro (EE s) 0 (y + 2))] [] [(0, zr 4 40), (1, zi (z_ro (EE s) 0 (y + 1))), (2, zi (z_ro (EE s) 0 (y + 2)))] i316_1538 rfl (by decide) rfl rfl (by omega) rfl rfl (by decide) rfl t190 (Nat.le_of_ble_eq_true rfl) (Nat.le_of_ble_eq_true rfl) rfl ?_
  refine c190_1 (S := zS0) (m0 := m) (B := B) (z_ro (EE s) 0 (y + 1)) (z_ro (EE s) 0 (y + 2)) (by omega) (J.rf hJ) (by omega) (by omega) (by omega) (fun v3 hv3 hF6 => ?_)
  show X (EE s) d 316 1541 [(0, zr 99 0), (1, zr 4 40), (2, zr 4 44), (3, zi y)] [zi v3] m _
  refine X.pop 1542 i316_1541 rfl rfl rfl ?_
  refine X.aload_n 1543 i316_1542 rfl rfl rfl ?_
  refine X.aload_n 1544 i316_1543 rfl rfl rfl ?_
  refine X.iload_n 1545 i316_1544 rfl rfl rfl ?_
  refine X.iconst 1546 i316_1545 rfl rfl (by decide) ?_
  refine X.iadd 1547 i316_1546 rfl rfl (by omega) ?_
  refine X.rald 1548 i316_1547 rfl rfl (by decide) (by show 0 ≤ _ ∧ _ < ((s.1 : Nat) : Int); omega) (fun h7 => ?_)
  refine X.aload_n 1549 i316_1548 rfl rfl rfl ?_
  refine X.iload_n 1550 i316_1549 rfl rfl rfl ?_
  refine X.iconst 1551 i316_1550 rfl rfl (by decide) ?_
  refine X.iadd 1552 i316_1551 rfl rfl (by omega) ?_
  refine X.rald 1553 i316_1552 rfl rfl (by decide) (by show 0 ≤ _ ∧ _ < ((s.1 : Nat) : Int); omega) (fun h8 => ?_)
  refine X.callv 1556 [zi (z_ro (EE s) 0 (y + 1)), zi (z_ro (EE s) 0 (y + 2))] [] [(0, zr 4 44), (1, zi (z_ro (EE s) 0 (y + 1))), (2, zi (z_ro (EE s) 0 (y + 2)))] i316_1553 rfl (by decide) rfl rfl (by omega) rfl rfl (by decide) rfl t313 (Nat.le_of_ble_eq_true rfl) (Nat.le_of_ble_eq_true rfl) rfl ?_
  refine c313_1 (S := zS0) (m0 := m) (B := B) (z_ro (EE s) 0 (y + 1)) (z_ro (EE s) 0 (y + 2)) (by omega) (J.rf hJ) (by omega) (by omega) (by omega) (fun v9 hv9 hF12 => ?_)
  show X (EE s) d 316 1556 [(0, zr 99 0), (1, zr 4 40), (2, zr 4 44), (3, zi y)] [zi v9] m _
  refine X.pop 1557 i316_1556 rfl rfl rfl ?_
  refine X.goto 1655 i316_1557 rfl rfl ?_
  exact K _ (hJ.up (by omega)) (hR.up (by omega))
theorem lw44 {s : Nat × (Nat → Int32)} {m : zM} {B : Int} {d : Nat} {Q : Option zV → zM → Prop} (y : Int) (hd : 200 ≤ d) (hJ : JB B m) (hR : Rel2 B m m) (hB : B + 220000 ≤ 1000000000) (hy : 0 ≤ y ∧ y + 6 ≤ (s.1 : Int)) (hs : s.1 ≤ 3072) (K : ∀ (m' : zM), JB (B + 220000) m' → Rel2 (B + 220000) m' m' → X (EE s) d 316 1655 [(0, zr 99 0), (1, zr 4 40), (2, zr 4 44), (3, zi y)] [] m' Q) : X (EE s) d 316 1560 [(0, zr 99 0), (1, zr 4 40), (2, zr 4 44), (3, zi y)] [] m Q := by
  refine X.mok (fun hk => ?_)
  refine X.aload_n 1561 i316_1560 rfl rfl rfl ?_
  refine X.aload_n 1562 i316_1561 rfl rfl rfl ?_
  refine X.iload_n 1563 i316_1562 rfl rfl rfl ?_
  refine X.iconst 1564 i316_1563 rfl rfl (by decide) ?_
  refine X.iadd 1565 i316_1564 rfl rfl (by omega) ?_
  refine X.rald 1566 i316_1565 rfl rfl (by decide) (by show 0 ≤ _ ∧ _ < ((s.1 : Nat) : Int); omega) (fun h1 => ?_)
  refine X.aload_n 1567 i316_1566 rfl rfl rfl ?_
  refine X.iload_n 1568 i316_1567 rfl rfl rfl ?_
  refine X.iconst 1569 i316_1568 rfl rfl (by decide) ?_
  refine X.iadd 1570 i316_1569 rfl rfl (by omega) ?_
  refine X.rald 1571 i316_1570 rfl rfl (by decide) (by show 0 ≤ _ ∧ _ < ((s.1 : Nat) : Int); omega) (fun h2 => ?_)
  refine X.callv 1574 [zi (z_ro (EE s) 0 (y + 1)), zi (z_ro (EE s) 0 (y + 2))] [] [(0, zr 4 40), (1, zi (z_ro (EE s) 0 (y + 1))), (2, zi (z_ro (EE s) 0 (y + 2)))] i316_1571 rfl (by decide) rfl rfl (by omega) rfl rfl (by decide) rfl t193 (Nat.le_of_ble_eq_true rfl) (Nat.le_of_ble_eq_true rfl) rfl ?_
  refine c193_1 (S := zS0) (m0 := m) (B := B) (z_ro (EE s) 0 (y + 1)) (z_ro (EE s) 0 (y + 2)) (by omega) (J.rf hJ) (by omega) (by omega) (by omega) (fun v3 hv3 hF6 => ?_)
  show X (EE s) d 316 1574 [(0, zr 99 0), (1, zr 4 40), (2, zr 4 44), (3, zi y)] [zi v3] m _
  refine X.pop 1575 i316_1574 rfl rfl rfl ?_
  refine X.aload_n 1576 i316_1575 rfl rfl rfl ?_
  refine X.aload_n 1577 i316_1576 rfl rfl rfl ?_
  refine X.iload_n 1578 i316_1577 rfl rfl rfl ?_
  refine X.iconst 1579 i316_1578 rfl rfl (by decide) ?_
  refine X.iadd 1580 i316_1579 rfl rfl (by omega) ?_
  refine X.rald 1581 i316_1580 rfl rfl (by decide) (by show 0 ≤ _ ∧ _ < ((s.1 : Nat) : Int); omega) (fun h7 => ?_)
  refine X.aload_n 1582 i316_1581 rfl rfl rfl ?_
  refine X.iload_n 1583 i316_1582 rfl rfl rfl ?_
  refine X.iconst 1584 i316_1583 rfl rfl (by decide) ?_
  refine X.iadd 1585 i316_1584 rfl rfl (by omega) ?_
  refine X.rald 1586 i316_1585 rfl rfl (by decide) (by show 0 ≤ _ ∧ _ < ((s.1 : Nat) : Int); omega) (fun h8 => ?_)
  refine X.callv 1589 [zi (z_ro (EE s) 0 (y + 1)), zi (z_ro (EE s) 0 (y + 2))] [] [(0, zr 4 44), (1, zi (z_ro (EE s) 0 (y + 1))), (2, zi (z_ro (EE s) 0 (y + 2)))] i316_1586 rfl (by decide) rfl rfl (by omega) rfl rfl (by decide) rfl t253 (Nat.le_of_ble_eq_true rfl) (Nat.le_of_ble_eq_true rfl) rfl ?_
  refine c253_1 (S := zS0) (m0 := m) (B := B) (z_ro (EE s) 0 (y + 1)) (z_ro (EE s) 0 (y + 2)) (by omega) (J.rf hJ) (by omega) (by omega) (by omega) (fun v9 hv9 hF12 => ?_)
  show X (EE s) d 316 1589 [(0, zr 99 0), (1, zr 4 40), (2, zr 4 44), (3, zi y)] [zi v9] m _
  refine X.pop 1590 i316_1589 rfl rfl rfl ?_
  refine X.goto 1655 i316_1590 rfl rfl ?_
  exact K _ (hJ.up (by omega)) (hR.up (by omega))
theorem lw45 {s : Nat × (Nat → Int32)} {m : zM} {B : Int} {d : Nat} {Q : Option zV → zM → Prop} (y : Int) (hd : 200 ≤ d) (hJ : JB B m) (hR : Rel2 B m m) (hB : B + 220000 ≤ 1000000000) (hy : 0 ≤ y ∧ y + 6 ≤ (s.1 : Int)) (hs : s.1 ≤ 3072) (K : ∀ (m' : zM), JB (B + 220000) m' → Rel2 (B + 220000) m' m' → X (EE s) d 316 1655 [(0, zr 99 0), (1, zr 4 40), (2, zr 4 44), (3, zi y)] [] m' Q) : X (EE s) d 316 1593 [(0, zr 99 0), (1, zr 4 40), (2, zr 4 44), (3, zi y)] [] m Q := by
  refine X.mok (fun hk => ?_)
  refine X.aload_n 1594 i316_1593 rfl rfl rfl ?_
  refine X.aload_n 1595 i316_1594 rfl rfl rfl ?_
  refine X.iload_n 1596 i316_1595 rfl rfl rfl ?_
  refine X.iconst 1597 i316_1596 rfl rfl (by decide) ?_
  refine X.iadd 1598 i316_1597 rfl rfl (by omega) ?_
  refine X.rald 1599 i316_1598 rfl rfl (by decide) (by show 0 ≤ _ ∧ _ < ((s.1 : Nat) : Int); omega) (fun h1 => ?_)
  refine X.ifeq 1606 1602 i316_1599 rfl rfl rfl (fun h2 => ?_) (fun h2 => ?_)
  · refine X.iconst 1607 i316_1606 rfl rfl (by decide) ?_
    refine X.callv 1610 [zi 0] [] [(0, zr 4 40), (1, zi 0)] i316_1607 rfl (by decide) rfl rfl (by omega) rfl rfl (by decide) rfl t195 (Nat.le_of_ble_eq_true rfl) (Nat.le_of_ble_eq_true rfl) rfl ?_
    refine c195_1 (S := zS0) (m0 := m) (B := B) 0 (by omega) (J.rf hJ) (by omega) (by omega) (fun h => h) (fun h => h) (fun h => h) (fun h => h) (fun h => h) (fun h => h) (fun h => h) (fun h => h) (fun h => h) (fun h => h) (fun h => h) (fun h => h) (fun h => h) (fun h => h) (fun h => h) (fun h => h) (fun h => h) (fun v3 m4 hv3 hF6 hJ5 => ?_)
    show X (EE s) d 316 1610 [(0, zr 99 0), (1, zr 4 40), (2, zr 4 44), (3, zi y)] [zi v3] m4 _
    refine X.pop 1611 i316_1610 rfl rfl rfl ?_
    refine X.aload_n 1612 i316_1611 rfl rfl rfl ?_
    refine X.aload_n 1613 i316_1612 rfl rfl rfl ?_
    refine X.iload_n 1614 i316_1613 rfl rfl rfl ?_
    refine X.iconst 1615 i316_1614 rfl rfl (by decide) ?_
    refine X.iadd 1616 i316_1615 rfl rfl (by omega) ?_
    refine X.rald 1617 i316_1616 rfl rfl (by decide) (by show 0 ≤ _ ∧ _ < ((s.1 : Nat) : Int); omega) (fun h7 => ?_)
    refine X.ifeq 1624 1620 i316_1617 rfl rfl rfl (fun h8 => ?_) (fun h8 => ?_)
    · refine X.iconst 1625 i316_1624 rfl rfl (by decide) ?_
      refine X.callv 1628 [zi 0] [] [(0, zr 4 44), (1, zi 0)] i316_1625 rfl (by decide) rfl rfl (by omega) rfl rfl (by decide) rfl t314 (Nat.le_of_ble_eq_true rfl) (Nat.le_of_ble_eq_true rfl) rfl ?_
      refine c314_1 (S := zS0) (m0 := m4) (B := B + 4) 0 (by omega) (J.rf hJ5.jb0) (by omega) (by omega) (fun h => h) (fun h => h) (fun h => h) (fun h => h) (fun h => h) (fun h => h) (fun h => h) (fun h => h) (fun h => h) (fun h => h) (fun h => h) (fun h => h) (fun h => h) (fun h => h) (fun h => h) (fun h => h) (fun v9 m10 hv9 hF12 hJ11 => ?_)
      show X (EE s) d 316 1628 [(0, zr 99 0), (1, zr 4 40), (2, zr 4 44), (3, zi y)] [zi v9] m10 _
      refine X.pop 1629 i316_1628 rfl rfl rfl ?_
      refine X.goto 1655 i316_1629 rfl rfl ?_
      exact K _ (hJ11.jb0.up (by omega)) (st_image (by omega) hk hJ (by omega) hR hF6 hF12).2
    · exfalso
      omega
  · refine X.iconst 1603 i316_1602 rfl rfl (by decide) ?_
    refine X.goto 1607 i316_1603 rfl rfl ?_
    refine X.callv 1610 [zi 1] [] [(0, zr 4 40), (1, zi 1)] i316_1607 rfl (by decide) rfl rfl (by omega) rfl rfl (by decide) rfl t195 (Nat.le_of_ble_eq_true rfl) (Nat.le_of_ble_eq_true rfl) rfl ?_
    refine c195_1 (S := zS0) (m0 := m) (B := B) 1 (by omega) (J.rf hJ) (by omega) (by omega) (fun h => h) (fun h => h) (fun h => h) (fun h => h) (fun h => h) (fun h => h) (fun h => h) (fun h => h) (fun h => h) (fun h => h) (fun h => h) (fun h => h) (fun h => h) (fun h => h) (fun h => h) (fun h => h) (fun h => h) (fun v13 m14 hv13 hF16 hJ15 => ?_)
    show X (EE s) d 316 1610 [(0, zr 99 0), (1, zr 4 40), (2, zr 4 44), (3, zi y)] [zi v13] m14 _
    refine X.pop 1611 i316_1610 rfl rfl rfl ?_
    refine X.aload_n 1612 i316_1611 rfl rfl rfl ?_
    refine X.aload_n 1613 i316_1612 rfl rfl rfl ?_
    refine X.iload_n 1614 i316_1613 rfl rfl rfl ?_
    refine X.iconst 1615 i316_1614 rfl rfl (by decide) ?_
    refine X.iadd 1616 i316_1615 rfl rfl (by omega) ?_
    refine X.rald 1617 i316_1616 rfl rfl (by decide) (by show 0 ≤ _ ∧ _ < ((s.1 : Nat) : Int); omega) (fun h17 => ?_)
    refine X.ifeq 1624 1620 i316_1617 rfl rfl rfl (fun h18 => ?_) (fun h18 => ?_)
    · exfalso
      omega
    · refine X.iconst 1621 i316_1620 rfl rfl (by decide) ?_
      refine X.goto 1625 i316_1621 rfl rfl ?_
      refine X.callv 1628 [zi 1] [] [(0, zr 4 44), (1, zi 1)] i316_1625 rfl (by decide) rfl rfl (by omega) rfl rfl (by decide) rfl t314 (Nat.le_of_ble_eq_true rfl) (Nat.le_of_ble_eq_true rfl) rfl ?_
      refine c314_1 (S := zS0) (m0 := m14) (B := B + 4) 1 (by omega) (J.rf hJ15.jb0) (by omega) (by omega) (fun h => h) (fun h => h) (fun h => h) (fun h => h) (fun h => h) (fun h => h) (fun h => h) (fun h => h) (fun h => h) (fun h => h) (fun h => h) (fun h => h) (fun h => h) (fun h => h) (fun h => h) (fun h => h) (fun v19 m20 hv19 hF22 hJ21 => ?_)
      show X (EE s) d 316 1628 [(0, zr 99 0), (1, zr 4 40), (2, zr 4 44), (3, zi y)] [zi v19] m20 _
      refine X.pop 1629 i316_1628 rfl rfl rfl ?_
      refine X.goto 1655 i316_1629 rfl rfl ?_
      exact K _ (hJ21.jb0.up (by omega)) (st_image (by omega) hk hJ (by omega) hR hF16 hF22).2
theorem lw46 {s : Nat × (Nat → Int32)} {m : zM} {B : Int} {d : Nat} {Q : Option zV → zM → Prop} (y : Int) (hd : 200 ≤ d) (hJ : JB B m) (hR : Rel2 B m m) (hB : B + 220000 ≤ 1000000000) (hy : 0 ≤ y ∧ y + 6 ≤ (s.1 : Int)) (hs : s.1 ≤ 3072) (K : ∀ (m' : zM), JB (B + 220000) m' → Rel2 (B + 220000) m' m' → X (EE s) d 316 1655 [(0, zr 99 0), (1, zr 4 40), (2, zr 4 44), (3, zi y)] [] m' Q) : X (EE s) d 316 1632 [(0, zr 99 0), (1, zr 4 40), (2, zr 4 44), (3, zi y)] [] m Q := by
  refine X.mok (fun hk => ?_)
  refine X.aload_n 1633 i316_1632 rfl rfl rfl ?_
  refine X.aload_n 1634 i316_1633 rfl rfl rfl ?_
  refine X.iload_n 1635 i316_1634 rfl rfl rfl ?_
  refine X.iconst 1636 i316_1635 rfl rfl (by decide) ?_
  refine X.iadd 1637 i316_1636 rfl rfl (by omega) ?_
  refine X.rald 1638 i316_1637 rfl rfl (by decide) (by show 0 ≤ _ ∧ _ < ((s.1 : Nat) : Int); omega) (fun h1 => ?_)
  refine X.callv 1641 [zi (z_ro (EE s) 0 (y + 1))] [] [(0, zr 4 40), (1, zi (z_ro (EE s) 0 (y + 1)))] i316_1638 rfl (by decide) rfl rfl (by omega) rfl rfl (by decide) rfl t196 (Nat.le_of_ble_eq_true rfl) (Nat.le_of_ble_eq_true rfl) rfl ?_
  refine c196_1 (S := zS0) (m0 := m) (B := B) (z_ro (EE s) 0 (y + 1)) (by omega) (J.rf hJ) (by omega) (by omega) (fun v2 hv2 hF5 => ?_)
  show X (EE s) d 316 1641 [(0, zr 99 0), (1, zr 4 40), (2, zr 4 44), (3, zi y)] [zl v2] m _
  refine X.pop2 1642 i316_1641 rfl rfl ?_
  refine X.aload_n 1643 i316_1642 rfl rfl rfl ?_
  refine X.aload_n 1644 i316_1643 rfl rfl rfl ?_
  refine X.iload_n 1645 i316_1644 rfl rfl rfl ?_
  refine X.iconst 1646 i316_1645 rfl rfl (by decide) ?_
  refine X.iadd 1647 i316_1646 rfl rfl (by omega) ?_
  refine X.rald 1648 i316_1647 rfl rfl (by decide) (by show 0 ≤ _ ∧ _ < ((s.1 : Nat) : Int); omega) (fun h6 => ?_)
  refine X.callv 1651 [zi (z_ro (EE s) 0 (y + 1))] [] [(0, zr 4 44), (1, zi (z_ro (EE s) 0 (y + 1)))] i316_1648 rfl (by decide) rfl rfl (by omega) rfl rfl (by decide) rfl t315 (Nat.le_of_ble_eq_true rfl) (Nat.le_of_ble_eq_true rfl) rfl ?_
  refine c315_1 (S := zS0) (m0 := m) (B := B) (z_ro (EE s) 0 (y + 1)) (by omega) (J.rf hJ) (by omega) (by omega) (fun v7 hv7 hF10 => ?_)
  show X (EE s) d 316 1651 [(0, zr 99 0), (1, zr 4 40), (2, zr 4 44), (3, zi y)] [zl v7] m _
  refine X.pop2 1652 i316_1651 rfl rfl ?_
  refine X.goto 1655 i316_1652 rfl rfl ?_
  exact K _ (hJ.up (by omega)) (hR.up (by omega))
