section
variable {E : zE} {d j pc : Nat} {lv : List (Nat × zV)} {st : List zV} {m : zM} {Q : Option zV → zM → Prop} {q : Nat × Nat × Nat × Nat} {c : Value} {ks : Option (List Nat)}
theorem X.pop2 (pc' : Nat) {x : Int} (hi : z_I E j pc = some (.pop2, 1, q, c, ks)) (hc : z_cut ks lv = lv) (hp : pc + 1 = pc') (kk : X E d j pc' lv st m Q) : X E d j pc lv (zl x :: st) m Q :=
  X.num pc' hi hc hp rfl kk (fun h => ⟨z_tl h, fun _ => by
    show x_d2 1 (fun _ r => r) (fun _ _ r => r) (.long (Int64.ofInt x) :: st.map (z_v E.2.2.2)) _ = _
    simp only [x_d2, if_true]⟩)
theorem X.mok (kk : z_mok E.2.2.2 m → X E d j pc lv st m Q) : X E d j pc lv st m Q := fun h1 h2 h3 => kk h3 h1 h2 h3
end
abbrev zS0 : zS := (fun _ => False, fun _ => False, False, False)
theorem J.jb0 {m0 m : zM} {B : Int} (h : J zS0 m0 B m) : JB B m := h.1
theorem lw0 {s : Nat × (Nat → Int32)} {m : zM} {B : Int} {d : Nat} {Q : Option zV → zM → Prop} (y : Int) (hd : 200 ≤ d) (hJ : JB B m) (hR : Rel3 B m m) (hB : B + 220000 ≤ 700000000) (hy : 0 ≤ y ∧ y + 6 ≤ (s.1 : Int)) (hs : s.1 ≤ 3072) (K : ∀ (m' : zM), JB (B + 220000) m' → Rel3 (B + 220000) m' m' → X (EE s) d 316 1656 [(0, zr 99 0), (1, zr 4 40), (2, zr 4 44), (3, zi y)] [] m' Q) : X (EE s) d 316 236 [(0, zr 99 0), (1, zr 4 40), (2, zr 4 44), (3, zi y)] [] m Q := by
  refine X.mok (fun hk => ?_)
  refine X.aload_n 237 (zi316 236) rfl rfl rfl ?_
  refine X.aload_n 238 (zi316 237) rfl rfl rfl ?_
  refine X.iload_n 239 (zi316 238) rfl rfl rfl ?_
  refine X.iconst 240 (zi316 239) rfl rfl (by decide) ?_
  refine X.iadd 241 (zi316 240) rfl rfl (by omega) ?_
  refine X.rald 242 (zi316 241) rfl rfl (by decide) (by show 0 ≤ _ ∧ _ < ((s.1 : Nat) : Int); omega) (fun h1 => ?_)
  refine X.aload_n 243 (zi316 242) rfl rfl rfl ?_
  refine X.iload_n 244 (zi316 243) rfl rfl rfl ?_
  refine X.iconst 245 (zi316 244) rfl rfl (by decide) ?_
  refine X.iadd 246 (zi316 245) rfl rfl (by omega) ?_
  refine X.rald 247 (zi316 246) rfl rfl (by decide) (by show 0 ≤ _ ∧ _ < ((s.1 : Nat) : Int); omega) (fun h2 => ?_)
  refine X.callv 250 [zi (z_ro (EE s) 0 (y + 1)), zi (z_ro (EE s) 0 (y + 2))] [] [(0, zr 4 40), (1, zi (z_ro (EE s) 0 (y + 1))), (2, zi (z_ro (EE s) 0 (y + 2)))] (zi316 247) rfl (by decide) rfl rfl (by omega) rfl rfl (by decide) rfl t16 (Nat.le_of_ble_eq_true rfl) (Nat.le_of_ble_eq_true rfl) rfl ?_
  refine c16_1 (S := zS0) (m0 := m) (B := B) (z_ro (EE s) 0 (y + 1)) (z_ro (EE s) 0 (y + 2)) (by omega) (J.rf hJ) (by omega) (by omega) (by omega) (fun h => h) (fun h => h) (fun h => h) (fun v3 m4 hv3 hF6 hJ5 => ?_)
  show X (EE s) d 316 250 [(0, zr 99 0), (1, zr 4 40), (2, zr 4 44), (3, zi y)] [zi v3] m4 _
  refine X.pop 251 (zi316 250) rfl rfl rfl ?_
  refine X.aload_n 252 (zi316 251) rfl rfl rfl ?_
  refine X.aload_n 253 (zi316 252) rfl rfl rfl ?_
  refine X.iload_n 254 (zi316 253) rfl rfl rfl ?_
  refine X.iconst 255 (zi316 254) rfl rfl (by decide) ?_
  refine X.iadd 256 (zi316 255) rfl rfl (by omega) ?_
  refine X.rald 257 (zi316 256) rfl rfl (by decide) (by show 0 ≤ _ ∧ _ < ((s.1 : Nat) : Int); omega) (fun h7 => ?_)
  refine X.aload_n 258 (zi316 257) rfl rfl rfl ?_
  refine X.iload_n 259 (zi316 258) rfl rfl rfl ?_
  refine X.iconst 260 (zi316 259) rfl rfl (by decide) ?_
  refine X.iadd 261 (zi316 260) rfl rfl (by omega) ?_
  refine X.rald 262 (zi316 261) rfl rfl (by decide) (by show 0 ≤ _ ∧ _ < ((s.1 : Nat) : Int); omega) (fun h8 => ?_)
  refine X.callv 265 [zi (z_ro (EE s) 0 (y + 1)), zi (z_ro (EE s) 0 (y + 2))] [] [(0, zr 4 44), (1, zi (z_ro (EE s) 0 (y + 1))), (2, zi (z_ro (EE s) 0 (y + 2)))] (zi316 262) rfl (by decide) rfl rfl (by omega) rfl rfl (by decide) rfl t202 (Nat.le_of_ble_eq_true rfl) (Nat.le_of_ble_eq_true rfl) rfl ?_
  refine c202_1 (S := zS0) (m0 := m4) (B := B) (z_ro (EE s) 0 (y + 1)) (z_ro (EE s) 0 (y + 2)) (by omega) (J.rf hJ5.jb0) (by omega) (by omega) (by omega) (fun h => h) (fun h => h) (fun h => h) (fun v9 m10 hv9 hF12 hJ11 => ?_)
  show X (EE s) d 316 265 [(0, zr 99 0), (1, zr 4 40), (2, zr 4 44), (3, zi y)] [zi v9] m10 _
  refine X.pop 266 (zi316 265) rfl rfl rfl ?_
  refine X.goto 1656 (zi316 266) rfl rfl ?_
  exact K _ (hJ11.jb0.up (by omega)) (st3_phases (by omega) (by omega) hk hJ (by omega) hR hF6 hF12).2
theorem lw1 {s : Nat × (Nat → Int32)} {m : zM} {B : Int} {d : Nat} {Q : Option zV → zM → Prop} (y : Int) (hd : 200 ≤ d) (hJ : JB B m) (hR : Rel3 B m m) (hB : B + 220000 ≤ 700000000) (hy : 0 ≤ y ∧ y + 6 ≤ (s.1 : Int)) (hs : s.1 ≤ 3072) (K : ∀ (m' : zM), JB (B + 220000) m' → Rel3 (B + 220000) m' m' → X (EE s) d 316 1656 [(0, zr 99 0), (1, zr 4 40), (2, zr 4 44), (3, zi y)] [] m' Q) : X (EE s) d 316 269 [(0, zr 99 0), (1, zr 4 40), (2, zr 4 44), (3, zi y)] [] m Q := by
  refine X.mok (fun hk => ?_)
  refine X.aload_n 270 (zi316 269) rfl rfl rfl ?_
  refine X.aload_n 271 (zi316 270) rfl rfl rfl ?_
  refine X.iload_n 272 (zi316 271) rfl rfl rfl ?_
  refine X.iconst 273 (zi316 272) rfl rfl (by decide) ?_
  refine X.iadd 274 (zi316 273) rfl rfl (by omega) ?_
  refine X.rald 275 (zi316 274) rfl rfl (by decide) (by show 0 ≤ _ ∧ _ < ((s.1 : Nat) : Int); omega) (fun h1 => ?_)
  refine X.aload_n 276 (zi316 275) rfl rfl rfl ?_
  refine X.iload_n 277 (zi316 276) rfl rfl rfl ?_
  refine X.iconst 278 (zi316 277) rfl rfl (by decide) ?_
  refine X.iadd 279 (zi316 278) rfl rfl (by omega) ?_
  refine X.rald 280 (zi316 279) rfl rfl (by decide) (by show 0 ≤ _ ∧ _ < ((s.1 : Nat) : Int); omega) (fun h2 => ?_)
  refine X.callv 283 [zi (z_ro (EE s) 0 (y + 1)), zi (z_ro (EE s) 0 (y + 2))] [] [(0, zr 4 40), (1, zi (z_ro (EE s) 0 (y + 1))), (2, zi (z_ro (EE s) 0 (y + 2)))] (zi316 280) rfl (by decide) rfl rfl (by omega) rfl rfl (by decide) rfl t19 (Nat.le_of_ble_eq_true rfl) (Nat.le_of_ble_eq_true rfl) rfl ?_
  refine c19_1 (S := zS0) (m0 := m) (B := B) (z_ro (EE s) 0 (y + 1)) (z_ro (EE s) 0 (y + 2)) (by omega) (J.rf hJ) (by omega) (by omega) (by omega) (fun h => h) (fun h => h) (fun h => h) (fun h => h) (fun h => h) (fun h => h) (fun h => h) (fun h => h) (fun h => h) (fun h => h) (fun v3 m4 hv3 hF6 hJ5 => ?_)
  show X (EE s) d 316 283 [(0, zr 99 0), (1, zr 4 40), (2, zr 4 44), (3, zi y)] [zi v3] m4 _
  refine X.pop 284 (zi316 283) rfl rfl rfl ?_
  refine X.aload_n 285 (zi316 284) rfl rfl rfl ?_
  refine X.aload_n 286 (zi316 285) rfl rfl rfl ?_
  refine X.iload_n 287 (zi316 286) rfl rfl rfl ?_
  refine X.iconst 288 (zi316 287) rfl rfl (by decide) ?_
  refine X.iadd 289 (zi316 288) rfl rfl (by omega) ?_
  refine X.rald 290 (zi316 289) rfl rfl (by decide) (by show 0 ≤ _ ∧ _ < ((s.1 : Nat) : Int); omega) (fun h7 => ?_)
  refine X.aload_n 291 (zi316 290) rfl rfl rfl ?_
  refine X.iload_n 292 (zi316 291) rfl rfl rfl ?_
  refine X.iconst 293 (zi316 292) rfl rfl (by decide) ?_
  refine X.iadd 294 (zi316 293) rfl rfl (by omega) ?_
  refine X.rald 295 (zi316 294) rfl rfl (by decide) (by show 0 ≤ _ ∧ _ < ((s.1 : Nat) : Int); omega) (fun h8 => ?_)
  refine X.callv 298 [zi (z_ro (EE s) 0 (y + 1)), zi (z_ro (EE s) 0 (y + 2))] [] [(0, zr 4 44), (1, zi (z_ro (EE s) 0 (y + 1))), (2, zi (z_ro (EE s) 0 (y + 2)))] (zi316 295) rfl (by decide) rfl rfl (by omega) rfl rfl (by decide) rfl t205 (Nat.le_of_ble_eq_true rfl) (Nat.le_of_ble_eq_true rfl) rfl ?_
  refine c205_1 (S := zS0) (m0 := m4) (B := B + 7208) (z_ro (EE s) 0 (y + 1)) (z_ro (EE s) 0 (y + 2)) (by omega) (J.rf hJ5.jb0) (by omega) (by omega) (by omega) (fun h => h) (fun h => h) (fun h => h) (fun h => h) (fun h => h) (fun h => h) (fun h => h) (fun h => h) (fun h => h) (fun h => h) (fun v9 m10 hv9 hF12 hJ11 => ?_)
  show X (EE s) d 316 298 [(0, zr 99 0), (1, zr 4 40), (2, zr 4 44), (3, zi y)] [zi v9] m10 _
  refine X.pop 299 (zi316 298) rfl rfl rfl ?_
  refine X.goto 1656 (zi316 299) rfl rfl ?_
  exact K _ (hJ11.jb0.up (by omega)) (st3_sample (by omega) (by omega) hk hJ (by omega) hR hF6 hF12).2
theorem lw2 {s : Nat × (Nat → Int32)} {m : zM} {B : Int} {d : Nat} {Q : Option zV → zM → Prop} (y : Int) (hd : 200 ≤ d) (hJ : JB B m) (hR : Rel3 B m m) (hB : B + 220000 ≤ 700000000) (hy : 0 ≤ y ∧ y + 6 ≤ (s.1 : Int)) (hs : s.1 ≤ 3072) (K : ∀ (m' : zM), JB (B + 220000) m' → Rel3 (B + 220000) m' m' → X (EE s) d 316 1656 [(0, zr 99 0), (1, zr 4 40), (2, zr 4 44), (3, zi y)] [] m' Q) : X (EE s) d 316 302 [(0, zr 99 0), (1, zr 4 40), (2, zr 4 44), (3, zi y)] [] m Q := by
  refine X.mok (fun hk => ?_)
  refine X.aload_n 303 (zi316 302) rfl rfl rfl ?_
  refine X.aload_n 304 (zi316 303) rfl rfl rfl ?_
  refine X.iload_n 305 (zi316 304) rfl rfl rfl ?_
  refine X.iconst 306 (zi316 305) rfl rfl (by decide) ?_
  refine X.iadd 307 (zi316 306) rfl rfl (by omega) ?_
  refine X.rald 308 (zi316 307) rfl rfl (by decide) (by show 0 ≤ _ ∧ _ < ((s.1 : Nat) : Int); omega) (fun h1 => ?_)
  refine X.callv 311 [zi (z_ro (EE s) 0 (y + 1))] [] [(0, zr 4 40), (1, zi (z_ro (EE s) 0 (y + 1)))] (zi316 308) rfl (by decide) rfl rfl (by omega) rfl rfl (by decide) rfl t69 (Nat.le_of_ble_eq_true rfl) (Nat.le_of_ble_eq_true rfl) rfl ?_
  refine c69_1 (S := zS0) (m0 := m) (B := B) (z_ro (EE s) 0 (y + 1)) (by omega) (J.rf hJ) (by omega) (by omega) (fun h => h) (fun h => h) (fun h => h) (fun h => h) (fun h => h) (fun h => h) (fun h => h) (fun h => h) (fun h => h) (fun v2 m3 hv2 hF5 hJ4 => ?_)
  show X (EE s) d 316 311 [(0, zr 99 0), (1, zr 4 40), (2, zr 4 44), (3, zi y)] [zl v2] m3 _
  refine X.pop2 312 (zi316 311) rfl rfl ?_
  refine X.aload_n 313 (zi316 312) rfl rfl rfl ?_
  refine X.aload_n 314 (zi316 313) rfl rfl rfl ?_
  refine X.iload_n 315 (zi316 314) rfl rfl rfl ?_
  refine X.iconst 316 (zi316 315) rfl rfl (by decide) ?_
  refine X.iadd 317 (zi316 316) rfl rfl (by omega) ?_
  refine X.rald 318 (zi316 317) rfl rfl (by decide) (by show 0 ≤ _ ∧ _ < ((s.1 : Nat) : Int); omega) (fun h6 => ?_)
  refine X.callv 321 [zi (z_ro (EE s) 0 (y + 1))] [] [(0, zr 4 44), (1, zi (z_ro (EE s) 0 (y + 1)))] (zi316 318) rfl (by decide) rfl rfl (by omega) rfl rfl (by decide) rfl t279 (Nat.le_of_ble_eq_true rfl) (Nat.le_of_ble_eq_true rfl) rfl ?_
  refine c279_1 (S := zS0) (m0 := m3) (B := B + 7208) (z_ro (EE s) 0 (y + 1)) (by omega) (J.rf hJ4.jb0) (by omega) (by omega) (fun h => h) (fun h => h) (fun h => h) (fun h => h) (fun h => h) (fun h => h) (fun h => h) (fun h => h) (fun h => h) (fun v7 m8 hv7 hF10 hJ9 => ?_)
  show X (EE s) d 316 321 [(0, zr 99 0), (1, zr 4 40), (2, zr 4 44), (3, zi y)] [zl v7] m8 _
  refine X.pop2 322 (zi316 321) rfl rfl ?_
  refine X.goto 1656 (zi316 322) rfl rfl ?_
  exact K _ (hJ9.jb0.up (by omega)) (st3_again (by omega) hk hJ (by omega) hR hF5 hF10).2
theorem lw3 {s : Nat × (Nat → Int32)} {m : zM} {B : Int} {d : Nat} {Q : Option zV → zM → Prop} (y : Int) (hd : 200 ≤ d) (hJ : JB B m) (hR : Rel3 B m m) (hB : B + 220000 ≤ 700000000) (hy : 0 ≤ y ∧ y + 6 ≤ (s.1 : Int)) (hs : s.1 ≤ 3072) (K : ∀ (m' : zM), JB (B + 220000) m' → Rel3 (B + 220000) m' m' → X (EE s) d 316 1656 [(0, zr 99 0), (1, zr 4 40), (2, zr 4 44), (3, zi y)] [] m' Q) : X (EE s) d 316 325 [(0, zr 99 0), (1, zr 4 40), (2, zr 4 44), (3, zi y)] [] m Q := by
  refine X.mok (fun hk => ?_)
  refine X.aload_n 326 (zi316 325) rfl rfl rfl ?_
  refine X.aload_n 327 (zi316 326) rfl rfl rfl ?_
  refine X.iload_n 328 (zi316 327) rfl rfl rfl ?_
  refine X.iconst 329 (zi316 328) rfl rfl (by decide) ?_
  refine X.iadd 330 (zi316 329) rfl rfl (by omega) ?_
  refine X.rald 331 (zi316 330) rfl rfl (by decide) (by show 0 ≤ _ ∧ _ < ((s.1 : Nat) : Int); omega) (fun h1 => ?_)
  refine X.aload_n 332 (zi316 331) rfl rfl rfl ?_
  refine X.iload_n 333 (zi316 332) rfl rfl rfl ?_
  refine X.iconst 334 (zi316 333) rfl rfl (by decide) ?_
  refine X.iadd 335 (zi316 334) rfl rfl (by omega) ?_
  refine X.rald 336 (zi316 335) rfl rfl (by decide) (by show 0 ≤ _ ∧ _ < ((s.1 : Nat) : Int); omega) (fun h2 => ?_)
  refine X.callv 339 [zi (z_ro (EE s) 0 (y + 1)), zi (z_ro (EE s) 0 (y + 2))] [] [(0, zr 4 40), (1, zi (z_ro (EE s) 0 (y + 1))), (2, zi (z_ro (EE s) 0 (y + 2)))] (zi316 336) rfl (by decide) rfl rfl (by omega) rfl rfl (by decide) rfl t73 (Nat.le_of_ble_eq_true rfl) (Nat.le_of_ble_eq_true rfl) rfl ?_
  refine c73_1 (S := zS0) (m0 := m) (B := B) (z_ro (EE s) 0 (y + 1)) (z_ro (EE s) 0 (y + 2)) (by omega) (J.rf hJ) (by omega) (by omega) (by omega) (fun h => h) (fun h => h) (fun h => h) (fun h => h) (fun v3 m4 hv3 hF6 hJ5 => ?_)
  show X (EE s) d 316 339 [(0, zr 99 0), (1, zr 4 40), (2, zr 4 44), (3, zi y)] [zi v3] m4 _
  refine X.pop 340 (zi316 339) rfl rfl rfl ?_
  refine X.aload_n 341 (zi316 340) rfl rfl rfl ?_
  refine X.aload_n 342 (zi316 341) rfl rfl rfl ?_
  refine X.iload_n 343 (zi316 342) rfl rfl rfl ?_
  refine X.iconst 344 (zi316 343) rfl rfl (by decide) ?_
  refine X.iadd 345 (zi316 344) rfl rfl (by omega) ?_
  refine X.rald 346 (zi316 345) rfl rfl (by decide) (by show 0 ≤ _ ∧ _ < ((s.1 : Nat) : Int); omega) (fun h7 => ?_)
  refine X.aload_n 347 (zi316 346) rfl rfl rfl ?_
  refine X.iload_n 348 (zi316 347) rfl rfl rfl ?_
  refine X.iconst 349 (zi316 348) rfl rfl (by decide) ?_
  refine X.iadd 350 (zi316 349) rfl rfl (by omega) ?_
  refine X.rald 351 (zi316 350) rfl rfl (by decide) (by show 0 ≤ _ ∧ _ < ((s.1 : Nat) : Int); omega) (fun h8 => ?_)
  refine X.callv 354 [zi (z_ro (EE s) 0 (y + 1)), zi (z_ro (EE s) 0 (y + 2))] [] [(0, zr 4 44), (1, zi (z_ro (EE s) 0 (y + 1))), (2, zi (z_ro (EE s) 0 (y + 2)))] (zi316 351) rfl (by decide) rfl rfl (by omega) rfl rfl (by decide) rfl t280 (Nat.le_of_ble_eq_true rfl) (Nat.le_of_ble_eq_true rfl) rfl ?_
  refine c280_1 (S := zS0) (m0 := m4) (B := B + 1) (z_ro (EE s) 0 (y + 1)) (z_ro (EE s) 0 (y + 2)) (by omega) (J.rf hJ5.jb0) (by omega) (by omega) (by omega) (fun h => h) (fun h => h) (fun h => h) (fun h => h) (fun h => h) (fun v9 m10 hv9 hF12 hJ11 => ?_)
  show X (EE s) d 316 354 [(0, zr 99 0), (1, zr 4 40), (2, zr 4 44), (3, zi y)] [zi v9] m10 _
  refine X.pop 355 (zi316 354) rfl rfl rfl ?_
  refine X.goto 1656 (zi316 355) rfl rfl ?_
  exact K _ (hJ11.jb0.up (by omega)) (st3_set (by omega) (by omega) hk hJ (by omega) hR hF6 hF12).2
theorem lw4 {s : Nat × (Nat → Int32)} {m : zM} {B : Int} {d : Nat} {Q : Option zV → zM → Prop} (y : Int) (hd : 200 ≤ d) (hJ : JB B m) (hR : Rel3 B m m) (hB : B + 220000 ≤ 700000000) (hy : 0 ≤ y ∧ y + 6 ≤ (s.1 : Int)) (hs : s.1 ≤ 3072) (K : ∀ (m' : zM), JB (B + 220000) m' → Rel3 (B + 220000) m' m' → X (EE s) d 316 1656 [(0, zr 99 0), (1, zr 4 40), (2, zr 4 44), (3, zi y)] [] m' Q) : X (EE s) d 316 358 [(0, zr 99 0), (1, zr 4 40), (2, zr 4 44), (3, zi y)] [] m Q := by
  refine X.mok (fun hk => ?_)
  refine X.aload_n 359 (zi316 358) rfl rfl rfl ?_
  refine X.aload_n 360 (zi316 359) rfl rfl rfl ?_
  refine X.iload_n 361 (zi316 360) rfl rfl rfl ?_
  refine X.iconst 362 (zi316 361) rfl rfl (by decide) ?_
  refine X.iadd 363 (zi316 362) rfl rfl (by omega) ?_
  refine X.rald 364 (zi316 363) rfl rfl (by decide) (by show 0 ≤ _ ∧ _ < ((s.1 : Nat) : Int); omega) (fun h1 => ?_)
  refine X.aload_n 365 (zi316 364) rfl rfl rfl ?_
  refine X.iload_n 366 (zi316 365) rfl rfl rfl ?_
  refine X.iconst 367 (zi316 366) rfl rfl (by decide) ?_
  refine X.iadd 368 (zi316 367) rfl rfl (by omega) ?_
  refine X.rald 369 (zi316 368) rfl rfl (by decide) (by show 0 ≤ _ ∧ _ < ((s.1 : Nat) : Int); omega) (fun h2 => ?_)
  refine X.aload_n 370 (zi316 369) rfl rfl rfl ?_
  refine X.iload_n 371 (zi316 370) rfl rfl rfl ?_
  refine X.iconst 372 (zi316 371) rfl rfl (by decide) ?_
  refine X.iadd 373 (zi316 372) rfl rfl (by omega) ?_
  refine X.rald 374 (zi316 373) rfl rfl (by decide) (by show 0 ≤ _ ∧ _ < ((s.1 : Nat) : Int); omega) (fun h3 => ?_)
  refine X.callv 377 [zi (z_ro (EE s) 0 (y + 1)), zi (z_ro (EE s) 0 (y + 2)), zi (z_ro (EE s) 0 (y + 3))] [] [(0, zr 4 40), (1, zi (z_ro (EE s) 0 (y + 1))), (2, zi (z_ro (EE s) 0 (y + 2))), (3, zi (z_ro (EE s) 0 (y + 3)))] (zi316 374) rfl (by decide) rfl rfl (by omega) rfl rfl (by decide) rfl t78 (Nat.le_of_ble_eq_true rfl) (Nat.le_of_ble_eq_true rfl) rfl ?_
  refine c78_1 (S := zS0) (m0 := m) (B := B) (z_ro (EE s) 0 (y + 1)) (z_ro (EE s) 0 (y + 2)) (z_ro (EE s) 0 (y + 3)) (by omega) (J.rf hJ) (by omega) (by omega) (by omega) (by omega) (fun h => h) (fun h => h) (fun h => h) (fun v4 m5 hv4 hF7 hJ6 => ?_)
  show X (EE s) d 316 377 [(0, zr 99 0), (1, zr 4 40), (2, zr 4 44), (3, zi y)] [zi v4] m5 _
  refine X.pop 378 (zi316 377) rfl rfl rfl ?_
  refine X.aload_n 379 (zi316 378) rfl rfl rfl ?_
  refine X.aload_n 380 (zi316 379) rfl rfl rfl ?_
  refine X.iload_n 381 (zi316 380) rfl rfl rfl ?_
  refine X.iconst 382 (zi316 381) rfl rfl (by decide) ?_
  refine X.iadd 383 (zi316 382) rfl rfl (by omega) ?_
  refine X.rald 384 (zi316 383) rfl rfl (by decide) (by show 0 ≤ _ ∧ _ < ((s.1 : Nat) : Int); omega) (fun h8 => ?_)
  refine X.aload_n 385 (zi316 384) rfl rfl rfl ?_
  refine X.iload_n 386 (zi316 385) rfl rfl rfl ?_
  refine X.iconst 387 (zi316 386) rfl rfl (by decide) ?_
  refine X.iadd 388 (zi316 387) rfl rfl (by omega) ?_
  refine X.rald 389 (zi316 388) rfl rfl (by decide) (by show 0 ≤ _ ∧ _ < ((s.1 : Nat) : Int); omega) (fun h9 => ?_)
  refine X.aload_n 390 (zi316 389) rfl rfl rfl ?_
  refine X.iload_n 391 (zi316 390) rfl rfl rfl ?_
  refine X.iconst 392 (zi316 391) rfl rfl (by decide) ?_
  refine X.iadd 393 (zi316 392) rfl rfl (by omega) ?_
  refine X.rald 394 (zi316 393) rfl rfl (by decide) (by show 0 ≤ _ ∧ _ < ((s.1 : Nat) : Int); omega) (fun h10 => ?_)
  refine X.callv 397 [zi (z_ro (EE s) 0 (y + 1)), zi (z_ro (EE s) 0 (y + 2)), zi (z_ro (EE s) 0 (y + 3))] [] [(0, zr 4 44), (1, zi (z_ro (EE s) 0 (y + 1))), (2, zi (z_ro (EE s) 0 (y + 2))), (3, zi (z_ro (EE s) 0 (y + 3)))] (zi316 394) rfl (by decide) rfl rfl (by omega) rfl rfl (by decide) rfl t240 (Nat.le_of_ble_eq_true rfl) (Nat.le_of_ble_eq_true rfl) rfl ?_
  refine c240_1 (S := zS0) (m0 := m5) (B := B) (z_ro (EE s) 0 (y + 1)) (z_ro (EE s) 0 (y + 2)) (z_ro (EE s) 0 (y + 3)) (by omega) (J.rf hJ6.jb0) (by omega) (by omega) (by omega) (by omega) (fun h => h) (fun h => h) (fun h => h) (fun v11 m12 hv11 hF14 hJ13 => ?_)
  show X (EE s) d 316 397 [(0, zr 99 0), (1, zr 4 40), (2, zr 4 44), (3, zi y)] [zi v11] m12 _
  refine X.pop 398 (zi316 397) rfl rfl rfl ?_
  refine X.goto 1656 (zi316 398) rfl rfl ?_
  exact K _ (hJ13.jb0.up (by omega)) (st3_table (by omega) (by omega) (by omega) hk hJ (by omega) hR hF7 hF14).2
theorem lw5 {s : Nat × (Nat → Int32)} {m : zM} {B : Int} {d : Nat} {Q : Option zV → zM → Prop} (y : Int) (hd : 200 ≤ d) (hJ : JB B m) (hR : Rel3 B m m) (hB : B + 220000 ≤ 700000000) (hy : 0 ≤ y ∧ y + 6 ≤ (s.1 : Int)) (hs : s.1 ≤ 3072) (K : ∀ (m' : zM), JB (B + 220000) m' → Rel3 (B + 220000) m' m' → X (EE s) d 316 1656 [(0, zr 99 0), (1, zr 4 40), (2, zr 4 44), (3, zi y)] [] m' Q) : X (EE s) d 316 401 [(0, zr 99 0), (1, zr 4 40), (2, zr 4 44), (3, zi y)] [] m Q := by
  refine X.mok (fun hk => ?_)
  refine X.aload_n 402 (zi316 401) rfl rfl rfl ?_
  refine X.aload_n 403 (zi316 402) rfl rfl rfl ?_
  refine X.iload_n 404 (zi316 403) rfl rfl rfl ?_
  refine X.iconst 405 (zi316 404) rfl rfl (by decide) ?_
  refine X.iadd 406 (zi316 405) rfl rfl (by omega) ?_
  refine X.rald 407 (zi316 406) rfl rfl (by decide) (by show 0 ≤ _ ∧ _ < ((s.1 : Nat) : Int); omega) (fun h1 => ?_)
  refine X.callv 410 [zi (z_ro (EE s) 0 (y + 1))] [] [(0, zr 4 40), (1, zi (z_ro (EE s) 0 (y + 1)))] (zi316 407) rfl (by decide) rfl rfl (by omega) rfl rfl (by decide) rfl t83 (Nat.le_of_ble_eq_true rfl) (Nat.le_of_ble_eq_true rfl) rfl ?_
  refine c83_1 (S := zS0) (m0 := m) (B := B) (z_ro (EE s) 0 (y + 1)) (by omega) (J.rf hJ) (by omega) (by omega) (fun h => h) (fun h => h) (fun h => h) (fun v2 m3 hv2 hF5 hJ4 => ?_)
  show X (EE s) d 316 410 [(0, zr 99 0), (1, zr 4 40), (2, zr 4 44), (3, zi y)] [zi v2] m3 _
  refine X.pop 411 (zi316 410) rfl rfl rfl ?_
  refine X.aload_n 412 (zi316 411) rfl rfl rfl ?_
  refine X.aload_n 413 (zi316 412) rfl rfl rfl ?_
  refine X.iload_n 414 (zi316 413) rfl rfl rfl ?_
  refine X.iconst 415 (zi316 414) rfl rfl (by decide) ?_
  refine X.iadd 416 (zi316 415) rfl rfl (by omega) ?_
  refine X.rald 417 (zi316 416) rfl rfl (by decide) (by show 0 ≤ _ ∧ _ < ((s.1 : Nat) : Int); omega) (fun h6 => ?_)
  refine X.callv 420 [zi (z_ro (EE s) 0 (y + 1))] [] [(0, zr 4 44), (1, zi (z_ro (EE s) 0 (y + 1)))] (zi316 417) rfl (by decide) rfl rfl (by omega) rfl rfl (by decide) rfl t244 (Nat.le_of_ble_eq_true rfl) (Nat.le_of_ble_eq_true rfl) rfl ?_
  refine c244_1 (S := zS0) (m0 := m3) (B := B) (z_ro (EE s) 0 (y + 1)) (by omega) (J.rf hJ4.jb0) (by omega) (by omega) (fun h => h) (fun h => h) (fun h => h) (fun v7 m8 hv7 hF10 hJ9 => ?_)
  show X (EE s) d 316 420 [(0, zr 99 0), (1, zr 4 40), (2, zr 4 44), (3, zi y)] [zi v7] m8 _
  refine X.pop 421 (zi316 420) rfl rfl rfl ?_
  refine X.goto 1656 (zi316 421) rfl rfl ?_
  exact K _ (hJ9.jb0.up (by omega)) (st3_wipe (by omega) hk hJ (by omega) hR hF5 hF10).2
theorem lw6 {s : Nat × (Nat → Int32)} {m : zM} {B : Int} {d : Nat} {Q : Option zV → zM → Prop} (y : Int) (hd : 200 ≤ d) (hJ : JB B m) (hR : Rel3 B m m) (hB : B + 220000 ≤ 700000000) (hy : 0 ≤ y ∧ y + 6 ≤ (s.1 : Int)) (hs : s.1 ≤ 3072) (K : ∀ (m' : zM), JB (B + 220000) m' → Rel3 (B + 220000) m' m' → X (EE s) d 316 1656 [(0, zr 99 0), (1, zr 4 40), (2, zr 4 44), (3, zi y)] [] m' Q) : X (EE s) d 316 424 [(0, zr 99 0), (1, zr 4 40), (2, zr 4 44), (3, zi y)] [] m Q := by
  refine X.mok (fun hk => ?_)
  refine X.aload_n 425 (zi316 424) rfl rfl rfl ?_
  refine X.aload_n 426 (zi316 425) rfl rfl rfl ?_
  refine X.iload_n 427 (zi316 426) rfl rfl rfl ?_
  refine X.iconst 428 (zi316 427) rfl rfl (by decide) ?_
  refine X.iadd 429 (zi316 428) rfl rfl (by omega) ?_
  refine X.rald 430 (zi316 429) rfl rfl (by decide) (by show 0 ≤ _ ∧ _ < ((s.1 : Nat) : Int); omega) (fun h1 => ?_)
  refine X.aload_n 431 (zi316 430) rfl rfl rfl ?_
  refine X.iload_n 432 (zi316 431) rfl rfl rfl ?_
  refine X.iconst 433 (zi316 432) rfl rfl (by decide) ?_
  refine X.iadd 434 (zi316 433) rfl rfl (by omega) ?_
  refine X.rald 435 (zi316 434) rfl rfl (by decide) (by show 0 ≤ _ ∧ _ < ((s.1 : Nat) : Int); omega) (fun h2 => ?_)
  refine X.aload_n 436 (zi316 435) rfl rfl rfl ?_
  refine X.iload_n 437 (zi316 436) rfl rfl rfl ?_
  refine X.iconst 438 (zi316 437) rfl rfl (by decide) ?_
  refine X.iadd 439 (zi316 438) rfl rfl (by omega) ?_
  refine X.rald 440 (zi316 439) rfl rfl (by decide) (by show 0 ≤ _ ∧ _ < ((s.1 : Nat) : Int); omega) (fun h3 => ?_)
  refine X.aload_n 441 (zi316 440) rfl rfl rfl ?_
  refine X.iload_n 442 (zi316 441) rfl rfl rfl ?_
  refine X.iconst 443 (zi316 442) rfl rfl (by decide) ?_
  refine X.iadd 444 (zi316 443) rfl rfl (by omega) ?_
  refine X.rald 445 (zi316 444) rfl rfl (by decide) (by show 0 ≤ _ ∧ _ < ((s.1 : Nat) : Int); omega) (fun h4 => ?_)
  refine X.aload_n 446 (zi316 445) rfl rfl rfl ?_
  refine X.iload_n 447 (zi316 446) rfl rfl rfl ?_
  refine X.iconst 448 (zi316 447) rfl rfl (by decide) ?_
  refine X.iadd 449 (zi316 448) rfl rfl (by omega) ?_
  refine X.rald 450 (zi316 449) rfl rfl (by decide) (by show 0 ≤ _ ∧ _ < ((s.1 : Nat) : Int); omega) (fun h5 => ?_)
  refine X.callv 453 [zi (z_ro (EE s) 0 (y + 1)), zi (z_ro (EE s) 0 (y + 2)), zi (z_ro (EE s) 0 (y + 3)), zi (z_ro (EE s) 0 (y + 4)), zi (z_ro (EE s) 0 (y + 5))] [] [(0, zr 4 40), (1, zi (z_ro (EE s) 0 (y + 1))), (2, zi (z_ro (EE s) 0 (y + 2))), (3, zi (z_ro (EE s) 0 (y + 3))), (4, zi (z_ro (EE s) 0 (y + 4))), (5, zi (z_ro (EE s) 0 (y + 5)))] (zi316 450) rfl (by decide) rfl rfl (by omega) rfl rfl (by decide) rfl t85 (Nat.le_of_ble_eq_true rfl) (Nat.le_of_ble_eq_true rfl) rfl ?_
  refine c85_1 (S := zS0) (m0 := m) (B := B) (z_ro (EE s) 0 (y + 1)) (z_ro (EE s) 0 (y + 2)) (z_ro (EE s) 0 (y + 3)) (z_ro (EE s) 0 (y + 4)) (z_ro (EE s) 0 (y + 5)) (by omega) (J.rf hJ) (by omega) (by omega) (by omega) (by omega) (by omega) (by omega) (fun h => h) (fun h => h) (fun v6 m7 hv6 hF9 hJ8 => ?_)
  show X (EE s) d 316 453 [(0, zr 99 0), (1, zr 4 40), (2, zr 4 44), (3, zi y)] [zi v6] m7 _
  refine X.pop 454 (zi316 453) rfl rfl rfl ?_
  refine X.aload_n 455 (zi316 454) rfl rfl rfl ?_
  refine X.aload_n 456 (zi316 455) rfl rfl rfl ?_
  refine X.iload_n 457 (zi316 456) rfl rfl rfl ?_
  refine X.iconst 458 (zi316 457) rfl rfl (by decide) ?_
  refine X.iadd 459 (zi316 458) rfl rfl (by omega) ?_
  refine X.rald 460 (zi316 459) rfl rfl (by decide) (by show 0 ≤ _ ∧ _ < ((s.1 : Nat) : Int); omega) (fun h10 => ?_)
  refine X.aload_n 461 (zi316 460) rfl rfl rfl ?_
  refine X.iload_n 462 (zi316 461) rfl rfl rfl ?_
  refine X.iconst 463 (zi316 462) rfl rfl (by decide) ?_
  refine X.iadd 464 (zi316 463) rfl rfl (by omega) ?_
  refine X.rald 465 (zi316 464) rfl rfl (by decide) (by show 0 ≤ _ ∧ _ < ((s.1 : Nat) : Int); omega) (fun h11 => ?_)
  refine X.aload_n 466 (zi316 465) rfl rfl rfl ?_
  refine X.iload_n 467 (zi316 466) rfl rfl rfl ?_
  refine X.iconst 468 (zi316 467) rfl rfl (by decide) ?_
  refine X.iadd 469 (zi316 468) rfl rfl (by omega) ?_
  refine X.rald 470 (zi316 469) rfl rfl (by decide) (by show 0 ≤ _ ∧ _ < ((s.1 : Nat) : Int); omega) (fun h12 => ?_)
  refine X.aload_n 471 (zi316 470) rfl rfl rfl ?_
  refine X.iload_n 472 (zi316 471) rfl rfl rfl ?_
  refine X.iconst 473 (zi316 472) rfl rfl (by decide) ?_
  refine X.iadd 474 (zi316 473) rfl rfl (by omega) ?_
  refine X.rald 475 (zi316 474) rfl rfl (by decide) (by show 0 ≤ _ ∧ _ < ((s.1 : Nat) : Int); omega) (fun h13 => ?_)
  refine X.aload_n 476 (zi316 475) rfl rfl rfl ?_
  refine X.iload_n 477 (zi316 476) rfl rfl rfl ?_
  refine X.iconst 478 (zi316 477) rfl rfl (by decide) ?_
  refine X.iadd 479 (zi316 478) rfl rfl (by omega) ?_
  refine X.rald 480 (zi316 479) rfl rfl (by decide) (by show 0 ≤ _ ∧ _ < ((s.1 : Nat) : Int); omega) (fun h14 => ?_)
  refine X.callv 483 [zi (z_ro (EE s) 0 (y + 1)), zi (z_ro (EE s) 0 (y + 2)), zi (z_ro (EE s) 0 (y + 3)), zi (z_ro (EE s) 0 (y + 4)), zi (z_ro (EE s) 0 (y + 5))] [] [(0, zr 4 44), (1, zi (z_ro (EE s) 0 (y + 1))), (2, zi (z_ro (EE s) 0 (y + 2))), (3, zi (z_ro (EE s) 0 (y + 3))), (4, zi (z_ro (EE s) 0 (y + 4))), (5, zi (z_ro (EE s) 0 (y + 5)))] (zi316 480) rfl (by decide) rfl rfl (by omega) rfl rfl (by decide) rfl t256 (Nat.le_of_ble_eq_true rfl) (Nat.le_of_ble_eq_true rfl) rfl ?_
  refine c256_1 (S := zS0) (m0 := m7) (B := B) (z_ro (EE s) 0 (y + 1)) (z_ro (EE s) 0 (y + 2)) (z_ro (EE s) 0 (y + 3)) (z_ro (EE s) 0 (y + 4)) (z_ro (EE s) 0 (y + 5)) (by omega) (J.rf hJ8.jb0) (by omega) (by omega) (by omega) (by omega) (by omega) (by omega) (fun h => h) (fun h => h) (fun v15 m16 hv15 hF18 hJ17 => ?_)
  show X (EE s) d 316 483 [(0, zr 99 0), (1, zr 4 40), (2, zr 4 44), (3, zi y)] [zi v15] m16 _
  refine X.pop 484 (zi316 483) rfl rfl rfl ?_
  refine X.goto 1656 (zi316 484) rfl rfl ?_
  exact K _ (hJ17.jb0.up (by omega)) (st3_feed (by omega) (by omega) (by omega) (by omega) (by omega) hk hJ (by omega) hR hF9 hF18).2
theorem lw7 {s : Nat × (Nat → Int32)} {m : zM} {B : Int} {d : Nat} {Q : Option zV → zM → Prop} (y : Int) (hd : 200 ≤ d) (hJ : JB B m) (hR : Rel3 B m m) (hB : B + 220000 ≤ 700000000) (hy : 0 ≤ y ∧ y + 6 ≤ (s.1 : Int)) (hs : s.1 ≤ 3072) (K : ∀ (m' : zM), JB (B + 220000) m' → Rel3 (B + 220000) m' m' → X (EE s) d 316 1656 [(0, zr 99 0), (1, zr 4 40), (2, zr 4 44), (3, zi y)] [] m' Q) : X (EE s) d 316 487 [(0, zr 99 0), (1, zr 4 40), (2, zr 4 44), (3, zi y)] [] m Q := by
  refine X.mok (fun hk => ?_)
  refine X.aload_n 488 (zi316 487) rfl rfl rfl ?_
  refine X.aload_n 489 (zi316 488) rfl rfl rfl ?_
  refine X.iload_n 490 (zi316 489) rfl rfl rfl ?_
  refine X.iconst 491 (zi316 490) rfl rfl (by decide) ?_
  refine X.iadd 492 (zi316 491) rfl rfl (by omega) ?_
  refine X.rald 493 (zi316 492) rfl rfl (by decide) (by show 0 ≤ _ ∧ _ < ((s.1 : Nat) : Int); omega) (fun h1 => ?_)
  refine X.callv 496 [zi (z_ro (EE s) 0 (y + 1))] [] [(0, zr 4 40), (1, zi (z_ro (EE s) 0 (y + 1)))] (zi316 493) rfl (by decide) rfl rfl (by omega) rfl rfl (by decide) rfl t88 (Nat.le_of_ble_eq_true rfl) (Nat.le_of_ble_eq_true rfl) rfl ?_
  refine c88_1 (S := zS0) (m0 := m) (B := B) (z_ro (EE s) 0 (y + 1)) (by omega) (J.rf hJ) (by omega) (by omega) (fun h => h) (fun h => h) (fun v2 m3 hv2 hF5 hJ4 => ?_)
  show X (EE s) d 316 496 [(0, zr 99 0), (1, zr 4 40), (2, zr 4 44), (3, zi y)] [zi v2] m3 _
  refine X.pop 497 (zi316 496) rfl rfl rfl ?_
  refine X.aload_n 498 (zi316 497) rfl rfl rfl ?_
  refine X.aload_n 499 (zi316 498) rfl rfl rfl ?_
  refine X.iload_n 500 (zi316 499) rfl rfl rfl ?_
  refine X.iconst 501 (zi316 500) rfl rfl (by decide) ?_
  refine X.iadd 502 (zi316 501) rfl rfl (by omega) ?_
  refine X.rald 503 (zi316 502) rfl rfl (by decide) (by show 0 ≤ _ ∧ _ < ((s.1 : Nat) : Int); omega) (fun h6 => ?_)
  refine X.callv 506 [zi (z_ro (EE s) 0 (y + 1))] [] [(0, zr 4 44), (1, zi (z_ro (EE s) 0 (y + 1)))] (zi316 503) rfl (by decide) rfl rfl (by omega) rfl rfl (by decide) rfl t258 (Nat.le_of_ble_eq_true rfl) (Nat.le_of_ble_eq_true rfl) rfl ?_
  refine c258_1 (S := zS0) (m0 := m3) (B := B) (z_ro (EE s) 0 (y + 1)) (by omega) (J.rf hJ4.jb0) (by omega) (by omega) (fun h => h) (fun h => h) (fun v7 m8 hv7 hF10 hJ9 => ?_)
  show X (EE s) d 316 506 [(0, zr 99 0), (1, zr 4 40), (2, zr 4 44), (3, zi y)] [zi v7] m8 _
  refine X.pop 507 (zi316 506) rfl rfl rfl ?_
  refine X.goto 1656 (zi316 507) rfl rfl ?_
  exact K _ (hJ9.jb0.up (by omega)) (st3_end (by omega) hk hJ (by omega) hR hF5 hF10).2
theorem lw8 {s : Nat × (Nat → Int32)} {m : zM} {B : Int} {d : Nat} {Q : Option zV → zM → Prop} (y : Int) (hd : 200 ≤ d) (hJ : JB B m) (hR : Rel3 B m m) (hB : B + 220000 ≤ 700000000) (hy : 0 ≤ y ∧ y + 6 ≤ (s.1 : Int)) (hs : s.1 ≤ 3072) (K : ∀ (m' : zM), JB (B + 220000) m' → Rel3 (B + 220000) m' m' → X (EE s) d 316 1656 [(0, zr 99 0), (1, zr 4 40), (2, zr 4 44), (3, zi y)] [] m' Q) : X (EE s) d 316 510 [(0, zr 99 0), (1, zr 4 40), (2, zr 4 44), (3, zi y)] [] m Q := by
  refine X.mok (fun hk => ?_)
  refine X.aload_n 511 (zi316 510) rfl rfl rfl ?_
  refine X.callv 514 [] [] [(0, zr 4 40)] (zi316 511) rfl (by decide) rfl rfl (by omega) rfl rfl (by decide) rfl t90 (Nat.le_of_ble_eq_true rfl) (Nat.le_of_ble_eq_true rfl) rfl ?_
  refine c90_1 (S := zS0) (m0 := m) (B := B)  (by omega) (J.rf hJ) (by omega) (fun h => h) (fun h => h) (fun h => h) (fun h => h) (fun h => h) (fun h => h) (fun h => h) (fun h => h) (fun h => h) (fun v1 m2 hv1 hF4 hJ3 => ?_)
  show X (EE s) d 316 514 [(0, zr 99 0), (1, zr 4 40), (2, zr 4 44), (3, zi y)] [zi v1] m2 _
  refine X.pop 515 (zi316 514) rfl rfl rfl ?_
  refine X.aload_n 516 (zi316 515) rfl rfl rfl ?_
  refine X.callv 519 [] [] [(0, zr 4 44)] (zi316 516) rfl (by decide) rfl rfl (by omega) rfl rfl (by decide) rfl t260 (Nat.le_of_ble_eq_true rfl) (Nat.le_of_ble_eq_true rfl) rfl ?_
  refine c260_1 (S := zS0) (m0 := m2) (B := B)  (by omega) (J.rf hJ3.jb0) (by omega) (fun h => h) (fun h => h) (fun h => h) (fun h => h) (fun h => h) (fun h => h) (fun h => h) (fun h => h) (fun h => h) (fun h => h) (fun h => h) (fun h => h) (fun h => h) (fun h => h) (fun h => h) (fun h => h) (fun h => h) (fun h => h) (fun v5 m6 hv5 hF8 hJ7 => ?_)
  show X (EE s) d 316 519 [(0, zr 99 0), (1, zr 4 40), (2, zr 4 44), (3, zi y)] [zi v5] m6 _
  refine X.pop 520 (zi316 519) rfl rfl rfl ?_
  refine X.goto 1656 (zi316 520) rfl rfl ?_
  exact K _ (hJ7.jb0.up (by omega)) (st3_calendar  hk hJ (by omega) hR hF4 hF8).2
theorem lw9 {s : Nat × (Nat → Int32)} {m : zM} {B : Int} {d : Nat} {Q : Option zV → zM → Prop} (y : Int) (hd : 200 ≤ d) (hJ : JB B m) (hR : Rel3 B m m) (hB : B + 220000 ≤ 700000000) (hy : 0 ≤ y ∧ y + 6 ≤ (s.1 : Int)) (hs : s.1 ≤ 3072) (K : ∀ (m' : zM), JB (B + 220000) m' → Rel3 (B + 220000) m' m' → X (EE s) d 316 1656 [(0, zr 99 0), (1, zr 4 40), (2, zr 4 44), (3, zi y)] [] m' Q) : X (EE s) d 316 523 [(0, zr 99 0), (1, zr 4 40), (2, zr 4 44), (3, zi y)] [] m Q := by
  refine X.mok (fun hk => ?_)
  refine X.aload_n 524 (zi316 523) rfl rfl rfl ?_
  refine X.aload_n 525 (zi316 524) rfl rfl rfl ?_
  refine X.iload_n 526 (zi316 525) rfl rfl rfl ?_
  refine X.iconst 527 (zi316 526) rfl rfl (by decide) ?_
  refine X.iadd 528 (zi316 527) rfl rfl (by omega) ?_
  refine X.rald 529 (zi316 528) rfl rfl (by decide) (by show 0 ≤ _ ∧ _ < ((s.1 : Nat) : Int); omega) (fun h1 => ?_)
  refine X.callv 532 [zi (z_ro (EE s) 0 (y + 1))] [] [(0, zr 4 40), (1, zi (z_ro (EE s) 0 (y + 1)))] (zi316 529) rfl (by decide) rfl rfl (by omega) rfl rfl (by decide) rfl t113 (Nat.le_of_ble_eq_true rfl) (Nat.le_of_ble_eq_true rfl) rfl ?_
  refine c113_1 (S := zS0) (m0 := m) (B := B) (z_ro (EE s) 0 (y + 1)) (by omega) (J.rf hJ) (by omega) (by omega) (fun v2 hv2 hF5 => ?_)
  show X (EE s) d 316 532 [(0, zr 99 0), (1, zr 4 40), (2, zr 4 44), (3, zi y)] [zi v2] m _
  refine X.pop 533 (zi316 532) rfl rfl rfl ?_
  refine X.aload_n 534 (zi316 533) rfl rfl rfl ?_
  refine X.aload_n 535 (zi316 534) rfl rfl rfl ?_
  refine X.iload_n 536 (zi316 535) rfl rfl rfl ?_
  refine X.iconst 537 (zi316 536) rfl rfl (by decide) ?_
  refine X.iadd 538 (zi316 537) rfl rfl (by omega) ?_
  refine X.rald 539 (zi316 538) rfl rfl (by decide) (by show 0 ≤ _ ∧ _ < ((s.1 : Nat) : Int); omega) (fun h6 => ?_)
  refine X.callv 542 [zi (z_ro (EE s) 0 (y + 1))] [] [(0, zr 4 44), (1, zi (z_ro (EE s) 0 (y + 1)))] (zi316 539) rfl (by decide) rfl rfl (by omega) rfl rfl (by decide) rfl t259 (Nat.le_of_ble_eq_true rfl) (Nat.le_of_ble_eq_true rfl) rfl ?_
  refine c259_1 (S := zS0) (m0 := m) (B := B) (z_ro (EE s) 0 (y + 1)) (by omega) (J.rf hJ) (by omega) (by omega) (fun v7 hv7 hF10 => ?_)
  show X (EE s) d 316 542 [(0, zr 99 0), (1, zr 4 40), (2, zr 4 44), (3, zi y)] [zi v7] m _
  refine X.pop 543 (zi316 542) rfl rfl rfl ?_
  refine X.goto 1656 (zi316 543) rfl rfl ?_
  exact K _ (hJ.up (by omega)) (hR.up (by omega))
theorem lw10 {s : Nat × (Nat → Int32)} {m : zM} {B : Int} {d : Nat} {Q : Option zV → zM → Prop} (y : Int) (hd : 200 ≤ d) (hJ : JB B m) (hR : Rel3 B m m) (hB : B + 220000 ≤ 700000000) (hy : 0 ≤ y ∧ y + 6 ≤ (s.1 : Int)) (hs : s.1 ≤ 3072) (K : ∀ (m' : zM), JB (B + 220000) m' → Rel3 (B + 220000) m' m' → X (EE s) d 316 1656 [(0, zr 99 0), (1, zr 4 40), (2, zr 4 44), (3, zi y)] [] m' Q) : X (EE s) d 316 546 [(0, zr 99 0), (1, zr 4 40), (2, zr 4 44), (3, zi y)] [] m Q := by
  refine X.mok (fun hk => ?_)
  refine X.aload_n 547 (zi316 546) rfl rfl rfl ?_
  refine X.aload_n 548 (zi316 547) rfl rfl rfl ?_
  refine X.iload_n 549 (zi316 548) rfl rfl rfl ?_
  refine X.iconst 550 (zi316 549) rfl rfl (by decide) ?_
  refine X.iadd 551 (zi316 550) rfl rfl (by omega) ?_
  refine X.rald 552 (zi316 551) rfl rfl (by decide) (by show 0 ≤ _ ∧ _ < ((s.1 : Nat) : Int); omega) (fun h1 => ?_)
  refine X.callv 555 [zi (z_ro (EE s) 0 (y + 1))] [] [(0, zr 4 40), (1, zi (z_ro (EE s) 0 (y + 1)))] (zi316 552) rfl (by decide) rfl rfl (by omega) rfl rfl (by decide) rfl t114 (Nat.le_of_ble_eq_true rfl) (Nat.le_of_ble_eq_true rfl) rfl ?_
  refine c114_1 (S := zS0) (m0 := m) (B := B) (z_ro (EE s) 0 (y + 1)) (by omega) (J.rf hJ) (by omega) (by omega) (fun h => h) (fun h => h) (fun h => h) (fun v2 m3 hv2 hF5 hJ4 => ?_)
  show X (EE s) d 316 555 [(0, zr 99 0), (1, zr 4 40), (2, zr 4 44), (3, zi y)] [zi v2] m3 _
  refine X.pop 556 (zi316 555) rfl rfl rfl ?_
  refine X.aload_n 557 (zi316 556) rfl rfl rfl ?_
  refine X.aload_n 558 (zi316 557) rfl rfl rfl ?_
  refine X.iload_n 559 (zi316 558) rfl rfl rfl ?_
  refine X.iconst 560 (zi316 559) rfl rfl (by decide) ?_
  refine X.iadd 561 (zi316 560) rfl rfl (by omega) ?_
  refine X.rald 562 (zi316 561) rfl rfl (by decide) (by show 0 ≤ _ ∧ _ < ((s.1 : Nat) : Int); omega) (fun h6 => ?_)
  refine X.callv 565 [zi (z_ro (EE s) 0 (y + 1))] [] [(0, zr 4 44), (1, zi (z_ro (EE s) 0 (y + 1)))] (zi316 562) rfl (by decide) rfl rfl (by omega) rfl rfl (by decide) rfl t276 (Nat.le_of_ble_eq_true rfl) (Nat.le_of_ble_eq_true rfl) rfl ?_
  refine c276_1 (S := zS0) (m0 := m3) (B := B + 1) (z_ro (EE s) 0 (y + 1)) (by omega) (J.rf hJ4.jb0) (by omega) (by omega) (fun h => h) (fun h => h) (fun h => h) (fun v7 m8 hv7 hF10 hJ9 => ?_)
  show X (EE s) d 316 565 [(0, zr 99 0), (1, zr 4 40), (2, zr 4 44), (3, zi y)] [zi v7] m8 _
  refine X.pop 566 (zi316 565) rfl rfl rfl ?_
  refine X.goto 1656 (zi316 566) rfl rfl ?_
  exact K _ (hJ9.jb0.up (by omega)) (st3_seal (by omega) hk hJ (by omega) hR hF5 hF10).2
theorem lw11 {s : Nat × (Nat → Int32)} {m : zM} {B : Int} {d : Nat} {Q : Option zV → zM → Prop} (y : Int) (hd : 200 ≤ d) (hJ : JB B m) (hR : Rel3 B m m) (hB : B + 220000 ≤ 700000000) (hy : 0 ≤ y ∧ y + 6 ≤ (s.1 : Int)) (hs : s.1 ≤ 3072) (K : ∀ (m' : zM), JB (B + 220000) m' → Rel3 (B + 220000) m' m' → X (EE s) d 316 1656 [(0, zr 99 0), (1, zr 4 40), (2, zr 4 44), (3, zi y)] [] m' Q) : X (EE s) d 316 569 [(0, zr 99 0), (1, zr 4 40), (2, zr 4 44), (3, zi y)] [] m Q := by
  refine X.mok (fun hk => ?_)
  refine X.aload_n 570 (zi316 569) rfl rfl rfl ?_
  refine X.aload_n 571 (zi316 570) rfl rfl rfl ?_
  refine X.iload_n 572 (zi316 571) rfl rfl rfl ?_
  refine X.iconst 573 (zi316 572) rfl rfl (by decide) ?_
  refine X.iadd 574 (zi316 573) rfl rfl (by omega) ?_
  refine X.rald 575 (zi316 574) rfl rfl (by decide) (by show 0 ≤ _ ∧ _ < ((s.1 : Nat) : Int); omega) (fun h1 => ?_)
  refine X.callv 578 [zi (z_ro (EE s) 0 (y + 1))] [] [(0, zr 4 40), (1, zi (z_ro (EE s) 0 (y + 1)))] (zi316 575) rfl (by decide) rfl rfl (by omega) rfl rfl (by decide) rfl t116 (Nat.le_of_ble_eq_true rfl) (Nat.le_of_ble_eq_true rfl) rfl ?_
  refine c116_1 (S := zS0) (m0 := m) (B := B) (z_ro (EE s) 0 (y + 1)) (by omega) (J.rf hJ) (by omega) (by omega) (fun h => h) (fun h => h) (fun h => h) (fun v2 m3 hv2 hF5 hJ4 => ?_)
  show X (EE s) d 316 578 [(0, zr 99 0), (1, zr 4 40), (2, zr 4 44), (3, zi y)] [zi v2] m3 _
  refine X.pop 579 (zi316 578) rfl rfl rfl ?_
  refine X.aload_n 580 (zi316 579) rfl rfl rfl ?_
  refine X.aload_n 581 (zi316 580) rfl rfl rfl ?_
  refine X.iload_n 582 (zi316 581) rfl rfl rfl ?_
  refine X.iconst 583 (zi316 582) rfl rfl (by decide) ?_
  refine X.iadd 584 (zi316 583) rfl rfl (by omega) ?_
  refine X.rald 585 (zi316 584) rfl rfl (by decide) (by show 0 ≤ _ ∧ _ < ((s.1 : Nat) : Int); omega) (fun h6 => ?_)
  refine X.callv 588 [zi (z_ro (EE s) 0 (y + 1))] [] [(0, zr 4 44), (1, zi (z_ro (EE s) 0 (y + 1)))] (zi316 585) rfl (by decide) rfl rfl (by omega) rfl rfl (by decide) rfl t277 (Nat.le_of_ble_eq_true rfl) (Nat.le_of_ble_eq_true rfl) rfl ?_
  refine c277_1 (S := zS0) (m0 := m3) (B := B + 4) (z_ro (EE s) 0 (y + 1)) (by omega) (J.rf hJ4.jb0) (by omega) (by omega) (fun h => h) (fun h => h) (fun h => h) (fun v7 m8 hv7 hF10 hJ9 => ?_)
  show X (EE s) d 316 588 [(0, zr 99 0), (1, zr 4 40), (2, zr 4 44), (3, zi y)] [zi v7] m8 _
  refine X.pop 589 (zi316 588) rfl rfl rfl ?_
  refine X.goto 1656 (zi316 589) rfl rfl ?_
  exact K _ (hJ9.jb0.up (by omega)) (st3_open (by omega) hk hJ (by omega) hR hF5 hF10).2
theorem lw12 {s : Nat × (Nat → Int32)} {m : zM} {B : Int} {d : Nat} {Q : Option zV → zM → Prop} (y : Int) (hd : 200 ≤ d) (hJ : JB B m) (hR : Rel3 B m m) (hB : B + 220000 ≤ 700000000) (hy : 0 ≤ y ∧ y + 6 ≤ (s.1 : Int)) (hs : s.1 ≤ 3072) (K : ∀ (m' : zM), JB (B + 220000) m' → Rel3 (B + 220000) m' m' → X (EE s) d 316 1656 [(0, zr 99 0), (1, zr 4 40), (2, zr 4 44), (3, zi y)] [] m' Q) : X (EE s) d 316 592 [(0, zr 99 0), (1, zr 4 40), (2, zr 4 44), (3, zi y)] [] m Q := by
  refine X.mok (fun hk => ?_)
  refine X.aload_n 593 (zi316 592) rfl rfl rfl ?_
  refine X.aload_n 594 (zi316 593) rfl rfl rfl ?_
  refine X.iload_n 595 (zi316 594) rfl rfl rfl ?_
  refine X.iconst 596 (zi316 595) rfl rfl (by decide) ?_
  refine X.iadd 597 (zi316 596) rfl rfl (by omega) ?_
  refine X.rald 598 (zi316 597) rfl rfl (by decide) (by show 0 ≤ _ ∧ _ < ((s.1 : Nat) : Int); omega) (fun h1 => ?_)
  refine X.aload_n 599 (zi316 598) rfl rfl rfl ?_
  refine X.iload_n 600 (zi316 599) rfl rfl rfl ?_
  refine X.iconst 601 (zi316 600) rfl rfl (by decide) ?_
  refine X.iadd 602 (zi316 601) rfl rfl (by omega) ?_
  refine X.rald 603 (zi316 602) rfl rfl (by decide) (by show 0 ≤ _ ∧ _ < ((s.1 : Nat) : Int); omega) (fun h2 => ?_)
  refine X.callv 606 [zi (z_ro (EE s) 0 (y + 1)), zi (z_ro (EE s) 0 (y + 2))] [] [(0, zr 4 40), (1, zi (z_ro (EE s) 0 (y + 1))), (2, zi (z_ro (EE s) 0 (y + 2)))] (zi316 603) rfl (by decide) rfl rfl (by omega) rfl rfl (by decide) rfl t122 (Nat.le_of_ble_eq_true rfl) (Nat.le_of_ble_eq_true rfl) rfl ?_
  refine c122_1 (S := zS0) (m0 := m) (B := B) (z_ro (EE s) 0 (y + 1)) (z_ro (EE s) 0 (y + 2)) (by omega) (J.rf hJ) (by omega) (by omega) (by omega) (fun h => h) (fun h => h) (fun h => h) (fun v3 m4 hv3 hF6 hJ5 => ?_)
  show X (EE s) d 316 606 [(0, zr 99 0), (1, zr 4 40), (2, zr 4 44), (3, zi y)] [zi v3] m4 _
  refine X.pop 607 (zi316 606) rfl rfl rfl ?_
  refine X.aload_n 608 (zi316 607) rfl rfl rfl ?_
  refine X.aload_n 609 (zi316 608) rfl rfl rfl ?_
  refine X.iload_n 610 (zi316 609) rfl rfl rfl ?_
  refine X.iconst 611 (zi316 610) rfl rfl (by decide) ?_
  refine X.iadd 612 (zi316 611) rfl rfl (by omega) ?_
  refine X.rald 613 (zi316 612) rfl rfl (by decide) (by show 0 ≤ _ ∧ _ < ((s.1 : Nat) : Int); omega) (fun h7 => ?_)
  refine X.aload_n 614 (zi316 613) rfl rfl rfl ?_
  refine X.iload_n 615 (zi316 614) rfl rfl rfl ?_
  refine X.iconst 616 (zi316 615) rfl rfl (by decide) ?_
  refine X.iadd 617 (zi316 616) rfl rfl (by omega) ?_
  refine X.rald 618 (zi316 617) rfl rfl (by decide) (by show 0 ≤ _ ∧ _ < ((s.1 : Nat) : Int); omega) (fun h8 => ?_)
  refine X.callv 621 [zi (z_ro (EE s) 0 (y + 1)), zi (z_ro (EE s) 0 (y + 2))] [] [(0, zr 4 44), (1, zi (z_ro (EE s) 0 (y + 1))), (2, zi (z_ro (EE s) 0 (y + 2)))] (zi316 618) rfl (by decide) rfl rfl (by omega) rfl rfl (by decide) rfl t245 (Nat.le_of_ble_eq_true rfl) (Nat.le_of_ble_eq_true rfl) rfl ?_
  refine c245_1 (S := zS0) (m0 := m4) (B := B) (z_ro (EE s) 0 (y + 1)) (z_ro (EE s) 0 (y + 2)) (by omega) (J.rf hJ5.jb0) (by omega) (by omega) (by omega) (fun h => h) (fun h => h) (fun h => h) (fun v9 m10 hv9 hF12 hJ11 => ?_)
  show X (EE s) d 316 621 [(0, zr 99 0), (1, zr 4 40), (2, zr 4 44), (3, zi y)] [zi v9] m10 _
  refine X.pop 622 (zi316 621) rfl rfl rfl ?_
  refine X.goto 1656 (zi316 622) rfl rfl ?_
  exact K _ (hJ11.jb0.up (by omega)) (st3_season (by omega) (by omega) hk hJ (by omega) hR hF6 hF12).2
theorem lw13 {s : Nat × (Nat → Int32)} {m : zM} {B : Int} {d : Nat} {Q : Option zV → zM → Prop} (y : Int) (hd : 200 ≤ d) (hJ : JB B m) (hR : Rel3 B m m) (hB : B + 220000 ≤ 700000000) (hy : 0 ≤ y ∧ y + 6 ≤ (s.1 : Int)) (hs : s.1 ≤ 3072) (K : ∀ (m' : zM), JB (B + 220000) m' → Rel3 (B + 220000) m' m' → X (EE s) d 316 1656 [(0, zr 99 0), (1, zr 4 40), (2, zr 4 44), (3, zi y)] [] m' Q) : X (EE s) d 316 625 [(0, zr 99 0), (1, zr 4 40), (2, zr 4 44), (3, zi y)] [] m Q := by
  refine X.mok (fun hk => ?_)
  refine X.aload_n 626 (zi316 625) rfl rfl rfl ?_
  refine X.aload_n 627 (zi316 626) rfl rfl rfl ?_
  refine X.iload_n 628 (zi316 627) rfl rfl rfl ?_
  refine X.iconst 629 (zi316 628) rfl rfl (by decide) ?_
  refine X.iadd 630 (zi316 629) rfl rfl (by omega) ?_
  refine X.rald 631 (zi316 630) rfl rfl (by decide) (by show 0 ≤ _ ∧ _ < ((s.1 : Nat) : Int); omega) (fun h1 => ?_)
  refine X.aload_n 632 (zi316 631) rfl rfl rfl ?_
  refine X.iload_n 633 (zi316 632) rfl rfl rfl ?_
  refine X.iconst 634 (zi316 633) rfl rfl (by decide) ?_
  refine X.iadd 635 (zi316 634) rfl rfl (by omega) ?_
  refine X.rald 636 (zi316 635) rfl rfl (by decide) (by show 0 ≤ _ ∧ _ < ((s.1 : Nat) : Int); omega) (fun h2 => ?_)
  refine X.aload_n 637 (zi316 636) rfl rfl rfl ?_
  refine X.iload_n 638 (zi316 637) rfl rfl rfl ?_
  refine X.iconst 639 (zi316 638) rfl rfl (by decide) ?_
  refine X.iadd 640 (zi316 639) rfl rfl (by omega) ?_
  refine X.rald 641 (zi316 640) rfl rfl (by decide) (by show 0 ≤ _ ∧ _ < ((s.1 : Nat) : Int); omega) (fun h3 => ?_)
  refine X.callv 644 [zi (z_ro (EE s) 0 (y + 1)), zi (z_ro (EE s) 0 (y + 2)), zi (z_ro (EE s) 0 (y + 3))] [] [(0, zr 4 40), (1, zi (z_ro (EE s) 0 (y + 1))), (2, zi (z_ro (EE s) 0 (y + 2))), (3, zi (z_ro (EE s) 0 (y + 3)))] (zi316 641) rfl (by decide) rfl rfl (by omega) rfl rfl (by decide) rfl t124 (Nat.le_of_ble_eq_true rfl) (Nat.le_of_ble_eq_true rfl) rfl ?_
  refine c124_1 (S := zS0) (m0 := m) (B := B) (z_ro (EE s) 0 (y + 1)) (z_ro (EE s) 0 (y + 2)) (z_ro (EE s) 0 (y + 3)) (by omega) (J.rf hJ) (by omega) (by omega) (by omega) (by omega) (fun h => h) (fun h => h) (fun h => h) (fun v4 m5 hv4 hF7 hJ6 => ?_)
  show X (EE s) d 316 644 [(0, zr 99 0), (1, zr 4 40), (2, zr 4 44), (3, zi y)] [zi v4] m5 _
  refine X.pop 645 (zi316 644) rfl rfl rfl ?_
  refine X.aload_n 646 (zi316 645) rfl rfl rfl ?_
  refine X.aload_n 647 (zi316 646) rfl rfl rfl ?_
  refine X.iload_n 648 (zi316 647) rfl rfl rfl ?_
  refine X.iconst 649 (zi316 648) rfl rfl (by decide) ?_
  refine X.iadd 650 (zi316 649) rfl rfl (by omega) ?_
  refine X.rald 651 (zi316 650) rfl rfl (by decide) (by show 0 ≤ _ ∧ _ < ((s.1 : Nat) : Int); omega) (fun h8 => ?_)
  refine X.aload_n 652 (zi316 651) rfl rfl rfl ?_
  refine X.iload_n 653 (zi316 652) rfl rfl rfl ?_
  refine X.iconst 654 (zi316 653) rfl rfl (by decide) ?_
  refine X.iadd 655 (zi316 654) rfl rfl (by omega) ?_
  refine X.rald 656 (zi316 655) rfl rfl (by decide) (by show 0 ≤ _ ∧ _ < ((s.1 : Nat) : Int); omega) (fun h9 => ?_)
  refine X.aload_n 657 (zi316 656) rfl rfl rfl ?_
  refine X.iload_n 658 (zi316 657) rfl rfl rfl ?_
  refine X.iconst 659 (zi316 658) rfl rfl (by decide) ?_
  refine X.iadd 660 (zi316 659) rfl rfl (by omega) ?_
  refine X.rald 661 (zi316 660) rfl rfl (by decide) (by show 0 ≤ _ ∧ _ < ((s.1 : Nat) : Int); omega) (fun h10 => ?_)
  refine X.callv 664 [zi (z_ro (EE s) 0 (y + 1)), zi (z_ro (EE s) 0 (y + 2)), zi (z_ro (EE s) 0 (y + 3))] [] [(0, zr 4 44), (1, zi (z_ro (EE s) 0 (y + 1))), (2, zi (z_ro (EE s) 0 (y + 2))), (3, zi (z_ro (EE s) 0 (y + 3)))] (zi316 661) rfl (by decide) rfl rfl (by omega) rfl rfl (by decide) rfl t247 (Nat.le_of_ble_eq_true rfl) (Nat.le_of_ble_eq_true rfl) rfl ?_
  refine c247_1 (S := zS0) (m0 := m5) (B := B) (z_ro (EE s) 0 (y + 1)) (z_ro (EE s) 0 (y + 2)) (z_ro (EE s) 0 (y + 3)) (by omega) (J.rf hJ6.jb0) (by omega) (by omega) (by omega) (by omega) (fun h => h) (fun h => h) (fun h => h) (fun v11 m12 hv11 hF14 hJ13 => ?_)
  show X (EE s) d 316 664 [(0, zr 99 0), (1, zr 4 40), (2, zr 4 44), (3, zi y)] [zi v11] m12 _
  refine X.pop 665 (zi316 664) rfl rfl rfl ?_
  refine X.goto 1656 (zi316 665) rfl rfl ?_
  exact K _ (hJ13.jb0.up (by omega)) (st3_week (by omega) (by omega) (by omega) hk hJ (by omega) hR hF7 hF14).2
theorem lw14 {s : Nat × (Nat → Int32)} {m : zM} {B : Int} {d : Nat} {Q : Option zV → zM → Prop} (y : Int) (hd : 200 ≤ d) (hJ : JB B m) (hR : Rel3 B m m) (hB : B + 220000 ≤ 700000000) (hy : 0 ≤ y ∧ y + 6 ≤ (s.1 : Int)) (hs : s.1 ≤ 3072) (K : ∀ (m' : zM), JB (B + 220000) m' → Rel3 (B + 220000) m' m' → X (EE s) d 316 1656 [(0, zr 99 0), (1, zr 4 40), (2, zr 4 44), (3, zi y)] [] m' Q) : X (EE s) d 316 668 [(0, zr 99 0), (1, zr 4 40), (2, zr 4 44), (3, zi y)] [] m Q := by
  refine X.mok (fun hk => ?_)
  refine X.aload_n 669 (zi316 668) rfl rfl rfl ?_
  refine X.aload_n 670 (zi316 669) rfl rfl rfl ?_
  refine X.iload_n 671 (zi316 670) rfl rfl rfl ?_
  refine X.iconst 672 (zi316 671) rfl rfl (by decide) ?_
  refine X.iadd 673 (zi316 672) rfl rfl (by omega) ?_
  refine X.rald 674 (zi316 673) rfl rfl (by decide) (by show 0 ≤ _ ∧ _ < ((s.1 : Nat) : Int); omega) (fun h1 => ?_)
  refine X.aload_n 675 (zi316 674) rfl rfl rfl ?_
  refine X.iload_n 676 (zi316 675) rfl rfl rfl ?_
  refine X.iconst 677 (zi316 676) rfl rfl (by decide) ?_
  refine X.iadd 678 (zi316 677) rfl rfl (by omega) ?_
  refine X.rald 679 (zi316 678) rfl rfl (by decide) (by show 0 ≤ _ ∧ _ < ((s.1 : Nat) : Int); omega) (fun h2 => ?_)
  refine X.callv 682 [zi (z_ro (EE s) 0 (y + 1)), zi (z_ro (EE s) 0 (y + 2))] [] [(0, zr 4 40), (1, zi (z_ro (EE s) 0 (y + 1))), (2, zi (z_ro (EE s) 0 (y + 2)))] (zi316 679) rfl (by decide) rfl rfl (by omega) rfl rfl (by decide) rfl t125 (Nat.le_of_ble_eq_true rfl) (Nat.le_of_ble_eq_true rfl) rfl ?_
  refine c125_1 (S := zS0) (m0 := m) (B := B) (z_ro (EE s) 0 (y + 1)) (z_ro (EE s) 0 (y + 2)) (by omega) (J.rf hJ) (by omega) (by omega) (by omega) (fun h => h) (fun h => h) (fun h => h) (fun v3 m4 hv3 hF6 hJ5 => ?_)
  show X (EE s) d 316 682 [(0, zr 99 0), (1, zr 4 40), (2, zr 4 44), (3, zi y)] [zi v3] m4 _
  refine X.pop 683 (zi316 682) rfl rfl rfl ?_
  refine X.aload_n 684 (zi316 683) rfl rfl rfl ?_
  refine X.aload_n 685 (zi316 684) rfl rfl rfl ?_
  refine X.iload_n 686 (zi316 685) rfl rfl rfl ?_
  refine X.iconst 687 (zi316 686) rfl rfl (by decide) ?_
  refine X.iadd 688 (zi316 687) rfl rfl (by omega) ?_
  refine X.rald 689 (zi316 688) rfl rfl (by decide) (by show 0 ≤ _ ∧ _ < ((s.1 : Nat) : Int); omega) (fun h7 => ?_)
  refine X.aload_n 690 (zi316 689) rfl rfl rfl ?_
  refine X.iload_n 691 (zi316 690) rfl rfl rfl ?_
  refine X.iconst 692 (zi316 691) rfl rfl (by decide) ?_
  refine X.iadd 693 (zi316 692) rfl rfl (by omega) ?_
  refine X.rald 694 (zi316 693) rfl rfl (by decide) (by show 0 ≤ _ ∧ _ < ((s.1 : Nat) : Int); omega) (fun h8 => ?_)
  refine X.callv 697 [zi (z_ro (EE s) 0 (y + 1)), zi (z_ro (EE s) 0 (y + 2))] [] [(0, zr 4 44), (1, zi (z_ro (EE s) 0 (y + 1))), (2, zi (z_ro (EE s) 0 (y + 2)))] (zi316 694) rfl (by decide) rfl rfl (by omega) rfl rfl (by decide) rfl t248 (Nat.le_of_ble_eq_true rfl) (Nat.le_of_ble_eq_true rfl) rfl ?_
  refine c248_1 (S := zS0) (m0 := m4) (B := B) (z_ro (EE s) 0 (y + 1)) (z_ro (EE s) 0 (y + 2)) (by omega) (J.rf hJ5.jb0) (by omega) (by omega) (by omega) (fun h => h) (fun h => h) (fun h => h) (fun v9 m10 hv9 hF12 hJ11 => ?_)
  show X (EE s) d 316 697 [(0, zr 99 0), (1, zr 4 40), (2, zr 4 44), (3, zi y)] [zi v9] m10 _
  refine X.pop 698 (zi316 697) rfl rfl rfl ?_
  refine X.goto 1656 (zi316 698) rfl rfl ?_
  exact K _ (hJ11.jb0.up (by omega)) (st3_special (by omega) (by omega) hk hJ (by omega) hR hF6 hF12).2
theorem lw15 {s : Nat × (Nat → Int32)} {m : zM} {B : Int} {d : Nat} {Q : Option zV → zM → Prop} (y : Int) (hd : 200 ≤ d) (hJ : JB B m) (hR : Rel3 B m m) (hB : B + 220000 ≤ 700000000) (hy : 0 ≤ y ∧ y + 6 ≤ (s.1 : Int)) (hs : s.1 ≤ 3072) (K : ∀ (m' : zM), JB (B + 220000) m' → Rel3 (B + 220000) m' m' → X (EE s) d 316 1656 [(0, zr 99 0), (1, zr 4 40), (2, zr 4 44), (3, zi y)] [] m' Q) : X (EE s) d 316 701 [(0, zr 99 0), (1, zr 4 40), (2, zr 4 44), (3, zi y)] [] m Q := by
  refine X.mok (fun hk => ?_)
  refine X.aload_n 702 (zi316 701) rfl rfl rfl ?_
  refine X.aload_n 703 (zi316 702) rfl rfl rfl ?_
  refine X.iload_n 704 (zi316 703) rfl rfl rfl ?_
  refine X.iconst 705 (zi316 704) rfl rfl (by decide) ?_
  refine X.iadd 706 (zi316 705) rfl rfl (by omega) ?_
  refine X.rald 707 (zi316 706) rfl rfl (by decide) (by show 0 ≤ _ ∧ _ < ((s.1 : Nat) : Int); omega) (fun h1 => ?_)
  refine X.callv 710 [zi (z_ro (EE s) 0 (y + 1))] [] [(0, zr 4 40), (1, zi (z_ro (EE s) 0 (y + 1)))] (zi316 707) rfl (by decide) rfl rfl (by omega) rfl rfl (by decide) rfl t127 (Nat.le_of_ble_eq_true rfl) (Nat.le_of_ble_eq_true rfl) rfl ?_
  refine c127_1 (S := zS0) (m0 := m) (B := B) (z_ro (EE s) 0 (y + 1)) (by omega) (J.rf hJ) (by omega) (by omega) (fun h => h) (fun h => h) (fun h => h) (fun h => h) (fun h => h) (fun v2 m3 hv2 hF5 hJ4 => ?_)
  show X (EE s) d 316 710 [(0, zr 99 0), (1, zr 4 40), (2, zr 4 44), (3, zi y)] [zi v2] m3 _
  refine X.pop 711 (zi316 710) rfl rfl rfl ?_
  refine X.aload_n 712 (zi316 711) rfl rfl rfl ?_
  refine X.aload_n 713 (zi316 712) rfl rfl rfl ?_
  refine X.iload_n 714 (zi316 713) rfl rfl rfl ?_
  refine X.iconst 715 (zi316 714) rfl rfl (by decide) ?_
  refine X.iadd 716 (zi316 715) rfl rfl (by omega) ?_
  refine X.rald 717 (zi316 716) rfl rfl (by decide) (by show 0 ≤ _ ∧ _ < ((s.1 : Nat) : Int); omega) (fun h6 => ?_)
  refine X.callv 720 [zi (z_ro (EE s) 0 (y + 1))] [] [(0, zr 4 44), (1, zi (z_ro (EE s) 0 (y + 1)))] (zi316 717) rfl (by decide) rfl rfl (by omega) rfl rfl (by decide) rfl t281 (Nat.le_of_ble_eq_true rfl) (Nat.le_of_ble_eq_true rfl) rfl ?_
  refine c281_1 (S := zS0) (m0 := m3) (B := B + 2) (z_ro (EE s) 0 (y + 1)) (by omega) (J.rf hJ4.jb0) (by omega) (by omega) (fun h => h) (fun h => h) (fun h => h) (fun h => h) (fun h => h) (fun h => h) (fun v7 m8 hv7 hF10 hJ9 => ?_)
  show X (EE s) d 316 720 [(0, zr 99 0), (1, zr 4 40), (2, zr 4 44), (3, zi y)] [zi v7] m8 _
  refine X.pop 721 (zi316 720) rfl rfl rfl ?_
  refine X.goto 1656 (zi316 721) rfl rfl ?_
  exact K _ (hJ9.jb0.up (by omega)) (st3_move (by omega) hk hJ (by omega) hR hF5 hF10).2
theorem lw16 {s : Nat × (Nat → Int32)} {m : zM} {B : Int} {d : Nat} {Q : Option zV → zM → Prop} (y : Int) (hd : 200 ≤ d) (hJ : JB B m) (hR : Rel3 B m m) (hB : B + 220000 ≤ 700000000) (hy : 0 ≤ y ∧ y + 6 ≤ (s.1 : Int)) (hs : s.1 ≤ 3072) (K : ∀ (m' : zM), JB (B + 220000) m' → Rel3 (B + 220000) m' m' → X (EE s) d 316 1656 [(0, zr 99 0), (1, zr 4 40), (2, zr 4 44), (3, zi y)] [] m' Q) : X (EE s) d 316 724 [(0, zr 99 0), (1, zr 4 40), (2, zr 4 44), (3, zi y)] [] m Q := by
  refine X.mok (fun hk => ?_)
  refine X.aload_n 725 (zi316 724) rfl rfl rfl ?_
  refine X.aload_n 726 (zi316 725) rfl rfl rfl ?_
  refine X.iload_n 727 (zi316 726) rfl rfl rfl ?_
  refine X.iconst 728 (zi316 727) rfl rfl (by decide) ?_
  refine X.iadd 729 (zi316 728) rfl rfl (by omega) ?_
  refine X.rald 730 (zi316 729) rfl rfl (by decide) (by show 0 ≤ _ ∧ _ < ((s.1 : Nat) : Int); omega) (fun h1 => ?_)
  refine X.callv 733 [zi (z_ro (EE s) 0 (y + 1))] [] [(0, zr 4 40), (1, zi (z_ro (EE s) 0 (y + 1)))] (zi316 730) rfl (by decide) rfl rfl (by omega) rfl rfl (by decide) rfl t130 (Nat.le_of_ble_eq_true rfl) (Nat.le_of_ble_eq_true rfl) rfl ?_
  refine c130_1 (S := zS0) (m0 := m) (B := B) (z_ro (EE s) 0 (y + 1)) (by omega) (J.rf hJ) (by omega) (by omega) (fun h => h) (fun h => h) (fun h => h) (fun h => h) (fun h => h) (fun h => h) (fun h => h) (fun h => h) (fun v2 m3 hv2 hF5 hJ4 => ?_)
  show X (EE s) d 316 733 [(0, zr 99 0), (1, zr 4 40), (2, zr 4 44), (3, zi y)] [zi v2] m3 _
  refine X.pop 734 (zi316 733) rfl rfl rfl ?_
  refine X.aload_n 735 (zi316 734) rfl rfl rfl ?_
  refine X.aload_n 736 (zi316 735) rfl rfl rfl ?_
  refine X.iload_n 737 (zi316 736) rfl rfl rfl ?_
  refine X.iconst 738 (zi316 737) rfl rfl (by decide) ?_
  refine X.iadd 739 (zi316 738) rfl rfl (by omega) ?_
  refine X.rald 740 (zi316 739) rfl rfl (by decide) (by show 0 ≤ _ ∧ _ < ((s.1 : Nat) : Int); omega) (fun h6 => ?_)
  refine X.callv 743 [zi (z_ro (EE s) 0 (y + 1))] [] [(0, zr 4 44), (1, zi (z_ro (EE s) 0 (y + 1)))] (zi316 740) rfl (by decide) rfl rfl (by omega) rfl rfl (by decide) rfl t282 (Nat.le_of_ble_eq_true rfl) (Nat.le_of_ble_eq_true rfl) rfl ?_
  refine c282_1 (S := zS0) (m0 := m3) (B := B + 100006) (z_ro (EE s) 0 (y + 1)) (by omega) (J.rf hJ4.jb0) (by omega) (by omega) (fun h => h) (fun h => h) (fun h => h) (fun h => h) (fun h => h) (fun h => h) (fun h => h) (fun h => h) (fun v7 m8 hv7 hF10 hJ9 => ?_)
  show X (EE s) d 316 743 [(0, zr 99 0), (1, zr 4 40), (2, zr 4 44), (3, zi y)] [zi v7] m8 _
  refine X.pop 744 (zi316 743) rfl rfl rfl ?_
  refine X.goto 1656 (zi316 744) rfl rfl ?_
  exact K _ (hJ9.jb0.up (by omega)) (st3_off (by omega) hk hJ (by omega) hR hF5 hF10).2
theorem lw17 {s : Nat × (Nat → Int32)} {m : zM} {B : Int} {d : Nat} {Q : Option zV → zM → Prop} (y : Int) (hd : 200 ≤ d) (hJ : JB B m) (hR : Rel3 B m m) (hB : B + 220000 ≤ 700000000) (hy : 0 ≤ y ∧ y + 6 ≤ (s.1 : Int)) (hs : s.1 ≤ 3072) (K : ∀ (m' : zM), JB (B + 220000) m' → Rel3 (B + 220000) m' m' → X (EE s) d 316 1656 [(0, zr 99 0), (1, zr 4 40), (2, zr 4 44), (3, zi y)] [] m' Q) : X (EE s) d 316 747 [(0, zr 99 0), (1, zr 4 40), (2, zr 4 44), (3, zi y)] [] m Q := by
  refine X.mok (fun hk => ?_)
  refine X.aload_n 748 (zi316 747) rfl rfl rfl ?_
  refine X.aload_n 749 (zi316 748) rfl rfl rfl ?_
  refine X.iload_n 750 (zi316 749) rfl rfl rfl ?_
  refine X.iconst 751 (zi316 750) rfl rfl (by decide) ?_
  refine X.iadd 752 (zi316 751) rfl rfl (by omega) ?_
  refine X.rald 753 (zi316 752) rfl rfl (by decide) (by show 0 ≤ _ ∧ _ < ((s.1 : Nat) : Int); omega) (fun h1 => ?_)
  refine X.aload_n 754 (zi316 753) rfl rfl rfl ?_
  refine X.iload_n 755 (zi316 754) rfl rfl rfl ?_
  refine X.iconst 756 (zi316 755) rfl rfl (by decide) ?_
  refine X.iadd 757 (zi316 756) rfl rfl (by omega) ?_
  refine X.rald 758 (zi316 757) rfl rfl (by decide) (by show 0 ≤ _ ∧ _ < ((s.1 : Nat) : Int); omega) (fun h2 => ?_)
  refine X.ifeq 765 761 (zi316 758) rfl rfl rfl (fun h3 => ?_) (fun h3 => ?_)
  · refine X.iconst 766 (zi316 765) rfl rfl (by decide) ?_
    refine X.callv 769 [zi (z_ro (EE s) 0 (y + 1)), zi 0] [] [(0, zr 4 40), (1, zi (z_ro (EE s) 0 (y + 1))), (2, zi 0)] (zi316 766) rfl (by decide) rfl rfl (by omega) rfl rfl (by decide) rfl t134 (Nat.le_of_ble_eq_true rfl) (Nat.le_of_ble_eq_true rfl) rfl ?_
    refine c134_1 (S := zS0) (m0 := m) (B := B) (z_ro (EE s) 0 (y + 1)) 0 (by omega) (J.rf hJ) (by omega) (by omega) (by omega) (fun h => h) (fun h => h) (fun h => h) (fun v4 m5 hv4 hF7 hJ6 => ?_)
    show X (EE s) d 316 769 [(0, zr 99 0), (1, zr 4 40), (2, zr 4 44), (3, zi y)] [zi v4] m5 _
    refine X.pop 770 (zi316 769) rfl rfl rfl ?_
    refine X.aload_n 771 (zi316 770) rfl rfl rfl ?_
    refine X.aload_n 772 (zi316 771) rfl rfl rfl ?_
    refine X.iload_n 773 (zi316 772) rfl rfl rfl ?_
    refine X.iconst 774 (zi316 773) rfl rfl (by decide) ?_
    refine X.iadd 775 (zi316 774) rfl rfl (by omega) ?_
    refine X.rald 776 (zi316 775) rfl rfl (by decide) (by show 0 ≤ _ ∧ _ < ((s.1 : Nat) : Int); omega) (fun h8 => ?_)
    refine X.aload_n 777 (zi316 776) rfl rfl rfl ?_
    refine X.iload_n 778 (zi316 777) rfl rfl rfl ?_
    refine X.iconst 779 (zi316 778) rfl rfl (by decide) ?_
    refine X.iadd 780 (zi316 779) rfl rfl (by omega) ?_
    refine X.rald 781 (zi316 780) rfl rfl (by decide) (by show 0 ≤ _ ∧ _ < ((s.1 : Nat) : Int); omega) (fun h9 => ?_)
    refine X.ifeq 788 784 (zi316 781) rfl rfl rfl (fun h10 => ?_) (fun h10 => ?_)
    · refine X.iconst 789 (zi316 788) rfl rfl (by decide) ?_
      refine X.callv 792 [zi (z_ro (EE s) 0 (y + 1)), zi 0] [] [(0, zr 4 44), (1, zi (z_ro (EE s) 0 (y + 1))), (2, zi 0)] (zi316 789) rfl (by decide) rfl rfl (by omega) rfl rfl (by decide) rfl t283 (Nat.le_of_ble_eq_true rfl) (Nat.le_of_ble_eq_true rfl) rfl ?_
      refine c283_1 (S := zS0) (m0 := m5) (B := B + 1) (z_ro (EE s) 0 (y + 1)) 0 (by omega) (J.rf hJ6.jb0) (by omega) (by omega) (by omega) (fun h => h) (fun h => h) (fun h => h) (fun v11 m12 hv11 hF14 hJ13 => ?_)
      show X (EE s) d 316 792 [(0, zr 99 0), (1, zr 4 40), (2, zr 4 44), (3, zi y)] [zi v11] m12 _
      refine X.pop 793 (zi316 792) rfl rfl rfl ?_
      refine X.goto 1656 (zi316 793) rfl rfl ?_
      exact K _ (hJ13.jb0.up (by omega)) (st3_mark (by omega) (by omega) hk hJ (by omega) hR hF7 hF14)
    · exfalso
      omega
  · refine X.iconst 762 (zi316 761) rfl rfl (by decide) ?_
    refine X.goto 766 (zi316 762) rfl rfl ?_
    refine X.callv 769 [zi (z_ro (EE s) 0 (y + 1)), zi 1] [] [(0, zr 4 40), (1, zi (z_ro (EE s) 0 (y + 1))), (2, zi 1)] (zi316 766) rfl (by decide) rfl rfl (by omega) rfl rfl (by decide) rfl t134 (Nat.le_of_ble_eq_true rfl) (Nat.le_of_ble_eq_true rfl) rfl ?_
    refine c134_1 (S := zS0) (m0 := m) (B := B) (z_ro (EE s) 0 (y + 1)) 1 (by omega) (J.rf hJ) (by omega) (by omega) (by omega) (fun h => h) (fun h => h) (fun h => h) (fun v15 m16 hv15 hF18 hJ17 => ?_)
    show X (EE s) d 316 769 [(0, zr 99 0), (1, zr 4 40), (2, zr 4 44), (3, zi y)] [zi v15] m16 _
    refine X.pop 770 (zi316 769) rfl rfl rfl ?_
    refine X.aload_n 771 (zi316 770) rfl rfl rfl ?_
    refine X.aload_n 772 (zi316 771) rfl rfl rfl ?_
    refine X.iload_n 773 (zi316 772) rfl rfl rfl ?_
    refine X.iconst 774 (zi316 773) rfl rfl (by decide) ?_
    refine X.iadd 775 (zi316 774) rfl rfl (by omega) ?_
    refine X.rald 776 (zi316 775) rfl rfl (by decide) (by show 0 ≤ _ ∧ _ < ((s.1 : Nat) : Int); omega) (fun h19 => ?_)
    refine X.aload_n 777 (zi316 776) rfl rfl rfl ?_
    refine X.iload_n 778 (zi316 777) rfl rfl rfl ?_
    refine X.iconst 779 (zi316 778) rfl rfl (by decide) ?_
    refine X.iadd 780 (zi316 779) rfl rfl (by omega) ?_
    refine X.rald 781 (zi316 780) rfl rfl (by decide) (by show 0 ≤ _ ∧ _ < ((s.1 : Nat) : Int); omega) (fun h20 => ?_)
    refine X.ifeq 788 784 (zi316 781) rfl rfl rfl (fun h21 => ?_) (fun h21 => ?_)
    · exfalso
      omega
    · refine X.iconst 785 (zi316 784) rfl rfl (by decide) ?_
      refine X.goto 789 (zi316 785) rfl rfl ?_
      refine X.callv 792 [zi (z_ro (EE s) 0 (y + 1)), zi 1] [] [(0, zr 4 44), (1, zi (z_ro (EE s) 0 (y + 1))), (2, zi 1)] (zi316 789) rfl (by decide) rfl rfl (by omega) rfl rfl (by decide) rfl t283 (Nat.le_of_ble_eq_true rfl) (Nat.le_of_ble_eq_true rfl) rfl ?_
      refine c283_1 (S := zS0) (m0 := m16) (B := B + 1) (z_ro (EE s) 0 (y + 1)) 1 (by omega) (J.rf hJ17.jb0) (by omega) (by omega) (by omega) (fun h => h) (fun h => h) (fun h => h) (fun v22 m23 hv22 hF25 hJ24 => ?_)
      show X (EE s) d 316 792 [(0, zr 99 0), (1, zr 4 40), (2, zr 4 44), (3, zi y)] [zi v22] m23 _
      refine X.pop 793 (zi316 792) rfl rfl rfl ?_
      refine X.goto 1656 (zi316 793) rfl rfl ?_
      exact K _ (hJ24.jb0.up (by omega)) (st3_mark (by omega) (by omega) hk hJ (by omega) hR hF18 hF25)
theorem lw18 {s : Nat × (Nat → Int32)} {m : zM} {B : Int} {d : Nat} {Q : Option zV → zM → Prop} (y : Int) (hd : 200 ≤ d) (hJ : JB B m) (hR : Rel3 B m m) (hB : B + 220000 ≤ 700000000) (hy : 0 ≤ y ∧ y + 6 ≤ (s.1 : Int)) (hs : s.1 ≤ 3072) (K : ∀ (m' : zM), JB (B + 220000) m' → Rel3 (B + 220000) m' m' → X (EE s) d 316 1656 [(0, zr 99 0), (1, zr 4 40), (2, zr 4 44), (3, zi y)] [] m' Q) : X (EE s) d 316 796 [(0, zr 99 0), (1, zr 4 40), (2, zr 4 44), (3, zi y)] [] m Q := by
  refine X.mok (fun hk => ?_)
  refine X.aload_n 797 (zi316 796) rfl rfl rfl ?_
  refine X.aload_n 798 (zi316 797) rfl rfl rfl ?_
  refine X.iload_n 799 (zi316 798) rfl rfl rfl ?_
  refine X.iconst 800 (zi316 799) rfl rfl (by decide) ?_
  refine X.iadd 801 (zi316 800) rfl rfl (by omega) ?_
  refine X.rald 802 (zi316 801) rfl rfl (by decide) (by show 0 ≤ _ ∧ _ < ((s.1 : Nat) : Int); omega) (fun h1 => ?_)
  refine X.ifeq 809 805 (zi316 802) rfl rfl rfl (fun h2 => ?_) (fun h2 => ?_)
  · refine X.iconst 810 (zi316 809) rfl rfl (by decide) ?_
    refine X.callv 813 [zi 0] [] [(0, zr 4 40), (1, zi 0)] (zi316 810) rfl (by decide) rfl rfl (by omega) rfl rfl (by decide) rfl t135 (Nat.le_of_ble_eq_true rfl) (Nat.le_of_ble_eq_true rfl) rfl ?_
    refine c135_1 (S := zS0) (m0 := m) (B := B) 0 (by omega) (J.rf hJ) (by omega) (by omega) (fun h => h) (fun h => h) (fun h => h) (fun v3 m4 hv3 hF6 hJ5 => ?_)
    show X (EE s) d 316 813 [(0, zr 99 0), (1, zr 4 40), (2, zr 4 44), (3, zi y)] [zi v3] m4 _
    refine X.pop 814 (zi316 813) rfl rfl rfl ?_
    refine X.aload_n 815 (zi316 814) rfl rfl rfl ?_
    refine X.aload_n 816 (zi316 815) rfl rfl rfl ?_
    refine X.iload_n 817 (zi316 816) rfl rfl rfl ?_
    refine X.iconst 818 (zi316 817) rfl rfl (by decide) ?_
    refine X.iadd 819 (zi316 818) rfl rfl (by omega) ?_
    refine X.rald 820 (zi316 819) rfl rfl (by decide) (by show 0 ≤ _ ∧ _ < ((s.1 : Nat) : Int); omega) (fun h7 => ?_)
    refine X.ifeq 827 823 (zi316 820) rfl rfl rfl (fun h8 => ?_) (fun h8 => ?_)
    · refine X.iconst 828 (zi316 827) rfl rfl (by decide) ?_
      refine X.callv 831 [zi 0] [] [(0, zr 4 44), (1, zi 0)] (zi316 828) rfl (by decide) rfl rfl (by omega) rfl rfl (by decide) rfl t284 (Nat.le_of_ble_eq_true rfl) (Nat.le_of_ble_eq_true rfl) rfl ?_
      refine c284_1 (S := zS0) (m0 := m4) (B := B + 1) 0 (by omega) (J.rf hJ5.jb0) (by omega) (by omega) (fun h => h) (fun h => h) (fun h => h) (fun v9 m10 hv9 hF12 hJ11 => ?_)
      show X (EE s) d 316 831 [(0, zr 99 0), (1, zr 4 40), (2, zr 4 44), (3, zi y)] [zi v9] m10 _
      refine X.pop 832 (zi316 831) rfl rfl rfl ?_
      refine X.goto 1656 (zi316 832) rfl rfl ?_
      exact K _ (hJ11.jb0.up (by omega)) (st3_prepaid (by omega) hk hJ (by omega) hR hF6 hF12)
    · exfalso
      omega
  · refine X.iconst 806 (zi316 805) rfl rfl (by decide) ?_
    refine X.goto 810 (zi316 806) rfl rfl ?_
    refine X.callv 813 [zi 1] [] [(0, zr 4 40), (1, zi 1)] (zi316 810) rfl (by decide) rfl rfl (by omega) rfl rfl (by decide) rfl t135 (Nat.le_of_ble_eq_true rfl) (Nat.le_of_ble_eq_true rfl) rfl ?_
    refine c135_1 (S := zS0) (m0 := m) (B := B) 1 (by omega) (J.rf hJ) (by omega) (by omega) (fun h => h) (fun h => h) (fun h => h) (fun v13 m14 hv13 hF16 hJ15 => ?_)
    show X (EE s) d 316 813 [(0, zr 99 0), (1, zr 4 40), (2, zr 4 44), (3, zi y)] [zi v13] m14 _
    refine X.pop 814 (zi316 813) rfl rfl rfl ?_
    refine X.aload_n 815 (zi316 814) rfl rfl rfl ?_
    refine X.aload_n 816 (zi316 815) rfl rfl rfl ?_
    refine X.iload_n 817 (zi316 816) rfl rfl rfl ?_
    refine X.iconst 818 (zi316 817) rfl rfl (by decide) ?_
    refine X.iadd 819 (zi316 818) rfl rfl (by omega) ?_
    refine X.rald 820 (zi316 819) rfl rfl (by decide) (by show 0 ≤ _ ∧ _ < ((s.1 : Nat) : Int); omega) (fun h17 => ?_)
    refine X.ifeq 827 823 (zi316 820) rfl rfl rfl (fun h18 => ?_) (fun h18 => ?_)
    · exfalso
      omega
    · refine X.iconst 824 (zi316 823) rfl rfl (by decide) ?_
      refine X.goto 828 (zi316 824) rfl rfl ?_
      refine X.callv 831 [zi 1] [] [(0, zr 4 44), (1, zi 1)] (zi316 828) rfl (by decide) rfl rfl (by omega) rfl rfl (by decide) rfl t284 (Nat.le_of_ble_eq_true rfl) (Nat.le_of_ble_eq_true rfl) rfl ?_
      refine c284_1 (S := zS0) (m0 := m14) (B := B + 1) 1 (by omega) (J.rf hJ15.jb0) (by omega) (by omega) (fun h => h) (fun h => h) (fun h => h) (fun v19 m20 hv19 hF22 hJ21 => ?_)
      show X (EE s) d 316 831 [(0, zr 99 0), (1, zr 4 40), (2, zr 4 44), (3, zi y)] [zi v19] m20 _
      refine X.pop 832 (zi316 831) rfl rfl rfl ?_
      refine X.goto 1656 (zi316 832) rfl rfl ?_
      exact K _ (hJ21.jb0.up (by omega)) (st3_prepaid (by omega) hk hJ (by omega) hR hF16 hF22)
theorem lw19 {s : Nat × (Nat → Int32)} {m : zM} {B : Int} {d : Nat} {Q : Option zV → zM → Prop} (y : Int) (hd : 200 ≤ d) (hJ : JB B m) (hR : Rel3 B m m) (hB : B + 220000 ≤ 700000000) (hy : 0 ≤ y ∧ y + 6 ≤ (s.1 : Int)) (hs : s.1 ≤ 3072) (K : ∀ (m' : zM), JB (B + 220000) m' → Rel3 (B + 220000) m' m' → X (EE s) d 316 1656 [(0, zr 99 0), (1, zr 4 40), (2, zr 4 44), (3, zi y)] [] m' Q) : X (EE s) d 316 835 [(0, zr 99 0), (1, zr 4 40), (2, zr 4 44), (3, zi y)] [] m Q := by
  refine X.mok (fun hk => ?_)
  refine X.aload_n 836 (zi316 835) rfl rfl rfl ?_
  refine X.aload_n 837 (zi316 836) rfl rfl rfl ?_
  refine X.iload_n 838 (zi316 837) rfl rfl rfl ?_
  refine X.iconst 839 (zi316 838) rfl rfl (by decide) ?_
  refine X.iadd 840 (zi316 839) rfl rfl (by omega) ?_
  refine X.rald 841 (zi316 840) rfl rfl (by decide) (by show 0 ≤ _ ∧ _ < ((s.1 : Nat) : Int); omega) (fun h1 => ?_)
  refine X.callv 844 [zi (z_ro (EE s) 0 (y + 1))] [] [(0, zr 4 40), (1, zi (z_ro (EE s) 0 (y + 1)))] (zi316 841) rfl (by decide) rfl rfl (by omega) rfl rfl (by decide) rfl t136 (Nat.le_of_ble_eq_true rfl) (Nat.le_of_ble_eq_true rfl) rfl ?_
  refine c136_1 (S := zS0) (m0 := m) (B := B) (z_ro (EE s) 0 (y + 1)) (by omega) (J.rf hJ) (by omega) (by omega) (fun h => h) (fun h => h) (fun h => h) (fun v2 m3 hv2 hF5 hJ4 => ?_)
  show X (EE s) d 316 844 [(0, zr 99 0), (1, zr 4 40), (2, zr 4 44), (3, zi y)] [zl v2] m3 _
  refine X.pop2 845 (zi316 844) rfl rfl ?_
  refine X.aload_n 846 (zi316 845) rfl rfl rfl ?_
  refine X.aload_n 847 (zi316 846) rfl rfl rfl ?_
  refine X.iload_n 848 (zi316 847) rfl rfl rfl ?_
  refine X.iconst 849 (zi316 848) rfl rfl (by decide) ?_
  refine X.iadd 850 (zi316 849) rfl rfl (by omega) ?_
  refine X.rald 851 (zi316 850) rfl rfl (by decide) (by show 0 ≤ _ ∧ _ < ((s.1 : Nat) : Int); omega) (fun h6 => ?_)
  refine X.callv 854 [zi (z_ro (EE s) 0 (y + 1))] [] [(0, zr 4 44), (1, zi (z_ro (EE s) 0 (y + 1)))] (zi316 851) rfl (by decide) rfl rfl (by omega) rfl rfl (by decide) rfl t285 (Nat.le_of_ble_eq_true rfl) (Nat.le_of_ble_eq_true rfl) rfl ?_
  refine c285_1 (S := zS0) (m0 := m3) (B := B + 1) (z_ro (EE s) 0 (y + 1)) (by omega) (J.rf hJ4.jb0) (by omega) (by omega) (fun h => h) (fun h => h) (fun h => h) (fun v7 m8 hv7 hF10 hJ9 => ?_)
  show X (EE s) d 316 854 [(0, zr 99 0), (1, zr 4 40), (2, zr 4 44), (3, zi y)] [zl v7] m8 _
  refine X.pop2 855 (zi316 854) rfl rfl ?_
  refine X.goto 1656 (zi316 855) rfl rfl ?_
  exact K _ (hJ9.jb0.up (by omega)) (st3_pay (by omega) hk hJ (by omega) hR hF5 hF10).2
theorem lw20 {s : Nat × (Nat → Int32)} {m : zM} {B : Int} {d : Nat} {Q : Option zV → zM → Prop} (y : Int) (hd : 200 ≤ d) (hJ : JB B m) (hR : Rel3 B m m) (hB : B + 220000 ≤ 700000000) (hy : 0 ≤ y ∧ y + 6 ≤ (s.1 : Int)) (hs : s.1 ≤ 3072) (K : ∀ (m' : zM), JB (B + 220000) m' → Rel3 (B + 220000) m' m' → X (EE s) d 316 1656 [(0, zr 99 0), (1, zr 4 40), (2, zr 4 44), (3, zi y)] [] m' Q) : X (EE s) d 316 858 [(0, zr 99 0), (1, zr 4 40), (2, zr 4 44), (3, zi y)] [] m Q := by
  refine X.mok (fun hk => ?_)
  refine X.aload_n 859 (zi316 858) rfl rfl rfl ?_
  refine X.callv 862 [] [] [(0, zr 4 40)] (zi316 859) rfl (by decide) rfl rfl (by omega) rfl rfl (by decide) rfl t137 (Nat.le_of_ble_eq_true rfl) (Nat.le_of_ble_eq_true rfl) rfl ?_
  refine c137_1 (S := zS0) (m0 := m) (B := B)  (by omega) (J.rf hJ) (by omega) (fun h => h) (fun h => h) (fun h => h) (fun h => h) (fun v1 m2 hv1 hF4 hJ3 => ?_)
  show X (EE s) d 316 862 [(0, zr 99 0), (1, zr 4 40), (2, zr 4 44), (3, zi y)] [zi v1] m2 _
  refine X.pop 863 (zi316 862) rfl rfl rfl ?_
  refine X.aload_n 864 (zi316 863) rfl rfl rfl ?_
  refine X.callv 867 [] [] [(0, zr 4 44)] (zi316 864) rfl (by decide) rfl rfl (by omega) rfl rfl (by decide) rfl t286 (Nat.le_of_ble_eq_true rfl) (Nat.le_of_ble_eq_true rfl) rfl ?_
  refine c286_1 (S := zS0) (m0 := m2) (B := B + 2)  (by omega) (J.rf hJ3.jb0) (by omega) (fun h => h) (fun h => h) (fun h => h) (fun h => h) (fun v5 m6 hv5 hF8 hJ7 => ?_)
  show X (EE s) d 316 867 [(0, zr 99 0), (1, zr 4 40), (2, zr 4 44), (3, zi y)] [zi v5] m6 _
  refine X.pop 868 (zi316 867) rfl rfl rfl ?_
  refine X.goto 1656 (zi316 868) rfl rfl ?_
  exact K _ (hJ7.jb0.up (by omega)) (st3_bill  hk hJ (by omega) hR hF4 hF8)
theorem lw21 {s : Nat × (Nat → Int32)} {m : zM} {B : Int} {d : Nat} {Q : Option zV → zM → Prop} (y : Int) (hd : 200 ≤ d) (hJ : JB B m) (hR : Rel3 B m m) (hB : B + 220000 ≤ 700000000) (hy : 0 ≤ y ∧ y + 6 ≤ (s.1 : Int)) (hs : s.1 ≤ 3072) (K : ∀ (m' : zM), JB (B + 220000) m' → Rel3 (B + 220000) m' m' → X (EE s) d 316 1656 [(0, zr 99 0), (1, zr 4 40), (2, zr 4 44), (3, zi y)] [] m' Q) : X (EE s) d 316 871 [(0, zr 99 0), (1, zr 4 40), (2, zr 4 44), (3, zi y)] [] m Q := by
  refine X.mok (fun hk => ?_)
  refine X.aload_n 872 (zi316 871) rfl rfl rfl ?_
  refine X.aload_n 873 (zi316 872) rfl rfl rfl ?_
  refine X.iload_n 874 (zi316 873) rfl rfl rfl ?_
  refine X.iconst 875 (zi316 874) rfl rfl (by decide) ?_
  refine X.iadd 876 (zi316 875) rfl rfl (by omega) ?_
  refine X.rald 877 (zi316 876) rfl rfl (by decide) (by show 0 ≤ _ ∧ _ < ((s.1 : Nat) : Int); omega) (fun h1 => ?_)
  refine X.aload_n 878 (zi316 877) rfl rfl rfl ?_
  refine X.iload_n 879 (zi316 878) rfl rfl rfl ?_
  refine X.iconst 880 (zi316 879) rfl rfl (by decide) ?_
  refine X.iadd 881 (zi316 880) rfl rfl (by omega) ?_
  refine X.rald 882 (zi316 881) rfl rfl (by decide) (by show 0 ≤ _ ∧ _ < ((s.1 : Nat) : Int); omega) (fun h2 => ?_)
  refine X.callv 885 [zi (z_ro (EE s) 0 (y + 1)), zi (z_ro (EE s) 0 (y + 2))] [] [(0, zr 4 40), (1, zi (z_ro (EE s) 0 (y + 1))), (2, zi (z_ro (EE s) 0 (y + 2)))] (zi316 882) rfl (by decide) rfl rfl (by omega) rfl rfl (by decide) rfl t140 (Nat.le_of_ble_eq_true rfl) (Nat.le_of_ble_eq_true rfl) rfl ?_
  refine c140_1 (S := zS0) (m0 := m) (B := B) (z_ro (EE s) 0 (y + 1)) (z_ro (EE s) 0 (y + 2)) (by omega) (J.rf hJ) (by omega) (by omega) (by omega) (fun v3 hv3 hF6 => ?_)
  show X (EE s) d 316 885 [(0, zr 99 0), (1, zr 4 40), (2, zr 4 44), (3, zi y)] [zl v3] m _
  refine X.aload_n 886 (zi316 885) rfl rfl rfl ?_
  refine X.aload_n 887 (zi316 886) rfl rfl rfl ?_
  refine X.iload_n 888 (zi316 887) rfl rfl rfl ?_
  refine X.iconst 889 (zi316 888) rfl rfl (by decide) ?_
  refine X.iadd 890 (zi316 889) rfl rfl (by omega) ?_
  refine X.rald 891 (zi316 890) rfl rfl (by decide) (by show 0 ≤ _ ∧ _ < ((s.1 : Nat) : Int); omega) (fun h7 => ?_)
  refine X.aload_n 892 (zi316 891) rfl rfl rfl ?_
  refine X.iload_n 893 (zi316 892) rfl rfl rfl ?_
  refine X.iconst 894 (zi316 893) rfl rfl (by decide) ?_
  refine X.iadd 895 (zi316 894) rfl rfl (by omega) ?_
  refine X.rald 896 (zi316 895) rfl rfl (by decide) (by show 0 ≤ _ ∧ _ < ((s.1 : Nat) : Int); omega) (fun h8 => ?_)
  refine X.callv 899 [zi (z_ro (EE s) 0 (y + 1)), zi (z_ro (EE s) 0 (y + 2))] [zl v3] [(0, zr 4 44), (1, zi (z_ro (EE s) 0 (y + 1))), (2, zi (z_ro (EE s) 0 (y + 2)))] (zi316 896) rfl (by decide) rfl rfl (by omega) rfl rfl (by decide) rfl t237 (Nat.le_of_ble_eq_true rfl) (Nat.le_of_ble_eq_true rfl) rfl ?_
  refine c237_1 (S := zS0) (m0 := m) (B := B) (z_ro (EE s) 0 (y + 1)) (z_ro (EE s) 0 (y + 2)) (by omega) (J.rf hJ) (by omega) (by omega) (by omega) (fun v9 hv9 hF12 => ?_)
  show X (EE s) d 316 899 [(0, zr 99 0), (1, zr 4 40), (2, zr 4 44), (3, zi y)] [zl v9, zl v3] m _
  refine X.lcmp 900 (zi316 899) rfl rfl (fun z13 hz14 => ?_)
  refine X.ifeq 1656 903 (zi316 900) rfl rfl rfl (fun h15 => ?_) (fun h15 => ?_)
  · exact K _ (hJ.up (by omega)) (hR.up (by omega))
  · exact absurd (by have e9 := hF6.symm.trans ((an_period ⟨hk, hJ⟩ (by omega) hR).trans hF12); omega) h15
theorem lw22 {s : Nat × (Nat → Int32)} {m : zM} {B : Int} {d : Nat} {Q : Option zV → zM → Prop} (y : Int) (hd : 200 ≤ d) (hJ : JB B m) (hR : Rel3 B m m) (hB : B + 220000 ≤ 700000000) (hy : 0 ≤ y ∧ y + 6 ≤ (s.1 : Int)) (hs : s.1 ≤ 3072) (K : ∀ (m' : zM), JB (B + 220000) m' → Rel3 (B + 220000) m' m' → X (EE s) d 316 1656 [(0, zr 99 0), (1, zr 4 40), (2, zr 4 44), (3, zi y)] [] m' Q) : X (EE s) d 316 905 [(0, zr 99 0), (1, zr 4 40), (2, zr 4 44), (3, zi y)] [] m Q := by
  refine X.mok (fun hk => ?_)
  refine X.aload_n 906 (zi316 905) rfl rfl rfl ?_
  refine X.aload_n 907 (zi316 906) rfl rfl rfl ?_
  refine X.iload_n 908 (zi316 907) rfl rfl rfl ?_
  refine X.iconst 909 (zi316 908) rfl rfl (by decide) ?_
  refine X.iadd 910 (zi316 909) rfl rfl (by omega) ?_
  refine X.rald 911 (zi316 910) rfl rfl (by decide) (by show 0 ≤ _ ∧ _ < ((s.1 : Nat) : Int); omega) (fun h1 => ?_)
  refine X.aload_n 912 (zi316 911) rfl rfl rfl ?_
  refine X.iload_n 913 (zi316 912) rfl rfl rfl ?_
  refine X.iconst 914 (zi316 913) rfl rfl (by decide) ?_
  refine X.iadd 915 (zi316 914) rfl rfl (by omega) ?_
  refine X.rald 916 (zi316 915) rfl rfl (by decide) (by show 0 ≤ _ ∧ _ < ((s.1 : Nat) : Int); omega) (fun h2 => ?_)
  refine X.callv 919 [zi (z_ro (EE s) 0 (y + 1)), zi (z_ro (EE s) 0 (y + 2))] [] [(0, zr 4 40), (1, zi (z_ro (EE s) 0 (y + 1))), (2, zi (z_ro (EE s) 0 (y + 2)))] (zi316 916) rfl (by decide) rfl rfl (by omega) rfl rfl (by decide) rfl t144 (Nat.le_of_ble_eq_true rfl) (Nat.le_of_ble_eq_true rfl) rfl ?_
  refine c144_1 (S := zS0) (m0 := m) (B := B) (z_ro (EE s) 0 (y + 1)) (z_ro (EE s) 0 (y + 2)) (by omega) (J.rf hJ) (by omega) (by omega) (by omega) (fun v3 hv3 hF6 => ?_)
  show X (EE s) d 316 919 [(0, zr 99 0), (1, zr 4 40), (2, zr 4 44), (3, zi y)] [zl v3] m _
  refine X.pop2 920 (zi316 919) rfl rfl ?_
  refine X.aload_n 921 (zi316 920) rfl rfl rfl ?_
  refine X.aload_n 922 (zi316 921) rfl rfl rfl ?_
  refine X.iload_n 923 (zi316 922) rfl rfl rfl ?_
  refine X.iconst 924 (zi316 923) rfl rfl (by decide) ?_
  refine X.iadd 925 (zi316 924) rfl rfl (by omega) ?_
  refine X.rald 926 (zi316 925) rfl rfl (by decide) (by show 0 ≤ _ ∧ _ < ((s.1 : Nat) : Int); omega) (fun h7 => ?_)
  refine X.aload_n 927 (zi316 926) rfl rfl rfl ?_
  refine X.iload_n 928 (zi316 927) rfl rfl rfl ?_
  refine X.iconst 929 (zi316 928) rfl rfl (by decide) ?_
  refine X.iadd 930 (zi316 929) rfl rfl (by omega) ?_
  refine X.rald 931 (zi316 930) rfl rfl (by decide) (by show 0 ≤ _ ∧ _ < ((s.1 : Nat) : Int); omega) (fun h8 => ?_)
  refine X.callv 934 [zi (z_ro (EE s) 0 (y + 1)), zi (z_ro (EE s) 0 (y + 2))] [] [(0, zr 4 44), (1, zi (z_ro (EE s) 0 (y + 1))), (2, zi (z_ro (EE s) 0 (y + 2)))] (zi316 931) rfl (by decide) rfl rfl (by omega) rfl rfl (by decide) rfl t295 (Nat.le_of_ble_eq_true rfl) (Nat.le_of_ble_eq_true rfl) rfl ?_
  refine c295_1 (S := zS0) (m0 := m) (B := B) (z_ro (EE s) 0 (y + 1)) (z_ro (EE s) 0 (y + 2)) (by omega) (J.rf hJ) (by omega) (by omega) (by omega) (fun v9 hv9 hF12 => ?_)
  show X (EE s) d 316 934 [(0, zr 99 0), (1, zr 4 40), (2, zr 4 44), (3, zi y)] [zl v9] m _
  refine X.pop2 935 (zi316 934) rfl rfl ?_
  refine X.goto 1656 (zi316 935) rfl rfl ?_
  exact K _ (hJ.up (by omega)) (hR.up (by omega))
theorem lw23 {s : Nat × (Nat → Int32)} {m : zM} {B : Int} {d : Nat} {Q : Option zV → zM → Prop} (y : Int) (hd : 200 ≤ d) (hJ : JB B m) (hR : Rel3 B m m) (hB : B + 220000 ≤ 700000000) (hy : 0 ≤ y ∧ y + 6 ≤ (s.1 : Int)) (hs : s.1 ≤ 3072) (K : ∀ (m' : zM), JB (B + 220000) m' → Rel3 (B + 220000) m' m' → X (EE s) d 316 1656 [(0, zr 99 0), (1, zr 4 40), (2, zr 4 44), (3, zi y)] [] m' Q) : X (EE s) d 316 938 [(0, zr 99 0), (1, zr 4 40), (2, zr 4 44), (3, zi y)] [] m Q := by
  refine X.mok (fun hk => ?_)
  refine X.aload_n 939 (zi316 938) rfl rfl rfl ?_
  refine X.aload_n 940 (zi316 939) rfl rfl rfl ?_
  refine X.iload_n 941 (zi316 940) rfl rfl rfl ?_
  refine X.iconst 942 (zi316 941) rfl rfl (by decide) ?_
  refine X.iadd 943 (zi316 942) rfl rfl (by omega) ?_
  refine X.rald 944 (zi316 943) rfl rfl (by decide) (by show 0 ≤ _ ∧ _ < ((s.1 : Nat) : Int); omega) (fun h1 => ?_)
  refine X.aload_n 945 (zi316 944) rfl rfl rfl ?_
  refine X.iload_n 946 (zi316 945) rfl rfl rfl ?_
  refine X.iconst 947 (zi316 946) rfl rfl (by decide) ?_
  refine X.iadd 948 (zi316 947) rfl rfl (by omega) ?_
  refine X.rald 949 (zi316 948) rfl rfl (by decide) (by show 0 ≤ _ ∧ _ < ((s.1 : Nat) : Int); omega) (fun h2 => ?_)
  refine X.callv 952 [zi (z_ro (EE s) 0 (y + 1)), zi (z_ro (EE s) 0 (y + 2))] [] [(0, zr 4 40), (1, zi (z_ro (EE s) 0 (y + 1))), (2, zi (z_ro (EE s) 0 (y + 2)))] (zi316 949) rfl (by decide) rfl rfl (by omega) rfl rfl (by decide) rfl t147 (Nat.le_of_ble_eq_true rfl) (Nat.le_of_ble_eq_true rfl) rfl ?_
  refine c147_1 (S := zS0) (m0 := m) (B := B) (z_ro (EE s) 0 (y + 1)) (z_ro (EE s) 0 (y + 2)) (by omega) (J.rf hJ) (by omega) (by omega) (by omega) (fun v3 hv3 hF6 => ?_)
  show X (EE s) d 316 952 [(0, zr 99 0), (1, zr 4 40), (2, zr 4 44), (3, zi y)] [zl v3] m _
  refine X.pop2 953 (zi316 952) rfl rfl ?_
  refine X.aload_n 954 (zi316 953) rfl rfl rfl ?_
  refine X.aload_n 955 (zi316 954) rfl rfl rfl ?_
  refine X.iload_n 956 (zi316 955) rfl rfl rfl ?_
  refine X.iconst 957 (zi316 956) rfl rfl (by decide) ?_
  refine X.iadd 958 (zi316 957) rfl rfl (by omega) ?_
  refine X.rald 959 (zi316 958) rfl rfl (by decide) (by show 0 ≤ _ ∧ _ < ((s.1 : Nat) : Int); omega) (fun h7 => ?_)
  refine X.aload_n 960 (zi316 959) rfl rfl rfl ?_
  refine X.iload_n 961 (zi316 960) rfl rfl rfl ?_
  refine X.iconst 962 (zi316 961) rfl rfl (by decide) ?_
  refine X.iadd 963 (zi316 962) rfl rfl (by omega) ?_
  refine X.rald 964 (zi316 963) rfl rfl (by decide) (by show 0 ≤ _ ∧ _ < ((s.1 : Nat) : Int); omega) (fun h8 => ?_)
  refine X.callv 967 [zi (z_ro (EE s) 0 (y + 1)), zi (z_ro (EE s) 0 (y + 2))] [] [(0, zr 4 44), (1, zi (z_ro (EE s) 0 (y + 1))), (2, zi (z_ro (EE s) 0 (y + 2)))] (zi316 964) rfl (by decide) rfl rfl (by omega) rfl rfl (by decide) rfl t296 (Nat.le_of_ble_eq_true rfl) (Nat.le_of_ble_eq_true rfl) rfl ?_
  refine c296_1 (S := zS0) (m0 := m) (B := B) (z_ro (EE s) 0 (y + 1)) (z_ro (EE s) 0 (y + 2)) (by omega) (J.rf hJ) (by omega) (by omega) (by omega) (fun v9 hv9 hF12 => ?_)
  show X (EE s) d 316 967 [(0, zr 99 0), (1, zr 4 40), (2, zr 4 44), (3, zi y)] [zl v9] m _
  refine X.pop2 968 (zi316 967) rfl rfl ?_
  refine X.goto 1656 (zi316 968) rfl rfl ?_
  exact K _ (hJ.up (by omega)) (hR.up (by omega))
theorem lw24 {s : Nat × (Nat → Int32)} {m : zM} {B : Int} {d : Nat} {Q : Option zV → zM → Prop} (y : Int) (hd : 200 ≤ d) (hJ : JB B m) (hR : Rel3 B m m) (hB : B + 220000 ≤ 700000000) (hy : 0 ≤ y ∧ y + 6 ≤ (s.1 : Int)) (hs : s.1 ≤ 3072) (K : ∀ (m' : zM), JB (B + 220000) m' → Rel3 (B + 220000) m' m' → X (EE s) d 316 1656 [(0, zr 99 0), (1, zr 4 40), (2, zr 4 44), (3, zi y)] [] m' Q) : X (EE s) d 316 971 [(0, zr 99 0), (1, zr 4 40), (2, zr 4 44), (3, zi y)] [] m Q := by
  refine X.mok (fun hk => ?_)
  refine X.aload_n 972 (zi316 971) rfl rfl rfl ?_
  refine X.aload_n 973 (zi316 972) rfl rfl rfl ?_
  refine X.iload_n 974 (zi316 973) rfl rfl rfl ?_
  refine X.iconst 975 (zi316 974) rfl rfl (by decide) ?_
  refine X.iadd 976 (zi316 975) rfl rfl (by omega) ?_
  refine X.rald 977 (zi316 976) rfl rfl (by decide) (by show 0 ≤ _ ∧ _ < ((s.1 : Nat) : Int); omega) (fun h1 => ?_)
  refine X.callv 980 [zi (z_ro (EE s) 0 (y + 1))] [] [(0, zr 4 40), (1, zi (z_ro (EE s) 0 (y + 1)))] (zi316 977) rfl (by decide) rfl rfl (by omega) rfl rfl (by decide) rfl t148 (Nat.le_of_ble_eq_true rfl) (Nat.le_of_ble_eq_true rfl) rfl ?_
  refine c148_1 (S := zS0) (m0 := m) (B := B) (z_ro (EE s) 0 (y + 1)) (by omega) (J.rf hJ) (by omega) (by omega) (fun v2 hv2 hF5 => ?_)
  show X (EE s) d 316 980 [(0, zr 99 0), (1, zr 4 40), (2, zr 4 44), (3, zi y)] [zi v2] m _
  refine X.pop 981 (zi316 980) rfl rfl rfl ?_
  refine X.aload_n 982 (zi316 981) rfl rfl rfl ?_
  refine X.aload_n 983 (zi316 982) rfl rfl rfl ?_
  refine X.iload_n 984 (zi316 983) rfl rfl rfl ?_
  refine X.iconst 985 (zi316 984) rfl rfl (by decide) ?_
  refine X.iadd 986 (zi316 985) rfl rfl (by omega) ?_
  refine X.rald 987 (zi316 986) rfl rfl (by decide) (by show 0 ≤ _ ∧ _ < ((s.1 : Nat) : Int); omega) (fun h6 => ?_)
  refine X.callv 990 [zi (z_ro (EE s) 0 (y + 1))] [] [(0, zr 4 44), (1, zi (z_ro (EE s) 0 (y + 1)))] (zi316 987) rfl (by decide) rfl rfl (by omega) rfl rfl (by decide) rfl t250 (Nat.le_of_ble_eq_true rfl) (Nat.le_of_ble_eq_true rfl) rfl ?_
  refine c250_1 (S := zS0) (m0 := m) (B := B) (z_ro (EE s) 0 (y + 1)) (by omega) (J.rf hJ) (by omega) (by omega) (fun v7 hv7 hF10 => ?_)
  show X (EE s) d 316 990 [(0, zr 99 0), (1, zr 4 40), (2, zr 4 44), (3, zi y)] [zi v7] m _
  refine X.pop 991 (zi316 990) rfl rfl rfl ?_
  refine X.goto 1656 (zi316 991) rfl rfl ?_
  exact K _ (hJ.up (by omega)) (hR.up (by omega))
theorem lw25 {s : Nat × (Nat → Int32)} {m : zM} {B : Int} {d : Nat} {Q : Option zV → zM → Prop} (y : Int) (hd : 200 ≤ d) (hJ : JB B m) (hR : Rel3 B m m) (hB : B + 220000 ≤ 700000000) (hy : 0 ≤ y ∧ y + 6 ≤ (s.1 : Int)) (hs : s.1 ≤ 3072) (K : ∀ (m' : zM), JB (B + 220000) m' → Rel3 (B + 220000) m' m' → X (EE s) d 316 1656 [(0, zr 99 0), (1, zr 4 40), (2, zr 4 44), (3, zi y)] [] m' Q) : X (EE s) d 316 994 [(0, zr 99 0), (1, zr 4 40), (2, zr 4 44), (3, zi y)] [] m Q := by
  refine X.mok (fun hk => ?_)
  refine X.aload_n 995 (zi316 994) rfl rfl rfl ?_
  refine X.aload_n 996 (zi316 995) rfl rfl rfl ?_
  refine X.iload_n 997 (zi316 996) rfl rfl rfl ?_
  refine X.iconst 998 (zi316 997) rfl rfl (by decide) ?_
  refine X.iadd 999 (zi316 998) rfl rfl (by omega) ?_
  refine X.rald 1000 (zi316 999) rfl rfl (by decide) (by show 0 ≤ _ ∧ _ < ((s.1 : Nat) : Int); omega) (fun h1 => ?_)
  refine X.callv 1003 [zi (z_ro (EE s) 0 (y + 1))] [] [(0, zr 4 40), (1, zi (z_ro (EE s) 0 (y + 1)))] (zi316 1000) rfl (by decide) rfl rfl (by omega) rfl rfl (by decide) rfl t149 (Nat.le_of_ble_eq_true rfl) (Nat.le_of_ble_eq_true rfl) rfl ?_
  refine c149_1 (S := zS0) (m0 := m) (B := B) (z_ro (EE s) 0 (y + 1)) (by omega) (J.rf hJ) (by omega) (by omega) (fun v2 hv2 hF5 => ?_)
  show X (EE s) d 316 1003 [(0, zr 99 0), (1, zr 4 40), (2, zr 4 44), (3, zi y)] [zi v2] m _
  refine X.pop 1004 (zi316 1003) rfl rfl rfl ?_
  refine X.aload_n 1005 (zi316 1004) rfl rfl rfl ?_
  refine X.aload_n 1006 (zi316 1005) rfl rfl rfl ?_
  refine X.iload_n 1007 (zi316 1006) rfl rfl rfl ?_
  refine X.iconst 1008 (zi316 1007) rfl rfl (by decide) ?_
  refine X.iadd 1009 (zi316 1008) rfl rfl (by omega) ?_
  refine X.rald 1010 (zi316 1009) rfl rfl (by decide) (by show 0 ≤ _ ∧ _ < ((s.1 : Nat) : Int); omega) (fun h6 => ?_)
  refine X.callv 1013 [zi (z_ro (EE s) 0 (y + 1))] [] [(0, zr 4 44), (1, zi (z_ro (EE s) 0 (y + 1)))] (zi316 1010) rfl (by decide) rfl rfl (by omega) rfl rfl (by decide) rfl t251 (Nat.le_of_ble_eq_true rfl) (Nat.le_of_ble_eq_true rfl) rfl ?_
  refine c251_1 (S := zS0) (m0 := m) (B := B) (z_ro (EE s) 0 (y + 1)) (by omega) (J.rf hJ) (by omega) (by omega) (fun v7 hv7 hF10 => ?_)
  show X (EE s) d 316 1013 [(0, zr 99 0), (1, zr 4 40), (2, zr 4 44), (3, zi y)] [zi v7] m _
  refine X.pop 1014 (zi316 1013) rfl rfl rfl ?_
  refine X.goto 1656 (zi316 1014) rfl rfl ?_
  exact K _ (hJ.up (by omega)) (hR.up (by omega))
theorem lw26 {s : Nat × (Nat → Int32)} {m : zM} {B : Int} {d : Nat} {Q : Option zV → zM → Prop} (y : Int) (hd : 200 ≤ d) (hJ : JB B m) (hR : Rel3 B m m) (hB : B + 220000 ≤ 700000000) (hy : 0 ≤ y ∧ y + 6 ≤ (s.1 : Int)) (hs : s.1 ≤ 3072) (K : ∀ (m' : zM), JB (B + 220000) m' → Rel3 (B + 220000) m' m' → X (EE s) d 316 1656 [(0, zr 99 0), (1, zr 4 40), (2, zr 4 44), (3, zi y)] [] m' Q) : X (EE s) d 316 1017 [(0, zr 99 0), (1, zr 4 40), (2, zr 4 44), (3, zi y)] [] m Q := by
  refine X.mok (fun hk => ?_)
  refine X.aload_n 1018 (zi316 1017) rfl rfl rfl ?_
  refine X.aload_n 1019 (zi316 1018) rfl rfl rfl ?_
  refine X.iload_n 1020 (zi316 1019) rfl rfl rfl ?_
  refine X.iconst 1021 (zi316 1020) rfl rfl (by decide) ?_
  refine X.iadd 1022 (zi316 1021) rfl rfl (by omega) ?_
  refine X.rald 1023 (zi316 1022) rfl rfl (by decide) (by show 0 ≤ _ ∧ _ < ((s.1 : Nat) : Int); omega) (fun h1 => ?_)
  refine X.aload_n 1024 (zi316 1023) rfl rfl rfl ?_
  refine X.iload_n 1025 (zi316 1024) rfl rfl rfl ?_
  refine X.iconst 1026 (zi316 1025) rfl rfl (by decide) ?_
  refine X.iadd 1027 (zi316 1026) rfl rfl (by omega) ?_
  refine X.rald 1028 (zi316 1027) rfl rfl (by decide) (by show 0 ≤ _ ∧ _ < ((s.1 : Nat) : Int); omega) (fun h2 => ?_)
  refine X.aload_n 1029 (zi316 1028) rfl rfl rfl ?_
  refine X.iload_n 1030 (zi316 1029) rfl rfl rfl ?_
  refine X.iconst 1031 (zi316 1030) rfl rfl (by decide) ?_
  refine X.iadd 1032 (zi316 1031) rfl rfl (by omega) ?_
  refine X.rald 1033 (zi316 1032) rfl rfl (by decide) (by show 0 ≤ _ ∧ _ < ((s.1 : Nat) : Int); omega) (fun h3 => ?_)
  refine X.callv 1036 [zi (z_ro (EE s) 0 (y + 1)), zi (z_ro (EE s) 0 (y + 2)), zi (z_ro (EE s) 0 (y + 3))] [] [(0, zr 4 40), (1, zi (z_ro (EE s) 0 (y + 1))), (2, zi (z_ro (EE s) 0 (y + 2))), (3, zi (z_ro (EE s) 0 (y + 3)))] (zi316 1033) rfl (by decide) rfl rfl (by omega) rfl rfl (by decide) rfl t151 (Nat.le_of_ble_eq_true rfl) (Nat.le_of_ble_eq_true rfl) rfl ?_
  refine c151_1 (S := zS0) (m0 := m) (B := B) (z_ro (EE s) 0 (y + 1)) (z_ro (EE s) 0 (y + 2)) (z_ro (EE s) 0 (y + 3)) (by omega) (J.rf hJ) (by omega) (by omega) (by omega) (by omega) (fun v4 hv4 hF7 => ?_)
  show X (EE s) d 316 1036 [(0, zr 99 0), (1, zr 4 40), (2, zr 4 44), (3, zi y)] [zi v4] m _
  refine X.pop 1037 (zi316 1036) rfl rfl rfl ?_
  refine X.aload_n 1038 (zi316 1037) rfl rfl rfl ?_
  refine X.aload_n 1039 (zi316 1038) rfl rfl rfl ?_
  refine X.iload_n 1040 (zi316 1039) rfl rfl rfl ?_
  refine X.iconst 1041 (zi316 1040) rfl rfl (by decide) ?_
  refine X.iadd 1042 (zi316 1041) rfl rfl (by omega) ?_
  refine X.rald 1043 (zi316 1042) rfl rfl (by decide) (by show 0 ≤ _ ∧ _ < ((s.1 : Nat) : Int); omega) (fun h8 => ?_)
  refine X.aload_n 1044 (zi316 1043) rfl rfl rfl ?_
  refine X.iload_n 1045 (zi316 1044) rfl rfl rfl ?_
  refine X.iconst 1046 (zi316 1045) rfl rfl (by decide) ?_
  refine X.iadd 1047 (zi316 1046) rfl rfl (by omega) ?_
  refine X.rald 1048 (zi316 1047) rfl rfl (by decide) (by show 0 ≤ _ ∧ _ < ((s.1 : Nat) : Int); omega) (fun h9 => ?_)
  refine X.aload_n 1049 (zi316 1048) rfl rfl rfl ?_
  refine X.iload_n 1050 (zi316 1049) rfl rfl rfl ?_
  refine X.iconst 1051 (zi316 1050) rfl rfl (by decide) ?_
  refine X.iadd 1052 (zi316 1051) rfl rfl (by omega) ?_
  refine X.rald 1053 (zi316 1052) rfl rfl (by decide) (by show 0 ≤ _ ∧ _ < ((s.1 : Nat) : Int); omega) (fun h10 => ?_)
  refine X.callv 1056 [zi (z_ro (EE s) 0 (y + 1)), zi (z_ro (EE s) 0 (y + 2)), zi (z_ro (EE s) 0 (y + 3))] [] [(0, zr 4 44), (1, zi (z_ro (EE s) 0 (y + 1))), (2, zi (z_ro (EE s) 0 (y + 2))), (3, zi (z_ro (EE s) 0 (y + 3)))] (zi316 1053) rfl (by decide) rfl rfl (by omega) rfl rfl (by decide) rfl t252 (Nat.le_of_ble_eq_true rfl) (Nat.le_of_ble_eq_true rfl) rfl ?_
  refine c252_1 (S := zS0) (m0 := m) (B := B) (z_ro (EE s) 0 (y + 1)) (z_ro (EE s) 0 (y + 2)) (z_ro (EE s) 0 (y + 3)) (by omega) (J.rf hJ) (by omega) (by omega) (by omega) (by omega) (fun v11 hv11 hF14 => ?_)
  show X (EE s) d 316 1056 [(0, zr 99 0), (1, zr 4 40), (2, zr 4 44), (3, zi y)] [zi v11] m _
  refine X.pop 1057 (zi316 1056) rfl rfl rfl ?_
  refine X.goto 1656 (zi316 1057) rfl rfl ?_
  exact K _ (hJ.up (by omega)) (hR.up (by omega))
theorem lw27 {s : Nat × (Nat → Int32)} {m : zM} {B : Int} {d : Nat} {Q : Option zV → zM → Prop} (y : Int) (hd : 200 ≤ d) (hJ : JB B m) (hR : Rel3 B m m) (hB : B + 220000 ≤ 700000000) (hy : 0 ≤ y ∧ y + 6 ≤ (s.1 : Int)) (hs : s.1 ≤ 3072) (K : ∀ (m' : zM), JB (B + 220000) m' → Rel3 (B + 220000) m' m' → X (EE s) d 316 1656 [(0, zr 99 0), (1, zr 4 40), (2, zr 4 44), (3, zi y)] [] m' Q) : X (EE s) d 316 1060 [(0, zr 99 0), (1, zr 4 40), (2, zr 4 44), (3, zi y)] [] m Q := by
  refine X.mok (fun hk => ?_)
  refine X.aload_n 1061 (zi316 1060) rfl rfl rfl ?_
  refine X.aload_n 1062 (zi316 1061) rfl rfl rfl ?_
  refine X.iload_n 1063 (zi316 1062) rfl rfl rfl ?_
  refine X.iconst 1064 (zi316 1063) rfl rfl (by decide) ?_
  refine X.iadd 1065 (zi316 1064) rfl rfl (by omega) ?_
  refine X.rald 1066 (zi316 1065) rfl rfl (by decide) (by show 0 ≤ _ ∧ _ < ((s.1 : Nat) : Int); omega) (fun h1 => ?_)
  refine X.callv 1069 [zi (z_ro (EE s) 0 (y + 1))] [] [(0, zr 4 40), (1, zi (z_ro (EE s) 0 (y + 1)))] (zi316 1066) rfl (by decide) rfl rfl (by omega) rfl rfl (by decide) rfl t152 (Nat.le_of_ble_eq_true rfl) (Nat.le_of_ble_eq_true rfl) rfl ?_
  refine c152_1 (S := zS0) (m0 := m) (B := B) (z_ro (EE s) 0 (y + 1)) (by omega) (J.rf hJ) (by omega) (by omega) (fun v2 hv2 hF5 => ?_)
  show X (EE s) d 316 1069 [(0, zr 99 0), (1, zr 4 40), (2, zr 4 44), (3, zi y)] [zi v2] m _
  refine X.pop 1070 (zi316 1069) rfl rfl rfl ?_
  refine X.aload_n 1071 (zi316 1070) rfl rfl rfl ?_
  refine X.aload_n 1072 (zi316 1071) rfl rfl rfl ?_
  refine X.iload_n 1073 (zi316 1072) rfl rfl rfl ?_
  refine X.iconst 1074 (zi316 1073) rfl rfl (by decide) ?_
  refine X.iadd 1075 (zi316 1074) rfl rfl (by omega) ?_
  refine X.rald 1076 (zi316 1075) rfl rfl (by decide) (by show 0 ≤ _ ∧ _ < ((s.1 : Nat) : Int); omega) (fun h6 => ?_)
  refine X.callv 1079 [zi (z_ro (EE s) 0 (y + 1))] [] [(0, zr 4 44), (1, zi (z_ro (EE s) 0 (y + 1)))] (zi316 1076) rfl (by decide) rfl rfl (by omega) rfl rfl (by decide) rfl t254 (Nat.le_of_ble_eq_true rfl) (Nat.le_of_ble_eq_true rfl) rfl ?_
  refine c254_1 (S := zS0) (m0 := m) (B := B) (z_ro (EE s) 0 (y + 1)) (by omega) (J.rf hJ) (by omega) (by omega) (fun v7 hv7 hF10 => ?_)
  show X (EE s) d 316 1079 [(0, zr 99 0), (1, zr 4 40), (2, zr 4 44), (3, zi y)] [zi v7] m _
  refine X.pop 1080 (zi316 1079) rfl rfl rfl ?_
  refine X.goto 1656 (zi316 1080) rfl rfl ?_
  exact K _ (hJ.up (by omega)) (hR.up (by omega))
theorem lw28 {s : Nat × (Nat → Int32)} {m : zM} {B : Int} {d : Nat} {Q : Option zV → zM → Prop} (y : Int) (hd : 200 ≤ d) (hJ : JB B m) (hR : Rel3 B m m) (hB : B + 220000 ≤ 700000000) (hy : 0 ≤ y ∧ y + 6 ≤ (s.1 : Int)) (hs : s.1 ≤ 3072) (K : ∀ (m' : zM), JB (B + 220000) m' → Rel3 (B + 220000) m' m' → X (EE s) d 316 1656 [(0, zr 99 0), (1, zr 4 40), (2, zr 4 44), (3, zi y)] [] m' Q) : X (EE s) d 316 1083 [(0, zr 99 0), (1, zr 4 40), (2, zr 4 44), (3, zi y)] [] m Q := by
  refine X.mok (fun hk => ?_)
  refine X.aload_n 1084 (zi316 1083) rfl rfl rfl ?_
  refine X.aload_n 1085 (zi316 1084) rfl rfl rfl ?_
  refine X.iload_n 1086 (zi316 1085) rfl rfl rfl ?_
  refine X.iconst 1087 (zi316 1086) rfl rfl (by decide) ?_
  refine X.iadd 1088 (zi316 1087) rfl rfl (by omega) ?_
  refine X.rald 1089 (zi316 1088) rfl rfl (by decide) (by show 0 ≤ _ ∧ _ < ((s.1 : Nat) : Int); omega) (fun h1 => ?_)
  refine X.aload_n 1090 (zi316 1089) rfl rfl rfl ?_
  refine X.iload_n 1091 (zi316 1090) rfl rfl rfl ?_
  refine X.iconst 1092 (zi316 1091) rfl rfl (by decide) ?_
  refine X.iadd 1093 (zi316 1092) rfl rfl (by omega) ?_
  refine X.rald 1094 (zi316 1093) rfl rfl (by decide) (by show 0 ≤ _ ∧ _ < ((s.1 : Nat) : Int); omega) (fun h2 => ?_)
  refine X.callv 1097 [zi (z_ro (EE s) 0 (y + 1)), zi (z_ro (EE s) 0 (y + 2))] [] [(0, zr 4 40), (1, zi (z_ro (EE s) 0 (y + 1))), (2, zi (z_ro (EE s) 0 (y + 2)))] (zi316 1094) rfl (by decide) rfl rfl (by omega) rfl rfl (by decide) rfl t154 (Nat.le_of_ble_eq_true rfl) (Nat.le_of_ble_eq_true rfl) rfl ?_
  refine c154_1 (S := zS0) (m0 := m) (B := B) (z_ro (EE s) 0 (y + 1)) (z_ro (EE s) 0 (y + 2)) (by omega) (J.rf hJ) (by omega) (by omega) (by omega) (fun v3 hv3 hF6 => ?_)
  show X (EE s) d 316 1097 [(0, zr 99 0), (1, zr 4 40), (2, zr 4 44), (3, zi y)] [zi v3] m _
  refine X.pop 1098 (zi316 1097) rfl rfl rfl ?_
  refine X.aload_n 1099 (zi316 1098) rfl rfl rfl ?_
  refine X.aload_n 1100 (zi316 1099) rfl rfl rfl ?_
  refine X.iload_n 1101 (zi316 1100) rfl rfl rfl ?_
  refine X.iconst 1102 (zi316 1101) rfl rfl (by decide) ?_
  refine X.iadd 1103 (zi316 1102) rfl rfl (by omega) ?_
  refine X.rald 1104 (zi316 1103) rfl rfl (by decide) (by show 0 ≤ _ ∧ _ < ((s.1 : Nat) : Int); omega) (fun h7 => ?_)
  refine X.aload_n 1105 (zi316 1104) rfl rfl rfl ?_
  refine X.iload_n 1106 (zi316 1105) rfl rfl rfl ?_
  refine X.iconst 1107 (zi316 1106) rfl rfl (by decide) ?_
  refine X.iadd 1108 (zi316 1107) rfl rfl (by omega) ?_
  refine X.rald 1109 (zi316 1108) rfl rfl (by decide) (by show 0 ≤ _ ∧ _ < ((s.1 : Nat) : Int); omega) (fun h8 => ?_)
  refine X.callv 1112 [zi (z_ro (EE s) 0 (y + 1)), zi (z_ro (EE s) 0 (y + 2))] [] [(0, zr 4 44), (1, zi (z_ro (EE s) 0 (y + 1))), (2, zi (z_ro (EE s) 0 (y + 2)))] (zi316 1109) rfl (by decide) rfl rfl (by omega) rfl rfl (by decide) rfl t297 (Nat.le_of_ble_eq_true rfl) (Nat.le_of_ble_eq_true rfl) rfl ?_
  refine c297_1 (S := zS0) (m0 := m) (B := B) (z_ro (EE s) 0 (y + 1)) (z_ro (EE s) 0 (y + 2)) (by omega) (J.rf hJ) (by omega) (by omega) (by omega) (fun v9 hv9 hF12 => ?_)
  show X (EE s) d 316 1112 [(0, zr 99 0), (1, zr 4 40), (2, zr 4 44), (3, zi y)] [zi v9] m _
  refine X.pop 1113 (zi316 1112) rfl rfl rfl ?_
  refine X.goto 1656 (zi316 1113) rfl rfl ?_
  exact K _ (hJ.up (by omega)) (hR.up (by omega))
theorem lw29 {s : Nat × (Nat → Int32)} {m : zM} {B : Int} {d : Nat} {Q : Option zV → zM → Prop} (y : Int) (hd : 200 ≤ d) (hJ : JB B m) (hR : Rel3 B m m) (hB : B + 220000 ≤ 700000000) (hy : 0 ≤ y ∧ y + 6 ≤ (s.1 : Int)) (hs : s.1 ≤ 3072) (K : ∀ (m' : zM), JB (B + 220000) m' → Rel3 (B + 220000) m' m' → X (EE s) d 316 1656 [(0, zr 99 0), (1, zr 4 40), (2, zr 4 44), (3, zi y)] [] m' Q) : X (EE s) d 316 1116 [(0, zr 99 0), (1, zr 4 40), (2, zr 4 44), (3, zi y)] [] m Q := by
  refine X.mok (fun hk => ?_)
  refine X.aload_n 1117 (zi316 1116) rfl rfl rfl ?_
  refine X.aload_n 1118 (zi316 1117) rfl rfl rfl ?_
  refine X.iload_n 1119 (zi316 1118) rfl rfl rfl ?_
  refine X.iconst 1120 (zi316 1119) rfl rfl (by decide) ?_
  refine X.iadd 1121 (zi316 1120) rfl rfl (by omega) ?_
  refine X.rald 1122 (zi316 1121) rfl rfl (by decide) (by show 0 ≤ _ ∧ _ < ((s.1 : Nat) : Int); omega) (fun h1 => ?_)
  refine X.aload_n 1123 (zi316 1122) rfl rfl rfl ?_
  refine X.iload_n 1124 (zi316 1123) rfl rfl rfl ?_
  refine X.iconst 1125 (zi316 1124) rfl rfl (by decide) ?_
  refine X.iadd 1126 (zi316 1125) rfl rfl (by omega) ?_
  refine X.rald 1127 (zi316 1126) rfl rfl (by decide) (by show 0 ≤ _ ∧ _ < ((s.1 : Nat) : Int); omega) (fun h2 => ?_)
  refine X.callv 1130 [zi (z_ro (EE s) 0 (y + 1)), zi (z_ro (EE s) 0 (y + 2))] [] [(0, zr 4 40), (1, zi (z_ro (EE s) 0 (y + 1))), (2, zi (z_ro (EE s) 0 (y + 2)))] (zi316 1127) rfl (by decide) rfl rfl (by omega) rfl rfl (by decide) rfl t155 (Nat.le_of_ble_eq_true rfl) (Nat.le_of_ble_eq_true rfl) rfl ?_
  refine c155_1 (S := zS0) (m0 := m) (B := B) (z_ro (EE s) 0 (y + 1)) (z_ro (EE s) 0 (y + 2)) (by omega) (J.rf hJ) (by omega) (by omega) (by omega) (fun v3 hv3 hF6 => ?_)
  show X (EE s) d 316 1130 [(0, zr 99 0), (1, zr 4 40), (2, zr 4 44), (3, zi y)] [zl v3] m _
  refine X.pop2 1131 (zi316 1130) rfl rfl ?_
  refine X.aload_n 1132 (zi316 1131) rfl rfl rfl ?_
  refine X.aload_n 1133 (zi316 1132) rfl rfl rfl ?_
  refine X.iload_n 1134 (zi316 1133) rfl rfl rfl ?_
  refine X.iconst 1135 (zi316 1134) rfl rfl (by decide) ?_
  refine X.iadd 1136 (zi316 1135) rfl rfl (by omega) ?_
  refine X.rald 1137 (zi316 1136) rfl rfl (by decide) (by show 0 ≤ _ ∧ _ < ((s.1 : Nat) : Int); omega) (fun h7 => ?_)
  refine X.aload_n 1138 (zi316 1137) rfl rfl rfl ?_
  refine X.iload_n 1139 (zi316 1138) rfl rfl rfl ?_
  refine X.iconst 1140 (zi316 1139) rfl rfl (by decide) ?_
  refine X.iadd 1141 (zi316 1140) rfl rfl (by omega) ?_
  refine X.rald 1142 (zi316 1141) rfl rfl (by decide) (by show 0 ≤ _ ∧ _ < ((s.1 : Nat) : Int); omega) (fun h8 => ?_)
  refine X.callv 1145 [zi (z_ro (EE s) 0 (y + 1)), zi (z_ro (EE s) 0 (y + 2))] [] [(0, zr 4 44), (1, zi (z_ro (EE s) 0 (y + 1))), (2, zi (z_ro (EE s) 0 (y + 2)))] (zi316 1142) rfl (by decide) rfl rfl (by omega) rfl rfl (by decide) rfl t298 (Nat.le_of_ble_eq_true rfl) (Nat.le_of_ble_eq_true rfl) rfl ?_
  refine c298_1 (S := zS0) (m0 := m) (B := B) (z_ro (EE s) 0 (y + 1)) (z_ro (EE s) 0 (y + 2)) (by omega) (J.rf hJ) (by omega) (by omega) (by omega) (fun v9 hv9 hF12 => ?_)
  show X (EE s) d 316 1145 [(0, zr 99 0), (1, zr 4 40), (2, zr 4 44), (3, zi y)] [zl v9] m _
  refine X.pop2 1146 (zi316 1145) rfl rfl ?_
  refine X.goto 1656 (zi316 1146) rfl rfl ?_
  exact K _ (hJ.up (by omega)) (hR.up (by omega))
theorem lw30 {s : Nat × (Nat → Int32)} {m : zM} {B : Int} {d : Nat} {Q : Option zV → zM → Prop} (y : Int) (hd : 200 ≤ d) (hJ : JB B m) (hR : Rel3 B m m) (hB : B + 220000 ≤ 700000000) (hy : 0 ≤ y ∧ y + 6 ≤ (s.1 : Int)) (hs : s.1 ≤ 3072) (K : ∀ (m' : zM), JB (B + 220000) m' → Rel3 (B + 220000) m' m' → X (EE s) d 316 1656 [(0, zr 99 0), (1, zr 4 40), (2, zr 4 44), (3, zi y)] [] m' Q) : X (EE s) d 316 1149 [(0, zr 99 0), (1, zr 4 40), (2, zr 4 44), (3, zi y)] [] m Q := by
  refine X.mok (fun hk => ?_)
  refine X.aload_n 1150 (zi316 1149) rfl rfl rfl ?_
  refine X.aload_n 1151 (zi316 1150) rfl rfl rfl ?_
  refine X.iload_n 1152 (zi316 1151) rfl rfl rfl ?_
  refine X.iconst 1153 (zi316 1152) rfl rfl (by decide) ?_
  refine X.iadd 1154 (zi316 1153) rfl rfl (by omega) ?_
  refine X.rald 1155 (zi316 1154) rfl rfl (by decide) (by show 0 ≤ _ ∧ _ < ((s.1 : Nat) : Int); omega) (fun h1 => ?_)
  refine X.callv 1158 [zi (z_ro (EE s) 0 (y + 1))] [] [(0, zr 4 40), (1, zi (z_ro (EE s) 0 (y + 1)))] (zi316 1155) rfl (by decide) rfl rfl (by omega) rfl rfl (by decide) rfl t156 (Nat.le_of_ble_eq_true rfl) (Nat.le_of_ble_eq_true rfl) rfl ?_
  refine c156_1 (S := zS0) (m0 := m) (B := B) (z_ro (EE s) 0 (y + 1)) (by omega) (J.rf hJ) (by omega) (by omega) (fun v2 hv2 hF5 => ?_)
  show X (EE s) d 316 1158 [(0, zr 99 0), (1, zr 4 40), (2, zr 4 44), (3, zi y)] [zl v2] m _
  refine X.pop2 1159 (zi316 1158) rfl rfl ?_
  refine X.aload_n 1160 (zi316 1159) rfl rfl rfl ?_
  refine X.aload_n 1161 (zi316 1160) rfl rfl rfl ?_
  refine X.iload_n 1162 (zi316 1161) rfl rfl rfl ?_
  refine X.iconst 1163 (zi316 1162) rfl rfl (by decide) ?_
  refine X.iadd 1164 (zi316 1163) rfl rfl (by omega) ?_
  refine X.rald 1165 (zi316 1164) rfl rfl (by decide) (by show 0 ≤ _ ∧ _ < ((s.1 : Nat) : Int); omega) (fun h6 => ?_)
  refine X.callv 1168 [zi (z_ro (EE s) 0 (y + 1))] [] [(0, zr 4 44), (1, zi (z_ro (EE s) 0 (y + 1)))] (zi316 1165) rfl (by decide) rfl rfl (by omega) rfl rfl (by decide) rfl t299 (Nat.le_of_ble_eq_true rfl) (Nat.le_of_ble_eq_true rfl) rfl ?_
  refine c299_1 (S := zS0) (m0 := m) (B := B) (z_ro (EE s) 0 (y + 1)) (by omega) (J.rf hJ) (by omega) (by omega) (fun v7 hv7 hF10 => ?_)
  show X (EE s) d 316 1168 [(0, zr 99 0), (1, zr 4 40), (2, zr 4 44), (3, zi y)] [zl v7] m _
  refine X.pop2 1169 (zi316 1168) rfl rfl ?_
  refine X.goto 1656 (zi316 1169) rfl rfl ?_
  exact K _ (hJ.up (by omega)) (hR.up (by omega))
theorem lw31 {s : Nat × (Nat → Int32)} {m : zM} {B : Int} {d : Nat} {Q : Option zV → zM → Prop} (y : Int) (hd : 200 ≤ d) (hJ : JB B m) (hR : Rel3 B m m) (hB : B + 220000 ≤ 700000000) (hy : 0 ≤ y ∧ y + 6 ≤ (s.1 : Int)) (hs : s.1 ≤ 3072) (K : ∀ (m' : zM), JB (B + 220000) m' → Rel3 (B + 220000) m' m' → X (EE s) d 316 1656 [(0, zr 99 0), (1, zr 4 40), (2, zr 4 44), (3, zi y)] [] m' Q) : X (EE s) d 316 1172 [(0, zr 99 0), (1, zr 4 40), (2, zr 4 44), (3, zi y)] [] m Q := by
  refine X.mok (fun hk => ?_)
  refine X.aload_n 1173 (zi316 1172) rfl rfl rfl ?_
  refine X.aload_n 1174 (zi316 1173) rfl rfl rfl ?_
  refine X.iload_n 1175 (zi316 1174) rfl rfl rfl ?_
  refine X.iconst 1176 (zi316 1175) rfl rfl (by decide) ?_
  refine X.iadd 1177 (zi316 1176) rfl rfl (by omega) ?_
  refine X.rald 1178 (zi316 1177) rfl rfl (by decide) (by show 0 ≤ _ ∧ _ < ((s.1 : Nat) : Int); omega) (fun h1 => ?_)
  refine X.callv 1181 [zi (z_ro (EE s) 0 (y + 1))] [] [(0, zr 4 40), (1, zi (z_ro (EE s) 0 (y + 1)))] (zi316 1178) rfl (by decide) rfl rfl (by omega) rfl rfl (by decide) rfl t157 (Nat.le_of_ble_eq_true rfl) (Nat.le_of_ble_eq_true rfl) rfl ?_
  refine c157_1 (S := zS0) (m0 := m) (B := B) (z_ro (EE s) 0 (y + 1)) (by omega) (J.rf hJ) (by omega) (by omega) (fun v2 hv2 hF5 => ?_)
  show X (EE s) d 316 1181 [(0, zr 99 0), (1, zr 4 40), (2, zr 4 44), (3, zi y)] [zl v2] m _
  refine X.pop2 1182 (zi316 1181) rfl rfl ?_
  refine X.aload_n 1183 (zi316 1182) rfl rfl rfl ?_
  refine X.aload_n 1184 (zi316 1183) rfl rfl rfl ?_
  refine X.iload_n 1185 (zi316 1184) rfl rfl rfl ?_
  refine X.iconst 1186 (zi316 1185) rfl rfl (by decide) ?_
  refine X.iadd 1187 (zi316 1186) rfl rfl (by omega) ?_
  refine X.rald 1188 (zi316 1187) rfl rfl (by decide) (by show 0 ≤ _ ∧ _ < ((s.1 : Nat) : Int); omega) (fun h6 => ?_)
  refine X.callv 1191 [zi (z_ro (EE s) 0 (y + 1))] [] [(0, zr 4 44), (1, zi (z_ro (EE s) 0 (y + 1)))] (zi316 1188) rfl (by decide) rfl rfl (by omega) rfl rfl (by decide) rfl t300 (Nat.le_of_ble_eq_true rfl) (Nat.le_of_ble_eq_true rfl) rfl ?_
  refine c300_1 (S := zS0) (m0 := m) (B := B) (z_ro (EE s) 0 (y + 1)) (by omega) (J.rf hJ) (by omega) (by omega) (fun v7 hv7 hF10 => ?_)
  show X (EE s) d 316 1191 [(0, zr 99 0), (1, zr 4 40), (2, zr 4 44), (3, zi y)] [zl v7] m _
  refine X.pop2 1192 (zi316 1191) rfl rfl ?_
  refine X.goto 1656 (zi316 1192) rfl rfl ?_
  exact K _ (hJ.up (by omega)) (hR.up (by omega))
theorem lw32 {s : Nat × (Nat → Int32)} {m : zM} {B : Int} {d : Nat} {Q : Option zV → zM → Prop} (y : Int) (hd : 200 ≤ d) (hJ : JB B m) (hR : Rel3 B m m) (hB : B + 220000 ≤ 700000000) (hy : 0 ≤ y ∧ y + 6 ≤ (s.1 : Int)) (hs : s.1 ≤ 3072) (K : ∀ (m' : zM), JB (B + 220000) m' → Rel3 (B + 220000) m' m' → X (EE s) d 316 1656 [(0, zr 99 0), (1, zr 4 40), (2, zr 4 44), (3, zi y)] [] m' Q) : X (EE s) d 316 1195 [(0, zr 99 0), (1, zr 4 40), (2, zr 4 44), (3, zi y)] [] m Q := by
  refine X.mok (fun hk => ?_)
  refine X.aload_n 1196 (zi316 1195) rfl rfl rfl ?_
  refine X.aload_n 1197 (zi316 1196) rfl rfl rfl ?_
  refine X.iload_n 1198 (zi316 1197) rfl rfl rfl ?_
  refine X.iconst 1199 (zi316 1198) rfl rfl (by decide) ?_
  refine X.iadd 1200 (zi316 1199) rfl rfl (by omega) ?_
  refine X.rald 1201 (zi316 1200) rfl rfl (by decide) (by show 0 ≤ _ ∧ _ < ((s.1 : Nat) : Int); omega) (fun h1 => ?_)
  refine X.aload_n 1202 (zi316 1201) rfl rfl rfl ?_
  refine X.iload_n 1203 (zi316 1202) rfl rfl rfl ?_
  refine X.iconst 1204 (zi316 1203) rfl rfl (by decide) ?_
  refine X.iadd 1205 (zi316 1204) rfl rfl (by omega) ?_
  refine X.rald 1206 (zi316 1205) rfl rfl (by decide) (by show 0 ≤ _ ∧ _ < ((s.1 : Nat) : Int); omega) (fun h2 => ?_)
  refine X.callv 1209 [zi (z_ro (EE s) 0 (y + 1)), zi (z_ro (EE s) 0 (y + 2))] [] [(0, zr 4 40), (1, zi (z_ro (EE s) 0 (y + 1))), (2, zi (z_ro (EE s) 0 (y + 2)))] (zi316 1206) rfl (by decide) rfl rfl (by omega) rfl rfl (by decide) rfl t158 (Nat.le_of_ble_eq_true rfl) (Nat.le_of_ble_eq_true rfl) rfl ?_
  refine c158_1 (S := zS0) (m0 := m) (B := B) (z_ro (EE s) 0 (y + 1)) (z_ro (EE s) 0 (y + 2)) (by omega) (J.rf hJ) (by omega) (by omega) (by omega) (fun v3 hv3 hF6 => ?_)
  show X (EE s) d 316 1209 [(0, zr 99 0), (1, zr 4 40), (2, zr 4 44), (3, zi y)] [zl v3] m _
  refine X.pop2 1210 (zi316 1209) rfl rfl ?_
  refine X.aload_n 1211 (zi316 1210) rfl rfl rfl ?_
  refine X.aload_n 1212 (zi316 1211) rfl rfl rfl ?_
  refine X.iload_n 1213 (zi316 1212) rfl rfl rfl ?_
  refine X.iconst 1214 (zi316 1213) rfl rfl (by decide) ?_
  refine X.iadd 1215 (zi316 1214) rfl rfl (by omega) ?_
  refine X.rald 1216 (zi316 1215) rfl rfl (by decide) (by show 0 ≤ _ ∧ _ < ((s.1 : Nat) : Int); omega) (fun h7 => ?_)
  refine X.aload_n 1217 (zi316 1216) rfl rfl rfl ?_
  refine X.iload_n 1218 (zi316 1217) rfl rfl rfl ?_
  refine X.iconst 1219 (zi316 1218) rfl rfl (by decide) ?_
  refine X.iadd 1220 (zi316 1219) rfl rfl (by omega) ?_
  refine X.rald 1221 (zi316 1220) rfl rfl (by decide) (by show 0 ≤ _ ∧ _ < ((s.1 : Nat) : Int); omega) (fun h8 => ?_)
  refine X.callv 1224 [zi (z_ro (EE s) 0 (y + 1)), zi (z_ro (EE s) 0 (y + 2))] [] [(0, zr 4 44), (1, zi (z_ro (EE s) 0 (y + 1))), (2, zi (z_ro (EE s) 0 (y + 2)))] (zi316 1221) rfl (by decide) rfl rfl (by omega) rfl rfl (by decide) rfl t301 (Nat.le_of_ble_eq_true rfl) (Nat.le_of_ble_eq_true rfl) rfl ?_
  refine c301_1 (S := zS0) (m0 := m) (B := B) (z_ro (EE s) 0 (y + 1)) (z_ro (EE s) 0 (y + 2)) (by omega) (J.rf hJ) (by omega) (by omega) (by omega) (fun v9 hv9 hF12 => ?_)
  show X (EE s) d 316 1224 [(0, zr 99 0), (1, zr 4 40), (2, zr 4 44), (3, zi y)] [zl v9] m _
  refine X.pop2 1225 (zi316 1224) rfl rfl ?_
  refine X.goto 1656 (zi316 1225) rfl rfl ?_
  exact K _ (hJ.up (by omega)) (hR.up (by omega))
theorem lw33 {s : Nat × (Nat → Int32)} {m : zM} {B : Int} {d : Nat} {Q : Option zV → zM → Prop} (y : Int) (hd : 200 ≤ d) (hJ : JB B m) (hR : Rel3 B m m) (hB : B + 220000 ≤ 700000000) (hy : 0 ≤ y ∧ y + 6 ≤ (s.1 : Int)) (hs : s.1 ≤ 3072) (K : ∀ (m' : zM), JB (B + 220000) m' → Rel3 (B + 220000) m' m' → X (EE s) d 316 1656 [(0, zr 99 0), (1, zr 4 40), (2, zr 4 44), (3, zi y)] [] m' Q) : X (EE s) d 316 1228 [(0, zr 99 0), (1, zr 4 40), (2, zr 4 44), (3, zi y)] [] m Q := by
  refine X.mok (fun hk => ?_)
  refine X.aload_n 1229 (zi316 1228) rfl rfl rfl ?_
  refine X.aload_n 1230 (zi316 1229) rfl rfl rfl ?_
  refine X.iload_n 1231 (zi316 1230) rfl rfl rfl ?_
  refine X.iconst 1232 (zi316 1231) rfl rfl (by decide) ?_
  refine X.iadd 1233 (zi316 1232) rfl rfl (by omega) ?_
  refine X.rald 1234 (zi316 1233) rfl rfl (by decide) (by show 0 ≤ _ ∧ _ < ((s.1 : Nat) : Int); omega) (fun h1 => ?_)
  refine X.aload_n 1235 (zi316 1234) rfl rfl rfl ?_
  refine X.iload_n 1236 (zi316 1235) rfl rfl rfl ?_
  refine X.iconst 1237 (zi316 1236) rfl rfl (by decide) ?_
  refine X.iadd 1238 (zi316 1237) rfl rfl (by omega) ?_
  refine X.rald 1239 (zi316 1238) rfl rfl (by decide) (by show 0 ≤ _ ∧ _ < ((s.1 : Nat) : Int); omega) (fun h2 => ?_)
  refine X.aload_n 1240 (zi316 1239) rfl rfl rfl ?_
  refine X.iload_n 1241 (zi316 1240) rfl rfl rfl ?_
  refine X.iconst 1242 (zi316 1241) rfl rfl (by decide) ?_
  refine X.iadd 1243 (zi316 1242) rfl rfl (by omega) ?_
  refine X.rald 1244 (zi316 1243) rfl rfl (by decide) (by show 0 ≤ _ ∧ _ < ((s.1 : Nat) : Int); omega) (fun h3 => ?_)
  refine X.callv 1247 [zi (z_ro (EE s) 0 (y + 1)), zi (z_ro (EE s) 0 (y + 2)), zi (z_ro (EE s) 0 (y + 3))] [] [(0, zr 4 40), (1, zi (z_ro (EE s) 0 (y + 1))), (2, zi (z_ro (EE s) 0 (y + 2))), (3, zi (z_ro (EE s) 0 (y + 3)))] (zi316 1244) rfl (by decide) rfl rfl (by omega) rfl rfl (by decide) rfl t159 (Nat.le_of_ble_eq_true rfl) (Nat.le_of_ble_eq_true rfl) rfl ?_
  refine c159_1 (S := zS0) (m0 := m) (B := B) (z_ro (EE s) 0 (y + 1)) (z_ro (EE s) 0 (y + 2)) (z_ro (EE s) 0 (y + 3)) (by omega) (J.rf hJ) (by omega) (by omega) (by omega) (by omega) (fun v4 hv4 hF7 => ?_)
  show X (EE s) d 316 1247 [(0, zr 99 0), (1, zr 4 40), (2, zr 4 44), (3, zi y)] [zl v4] m _
  refine X.pop2 1248 (zi316 1247) rfl rfl ?_
  refine X.aload_n 1249 (zi316 1248) rfl rfl rfl ?_
  refine X.aload_n 1250 (zi316 1249) rfl rfl rfl ?_
  refine X.iload_n 1251 (zi316 1250) rfl rfl rfl ?_
  refine X.iconst 1252 (zi316 1251) rfl rfl (by decide) ?_
  refine X.iadd 1253 (zi316 1252) rfl rfl (by omega) ?_
  refine X.rald 1254 (zi316 1253) rfl rfl (by decide) (by show 0 ≤ _ ∧ _ < ((s.1 : Nat) : Int); omega) (fun h8 => ?_)
  refine X.aload_n 1255 (zi316 1254) rfl rfl rfl ?_
  refine X.iload_n 1256 (zi316 1255) rfl rfl rfl ?_
  refine X.iconst 1257 (zi316 1256) rfl rfl (by decide) ?_
  refine X.iadd 1258 (zi316 1257) rfl rfl (by omega) ?_
  refine X.rald 1259 (zi316 1258) rfl rfl (by decide) (by show 0 ≤ _ ∧ _ < ((s.1 : Nat) : Int); omega) (fun h9 => ?_)
  refine X.aload_n 1260 (zi316 1259) rfl rfl rfl ?_
  refine X.iload_n 1261 (zi316 1260) rfl rfl rfl ?_
  refine X.iconst 1262 (zi316 1261) rfl rfl (by decide) ?_
  refine X.iadd 1263 (zi316 1262) rfl rfl (by omega) ?_
  refine X.rald 1264 (zi316 1263) rfl rfl (by decide) (by show 0 ≤ _ ∧ _ < ((s.1 : Nat) : Int); omega) (fun h10 => ?_)
  refine X.callv 1267 [zi (z_ro (EE s) 0 (y + 1)), zi (z_ro (EE s) 0 (y + 2)), zi (z_ro (EE s) 0 (y + 3))] [] [(0, zr 4 44), (1, zi (z_ro (EE s) 0 (y + 1))), (2, zi (z_ro (EE s) 0 (y + 2))), (3, zi (z_ro (EE s) 0 (y + 3)))] (zi316 1264) rfl (by decide) rfl rfl (by omega) rfl rfl (by decide) rfl t288 (Nat.le_of_ble_eq_true rfl) (Nat.le_of_ble_eq_true rfl) rfl ?_
  refine c288_1 (S := zS0) (m0 := m) (B := B) (z_ro (EE s) 0 (y + 1)) (z_ro (EE s) 0 (y + 2)) (z_ro (EE s) 0 (y + 3)) (by omega) (J.rf hJ) (by omega) (by omega) (by omega) (by omega) (fun v11 hv11 hF14 => ?_)
  show X (EE s) d 316 1267 [(0, zr 99 0), (1, zr 4 40), (2, zr 4 44), (3, zi y)] [zl v11] m _
  refine X.pop2 1268 (zi316 1267) rfl rfl ?_
  refine X.goto 1656 (zi316 1268) rfl rfl ?_
  exact K _ (hJ.up (by omega)) (hR.up (by omega))
theorem lw34 {s : Nat × (Nat → Int32)} {m : zM} {B : Int} {d : Nat} {Q : Option zV → zM → Prop} (y : Int) (hd : 200 ≤ d) (hJ : JB B m) (hR : Rel3 B m m) (hB : B + 220000 ≤ 700000000) (hy : 0 ≤ y ∧ y + 6 ≤ (s.1 : Int)) (hs : s.1 ≤ 3072) (K : ∀ (m' : zM), JB (B + 220000) m' → Rel3 (B + 220000) m' m' → X (EE s) d 316 1656 [(0, zr 99 0), (1, zr 4 40), (2, zr 4 44), (3, zi y)] [] m' Q) : X (EE s) d 316 1271 [(0, zr 99 0), (1, zr 4 40), (2, zr 4 44), (3, zi y)] [] m Q := by
  refine X.mok (fun hk => ?_)
  refine X.aload_n 1272 (zi316 1271) rfl rfl rfl ?_
  refine X.aload_n 1273 (zi316 1272) rfl rfl rfl ?_
  refine X.iload_n 1274 (zi316 1273) rfl rfl rfl ?_
  refine X.iconst 1275 (zi316 1274) rfl rfl (by decide) ?_
  refine X.iadd 1276 (zi316 1275) rfl rfl (by omega) ?_
  refine X.rald 1277 (zi316 1276) rfl rfl (by decide) (by show 0 ≤ _ ∧ _ < ((s.1 : Nat) : Int); omega) (fun h1 => ?_)
  refine X.aload_n 1278 (zi316 1277) rfl rfl rfl ?_
  refine X.iload_n 1279 (zi316 1278) rfl rfl rfl ?_
  refine X.iconst 1280 (zi316 1279) rfl rfl (by decide) ?_
  refine X.iadd 1281 (zi316 1280) rfl rfl (by omega) ?_
  refine X.rald 1282 (zi316 1281) rfl rfl (by decide) (by show 0 ≤ _ ∧ _ < ((s.1 : Nat) : Int); omega) (fun h2 => ?_)
  refine X.callv 1285 [zi (z_ro (EE s) 0 (y + 1)), zi (z_ro (EE s) 0 (y + 2))] [] [(0, zr 4 40), (1, zi (z_ro (EE s) 0 (y + 1))), (2, zi (z_ro (EE s) 0 (y + 2)))] (zi316 1282) rfl (by decide) rfl rfl (by omega) rfl rfl (by decide) rfl t163 (Nat.le_of_ble_eq_true rfl) (Nat.le_of_ble_eq_true rfl) rfl ?_
  refine c163_1 (S := zS0) (m0 := m) (B := B) (z_ro (EE s) 0 (y + 1)) (z_ro (EE s) 0 (y + 2)) (by omega) (J.rf hJ) (by omega) (by omega) (by omega) (fun v3 hv3 hF6 => ?_)
  show X (EE s) d 316 1285 [(0, zr 99 0), (1, zr 4 40), (2, zr 4 44), (3, zi y)] [zl v3] m _
  refine X.pop2 1286 (zi316 1285) rfl rfl ?_
  refine X.aload_n 1287 (zi316 1286) rfl rfl rfl ?_
  refine X.aload_n 1288 (zi316 1287) rfl rfl rfl ?_
  refine X.iload_n 1289 (zi316 1288) rfl rfl rfl ?_
  refine X.iconst 1290 (zi316 1289) rfl rfl (by decide) ?_
  refine X.iadd 1291 (zi316 1290) rfl rfl (by omega) ?_
  refine X.rald 1292 (zi316 1291) rfl rfl (by decide) (by show 0 ≤ _ ∧ _ < ((s.1 : Nat) : Int); omega) (fun h7 => ?_)
  refine X.aload_n 1293 (zi316 1292) rfl rfl rfl ?_
  refine X.iload_n 1294 (zi316 1293) rfl rfl rfl ?_
  refine X.iconst 1295 (zi316 1294) rfl rfl (by decide) ?_
  refine X.iadd 1296 (zi316 1295) rfl rfl (by omega) ?_
  refine X.rald 1297 (zi316 1296) rfl rfl (by decide) (by show 0 ≤ _ ∧ _ < ((s.1 : Nat) : Int); omega) (fun h8 => ?_)
  refine X.callv 1300 [zi (z_ro (EE s) 0 (y + 1)), zi (z_ro (EE s) 0 (y + 2))] [] [(0, zr 4 44), (1, zi (z_ro (EE s) 0 (y + 1))), (2, zi (z_ro (EE s) 0 (y + 2)))] (zi316 1297) rfl (by decide) rfl rfl (by omega) rfl rfl (by decide) rfl t292 (Nat.le_of_ble_eq_true rfl) (Nat.le_of_ble_eq_true rfl) rfl ?_
  refine c292_1 (S := zS0) (m0 := m) (B := B) (z_ro (EE s) 0 (y + 1)) (z_ro (EE s) 0 (y + 2)) (by omega) (J.rf hJ) (by omega) (by omega) (by omega) (fun v9 hv9 hF12 => ?_)
  show X (EE s) d 316 1300 [(0, zr 99 0), (1, zr 4 40), (2, zr 4 44), (3, zi y)] [zl v9] m _
  refine X.pop2 1301 (zi316 1300) rfl rfl ?_
  refine X.goto 1656 (zi316 1301) rfl rfl ?_
  exact K _ (hJ.up (by omega)) (hR.up (by omega))
theorem lw35 {s : Nat × (Nat → Int32)} {m : zM} {B : Int} {d : Nat} {Q : Option zV → zM → Prop} (y : Int) (hd : 200 ≤ d) (hJ : JB B m) (hR : Rel3 B m m) (hB : B + 220000 ≤ 700000000) (hy : 0 ≤ y ∧ y + 6 ≤ (s.1 : Int)) (hs : s.1 ≤ 3072) (K : ∀ (m' : zM), JB (B + 220000) m' → Rel3 (B + 220000) m' m' → X (EE s) d 316 1656 [(0, zr 99 0), (1, zr 4 40), (2, zr 4 44), (3, zi y)] [] m' Q) : X (EE s) d 316 1304 [(0, zr 99 0), (1, zr 4 40), (2, zr 4 44), (3, zi y)] [] m Q := by
  refine X.mok (fun hk => ?_)
  refine X.aload_n 1305 (zi316 1304) rfl rfl rfl ?_
  refine X.aload_n 1306 (zi316 1305) rfl rfl rfl ?_
  refine X.iload_n 1307 (zi316 1306) rfl rfl rfl ?_
  refine X.iconst 1308 (zi316 1307) rfl rfl (by decide) ?_
  refine X.iadd 1309 (zi316 1308) rfl rfl (by omega) ?_
  refine X.rald 1310 (zi316 1309) rfl rfl (by decide) (by show 0 ≤ _ ∧ _ < ((s.1 : Nat) : Int); omega) (fun h1 => ?_)
  refine X.aload_n 1311 (zi316 1310) rfl rfl rfl ?_
  refine X.iload_n 1312 (zi316 1311) rfl rfl rfl ?_
  refine X.iconst 1313 (zi316 1312) rfl rfl (by decide) ?_
  refine X.iadd 1314 (zi316 1313) rfl rfl (by omega) ?_
  refine X.rald 1315 (zi316 1314) rfl rfl (by decide) (by show 0 ≤ _ ∧ _ < ((s.1 : Nat) : Int); omega) (fun h2 => ?_)
  refine X.callv 1318 [zi (z_ro (EE s) 0 (y + 1)), zi (z_ro (EE s) 0 (y + 2))] [] [(0, zr 4 40), (1, zi (z_ro (EE s) 0 (y + 1))), (2, zi (z_ro (EE s) 0 (y + 2)))] (zi316 1315) rfl (by decide) rfl rfl (by omega) rfl rfl (by decide) rfl t166 (Nat.le_of_ble_eq_true rfl) (Nat.le_of_ble_eq_true rfl) rfl ?_
  refine c166_1 (S := zS0) (m0 := m) (B := B) (z_ro (EE s) 0 (y + 1)) (z_ro (EE s) 0 (y + 2)) (by omega) (J.rf hJ) (by omega) (by omega) (by omega) (fun v3 hv3 hF6 => ?_)
  show X (EE s) d 316 1318 [(0, zr 99 0), (1, zr 4 40), (2, zr 4 44), (3, zi y)] [zl v3] m _
  refine X.pop2 1319 (zi316 1318) rfl rfl ?_
  refine X.aload_n 1320 (zi316 1319) rfl rfl rfl ?_
  refine X.aload_n 1321 (zi316 1320) rfl rfl rfl ?_
  refine X.iload_n 1322 (zi316 1321) rfl rfl rfl ?_
  refine X.iconst 1323 (zi316 1322) rfl rfl (by decide) ?_
  refine X.iadd 1324 (zi316 1323) rfl rfl (by omega) ?_
  refine X.rald 1325 (zi316 1324) rfl rfl (by decide) (by show 0 ≤ _ ∧ _ < ((s.1 : Nat) : Int); omega) (fun h7 => ?_)
  refine X.aload_n 1326 (zi316 1325) rfl rfl rfl ?_
  refine X.iload_n 1327 (zi316 1326) rfl rfl rfl ?_
  refine X.iconst 1328 (zi316 1327) rfl rfl (by decide) ?_
  refine X.iadd 1329 (zi316 1328) rfl rfl (by omega) ?_
  refine X.rald 1330 (zi316 1329) rfl rfl (by decide) (by show 0 ≤ _ ∧ _ < ((s.1 : Nat) : Int); omega) (fun h8 => ?_)
  refine X.callv 1333 [zi (z_ro (EE s) 0 (y + 1)), zi (z_ro (EE s) 0 (y + 2))] [] [(0, zr 4 44), (1, zi (z_ro (EE s) 0 (y + 1))), (2, zi (z_ro (EE s) 0 (y + 2)))] (zi316 1330) rfl (by decide) rfl rfl (by omega) rfl rfl (by decide) rfl t293 (Nat.le_of_ble_eq_true rfl) (Nat.le_of_ble_eq_true rfl) rfl ?_
  refine c293_1 (S := zS0) (m0 := m) (B := B) (z_ro (EE s) 0 (y + 1)) (z_ro (EE s) 0 (y + 2)) (by omega) (J.rf hJ) (by omega) (by omega) (by omega) (fun v9 hv9 hF12 => ?_)
  show X (EE s) d 316 1333 [(0, zr 99 0), (1, zr 4 40), (2, zr 4 44), (3, zi y)] [zl v9] m _
  refine X.pop2 1334 (zi316 1333) rfl rfl ?_
  refine X.goto 1656 (zi316 1334) rfl rfl ?_
  exact K _ (hJ.up (by omega)) (hR.up (by omega))
theorem lw36 {s : Nat × (Nat → Int32)} {m : zM} {B : Int} {d : Nat} {Q : Option zV → zM → Prop} (y : Int) (hd : 200 ≤ d) (hJ : JB B m) (hR : Rel3 B m m) (hB : B + 220000 ≤ 700000000) (hy : 0 ≤ y ∧ y + 6 ≤ (s.1 : Int)) (hs : s.1 ≤ 3072) (K : ∀ (m' : zM), JB (B + 220000) m' → Rel3 (B + 220000) m' m' → X (EE s) d 316 1656 [(0, zr 99 0), (1, zr 4 40), (2, zr 4 44), (3, zi y)] [] m' Q) : X (EE s) d 316 1337 [(0, zr 99 0), (1, zr 4 40), (2, zr 4 44), (3, zi y)] [] m Q := by
  refine X.mok (fun hk => ?_)
  refine X.aload_n 1338 (zi316 1337) rfl rfl rfl ?_
  refine X.aload_n 1339 (zi316 1338) rfl rfl rfl ?_
  refine X.iload_n 1340 (zi316 1339) rfl rfl rfl ?_
  refine X.iconst 1341 (zi316 1340) rfl rfl (by decide) ?_
  refine X.iadd 1342 (zi316 1341) rfl rfl (by omega) ?_
  refine X.rald 1343 (zi316 1342) rfl rfl (by decide) (by show 0 ≤ _ ∧ _ < ((s.1 : Nat) : Int); omega) (fun h1 => ?_)
  refine X.aload_n 1344 (zi316 1343) rfl rfl rfl ?_
  refine X.iload_n 1345 (zi316 1344) rfl rfl rfl ?_
  refine X.iconst 1346 (zi316 1345) rfl rfl (by decide) ?_
  refine X.iadd 1347 (zi316 1346) rfl rfl (by omega) ?_
  refine X.rald 1348 (zi316 1347) rfl rfl (by decide) (by show 0 ≤ _ ∧ _ < ((s.1 : Nat) : Int); omega) (fun h2 => ?_)
  refine X.callv 1351 [zi (z_ro (EE s) 0 (y + 1)), zi (z_ro (EE s) 0 (y + 2))] [] [(0, zr 4 40), (1, zi (z_ro (EE s) 0 (y + 1))), (2, zi (z_ro (EE s) 0 (y + 2)))] (zi316 1348) rfl (by decide) rfl rfl (by omega) rfl rfl (by decide) rfl t170 (Nat.le_of_ble_eq_true rfl) (Nat.le_of_ble_eq_true rfl) rfl ?_
  refine c170_1 (S := zS0) (m0 := m) (B := B) (z_ro (EE s) 0 (y + 1)) (z_ro (EE s) 0 (y + 2)) (by omega) (J.rf hJ) (by omega) (by omega) (by omega) (fun h => h) (fun h => h) (fun h => h) (fun h => h) (fun h => h) (fun h => h) (fun h => h) (fun h => h) (fun h => h) (fun h => h) (fun h => h) (fun h => h) (fun h => h) (fun h => h) (fun v3 m4 hv3 hF6 hJ5 => ?_)
  show X (EE s) d 316 1351 [(0, zr 99 0), (1, zr 4 40), (2, zr 4 44), (3, zi y)] [zl v3] m4 _
  refine X.pop2 1352 (zi316 1351) rfl rfl ?_
  refine X.aload_n 1353 (zi316 1352) rfl rfl rfl ?_
  refine X.aload_n 1354 (zi316 1353) rfl rfl rfl ?_
  refine X.iload_n 1355 (zi316 1354) rfl rfl rfl ?_
  refine X.iconst 1356 (zi316 1355) rfl rfl (by decide) ?_
  refine X.iadd 1357 (zi316 1356) rfl rfl (by omega) ?_
  refine X.rald 1358 (zi316 1357) rfl rfl (by decide) (by show 0 ≤ _ ∧ _ < ((s.1 : Nat) : Int); omega) (fun h7 => ?_)
  refine X.aload_n 1359 (zi316 1358) rfl rfl rfl ?_
  refine X.iload_n 1360 (zi316 1359) rfl rfl rfl ?_
  refine X.iconst 1361 (zi316 1360) rfl rfl (by decide) ?_
  refine X.iadd 1362 (zi316 1361) rfl rfl (by omega) ?_
  refine X.rald 1363 (zi316 1362) rfl rfl (by decide) (by show 0 ≤ _ ∧ _ < ((s.1 : Nat) : Int); omega) (fun h8 => ?_)
  refine X.callv 1366 [zi (z_ro (EE s) 0 (y + 1)), zi (z_ro (EE s) 0 (y + 2))] [] [(0, zr 4 44), (1, zi (z_ro (EE s) 0 (y + 1))), (2, zi (z_ro (EE s) 0 (y + 2)))] (zi316 1363) rfl (by decide) rfl rfl (by omega) rfl rfl (by decide) rfl t302 (Nat.le_of_ble_eq_true rfl) (Nat.le_of_ble_eq_true rfl) rfl ?_
  refine c302_1 (S := zS0) (m0 := m4) (B := B + 7212) (z_ro (EE s) 0 (y + 1)) (z_ro (EE s) 0 (y + 2)) (by omega) (J.rf hJ5.jb0) (by omega) (by omega) (by omega) (fun h => h) (fun h => h) (fun h => h) (fun h => h) (fun h => h) (fun h => h) (fun h => h) (fun h => h) (fun h => h) (fun h => h) (fun h => h) (fun h => h) (fun h => h) (fun h => h) (fun h => h) (fun v9 m10 hv9 hF12 hJ11 => ?_)
  show X (EE s) d 316 1366 [(0, zr 99 0), (1, zr 4 40), (2, zr 4 44), (3, zi y)] [zl v9] m10 _
  refine X.pop2 1367 (zi316 1366) rfl rfl ?_
  refine X.goto 1656 (zi316 1367) rfl rfl ?_
  exact K _ (hJ11.jb0.up (by omega)) (st3_would (by omega) (by omega) hk hJ (by omega) hR hF6 hF12).2
theorem lw37 {s : Nat × (Nat → Int32)} {m : zM} {B : Int} {d : Nat} {Q : Option zV → zM → Prop} (y : Int) (hd : 200 ≤ d) (hJ : JB B m) (hR : Rel3 B m m) (hB : B + 220000 ≤ 700000000) (hy : 0 ≤ y ∧ y + 6 ≤ (s.1 : Int)) (hs : s.1 ≤ 3072) (K : ∀ (m' : zM), JB (B + 220000) m' → Rel3 (B + 220000) m' m' → X (EE s) d 316 1656 [(0, zr 99 0), (1, zr 4 40), (2, zr 4 44), (3, zi y)] [] m' Q) : X (EE s) d 316 1370 [(0, zr 99 0), (1, zr 4 40), (2, zr 4 44), (3, zi y)] [] m Q := by
  refine X.mok (fun hk => ?_)
  refine X.aload_n 1371 (zi316 1370) rfl rfl rfl ?_
  refine X.aload_n 1372 (zi316 1371) rfl rfl rfl ?_
  refine X.iload_n 1373 (zi316 1372) rfl rfl rfl ?_
  refine X.iconst 1374 (zi316 1373) rfl rfl (by decide) ?_
  refine X.iadd 1375 (zi316 1374) rfl rfl (by omega) ?_
  refine X.rald 1376 (zi316 1375) rfl rfl (by decide) (by show 0 ≤ _ ∧ _ < ((s.1 : Nat) : Int); omega) (fun h1 => ?_)
  refine X.callv 1379 [zi (z_ro (EE s) 0 (y + 1))] [] [(0, zr 4 40), (1, zi (z_ro (EE s) 0 (y + 1)))] (zi316 1376) rfl (by decide) rfl rfl (by omega) rfl rfl (by decide) rfl t181 (Nat.le_of_ble_eq_true rfl) (Nat.le_of_ble_eq_true rfl) rfl ?_
  refine c181_1 (S := zS0) (m0 := m) (B := B) (z_ro (EE s) 0 (y + 1)) (by omega) (J.rf hJ) (by omega) (by omega) (fun v2 hv2 hF5 => ?_)
  show X (EE s) d 316 1379 [(0, zr 99 0), (1, zr 4 40), (2, zr 4 44), (3, zi y)] [zl v2] m _
  refine X.pop2 1380 (zi316 1379) rfl rfl ?_
  refine X.aload_n 1381 (zi316 1380) rfl rfl rfl ?_
  refine X.aload_n 1382 (zi316 1381) rfl rfl rfl ?_
  refine X.iload_n 1383 (zi316 1382) rfl rfl rfl ?_
  refine X.iconst 1384 (zi316 1383) rfl rfl (by decide) ?_
  refine X.iadd 1385 (zi316 1384) rfl rfl (by omega) ?_
  refine X.rald 1386 (zi316 1385) rfl rfl (by decide) (by show 0 ≤ _ ∧ _ < ((s.1 : Nat) : Int); omega) (fun h6 => ?_)
  refine X.callv 1389 [zi (z_ro (EE s) 0 (y + 1))] [] [(0, zr 4 44), (1, zi (z_ro (EE s) 0 (y + 1)))] (zi316 1386) rfl (by decide) rfl rfl (by omega) rfl rfl (by decide) rfl t305 (Nat.le_of_ble_eq_true rfl) (Nat.le_of_ble_eq_true rfl) rfl ?_
  refine c305_1 (S := zS0) (m0 := m) (B := B) (z_ro (EE s) 0 (y + 1)) (by omega) (J.rf hJ) (by omega) (by omega) (fun v7 hv7 hF10 => ?_)
  show X (EE s) d 316 1389 [(0, zr 99 0), (1, zr 4 40), (2, zr 4 44), (3, zi y)] [zl v7] m _
  refine X.pop2 1390 (zi316 1389) rfl rfl ?_
  refine X.goto 1656 (zi316 1390) rfl rfl ?_
  exact K _ (hJ.up (by omega)) (hR.up (by omega))
theorem lw38 {s : Nat × (Nat → Int32)} {m : zM} {B : Int} {d : Nat} {Q : Option zV → zM → Prop} (y : Int) (hd : 200 ≤ d) (hJ : JB B m) (hR : Rel3 B m m) (hB : B + 220000 ≤ 700000000) (hy : 0 ≤ y ∧ y + 6 ≤ (s.1 : Int)) (hs : s.1 ≤ 3072) (K : ∀ (m' : zM), JB (B + 220000) m' → Rel3 (B + 220000) m' m' → X (EE s) d 316 1656 [(0, zr 99 0), (1, zr 4 40), (2, zr 4 44), (3, zi y)] [] m' Q) : X (EE s) d 316 1393 [(0, zr 99 0), (1, zr 4 40), (2, zr 4 44), (3, zi y)] [] m Q := by
  refine X.mok (fun hk => ?_)
  refine X.aload_n 1394 (zi316 1393) rfl rfl rfl ?_
  refine X.aload_n 1395 (zi316 1394) rfl rfl rfl ?_
  refine X.iload_n 1396 (zi316 1395) rfl rfl rfl ?_
  refine X.iconst 1397 (zi316 1396) rfl rfl (by decide) ?_
  refine X.iadd 1398 (zi316 1397) rfl rfl (by omega) ?_
  refine X.rald 1399 (zi316 1398) rfl rfl (by decide) (by show 0 ≤ _ ∧ _ < ((s.1 : Nat) : Int); omega) (fun h1 => ?_)
  refine X.aload_n 1400 (zi316 1399) rfl rfl rfl ?_
  refine X.iload_n 1401 (zi316 1400) rfl rfl rfl ?_
  refine X.iconst 1402 (zi316 1401) rfl rfl (by decide) ?_
  refine X.iadd 1403 (zi316 1402) rfl rfl (by omega) ?_
  refine X.rald 1404 (zi316 1403) rfl rfl (by decide) (by show 0 ≤ _ ∧ _ < ((s.1 : Nat) : Int); omega) (fun h2 => ?_)
  refine X.callv 1407 [zi (z_ro (EE s) 0 (y + 1)), zi (z_ro (EE s) 0 (y + 2))] [] [(0, zr 4 40), (1, zi (z_ro (EE s) 0 (y + 1))), (2, zi (z_ro (EE s) 0 (y + 2)))] (zi316 1404) rfl (by decide) rfl rfl (by omega) rfl rfl (by decide) rfl t183 (Nat.le_of_ble_eq_true rfl) (Nat.le_of_ble_eq_true rfl) rfl ?_
  refine c183_1 (S := zS0) (m0 := m) (B := B) (z_ro (EE s) 0 (y + 1)) (z_ro (EE s) 0 (y + 2)) (by omega) (J.rf hJ) (by omega) (by omega) (by omega) (fun v3 hv3 hF6 => ?_)
  show X (EE s) d 316 1407 [(0, zr 99 0), (1, zr 4 40), (2, zr 4 44), (3, zi y)] [zl v3] m _
  refine X.pop2 1408 (zi316 1407) rfl rfl ?_
  refine X.aload_n 1409 (zi316 1408) rfl rfl rfl ?_
  refine X.aload_n 1410 (zi316 1409) rfl rfl rfl ?_
  refine X.iload_n 1411 (zi316 1410) rfl rfl rfl ?_
  refine X.iconst 1412 (zi316 1411) rfl rfl (by decide) ?_
  refine X.iadd 1413 (zi316 1412) rfl rfl (by omega) ?_
  refine X.rald 1414 (zi316 1413) rfl rfl (by decide) (by show 0 ≤ _ ∧ _ < ((s.1 : Nat) : Int); omega) (fun h7 => ?_)
  refine X.aload_n 1415 (zi316 1414) rfl rfl rfl ?_
  refine X.iload_n 1416 (zi316 1415) rfl rfl rfl ?_
  refine X.iconst 1417 (zi316 1416) rfl rfl (by decide) ?_
  refine X.iadd 1418 (zi316 1417) rfl rfl (by omega) ?_
  refine X.rald 1419 (zi316 1418) rfl rfl (by decide) (by show 0 ≤ _ ∧ _ < ((s.1 : Nat) : Int); omega) (fun h8 => ?_)
  refine X.callv 1422 [zi (z_ro (EE s) 0 (y + 1)), zi (z_ro (EE s) 0 (y + 2))] [] [(0, zr 4 44), (1, zi (z_ro (EE s) 0 (y + 1))), (2, zi (z_ro (EE s) 0 (y + 2)))] (zi316 1419) rfl (by decide) rfl rfl (by omega) rfl rfl (by decide) rfl t308 (Nat.le_of_ble_eq_true rfl) (Nat.le_of_ble_eq_true rfl) rfl ?_
  refine c308_1 (S := zS0) (m0 := m) (B := B) (z_ro (EE s) 0 (y + 1)) (z_ro (EE s) 0 (y + 2)) (by omega) (J.rf hJ) (by omega) (by omega) (by omega) (fun v9 hv9 hF12 => ?_)
  show X (EE s) d 316 1422 [(0, zr 99 0), (1, zr 4 40), (2, zr 4 44), (3, zi y)] [zl v9] m _
  refine X.pop2 1423 (zi316 1422) rfl rfl ?_
  refine X.goto 1656 (zi316 1423) rfl rfl ?_
  exact K _ (hJ.up (by omega)) (hR.up (by omega))
theorem lw39 {s : Nat × (Nat → Int32)} {m : zM} {B : Int} {d : Nat} {Q : Option zV → zM → Prop} (y : Int) (hd : 200 ≤ d) (hJ : JB B m) (hR : Rel3 B m m) (hB : B + 220000 ≤ 700000000) (hy : 0 ≤ y ∧ y + 6 ≤ (s.1 : Int)) (hs : s.1 ≤ 3072) (K : ∀ (m' : zM), JB (B + 220000) m' → Rel3 (B + 220000) m' m' → X (EE s) d 316 1656 [(0, zr 99 0), (1, zr 4 40), (2, zr 4 44), (3, zi y)] [] m' Q) : X (EE s) d 316 1426 [(0, zr 99 0), (1, zr 4 40), (2, zr 4 44), (3, zi y)] [] m Q := by
  refine X.mok (fun hk => ?_)
  refine X.aload_n 1427 (zi316 1426) rfl rfl rfl ?_
  refine X.callv 1430 [] [] [(0, zr 4 40)] (zi316 1427) rfl (by decide) rfl rfl (by omega) rfl rfl (by decide) rfl t184 (Nat.le_of_ble_eq_true rfl) (Nat.le_of_ble_eq_true rfl) rfl ?_
  refine c184_1 (S := zS0) (m0 := m) (B := B)  (by omega) (J.rf hJ) (by omega) (fun h => h) (fun h => h) (fun h => h) (fun h => h) (fun h => h) (fun h => h) (fun h => h) (fun h => h) (fun h => h) (fun h => h) (fun h => h) (fun h => h) (fun h => h) (fun h => h) (fun v1 m2 hv1 hF4 hJ3 => ?_)
  show X (EE s) d 316 1430 [(0, zr 99 0), (1, zr 4 40), (2, zr 4 44), (3, zi y)] [zi v1] m2 _
  refine X.pop 1431 (zi316 1430) rfl rfl rfl ?_
  refine X.aload_n 1432 (zi316 1431) rfl rfl rfl ?_
  refine X.callv 1435 [] [] [(0, zr 4 44)] (zi316 1432) rfl (by decide) rfl rfl (by omega) rfl rfl (by decide) rfl t309 (Nat.le_of_ble_eq_true rfl) (Nat.le_of_ble_eq_true rfl) rfl ?_
  refine c309_1 (S := zS0) (m0 := m2) (B := B + 28812)  (by omega) (J.rf hJ3.jb0) (by omega) (fun h => h) (fun h => h) (fun h => h) (fun h => h) (fun h => h) (fun h => h) (fun h => h) (fun h => h) (fun h => h) (fun h => h) (fun h => h) (fun h => h) (fun h => h) (fun h => h) (fun h => h) (fun v5 m6 hv5 hF8 hJ7 => ?_)
  show X (EE s) d 316 1435 [(0, zr 99 0), (1, zr 4 40), (2, zr 4 44), (3, zi y)] [zi v5] m6 _
  refine X.pop 1436 (zi316 1435) rfl rfl rfl ?_
  refine X.goto 1656 (zi316 1436) rfl rfl ?_
  exact K _ (hJ7.jb0.up (by omega)) (st3_lasts  hk hJ (by omega) hR hF4 hF8).2
theorem lw40 {s : Nat × (Nat → Int32)} {m : zM} {B : Int} {d : Nat} {Q : Option zV → zM → Prop} (y : Int) (hd : 200 ≤ d) (hJ : JB B m) (hR : Rel3 B m m) (hB : B + 220000 ≤ 700000000) (hy : 0 ≤ y ∧ y + 6 ≤ (s.1 : Int)) (hs : s.1 ≤ 3072) (K : ∀ (m' : zM), JB (B + 220000) m' → Rel3 (B + 220000) m' m' → X (EE s) d 316 1656 [(0, zr 99 0), (1, zr 4 40), (2, zr 4 44), (3, zi y)] [] m' Q) : X (EE s) d 316 1439 [(0, zr 99 0), (1, zr 4 40), (2, zr 4 44), (3, zi y)] [] m Q := by
  refine X.mok (fun hk => ?_)
  refine X.aload_n 1440 (zi316 1439) rfl rfl rfl ?_
  refine X.aload_n 1441 (zi316 1440) rfl rfl rfl ?_
  refine X.iload_n 1442 (zi316 1441) rfl rfl rfl ?_
  refine X.iconst 1443 (zi316 1442) rfl rfl (by decide) ?_
  refine X.iadd 1444 (zi316 1443) rfl rfl (by omega) ?_
  refine X.rald 1445 (zi316 1444) rfl rfl (by decide) (by show 0 ≤ _ ∧ _ < ((s.1 : Nat) : Int); omega) (fun h1 => ?_)
  refine X.callv 1448 [zi (z_ro (EE s) 0 (y + 1))] [] [(0, zr 4 40), (1, zi (z_ro (EE s) 0 (y + 1)))] (zi316 1445) rfl (by decide) rfl rfl (by omega) rfl rfl (by decide) rfl t186 (Nat.le_of_ble_eq_true rfl) (Nat.le_of_ble_eq_true rfl) rfl ?_
  refine c186_1 (S := zS0) (m0 := m) (B := B) (z_ro (EE s) 0 (y + 1)) (by omega) (J.rf hJ) (by omega) (by omega) (fun v2 hv2 hF5 => ?_)
  show X (EE s) d 316 1448 [(0, zr 99 0), (1, zr 4 40), (2, zr 4 44), (3, zi y)] [zl v2] m _
  refine X.pop2 1449 (zi316 1448) rfl rfl ?_
  refine X.aload_n 1450 (zi316 1449) rfl rfl rfl ?_
  refine X.aload_n 1451 (zi316 1450) rfl rfl rfl ?_
  refine X.iload_n 1452 (zi316 1451) rfl rfl rfl ?_
  refine X.iconst 1453 (zi316 1452) rfl rfl (by decide) ?_
  refine X.iadd 1454 (zi316 1453) rfl rfl (by omega) ?_
  refine X.rald 1455 (zi316 1454) rfl rfl (by decide) (by show 0 ≤ _ ∧ _ < ((s.1 : Nat) : Int); omega) (fun h6 => ?_)
  refine X.callv 1458 [zi (z_ro (EE s) 0 (y + 1))] [] [(0, zr 4 44), (1, zi (z_ro (EE s) 0 (y + 1)))] (zi316 1455) rfl (by decide) rfl rfl (by omega) rfl rfl (by decide) rfl t310 (Nat.le_of_ble_eq_true rfl) (Nat.le_of_ble_eq_true rfl) rfl ?_
  refine c310_1 (S := zS0) (m0 := m) (B := B) (z_ro (EE s) 0 (y + 1)) (by omega) (J.rf hJ) (by omega) (by omega) (fun v7 hv7 hF10 => ?_)
  show X (EE s) d 316 1458 [(0, zr 99 0), (1, zr 4 40), (2, zr 4 44), (3, zi y)] [zl v7] m _
  refine X.pop2 1459 (zi316 1458) rfl rfl ?_
  refine X.goto 1656 (zi316 1459) rfl rfl ?_
  exact K _ (hJ.up (by omega)) (hR.up (by omega))
theorem lw41 {s : Nat × (Nat → Int32)} {m : zM} {B : Int} {d : Nat} {Q : Option zV → zM → Prop} (y : Int) (hd : 200 ≤ d) (hJ : JB B m) (hR : Rel3 B m m) (hB : B + 220000 ≤ 700000000) (hy : 0 ≤ y ∧ y + 6 ≤ (s.1 : Int)) (hs : s.1 ≤ 3072) (K : ∀ (m' : zM), JB (B + 220000) m' → Rel3 (B + 220000) m' m' → X (EE s) d 316 1656 [(0, zr 99 0), (1, zr 4 40), (2, zr 4 44), (3, zi y)] [] m' Q) : X (EE s) d 316 1462 [(0, zr 99 0), (1, zr 4 40), (2, zr 4 44), (3, zi y)] [] m Q := by
  refine X.mok (fun hk => ?_)
  refine X.aload_n 1463 (zi316 1462) rfl rfl rfl ?_
  refine X.aload_n 1464 (zi316 1463) rfl rfl rfl ?_
  refine X.iload_n 1465 (zi316 1464) rfl rfl rfl ?_
  refine X.iconst 1466 (zi316 1465) rfl rfl (by decide) ?_
  refine X.iadd 1467 (zi316 1466) rfl rfl (by omega) ?_
  refine X.rald 1468 (zi316 1467) rfl rfl (by decide) (by show 0 ≤ _ ∧ _ < ((s.1 : Nat) : Int); omega) (fun h1 => ?_)
  refine X.aload_n 1469 (zi316 1468) rfl rfl rfl ?_
  refine X.iload_n 1470 (zi316 1469) rfl rfl rfl ?_
  refine X.iconst 1471 (zi316 1470) rfl rfl (by decide) ?_
  refine X.iadd 1472 (zi316 1471) rfl rfl (by omega) ?_
  refine X.rald 1473 (zi316 1472) rfl rfl (by decide) (by show 0 ≤ _ ∧ _ < ((s.1 : Nat) : Int); omega) (fun h2 => ?_)
  refine X.callv 1476 [zi (z_ro (EE s) 0 (y + 1)), zi (z_ro (EE s) 0 (y + 2))] [] [(0, zr 4 40), (1, zi (z_ro (EE s) 0 (y + 1))), (2, zi (z_ro (EE s) 0 (y + 2)))] (zi316 1473) rfl (by decide) rfl rfl (by omega) rfl rfl (by decide) rfl t187 (Nat.le_of_ble_eq_true rfl) (Nat.le_of_ble_eq_true rfl) rfl ?_
  refine c187_1 (S := zS0) (m0 := m) (B := B) (z_ro (EE s) 0 (y + 1)) (z_ro (EE s) 0 (y + 2)) (by omega) (J.rf hJ) (by omega) (by omega) (by omega) (fun v3 hv3 hF6 => ?_)
  show X (EE s) d 316 1476 [(0, zr 99 0), (1, zr 4 40), (2, zr 4 44), (3, zi y)] [zl v3] m _
  refine X.pop2 1477 (zi316 1476) rfl rfl ?_
  refine X.aload_n 1478 (zi316 1477) rfl rfl rfl ?_
  refine X.aload_n 1479 (zi316 1478) rfl rfl rfl ?_
  refine X.iload_n 1480 (zi316 1479) rfl rfl rfl ?_
  refine X.iconst 1481 (zi316 1480) rfl rfl (by decide) ?_
  refine X.iadd 1482 (zi316 1481) rfl rfl (by omega) ?_
  refine X.rald 1483 (zi316 1482) rfl rfl (by decide) (by show 0 ≤ _ ∧ _ < ((s.1 : Nat) : Int); omega) (fun h7 => ?_)
  refine X.aload_n 1484 (zi316 1483) rfl rfl rfl ?_
  refine X.iload_n 1485 (zi316 1484) rfl rfl rfl ?_
  refine X.iconst 1486 (zi316 1485) rfl rfl (by decide) ?_
  refine X.iadd 1487 (zi316 1486) rfl rfl (by omega) ?_
  refine X.rald 1488 (zi316 1487) rfl rfl (by decide) (by show 0 ≤ _ ∧ _ < ((s.1 : Nat) : Int); omega) (fun h8 => ?_)
  refine X.callv 1491 [zi (z_ro (EE s) 0 (y + 1)), zi (z_ro (EE s) 0 (y + 2))] [] [(0, zr 4 44), (1, zi (z_ro (EE s) 0 (y + 1))), (2, zi (z_ro (EE s) 0 (y + 2)))] (zi316 1488) rfl (by decide) rfl rfl (by omega) rfl rfl (by decide) rfl t311 (Nat.le_of_ble_eq_true rfl) (Nat.le_of_ble_eq_true rfl) rfl ?_
  refine c311_1 (S := zS0) (m0 := m) (B := B) (z_ro (EE s) 0 (y + 1)) (z_ro (EE s) 0 (y + 2)) (by omega) (J.rf hJ) (by omega) (by omega) (by omega) (fun v9 hv9 hF12 => ?_)
  show X (EE s) d 316 1491 [(0, zr 99 0), (1, zr 4 40), (2, zr 4 44), (3, zi y)] [zl v9] m _
  refine X.pop2 1492 (zi316 1491) rfl rfl ?_
  refine X.goto 1656 (zi316 1492) rfl rfl ?_
  exact K _ (hJ.up (by omega)) (hR.up (by omega))
theorem lw42 {s : Nat × (Nat → Int32)} {m : zM} {B : Int} {d : Nat} {Q : Option zV → zM → Prop} (y : Int) (hd : 200 ≤ d) (hJ : JB B m) (hR : Rel3 B m m) (hB : B + 220000 ≤ 700000000) (hy : 0 ≤ y ∧ y + 6 ≤ (s.1 : Int)) (hs : s.1 ≤ 3072) (K : ∀ (m' : zM), JB (B + 220000) m' → Rel3 (B + 220000) m' m' → X (EE s) d 316 1656 [(0, zr 99 0), (1, zr 4 40), (2, zr 4 44), (3, zi y)] [] m' Q) : X (EE s) d 316 1495 [(0, zr 99 0), (1, zr 4 40), (2, zr 4 44), (3, zi y)] [] m Q := by
  refine X.mok (fun hk => ?_)
  refine X.aload_n 1496 (zi316 1495) rfl rfl rfl ?_
  refine X.aload_n 1497 (zi316 1496) rfl rfl rfl ?_
  refine X.iload_n 1498 (zi316 1497) rfl rfl rfl ?_
  refine X.iconst 1499 (zi316 1498) rfl rfl (by decide) ?_
  refine X.iadd 1500 (zi316 1499) rfl rfl (by omega) ?_
  refine X.rald 1501 (zi316 1500) rfl rfl (by decide) (by show 0 ≤ _ ∧ _ < ((s.1 : Nat) : Int); omega) (fun h1 => ?_)
  refine X.aload_n 1502 (zi316 1501) rfl rfl rfl ?_
  refine X.iload_n 1503 (zi316 1502) rfl rfl rfl ?_
  refine X.iconst 1504 (zi316 1503) rfl rfl (by decide) ?_
  refine X.iadd 1505 (zi316 1504) rfl rfl (by omega) ?_
  refine X.rald 1506 (zi316 1505) rfl rfl (by decide) (by show 0 ≤ _ ∧ _ < ((s.1 : Nat) : Int); omega) (fun h2 => ?_)
  refine X.callv 1509 [zi (z_ro (EE s) 0 (y + 1)), zi (z_ro (EE s) 0 (y + 2))] [] [(0, zr 4 40), (1, zi (z_ro (EE s) 0 (y + 1))), (2, zi (z_ro (EE s) 0 (y + 2)))] (zi316 1506) rfl (by decide) rfl rfl (by omega) rfl rfl (by decide) rfl t189 (Nat.le_of_ble_eq_true rfl) (Nat.le_of_ble_eq_true rfl) rfl ?_
  refine c189_1 (S := zS0) (m0 := m) (B := B) (z_ro (EE s) 0 (y + 1)) (z_ro (EE s) 0 (y + 2)) (by omega) (J.rf hJ) (by omega) (by omega) (by omega) (fun v3 hv3 hF6 => ?_)
  show X (EE s) d 316 1509 [(0, zr 99 0), (1, zr 4 40), (2, zr 4 44), (3, zi y)] [zl v3] m _
  refine X.pop2 1510 (zi316 1509) rfl rfl ?_
  refine X.aload_n 1511 (zi316 1510) rfl rfl rfl ?_
  refine X.aload_n 1512 (zi316 1511) rfl rfl rfl ?_
  refine X.iload_n 1513 (zi316 1512) rfl rfl rfl ?_
  refine X.iconst 1514 (zi316 1513) rfl rfl (by decide) ?_
  refine X.iadd 1515 (zi316 1514) rfl rfl (by omega) ?_
  refine X.rald 1516 (zi316 1515) rfl rfl (by decide) (by show 0 ≤ _ ∧ _ < ((s.1 : Nat) : Int); omega) (fun h7 => ?_)
  refine X.aload_n 1517 (zi316 1516) rfl rfl rfl ?_
  refine X.iload_n 1518 (zi316 1517) rfl rfl rfl ?_
  refine X.iconst 1519 (zi316 1518) rfl rfl (by decide) ?_
  refine X.iadd 1520 (zi316 1519) rfl rfl (by omega) ?_
  refine X.rald 1521 (zi316 1520) rfl rfl (by decide) (by show 0 ≤ _ ∧ _ < ((s.1 : Nat) : Int); omega) (fun h8 => ?_)
  refine X.callv 1524 [zi (z_ro (EE s) 0 (y + 1)), zi (z_ro (EE s) 0 (y + 2))] [] [(0, zr 4 44), (1, zi (z_ro (EE s) 0 (y + 1))), (2, zi (z_ro (EE s) 0 (y + 2)))] (zi316 1521) rfl (by decide) rfl rfl (by omega) rfl rfl (by decide) rfl t312 (Nat.le_of_ble_eq_true rfl) (Nat.le_of_ble_eq_true rfl) rfl ?_
  refine c312_1 (S := zS0) (m0 := m) (B := B) (z_ro (EE s) 0 (y + 1)) (z_ro (EE s) 0 (y + 2)) (by omega) (J.rf hJ) (by omega) (by omega) (by omega) (fun v9 hv9 hF12 => ?_)
  show X (EE s) d 316 1524 [(0, zr 99 0), (1, zr 4 40), (2, zr 4 44), (3, zi y)] [zl v9] m _
  refine X.pop2 1525 (zi316 1524) rfl rfl ?_
  refine X.goto 1656 (zi316 1525) rfl rfl ?_
  exact K _ (hJ.up (by omega)) (hR.up (by omega))
theorem lw43 {s : Nat × (Nat → Int32)} {m : zM} {B : Int} {d : Nat} {Q : Option zV → zM → Prop} (y : Int) (hd : 200 ≤ d) (hJ : JB B m) (hR : Rel3 B m m) (hB : B + 220000 ≤ 700000000) (hy : 0 ≤ y ∧ y + 6 ≤ (s.1 : Int)) (hs : s.1 ≤ 3072) (K : ∀ (m' : zM), JB (B + 220000) m' → Rel3 (B + 220000) m' m' → X (EE s) d 316 1656 [(0, zr 99 0), (1, zr 4 40), (2, zr 4 44), (3, zi y)] [] m' Q) : X (EE s) d 316 1528 [(0, zr 99 0), (1, zr 4 40), (2, zr 4 44), (3, zi y)] [] m Q := by
  refine X.mok (fun hk => ?_)
  refine X.aload_n 1529 (zi316 1528) rfl rfl rfl ?_
  refine X.aload_n 1530 (zi316 1529) rfl rfl rfl ?_
  refine X.iload_n 1531 (zi316 1530) rfl rfl rfl ?_
  refine X.iconst 1532 (zi316 1531) rfl rfl (by decide) ?_
  refine X.iadd 1533 (zi316 1532) rfl rfl (by omega) ?_
  refine X.rald 1534 (zi316 1533) rfl rfl (by decide) (by show 0 ≤ _ ∧ _ < ((s.1 : Nat) : Int); omega) (fun h1 => ?_)
  refine X.aload_n 1535 (zi316 1534) rfl rfl rfl ?_
  refine X.iload_n 1536 (zi316 1535) rfl rfl rfl ?_
  refine X.iconst 1537 (zi316 1536) rfl rfl (by decide) ?_
  refine X.iadd 1538 (zi316 1537) rfl rfl (by omega) ?_
  refine X.rald 1539 (zi316 1538) rfl rfl (by decide) (by show 0 ≤ _ ∧ _ < ((s.1 : Nat) : Int); omega) (fun h2 => ?_)
  refine X.callv 1542 [zi (z_ro (EE s) 0 (y + 1)), zi (z_ro (EE s) 0 (y + 2))] [] [(0, zr 4 40), (1, zi (z_ro (EE s) 0 (y + 1))), (2, zi (z_ro (EE s) 0 (y + 2)))] (zi316 1539) rfl (by decide) rfl rfl (by omega) rfl rfl (by decide) rfl t190 (Nat.le_of_ble_eq_true rfl) (Nat.le_of_ble_eq_true rfl) rfl ?_
  refine c190_1 (S := zS0) (m0 := m) (B := B) (z_ro (EE s) 0 (y + 1)) (z_ro (EE s) 0 (y + 2)) (by omega) (J.rf hJ) (by omega) (by omega) (by omega) (fun v3 hv3 hF6 => ?_)
  show X (EE s) d 316 1542 [(0, zr 99 0), (1, zr 4 40), (2, zr 4 44), (3, zi y)] [zi v3] m _
  refine X.pop 1543 (zi316 1542) rfl rfl rfl ?_
  refine X.aload_n 1544 (zi316 1543) rfl rfl rfl ?_
  refine X.aload_n 1545 (zi316 1544) rfl rfl rfl ?_
  refine X.iload_n 1546 (zi316 1545) rfl rfl rfl ?_
  refine X.iconst 1547 (zi316 1546) rfl rfl (by decide) ?_
  refine X.iadd 1548 (zi316 1547) rfl rfl (by omega) ?_
  refine X.rald 1549 (zi316 1548) rfl rfl (by decide) (by show 0 ≤ _ ∧ _ < ((s.1 : Nat) : Int); omega) (fun h7 => ?_)
  refine X.aload_n 1550 (zi316 1549) rfl rfl rfl ?_
  refine X.iload_n 1551 (zi316 1550) rfl rfl rfl ?_
  refine X.iconst 1552 (zi316 1551) rfl rfl (by decide) ?_
  refine X.iadd 1553 (zi316 1552) rfl rfl (by omega) ?_
  refine X.rald 1554 (zi316 1553) rfl rfl (by decide) (by show 0 ≤ _ ∧ _ < ((s.1 : Nat) : Int); omega) (fun h8 => ?_)
  refine X.callv 1557 [zi (z_ro (EE s) 0 (y + 1)), zi (z_ro (EE s) 0 (y + 2))] [] [(0, zr 4 44), (1, zi (z_ro (EE s) 0 (y + 1))), (2, zi (z_ro (EE s) 0 (y + 2)))] (zi316 1554) rfl (by decide) rfl rfl (by omega) rfl rfl (by decide) rfl t313 (Nat.le_of_ble_eq_true rfl) (Nat.le_of_ble_eq_true rfl) rfl ?_
  refine c313_1 (S := zS0) (m0 := m) (B := B) (z_ro (EE s) 0 (y + 1)) (z_ro (EE s) 0 (y + 2)) (by omega) (J.rf hJ) (by omega) (by omega) (by omega) (fun v9 hv9 hF12 => ?_)
  show X (EE s) d 316 1557 [(0, zr 99 0), (1, zr 4 40), (2, zr 4 44), (3, zi y)] [zi v9] m _
  refine X.pop 1558 (zi316 1557) rfl rfl rfl ?_
  refine X.goto 1656 (zi316 1558) rfl rfl ?_
  exact K _ (hJ.up (by omega)) (hR.up (by omega))
theorem lw44 {s : Nat × (Nat → Int32)} {m : zM} {B : Int} {d : Nat} {Q : Option zV → zM → Prop} (y : Int) (hd : 200 ≤ d) (hJ : JB B m) (hR : Rel3 B m m) (hB : B + 220000 ≤ 700000000) (hy : 0 ≤ y ∧ y + 6 ≤ (s.1 : Int)) (hs : s.1 ≤ 3072) (K : ∀ (m' : zM), JB (B + 220000) m' → Rel3 (B + 220000) m' m' → X (EE s) d 316 1656 [(0, zr 99 0), (1, zr 4 40), (2, zr 4 44), (3, zi y)] [] m' Q) : X (EE s) d 316 1561 [(0, zr 99 0), (1, zr 4 40), (2, zr 4 44), (3, zi y)] [] m Q := by
  refine X.mok (fun hk => ?_)
  refine X.aload_n 1562 (zi316 1561) rfl rfl rfl ?_
  refine X.aload_n 1563 (zi316 1562) rfl rfl rfl ?_
  refine X.iload_n 1564 (zi316 1563) rfl rfl rfl ?_
  refine X.iconst 1565 (zi316 1564) rfl rfl (by decide) ?_
  refine X.iadd 1566 (zi316 1565) rfl rfl (by omega) ?_
  refine X.rald 1567 (zi316 1566) rfl rfl (by decide) (by show 0 ≤ _ ∧ _ < ((s.1 : Nat) : Int); omega) (fun h1 => ?_)
  refine X.aload_n 1568 (zi316 1567) rfl rfl rfl ?_
  refine X.iload_n 1569 (zi316 1568) rfl rfl rfl ?_
  refine X.iconst 1570 (zi316 1569) rfl rfl (by decide) ?_
  refine X.iadd 1571 (zi316 1570) rfl rfl (by omega) ?_
  refine X.rald 1572 (zi316 1571) rfl rfl (by decide) (by show 0 ≤ _ ∧ _ < ((s.1 : Nat) : Int); omega) (fun h2 => ?_)
  refine X.callv 1575 [zi (z_ro (EE s) 0 (y + 1)), zi (z_ro (EE s) 0 (y + 2))] [] [(0, zr 4 40), (1, zi (z_ro (EE s) 0 (y + 1))), (2, zi (z_ro (EE s) 0 (y + 2)))] (zi316 1572) rfl (by decide) rfl rfl (by omega) rfl rfl (by decide) rfl t193 (Nat.le_of_ble_eq_true rfl) (Nat.le_of_ble_eq_true rfl) rfl ?_
  refine c193_1 (S := zS0) (m0 := m) (B := B) (z_ro (EE s) 0 (y + 1)) (z_ro (EE s) 0 (y + 2)) (by omega) (J.rf hJ) (by omega) (by omega) (by omega) (fun v3 hv3 hF6 => ?_)
  show X (EE s) d 316 1575 [(0, zr 99 0), (1, zr 4 40), (2, zr 4 44), (3, zi y)] [zi v3] m _
  refine X.pop 1576 (zi316 1575) rfl rfl rfl ?_
  refine X.aload_n 1577 (zi316 1576) rfl rfl rfl ?_
  refine X.aload_n 1578 (zi316 1577) rfl rfl rfl ?_
  refine X.iload_n 1579 (zi316 1578) rfl rfl rfl ?_
  refine X.iconst 1580 (zi316 1579) rfl rfl (by decide) ?_
  refine X.iadd 1581 (zi316 1580) rfl rfl (by omega) ?_
  refine X.rald 1582 (zi316 1581) rfl rfl (by decide) (by show 0 ≤ _ ∧ _ < ((s.1 : Nat) : Int); omega) (fun h7 => ?_)
  refine X.aload_n 1583 (zi316 1582) rfl rfl rfl ?_
  refine X.iload_n 1584 (zi316 1583) rfl rfl rfl ?_
  refine X.iconst 1585 (zi316 1584) rfl rfl (by decide) ?_
  refine X.iadd 1586 (zi316 1585) rfl rfl (by omega) ?_
  refine X.rald 1587 (zi316 1586) rfl rfl (by decide) (by show 0 ≤ _ ∧ _ < ((s.1 : Nat) : Int); omega) (fun h8 => ?_)
  refine X.callv 1590 [zi (z_ro (EE s) 0 (y + 1)), zi (z_ro (EE s) 0 (y + 2))] [] [(0, zr 4 44), (1, zi (z_ro (EE s) 0 (y + 1))), (2, zi (z_ro (EE s) 0 (y + 2)))] (zi316 1587) rfl (by decide) rfl rfl (by omega) rfl rfl (by decide) rfl t253 (Nat.le_of_ble_eq_true rfl) (Nat.le_of_ble_eq_true rfl) rfl ?_
  refine c253_1 (S := zS0) (m0 := m) (B := B) (z_ro (EE s) 0 (y + 1)) (z_ro (EE s) 0 (y + 2)) (by omega) (J.rf hJ) (by omega) (by omega) (by omega) (fun v9 hv9 hF12 => ?_)
  show X (EE s) d 316 1590 [(0, zr 99 0), (1, zr 4 40), (2, zr 4 44), (3, zi y)] [zi v9] m _
  refine X.pop 1591 (zi316 1590) rfl rfl rfl ?_
  refine X.goto 1656 (zi316 1591) rfl rfl ?_
  exact K _ (hJ.up (by omega)) (hR.up (by omega))
theorem lw45 {s : Nat × (Nat → Int32)} {m : zM} {B : Int} {d : Nat} {Q : Option zV → zM → Prop} (y : Int) (hd : 200 ≤ d) (hJ : JB B m) (hR : Rel3 B m m) (hB : B + 220000 ≤ 700000000) (hy : 0 ≤ y ∧ y + 6 ≤ (s.1 : Int)) (hs : s.1 ≤ 3072) (K : ∀ (m' : zM), JB (B + 220000) m' → Rel3 (B + 220000) m' m' → X (EE s) d 316 1656 [(0, zr 99 0), (1, zr 4 40), (2, zr 4 44), (3, zi y)] [] m' Q) : X (EE s) d 316 1594 [(0, zr 99 0), (1, zr 4 40), (2, zr 4 44), (3, zi y)] [] m Q := by
  refine X.mok (fun hk => ?_)
  refine X.aload_n 1595 (zi316 1594) rfl rfl rfl ?_
  refine X.aload_n 1596 (zi316 1595) rfl rfl rfl ?_
  refine X.iload_n 1597 (zi316 1596) rfl rfl rfl ?_
  refine X.iconst 1598 (zi316 1597) rfl rfl (by decide) ?_
  refine X.iadd 1599 (zi316 1598) rfl rfl (by omega) ?_
  refine X.rald 1600 (zi316 1599) rfl rfl (by decide) (by show 0 ≤ _ ∧ _ < ((s.1 : Nat) : Int); omega) (fun h1 => ?_)
  refine X.ifeq 1607 1603 (zi316 1600) rfl rfl rfl (fun h2 => ?_) (fun h2 => ?_)
  · refine X.iconst 1608 (zi316 1607) rfl rfl (by decide) ?_
    refine X.callv 1611 [zi 0] [] [(0, zr 4 40), (1, zi 0)] (zi316 1608) rfl (by decide) rfl rfl (by omega) rfl rfl (by decide) rfl t195 (Nat.le_of_ble_eq_true rfl) (Nat.le_of_ble_eq_true rfl) rfl ?_
    refine c195_1 (S := zS0) (m0 := m) (B := B) 0 (by omega) (J.rf hJ) (by omega) (by omega) (fun h => h) (fun h => h) (fun h => h) (fun h => h) (fun h => h) (fun h => h) (fun h => h) (fun h => h) (fun h => h) (fun h => h) (fun h => h) (fun h => h) (fun h => h) (fun h => h) (fun h => h) (fun h => h) (fun h => h) (fun v3 m4 hv3 hF6 hJ5 => ?_)
    show X (EE s) d 316 1611 [(0, zr 99 0), (1, zr 4 40), (2, zr 4 44), (3, zi y)] [zi v3] m4 _
    refine X.pop 1612 (zi316 1611) rfl rfl rfl ?_
    refine X.aload_n 1613 (zi316 1612) rfl rfl rfl ?_
    refine X.aload_n 1614 (zi316 1613) rfl rfl rfl ?_
    refine X.iload_n 1615 (zi316 1614) rfl rfl rfl ?_
    refine X.iconst 1616 (zi316 1615) rfl rfl (by decide) ?_
    refine X.iadd 1617 (zi316 1616) rfl rfl (by omega) ?_
    refine X.rald 1618 (zi316 1617) rfl rfl (by decide) (by show 0 ≤ _ ∧ _ < ((s.1 : Nat) : Int); omega) (fun h7 => ?_)
    refine X.ifeq 1625 1621 (zi316 1618) rfl rfl rfl (fun h8 => ?_) (fun h8 => ?_)
    · refine X.iconst 1626 (zi316 1625) rfl rfl (by decide) ?_
      refine X.callv 1629 [zi 0] [] [(0, zr 4 44), (1, zi 0)] (zi316 1626) rfl (by decide) rfl rfl (by omega) rfl rfl (by decide) rfl t314 (Nat.le_of_ble_eq_true rfl) (Nat.le_of_ble_eq_true rfl) rfl ?_
      refine c314_1 (S := zS0) (m0 := m4) (B := B + 4) 0 (by omega) (J.rf hJ5.jb0) (by omega) (by omega) (fun h => h) (fun h => h) (fun h => h) (fun h => h) (fun h => h) (fun h => h) (fun h => h) (fun h => h) (fun h => h) (fun h => h) (fun h => h) (fun h => h) (fun h => h) (fun h => h) (fun h => h) (fun h => h) (fun v9 m10 hv9 hF12 hJ11 => ?_)
      show X (EE s) d 316 1629 [(0, zr 99 0), (1, zr 4 40), (2, zr 4 44), (3, zi y)] [zi v9] m10 _
      refine X.pop 1630 (zi316 1629) rfl rfl rfl ?_
      refine X.goto 1656 (zi316 1630) rfl rfl ?_
      exact K _ (hJ11.jb0.up (by omega)) (st3_image (by omega) hk hJ (by omega) hR hF6 hF12).2
    · exfalso
      omega
  · refine X.iconst 1604 (zi316 1603) rfl rfl (by decide) ?_
    refine X.goto 1608 (zi316 1604) rfl rfl ?_
    refine X.callv 1611 [zi 1] [] [(0, zr 4 40), (1, zi 1)] (zi316 1608) rfl (by decide) rfl rfl (by omega) rfl rfl (by decide) rfl t195 (Nat.le_of_ble_eq_true rfl) (Nat.le_of_ble_eq_true rfl) rfl ?_
    refine c195_1 (S := zS0) (m0 := m) (B := B) 1 (by omega) (J.rf hJ) (by omega) (by omega) (fun h => h) (fun h => h) (fun h => h) (fun h => h) (fun h => h) (fun h => h) (fun h => h) (fun h => h) (fun h => h) (fun h => h) (fun h => h) (fun h => h) (fun h => h) (fun h => h) (fun h => h) (fun h => h) (fun h => h) (fun v13 m14 hv13 hF16 hJ15 => ?_)
    show X (EE s) d 316 1611 [(0, zr 99 0), (1, zr 4 40), (2, zr 4 44), (3, zi y)] [zi v13] m14 _
    refine X.pop 1612 (zi316 1611) rfl rfl rfl ?_
    refine X.aload_n 1613 (zi316 1612) rfl rfl rfl ?_
    refine X.aload_n 1614 (zi316 1613) rfl rfl rfl ?_
    refine X.iload_n 1615 (zi316 1614) rfl rfl rfl ?_
    refine X.iconst 1616 (zi316 1615) rfl rfl (by decide) ?_
    refine X.iadd 1617 (zi316 1616) rfl rfl (by omega) ?_
    refine X.rald 1618 (zi316 1617) rfl rfl (by decide) (by show 0 ≤ _ ∧ _ < ((s.1 : Nat) : Int); omega) (fun h17 => ?_)
    refine X.ifeq 1625 1621 (zi316 1618) rfl rfl rfl (fun h18 => ?_) (fun h18 => ?_)
    · exfalso
      omega
    · refine X.iconst 1622 (zi316 1621) rfl rfl (by decide) ?_
      refine X.goto 1626 (zi316 1622) rfl rfl ?_
      refine X.callv 1629 [zi 1] [] [(0, zr 4 44), (1, zi 1)] (zi316 1626) rfl (by decide) rfl rfl (by omega) rfl rfl (by decide) rfl t314 (Nat.le_of_ble_eq_true rfl) (Nat.le_of_ble_eq_true rfl) rfl ?_
      refine c314_1 (S := zS0) (m0 := m14) (B := B + 4) 1 (by omega) (J.rf hJ15.jb0) (by omega) (by omega) (fun h => h) (fun h => h) (fun h => h) (fun h => h) (fun h => h) (fun h => h) (fun h => h) (fun h => h) (fun h => h) (fun h => h) (fun h => h) (fun h => h) (fun h => h) (fun h => h) (fun h => h) (fun h => h) (fun v19 m20 hv19 hF22 hJ21 => ?_)
      show X (EE s) d 316 1629 [(0, zr 99 0), (1, zr 4 40), (2, zr 4 44), (3, zi y)] [zi v19] m20 _
      refine X.pop 1630 (zi316 1629) rfl rfl rfl ?_
      refine X.goto 1656 (zi316 1630) rfl rfl ?_
      exact K _ (hJ21.jb0.up (by omega)) (st3_image (by omega) hk hJ (by omega) hR hF16 hF22).2
theorem lw46 {s : Nat × (Nat → Int32)} {m : zM} {B : Int} {d : Nat} {Q : Option zV → zM → Prop} (y : Int) (hd : 200 ≤ d) (hJ : JB B m) (hR : Rel3 B m m) (hB : B + 220000 ≤ 700000000) (hy : 0 ≤ y ∧ y + 6 ≤ (s.1 : Int)) (hs : s.1 ≤ 3072) (K : ∀ (m' : zM), JB (B + 220000) m' → Rel3 (B + 220000) m' m' → X (EE s) d 316 1656 [(0, zr 99 0), (1, zr 4 40), (2, zr 4 44), (3, zi y)] [] m' Q) : X (EE s) d 316 1633 [(0, zr 99 0), (1, zr 4 40), (2, zr 4 44), (3, zi y)] [] m Q := by
  refine X.mok (fun hk => ?_)
  refine X.aload_n 1634 (zi316 1633) rfl rfl rfl ?_
  refine X.aload_n 1635 (zi316 1634) rfl rfl rfl ?_
  refine X.iload_n 1636 (zi316 1635) rfl rfl rfl ?_
  refine X.iconst 1637 (zi316 1636) rfl rfl (by decide) ?_
  refine X.iadd 1638 (zi316 1637) rfl rfl (by omega) ?_
  refine X.rald 1639 (zi316 1638) rfl rfl (by decide) (by show 0 ≤ _ ∧ _ < ((s.1 : Nat) : Int); omega) (fun h1 => ?_)
  refine X.callv 1642 [zi (z_ro (EE s) 0 (y + 1))] [] [(0, zr 4 40), (1, zi (z_ro (EE s) 0 (y + 1)))] (zi316 1639) rfl (by decide) rfl rfl (by omega) rfl rfl (by decide) rfl t196 (Nat.le_of_ble_eq_true rfl) (Nat.le_of_ble_eq_true rfl) rfl ?_
  refine c196_1 (S := zS0) (m0 := m) (B := B) (z_ro (EE s) 0 (y + 1)) (by omega) (J.rf hJ) (by omega) (by omega) (fun v2 hv2 hF5 => ?_)
  show X (EE s) d 316 1642 [(0, zr 99 0), (1, zr 4 40), (2, zr 4 44), (3, zi y)] [zl v2] m _
  refine X.pop2 1643 (zi316 1642) rfl rfl ?_
  refine X.aload_n 1644 (zi316 1643) rfl rfl rfl ?_
  refine X.aload_n 1645 (zi316 1644) rfl rfl rfl ?_
  refine X.iload_n 1646 (zi316 1645) rfl rfl rfl ?_
  refine X.iconst 1647 (zi316 1646) rfl rfl (by decide) ?_
  refine X.iadd 1648 (zi316 1647) rfl rfl (by omega) ?_
  refine X.rald 1649 (zi316 1648) rfl rfl (by decide) (by show 0 ≤ _ ∧ _ < ((s.1 : Nat) : Int); omega) (fun h6 => ?_)
  refine X.callv 1652 [zi (z_ro (EE s) 0 (y + 1))] [] [(0, zr 4 44), (1, zi (z_ro (EE s) 0 (y + 1)))] (zi316 1649) rfl (by decide) rfl rfl (by omega) rfl rfl (by decide) rfl t315 (Nat.le_of_ble_eq_true rfl) (Nat.le_of_ble_eq_true rfl) rfl ?_
  refine c315_1 (S := zS0) (m0 := m) (B := B) (z_ro (EE s) 0 (y + 1)) (by omega) (J.rf hJ) (by omega) (by omega) (fun v7 hv7 hF10 => ?_)
  show X (EE s) d 316 1652 [(0, zr 99 0), (1, zr 4 40), (2, zr 4 44), (3, zi y)] [zl v7] m _
  refine X.pop2 1653 (zi316 1652) rfl rfl ?_
  refine X.goto 1656 (zi316 1653) rfl rfl ?_
  exact K _ (hJ.up (by omega)) (hR.up (by omega))
