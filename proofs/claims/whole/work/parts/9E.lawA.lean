/-! THE LAW, CASE BY CASE -/
theorem law_0 {nm : String} {l : Launch} {X : ZX} {p : Program} {e : Env} {s : State} {m : MethodId} {below : List Frame} {meth : Method} {c0 : Code} {b Len u i : Nat} {xs : Nat → Int32} {M : ZM} (B : pz_bd X (tL_law nm) p s m #[Value.ref b] meth c0) (hX : xs_at X s b Len xs) (hu : u ≤ 511) (hi : i + 6 ≤ Len) (hI : Inv M) (K : ∀ M', Inv M' → zX l X (tL_law nm) p e room_1 s m #[Value.ref b] below meth c0 (lw_Z below #[Value.ref b] s) (139 + u) (pz_ss 139 + 6 * u) 1638 [some (zr 4000), some (zr 0), some (zr 124), some (zr 138), some (zi (i : Int)), none, none] [] M') : zX l X (tL_law nm) p e room_1 s m #[Value.ref b] below meth c0 (lw_Z below #[Value.ref b] s) (139 + u) (pz_ss 139 + 6 * u) 260 [some (zr 4000), some (zr 0), some (zr 124), some (zr 138), some (zi (i : Int)), none, none] [] M := by
  have hk : 139 + u ≤ room_1.cells ∧ pz_ss 139 + 6 * u ≤ room_1.slots := law_hk hu
  refine x_aload_n B 261 dL_law_260 rfl rfl (by decide) ?_
  refine x_aload_n B 262 dL_law_261 rfl rfl (by decide) ?_
  refine x_iload B 264 dL_law_262 rfl ?_
  refine x_iconst B 265 dL_law_264 ?_
  refine x_iadd B 266 dL_law_265 ?_
  refine x_sld B hX 267 (i + 1) dL_law_266 rfl (by omega) ?_
  refine x_aload_n B 268 dL_law_267 rfl rfl (by decide) ?_
  refine x_iload B 270 dL_law_268 rfl ?_
  refine x_iconst B 271 dL_law_270 ?_
  refine x_iadd B 272 dL_law_271 ?_
  refine x_sld B hX 273 (i + 2) dL_law_272 rfl (by omega) ?_
  refine x_aload_n B 274 dL_law_273 rfl rfl (by decide) ?_
  refine x_iload B 276 dL_law_274 rfl ?_
  refine x_iconst B 277 dL_law_276 ?_
  refine x_iadd B 278 dL_law_277 ?_
  refine x_sld B hX 279 (i + 3) dL_law_278 rfl (by omega) ?_
  refine x_aload_n B 280 dL_law_279 rfl rfl (by decide) ?_
  refine x_iload B 282 dL_law_280 rfl ?_
  refine x_iconst B 283 dL_law_282 ?_
  refine x_iadd B 284 dL_law_283 ?_
  refine x_sld B hX 285 (i + 4) dL_law_284 rfl (by omega) ?_
  refine x_aload_n B 286 dL_law_285 rfl rfl (by decide) ?_
  refine x_iload B 288 dL_law_286 rfl ?_
  refine x_iconst B 289 dL_law_288 ?_
  refine x_iadd B 290 dL_law_289 ?_
  refine x_sld B hX 291 (i + 5) dL_law_290 rfl (by omega) ?_
  refine x_callV5i B 0 294 dL_law_291 (c_feed hI.2.2 hI.1 (xs_lo _) (xs_hi _) (xs_lo _) (xs_hi _) (xs_lo _) (xs_hi _) (xs_lo _) (xs_hi _) (xs_lo _) (xs_hi _)) lk_L_19 mX11_feed rfl rfl hk ⟨by decide, by decide⟩ (Nat.le_of_ble_eq_true rfl) ?_
  intro a1 M1 h1
  have up : Up M M1 := h1.2.2
  have hW1 : zWm M1 := up.zWm hI.2.1
  have hF1 : WF M1 := up.wf hI.1
  refine x_aload_n B 295 dL_law_294 rfl rfl (by decide) ?_
  refine x_aload_n B 296 dL_law_295 rfl rfl (by decide) ?_
  refine x_iload B 298 dL_law_296 rfl ?_
  refine x_iconst B 299 dL_law_298 ?_
  refine x_iadd B 300 dL_law_299 ?_
  refine x_sld B hX 301 (i + 1) dL_law_300 rfl (by omega) ?_
  refine x_aload_n B 302 dL_law_301 rfl rfl (by decide) ?_
  refine x_iload B 304 dL_law_302 rfl ?_
  refine x_iconst B 305 dL_law_304 ?_
  refine x_iadd B 306 dL_law_305 ?_
  refine x_sld B hX 307 (i + 2) dL_law_306 rfl (by omega) ?_
  refine x_aload_n B 308 dL_law_307 rfl rfl (by decide) ?_
  refine x_iload B 310 dL_law_308 rfl ?_
  refine x_iconst B 311 dL_law_310 ?_
  refine x_iadd B 312 dL_law_311 ?_
  refine x_sld B hX 313 (i + 3) dL_law_312 rfl (by omega) ?_
  refine x_aload_n B 314 dL_law_313 rfl rfl (by decide) ?_
  refine x_iload B 316 dL_law_314 rfl ?_
  refine x_iconst B 317 dL_law_316 ?_
  refine x_iadd B 318 dL_law_317 ?_
  refine x_sld B hX 319 (i + 4) dL_law_318 rfl (by omega) ?_
  refine x_aload_n B 320 dL_law_319 rfl rfl (by decide) ?_
  refine x_iload B 322 dL_law_320 rfl ?_
  refine x_iconst B 323 dL_law_322 ?_
  refine x_iadd B 324 dL_law_323 ?_
  refine x_sld B hX 325 (i + 5) dL_law_324 rfl (by omega) ?_
  refine x_callV5i B 124 328 dL_law_325 (m_feed hW1 hF1 (xs_lo _) (xs_hi _) (xs_lo _) (xs_hi _) (xs_lo _) (xs_hi _) (xs_lo _) (xs_hi _) (xs_lo _) (xs_hi _)) lk_L_23 mX12_feed rfl rfl hk ⟨by decide, by decide⟩ (Nat.le_of_ble_eq_true rfl) ?_
  intro a2 M2 h2
  obtain ⟨hab, hI2⟩ := Inv.act (WF.feed hI.1 _ _ _ _ _) (up_feed up _ _ _ _ _) h1 h2
  refine x_eqI B 1638 dL_law_328 hab ?_
  exact K M2 hI2
theorem law_1 {nm : String} {l : Launch} {X : ZX} {p : Program} {e : Env} {s : State} {m : MethodId} {below : List Frame} {meth : Method} {c0 : Code} {b Len u i : Nat} {xs : Nat → Int32} {M : ZM} (B : pz_bd X (tL_law nm) p s m #[Value.ref b] meth c0) (hX : xs_at X s b Len xs) (hu : u ≤ 511) (hi : i + 6 ≤ Len) (hI : Inv M) (K : ∀ M', Inv M' → zX l X (tL_law nm) p e room_1 s m #[Value.ref b] below meth c0 (lw_Z below #[Value.ref b] s) (139 + u) (pz_ss 139 + 6 * u) 1638 [some (zr 4000), some (zr 0), some (zr 124), some (zr 138), some (zi (i : Int)), none, none] [] M') : zX l X (tL_law nm) p e room_1 s m #[Value.ref b] below meth c0 (lw_Z below #[Value.ref b] s) (139 + u) (pz_ss 139 + 6 * u) 333 [some (zr 4000), some (zr 0), some (zr 124), some (zr 138), some (zi (i : Int)), none, none] [] M := by
  have hk : 139 + u ≤ room_1.cells ∧ pz_ss 139 + 6 * u ≤ room_1.slots := law_hk hu
  refine x_aload_n B 334 dL_law_333 rfl rfl (by decide) ?_
  refine x_aload_n B 335 dL_law_334 rfl rfl (by decide) ?_
  refine x_iload B 337 dL_law_335 rfl ?_
  refine x_iconst B 338 dL_law_337 ?_
  refine x_iadd B 339 dL_law_338 ?_
  refine x_sld B hX 340 (i + 1) dL_law_339 rfl (by omega) ?_
  refine x_callV1i B 0 343 dL_law_340 (c_county hI.2.2 hI.1 (xs_lo _) (xs_hi _)) lk_L_24 mX11_county rfl rfl hk ⟨by decide, by decide⟩ (Nat.le_of_ble_eq_true rfl) ?_
  intro a1 M1 h1
  have up : Up M M1 := h1.2.2
  have hW1 : zWm M1 := up.zWm hI.2.1
  have hF1 : WF M1 := up.wf hI.1
  refine x_aload_n B 344 dL_law_343 rfl rfl (by decide) ?_
  refine x_aload_n B 345 dL_law_344 rfl rfl (by decide) ?_
  refine x_iload B 347 dL_law_345 rfl ?_
  refine x_iconst B 348 dL_law_347 ?_
  refine x_iadd B 349 dL_law_348 ?_
  refine x_sld B hX 350 (i + 1) dL_law_349 rfl (by omega) ?_
  refine x_callV1i B 124 353 dL_law_350 (m_county hW1 hF1 (xs_lo _) (xs_hi _)) lk_L_27 mX12_county rfl rfl hk ⟨by decide, by decide⟩ (Nat.le_of_ble_eq_true rfl) ?_
  intro a2 M2 h2
  obtain ⟨hab, hI2⟩ := Inv.act (WF.county hI.1 _) (up_county up _) h1 h2
  refine x_eqI B 1638 dL_law_353 hab ?_
  exact K M2 hI2
theorem law_2 {nm : String} {l : Launch} {X : ZX} {p : Program} {e : Env} {s : State} {m : MethodId} {below : List Frame} {meth : Method} {c0 : Code} {b Len u i : Nat} {xs : Nat → Int32} {M : ZM} (B : pz_bd X (tL_law nm) p s m #[Value.ref b] meth c0) (hX : xs_at X s b Len xs) (hu : u ≤ 511) (hi : i + 6 ≤ Len) (hI : Inv M) (K : ∀ M', Inv M' → zX l X (tL_law nm) p e room_1 s m #[Value.ref b] below meth c0 (lw_Z below #[Value.ref b] s) (139 + u) (pz_ss 139 + 6 * u) 1638 [some (zr 4000), some (zr 0), some (zr 124), some (zr 138), some (zi (i : Int)), none, none] [] M') : zX l X (tL_law nm) p e room_1 s m #[Value.ref b] below meth c0 (lw_Z below #[Value.ref b] s) (139 + u) (pz_ss 139 + 6 * u) 358 [some (zr 4000), some (zr 0), some (zr 124), some (zr 138), some (zi (i : Int)), none, none] [] M := by
  have hk : 139 + u ≤ room_1.cells ∧ pz_ss 139 + 6 * u ≤ room_1.slots := law_hk hu
  refine x_aload_n B 359 dL_law_358 rfl rfl (by decide) ?_
  refine x_callV0i B 0 362 dL_law_359 (c_fault hI.2.2 hI.1 ) lk_L_28 mX11_fault rfl rfl hk ⟨by decide, by decide⟩ (Nat.le_of_ble_eq_true rfl) ?_
  intro a1 M1 h1
  have up : Up M M1 := h1.2.2
  have hW1 : zWm M1 := up.zWm hI.2.1
  have hF1 : WF M1 := up.wf hI.1
  refine x_aload_n B 363 dL_law_362 rfl rfl (by decide) ?_
  refine x_callV0i B 124 366 dL_law_363 (m_fault hW1 hF1 ) lk_L_32 mX12_fault rfl rfl hk ⟨by decide, by decide⟩ (Nat.le_of_ble_eq_true rfl) ?_
  intro a2 M2 h2
  rw [up 124 (by decide)] at h2
  obtain ⟨hab, hI2⟩ := Inv.query hI ⟨hI.1.2.2.1.1, hI.1.2.2.1.2⟩ h1 h2
  refine x_eqI B 1638 dL_law_366 hab ?_
  exact K M2 hI2
theorem law_3 {nm : String} {l : Launch} {X : ZX} {p : Program} {e : Env} {s : State} {m : MethodId} {below : List Frame} {meth : Method} {c0 : Code} {b Len u i : Nat} {xs : Nat → Int32} {M : ZM} (B : pz_bd X (tL_law nm) p s m #[Value.ref b] meth c0) (hX : xs_at X s b Len xs) (hu : u ≤ 511) (hi : i + 6 ≤ Len) (hI : Inv M) (K : ∀ M', Inv M' → zX l X (tL_law nm) p e room_1 s m #[Value.ref b] below meth c0 (lw_Z below #[Value.ref b] s) (139 + u) (pz_ss 139 + 6 * u) 1638 [some (zr 4000), some (zr 0), some (zr 124), some (zr 138), some (zi (i : Int)), none, none] [] M') : zX l X (tL_law nm) p e room_1 s m #[Value.ref b] below meth c0 (lw_Z below #[Value.ref b] s) (139 + u) (pz_ss 139 + 6 * u) 371 [some (zr 4000), some (zr 0), some (zr 124), some (zr 138), some (zi (i : Int)), none, none] [] M := by
  have hk : 139 + u ≤ room_1.cells ∧ pz_ss 139 + 6 * u ≤ room_1.slots := law_hk hu
  refine x_aload_n B 372 dL_law_371 rfl rfl (by decide) ?_
  refine x_callV0i B 0 375 dL_law_372 (c_where hI.2.2 hI.1 ) lk_L_33 mX11_where rfl rfl hk ⟨by decide, by decide⟩ (Nat.le_of_ble_eq_true rfl) ?_
  intro a1 M1 h1
  have up : Up M M1 := h1.2.2
  have hW1 : zWm M1 := up.zWm hI.2.1
  have hF1 : WF M1 := up.wf hI.1
  refine x_aload_n B 376 dL_law_375 rfl rfl (by decide) ?_
  refine x_callV0i B 124 379 dL_law_376 (m_where hW1 hF1 ) lk_L_36 mX12_where rfl rfl hk ⟨by decide, by decide⟩ (Nat.le_of_ble_eq_true rfl) ?_
  intro a2 M2 h2
  rw [up 124 (by decide)] at h2
  obtain ⟨hab, hI2⟩ := Inv.query hI ⟨hI.1.2.2.1.1, hI.1.2.2.1.2⟩ h1 h2
  refine x_eqI B 1638 dL_law_379 hab ?_
  exact K M2 hI2
theorem law_4 {nm : String} {l : Launch} {X : ZX} {p : Program} {e : Env} {s : State} {m : MethodId} {below : List Frame} {meth : Method} {c0 : Code} {b Len u i : Nat} {xs : Nat → Int32} {M : ZM} (B : pz_bd X (tL_law nm) p s m #[Value.ref b] meth c0) (hX : xs_at X s b Len xs) (hu : u ≤ 511) (hi : i + 6 ≤ Len) (hI : Inv M) (K : ∀ M', Inv M' → zX l X (tL_law nm) p e room_1 s m #[Value.ref b] below meth c0 (lw_Z below #[Value.ref b] s) (139 + u) (pz_ss 139 + 6 * u) 1638 [some (zr 4000), some (zr 0), some (zr 124), some (zr 138), some (zi (i : Int)), none, none] [] M') : zX l X (tL_law nm) p e room_1 s m #[Value.ref b] below meth c0 (lw_Z below #[Value.ref b] s) (139 + u) (pz_ss 139 + 6 * u) 384 [some (zr 4000), some (zr 0), some (zr 124), some (zr 138), some (zi (i : Int)), none, none] [] M := by
  have hk : 139 + u ≤ room_1.cells ∧ pz_ss 139 + 6 * u ≤ room_1.slots := law_hk hu
  refine x_aload_n B 385 dL_law_384 rfl rfl (by decide) ?_
  refine x_aload_n B 386 dL_law_385 rfl rfl (by decide) ?_
  refine x_iload B 388 dL_law_386 rfl ?_
  refine x_iconst B 389 dL_law_388 ?_
  refine x_iadd B 390 dL_law_389 ?_
  refine x_sld B hX 391 (i + 1) dL_law_390 rfl (by omega) ?_
  refine x_callV1i B 0 394 dL_law_391 (c_counts hI.2.2 hI.1 (xs_lo _) (xs_hi _)) lk_L_37 mX11_counts rfl rfl hk ⟨by decide, by decide⟩ (Nat.le_of_ble_eq_true rfl) ?_
  intro a1 M1 h1
  have up : Up M M1 := h1.2.2
  have hW1 : zWm M1 := up.zWm hI.2.1
  have hF1 : WF M1 := up.wf hI.1
  refine x_aload_n B 395 dL_law_394 rfl rfl (by decide) ?_
  refine x_aload_n B 396 dL_law_395 rfl rfl (by decide) ?_
  refine x_iload B 398 dL_law_396 rfl ?_
  refine x_iconst B 399 dL_law_398 ?_
  refine x_iadd B 400 dL_law_399 ?_
  refine x_sld B hX 401 (i + 1) dL_law_400 rfl (by omega) ?_
  refine x_callV1i B 124 404 dL_law_401 (m_counts hW1 hF1 (xs_lo _) (xs_hi _)) lk_L_40 mX12_counts rfl rfl hk ⟨by decide, by decide⟩ (Nat.le_of_ble_eq_true rfl) ?_
  intro a2 M2 h2
  rw [up 124 (by decide), up 127 (by decide)] at h2
  obtain ⟨hab, hI2⟩ := Inv.query hI (pb_counts _ _ _) h1 h2
  refine x_eqI B 1638 dL_law_404 hab ?_
  exact K M2 hI2
theorem law_5 {nm : String} {l : Launch} {X : ZX} {p : Program} {e : Env} {s : State} {m : MethodId} {below : List Frame} {meth : Method} {c0 : Code} {b Len u i : Nat} {xs : Nat → Int32} {M : ZM} (B : pz_bd X (tL_law nm) p s m #[Value.ref b] meth c0) (hX : xs_at X s b Len xs) (hu : u ≤ 511) (hi : i + 6 ≤ Len) (hI : Inv M) (K : ∀ M', Inv M' → zX l X (tL_law nm) p e room_1 s m #[Value.ref b] below meth c0 (lw_Z below #[Value.ref b] s) (139 + u) (pz_ss 139 + 6 * u) 1638 [some (zr 4000), some (zr 0), some (zr 124), some (zr 138), some (zi (i : Int)), none, none] [] M') : zX l X (tL_law nm) p e room_1 s m #[Value.ref b] below meth c0 (lw_Z below #[Value.ref b] s) (139 + u) (pz_ss 139 + 6 * u) 409 [some (zr 4000), some (zr 0), some (zr 124), some (zr 138), some (zi (i : Int)), none, none] [] M := by
  have hk : 139 + u ≤ room_1.cells ∧ pz_ss 139 + 6 * u ≤ room_1.slots := law_hk hu
  refine x_aload_n B 410 dL_law_409 rfl rfl (by decide) ?_
  refine x_aload_n B 411 dL_law_410 rfl rfl (by decide) ?_
  refine x_iload B 413 dL_law_411 rfl ?_
  refine x_iconst B 414 dL_law_413 ?_
  refine x_iadd B 415 dL_law_414 ?_
  refine x_sld B hX 416 (i + 1) dL_law_415 rfl (by omega) ?_
  refine x_callV1i B 0 419 dL_law_416 (c_really hI.2.2 hI.1 (xs_lo _) (xs_hi _)) lk_L_41 mX11_really rfl rfl hk ⟨by decide, by decide⟩ (Nat.le_of_ble_eq_true rfl) ?_
  intro a1 M1 h1
  have up : Up M M1 := h1.2.2
  have hW1 : zWm M1 := up.zWm hI.2.1
  have hF1 : WF M1 := up.wf hI.1
  refine x_aload_n B 420 dL_law_419 rfl rfl (by decide) ?_
  refine x_aload_n B 421 dL_law_420 rfl rfl (by decide) ?_
  refine x_iload B 423 dL_law_421 rfl ?_
  refine x_iconst B 424 dL_law_423 ?_
  refine x_iadd B 425 dL_law_424 ?_
  refine x_sld B hX 426 (i + 1) dL_law_425 rfl (by omega) ?_
  refine x_callV1i B 124 429 dL_law_426 (m_really hW1 hF1 (xs_lo _) (xs_hi _)) lk_L_44 mX12_really rfl rfl hk ⟨by decide, by decide⟩ (Nat.le_of_ble_eq_true rfl) ?_
  intro a2 M2 h2
  rw [up 124 (by decide), up 127 (by decide)] at h2
  obtain ⟨hab, hI2⟩ := Inv.query hI (pb_really _ _ _) h1 h2
  refine x_eqI B 1638 dL_law_429 hab ?_
  exact K M2 hI2
theorem law_6 {nm : String} {l : Launch} {X : ZX} {p : Program} {e : Env} {s : State} {m : MethodId} {below : List Frame} {meth : Method} {c0 : Code} {b Len u i : Nat} {xs : Nat → Int32} {M : ZM} (B : pz_bd X (tL_law nm) p s m #[Value.ref b] meth c0) (hX : xs_at X s b Len xs) (hu : u ≤ 511) (hi : i + 6 ≤ Len) (hI : Inv M) (K : ∀ M', Inv M' → zX l X (tL_law nm) p e room_1 s m #[Value.ref b] below meth c0 (lw_Z below #[Value.ref b] s) (139 + u) (pz_ss 139 + 6 * u) 1638 [some (zr 4000), some (zr 0), some (zr 124), some (zr 138), some (zi (i : Int)), none, none] [] M') : zX l X (tL_law nm) p e room_1 s m #[Value.ref b] below meth c0 (lw_Z below #[Value.ref b] s) (139 + u) (pz_ss 139 + 6 * u) 434 [some (zr 4000), some (zr 0), some (zr 124), some (zr 138), some (zi (i : Int)), none, none] [] M := by
  have hk : 139 + u ≤ room_1.cells ∧ pz_ss 139 + 6 * u ≤ room_1.slots := law_hk hu
  refine x_aload_n B 435 dL_law_434 rfl rfl (by decide) ?_
  refine x_aload_n B 436 dL_law_435 rfl rfl (by decide) ?_
  refine x_iload B 438 dL_law_436 rfl ?_
  refine x_iconst B 439 dL_law_438 ?_
  refine x_iadd B 440 dL_law_439 ?_
  refine x_sld B hX 441 (i + 1) dL_law_440 rfl (by omega) ?_
  refine x_aload_n B 442 dL_law_441 rfl rfl (by decide) ?_
  refine x_iload B 444 dL_law_442 rfl ?_
  refine x_iconst B 445 dL_law_444 ?_
  refine x_iadd B 446 dL_law_445 ?_
  refine x_sld B hX 447 (i + 2) dL_law_446 rfl (by omega) ?_
  refine x_callV2i B 0 450 dL_law_447 (c_sum hI.2.2 hI.1 (xs_lo _) (xs_hi _) (xs_lo _) (xs_hi _)) lk_L_45 mX11_sum rfl rfl hk ⟨by decide, by decide⟩ (Nat.le_of_ble_eq_true rfl) ?_
  intro a1 M1 h1
  have up : Up M M1 := h1.2.2
  have hW1 : zWm M1 := up.zWm hI.2.1
  have hF1 : WF M1 := up.wf hI.1
  refine x_aload_n B 451 dL_law_450 rfl rfl (by decide) ?_
  refine x_aload_n B 452 dL_law_451 rfl rfl (by decide) ?_
  refine x_iload B 454 dL_law_452 rfl ?_
  refine x_iconst B 455 dL_law_454 ?_
  refine x_iadd B 456 dL_law_455 ?_
  refine x_sld B hX 457 (i + 1) dL_law_456 rfl (by omega) ?_
  refine x_aload_n B 458 dL_law_457 rfl rfl (by decide) ?_
  refine x_iload B 460 dL_law_458 rfl ?_
  refine x_iconst B 461 dL_law_460 ?_
  refine x_iadd B 462 dL_law_461 ?_
  refine x_sld B hX 463 (i + 2) dL_law_462 rfl (by omega) ?_
  refine x_callV2i B 124 466 dL_law_463 (m_sum hW1 hF1 (xs_lo _) (xs_hi _) (xs_lo _) (xs_hi _)) lk_L_49 mX12_sum rfl rfl hk ⟨by decide, by decide⟩ (Nat.le_of_ble_eq_true rfl) ?_
  intro a2 M2 h2
  rw [up 124 (by decide), up 127 (by decide)] at h2
  obtain ⟨hab, hI2⟩ := Inv.query hI (pb_sum _ _ _ _) h1 h2
  refine x_eqI B 1638 dL_law_466 hab ?_
  exact K M2 hI2
theorem law_7 {nm : String} {l : Launch} {X : ZX} {p : Program} {e : Env} {s : State} {m : MethodId} {below : List Frame} {meth : Method} {c0 : Code} {b Len u i : Nat} {xs : Nat → Int32} {M : ZM} (B : pz_bd X (tL_law nm) p s m #[Value.ref b] meth c0) (hX : xs_at X s b Len xs) (hu : u ≤ 511) (hi : i + 6 ≤ Len) (hI : Inv M) (K : ∀ M', Inv M' → zX l X (tL_law nm) p e room_1 s m #[Value.ref b] below meth c0 (lw_Z below #[Value.ref b] s) (139 + u) (pz_ss 139 + 6 * u) 1638 [some (zr 4000), some (zr 0), some (zr 124), some (zr 138), some (zi (i : Int)), none, none] [] M') : zX l X (tL_law nm) p e room_1 s m #[Value.ref b] below meth c0 (lw_Z below #[Value.ref b] s) (139 + u) (pz_ss 139 + 6 * u) 471 [some (zr 4000), some (zr 0), some (zr 124), some (zr 138), some (zi (i : Int)), none, none] [] M := by
  have hk : 139 + u ≤ room_1.cells ∧ pz_ss 139 + 6 * u ≤ room_1.slots := law_hk hu
  refine x_aload_n B 472 dL_law_471 rfl rfl (by decide) ?_
  refine x_aload_n B 473 dL_law_472 rfl rfl (by decide) ?_
  refine x_iload B 475 dL_law_473 rfl ?_
  refine x_iconst B 476 dL_law_475 ?_
  refine x_iadd B 477 dL_law_476 ?_
  refine x_sld B hX 478 (i + 1) dL_law_477 rfl (by omega) ?_
  refine x_aload_n B 479 dL_law_478 rfl rfl (by decide) ?_
  refine x_iload B 481 dL_law_479 rfl ?_
  refine x_iconst B 482 dL_law_481 ?_
  refine x_iadd B 483 dL_law_482 ?_
  refine x_sld B hX 484 (i + 2) dL_law_483 rfl (by omega) ?_
  refine x_callV2i B 0 487 dL_law_484 (c_sleeper hI.2.2 hI.1 (xs_lo _) (xs_hi _) (xs_lo _) (xs_hi _)) lk_L_50 mX11_sleeper rfl rfl hk ⟨by decide, by decide⟩ (Nat.le_of_ble_eq_true rfl) ?_
  intro a1 M1 h1
  have up : Up M M1 := h1.2.2
  have hW1 : zWm M1 := up.zWm hI.2.1
  have hF1 : WF M1 := up.wf hI.1
  refine x_aload_n B 488 dL_law_487 rfl rfl (by decide) ?_
  refine x_aload_n B 489 dL_law_488 rfl rfl (by decide) ?_
  refine x_iload B 491 dL_law_489 rfl ?_
  refine x_iconst B 492 dL_law_491 ?_
  refine x_iadd B 493 dL_law_492 ?_
  refine x_sld B hX 494 (i + 1) dL_law_493 rfl (by omega) ?_
  refine x_aload_n B 495 dL_law_494 rfl rfl (by decide) ?_
  refine x_iload B 497 dL_law_495 rfl ?_
  refine x_iconst B 498 dL_law_497 ?_
  refine x_iadd B 499 dL_law_498 ?_
  refine x_sld B hX 500 (i + 2) dL_law_499 rfl (by omega) ?_
  refine x_callV2i B 124 503 dL_law_500 (m_sleeper hW1 hF1 (xs_lo _) (xs_hi _) (xs_lo _) (xs_hi _)) lk_L_53 mX12_sleeper rfl rfl hk ⟨by decide, by decide⟩ (Nat.le_of_ble_eq_true rfl) ?_
  intro a2 M2 h2
  rw [up 124 (by decide), up 127 (by decide), up 129 (by decide)] at h2
  obtain ⟨hab, hI2⟩ := Inv.query hI (pb_sleeper _ _ _ _ _) h1 h2
  refine x_eqI B 1638 dL_law_503 hab ?_
  exact K M2 hI2
theorem law_8 {nm : String} {l : Launch} {X : ZX} {p : Program} {e : Env} {s : State} {m : MethodId} {below : List Frame} {meth : Method} {c0 : Code} {b Len u i : Nat} {xs : Nat → Int32} {M : ZM} (B : pz_bd X (tL_law nm) p s m #[Value.ref b] meth c0) (hX : xs_at X s b Len xs) (hu : u ≤ 511) (hi : i + 6 ≤ Len) (hI : Inv M) (K : ∀ M', Inv M' → zX l X (tL_law nm) p e room_1 s m #[Value.ref b] below meth c0 (lw_Z below #[Value.ref b] s) (139 + u) (pz_ss 139 + 6 * u) 1638 [some (zr 4000), some (zr 0), some (zr 124), some (zr 138), some (zi (i : Int)), none, none] [] M') : zX l X (tL_law nm) p e room_1 s m #[Value.ref b] below meth c0 (lw_Z below #[Value.ref b] s) (139 + u) (pz_ss 139 + 6 * u) 508 [some (zr 4000), some (zr 0), some (zr 124), some (zr 138), some (zi (i : Int)), none, none] [] M := by
  have hk : 139 + u ≤ room_1.cells ∧ pz_ss 139 + 6 * u ≤ room_1.slots := law_hk hu
  refine x_aload_n B 509 dL_law_508 rfl rfl (by decide) ?_
  refine x_aload_n B 510 dL_law_509 rfl rfl (by decide) ?_
  refine x_iload B 512 dL_law_510 rfl ?_
  refine x_iconst B 513 dL_law_512 ?_
  refine x_iadd B 514 dL_law_513 ?_
  refine x_sld B hX 515 (i + 1) dL_law_514 rfl (by omega) ?_
  refine x_aload_n B 516 dL_law_515 rfl rfl (by decide) ?_
  refine x_iload B 518 dL_law_516 rfl ?_
  refine x_iconst B 519 dL_law_518 ?_
  refine x_iadd B 520 dL_law_519 ?_
  refine x_sld B hX 521 (i + 2) dL_law_520 rfl (by omega) ?_
  refine x_callV2i B 0 524 dL_law_521 (c_awake hI.2.2 hI.1 (xs_lo _) (xs_hi _) (xs_lo _) (xs_hi _)) lk_L_54 mX11_awake rfl rfl hk ⟨by decide, by decide⟩ (Nat.le_of_ble_eq_true rfl) ?_
  intro a1 M1 h1
  have up : Up M M1 := h1.2.2
  have hW1 : zWm M1 := up.zWm hI.2.1
  have hF1 : WF M1 := up.wf hI.1
  refine x_aload_n B 525 dL_law_524 rfl rfl (by decide) ?_
  refine x_aload_n B 526 dL_law_525 rfl rfl (by decide) ?_
  refine x_iload B 528 dL_law_526 rfl ?_
  refine x_iconst B 529 dL_law_528 ?_
  refine x_iadd B 530 dL_law_529 ?_
  refine x_sld B hX 531 (i + 1) dL_law_530 rfl (by omega) ?_
  refine x_aload_n B 532 dL_law_531 rfl rfl (by decide) ?_
  refine x_iload B 534 dL_law_532 rfl ?_
  refine x_iconst B 535 dL_law_534 ?_
  refine x_iadd B 536 dL_law_535 ?_
  refine x_sld B hX 537 (i + 2) dL_law_536 rfl (by omega) ?_
  refine x_callV2i B 124 540 dL_law_537 (m_awake hW1 hF1 (xs_lo _) (xs_hi _) (xs_lo _) (xs_hi _)) lk_L_57 mX12_awake rfl rfl hk ⟨by decide, by decide⟩ (Nat.le_of_ble_eq_true rfl) ?_
  intro a2 M2 h2
  rw [up 124 (by decide), up 127 (by decide), up 129 (by decide)] at h2
  obtain ⟨hab, hI2⟩ := Inv.query hI (pb_awake _ _ _ _ _) h1 h2
  refine x_eqI B 1638 dL_law_540 hab ?_
  exact K M2 hI2
theorem law_9 {nm : String} {l : Launch} {X : ZX} {p : Program} {e : Env} {s : State} {m : MethodId} {below : List Frame} {meth : Method} {c0 : Code} {b Len u i : Nat} {xs : Nat → Int32} {M : ZM} (B : pz_bd X (tL_law nm) p s m #[Value.ref b] meth c0) (hX : xs_at X s b Len xs) (hu : u ≤ 511) (hi : i + 6 ≤ Len) (hI : Inv M) (K : ∀ M', Inv M' → zX l X (tL_law nm) p e room_1 s m #[Value.ref b] below meth c0 (lw_Z below #[Value.ref b] s) (139 + u) (pz_ss 139 + 6 * u) 1638 [some (zr 4000), some (zr 0), some (zr 124), some (zr 138), some (zi (i : Int)), none, none] [] M') : zX l X (tL_law nm) p e room_1 s m #[Value.ref b] below meth c0 (lw_Z below #[Value.ref b] s) (139 + u) (pz_ss 139 + 6 * u) 545 [some (zr 4000), some (zr 0), some (zr 124), some (zr 138), some (zi (i : Int)), none, none] [] M := by
  have hk : 139 + u ≤ room_1.cells ∧ pz_ss 139 + 6 * u ≤ room_1.slots := law_hk hu
  refine x_aload_n B 546 dL_law_545 rfl rfl (by decide) ?_
  refine x_aload_n B 547 dL_law_546 rfl rfl (by decide) ?_
  refine x_iload B 549 dL_law_547 rfl ?_
  refine x_iconst B 550 dL_law_549 ?_
  refine x_iadd B 551 dL_law_550 ?_
  refine x_sld B hX 552 (i + 1) dL_law_551 rfl (by omega) ?_
  refine x_callV1i B 0 555 dL_law_552 (c_harmOf hI.2.2 hI.1 (xs_lo _) (xs_hi _)) lk_L_58 mX11_harmOf rfl rfl hk ⟨by decide, by decide⟩ (Nat.le_of_ble_eq_true rfl) ?_
  intro a1 M1 h1
  have up : Up M M1 := h1.2.2
  have hW1 : zWm M1 := up.zWm hI.2.1
  have hF1 : WF M1 := up.wf hI.1
  refine x_aload_n B 556 dL_law_555 rfl rfl (by decide) ?_
  refine x_aload_n B 557 dL_law_556 rfl rfl (by decide) ?_
  refine x_iload B 559 dL_law_557 rfl ?_
  refine x_iconst B 560 dL_law_559 ?_
  refine x_iadd B 561 dL_law_560 ?_
  refine x_sld B hX 562 (i + 1) dL_law_561 rfl (by omega) ?_
  refine x_callV1i B 124 565 dL_law_562 (m_harmOf hW1 hF1 (xs_lo _) (xs_hi _)) lk_L_61 mX12_harmOf rfl rfl hk ⟨by decide, by decide⟩ (Nat.le_of_ble_eq_true rfl) ?_
  intro a2 M2 h2
  rw [up 124 (by decide), up 127 (by decide), up 129 (by decide)] at h2
  obtain ⟨hab, hI2⟩ := Inv.query hI (pb_harmOf _ _ _ _) h1 h2
  refine x_eqI B 1638 dL_law_565 hab ?_
  exact K M2 hI2
theorem law_10 {nm : String} {l : Launch} {X : ZX} {p : Program} {e : Env} {s : State} {m : MethodId} {below : List Frame} {meth : Method} {c0 : Code} {b Len u i : Nat} {xs : Nat → Int32} {M : ZM} (B : pz_bd X (tL_law nm) p s m #[Value.ref b] meth c0) (hX : xs_at X s b Len xs) (hu : u ≤ 511) (hi : i + 6 ≤ Len) (hI : Inv M) (K : ∀ M', Inv M' → zX l X (tL_law nm) p e room_1 s m #[Value.ref b] below meth c0 (lw_Z below #[Value.ref b] s) (139 + u) (pz_ss 139 + 6 * u) 1638 [some (zr 4000), some (zr 0), some (zr 124), some (zr 138), some (zi (i : Int)), none, none] [] M') : zX l X (tL_law nm) p e room_1 s m #[Value.ref b] below meth c0 (lw_Z below #[Value.ref b] s) (139 + u) (pz_ss 139 + 6 * u) 570 [some (zr 4000), some (zr 0), some (zr 124), some (zr 138), some (zi (i : Int)), none, none] [] M := by
  have hk : 139 + u ≤ room_1.cells ∧ pz_ss 139 + 6 * u ≤ room_1.slots := law_hk hu
  refine x_aload_n B 571 dL_law_570 rfl rfl (by decide) ?_
  refine x_callV0i B 0 574 dL_law_571 (c_harm hI.2.2 hI.1 ) lk_L_62 mX11_harm rfl rfl hk ⟨by decide, by decide⟩ (Nat.le_of_ble_eq_true rfl) ?_
  intro a1 M1 h1
  have up : Up M M1 := h1.2.2
  have hW1 : zWm M1 := up.zWm hI.2.1
  have hF1 : WF M1 := up.wf hI.1
  refine x_aload_n B 575 dL_law_574 rfl rfl (by decide) ?_
  refine x_callV0i B 124 578 dL_law_575 (m_harm hW1 hF1 ) lk_L_65 mX12_harm rfl rfl hk ⟨by decide, by decide⟩ (Nat.le_of_ble_eq_true rfl) ?_
  intro a2 M2 h2
  rw [up 124 (by decide), up 127 (by decide), up 129 (by decide)] at h2
  obtain ⟨hab, hI2⟩ := Inv.query hI (pb_harm _ _ _) h1 h2
  refine x_eqI B 1638 dL_law_578 hab ?_
  exact K M2 hI2
theorem law_11 {nm : String} {l : Launch} {X : ZX} {p : Program} {e : Env} {s : State} {m : MethodId} {below : List Frame} {meth : Method} {c0 : Code} {b Len u i : Nat} {xs : Nat → Int32} {M : ZM} (B : pz_bd X (tL_law nm) p s m #[Value.ref b] meth c0) (hX : xs_at X s b Len xs) (hu : u ≤ 511) (hi : i + 6 ≤ Len) (hI : Inv M) (K : ∀ M', Inv M' → zX l X (tL_law nm) p e room_1 s m #[Value.ref b] below meth c0 (lw_Z below #[Value.ref b] s) (139 + u) (pz_ss 139 + 6 * u) 1638 [some (zr 4000), some (zr 0), some (zr 124), some (zr 138), some (zi (i : Int)), none, none] [] M') : zX l X (tL_law nm) p e room_1 s m #[Value.ref b] below meth c0 (lw_Z below #[Value.ref b] s) (139 + u) (pz_ss 139 + 6 * u) 583 [some (zr 4000), some (zr 0), some (zr 124), some (zr 138), some (zi (i : Int)), none, none] [] M := by
  have hk : 139 + u ≤ room_1.cells ∧ pz_ss 139 + 6 * u ≤ room_1.slots := law_hk hu
  refine x_aload_n B 584 dL_law_583 rfl rfl (by decide) ?_
  refine x_callV0i B 0 587 dL_law_584 (c_harmed hI.2.2 hI.1 ) lk_L_66 mX11_harmed rfl rfl hk ⟨by decide, by decide⟩ (Nat.le_of_ble_eq_true rfl) ?_
  intro a1 M1 h1
  have up : Up M M1 := h1.2.2
  have hW1 : zWm M1 := up.zWm hI.2.1
  have hF1 : WF M1 := up.wf hI.1
  refine x_aload_n B 588 dL_law_587 rfl rfl (by decide) ?_
  refine x_callV0i B 124 591 dL_law_588 (m_harmed hW1 hF1 ) lk_L_69 mX12_harmed rfl rfl hk ⟨by decide, by decide⟩ (Nat.le_of_ble_eq_true rfl) ?_
  intro a2 M2 h2
  rw [up 124 (by decide), up 127 (by decide), up 129 (by decide)] at h2
  obtain ⟨hab, hI2⟩ := Inv.query hI (pb_harmed _ _ _) h1 h2
  refine x_eqI B 1638 dL_law_591 hab ?_
  exact K M2 hI2
theorem law_12 {nm : String} {l : Launch} {X : ZX} {p : Program} {e : Env} {s : State} {m : MethodId} {below : List Frame} {meth : Method} {c0 : Code} {b Len u i : Nat} {xs : Nat → Int32} {M : ZM} (B : pz_bd X (tL_law nm) p s m #[Value.ref b] meth c0) (hX : xs_at X s b Len xs) (hu : u ≤ 511) (hi : i + 6 ≤ Len) (hI : Inv M) (K : ∀ M', Inv M' → zX l X (tL_law nm) p e room_1 s m #[Value.ref b] below meth c0 (lw_Z below #[Value.ref b] s) (139 + u) (pz_ss 139 + 6 * u) 1638 [some (zr 4000), some (zr 0), some (zr 124), some (zr 138), some (zi (i : Int)), none, none] [] M') : zX l X (tL_law nm) p e room_1 s m #[Value.ref b] below meth c0 (lw_Z below #[Value.ref b] s) (139 + u) (pz_ss 139 + 6 * u) 596 [some (zr 4000), some (zr 0), some (zr 124), some (zr 138), some (zi (i : Int)), none, none] [] M := by
  have hk : 139 + u ≤ room_1.cells ∧ pz_ss 139 + 6 * u ≤ room_1.slots := law_hk hu
  refine x_aload_n B 597 dL_law_596 rfl rfl (by decide) ?_
  refine x_callV0i B 0 600 dL_law_597 (c_worst hI.2.2 hI.1 ) lk_L_70 mX11_worst rfl rfl hk ⟨by decide, by decide⟩ (Nat.le_of_ble_eq_true rfl) ?_
  intro a1 M1 h1
  have up : Up M M1 := h1.2.2
  have hW1 : zWm M1 := up.zWm hI.2.1
  have hF1 : WF M1 := up.wf hI.1
  refine x_aload_n B 601 dL_law_600 rfl rfl (by decide) ?_
  refine x_callV0i B 124 604 dL_law_601 (m_worst hW1 hF1 ) lk_L_73 mX12_worst rfl rfl hk ⟨by decide, by decide⟩ (Nat.le_of_ble_eq_true rfl) ?_
  intro a2 M2 h2
  rw [up 124 (by decide), up 127 (by decide), up 129 (by decide)] at h2
  obtain ⟨hab, hI2⟩ := Inv.query hI (pb_worst _ _ _) h1 h2
  refine x_eqI B 1638 dL_law_604 hab ?_
  exact K M2 hI2
theorem law_13 {nm : String} {l : Launch} {X : ZX} {p : Program} {e : Env} {s : State} {m : MethodId} {below : List Frame} {meth : Method} {c0 : Code} {b Len u i : Nat} {xs : Nat → Int32} {M : ZM} (B : pz_bd X (tL_law nm) p s m #[Value.ref b] meth c0) (hX : xs_at X s b Len xs) (hu : u ≤ 511) (hi : i + 6 ≤ Len) (hI : Inv M) (K : ∀ M', Inv M' → zX l X (tL_law nm) p e room_1 s m #[Value.ref b] below meth c0 (lw_Z below #[Value.ref b] s) (139 + u) (pz_ss 139 + 6 * u) 1638 [some (zr 4000), some (zr 0), some (zr 124), some (zr 138), some (zi (i : Int)), none, none] [] M') : zX l X (tL_law nm) p e room_1 s m #[Value.ref b] below meth c0 (lw_Z below #[Value.ref b] s) (139 + u) (pz_ss 139 + 6 * u) 609 [some (zr 4000), some (zr 0), some (zr 124), some (zr 138), some (zi (i : Int)), none, none] [] M := by
  have hk : 139 + u ≤ room_1.cells ∧ pz_ss 139 + 6 * u ≤ room_1.slots := law_hk hu
  refine x_aload_n B 610 dL_law_609 rfl rfl (by decide) ?_
  refine x_callV0i B 0 613 dL_law_610 (c_tending hI.2.2 hI.1 ) lk_L_74 mX11_tending rfl rfl hk ⟨by decide, by decide⟩ (Nat.le_of_ble_eq_true rfl) ?_
  intro a1 M1 h1
  have up : Up M M1 := h1.2.2
  have hW1 : zWm M1 := up.zWm hI.2.1
  have hF1 : WF M1 := up.wf hI.1
  refine x_aload_n B 614 dL_law_613 rfl rfl (by decide) ?_
  refine x_callV0i B 124 617 dL_law_614 (m_tending hW1 hF1 ) lk_L_77 mX12_tending rfl rfl hk ⟨by decide, by decide⟩ (Nat.le_of_ble_eq_true rfl) ?_
  intro a2 M2 h2
  rw [up 124 (by decide), up 127 (by decide)] at h2
  obtain ⟨hab, hI2⟩ := Inv.query hI (pb_tending _ _) h1 h2
  refine x_eqI B 1638 dL_law_617 hab ?_
  exact K M2 hI2
theorem law_14 {nm : String} {l : Launch} {X : ZX} {p : Program} {e : Env} {s : State} {m : MethodId} {below : List Frame} {meth : Method} {c0 : Code} {b Len u i : Nat} {xs : Nat → Int32} {M : ZM} (B : pz_bd X (tL_law nm) p s m #[Value.ref b] meth c0) (hX : xs_at X s b Len xs) (hu : u ≤ 511) (hi : i + 6 ≤ Len) (hI : Inv M) (K : ∀ M', Inv M' → zX l X (tL_law nm) p e room_1 s m #[Value.ref b] below meth c0 (lw_Z below #[Value.ref b] s) (139 + u) (pz_ss 139 + 6 * u) 1638 [some (zr 4000), some (zr 0), some (zr 124), some (zr 138), some (zi (i : Int)), none, none] [] M') : zX l X (tL_law nm) p e room_1 s m #[Value.ref b] below meth c0 (lw_Z below #[Value.ref b] s) (139 + u) (pz_ss 139 + 6 * u) 622 [some (zr 4000), some (zr 0), some (zr 124), some (zr 138), some (zi (i : Int)), none, none] [] M := by
  have hk : 139 + u ≤ room_1.cells ∧ pz_ss 139 + 6 * u ≤ room_1.slots := law_hk hu
  refine x_aload_n B 623 dL_law_622 rfl rfl (by decide) ?_
  refine x_aload_n B 624 dL_law_623 rfl rfl (by decide) ?_
  refine x_iload B 626 dL_law_624 rfl ?_
  refine x_iconst B 627 dL_law_626 ?_
  refine x_iadd B 628 dL_law_627 ?_
  refine x_sld B hX 629 (i + 1) dL_law_628 rfl (by omega) ?_
  refine x_callV1i B 0 632 dL_law_629 (c_tendedBy hI.2.2 hI.1 (xs_lo _) (xs_hi _)) lk_L_78 mX11_tendedBy rfl rfl hk ⟨by decide, by decide⟩ (Nat.le_of_ble_eq_true rfl) ?_
  intro a1 M1 h1
  have up : Up M M1 := h1.2.2
  have hW1 : zWm M1 := up.zWm hI.2.1
  have hF1 : WF M1 := up.wf hI.1
  refine x_aload_n B 633 dL_law_632 rfl rfl (by decide) ?_
  refine x_aload_n B 634 dL_law_633 rfl rfl (by decide) ?_
  refine x_iload B 636 dL_law_634 rfl ?_
  refine x_iconst B 637 dL_law_636 ?_
  refine x_iadd B 638 dL_law_637 ?_
  refine x_sld B hX 639 (i + 1) dL_law_638 rfl (by omega) ?_
  refine x_callV1i B 124 642 dL_law_639 (m_tendedBy hW1 hF1 (xs_lo _) (xs_hi _)) lk_L_81 mX12_tendedBy rfl rfl hk ⟨by decide, by decide⟩ (Nat.le_of_ble_eq_true rfl) ?_
  intro a2 M2 h2
  rw [up 124 (by decide), up 127 (by decide)] at h2
  obtain ⟨hab, hI2⟩ := Inv.query hI (pb_tendedBy _ _ _) h1 h2
  refine x_eqI B 1638 dL_law_642 hab ?_
  exact K M2 hI2
theorem law_15 {nm : String} {l : Launch} {X : ZX} {p : Program} {e : Env} {s : State} {m : MethodId} {below : List Frame} {meth : Method} {c0 : Code} {b Len u i : Nat} {xs : Nat → Int32} {M : ZM} (B : pz_bd X (tL_law nm) p s m #[Value.ref b] meth c0) (hX : xs_at X s b Len xs) (hu : u ≤ 511) (hi : i + 6 ≤ Len) (hI : Inv M) (K : ∀ M', Inv M' → zX l X (tL_law nm) p e room_1 s m #[Value.ref b] below meth c0 (lw_Z below #[Value.ref b] s) (139 + u) (pz_ss 139 + 6 * u) 1638 [some (zr 4000), some (zr 0), some (zr 124), some (zr 138), some (zi (i : Int)), none, none] [] M') : zX l X (tL_law nm) p e room_1 s m #[Value.ref b] below meth c0 (lw_Z below #[Value.ref b] s) (139 + u) (pz_ss 139 + 6 * u) 647 [some (zr 4000), some (zr 0), some (zr 124), some (zr 138), some (zi (i : Int)), none, none] [] M := by
  have hk : 139 + u ≤ room_1.cells ∧ pz_ss 139 + 6 * u ≤ room_1.slots := law_hk hu
  refine x_aload_n B 648 dL_law_647 rfl rfl (by decide) ?_
  refine x_callV0i B 0 651 dL_law_648 (c_left hI.2.2 hI.1 ) lk_L_82 mX11_left rfl rfl hk ⟨by decide, by decide⟩ (Nat.le_of_ble_eq_true rfl) ?_
  intro a1 M1 h1
  have up : Up M M1 := h1.2.2
  have hW1 : zWm M1 := up.zWm hI.2.1
  have hF1 : WF M1 := up.wf hI.1
  refine x_aload_n B 652 dL_law_651 rfl rfl (by decide) ?_
  refine x_callV0i B 124 655 dL_law_652 (m_left hW1 hF1 ) lk_L_85 mX12_left rfl rfl hk ⟨by decide, by decide⟩ (Nat.le_of_ble_eq_true rfl) ?_
  intro a2 M2 h2
  rw [up 124 (by decide), up 127 (by decide)] at h2
  obtain ⟨hab, hI2⟩ := Inv.query hI (pb_left _ _) h1 h2
  refine x_eqI B 1638 dL_law_655 hab ?_
  exact K M2 hI2
theorem law_16 {nm : String} {l : Launch} {X : ZX} {p : Program} {e : Env} {s : State} {m : MethodId} {below : List Frame} {meth : Method} {c0 : Code} {b Len u i : Nat} {xs : Nat → Int32} {M : ZM} (B : pz_bd X (tL_law nm) p s m #[Value.ref b] meth c0) (hX : xs_at X s b Len xs) (hu : u ≤ 511) (hi : i + 6 ≤ Len) (hI : Inv M) (K : ∀ M', Inv M' → zX l X (tL_law nm) p e room_1 s m #[Value.ref b] below meth c0 (lw_Z below #[Value.ref b] s) (139 + u) (pz_ss 139 + 6 * u) 1638 [some (zr 4000), some (zr 0), some (zr 124), some (zr 138), some (zi (i : Int)), none, none] [] M') : zX l X (tL_law nm) p e room_1 s m #[Value.ref b] below meth c0 (lw_Z below #[Value.ref b] s) (139 + u) (pz_ss 139 + 6 * u) 660 [some (zr 4000), some (zr 0), some (zr 124), some (zr 138), some (zi (i : Int)), none, none] [] M := by
  have hk : 139 + u ≤ room_1.cells ∧ pz_ss 139 + 6 * u ≤ room_1.slots := law_hk hu
  refine x_aload_n B 661 dL_law_660 rfl rfl (by decide) ?_
  refine x_aload_n B 662 dL_law_661 rfl rfl (by decide) ?_
  refine x_iload B 664 dL_law_662 rfl ?_
  refine x_iconst B 665 dL_law_664 ?_
  refine x_iadd B 666 dL_law_665 ?_
  refine x_sld B hX 667 (i + 1) dL_law_666 rfl (by omega) ?_
  refine x_callV1i B 0 670 dL_law_667 (c_worthOf hI.2.2 hI.1 (xs_lo _) (xs_hi _)) lk_L_86 mX11_worthOf rfl rfl hk ⟨by decide, by decide⟩ (Nat.le_of_ble_eq_true rfl) ?_
  intro a1 M1 h1
  have up : Up M M1 := h1.2.2
  have hW1 : zWm M1 := up.zWm hI.2.1
  have hF1 : WF M1 := up.wf hI.1
  refine x_aload_n B 671 dL_law_670 rfl rfl (by decide) ?_
  refine x_aload_n B 672 dL_law_671 rfl rfl (by decide) ?_
  refine x_iload B 674 dL_law_672 rfl ?_
  refine x_iconst B 675 dL_law_674 ?_
  refine x_iadd B 676 dL_law_675 ?_
  refine x_sld B hX 677 (i + 1) dL_law_676 rfl (by omega) ?_
  refine x_callV1i B 124 680 dL_law_677 (m_worthOf hW1 hF1 (xs_lo _) (xs_hi _)) lk_L_89 mX12_worthOf rfl rfl hk ⟨by decide, by decide⟩ (Nat.le_of_ble_eq_true rfl) ?_
  intro a2 M2 h2
  rw [up 124 (by decide), up 127 (by decide)] at h2
  obtain ⟨hab, hI2⟩ := Inv.query hI (pb_worthOf _ _ _) h1 h2
  refine x_eqI B 1638 dL_law_680 hab ?_
  exact K M2 hI2
theorem law_17 {nm : String} {l : Launch} {X : ZX} {p : Program} {e : Env} {s : State} {m : MethodId} {below : List Frame} {meth : Method} {c0 : Code} {b Len u i : Nat} {xs : Nat → Int32} {M : ZM} (B : pz_bd X (tL_law nm) p s m #[Value.ref b] meth c0) (hX : xs_at X s b Len xs) (hu : u ≤ 511) (hi : i + 6 ≤ Len) (hI : Inv M) (K : ∀ M', Inv M' → zX l X (tL_law nm) p e room_1 s m #[Value.ref b] below meth c0 (lw_Z below #[Value.ref b] s) (139 + u) (pz_ss 139 + 6 * u) 1638 [some (zr 4000), some (zr 0), some (zr 124), some (zr 138), some (zi (i : Int)), none, none] [] M') : zX l X (tL_law nm) p e room_1 s m #[Value.ref b] below meth c0 (lw_Z below #[Value.ref b] s) (139 + u) (pz_ss 139 + 6 * u) 685 [some (zr 4000), some (zr 0), some (zr 124), some (zr 138), some (zi (i : Int)), none, none] [] M := by
  have hk : 139 + u ≤ room_1.cells ∧ pz_ss 139 + 6 * u ≤ room_1.slots := law_hk hu
  refine x_aload_n B 686 dL_law_685 rfl rfl (by decide) ?_
  refine x_callV0i B 0 689 dL_law_686 (c_bestHand hI.2.2 hI.1 ) lk_L_90 mX11_bestHand rfl rfl hk ⟨by decide, by decide⟩ (Nat.le_of_ble_eq_true rfl) ?_
  intro a1 M1 h1
  have up : Up M M1 := h1.2.2
  have hW1 : zWm M1 := up.zWm hI.2.1
  have hF1 : WF M1 := up.wf hI.1
  refine x_aload_n B 690 dL_law_689 rfl rfl (by decide) ?_
  refine x_callV0i B 124 693 dL_law_690 (m_bestHand hW1 hF1 ) lk_L_93 mX12_bestHand rfl rfl hk ⟨by decide, by decide⟩ (Nat.le_of_ble_eq_true rfl) ?_
  intro a2 M2 h2
  rw [up 124 (by decide), up 127 (by decide)] at h2
  obtain ⟨hab, hI2⟩ := Inv.query hI (pb_bestHand _ _) h1 h2
  refine x_eqI B 1638 dL_law_693 hab ?_
  exact K M2 hI2
theorem law_18 {nm : String} {l : Launch} {X : ZX} {p : Program} {e : Env} {s : State} {m : MethodId} {below : List Frame} {meth : Method} {c0 : Code} {b Len u i : Nat} {xs : Nat → Int32} {M : ZM} (B : pz_bd X (tL_law nm) p s m #[Value.ref b] meth c0) (hX : xs_at X s b Len xs) (hu : u ≤ 511) (hi : i + 6 ≤ Len) (hI : Inv M) (K : ∀ M', Inv M' → zX l X (tL_law nm) p e room_1 s m #[Value.ref b] below meth c0 (lw_Z below #[Value.ref b] s) (139 + u) (pz_ss 139 + 6 * u) 1638 [some (zr 4000), some (zr 0), some (zr 124), some (zr 138), some (zi (i : Int)), none, none] [] M') : zX l X (tL_law nm) p e room_1 s m #[Value.ref b] below meth c0 (lw_Z below #[Value.ref b] s) (139 + u) (pz_ss 139 + 6 * u) 698 [some (zr 4000), some (zr 0), some (zr 124), some (zr 138), some (zi (i : Int)), none, none] [] M := by
  have hk : 139 + u ≤ room_1.cells ∧ pz_ss 139 + 6 * u ≤ room_1.slots := law_hk hu
  refine x_aload_n B 699 dL_law_698 rfl rfl (by decide) ?_
  refine x_aload_n B 700 dL_law_699 rfl rfl (by decide) ?_
  refine x_iload B 702 dL_law_700 rfl ?_
  refine x_iconst B 703 dL_law_702 ?_
  refine x_iadd B 704 dL_law_703 ?_
  refine x_sld B hX 705 (i + 1) dL_law_704 rfl (by omega) ?_
  refine x_aload_n B 706 dL_law_705 rfl rfl (by decide) ?_
  refine x_iload B 708 dL_law_706 rfl ?_
  refine x_iconst B 709 dL_law_708 ?_
  refine x_iadd B 710 dL_law_709 ?_
  refine x_sld B hX 711 (i + 2) dL_law_710 rfl (by omega) ?_
  refine x_callV2i B 0 714 dL_law_711 (c_word hI.2.2 hI.1 (xs_lo _) (xs_hi _) (xs_lo _) (xs_hi _)) lk_L_94 mX11_word rfl rfl hk ⟨by decide, by decide⟩ (Nat.le_of_ble_eq_true rfl) ?_
  intro a1 M1 h1
  have up : Up M M1 := h1.2.2
  have hW1 : zWm M1 := up.zWm hI.2.1
  have hF1 : WF M1 := up.wf hI.1
  refine x_aload_n B 715 dL_law_714 rfl rfl (by decide) ?_
  refine x_aload_n B 716 dL_law_715 rfl rfl (by decide) ?_
  refine x_iload B 718 dL_law_716 rfl ?_
  refine x_iconst B 719 dL_law_718 ?_
  refine x_iadd B 720 dL_law_719 ?_
  refine x_sld B hX 721 (i + 1) dL_law_720 rfl (by omega) ?_
  refine x_aload_n B 722 dL_law_721 rfl rfl (by decide) ?_
  refine x_iload B 724 dL_law_722 rfl ?_
  refine x_iconst B 725 dL_law_724 ?_
  refine x_iadd B 726 dL_law_725 ?_
  refine x_sld B hX 727 (i + 2) dL_law_726 rfl (by omega) ?_
  refine x_callV2i B 124 730 dL_law_727 (m_word hW1 hF1 (xs_lo _) (xs_hi _) (xs_lo _) (xs_hi _)) lk_L_97 mX12_word rfl rfl hk ⟨by decide, by decide⟩ (Nat.le_of_ble_eq_true rfl) ?_
  intro a2 M2 h2
  rw [up 124 (by decide), up 127 (by decide), up 129 (by decide)] at h2
  obtain ⟨hab, hI2⟩ := Inv.query hI (pb_word _ _ _ _ _) h1 h2
  refine x_eqI B 1638 dL_law_730 hab ?_
  exact K M2 hI2
theorem law_19 {nm : String} {l : Launch} {X : ZX} {p : Program} {e : Env} {s : State} {m : MethodId} {below : List Frame} {meth : Method} {c0 : Code} {b Len u i : Nat} {xs : Nat → Int32} {M : ZM} (B : pz_bd X (tL_law nm) p s m #[Value.ref b] meth c0) (hX : xs_at X s b Len xs) (hu : u ≤ 511) (hi : i + 6 ≤ Len) (hI : Inv M) (K : ∀ M', Inv M' → zX l X (tL_law nm) p e room_1 s m #[Value.ref b] below meth c0 (lw_Z below #[Value.ref b] s) (139 + u) (pz_ss 139 + 6 * u) 1638 [some (zr 4000), some (zr 0), some (zr 124), some (zr 138), some (zi (i : Int)), none, none] [] M') : zX l X (tL_law nm) p e room_1 s m #[Value.ref b] below meth c0 (lw_Z below #[Value.ref b] s) (139 + u) (pz_ss 139 + 6 * u) 735 [some (zr 4000), some (zr 0), some (zr 124), some (zr 138), some (zi (i : Int)), none, none] [] M := by
  have hk : 139 + u ≤ room_1.cells ∧ pz_ss 139 + 6 * u ≤ room_1.slots := law_hk hu
  by_cases hb2 : (xs (i + 2)).toInt = 0
  · refine x_aload_n B 736 dL_law_735 rfl rfl (by decide) ?_
    refine x_aload_n B 737 dL_law_736 rfl rfl (by decide) ?_
    refine x_iload B 739 dL_law_737 rfl ?_
    refine x_iconst B 740 dL_law_739 ?_
    refine x_iadd B 741 dL_law_740 ?_
    refine x_sld B hX 742 (i + 1) dL_law_741 rfl (by omega) ?_
    refine x_aload_n B 743 dL_law_742 rfl rfl (by decide) ?_
    refine x_iload B 745 dL_law_743 rfl ?_
    refine x_iconst B 746 dL_law_745 ?_
    refine x_iadd B 747 dL_law_746 ?_
    refine x_sld B hX 748 (i + 2) dL_law_747 rfl (by omega) ?_
    refine x_if_eq B 755 751 dL_law_748 (xs_lo _) (xs_hi _) (fun _ => ?_) (fun h => absurd hb2 h)
    refine x_iconst B 756 dL_law_755 ?_
    refine x_callV2l B 0 759 dL_law_756 (c_chance hI.2.2 hI.1 (xs_lo _) (xs_hi _) (Or.inl rfl)) lk_L_98 mX11_chance rfl rfl hk ⟨by decide, by decide⟩ (Nat.le_of_ble_eq_true rfl) ?_
    intro a1 M1 h1
    have up : Up M M1 := h1.2.2
    have hW1 : zWm M1 := up.zWm hI.2.1
    have hF1 : WF M1 := up.wf hI.1
    refine x_aload_n B 760 dL_law_759 rfl rfl (by decide) ?_
    refine x_aload_n B 761 dL_law_760 rfl rfl (by decide) ?_
    refine x_iload B 763 dL_law_761 rfl ?_
    refine x_iconst B 764 dL_law_763 ?_
    refine x_iadd B 765 dL_law_764 ?_
    refine x_sld B hX 766 (i + 1) dL_law_765 rfl (by omega) ?_
    refine x_aload_n B 767 dL_law_766 rfl rfl (by decide) ?_
    refine x_iload B 769 dL_law_767 rfl ?_
    refine x_iconst B 770 dL_law_769 ?_
    refine x_iadd B 771 dL_law_770 ?_
    refine x_sld B hX 772 (i + 2) dL_law_771 rfl (by omega) ?_
    refine x_if_eq B 779 775 dL_law_772 (xs_lo _) (xs_hi _) (fun _ => ?_) (fun h => absurd hb2 h)
    refine x_iconst B 780 dL_law_779 ?_
    refine x_callV2l B 124 783 dL_law_780 (m_chance hW1 hF1 (xs_lo _) (xs_hi _) (Or.inl rfl)) lk_L_102 mX12_chance rfl rfl hk ⟨by decide, by decide⟩ (Nat.le_of_ble_eq_true rfl) ?_
    intro a2 M2 h2
    rw [up 124 (by decide), up 127 (by decide), up 129 (by decide)] at h2
    obtain ⟨hab, hI2⟩ := Inv.query hI (pb_chance _ _ _ _ _) h1 h2
    refine x_eqL B 784 1638 dL_law_783 dL_law_784 hab ?_
    exact K M2 hI2
  · refine x_aload_n B 736 dL_law_735 rfl rfl (by decide) ?_
    refine x_aload_n B 737 dL_law_736 rfl rfl (by decide) ?_
    refine x_iload B 739 dL_law_737 rfl ?_
    refine x_iconst B 740 dL_law_739 ?_
    refine x_iadd B 741 dL_law_740 ?_
    refine x_sld B hX 742 (i + 1) dL_law_741 rfl (by omega) ?_
    refine x_aload_n B 743 dL_law_742 rfl rfl (by decide) ?_
    refine x_iload B 745 dL_law_743 rfl ?_
    refine x_iconst B 746 dL_law_745 ?_
    refine x_iadd B 747 dL_law_746 ?_
    refine x_sld B hX 748 (i + 2) dL_law_747 rfl (by omega) ?_
    refine x_if_eq B 755 751 dL_law_748 (xs_lo _) (xs_hi _) (fun h => absurd h hb2) (fun _ => ?_)
    refine x_iconst B 752 dL_law_751 ?_
    refine x_goto B 756 dL_law_752 ?_
    refine x_callV2l B 0 759 dL_law_756 (c_chance hI.2.2 hI.1 (xs_lo _) (xs_hi _) (Or.inr rfl)) lk_L_98 mX11_chance rfl rfl hk ⟨by decide, by decide⟩ (Nat.le_of_ble_eq_true rfl) ?_
    intro a1 M1 h1
    have up : Up M M1 := h1.2.2
    have hW1 : zWm M1 := up.zWm hI.2.1
    have hF1 : WF M1 := up.wf hI.1
    refine x_aload_n B 760 dL_law_759 rfl rfl (by decide) ?_
    refine x_aload_n B 761 dL_law_760 rfl rfl (by decide) ?_
    refine x_iload B 763 dL_law_761 rfl ?_
    refine x_iconst B 764 dL_law_763 ?_
    refine x_iadd B 765 dL_law_764 ?_
    refine x_sld B hX 766 (i + 1) dL_law_765 rfl (by omega) ?_
    refine x_aload_n B 767 dL_law_766 rfl rfl (by decide) ?_
    refine x_iload B 769 dL_law_767 rfl ?_
    refine x_iconst B 770 dL_law_769 ?_
    refine x_iadd B 771 dL_law_770 ?_
    refine x_sld B hX 772 (i + 2) dL_law_771 rfl (by omega) ?_
    refine x_if_eq B 779 775 dL_law_772 (xs_lo _) (xs_hi _) (fun h => absurd h hb2) (fun _ => ?_)
    refine x_iconst B 776 dL_law_775 ?_
    refine x_goto B 780 dL_law_776 ?_
    refine x_callV2l B 124 783 dL_law_780 (m_chance hW1 hF1 (xs_lo _) (xs_hi _) (Or.inr rfl)) lk_L_102 mX12_chance rfl rfl hk ⟨by decide, by decide⟩ (Nat.le_of_ble_eq_true rfl) ?_
    intro a2 M2 h2
    rw [up 124 (by decide), up 127 (by decide), up 129 (by decide)] at h2
    obtain ⟨hab, hI2⟩ := Inv.query hI (pb_chance _ _ _ _ _) h1 h2
    refine x_eqL B 784 1638 dL_law_783 dL_law_784 hab ?_
    exact K M2 hI2
theorem law_20 {nm : String} {l : Launch} {X : ZX} {p : Program} {e : Env} {s : State} {m : MethodId} {below : List Frame} {meth : Method} {c0 : Code} {b Len u i : Nat} {xs : Nat → Int32} {M : ZM} (B : pz_bd X (tL_law nm) p s m #[Value.ref b] meth c0) (hX : xs_at X s b Len xs) (hu : u ≤ 511) (hi : i + 6 ≤ Len) (hI : Inv M) (K : ∀ M', Inv M' → zX l X (tL_law nm) p e room_1 s m #[Value.ref b] below meth c0 (lw_Z below #[Value.ref b] s) (139 + u) (pz_ss 139 + 6 * u) 1638 [some (zr 4000), some (zr 0), some (zr 124), some (zr 138), some (zi (i : Int)), none, none] [] M') : zX l X (tL_law nm) p e room_1 s m #[Value.ref b] below meth c0 (lw_Z below #[Value.ref b] s) (139 + u) (pz_ss 139 + 6 * u) 789 [some (zr 4000), some (zr 0), some (zr 124), some (zr 138), some (zi (i : Int)), none, none] [] M := by
  have hk : 139 + u ≤ room_1.cells ∧ pz_ss 139 + 6 * u ≤ room_1.slots := law_hk hu
  by_cases hb1 : (xs (i + 1)).toInt = 0
  · refine x_aload_n B 790 dL_law_789 rfl rfl (by decide) ?_
    refine x_aload_n B 791 dL_law_790 rfl rfl (by decide) ?_
    refine x_iload B 793 dL_law_791 rfl ?_
    refine x_iconst B 794 dL_law_793 ?_
    refine x_iadd B 795 dL_law_794 ?_
    refine x_sld B hX 796 (i + 1) dL_law_795 rfl (by omega) ?_
    refine x_if_eq B 803 799 dL_law_796 (xs_lo _) (xs_hi _) (fun _ => ?_) (fun h => absurd hb1 h)
    refine x_iconst B 804 dL_law_803 ?_
    refine x_callV1l B 0 807 dL_law_804 (c_mean hI.2.2 hI.1 (Or.inl rfl)) lk_L_103 mX11_mean rfl rfl hk ⟨by decide, by decide⟩ (Nat.le_of_ble_eq_true rfl) ?_
    intro a1 M1 h1
    have up : Up M M1 := h1.2.2
    have hW1 : zWm M1 := up.zWm hI.2.1
    have hF1 : WF M1 := up.wf hI.1
    refine x_aload_n B 808 dL_law_807 rfl rfl (by decide) ?_
    refine x_aload_n B 809 dL_law_808 rfl rfl (by decide) ?_
    refine x_iload B 811 dL_law_809 rfl ?_
    refine x_iconst B 812 dL_law_811 ?_
    refine x_iadd B 813 dL_law_812 ?_
    refine x_sld B hX 814 (i + 1) dL_law_813 rfl (by omega) ?_
    refine x_if_eq B 821 817 dL_law_814 (xs_lo _) (xs_hi _) (fun _ => ?_) (fun h => absurd hb1 h)
    refine x_iconst B 822 dL_law_821 ?_
    refine x_callV1l B 124 825 dL_law_822 (m_mean hW1 hF1 (Or.inl rfl)) lk_L_107 mX12_mean rfl rfl hk ⟨by decide, by decide⟩ (Nat.le_of_ble_eq_true rfl) ?_
    intro a2 M2 h2
    rw [up 124 (by decide), up 127 (by decide), up 129 (by decide)] at h2
    obtain ⟨hab, hI2⟩ := Inv.query hI (pb_mean _ _ _ _) h1 h2
    refine x_eqL B 826 1638 dL_law_825 dL_law_826 hab ?_
    exact K M2 hI2
  · refine x_aload_n B 790 dL_law_789 rfl rfl (by decide) ?_
    refine x_aload_n B 791 dL_law_790 rfl rfl (by decide) ?_
    refine x_iload B 793 dL_law_791 rfl ?_
    refine x_iconst B 794 dL_law_793 ?_
    refine x_iadd B 795 dL_law_794 ?_
    refine x_sld B hX 796 (i + 1) dL_law_795 rfl (by omega) ?_
    refine x_if_eq B 803 799 dL_law_796 (xs_lo _) (xs_hi _) (fun h => absurd h hb1) (fun _ => ?_)
    refine x_iconst B 800 dL_law_799 ?_
    refine x_goto B 804 dL_law_800 ?_
    refine x_callV1l B 0 807 dL_law_804 (c_mean hI.2.2 hI.1 (Or.inr rfl)) lk_L_103 mX11_mean rfl rfl hk ⟨by decide, by decide⟩ (Nat.le_of_ble_eq_true rfl) ?_
    intro a1 M1 h1
    have up : Up M M1 := h1.2.2
    have hW1 : zWm M1 := up.zWm hI.2.1
    have hF1 : WF M1 := up.wf hI.1
    refine x_aload_n B 808 dL_law_807 rfl rfl (by decide) ?_
    refine x_aload_n B 809 dL_law_808 rfl rfl (by decide) ?_
    refine x_iload B 811 dL_law_809 rfl ?_
    refine x_iconst B 812 dL_law_811 ?_
    refine x_iadd B 813 dL_law_812 ?_
    refine x_sld B hX 814 (i + 1) dL_law_813 rfl (by omega) ?_
    refine x_if_eq B 821 817 dL_law_814 (xs_lo _) (xs_hi _) (fun h => absurd h hb1) (fun _ => ?_)
    refine x_iconst B 818 dL_law_817 ?_
    refine x_goto B 822 dL_law_818 ?_
    refine x_callV1l B 124 825 dL_law_822 (m_mean hW1 hF1 (Or.inr rfl)) lk_L_107 mX12_mean rfl rfl hk ⟨by decide, by decide⟩ (Nat.le_of_ble_eq_true rfl) ?_
    intro a2 M2 h2
    rw [up 124 (by decide), up 127 (by decide), up 129 (by decide)] at h2
    obtain ⟨hab, hI2⟩ := Inv.query hI (pb_mean _ _ _ _) h1 h2
    refine x_eqL B 826 1638 dL_law_825 dL_law_826 hab ?_
    exact K M2 hI2
theorem law_21 {nm : String} {l : Launch} {X : ZX} {p : Program} {e : Env} {s : State} {m : MethodId} {below : List Frame} {meth : Method} {c0 : Code} {b Len u i : Nat} {xs : Nat → Int32} {M : ZM} (B : pz_bd X (tL_law nm) p s m #[Value.ref b] meth c0) (hX : xs_at X s b Len xs) (hu : u ≤ 511) (hi : i + 6 ≤ Len) (hI : Inv M) (K : ∀ M', Inv M' → zX l X (tL_law nm) p e room_1 s m #[Value.ref b] below meth c0 (lw_Z below #[Value.ref b] s) (139 + u) (pz_ss 139 + 6 * u) 1638 [some (zr 4000), some (zr 0), some (zr 124), some (zr 138), some (zi (i : Int)), none, none] [] M') : zX l X (tL_law nm) p e room_1 s m #[Value.ref b] below meth c0 (lw_Z below #[Value.ref b] s) (139 + u) (pz_ss 139 + 6 * u) 831 [some (zr 4000), some (zr 0), some (zr 124), some (zr 138), some (zi (i : Int)), none, none] [] M := by
  have hk : 139 + u ≤ room_1.cells ∧ pz_ss 139 + 6 * u ≤ room_1.slots := law_hk hu
  refine x_aload_n B 832 dL_law_831 rfl rfl (by decide) ?_
  refine x_aload_n B 833 dL_law_832 rfl rfl (by decide) ?_
  refine x_iload B 835 dL_law_833 rfl ?_
  refine x_iconst B 836 dL_law_835 ?_
  refine x_iadd B 837 dL_law_836 ?_
  refine x_sld B hX 838 (i + 1) dL_law_837 rfl (by omega) ?_
  refine x_callV1i B 0 841 dL_law_838 (c_searchAt hI.2.2 hI.1 (xs_lo _) (xs_hi _)) lk_L_108 mX11_searchAt rfl rfl hk ⟨by decide, by decide⟩ (Nat.le_of_ble_eq_true rfl) ?_
  intro a1 M1 h1
  have up : Up M M1 := h1.2.2
  have hW1 : zWm M1 := up.zWm hI.2.1
  have hF1 : WF M1 := up.wf hI.1
  refine x_aload_n B 842 dL_law_841 rfl rfl (by decide) ?_
  refine x_aload_n B 843 dL_law_842 rfl rfl (by decide) ?_
  refine x_iload B 845 dL_law_843 rfl ?_
  refine x_iconst B 846 dL_law_845 ?_
  refine x_iadd B 847 dL_law_846 ?_
  refine x_sld B hX 848 (i + 1) dL_law_847 rfl (by omega) ?_
  refine x_callV1i B 124 851 dL_law_848 (m_searchAt hW1 hF1 (xs_lo _) (xs_hi _)) lk_L_111 mX12_searchAt rfl rfl hk ⟨by decide, by decide⟩ (Nat.le_of_ble_eq_true rfl) ?_
  intro a2 M2 h2
  rw [up 124 (by decide), up 127 (by decide), up 129 (by decide)] at h2
  obtain ⟨hab, hI2⟩ := Inv.query hI (pb_searchAt _ _ _ _) h1 h2
  refine x_eqI B 1638 dL_law_851 hab ?_
  exact K M2 hI2
theorem law_22 {nm : String} {l : Launch} {X : ZX} {p : Program} {e : Env} {s : State} {m : MethodId} {below : List Frame} {meth : Method} {c0 : Code} {b Len u i : Nat} {xs : Nat → Int32} {M : ZM} (B : pz_bd X (tL_law nm) p s m #[Value.ref b] meth c0) (hX : xs_at X s b Len xs) (hu : u ≤ 511) (hi : i + 6 ≤ Len) (hI : Inv M) (K : ∀ M', Inv M' → zX l X (tL_law nm) p e room_1 s m #[Value.ref b] below meth c0 (lw_Z below #[Value.ref b] s) (139 + u) (pz_ss 139 + 6 * u) 1638 [some (zr 4000), some (zr 0), some (zr 124), some (zr 138), some (zi (i : Int)), none, none] [] M') : zX l X (tL_law nm) p e room_1 s m #[Value.ref b] below meth c0 (lw_Z below #[Value.ref b] s) (139 + u) (pz_ss 139 + 6 * u) 856 [some (zr 4000), some (zr 0), some (zr 124), some (zr 138), some (zi (i : Int)), none, none] [] M := by
  have hk : 139 + u ≤ room_1.cells ∧ pz_ss 139 + 6 * u ≤ room_1.slots := law_hk hu
  by_cases hb2 : (xs (i + 2)).toInt = 0
  · refine x_aload_n B 857 dL_law_856 rfl rfl (by decide) ?_
    refine x_aload_n B 858 dL_law_857 rfl rfl (by decide) ?_
    refine x_iload B 860 dL_law_858 rfl ?_
    refine x_iconst B 861 dL_law_860 ?_
    refine x_iadd B 862 dL_law_861 ?_
    refine x_sld B hX 863 (i + 1) dL_law_862 rfl (by omega) ?_
    refine x_aload_n B 864 dL_law_863 rfl rfl (by decide) ?_
    refine x_iload B 866 dL_law_864 rfl ?_
    refine x_iconst B 867 dL_law_866 ?_
    refine x_iadd B 868 dL_law_867 ?_
    refine x_sld B hX 869 (i + 2) dL_law_868 rfl (by omega) ?_
    refine x_if_eq B 876 872 dL_law_869 (xs_lo _) (xs_hi _) (fun _ => ?_) (fun h => absurd hb2 h)
    refine x_iconst B 877 dL_law_876 ?_
    refine x_callV2l B 0 880 dL_law_877 (c_meanFirst hI.2.2 hI.1 (xs_lo _) (xs_hi _) (Or.inl rfl)) lk_L_112 mX11_meanFirst rfl rfl hk ⟨by decide, by decide⟩ (Nat.le_of_ble_eq_true rfl) ?_
    intro a1 M1 h1
    have up : Up M M1 := h1.2.2
    have hW1 : zWm M1 := up.zWm hI.2.1
    have hF1 : WF M1 := up.wf hI.1
    refine x_aload_n B 881 dL_law_880 rfl rfl (by decide) ?_
    refine x_aload_n B 882 dL_law_881 rfl rfl (by decide) ?_
    refine x_iload B 884 dL_law_882 rfl ?_
    refine x_iconst B 885 dL_law_884 ?_
    refine x_iadd B 886 dL_law_885 ?_
    refine x_sld B hX 887 (i + 1) dL_law_886 rfl (by omega) ?_
    refine x_aload_n B 888 dL_law_887 rfl rfl (by decide) ?_
    refine x_iload B 890 dL_law_888 rfl ?_
    refine x_iconst B 891 dL_law_890 ?_
    refine x_iadd B 892 dL_law_891 ?_
    refine x_sld B hX 893 (i + 2) dL_law_892 rfl (by omega) ?_
    refine x_if_eq B 900 896 dL_law_893 (xs_lo _) (xs_hi _) (fun _ => ?_) (fun h => absurd hb2 h)
    refine x_iconst B 901 dL_law_900 ?_
    refine x_callV2l B 124 904 dL_law_901 (m_meanFirst hW1 hF1 (xs_lo _) (xs_hi _) (Or.inl rfl)) lk_L_115 mX12_meanFirst rfl rfl hk ⟨by decide, by decide⟩ (Nat.le_of_ble_eq_true rfl) ?_
    intro a2 M2 h2
    rw [up 124 (by decide), up 127 (by decide), up 129 (by decide)] at h2
    obtain ⟨hab, hI2⟩ := Inv.query hI (pb_meanFirst _ _ _ _ _) h1 h2
    refine x_eqL B 905 1638 dL_law_904 dL_law_905 hab ?_
    exact K M2 hI2
  · refine x_aload_n B 857 dL_law_856 rfl rfl (by decide) ?_
    refine x_aload_n B 858 dL_law_857 rfl rfl (by decide) ?_
    refine x_iload B 860 dL_law_858 rfl ?_
    refine x_iconst B 861 dL_law_860 ?_
    refine x_iadd B 862 dL_law_861 ?_
    refine x_sld B hX 863 (i + 1) dL_law_862 rfl (by omega) ?_
    refine x_aload_n B 864 dL_law_863 rfl rfl (by decide) ?_
    refine x_iload B 866 dL_law_864 rfl ?_
    refine x_iconst B 867 dL_law_866 ?_
    refine x_iadd B 868 dL_law_867 ?_
    refine x_sld B hX 869 (i + 2) dL_law_868 rfl (by omega) ?_
    refine x_if_eq B 876 872 dL_law_869 (xs_lo _) (xs_hi _) (fun h => absurd h hb2) (fun _ => ?_)
    refine x_iconst B 873 dL_law_872 ?_
    refine x_goto B 877 dL_law_873 ?_
    refine x_callV2l B 0 880 dL_law_877 (c_meanFirst hI.2.2 hI.1 (xs_lo _) (xs_hi _) (Or.inr rfl)) lk_L_112 mX11_meanFirst rfl rfl hk ⟨by decide, by decide⟩ (Nat.le_of_ble_eq_true rfl) ?_
    intro a1 M1 h1
    have up : Up M M1 := h1.2.2
    have hW1 : zWm M1 := up.zWm hI.2.1
    have hF1 : WF M1 := up.wf hI.1
    refine x_aload_n B 881 dL_law_880 rfl rfl (by decide) ?_
    refine x_aload_n B 882 dL_law_881 rfl rfl (by decide) ?_
    refine x_iload B 884 dL_law_882 rfl ?_
    refine x_iconst B 885 dL_law_884 ?_
    refine x_iadd B 886 dL_law_885 ?_
    refine x_sld B hX 887 (i + 1) dL_law_886 rfl (by omega) ?_
    refine x_aload_n B 888 dL_law_887 rfl rfl (by decide) ?_
    refine x_iload B 890 dL_law_888 rfl ?_
    refine x_iconst B 891 dL_law_890 ?_
    refine x_iadd B 892 dL_law_891 ?_
    refine x_sld B hX 893 (i + 2) dL_law_892 rfl (by omega) ?_
    refine x_if_eq B 900 896 dL_law_893 (xs_lo _) (xs_hi _) (fun h => absurd h hb2) (fun _ => ?_)
    refine x_iconst B 897 dL_law_896 ?_
    refine x_goto B 901 dL_law_897 ?_
    refine x_callV2l B 124 904 dL_law_901 (m_meanFirst hW1 hF1 (xs_lo _) (xs_hi _) (Or.inr rfl)) lk_L_115 mX12_meanFirst rfl rfl hk ⟨by decide, by decide⟩ (Nat.le_of_ble_eq_true rfl) ?_
    intro a2 M2 h2
    rw [up 124 (by decide), up 127 (by decide), up 129 (by decide)] at h2
    obtain ⟨hab, hI2⟩ := Inv.query hI (pb_meanFirst _ _ _ _ _) h1 h2
    refine x_eqL B 905 1638 dL_law_904 dL_law_905 hab ?_
    exact K M2 hI2
theorem law_23 {nm : String} {l : Launch} {X : ZX} {p : Program} {e : Env} {s : State} {m : MethodId} {below : List Frame} {meth : Method} {c0 : Code} {b Len u i : Nat} {xs : Nat → Int32} {M : ZM} (B : pz_bd X (tL_law nm) p s m #[Value.ref b] meth c0) (hX : xs_at X s b Len xs) (hu : u ≤ 511) (hi : i + 6 ≤ Len) (hI : Inv M) (K : ∀ M', Inv M' → zX l X (tL_law nm) p e room_1 s m #[Value.ref b] below meth c0 (lw_Z below #[Value.ref b] s) (139 + u) (pz_ss 139 + 6 * u) 1638 [some (zr 4000), some (zr 0), some (zr 124), some (zr 138), some (zi (i : Int)), none, none] [] M') : zX l X (tL_law nm) p e room_1 s m #[Value.ref b] below meth c0 (lw_Z below #[Value.ref b] s) (139 + u) (pz_ss 139 + 6 * u) 910 [some (zr 4000), some (zr 0), some (zr 124), some (zr 138), some (zi (i : Int)), none, none] [] M := by
  have hk : 139 + u ≤ room_1.cells ∧ pz_ss 139 + 6 * u ≤ room_1.slots := law_hk hu
  by_cases hb2 : (xs (i + 2)).toInt = 0
  · refine x_aload_n B 911 dL_law_910 rfl rfl (by decide) ?_
    refine x_aload_n B 912 dL_law_911 rfl rfl (by decide) ?_
    refine x_iload B 914 dL_law_912 rfl ?_
    refine x_iconst B 915 dL_law_914 ?_
    refine x_iadd B 916 dL_law_915 ?_
    refine x_sld B hX 917 (i + 1) dL_law_916 rfl (by omega) ?_
    refine x_aload_n B 918 dL_law_917 rfl rfl (by decide) ?_
    refine x_iload B 920 dL_law_918 rfl ?_
    refine x_iconst B 921 dL_law_920 ?_
    refine x_iadd B 922 dL_law_921 ?_
    refine x_sld B hX 923 (i + 2) dL_law_922 rfl (by omega) ?_
    refine x_if_eq B 930 926 dL_law_923 (xs_lo _) (xs_hi _) (fun _ => ?_) (fun h => absurd hb2 h)
    refine x_iconst B 931 dL_law_930 ?_
    refine x_callV2l B 0 934 dL_law_931 (c_within hI.2.2 hI.1 (xs_lo _) (xs_hi _) (Or.inl rfl)) lk_L_116 mX11_within rfl rfl hk ⟨by decide, by decide⟩ (Nat.le_of_ble_eq_true rfl) ?_
    intro a1 M1 h1
    have up : Up M M1 := h1.2.2
    have hW1 : zWm M1 := up.zWm hI.2.1
    have hF1 : WF M1 := up.wf hI.1
    refine x_aload_n B 935 dL_law_934 rfl rfl (by decide) ?_
    refine x_aload_n B 936 dL_law_935 rfl rfl (by decide) ?_
    refine x_iload B 938 dL_law_936 rfl ?_
    refine x_iconst B 939 dL_law_938 ?_
    refine x_iadd B 940 dL_law_939 ?_
    refine x_sld B hX 941 (i + 1) dL_law_940 rfl (by omega) ?_
    refine x_aload_n B 942 dL_law_941 rfl rfl (by decide) ?_
    refine x_iload B 944 dL_law_942 rfl ?_
    refine x_iconst B 945 dL_law_944 ?_
    refine x_iadd B 946 dL_law_945 ?_
    refine x_sld B hX 947 (i + 2) dL_law_946 rfl (by omega) ?_
    refine x_if_eq B 954 950 dL_law_947 (xs_lo _) (xs_hi _) (fun _ => ?_) (fun h => absurd hb2 h)
    refine x_iconst B 955 dL_law_954 ?_
    refine x_callV2l B 124 958 dL_law_955 (m_within hW1 hF1 (xs_lo _) (xs_hi _) (Or.inl rfl)) lk_L_119 mX12_within rfl rfl hk ⟨by decide, by decide⟩ (Nat.le_of_ble_eq_true rfl) ?_
    intro a2 M2 h2
    rw [up 124 (by decide), up 127 (by decide), up 129 (by decide)] at h2
    obtain ⟨hab, hI2⟩ := Inv.query hI (pb_within _ _ _ _ _) h1 h2
    refine x_eqL B 959 1638 dL_law_958 dL_law_959 hab ?_
    exact K M2 hI2
  · refine x_aload_n B 911 dL_law_910 rfl rfl (by decide) ?_
    refine x_aload_n B 912 dL_law_911 rfl rfl (by decide) ?_
    refine x_iload B 914 dL_law_912 rfl ?_
    refine x_iconst B 915 dL_law_914 ?_
    refine x_iadd B 916 dL_law_915 ?_
    refine x_sld B hX 917 (i + 1) dL_law_916 rfl (by omega) ?_
    refine x_aload_n B 918 dL_law_917 rfl rfl (by decide) ?_
    refine x_iload B 920 dL_law_918 rfl ?_
    refine x_iconst B 921 dL_law_920 ?_
    refine x_iadd B 922 dL_law_921 ?_
    refine x_sld B hX 923 (i + 2) dL_law_922 rfl (by omega) ?_
    refine x_if_eq B 930 926 dL_law_923 (xs_lo _) (xs_hi _) (fun h => absurd h hb2) (fun _ => ?_)
    refine x_iconst B 927 dL_law_926 ?_
    refine x_goto B 931 dL_law_927 ?_
    refine x_callV2l B 0 934 dL_law_931 (c_within hI.2.2 hI.1 (xs_lo _) (xs_hi _) (Or.inr rfl)) lk_L_116 mX11_within rfl rfl hk ⟨by decide, by decide⟩ (Nat.le_of_ble_eq_true rfl) ?_
    intro a1 M1 h1
    have up : Up M M1 := h1.2.2
    have hW1 : zWm M1 := up.zWm hI.2.1
    have hF1 : WF M1 := up.wf hI.1
    refine x_aload_n B 935 dL_law_934 rfl rfl (by decide) ?_
    refine x_aload_n B 936 dL_law_935 rfl rfl (by decide) ?_
    refine x_iload B 938 dL_law_936 rfl ?_
    refine x_iconst B 939 dL_law_938 ?_
    refine x_iadd B 940 dL_law_939 ?_
    refine x_sld B hX 941 (i + 1) dL_law_940 rfl (by omega) ?_
    refine x_aload_n B 942 dL_law_941 rfl rfl (by decide) ?_
    refine x_iload B 944 dL_law_942 rfl ?_
    refine x_iconst B 945 dL_law_944 ?_
    refine x_iadd B 946 dL_law_945 ?_
    refine x_sld B hX 947 (i + 2) dL_law_946 rfl (by omega) ?_
    refine x_if_eq B 954 950 dL_law_947 (xs_lo _) (xs_hi _) (fun h => absurd h hb2) (fun _ => ?_)
    refine x_iconst B 951 dL_law_950 ?_
    refine x_goto B 955 dL_law_951 ?_
    refine x_callV2l B 124 958 dL_law_955 (m_within hW1 hF1 (xs_lo _) (xs_hi _) (Or.inr rfl)) lk_L_119 mX12_within rfl rfl hk ⟨by decide, by decide⟩ (Nat.le_of_ble_eq_true rfl) ?_
    intro a2 M2 h2
    rw [up 124 (by decide), up 127 (by decide), up 129 (by decide)] at h2
    obtain ⟨hab, hI2⟩ := Inv.query hI (pb_within _ _ _ _ _) h1 h2
    refine x_eqL B 959 1638 dL_law_958 dL_law_959 hab ?_
    exact K M2 hI2
theorem law_24 {nm : String} {l : Launch} {X : ZX} {p : Program} {e : Env} {s : State} {m : MethodId} {below : List Frame} {meth : Method} {c0 : Code} {b Len u i : Nat} {xs : Nat → Int32} {M : ZM} (B : pz_bd X (tL_law nm) p s m #[Value.ref b] meth c0) (hX : xs_at X s b Len xs) (hu : u ≤ 511) (hi : i + 6 ≤ Len) (hI : Inv M) (K : ∀ M', Inv M' → zX l X (tL_law nm) p e room_1 s m #[Value.ref b] below meth c0 (lw_Z below #[Value.ref b] s) (139 + u) (pz_ss 139 + 6 * u) 1638 [some (zr 4000), some (zr 0), some (zr 124), some (zr 138), some (zi (i : Int)), none, none] [] M') : zX l X (tL_law nm) p e room_1 s m #[Value.ref b] below meth c0 (lw_Z below #[Value.ref b] s) (139 + u) (pz_ss 139 + 6 * u) 964 [some (zr 4000), some (zr 0), some (zr 124), some (zr 138), some (zi (i : Int)), none, none] [] M := by
  have hk : 139 + u ≤ room_1.cells ∧ pz_ss 139 + 6 * u ≤ room_1.slots := law_hk hu
  refine x_aload_n B 965 dL_law_964 rfl rfl (by decide) ?_
  refine x_aload_n B 966 dL_law_965 rfl rfl (by decide) ?_
  refine x_iload B 968 dL_law_966 rfl ?_
  refine x_iconst B 969 dL_law_968 ?_
  refine x_iadd B 970 dL_law_969 ?_
  refine x_sld B hX 971 (i + 1) dL_law_970 rfl (by omega) ?_
  refine x_callV1i B 0 974 dL_law_971 (c_withinWords hI.2.2 hI.1 (xs_lo _) (xs_hi _)) lk_L_120 mX11_withinWords rfl rfl hk ⟨by decide, by decide⟩ (Nat.le_of_ble_eq_true rfl) ?_
  intro a1 M1 h1
  have up : Up M M1 := h1.2.2
  have hW1 : zWm M1 := up.zWm hI.2.1
  have hF1 : WF M1 := up.wf hI.1
  refine x_aload_n B 975 dL_law_974 rfl rfl (by decide) ?_
  refine x_aload_n B 976 dL_law_975 rfl rfl (by decide) ?_
  refine x_iload B 978 dL_law_976 rfl ?_
  refine x_iconst B 979 dL_law_978 ?_
  refine x_iadd B 980 dL_law_979 ?_
  refine x_sld B hX 981 (i + 1) dL_law_980 rfl (by omega) ?_
  refine x_callV1i B 124 984 dL_law_981 (m_withinWords hW1 hF1 (xs_lo _) (xs_hi _)) lk_L_123 mX12_withinWords rfl rfl hk ⟨by decide, by decide⟩ (Nat.le_of_ble_eq_true rfl) ?_
  intro a2 M2 h2
  rw [up 124 (by decide), up 127 (by decide), up 129 (by decide)] at h2
  obtain ⟨hab, hI2⟩ := Inv.query hI (pb_withinWords _ _ _ _) h1 h2
  refine x_eqI B 1638 dL_law_984 hab ?_
  exact K M2 hI2
theorem law_25 {nm : String} {l : Launch} {X : ZX} {p : Program} {e : Env} {s : State} {m : MethodId} {below : List Frame} {meth : Method} {c0 : Code} {b Len u i : Nat} {xs : Nat → Int32} {M : ZM} (B : pz_bd X (tL_law nm) p s m #[Value.ref b] meth c0) (hX : xs_at X s b Len xs) (hu : u ≤ 511) (hi : i + 6 ≤ Len) (hI : Inv M) (K : ∀ M', Inv M' → zX l X (tL_law nm) p e room_1 s m #[Value.ref b] below meth c0 (lw_Z below #[Value.ref b] s) (139 + u) (pz_ss 139 + 6 * u) 1638 [some (zr 4000), some (zr 0), some (zr 124), some (zr 138), some (zi (i : Int)), none, none] [] M') : zX l X (tL_law nm) p e room_1 s m #[Value.ref b] below meth c0 (lw_Z below #[Value.ref b] s) (139 + u) (pz_ss 139 + 6 * u) 989 [some (zr 4000), some (zr 0), some (zr 124), some (zr 138), some (zi (i : Int)), none, none] [] M := by
  have hk : 139 + u ≤ room_1.cells ∧ pz_ss 139 + 6 * u ≤ room_1.slots := law_hk hu
  refine x_aload_n B 990 dL_law_989 rfl rfl (by decide) ?_
  refine x_callV0i B 0 993 dL_law_990 (c_next hI.2.2 hI.1 ) lk_L_124 mX11_next rfl rfl hk ⟨by decide, by decide⟩ (Nat.le_of_ble_eq_true rfl) ?_
  intro a1 M1 h1
  have up : Up M M1 := h1.2.2
  have hW1 : zWm M1 := up.zWm hI.2.1
  have hF1 : WF M1 := up.wf hI.1
  refine x_aload_n B 994 dL_law_993 rfl rfl (by decide) ?_
  refine x_callV0i B 124 997 dL_law_994 (m_next hW1 hF1 ) lk_L_127 mX12_next rfl rfl hk ⟨by decide, by decide⟩ (Nat.le_of_ble_eq_true rfl) ?_
  intro a2 M2 h2
  rw [up 124 (by decide), up 127 (by decide), up 129 (by decide)] at h2
  obtain ⟨hab, hI2⟩ := Inv.query hI (pb_next _ _ _) h1 h2
  refine x_eqI B 1638 dL_law_997 hab ?_
  exact K M2 hI2
