theorem law_ret {p : Program} {l : Launch} {e : Env} {s : State} {m : MethodId} {below : List Frame} {meth : Method} {c : Code} {G : zG} {b sb L : Nat} {xs : Nat → Int32} (X : zOK p s m #[Value.ref sb] meth c G b R_law code 4) (hr : meth.sig.returnType = ret) (hX0 : va_X sb L xs s s.heap) (hsb : sb < s.heap.size) (hbb : b = s.heap.size) {nc ns : Nat} (hc : nc ≤ 600000) (hs : ns ≤ 7302250) {ls : List (Option Value)} {S : zS} : Zw p l e room_1 s m #[Value.ref sb] below meth c G b 4 (lw_Z below #[Value.ref sb] s) nc ns 1745 ls [.int 1] S := by
  intro H locs la hH hS hL
  exact va_forget (fun q hq => by rw [← hbb]; exact hS.2.2 q hq) (W.widen hc hs (lw_ret X.1 X.2.1 hr X.2.2.2.2.2.2.2.1 dL_law_1745))
theorem law_n {L : Nat} (hL : L ≤ 6) : Int32.ofNat L - 6 < 6 := by
  have : L = 0 ∨ L = 1 ∨ L = 2 ∨ L = 3 ∨ L = 4 ∨ L = 5 ∨ L = 6 := by omega
  rcases this with rfl | rfl | rfl | rfl | rfl | rfl | rfl <;> decide
theorem law_6 {L : Nat} (hL : L ≤ 6) (h : ¬ Int32.ofNat L - 6 < 0) : L = 6 := by
  have : L = 0 ∨ L = 1 ∨ L = 2 ∨ L = 3 ∨ L = 4 ∨ L = 5 ∨ L = 6 := by omega
  rcases this with rfl | rfl | rfl | rfl | rfl | rfl | rfl
  all_goals first | rfl | exact absurd (by decide) h
set_option maxRecDepth 100000 in
set_option maxHeartbeats 8000000 in
theorem law_K {p : Program} {l : Launch} {e : Env} {s : State} {m : MethodId} {below : List Frame} {meth : Method} {c : Code} {G : zG} {b sb L : Nat} {xs : Nat → Int32} (X : zOK p s m #[Value.ref sb] meth c G b R_law code 4) (hr : meth.sig.returnType = ret) (hX0 : va_X sb L xs s s.heap) (hsb : sb < s.heap.size) (hbb : b = s.heap.size) (hL : L ≤ 6) {nc ns : Nat} (hc : nc ≤ 600000) (hs : ns ≤ 7302250) {S : zS} : Zw p l e room_1 s m #[Value.ref sb] below meth c G b 4 (lw_Z below #[Value.ref sb] s) nc ns 1738 [some (.ref (1000000 + sb)), some (.ref 0), some (.ref 200), some (.int 0)] [] S := by
  refine a_iinc X dL_law_1738 (by decide) rfl rfl ?_
  refine a_goto (tgt := 18) X dL_law_1741 (by decide) ?_
  refine a_iload_n X dL_law_18 rfl ?_
  refine a_aload_n X dL_law_19 rfl ?_
  refine a_slen X hX0 hsb hbb dL_law_20 ?_
  refine a_bipush (v := 6) X dL_law_21 (by decide) ?_
  refine a_isub X dL_law_23 ?_
  refine a_icmp_gt (tgt := 1744) X dL_law_24 (by decide) (fun h_24 => ?_) (fun h_24 => absurd (law_n hL) h_24)
  refine a_iconst (v := 1) X dL_law_1744 (by decide) ?_
  exact law_ret X hr hX0 hsb hbb hc hs
set_option maxRecDepth 100000 in
set_option maxHeartbeats 8000000 in
theorem law_C {p : Program} {l : Launch} {e : Env} {s : State} {m : MethodId} {below : List Frame} {meth : Method} {c : Code} {G : zG} {b sb : Nat} {xs : Nat → Int32} (X : zOK p s m #[Value.ref sb] meth c G b R_law code 4) (hr : meth.sig.returnType = ret) (hX0 : va_X sb 6 xs s s.heap) (hsb : sb < s.heap.size) (hbb : b = s.heap.size) {nc ns : Nat} (hc : nc ≤ 600000) (hs : ns ≤ 7302250) {S : zS} (h7 : zE7 S 0) (h8 : zE8 S 200) : Zw p l e room_1 s m #[Value.ref sb] below meth c G b 4 (lw_Z below #[Value.ref sb] s) nc ns 27 [some (.ref (1000000 + sb)), some (.ref 0), some (.ref 200), some (.int 0)] [] S := by
  have o7 := h7.1.2.1
  have i0 : vp_in (0) 6 := by unfold vp_in; decide
  have i1 : vp_in (0 + 1) 6 := by unfold vp_in; decide
  have i2 : vp_in (0 + 2) 6 := by unfold vp_in; decide
  have i3 : vp_in (0 + 3) 6 := by unfold vp_in; decide
  have i4 : vp_in (0 + 4) 6 := by unfold vp_in; decide
  have i5 : vp_in (0 + 5) 6 := by unfold vp_in; decide
  refine a_aload_n X dL_law_27 rfl ?_
  refine a_iload_n X dL_law_28 rfl ?_
  refine a_sld X hX0 hsb hbb (by first | exact i0 | exact i1 | exact i2 | exact i3 | exact i4 | exact i5) dL_law_29 ?_
  refine a_bipush (v := 63) X dL_law_30 (by decide) ?_
  refine a_iand X dL_law_32 ?_
  refine a_tsw (tg := [244, 257, 320, 343, 366, 389, 422, 455, 488, 521, 554, 587, 620, 653, 686, 729, 752, 795, 838, 871, 904, 937, 970, 1004, 1038, 1072, 1095, 1119, 1142, 1155, 1188, 1211, 1235, 1269, 1293, 1316, 1359, 1402, 1445, 1468, 1501, 1534, 1587, 1610, 1633, 1656, 1679, 1692, 1715]) (td := 1738) X dL_law_33 (by decide +kernel) (by decide) (by decide) (fun k_33 t_33 ht_33 hx_33 => ?_) (fun h_33 => ?_)
  · match k_33, ht_33, hx_33 with
    | 0, ht_33, hx_33 =>
      cases ht_33
      refine a_aload_n X dL_law_244 rfl ?_
      refine a_callVx X dL_law_245 miX7_status lmL_13 (f_status h7) (o7) rfl rfl rfl (Nat.le_of_ble_eq_true rfl) ⟨by decide, by decide, hc, hs⟩ (fun r_245 S_245 q_245 => ?_)
      obtain ⟨rfl, fl_245, fr_245⟩ := q_245
      have h8_245 := h8.keep fl_245 fr_245 (by decide)
      refine a_aload_n X dL_law_248 rfl ?_
      refine a_callVx X dL_law_249 miX8_status lmL_17 (m_status h8_245) (h8_245.1.2.1) rfl rfl rfl (Nat.le_of_ble_eq_true rfl) ⟨by decide, by decide, hc, hs⟩ (fun r_249 S_249 q_249 => ?_)
      obtain rfl := q_249
      refine a_icmp_eq (tgt := 1738) X dL_law_252 (by decide) (fun h_252 => ?_) (fun h_252 => absurd (by first | rfl | decide) h_252)
      exact law_K X hr hX0 hsb hbb (Nat.le_refl 6) hc hs
    | 1, ht_33, hx_33 =>
      cases ht_33
      refine a_aload_n X dL_law_257 rfl ?_
      refine a_aload_n X dL_law_258 rfl ?_
      refine a_iload_n X dL_law_259 rfl ?_
      refine a_iconst (v := 1) X dL_law_260 (by decide) ?_
      refine a_iadd X dL_law_261 ?_
      refine a_sld X hX0 hsb hbb (by first | exact i0 | exact i1 | exact i2 | exact i3 | exact i4 | exact i5) dL_law_262 ?_
      refine a_aload_n X dL_law_263 rfl ?_
      refine a_iload_n X dL_law_264 rfl ?_
      refine a_iconst (v := 2) X dL_law_265 (by decide) ?_
      refine a_iadd X dL_law_266 ?_
      refine a_sld X hX0 hsb hbb (by first | exact i0 | exact i1 | exact i2 | exact i3 | exact i4 | exact i5) dL_law_267 ?_
      refine a_aload_n X dL_law_268 rfl ?_
      refine a_iload_n X dL_law_269 rfl ?_
      refine a_iconst (v := 3) X dL_law_270 (by decide) ?_
      refine a_iadd X dL_law_271 ?_
      refine a_sld X hX0 hsb hbb (by first | exact i0 | exact i1 | exact i2 | exact i3 | exact i4 | exact i5) dL_law_272 ?_
      refine a_aload_n X dL_law_273 rfl ?_
      refine a_iload_n X dL_law_274 rfl ?_
      refine a_iconst (v := 4) X dL_law_275 (by decide) ?_
      refine a_iadd X dL_law_276 ?_
      refine a_sld X hX0 hsb hbb (by first | exact i0 | exact i1 | exact i2 | exact i3 | exact i4 | exact i5) dL_law_277 ?_
      refine a_aload_n X dL_law_278 rfl ?_
      refine a_iload_n X dL_law_279 rfl ?_
      refine a_iconst (v := 5) X dL_law_280 (by decide) ?_
      refine a_iadd X dL_law_281 ?_
      refine a_sld X hX0 hsb hbb (by first | exact i0 | exact i1 | exact i2 | exact i3 | exact i4 | exact i5) dL_law_282 ?_
      refine a_callVx X dL_law_283 miX7_feed lmL_18 (f_feed h7) (o7) rfl rfl rfl (Nat.le_of_ble_eq_true rfl) ⟨by decide, by decide, hc, hs⟩ (fun r_283 S_283 q_283 => ?_)
      obtain ⟨rfl, fl_283, fr_283⟩ := q_283
      have h8_283 := h8.keep fl_283 fr_283 (by decide)
      refine a_aload_n X dL_law_286 rfl ?_
      refine a_aload_n X dL_law_287 rfl ?_
      refine a_iload_n X dL_law_288 rfl ?_
      refine a_iconst (v := 1) X dL_law_289 (by decide) ?_
      refine a_iadd X dL_law_290 ?_
      refine a_sld X hX0 hsb hbb (by first | exact i0 | exact i1 | exact i2 | exact i3 | exact i4 | exact i5) dL_law_291 ?_
      refine a_aload_n X dL_law_292 rfl ?_
      refine a_iload_n X dL_law_293 rfl ?_
      refine a_iconst (v := 2) X dL_law_294 (by decide) ?_
      refine a_iadd X dL_law_295 ?_
      refine a_sld X hX0 hsb hbb (by first | exact i0 | exact i1 | exact i2 | exact i3 | exact i4 | exact i5) dL_law_296 ?_
      refine a_aload_n X dL_law_297 rfl ?_
      refine a_iload_n X dL_law_298 rfl ?_
      refine a_iconst (v := 3) X dL_law_299 (by decide) ?_
      refine a_iadd X dL_law_300 ?_
      refine a_sld X hX0 hsb hbb (by first | exact i0 | exact i1 | exact i2 | exact i3 | exact i4 | exact i5) dL_law_301 ?_
      refine a_aload_n X dL_law_302 rfl ?_
      refine a_iload_n X dL_law_303 rfl ?_
      refine a_iconst (v := 4) X dL_law_304 (by decide) ?_
      refine a_iadd X dL_law_305 ?_
      refine a_sld X hX0 hsb hbb (by first | exact i0 | exact i1 | exact i2 | exact i3 | exact i4 | exact i5) dL_law_306 ?_
      refine a_aload_n X dL_law_307 rfl ?_
      refine a_iload_n X dL_law_308 rfl ?_
      refine a_iconst (v := 5) X dL_law_309 (by decide) ?_
      refine a_iadd X dL_law_310 ?_
      refine a_sld X hX0 hsb hbb (by first | exact i0 | exact i1 | exact i2 | exact i3 | exact i4 | exact i5) dL_law_311 ?_
      refine a_callVx X dL_law_312 miX8_feed lmL_22 (m_feed h8_283) (h8_283.1.2.1) rfl rfl rfl (Nat.le_of_ble_eq_true rfl) ⟨by decide, by decide, hc, hs⟩ (fun r_312 S_312 q_312 => ?_)
      obtain rfl := q_312
      refine a_icmp_eq (tgt := 1738) X dL_law_315 (by decide) (fun h_315 => ?_) (fun h_315 => absurd (by first | rfl | decide) h_315)
      exact law_K X hr hX0 hsb hbb (Nat.le_refl 6) hc hs
    | 2, ht_33, hx_33 =>
      cases ht_33
      refine a_aload_n X dL_law_320 rfl ?_
      refine a_aload_n X dL_law_321 rfl ?_
      refine a_iload_n X dL_law_322 rfl ?_
      refine a_iconst (v := 1) X dL_law_323 (by decide) ?_
      refine a_iadd X dL_law_324 ?_
      refine a_sld X hX0 hsb hbb (by first | exact i0 | exact i1 | exact i2 | exact i3 | exact i4 | exact i5) dL_law_325 ?_
      refine a_callVx X dL_law_326 miX7_load lmL_23 (f_load h7) (o7) rfl rfl rfl (Nat.le_of_ble_eq_true rfl) ⟨by decide, by decide, hc, hs⟩ (fun r_326 S_326 q_326 => ?_)
      obtain ⟨rfl, fl_326, fr_326⟩ := q_326
      have h8_326 := h8.keep fl_326 fr_326 (by decide)
      refine a_aload_n X dL_law_329 rfl ?_
      refine a_aload_n X dL_law_330 rfl ?_
      refine a_iload_n X dL_law_331 rfl ?_
      refine a_iconst (v := 1) X dL_law_332 (by decide) ?_
      refine a_iadd X dL_law_333 ?_
      refine a_sld X hX0 hsb hbb (by first | exact i0 | exact i1 | exact i2 | exact i3 | exact i4 | exact i5) dL_law_334 ?_
      refine a_callVx X dL_law_335 miX8_load lmL_27 (m_load h8_326) (h8_326.1.2.1) rfl rfl rfl (Nat.le_of_ble_eq_true rfl) ⟨by decide, by decide, hc, hs⟩ (fun r_335 S_335 q_335 => ?_)
      obtain rfl := q_335
      refine a_icmp_eq (tgt := 1738) X dL_law_338 (by decide) (fun h_338 => ?_) (fun h_338 => absurd (by first | rfl | decide) h_338)
      exact law_K X hr hX0 hsb hbb (Nat.le_refl 6) hc hs
    | 3, ht_33, hx_33 =>
      cases ht_33
      refine a_aload_n X dL_law_343 rfl ?_
      refine a_aload_n X dL_law_344 rfl ?_
      refine a_iload_n X dL_law_345 rfl ?_
      refine a_iconst (v := 1) X dL_law_346 (by decide) ?_
      refine a_iadd X dL_law_347 ?_
      refine a_sld X hX0 hsb hbb (by first | exact i0 | exact i1 | exact i2 | exact i3 | exact i4 | exact i5) dL_law_348 ?_
      refine a_callVx X dL_law_349 miX7_fault lmL_28 (f_fault h7) (o7) rfl rfl rfl (Nat.le_of_ble_eq_true rfl) ⟨by decide, by decide, hc, hs⟩ (fun r_349 S_349 q_349 => ?_)
      obtain ⟨rfl, fl_349, fr_349⟩ := q_349
      have h8_349 := h8.keep fl_349 fr_349 (by decide)
      refine a_aload_n X dL_law_352 rfl ?_
      refine a_aload_n X dL_law_353 rfl ?_
      refine a_iload_n X dL_law_354 rfl ?_
      refine a_iconst (v := 1) X dL_law_355 (by decide) ?_
      refine a_iadd X dL_law_356 ?_
      refine a_sld X hX0 hsb hbb (by first | exact i0 | exact i1 | exact i2 | exact i3 | exact i4 | exact i5) dL_law_357 ?_
      refine a_callVx X dL_law_358 miX8_fault lmL_31 (m_fault h8_349) (h8_349.1.2.1) rfl rfl rfl (Nat.le_of_ble_eq_true rfl) ⟨by decide, by decide, hc, hs⟩ (fun r_358 S_358 q_358 => ?_)
      obtain rfl := q_358
      refine a_icmp_eq (tgt := 1738) X dL_law_361 (by decide) (fun h_361 => ?_) (fun h_361 => absurd (by first | rfl | decide) h_361)
      exact law_K X hr hX0 hsb hbb (Nat.le_refl 6) hc hs
    | 4, ht_33, hx_33 =>
      cases ht_33
      refine a_aload_n X dL_law_366 rfl ?_
      refine a_aload_n X dL_law_367 rfl ?_
      refine a_iload_n X dL_law_368 rfl ?_
      refine a_iconst (v := 1) X dL_law_369 (by decide) ?_
      refine a_iadd X dL_law_370 ?_
      refine a_sld X hX0 hsb hbb (by first | exact i0 | exact i1 | exact i2 | exact i3 | exact i4 | exact i5) dL_law_371 ?_
      refine a_callVx X dL_law_372 miX7_many lmL_32 (f_many h7) (o7) rfl rfl rfl (Nat.le_of_ble_eq_true rfl) ⟨by decide, by decide, hc, hs⟩ (fun r_372 S_372 q_372 => ?_)
      obtain ⟨rfl, fl_372, fr_372⟩ := q_372
      have h8_372 := h8.keep fl_372 fr_372 (by decide)
      refine a_aload_n X dL_law_375 rfl ?_
      refine a_aload_n X dL_law_376 rfl ?_
      refine a_iload_n X dL_law_377 rfl ?_
      refine a_iconst (v := 1) X dL_law_378 (by decide) ?_
      refine a_iadd X dL_law_379 ?_
      refine a_sld X hX0 hsb hbb (by first | exact i0 | exact i1 | exact i2 | exact i3 | exact i4 | exact i5) dL_law_380 ?_
      refine a_callVx X dL_law_381 miX8_many lmL_35 (m_many h8_372) (h8_372.1.2.1) rfl rfl rfl (Nat.le_of_ble_eq_true rfl) ⟨by decide, by decide, hc, hs⟩ (fun r_381 S_381 q_381 => ?_)
      obtain rfl := q_381
      refine a_icmp_eq (tgt := 1738) X dL_law_384 (by decide) (fun h_384 => ?_) (fun h_384 => absurd (by first | rfl | decide) h_384)
      exact law_K X hr hX0 hsb hbb (Nat.le_refl 6) hc hs
    | 5, ht_33, hx_33 =>
      cases ht_33
      refine a_aload_n X dL_law_389 rfl ?_
      refine a_aload_n X dL_law_390 rfl ?_
      refine a_iload_n X dL_law_391 rfl ?_
      refine a_iconst (v := 1) X dL_law_392 (by decide) ?_
      refine a_iadd X dL_law_393 ?_
      refine a_sld X hX0 hsb hbb (by first | exact i0 | exact i1 | exact i2 | exact i3 | exact i4 | exact i5) dL_law_394 ?_
      refine a_aload_n X dL_law_395 rfl ?_
      refine a_iload_n X dL_law_396 rfl ?_
      refine a_iconst (v := 2) X dL_law_397 (by decide) ?_
      refine a_iadd X dL_law_398 ?_
      refine a_sld X hX0 hsb hbb (by first | exact i0 | exact i1 | exact i2 | exact i3 | exact i4 | exact i5) dL_law_399 ?_
      refine a_callVx X dL_law_400 miX7_hunter lmL_36 (f_hunter h7) (o7) rfl rfl rfl (Nat.le_of_ble_eq_true rfl) ⟨by decide, by decide, hc, hs⟩ (fun r_400 S_400 q_400 => ?_)
      obtain ⟨rfl, fl_400, fr_400⟩ := q_400
      have h8_400 := h8.keep fl_400 fr_400 (by decide)
      refine a_aload_n X dL_law_403 rfl ?_
      refine a_aload_n X dL_law_404 rfl ?_
      refine a_iload_n X dL_law_405 rfl ?_
      refine a_iconst (v := 1) X dL_law_406 (by decide) ?_
      refine a_iadd X dL_law_407 ?_
      refine a_sld X hX0 hsb hbb (by first | exact i0 | exact i1 | exact i2 | exact i3 | exact i4 | exact i5) dL_law_408 ?_
      refine a_aload_n X dL_law_409 rfl ?_
      refine a_iload_n X dL_law_410 rfl ?_
      refine a_iconst (v := 2) X dL_law_411 (by decide) ?_
      refine a_iadd X dL_law_412 ?_
      refine a_sld X hX0 hsb hbb (by first | exact i0 | exact i1 | exact i2 | exact i3 | exact i4 | exact i5) dL_law_413 ?_
      refine a_callVx X dL_law_414 miX8_hunter lmL_40 (m_hunter h8_400) (h8_400.1.2.1) rfl rfl rfl (Nat.le_of_ble_eq_true rfl) ⟨by decide, by decide, hc, hs⟩ (fun r_414 S_414 q_414 => ?_)
      obtain rfl := q_414
      refine a_icmp_eq (tgt := 1738) X dL_law_417 (by decide) (fun h_417 => ?_) (fun h_417 => absurd (by first | rfl | decide) h_417)
      exact law_K X hr hX0 hsb hbb (Nat.le_refl 6) hc hs
    | 6, ht_33, hx_33 =>
      cases ht_33
      refine a_aload_n X dL_law_422 rfl ?_
      refine a_aload_n X dL_law_423 rfl ?_
      refine a_iload_n X dL_law_424 rfl ?_
      refine a_iconst (v := 1) X dL_law_425 (by decide) ?_
      refine a_iadd X dL_law_426 ?_
      refine a_sld X hX0 hsb hbb (by first | exact i0 | exact i1 | exact i2 | exact i3 | exact i4 | exact i5) dL_law_427 ?_
      refine a_aload_n X dL_law_428 rfl ?_
      refine a_iload_n X dL_law_429 rfl ?_
      refine a_iconst (v := 2) X dL_law_430 (by decide) ?_
      refine a_iadd X dL_law_431 ?_
      refine a_sld X hX0 hsb hbb (by first | exact i0 | exact i1 | exact i2 | exact i3 | exact i4 | exact i5) dL_law_432 ?_
      refine a_callVx X dL_law_433 miX7_unit lmL_41 (f_unit h7) (o7) rfl rfl rfl (Nat.le_of_ble_eq_true rfl) ⟨by decide, by decide, hc, hs⟩ (fun r_433 S_433 q_433 => ?_)
      obtain ⟨rfl, fl_433, fr_433⟩ := q_433
      have h8_433 := h8.keep fl_433 fr_433 (by decide)
      refine a_aload_n X dL_law_436 rfl ?_
      refine a_aload_n X dL_law_437 rfl ?_
      refine a_iload_n X dL_law_438 rfl ?_
      refine a_iconst (v := 1) X dL_law_439 (by decide) ?_
      refine a_iadd X dL_law_440 ?_
      refine a_sld X hX0 hsb hbb (by first | exact i0 | exact i1 | exact i2 | exact i3 | exact i4 | exact i5) dL_law_441 ?_
      refine a_aload_n X dL_law_442 rfl ?_
      refine a_iload_n X dL_law_443 rfl ?_
      refine a_iconst (v := 2) X dL_law_444 (by decide) ?_
      refine a_iadd X dL_law_445 ?_
      refine a_sld X hX0 hsb hbb (by first | exact i0 | exact i1 | exact i2 | exact i3 | exact i4 | exact i5) dL_law_446 ?_
      refine a_callVx X dL_law_447 miX8_unit lmL_44 (m_unit h8_433) (h8_433.1.2.1) rfl rfl rfl (Nat.le_of_ble_eq_true rfl) ⟨by decide, by decide, hc, hs⟩ (fun r_447 S_447 q_447 => ?_)
      obtain rfl := q_447
      refine a_icmp_eq (tgt := 1738) X dL_law_450 (by decide) (fun h_450 => ?_) (fun h_450 => absurd (by first | rfl | decide) h_450)
      exact law_K X hr hX0 hsb hbb (Nat.le_refl 6) hc hs
    | 7, ht_33, hx_33 =>
      cases ht_33
      refine a_aload_n X dL_law_455 rfl ?_
      refine a_aload_n X dL_law_456 rfl ?_
      refine a_iload_n X dL_law_457 rfl ?_
      refine a_iconst (v := 1) X dL_law_458 (by decide) ?_
      refine a_iadd X dL_law_459 ?_
      refine a_sld X hX0 hsb hbb (by first | exact i0 | exact i1 | exact i2 | exact i3 | exact i4 | exact i5) dL_law_460 ?_
      refine a_aload_n X dL_law_461 rfl ?_
      refine a_iload_n X dL_law_462 rfl ?_
      refine a_iconst (v := 2) X dL_law_463 (by decide) ?_
      refine a_iadd X dL_law_464 ?_
      refine a_sld X hX0 hsb hbb (by first | exact i0 | exact i1 | exact i2 | exact i3 | exact i4 | exact i5) dL_law_465 ?_
      refine a_callVx X dL_law_466 miX7_applicant lmL_45 (f_applicant h7) (o7) rfl rfl rfl (Nat.le_of_ble_eq_true rfl) ⟨by decide, by decide, hc, hs⟩ (fun r_466 S_466 q_466 => ?_)
      obtain ⟨rfl, fl_466, fr_466⟩ := q_466
      have h8_466 := h8.keep fl_466 fr_466 (by decide)
      refine a_aload_n X dL_law_469 rfl ?_
      refine a_aload_n X dL_law_470 rfl ?_
      refine a_iload_n X dL_law_471 rfl ?_
      refine a_iconst (v := 1) X dL_law_472 (by decide) ?_
      refine a_iadd X dL_law_473 ?_
      refine a_sld X hX0 hsb hbb (by first | exact i0 | exact i1 | exact i2 | exact i3 | exact i4 | exact i5) dL_law_474 ?_
      refine a_aload_n X dL_law_475 rfl ?_
      refine a_iload_n X dL_law_476 rfl ?_
      refine a_iconst (v := 2) X dL_law_477 (by decide) ?_
      refine a_iadd X dL_law_478 ?_
      refine a_sld X hX0 hsb hbb (by first | exact i0 | exact i1 | exact i2 | exact i3 | exact i4 | exact i5) dL_law_479 ?_
      refine a_callVx X dL_law_480 miX8_applicant lmL_48 (m_applicant h8_466) (h8_466.1.2.1) rfl rfl rfl (Nat.le_of_ble_eq_true rfl) ⟨by decide, by decide, hc, hs⟩ (fun r_480 S_480 q_480 => ?_)
      obtain rfl := q_480
      refine a_icmp_eq (tgt := 1738) X dL_law_483 (by decide) (fun h_483 => ?_) (fun h_483 => absurd (by first | rfl | decide) h_483)
      exact law_K X hr hX0 hsb hbb (Nat.le_refl 6) hc hs
    | 8, ht_33, hx_33 =>
      cases ht_33
      refine a_aload_n X dL_law_488 rfl ?_
      refine a_aload_n X dL_law_489 rfl ?_
      refine a_iload_n X dL_law_490 rfl ?_
      refine a_iconst (v := 1) X dL_law_491 (by decide) ?_
      refine a_iadd X dL_law_492 ?_
      refine a_sld X hX0 hsb hbb (by first | exact i0 | exact i1 | exact i2 | exact i3 | exact i4 | exact i5) dL_law_493 ?_
      refine a_aload_n X dL_law_494 rfl ?_
      refine a_iload_n X dL_law_495 rfl ?_
      refine a_iconst (v := 2) X dL_law_496 (by decide) ?_
      refine a_iadd X dL_law_497 ?_
      refine a_sld X hX0 hsb hbb (by first | exact i0 | exact i1 | exact i2 | exact i3 | exact i4 | exact i5) dL_law_498 ?_
      refine a_callVx X dL_law_499 miX7_choice lmL_49 (f_choice h7) (o7) rfl rfl rfl (Nat.le_of_ble_eq_true rfl) ⟨by decide, by decide, hc, hs⟩ (fun r_499 S_499 q_499 => ?_)
      obtain ⟨rfl, fl_499, fr_499⟩ := q_499
      have h8_499 := h8.keep fl_499 fr_499 (by decide)
      refine a_aload_n X dL_law_502 rfl ?_
      refine a_aload_n X dL_law_503 rfl ?_
      refine a_iload_n X dL_law_504 rfl ?_
      refine a_iconst (v := 1) X dL_law_505 (by decide) ?_
      refine a_iadd X dL_law_506 ?_
      refine a_sld X hX0 hsb hbb (by first | exact i0 | exact i1 | exact i2 | exact i3 | exact i4 | exact i5) dL_law_507 ?_
      refine a_aload_n X dL_law_508 rfl ?_
      refine a_iload_n X dL_law_509 rfl ?_
      refine a_iconst (v := 2) X dL_law_510 (by decide) ?_
      refine a_iadd X dL_law_511 ?_
      refine a_sld X hX0 hsb hbb (by first | exact i0 | exact i1 | exact i2 | exact i3 | exact i4 | exact i5) dL_law_512 ?_
      refine a_callVx X dL_law_513 miX8_choice lmL_52 (m_choice h8_499) (h8_499.1.2.1) rfl rfl rfl (Nat.le_of_ble_eq_true rfl) ⟨by decide, by decide, hc, hs⟩ (fun r_513 S_513 q_513 => ?_)
      obtain rfl := q_513
      refine a_icmp_eq (tgt := 1738) X dL_law_516 (by decide) (fun h_516 => ?_) (fun h_516 => absurd (by first | rfl | decide) h_516)
      exact law_K X hr hX0 hsb hbb (Nat.le_refl 6) hc hs
    | 9, ht_33, hx_33 =>
      cases ht_33
      refine a_aload_n X dL_law_521 rfl ?_
      refine a_aload_n X dL_law_522 rfl ?_
      refine a_iload_n X dL_law_523 rfl ?_
      refine a_iconst (v := 1) X dL_law_524 (by decide) ?_
      refine a_iadd X dL_law_525 ?_
      refine a_sld X hX0 hsb hbb (by first | exact i0 | exact i1 | exact i2 | exact i3 | exact i4 | exact i5) dL_law_526 ?_
      refine a_aload_n X dL_law_527 rfl ?_
      refine a_iload_n X dL_law_528 rfl ?_
      refine a_iconst (v := 2) X dL_law_529 (by decide) ?_
      refine a_iadd X dL_law_530 ?_
      refine a_sld X hX0 hsb hbb (by first | exact i0 | exact i1 | exact i2 | exact i3 | exact i4 | exact i5) dL_law_531 ?_
      refine a_callVx X dL_law_532 miX7_demand lmL_53 (f_demand h7) (o7) rfl rfl rfl (Nat.le_of_ble_eq_true rfl) ⟨by decide, by decide, hc, hs⟩ (fun r_532 S_532 q_532 => ?_)
      obtain ⟨rfl, fl_532, fr_532⟩ := q_532
      have h8_532 := h8.keep fl_532 fr_532 (by decide)
      refine a_aload_n X dL_law_535 rfl ?_
      refine a_aload_n X dL_law_536 rfl ?_
      refine a_iload_n X dL_law_537 rfl ?_
      refine a_iconst (v := 1) X dL_law_538 (by decide) ?_
      refine a_iadd X dL_law_539 ?_
      refine a_sld X hX0 hsb hbb (by first | exact i0 | exact i1 | exact i2 | exact i3 | exact i4 | exact i5) dL_law_540 ?_
      refine a_aload_n X dL_law_541 rfl ?_
      refine a_iload_n X dL_law_542 rfl ?_
      refine a_iconst (v := 2) X dL_law_543 (by decide) ?_
      refine a_iadd X dL_law_544 ?_
      refine a_sld X hX0 hsb hbb (by first | exact i0 | exact i1 | exact i2 | exact i3 | exact i4 | exact i5) dL_law_545 ?_
      refine a_callVx X dL_law_546 miX8_demand lmL_56 (m_demand h8_532) (h8_532.1.2.1) rfl rfl rfl (Nat.le_of_ble_eq_true rfl) ⟨by decide, by decide, hc, hs⟩ (fun r_546 S_546 q_546 => ?_)
      obtain rfl := q_546
      refine a_icmp_eq (tgt := 1738) X dL_law_549 (by decide) (fun h_549 => ?_) (fun h_549 => absurd (by first | rfl | decide) h_549)
      exact law_K X hr hX0 hsb hbb (Nat.le_refl 6) hc hs
    | 10, ht_33, hx_33 =>
      cases ht_33
      refine a_aload_n X dL_law_554 rfl ?_
      refine a_aload_n X dL_law_555 rfl ?_
      refine a_iload_n X dL_law_556 rfl ?_
      refine a_iconst (v := 1) X dL_law_557 (by decide) ?_
      refine a_iadd X dL_law_558 ?_
      refine a_sld X hX0 hsb hbb (by first | exact i0 | exact i1 | exact i2 | exact i3 | exact i4 | exact i5) dL_law_559 ?_
      refine a_aload_n X dL_law_560 rfl ?_
      refine a_iload_n X dL_law_561 rfl ?_
      refine a_iconst (v := 2) X dL_law_562 (by decide) ?_
      refine a_iadd X dL_law_563 ?_
      refine a_sld X hX0 hsb hbb (by first | exact i0 | exact i1 | exact i2 | exact i3 | exact i4 | exact i5) dL_law_564 ?_
      refine a_callVx X dL_law_565 miX7_share lmL_57 (f_share h7) (o7) rfl rfl rfl (Nat.le_of_ble_eq_true rfl) ⟨by decide, by decide, hc, hs⟩ (fun r_565 S_565 q_565 => ?_)
      obtain ⟨rfl, fl_565, fr_565⟩ := q_565
      have h8_565 := h8.keep fl_565 fr_565 (by decide)
      refine a_aload_n X dL_law_568 rfl ?_
      refine a_aload_n X dL_law_569 rfl ?_
      refine a_iload_n X dL_law_570 rfl ?_
      refine a_iconst (v := 1) X dL_law_571 (by decide) ?_
      refine a_iadd X dL_law_572 ?_
      refine a_sld X hX0 hsb hbb (by first | exact i0 | exact i1 | exact i2 | exact i3 | exact i4 | exact i5) dL_law_573 ?_
      refine a_aload_n X dL_law_574 rfl ?_
      refine a_iload_n X dL_law_575 rfl ?_
      refine a_iconst (v := 2) X dL_law_576 (by decide) ?_
      refine a_iadd X dL_law_577 ?_
      refine a_sld X hX0 hsb hbb (by first | exact i0 | exact i1 | exact i2 | exact i3 | exact i4 | exact i5) dL_law_578 ?_
      refine a_callVx X dL_law_579 miX8_share lmL_60 (m_share h8_565) (h8_565.1.2.1) rfl rfl rfl (Nat.le_of_ble_eq_true rfl) ⟨by decide, by decide, hc, hs⟩ (fun r_579 S_579 q_579 => ?_)
      obtain rfl := q_579
      refine a_icmp_eq (tgt := 1738) X dL_law_582 (by decide) (fun h_582 => ?_) (fun h_582 => absurd (by first | rfl | decide) h_582)
      exact law_K X hr hX0 hsb hbb (Nat.le_refl 6) hc hs
    | 11, ht_33, hx_33 =>
      cases ht_33
      refine a_aload_n X dL_law_587 rfl ?_
      refine a_aload_n X dL_law_588 rfl ?_
      refine a_iload_n X dL_law_589 rfl ?_
      refine a_iconst (v := 1) X dL_law_590 (by decide) ?_
      refine a_iadd X dL_law_591 ?_
      refine a_sld X hX0 hsb hbb (by first | exact i0 | exact i1 | exact i2 | exact i3 | exact i4 | exact i5) dL_law_592 ?_
      refine a_aload_n X dL_law_593 rfl ?_
      refine a_iload_n X dL_law_594 rfl ?_
      refine a_iconst (v := 2) X dL_law_595 (by decide) ?_
      refine a_iadd X dL_law_596 ?_
      refine a_sld X hX0 hsb hbb (by first | exact i0 | exact i1 | exact i2 | exact i3 | exact i4 | exact i5) dL_law_597 ?_
      refine a_callVx X dL_law_598 miX7_order lmL_61 (f_order h7) (o7) rfl rfl rfl (Nat.le_of_ble_eq_true rfl) ⟨by decide, by decide, hc, hs⟩ (fun r_598 S_598 q_598 => ?_)
      obtain ⟨rfl, fl_598, fr_598⟩ := q_598
      have h8_598 := h8.keep fl_598 fr_598 (by decide)
      refine a_aload_n X dL_law_601 rfl ?_
      refine a_aload_n X dL_law_602 rfl ?_
      refine a_iload_n X dL_law_603 rfl ?_
      refine a_iconst (v := 1) X dL_law_604 (by decide) ?_
      refine a_iadd X dL_law_605 ?_
      refine a_sld X hX0 hsb hbb (by first | exact i0 | exact i1 | exact i2 | exact i3 | exact i4 | exact i5) dL_law_606 ?_
      refine a_aload_n X dL_law_607 rfl ?_
      refine a_iload_n X dL_law_608 rfl ?_
      refine a_iconst (v := 2) X dL_law_609 (by decide) ?_
      refine a_iadd X dL_law_610 ?_
      refine a_sld X hX0 hsb hbb (by first | exact i0 | exact i1 | exact i2 | exact i3 | exact i4 | exact i5) dL_law_611 ?_
      refine a_callVx X dL_law_612 miX8_order lmL_64 (m_order h8_598) (h8_598.1.2.1) rfl rfl rfl (Nat.le_of_ble_eq_true rfl) ⟨by decide, by decide, hc, hs⟩ (fun r_612 S_612 q_612 => ?_)
      obtain rfl := q_612
      refine a_icmp_eq (tgt := 1738) X dL_law_615 (by decide) (fun h_615 => ?_) (fun h_615 => absurd (by first | rfl | decide) h_615)
      exact law_K X hr hX0 hsb hbb (Nat.le_refl 6) hc hs
    | 12, ht_33, hx_33 =>
      cases ht_33
      refine a_aload_n X dL_law_620 rfl ?_
      refine a_aload_n X dL_law_621 rfl ?_
      refine a_iload_n X dL_law_622 rfl ?_
      refine a_iconst (v := 1) X dL_law_623 (by decide) ?_
      refine a_iadd X dL_law_624 ?_
      refine a_sld X hX0 hsb hbb (by first | exact i0 | exact i1 | exact i2 | exact i3 | exact i4 | exact i5) dL_law_625 ?_
      refine a_aload_n X dL_law_626 rfl ?_
      refine a_iload_n X dL_law_627 rfl ?_
      refine a_iconst (v := 2) X dL_law_628 (by decide) ?_
      refine a_iadd X dL_law_629 ?_
      refine a_sld X hX0 hsb hbb (by first | exact i0 | exact i1 | exact i2 | exact i3 | exact i4 | exact i5) dL_law_630 ?_
      refine a_callVx X dL_law_631 miX7_drawn lmL_65 (f_drawn h7) (o7) rfl rfl rfl (Nat.le_of_ble_eq_true rfl) ⟨by decide, by decide, hc, hs⟩ (fun r_631 S_631 q_631 => ?_)
      obtain ⟨rfl, fl_631, fr_631⟩ := q_631
      have h8_631 := h8.keep fl_631 fr_631 (by decide)
      refine a_aload_n X dL_law_634 rfl ?_
      refine a_aload_n X dL_law_635 rfl ?_
      refine a_iload_n X dL_law_636 rfl ?_
      refine a_iconst (v := 1) X dL_law_637 (by decide) ?_
      refine a_iadd X dL_law_638 ?_
      refine a_sld X hX0 hsb hbb (by first | exact i0 | exact i1 | exact i2 | exact i3 | exact i4 | exact i5) dL_law_639 ?_
      refine a_aload_n X dL_law_640 rfl ?_
      refine a_iload_n X dL_law_641 rfl ?_
      refine a_iconst (v := 2) X dL_law_642 (by decide) ?_
      refine a_iadd X dL_law_643 ?_
      refine a_sld X hX0 hsb hbb (by first | exact i0 | exact i1 | exact i2 | exact i3 | exact i4 | exact i5) dL_law_644 ?_
      refine a_callVx X dL_law_645 miX8_drawn lmL_68 (m_drawn h8_631) (h8_631.1.2.1) rfl rfl rfl (Nat.le_of_ble_eq_true rfl) ⟨by decide, by decide, hc, hs⟩ (fun r_645 S_645 q_645 => ?_)
      obtain rfl := q_645
      refine a_icmp_eq (tgt := 1738) X dL_law_648 (by decide) (fun h_648 => ?_) (fun h_648 => absurd (by first | rfl | decide) h_648)
      exact law_K X hr hX0 hsb hbb (Nat.le_refl 6) hc hs
    | 13, ht_33, hx_33 =>
      cases ht_33
      refine a_aload_n X dL_law_653 rfl ?_
      refine a_aload_n X dL_law_654 rfl ?_
      refine a_iload_n X dL_law_655 rfl ?_
      refine a_iconst (v := 1) X dL_law_656 (by decide) ?_
      refine a_iadd X dL_law_657 ?_
      refine a_sld X hX0 hsb hbb (by first | exact i0 | exact i1 | exact i2 | exact i3 | exact i4 | exact i5) dL_law_658 ?_
      refine a_aload_n X dL_law_659 rfl ?_
      refine a_iload_n X dL_law_660 rfl ?_
      refine a_iconst (v := 2) X dL_law_661 (by decide) ?_
      refine a_iadd X dL_law_662 ?_
      refine a_sld X hX0 hsb hbb (by first | exact i0 | exact i1 | exact i2 | exact i3 | exact i4 | exact i5) dL_law_663 ?_
      refine a_callVx X dL_law_664 miX7_round lmL_69 (f_round h7) (o7) rfl rfl rfl (Nat.le_of_ble_eq_true rfl) ⟨by decide, by decide, hc, hs⟩ (fun r_664 S_664 q_664 => ?_)
      obtain ⟨rfl, fl_664, fr_664⟩ := q_664
      have h8_664 := h8.keep fl_664 fr_664 (by decide)
      refine a_aload_n X dL_law_667 rfl ?_
      refine a_aload_n X dL_law_668 rfl ?_
      refine a_iload_n X dL_law_669 rfl ?_
      refine a_iconst (v := 1) X dL_law_670 (by decide) ?_
      refine a_iadd X dL_law_671 ?_
      refine a_sld X hX0 hsb hbb (by first | exact i0 | exact i1 | exact i2 | exact i3 | exact i4 | exact i5) dL_law_672 ?_
      refine a_aload_n X dL_law_673 rfl ?_
      refine a_iload_n X dL_law_674 rfl ?_
      refine a_iconst (v := 2) X dL_law_675 (by decide) ?_
      refine a_iadd X dL_law_676 ?_
      refine a_sld X hX0 hsb hbb (by first | exact i0 | exact i1 | exact i2 | exact i3 | exact i4 | exact i5) dL_law_677 ?_
      refine a_callVx X dL_law_678 miX8_round lmL_72 (m_round h8_664) (h8_664.1.2.1) rfl rfl rfl (Nat.le_of_ble_eq_true rfl) ⟨by decide, by decide, hc, hs⟩ (fun r_678 S_678 q_678 => ?_)
      obtain rfl := q_678
      refine a_icmp_eq (tgt := 1738) X dL_law_681 (by decide) (fun h_681 => ?_) (fun h_681 => absurd (by first | rfl | decide) h_681)
      exact law_K X hr hX0 hsb hbb (Nat.le_refl 6) hc hs
    | 14, ht_33, hx_33 =>
      cases ht_33
      refine a_aload_n X dL_law_686 rfl ?_
      refine a_aload_n X dL_law_687 rfl ?_
      refine a_iload_n X dL_law_688 rfl ?_
      refine a_iconst (v := 1) X dL_law_689 (by decide) ?_
      refine a_iadd X dL_law_690 ?_
      refine a_sld X hX0 hsb hbb (by first | exact i0 | exact i1 | exact i2 | exact i3 | exact i4 | exact i5) dL_law_691 ?_
      refine a_aload_n X dL_law_692 rfl ?_
      refine a_iload_n X dL_law_693 rfl ?_
      refine a_iconst (v := 2) X dL_law_694 (by decide) ?_
      refine a_iadd X dL_law_695 ?_
      refine a_sld X hX0 hsb hbb (by first | exact i0 | exact i1 | exact i2 | exact i3 | exact i4 | exact i5) dL_law_696 ?_
      refine a_aload_n X dL_law_697 rfl ?_
      refine a_iload_n X dL_law_698 rfl ?_
      refine a_iconst (v := 3) X dL_law_699 (by decide) ?_
      refine a_iadd X dL_law_700 ?_
      refine a_sld X hX0 hsb hbb (by first | exact i0 | exact i1 | exact i2 | exact i3 | exact i4 | exact i5) dL_law_701 ?_
      refine a_callVx X dL_law_702 miX7_left lmL_73 (f_left h7) (o7) rfl rfl rfl (Nat.le_of_ble_eq_true rfl) ⟨by decide, by decide, hc, hs⟩ (fun r_702 S_702 q_702 => ?_)
      obtain ⟨rfl, fl_702, fr_702⟩ := q_702
      have h8_702 := h8.keep fl_702 fr_702 (by decide)
      refine a_aload_n X dL_law_705 rfl ?_
      refine a_aload_n X dL_law_706 rfl ?_
      refine a_iload_n X dL_law_707 rfl ?_
      refine a_iconst (v := 1) X dL_law_708 (by decide) ?_
      refine a_iadd X dL_law_709 ?_
      refine a_sld X hX0 hsb hbb (by first | exact i0 | exact i1 | exact i2 | exact i3 | exact i4 | exact i5) dL_law_710 ?_
      refine a_aload_n X dL_law_711 rfl ?_
      refine a_iload_n X dL_law_712 rfl ?_
      refine a_iconst (v := 2) X dL_law_713 (by decide) ?_
      refine a_iadd X dL_law_714 ?_
      refine a_sld X hX0 hsb hbb (by first | exact i0 | exact i1 | exact i2 | exact i3 | exact i4 | exact i5) dL_law_715 ?_
      refine a_aload_n X dL_law_716 rfl ?_
      refine a_iload_n X dL_law_717 rfl ?_
      refine a_iconst (v := 3) X dL_law_718 (by decide) ?_
      refine a_iadd X dL_law_719 ?_
      refine a_sld X hX0 hsb hbb (by first | exact i0 | exact i1 | exact i2 | exact i3 | exact i4 | exact i5) dL_law_720 ?_
      refine a_callVx X dL_law_721 miX8_left lmL_77 (m_left h8_702) (h8_702.1.2.1) rfl rfl rfl (Nat.le_of_ble_eq_true rfl) ⟨by decide, by decide, hc, hs⟩ (fun r_721 S_721 q_721 => ?_)
      obtain rfl := q_721
      refine a_icmp_eq (tgt := 1738) X dL_law_724 (by decide) (fun h_724 => ?_) (fun h_724 => absurd (by first | rfl | decide) h_724)
      exact law_K X hr hX0 hsb hbb (Nat.le_refl 6) hc hs
    | 15, ht_33, hx_33 =>
      cases ht_33
      refine a_aload_n X dL_law_729 rfl ?_
      refine a_aload_n X dL_law_730 rfl ?_
      refine a_iload_n X dL_law_731 rfl ?_
      refine a_iconst (v := 1) X dL_law_732 (by decide) ?_
      refine a_iadd X dL_law_733 ?_
      refine a_sld X hX0 hsb hbb (by first | exact i0 | exact i1 | exact i2 | exact i3 | exact i4 | exact i5) dL_law_734 ?_
      refine a_callVx X dL_law_735 miX7_winners lmL_78 (f_winners h7) (o7) rfl rfl rfl (Nat.le_of_ble_eq_true rfl) ⟨by decide, by decide, hc, hs⟩ (fun r_735 S_735 q_735 => ?_)
      obtain ⟨rfl, fl_735, fr_735⟩ := q_735
      have h8_735 := h8.keep fl_735 fr_735 (by decide)
      refine a_aload_n X dL_law_738 rfl ?_
      refine a_aload_n X dL_law_739 rfl ?_
      refine a_iload_n X dL_law_740 rfl ?_
      refine a_iconst (v := 1) X dL_law_741 (by decide) ?_
      refine a_iadd X dL_law_742 ?_
      refine a_sld X hX0 hsb hbb (by first | exact i0 | exact i1 | exact i2 | exact i3 | exact i4 | exact i5) dL_law_743 ?_
      refine a_callVx X dL_law_744 miX8_winners lmL_81 (m_winners h8_735) (h8_735.1.2.1) rfl rfl rfl (Nat.le_of_ble_eq_true rfl) ⟨by decide, by decide, hc, hs⟩ (fun r_744 S_744 q_744 => ?_)
      obtain rfl := q_744
      refine a_icmp_eq (tgt := 1738) X dL_law_747 (by decide) (fun h_747 => ?_) (fun h_747 => absurd (by first | rfl | decide) h_747)
      exact law_K X hr hX0 hsb hbb (Nat.le_refl 6) hc hs
    | 16, ht_33, hx_33 =>
      cases ht_33
      refine a_aload_n X dL_law_752 rfl ?_
      refine a_aload_n X dL_law_753 rfl ?_
      refine a_iload_n X dL_law_754 rfl ?_
      refine a_iconst (v := 1) X dL_law_755 (by decide) ?_
      refine a_iadd X dL_law_756 ?_
      refine a_sld X hX0 hsb hbb (by first | exact i0 | exact i1 | exact i2 | exact i3 | exact i4 | exact i5) dL_law_757 ?_
      refine a_aload_n X dL_law_758 rfl ?_
      refine a_iload_n X dL_law_759 rfl ?_
      refine a_iconst (v := 2) X dL_law_760 (by decide) ?_
      refine a_iadd X dL_law_761 ?_
      refine a_sld X hX0 hsb hbb (by first | exact i0 | exact i1 | exact i2 | exact i3 | exact i4 | exact i5) dL_law_762 ?_
      refine a_aload_n X dL_law_763 rfl ?_
      refine a_iload_n X dL_law_764 rfl ?_
      refine a_iconst (v := 3) X dL_law_765 (by decide) ?_
      refine a_iadd X dL_law_766 ?_
      refine a_sld X hX0 hsb hbb (by first | exact i0 | exact i1 | exact i2 | exact i3 | exact i4 | exact i5) dL_law_767 ?_
      refine a_callVx X dL_law_768 miX7_waits lmL_82 (f_waits h7) (o7) rfl rfl rfl (Nat.le_of_ble_eq_true rfl) ⟨by decide, by decide, hc, hs⟩ (fun r_768 S_768 q_768 => ?_)
      obtain ⟨rfl, fl_768, fr_768⟩ := q_768
      have h8_768 := h8.keep fl_768 fr_768 (by decide)
      refine a_aload_n X dL_law_771 rfl ?_
      refine a_aload_n X dL_law_772 rfl ?_
      refine a_iload_n X dL_law_773 rfl ?_
      refine a_iconst (v := 1) X dL_law_774 (by decide) ?_
      refine a_iadd X dL_law_775 ?_
      refine a_sld X hX0 hsb hbb (by first | exact i0 | exact i1 | exact i2 | exact i3 | exact i4 | exact i5) dL_law_776 ?_
      refine a_aload_n X dL_law_777 rfl ?_
      refine a_iload_n X dL_law_778 rfl ?_
      refine a_iconst (v := 2) X dL_law_779 (by decide) ?_
      refine a_iadd X dL_law_780 ?_
      refine a_sld X hX0 hsb hbb (by first | exact i0 | exact i1 | exact i2 | exact i3 | exact i4 | exact i5) dL_law_781 ?_
      refine a_aload_n X dL_law_782 rfl ?_
      refine a_iload_n X dL_law_783 rfl ?_
      refine a_iconst (v := 3) X dL_law_784 (by decide) ?_
      refine a_iadd X dL_law_785 ?_
      refine a_sld X hX0 hsb hbb (by first | exact i0 | exact i1 | exact i2 | exact i3 | exact i4 | exact i5) dL_law_786 ?_
      refine a_callVx X dL_law_787 miX8_waits lmL_85 (m_waits h8_768) (h8_768.1.2.1) rfl rfl rfl (Nat.le_of_ble_eq_true rfl) ⟨by decide, by decide, hc, hs⟩ (fun r_787 S_787 q_787 => ?_)
      obtain rfl := q_787
      refine a_icmp_eq (tgt := 1738) X dL_law_790 (by decide) (fun h_790 => ?_) (fun h_790 => absurd (by first | rfl | decide) h_790)
      exact law_K X hr hX0 hsb hbb (Nat.le_refl 6) hc hs
    | 17, ht_33, hx_33 =>
      cases ht_33
      refine a_aload_n X dL_law_795 rfl ?_
      refine a_aload_n X dL_law_796 rfl ?_
      refine a_iload_n X dL_law_797 rfl ?_
      refine a_iconst (v := 1) X dL_law_798 (by decide) ?_
      refine a_iadd X dL_law_799 ?_
      refine a_sld X hX0 hsb hbb (by first | exact i0 | exact i1 | exact i2 | exact i3 | exact i4 | exact i5) dL_law_800 ?_
      refine a_aload_n X dL_law_801 rfl ?_
      refine a_iload_n X dL_law_802 rfl ?_
      refine a_iconst (v := 2) X dL_law_803 (by decide) ?_
      refine a_iadd X dL_law_804 ?_
      refine a_sld X hX0 hsb hbb (by first | exact i0 | exact i1 | exact i2 | exact i3 | exact i4 | exact i5) dL_law_805 ?_
      refine a_aload_n X dL_law_806 rfl ?_
      refine a_iload_n X dL_law_807 rfl ?_
      refine a_iconst (v := 3) X dL_law_808 (by decide) ?_
      refine a_iadd X dL_law_809 ?_
      refine a_sld X hX0 hsb hbb (by first | exact i0 | exact i1 | exact i2 | exact i3 | exact i4 | exact i5) dL_law_810 ?_
      refine a_callVx X dL_law_811 miX7_next lmL_86 (f_next h7) (o7) rfl rfl rfl (Nat.le_of_ble_eq_true rfl) ⟨by decide, by decide, hc, hs⟩ (fun r_811 S_811 q_811 => ?_)
      obtain ⟨rfl, fl_811, fr_811⟩ := q_811
      have h8_811 := h8.keep fl_811 fr_811 (by decide)
      refine a_aload_n X dL_law_814 rfl ?_
      refine a_aload_n X dL_law_815 rfl ?_
      refine a_iload_n X dL_law_816 rfl ?_
      refine a_iconst (v := 1) X dL_law_817 (by decide) ?_
      refine a_iadd X dL_law_818 ?_
      refine a_sld X hX0 hsb hbb (by first | exact i0 | exact i1 | exact i2 | exact i3 | exact i4 | exact i5) dL_law_819 ?_
      refine a_aload_n X dL_law_820 rfl ?_
      refine a_iload_n X dL_law_821 rfl ?_
      refine a_iconst (v := 2) X dL_law_822 (by decide) ?_
      refine a_iadd X dL_law_823 ?_
      refine a_sld X hX0 hsb hbb (by first | exact i0 | exact i1 | exact i2 | exact i3 | exact i4 | exact i5) dL_law_824 ?_
      refine a_aload_n X dL_law_825 rfl ?_
      refine a_iload_n X dL_law_826 rfl ?_
      refine a_iconst (v := 3) X dL_law_827 (by decide) ?_
      refine a_iadd X dL_law_828 ?_
      refine a_sld X hX0 hsb hbb (by first | exact i0 | exact i1 | exact i2 | exact i3 | exact i4 | exact i5) dL_law_829 ?_
      refine a_callVx X dL_law_830 miX8_next_ lmL_89 (m_next_ h8_811) (h8_811.1.2.1) rfl rfl rfl (Nat.le_of_ble_eq_true rfl) ⟨by decide, by decide, hc, hs⟩ (fun r_830 S_830 q_830 => ?_)
      obtain rfl := q_830
      refine a_icmp_eq (tgt := 1738) X dL_law_833 (by decide) (fun h_833 => ?_) (fun h_833 => absurd (by first | rfl | decide) h_833)
      exact law_K X hr hX0 hsb hbb (Nat.le_refl 6) hc hs
    | 18, ht_33, hx_33 =>
      cases ht_33
      refine a_aload_n X dL_law_838 rfl ?_
      refine a_aload_n X dL_law_839 rfl ?_
      refine a_iload_n X dL_law_840 rfl ?_
      refine a_iconst (v := 1) X dL_law_841 (by decide) ?_
      refine a_iadd X dL_law_842 ?_
      refine a_sld X hX0 hsb hbb (by first | exact i0 | exact i1 | exact i2 | exact i3 | exact i4 | exact i5) dL_law_843 ?_
      refine a_aload_n X dL_law_844 rfl ?_
      refine a_iload_n X dL_law_845 rfl ?_
      refine a_iconst (v := 2) X dL_law_846 (by decide) ?_
      refine a_iadd X dL_law_847 ?_
      refine a_sld X hX0 hsb hbb (by first | exact i0 | exact i1 | exact i2 | exact i3 | exact i4 | exact i5) dL_law_848 ?_
      refine a_callVx X dL_law_849 miX7_envies lmL_90 (f_envies h7) (o7) rfl rfl rfl (Nat.le_of_ble_eq_true rfl) ⟨by decide, by decide, hc, hs⟩ (fun r_849 S_849 q_849 => ?_)
      obtain ⟨rfl, fl_849, fr_849⟩ := q_849
      have h8_849 := h8.keep fl_849 fr_849 (by decide)
      refine a_aload_n X dL_law_852 rfl ?_
      refine a_aload_n X dL_law_853 rfl ?_
      refine a_iload_n X dL_law_854 rfl ?_
      refine a_iconst (v := 1) X dL_law_855 (by decide) ?_
      refine a_iadd X dL_law_856 ?_
      refine a_sld X hX0 hsb hbb (by first | exact i0 | exact i1 | exact i2 | exact i3 | exact i4 | exact i5) dL_law_857 ?_
      refine a_aload_n X dL_law_858 rfl ?_
      refine a_iload_n X dL_law_859 rfl ?_
      refine a_iconst (v := 2) X dL_law_860 (by decide) ?_
      refine a_iadd X dL_law_861 ?_
      refine a_sld X hX0 hsb hbb (by first | exact i0 | exact i1 | exact i2 | exact i3 | exact i4 | exact i5) dL_law_862 ?_
      refine a_callVx X dL_law_863 miX8_envies lmL_93 (m_envies h8_849) (h8_849.1.2.1) rfl rfl rfl (Nat.le_of_ble_eq_true rfl) ⟨by decide, by decide, hc, hs⟩ (fun r_863 S_863 q_863 => ?_)
      obtain rfl := q_863
      refine a_icmp_eq (tgt := 1738) X dL_law_866 (by decide) (fun h_866 => ?_) (fun h_866 => absurd (by first | rfl | decide) h_866)
      exact law_K X hr hX0 hsb hbb (Nat.le_refl 6) hc hs
    | 19, ht_33, hx_33 =>
      cases ht_33
      refine a_aload_n X dL_law_871 rfl ?_
      refine a_aload_n X dL_law_872 rfl ?_
      refine a_iload_n X dL_law_873 rfl ?_
      refine a_iconst (v := 1) X dL_law_874 (by decide) ?_
      refine a_iadd X dL_law_875 ?_
      refine a_sld X hX0 hsb hbb (by first | exact i0 | exact i1 | exact i2 | exact i3 | exact i4 | exact i5) dL_law_876 ?_
      refine a_aload_n X dL_law_877 rfl ?_
      refine a_iload_n X dL_law_878 rfl ?_
      refine a_iconst (v := 2) X dL_law_879 (by decide) ?_
      refine a_iadd X dL_law_880 ?_
      refine a_sld X hX0 hsb hbb (by first | exact i0 | exact i1 | exact i2 | exact i3 | exact i4 | exact i5) dL_law_881 ?_
      refine a_callVx X dL_law_882 miX7_spoils lmL_94 (f_spoils h7) (o7) rfl rfl rfl (Nat.le_of_ble_eq_true rfl) ⟨by decide, by decide, hc, hs⟩ (fun r_882 S_882 q_882 => ?_)
      obtain ⟨rfl, fl_882, fr_882⟩ := q_882
      have h8_882 := h8.keep fl_882 fr_882 (by decide)
      refine a_aload_n X dL_law_885 rfl ?_
      refine a_aload_n X dL_law_886 rfl ?_
      refine a_iload_n X dL_law_887 rfl ?_
      refine a_iconst (v := 1) X dL_law_888 (by decide) ?_
      refine a_iadd X dL_law_889 ?_
      refine a_sld X hX0 hsb hbb (by first | exact i0 | exact i1 | exact i2 | exact i3 | exact i4 | exact i5) dL_law_890 ?_
      refine a_aload_n X dL_law_891 rfl ?_
      refine a_iload_n X dL_law_892 rfl ?_
      refine a_iconst (v := 2) X dL_law_893 (by decide) ?_
      refine a_iadd X dL_law_894 ?_
      refine a_sld X hX0 hsb hbb (by first | exact i0 | exact i1 | exact i2 | exact i3 | exact i4 | exact i5) dL_law_895 ?_
      refine a_callVx X dL_law_896 miX8_spoils lmL_97 (m_spoils h8_882) (h8_882.1.2.1) rfl rfl rfl (Nat.le_of_ble_eq_true rfl) ⟨by decide, by decide, hc, hs⟩ (fun r_896 S_896 q_896 => ?_)
      obtain rfl := q_896
      refine a_icmp_eq (tgt := 1738) X dL_law_899 (by decide) (fun h_899 => ?_) (fun h_899 => absurd (by first | rfl | decide) h_899)
      exact law_K X hr hX0 hsb hbb (Nat.le_refl 6) hc hs
    | 20, ht_33, hx_33 =>
      cases ht_33
      refine a_aload_n X dL_law_904 rfl ?_
      refine a_aload_n X dL_law_905 rfl ?_
      refine a_iload_n X dL_law_906 rfl ?_
      refine a_iconst (v := 1) X dL_law_907 (by decide) ?_
      refine a_iadd X dL_law_908 ?_
      refine a_sld X hX0 hsb hbb (by first | exact i0 | exact i1 | exact i2 | exact i3 | exact i4 | exact i5) dL_law_909 ?_
      refine a_aload_n X dL_law_910 rfl ?_
      refine a_iload_n X dL_law_911 rfl ?_
      refine a_iconst (v := 2) X dL_law_912 (by decide) ?_
      refine a_iadd X dL_law_913 ?_
      refine a_sld X hX0 hsb hbb (by first | exact i0 | exact i1 | exact i2 | exact i3 | exact i4 | exact i5) dL_law_914 ?_
      refine a_callVx X dL_law_915 miX7_behind lmL_98 (f_behind h7) (o7) rfl rfl rfl (Nat.le_of_ble_eq_true rfl) ⟨by decide, by decide, hc, hs⟩ (fun r_915 S_915 q_915 => ?_)
      obtain ⟨rfl, fl_915, fr_915⟩ := q_915
      have h8_915 := h8.keep fl_915 fr_915 (by decide)
      refine a_aload_n X dL_law_918 rfl ?_
      refine a_aload_n X dL_law_919 rfl ?_
      refine a_iload_n X dL_law_920 rfl ?_
      refine a_iconst (v := 1) X dL_law_921 (by decide) ?_
      refine a_iadd X dL_law_922 ?_
      refine a_sld X hX0 hsb hbb (by first | exact i0 | exact i1 | exact i2 | exact i3 | exact i4 | exact i5) dL_law_923 ?_
      refine a_aload_n X dL_law_924 rfl ?_
      refine a_iload_n X dL_law_925 rfl ?_
      refine a_iconst (v := 2) X dL_law_926 (by decide) ?_
      refine a_iadd X dL_law_927 ?_
      refine a_sld X hX0 hsb hbb (by first | exact i0 | exact i1 | exact i2 | exact i3 | exact i4 | exact i5) dL_law_928 ?_
      refine a_callVx X dL_law_929 miX8_behind lmL_101 (m_behind h8_915) (h8_915.1.2.1) rfl rfl rfl (Nat.le_of_ble_eq_true rfl) ⟨by decide, by decide, hc, hs⟩ (fun r_929 S_929 q_929 => ?_)
      obtain rfl := q_929
      refine a_icmp_eq (tgt := 1738) X dL_law_932 (by decide) (fun h_932 => ?_) (fun h_932 => absurd (by first | rfl | decide) h_932)
      exact law_K X hr hX0 hsb hbb (Nat.le_refl 6) hc hs
    | 21, ht_33, hx_33 =>
      cases ht_33
      refine a_aload_n X dL_law_937 rfl ?_
      refine a_aload_n X dL_law_938 rfl ?_
      refine a_iload_n X dL_law_939 rfl ?_
      refine a_iconst (v := 1) X dL_law_940 (by decide) ?_
      refine a_iadd X dL_law_941 ?_
      refine a_sld X hX0 hsb hbb (by first | exact i0 | exact i1 | exact i2 | exact i3 | exact i4 | exact i5) dL_law_942 ?_
      refine a_aload_n X dL_law_943 rfl ?_
      refine a_iload_n X dL_law_944 rfl ?_
      refine a_iconst (v := 2) X dL_law_945 (by decide) ?_
      refine a_iadd X dL_law_946 ?_
      refine a_sld X hX0 hsb hbb (by first | exact i0 | exact i1 | exact i2 | exact i3 | exact i4 | exact i5) dL_law_947 ?_
      refine a_callVx X dL_law_948 miX7_lucky lmL_102 (f_lucky h7) (o7) rfl rfl rfl (Nat.le_of_ble_eq_true rfl) ⟨by decide, by decide, hc, hs⟩ (fun r_948 S_948 q_948 => ?_)
      obtain ⟨rfl, fl_948, fr_948⟩ := q_948
      have h8_948 := h8.keep fl_948 fr_948 (by decide)
      refine a_aload_n X dL_law_951 rfl ?_
      refine a_aload_n X dL_law_952 rfl ?_
      refine a_iload_n X dL_law_953 rfl ?_
      refine a_iconst (v := 1) X dL_law_954 (by decide) ?_
      refine a_iadd X dL_law_955 ?_
      refine a_sld X hX0 hsb hbb (by first | exact i0 | exact i1 | exact i2 | exact i3 | exact i4 | exact i5) dL_law_956 ?_
      refine a_aload_n X dL_law_957 rfl ?_
      refine a_iload_n X dL_law_958 rfl ?_
      refine a_iconst (v := 2) X dL_law_959 (by decide) ?_
      refine a_iadd X dL_law_960 ?_
      refine a_sld X hX0 hsb hbb (by first | exact i0 | exact i1 | exact i2 | exact i3 | exact i4 | exact i5) dL_law_961 ?_
      refine a_callVx X dL_law_962 miX8_lucky lmL_105 (m_lucky h8_948) (h8_948.1.2.1) rfl rfl rfl (Nat.le_of_ble_eq_true rfl) ⟨by decide, by decide, hc, hs⟩ (fun r_962 S_962 q_962 => ?_)
      obtain rfl := q_962
      refine a_icmp_eq (tgt := 1738) X dL_law_965 (by decide) (fun h_965 => ?_) (fun h_965 => absurd (by first | rfl | decide) h_965)
      exact law_K X hr hX0 hsb hbb (Nat.le_refl 6) hc hs
    | 22, ht_33, hx_33 =>
      cases ht_33
      refine a_aload_n X dL_law_970 rfl ?_
      refine a_aload_n X dL_law_971 rfl ?_
      refine a_iload_n X dL_law_972 rfl ?_
      refine a_iconst (v := 1) X dL_law_973 (by decide) ?_
      refine a_iadd X dL_law_974 ?_
      refine a_sld X hX0 hsb hbb (by first | exact i0 | exact i1 | exact i2 | exact i3 | exact i4 | exact i5) dL_law_975 ?_
      refine a_aload_n X dL_law_976 rfl ?_
      refine a_iload_n X dL_law_977 rfl ?_
      refine a_iconst (v := 2) X dL_law_978 (by decide) ?_
      refine a_iadd X dL_law_979 ?_
      refine a_sld X hX0 hsb hbb (by first | exact i0 | exact i1 | exact i2 | exact i3 | exact i4 | exact i5) dL_law_980 ?_
      refine a_callVx X dL_law_981 miX7_chance lmL_106 (f_chance h7) (o7) rfl rfl rfl (Nat.le_of_ble_eq_true rfl) ⟨by decide, by decide, hc, hs⟩ (fun r_981 S_981 q_981 => ?_)
      obtain ⟨rfl, fl_981, fr_981⟩ := q_981
      have h8_981 := h8.keep fl_981 fr_981 (by decide)
      refine a_aload_n X dL_law_984 rfl ?_
      refine a_aload_n X dL_law_985 rfl ?_
      refine a_iload_n X dL_law_986 rfl ?_
      refine a_iconst (v := 1) X dL_law_987 (by decide) ?_
      refine a_iadd X dL_law_988 ?_
      refine a_sld X hX0 hsb hbb (by first | exact i0 | exact i1 | exact i2 | exact i3 | exact i4 | exact i5) dL_law_989 ?_
      refine a_aload_n X dL_law_990 rfl ?_
      refine a_iload_n X dL_law_991 rfl ?_
      refine a_iconst (v := 2) X dL_law_992 (by decide) ?_
      refine a_iadd X dL_law_993 ?_
      refine a_sld X hX0 hsb hbb (by first | exact i0 | exact i1 | exact i2 | exact i3 | exact i4 | exact i5) dL_law_994 ?_
      refine a_callVx X dL_law_995 miX8_chance lmL_110 (m_chance h8_981) (h8_981.1.2.1) rfl rfl rfl (Nat.le_of_ble_eq_true rfl) ⟨by decide, by decide, hc, hs⟩ (fun r_995 S_995 q_995 => ?_)
      obtain rfl := q_995
      refine a_lcmp X dL_law_998 ?_
      refine a_if_eq (tgt := 1738) X dL_law_999 (by decide) (fun h_999 => ?_) (fun h_999 => absurd (by first | rfl | decide) h_999)
      exact law_K X hr hX0 hsb hbb (Nat.le_refl 6) hc hs
    | 23, ht_33, hx_33 =>
      cases ht_33
      refine a_aload_n X dL_law_1004 rfl ?_
      refine a_aload_n X dL_law_1005 rfl ?_
      refine a_iload_n X dL_law_1006 rfl ?_
      refine a_iconst (v := 1) X dL_law_1007 (by decide) ?_
      refine a_iadd X dL_law_1008 ?_
      refine a_sld X hX0 hsb hbb (by first | exact i0 | exact i1 | exact i2 | exact i3 | exact i4 | exact i5) dL_law_1009 ?_
      refine a_aload_n X dL_law_1010 rfl ?_
      refine a_iload_n X dL_law_1011 rfl ?_
      refine a_iconst (v := 2) X dL_law_1012 (by decide) ?_
      refine a_iadd X dL_law_1013 ?_
      refine a_sld X hX0 hsb hbb (by first | exact i0 | exact i1 | exact i2 | exact i3 | exact i4 | exact i5) dL_law_1014 ?_
      refine a_callVx X dL_law_1015 miX7_at lmL_111 (f_at h7) (o7) rfl rfl rfl (Nat.le_of_ble_eq_true rfl) ⟨by decide, by decide, hc, hs⟩ (fun r_1015 S_1015 q_1015 => ?_)
      obtain ⟨rfl, fl_1015, fr_1015⟩ := q_1015
      have h8_1015 := h8.keep fl_1015 fr_1015 (by decide)
      refine a_aload_n X dL_law_1018 rfl ?_
      refine a_aload_n X dL_law_1019 rfl ?_
      refine a_iload_n X dL_law_1020 rfl ?_
      refine a_iconst (v := 1) X dL_law_1021 (by decide) ?_
      refine a_iadd X dL_law_1022 ?_
      refine a_sld X hX0 hsb hbb (by first | exact i0 | exact i1 | exact i2 | exact i3 | exact i4 | exact i5) dL_law_1023 ?_
      refine a_aload_n X dL_law_1024 rfl ?_
      refine a_iload_n X dL_law_1025 rfl ?_
      refine a_iconst (v := 2) X dL_law_1026 (by decide) ?_
      refine a_iadd X dL_law_1027 ?_
      refine a_sld X hX0 hsb hbb (by first | exact i0 | exact i1 | exact i2 | exact i3 | exact i4 | exact i5) dL_law_1028 ?_
      refine a_callVx X dL_law_1029 miX8_at lmL_114 (m_at h8_1015) (h8_1015.1.2.1) rfl rfl rfl (Nat.le_of_ble_eq_true rfl) ⟨by decide, by decide, hc, hs⟩ (fun r_1029 S_1029 q_1029 => ?_)
      obtain rfl := q_1029
      refine a_lcmp X dL_law_1032 ?_
      refine a_if_eq (tgt := 1738) X dL_law_1033 (by decide) (fun h_1033 => ?_) (fun h_1033 => absurd (by first | rfl | decide) h_1033)
      exact law_K X hr hX0 hsb hbb (Nat.le_refl 6) hc hs
    | 24, ht_33, hx_33 =>
      cases ht_33
      refine a_aload_n X dL_law_1038 rfl ?_
      refine a_aload_n X dL_law_1039 rfl ?_
      refine a_iload_n X dL_law_1040 rfl ?_
      refine a_iconst (v := 1) X dL_law_1041 (by decide) ?_
      refine a_iadd X dL_law_1042 ?_
      refine a_sld X hX0 hsb hbb (by first | exact i0 | exact i1 | exact i2 | exact i3 | exact i4 | exact i5) dL_law_1043 ?_
      refine a_aload_n X dL_law_1044 rfl ?_
      refine a_iload_n X dL_law_1045 rfl ?_
      refine a_iconst (v := 2) X dL_law_1046 (by decide) ?_
      refine a_iadd X dL_law_1047 ?_
      refine a_sld X hX0 hsb hbb (by first | exact i0 | exact i1 | exact i2 | exact i3 | exact i4 | exact i5) dL_law_1048 ?_
      refine a_callVx X dL_law_1049 miX7_both lmL_115 (f_both h7) (o7) rfl rfl rfl (Nat.le_of_ble_eq_true rfl) ⟨by decide, by decide, hc, hs⟩ (fun r_1049 S_1049 q_1049 => ?_)
      obtain ⟨rfl, fl_1049, fr_1049⟩ := q_1049
      have h8_1049 := h8.keep fl_1049 fr_1049 (by decide)
      refine a_aload_n X dL_law_1052 rfl ?_
      refine a_aload_n X dL_law_1053 rfl ?_
      refine a_iload_n X dL_law_1054 rfl ?_
      refine a_iconst (v := 1) X dL_law_1055 (by decide) ?_
      refine a_iadd X dL_law_1056 ?_
      refine a_sld X hX0 hsb hbb (by first | exact i0 | exact i1 | exact i2 | exact i3 | exact i4 | exact i5) dL_law_1057 ?_
      refine a_aload_n X dL_law_1058 rfl ?_
      refine a_iload_n X dL_law_1059 rfl ?_
      refine a_iconst (v := 2) X dL_law_1060 (by decide) ?_
      refine a_iadd X dL_law_1061 ?_
      refine a_sld X hX0 hsb hbb (by first | exact i0 | exact i1 | exact i2 | exact i3 | exact i4 | exact i5) dL_law_1062 ?_
      refine a_callVx X dL_law_1063 miX8_both lmL_118 (m_both h8_1049) (h8_1049.1.2.1) rfl rfl rfl (Nat.le_of_ble_eq_true rfl) ⟨by decide, by decide, hc, hs⟩ (fun r_1063 S_1063 q_1063 => ?_)
      obtain rfl := q_1063
      refine a_lcmp X dL_law_1066 ?_
      refine a_if_eq (tgt := 1738) X dL_law_1067 (by decide) (fun h_1067 => ?_) (fun h_1067 => absurd (by first | rfl | decide) h_1067)
      exact law_K X hr hX0 hsb hbb (Nat.le_refl 6) hc hs
    | 25, ht_33, hx_33 =>
      cases ht_33
      refine a_aload_n X dL_law_1072 rfl ?_
      refine a_aload_n X dL_law_1073 rfl ?_
      refine a_iload_n X dL_law_1074 rfl ?_
      refine a_iconst (v := 1) X dL_law_1075 (by decide) ?_
      refine a_iadd X dL_law_1076 ?_
      refine a_sld X hX0 hsb hbb (by first | exact i0 | exact i1 | exact i2 | exact i3 | exact i4 | exact i5) dL_law_1077 ?_
      refine a_callVx X dL_law_1078 miX7_sure lmL_119 (f_sure h7) (o7) rfl rfl rfl (Nat.le_of_ble_eq_true rfl) ⟨by decide, by decide, hc, hs⟩ (fun r_1078 S_1078 q_1078 => ?_)
      obtain ⟨rfl, fl_1078, fr_1078⟩ := q_1078
      have h8_1078 := h8.keep fl_1078 fr_1078 (by decide)
      refine a_aload_n X dL_law_1081 rfl ?_
      refine a_aload_n X dL_law_1082 rfl ?_
      refine a_iload_n X dL_law_1083 rfl ?_
      refine a_iconst (v := 1) X dL_law_1084 (by decide) ?_
      refine a_iadd X dL_law_1085 ?_
      refine a_sld X hX0 hsb hbb (by first | exact i0 | exact i1 | exact i2 | exact i3 | exact i4 | exact i5) dL_law_1086 ?_
      refine a_callVx X dL_law_1087 miX8_sure lmL_122 (m_sure h8_1078) (h8_1078.1.2.1) rfl rfl rfl (Nat.le_of_ble_eq_true rfl) ⟨by decide, by decide, hc, hs⟩ (fun r_1087 S_1087 q_1087 => ?_)
      obtain rfl := q_1087
      refine a_icmp_eq (tgt := 1738) X dL_law_1090 (by decide) (fun h_1090 => ?_) (fun h_1090 => absurd (by first | rfl | decide) h_1090)
      exact law_K X hr hX0 hsb hbb (Nat.le_refl 6) hc hs
    | 26, ht_33, hx_33 =>
      cases ht_33
      refine a_aload_n X dL_law_1095 rfl ?_
      refine a_aload_n X dL_law_1096 rfl ?_
      refine a_iload_n X dL_law_1097 rfl ?_
      refine a_iconst (v := 1) X dL_law_1098 (by decide) ?_
      refine a_iadd X dL_law_1099 ?_
      refine a_sld X hX0 hsb hbb (by first | exact i0 | exact i1 | exact i2 | exact i3 | exact i4 | exact i5) dL_law_1100 ?_
      refine a_callVx X dL_law_1101 miX7_mean lmL_123 (f_mean h7) (o7) rfl rfl rfl (Nat.le_of_ble_eq_true rfl) ⟨by decide, by decide, hc, hs⟩ (fun r_1101 S_1101 q_1101 => ?_)
      obtain ⟨rfl, fl_1101, fr_1101⟩ := q_1101
      have h8_1101 := h8.keep fl_1101 fr_1101 (by decide)
      refine a_aload_n X dL_law_1104 rfl ?_
      refine a_aload_n X dL_law_1105 rfl ?_
      refine a_iload_n X dL_law_1106 rfl ?_
      refine a_iconst (v := 1) X dL_law_1107 (by decide) ?_
      refine a_iadd X dL_law_1108 ?_
      refine a_sld X hX0 hsb hbb (by first | exact i0 | exact i1 | exact i2 | exact i3 | exact i4 | exact i5) dL_law_1109 ?_
      refine a_callVx X dL_law_1110 miX8_mean lmL_127 (m_mean h8_1101) (h8_1101.1.2.1) rfl rfl rfl (Nat.le_of_ble_eq_true rfl) ⟨by decide, by decide, hc, hs⟩ (fun r_1110 S_1110 q_1110 => ?_)
      obtain rfl := q_1110
      refine a_lcmp X dL_law_1113 ?_
      refine a_if_eq (tgt := 1738) X dL_law_1114 (by decide) (fun h_1114 => ?_) (fun h_1114 => absurd (by first | rfl | decide) h_1114)
      exact law_K X hr hX0 hsb hbb (Nat.le_refl 6) hc hs
    | 27, ht_33, hx_33 =>
      cases ht_33
      refine a_aload_n X dL_law_1119 rfl ?_
      refine a_aload_n X dL_law_1120 rfl ?_
      refine a_iload_n X dL_law_1121 rfl ?_
      refine a_iconst (v := 1) X dL_law_1122 (by decide) ?_
      refine a_iadd X dL_law_1123 ?_
      refine a_sld X hX0 hsb hbb (by first | exact i0 | exact i1 | exact i2 | exact i3 | exact i4 | exact i5) dL_law_1124 ?_
      refine a_callVx X dL_law_1125 miX7_given lmL_128 (f_given h7) (o7) rfl rfl rfl (Nat.le_of_ble_eq_true rfl) ⟨by decide, by decide, hc, hs⟩ (fun r_1125 S_1125 q_1125 => ?_)
      obtain ⟨rfl, fl_1125, fr_1125⟩ := q_1125
      have h8_1125 := h8.keep fl_1125 fr_1125 (by decide)
      refine a_aload_n X dL_law_1128 rfl ?_
      refine a_aload_n X dL_law_1129 rfl ?_
      refine a_iload_n X dL_law_1130 rfl ?_
      refine a_iconst (v := 1) X dL_law_1131 (by decide) ?_
      refine a_iadd X dL_law_1132 ?_
      refine a_sld X hX0 hsb hbb (by first | exact i0 | exact i1 | exact i2 | exact i3 | exact i4 | exact i5) dL_law_1133 ?_
      refine a_callVx X dL_law_1134 miX8_given lmL_131 (m_given h8_1125) (h8_1125.1.2.1) rfl rfl rfl (Nat.le_of_ble_eq_true rfl) ⟨by decide, by decide, hc, hs⟩ (fun r_1134 S_1134 q_1134 => ?_)
      obtain rfl := q_1134
      refine a_icmp_eq (tgt := 1738) X dL_law_1137 (by decide) (fun h_1137 => ?_) (fun h_1137 => absurd (by first | rfl | decide) h_1137)
      exact law_K X hr hX0 hsb hbb (Nat.le_refl 6) hc hs
    | 28, ht_33, hx_33 =>
      cases ht_33
      refine a_aload_n X dL_law_1142 rfl ?_
      refine a_callVx X dL_law_1143 miX7_ends lmL_132 (f_ends h7) (o7) rfl rfl rfl (Nat.le_of_ble_eq_true rfl) ⟨by decide, by decide, hc, hs⟩ (fun r_1143 S_1143 q_1143 => ?_)
      obtain ⟨rfl, fl_1143, fr_1143⟩ := q_1143
      have h8_1143 := h8.keep fl_1143 fr_1143 (by decide)
      refine a_aload_n X dL_law_1146 rfl ?_
      refine a_callVx X dL_law_1147 miX8_ends lmL_135 (m_ends h8_1143) (h8_1143.1.2.1) rfl rfl rfl (Nat.le_of_ble_eq_true rfl) ⟨by decide, by decide, hc, hs⟩ (fun r_1147 S_1147 q_1147 => ?_)
      obtain rfl := q_1147
      refine a_icmp_eq (tgt := 1738) X dL_law_1150 (by decide) (fun h_1150 => ?_) (fun h_1150 => absurd (by first | rfl | decide) h_1150)
      exact law_K X hr hX0 hsb hbb (Nat.le_refl 6) hc hs
    | 29, ht_33, hx_33 =>
      cases ht_33
      refine a_aload_n X dL_law_1155 rfl ?_
      refine a_aload_n X dL_law_1156 rfl ?_
      refine a_iload_n X dL_law_1157 rfl ?_
      refine a_iconst (v := 1) X dL_law_1158 (by decide) ?_
      refine a_iadd X dL_law_1159 ?_
      refine a_sld X hX0 hsb hbb (by first | exact i0 | exact i1 | exact i2 | exact i3 | exact i4 | exact i5) dL_law_1160 ?_
      refine a_aload_n X dL_law_1161 rfl ?_
      refine a_iload_n X dL_law_1162 rfl ?_
      refine a_iconst (v := 2) X dL_law_1163 (by decide) ?_
      refine a_iadd X dL_law_1164 ?_
      refine a_sld X hX0 hsb hbb (by first | exact i0 | exact i1 | exact i2 | exact i3 | exact i4 | exact i5) dL_law_1165 ?_
      refine a_callVx X dL_law_1166 miX7_need lmL_136 (f_need h7) (o7) rfl rfl rfl (Nat.le_of_ble_eq_true rfl) ⟨by decide, by decide, hc, hs⟩ (fun r_1166 S_1166 q_1166 => ?_)
      obtain ⟨rfl, fl_1166, fr_1166⟩ := q_1166
      have h8_1166 := h8.keep fl_1166 fr_1166 (by decide)
      refine a_aload_n X dL_law_1169 rfl ?_
      refine a_aload_n X dL_law_1170 rfl ?_
      refine a_iload_n X dL_law_1171 rfl ?_
      refine a_iconst (v := 1) X dL_law_1172 (by decide) ?_
      refine a_iadd X dL_law_1173 ?_
      refine a_sld X hX0 hsb hbb (by first | exact i0 | exact i1 | exact i2 | exact i3 | exact i4 | exact i5) dL_law_1174 ?_
      refine a_aload_n X dL_law_1175 rfl ?_
      refine a_iload_n X dL_law_1176 rfl ?_
      refine a_iconst (v := 2) X dL_law_1177 (by decide) ?_
      refine a_iadd X dL_law_1178 ?_
      refine a_sld X hX0 hsb hbb (by first | exact i0 | exact i1 | exact i2 | exact i3 | exact i4 | exact i5) dL_law_1179 ?_
      refine a_callVx X dL_law_1180 miX8_need lmL_139 (m_need h8_1166) (h8_1166.1.2.1) rfl rfl rfl (Nat.le_of_ble_eq_true rfl) ⟨by decide, by decide, hc, hs⟩ (fun r_1180 S_1180 q_1180 => ?_)
      obtain rfl := q_1180
      refine a_icmp_eq (tgt := 1738) X dL_law_1183 (by decide) (fun h_1183 => ?_) (fun h_1183 => absurd (by first | rfl | decide) h_1183)
      exact law_K X hr hX0 hsb hbb (Nat.le_refl 6) hc hs
    | 30, ht_33, hx_33 =>
      cases ht_33
      refine a_aload_n X dL_law_1188 rfl ?_
      refine a_aload_n X dL_law_1189 rfl ?_
      refine a_iload_n X dL_law_1190 rfl ?_
      refine a_iconst (v := 1) X dL_law_1191 (by decide) ?_
      refine a_iadd X dL_law_1192 ?_
      refine a_sld X hX0 hsb hbb (by first | exact i0 | exact i1 | exact i2 | exact i3 | exact i4 | exact i5) dL_law_1193 ?_
      refine a_callVx X dL_law_1194 miX7_wise lmL_140 (f_wise h7) (o7) rfl rfl rfl (Nat.le_of_ble_eq_true rfl) ⟨by decide, by decide, hc, hs⟩ (fun r_1194 S_1194 q_1194 => ?_)
      obtain ⟨rfl, fl_1194, fr_1194⟩ := q_1194
      have h8_1194 := h8.keep fl_1194 fr_1194 (by decide)
      refine a_aload_n X dL_law_1197 rfl ?_
      refine a_aload_n X dL_law_1198 rfl ?_
      refine a_iload_n X dL_law_1199 rfl ?_
      refine a_iconst (v := 1) X dL_law_1200 (by decide) ?_
      refine a_iadd X dL_law_1201 ?_
      refine a_sld X hX0 hsb hbb (by first | exact i0 | exact i1 | exact i2 | exact i3 | exact i4 | exact i5) dL_law_1202 ?_
      refine a_callVx X dL_law_1203 miX8_wise lmL_143 (m_wise h8_1194) (h8_1194.1.2.1) rfl rfl rfl (Nat.le_of_ble_eq_true rfl) ⟨by decide, by decide, hc, hs⟩ (fun r_1203 S_1203 q_1203 => ?_)
      obtain rfl := q_1203
      refine a_icmp_eq (tgt := 1738) X dL_law_1206 (by decide) (fun h_1206 => ?_) (fun h_1206 => absurd (by first | rfl | decide) h_1206)
      exact law_K X hr hX0 hsb hbb (Nat.le_refl 6) hc hs
    | 31, ht_33, hx_33 =>
      cases ht_33
      refine a_aload_n X dL_law_1211 rfl ?_
      refine a_aload_n X dL_law_1212 rfl ?_
      refine a_iload_n X dL_law_1213 rfl ?_
      refine a_iconst (v := 1) X dL_law_1214 (by decide) ?_
      refine a_iadd X dL_law_1215 ?_
      refine a_sld X hX0 hsb hbb (by first | exact i0 | exact i1 | exact i2 | exact i3 | exact i4 | exact i5) dL_law_1216 ?_
      refine a_callVx X dL_law_1217 miX7_wiseChance lmL_144 (f_wiseChance h7) (o7) rfl rfl rfl (Nat.le_of_ble_eq_true rfl) ⟨by decide, by decide, hc, hs⟩ (fun r_1217 S_1217 q_1217 => ?_)
      obtain ⟨rfl, fl_1217, fr_1217⟩ := q_1217
      have h8_1217 := h8.keep fl_1217 fr_1217 (by decide)
      refine a_aload_n X dL_law_1220 rfl ?_
      refine a_aload_n X dL_law_1221 rfl ?_
      refine a_iload_n X dL_law_1222 rfl ?_
      refine a_iconst (v := 1) X dL_law_1223 (by decide) ?_
      refine a_iadd X dL_law_1224 ?_
      refine a_sld X hX0 hsb hbb (by first | exact i0 | exact i1 | exact i2 | exact i3 | exact i4 | exact i5) dL_law_1225 ?_
      refine a_callVx X dL_law_1226 miX8_wiseChance lmL_147 (m_wiseChance h8_1217) (h8_1217.1.2.1) rfl rfl rfl (Nat.le_of_ble_eq_true rfl) ⟨by decide, by decide, hc, hs⟩ (fun r_1226 S_1226 q_1226 => ?_)
      obtain rfl := q_1226
      refine a_lcmp X dL_law_1229 ?_
      refine a_if_eq (tgt := 1738) X dL_law_1230 (by decide) (fun h_1230 => ?_) (fun h_1230 => absurd (by first | rfl | decide) h_1230)
      exact law_K X hr hX0 hsb hbb (Nat.le_refl 6) hc hs
    | 32, ht_33, hx_33 =>
      cases ht_33
      refine a_aload_n X dL_law_1235 rfl ?_
      refine a_aload_n X dL_law_1236 rfl ?_
      refine a_iload_n X dL_law_1237 rfl ?_
      refine a_iconst (v := 1) X dL_law_1238 (by decide) ?_
      refine a_iadd X dL_law_1239 ?_
      refine a_sld X hX0 hsb hbb (by first | exact i0 | exact i1 | exact i2 | exact i3 | exact i4 | exact i5) dL_law_1240 ?_
      refine a_aload_n X dL_law_1241 rfl ?_
      refine a_iload_n X dL_law_1242 rfl ?_
      refine a_iconst (v := 2) X dL_law_1243 (by decide) ?_
      refine a_iadd X dL_law_1244 ?_
      refine a_sld X hX0 hsb hbb (by first | exact i0 | exact i1 | exact i2 | exact i3 | exact i4 | exact i5) dL_law_1245 ?_
      refine a_callVx X dL_law_1246 miX7_together lmL_148 (f_together h7) (o7) rfl rfl rfl (Nat.le_of_ble_eq_true rfl) ⟨by decide, by decide, hc, hs⟩ (fun r_1246 S_1246 q_1246 => ?_)
      obtain ⟨rfl, fl_1246, fr_1246⟩ := q_1246
      have h8_1246 := h8.keep fl_1246 fr_1246 (by decide)
      refine a_aload_n X dL_law_1249 rfl ?_
      refine a_aload_n X dL_law_1250 rfl ?_
      refine a_iload_n X dL_law_1251 rfl ?_
      refine a_iconst (v := 1) X dL_law_1252 (by decide) ?_
      refine a_iadd X dL_law_1253 ?_
      refine a_sld X hX0 hsb hbb (by first | exact i0 | exact i1 | exact i2 | exact i3 | exact i4 | exact i5) dL_law_1254 ?_
      refine a_aload_n X dL_law_1255 rfl ?_
      refine a_iload_n X dL_law_1256 rfl ?_
      refine a_iconst (v := 2) X dL_law_1257 (by decide) ?_
      refine a_iadd X dL_law_1258 ?_
      refine a_sld X hX0 hsb hbb (by first | exact i0 | exact i1 | exact i2 | exact i3 | exact i4 | exact i5) dL_law_1259 ?_
      refine a_callVx X dL_law_1260 miX8_together lmL_151 (m_together h8_1246) (h8_1246.1.2.1) rfl rfl rfl (Nat.le_of_ble_eq_true rfl) ⟨by decide, by decide, hc, hs⟩ (fun r_1260 S_1260 q_1260 => ?_)
      obtain rfl := q_1260
      refine a_lcmp X dL_law_1263 ?_
      refine a_if_eq (tgt := 1738) X dL_law_1264 (by decide) (fun h_1264 => ?_) (fun h_1264 => absurd (by first | rfl | decide) h_1264)
      exact law_K X hr hX0 hsb hbb (Nat.le_refl 6) hc hs
    | 33, ht_33, hx_33 =>
      cases ht_33
      refine a_aload_n X dL_law_1269 rfl ?_
      refine a_aload_n X dL_law_1270 rfl ?_
      refine a_iload_n X dL_law_1271 rfl ?_
      refine a_iconst (v := 1) X dL_law_1272 (by decide) ?_
      refine a_iadd X dL_law_1273 ?_
      refine a_sld X hX0 hsb hbb (by first | exact i0 | exact i1 | exact i2 | exact i3 | exact i4 | exact i5) dL_law_1274 ?_
      refine a_callVx X dL_law_1275 miX7_apart lmL_152 (f_apart h7) (o7) rfl rfl rfl (Nat.le_of_ble_eq_true rfl) ⟨by decide, by decide, hc, hs⟩ (fun r_1275 S_1275 q_1275 => ?_)
      obtain ⟨rfl, fl_1275, fr_1275⟩ := q_1275
      have h8_1275 := h8.keep fl_1275 fr_1275 (by decide)
      refine a_aload_n X dL_law_1278 rfl ?_
      refine a_aload_n X dL_law_1279 rfl ?_
      refine a_iload_n X dL_law_1280 rfl ?_
      refine a_iconst (v := 1) X dL_law_1281 (by decide) ?_
      refine a_iadd X dL_law_1282 ?_
      refine a_sld X hX0 hsb hbb (by first | exact i0 | exact i1 | exact i2 | exact i3 | exact i4 | exact i5) dL_law_1283 ?_
      refine a_callVx X dL_law_1284 miX8_apart lmL_155 (m_apart h8_1275) (h8_1275.1.2.1) rfl rfl rfl (Nat.le_of_ble_eq_true rfl) ⟨by decide, by decide, hc, hs⟩ (fun r_1284 S_1284 q_1284 => ?_)
      obtain rfl := q_1284
      refine a_lcmp X dL_law_1287 ?_
      refine a_if_eq (tgt := 1738) X dL_law_1288 (by decide) (fun h_1288 => ?_) (fun h_1288 => absurd (by first | rfl | decide) h_1288)
      exact law_K X hr hX0 hsb hbb (Nat.le_refl 6) hc hs
    | 34, ht_33, hx_33 =>
      cases ht_33
      refine a_aload_n X dL_law_1293 rfl ?_
      refine a_aload_n X dL_law_1294 rfl ?_
      refine a_iload_n X dL_law_1295 rfl ?_
      refine a_iconst (v := 1) X dL_law_1296 (by decide) ?_
      refine a_iadd X dL_law_1297 ?_
      refine a_sld X hX0 hsb hbb (by first | exact i0 | exact i1 | exact i2 | exact i3 | exact i4 | exact i5) dL_law_1298 ?_
      refine a_callVx X dL_law_1299 miX7_likes lmL_156 (f_likes h7) (o7) rfl rfl rfl (Nat.le_of_ble_eq_true rfl) ⟨by decide, by decide, hc, hs⟩ (fun r_1299 S_1299 q_1299 => ?_)
      obtain ⟨rfl, fl_1299, fr_1299⟩ := q_1299
      have h8_1299 := h8.keep fl_1299 fr_1299 (by decide)
      refine a_aload_n X dL_law_1302 rfl ?_
      refine a_aload_n X dL_law_1303 rfl ?_
      refine a_iload_n X dL_law_1304 rfl ?_
      refine a_iconst (v := 1) X dL_law_1305 (by decide) ?_
      refine a_iadd X dL_law_1306 ?_
      refine a_sld X hX0 hsb hbb (by first | exact i0 | exact i1 | exact i2 | exact i3 | exact i4 | exact i5) dL_law_1307 ?_
      refine a_callVx X dL_law_1308 miX8_likes lmL_159 (m_likes h8_1299) (h8_1299.1.2.1) rfl rfl rfl (Nat.le_of_ble_eq_true rfl) ⟨by decide, by decide, hc, hs⟩ (fun r_1308 S_1308 q_1308 => ?_)
      obtain rfl := q_1308
      refine a_icmp_eq (tgt := 1738) X dL_law_1311 (by decide) (fun h_1311 => ?_) (fun h_1311 => absurd (by first | rfl | decide) h_1311)
      exact law_K X hr hX0 hsb hbb (Nat.le_refl 6) hc hs
    | 35, ht_33, hx_33 =>
      cases ht_33
      refine a_aload_n X dL_law_1316 rfl ?_
      refine a_aload_n X dL_law_1317 rfl ?_
      refine a_iload_n X dL_law_1318 rfl ?_
      refine a_iconst (v := 1) X dL_law_1319 (by decide) ?_
      refine a_iadd X dL_law_1320 ?_
      refine a_sld X hX0 hsb hbb (by first | exact i0 | exact i1 | exact i2 | exact i3 | exact i4 | exact i5) dL_law_1321 ?_
      refine a_aload_n X dL_law_1322 rfl ?_
      refine a_iload_n X dL_law_1323 rfl ?_
      refine a_iconst (v := 2) X dL_law_1324 (by decide) ?_
      refine a_iadd X dL_law_1325 ?_
      refine a_sld X hX0 hsb hbb (by first | exact i0 | exact i1 | exact i2 | exact i3 | exact i4 | exact i5) dL_law_1326 ?_
      refine a_aload_n X dL_law_1327 rfl ?_
      refine a_iload_n X dL_law_1328 rfl ?_
      refine a_iconst (v := 3) X dL_law_1329 (by decide) ?_
      refine a_iadd X dL_law_1330 ?_
      refine a_sld X hX0 hsb hbb (by first | exact i0 | exact i1 | exact i2 | exact i3 | exact i4 | exact i5) dL_law_1331 ?_
      refine a_callVx X dL_law_1332 miX7_years lmL_160 (f_years h7) (o7) rfl rfl rfl (Nat.le_of_ble_eq_true rfl) ⟨by decide, by decide, hc, hs⟩ (fun r_1332 S_1332 q_1332 => ?_)
      obtain ⟨rfl, fl_1332, fr_1332⟩ := q_1332
      have h8_1332 := h8.keep fl_1332 fr_1332 (by decide)
      refine a_aload_n X dL_law_1335 rfl ?_
      refine a_aload_n X dL_law_1336 rfl ?_
      refine a_iload_n X dL_law_1337 rfl ?_
      refine a_iconst (v := 1) X dL_law_1338 (by decide) ?_
      refine a_iadd X dL_law_1339 ?_
      refine a_sld X hX0 hsb hbb (by first | exact i0 | exact i1 | exact i2 | exact i3 | exact i4 | exact i5) dL_law_1340 ?_
      refine a_aload_n X dL_law_1341 rfl ?_
      refine a_iload_n X dL_law_1342 rfl ?_
      refine a_iconst (v := 2) X dL_law_1343 (by decide) ?_
      refine a_iadd X dL_law_1344 ?_
      refine a_sld X hX0 hsb hbb (by first | exact i0 | exact i1 | exact i2 | exact i3 | exact i4 | exact i5) dL_law_1345 ?_
      refine a_aload_n X dL_law_1346 rfl ?_
      refine a_iload_n X dL_law_1347 rfl ?_
      refine a_iconst (v := 3) X dL_law_1348 (by decide) ?_
      refine a_iadd X dL_law_1349 ?_
      refine a_sld X hX0 hsb hbb (by first | exact i0 | exact i1 | exact i2 | exact i3 | exact i4 | exact i5) dL_law_1350 ?_
      refine a_callVx X dL_law_1351 miX8_years lmL_163 (m_years h8_1332) (h8_1332.1.2.1) rfl rfl rfl (Nat.le_of_ble_eq_true rfl) ⟨by decide, by decide, hc, hs⟩ (fun r_1351 S_1351 q_1351 => ?_)
      obtain rfl := q_1351
      refine a_icmp_eq (tgt := 1738) X dL_law_1354 (by decide) (fun h_1354 => ?_) (fun h_1354 => absurd (by first | rfl | decide) h_1354)
      exact law_K X hr hX0 hsb hbb (Nat.le_refl 6) hc hs
    | 36, ht_33, hx_33 =>
      cases ht_33
      refine a_aload_n X dL_law_1359 rfl ?_
      refine a_aload_n X dL_law_1360 rfl ?_
      refine a_iload_n X dL_law_1361 rfl ?_
      refine a_iconst (v := 1) X dL_law_1362 (by decide) ?_
      refine a_iadd X dL_law_1363 ?_
      refine a_sld X hX0 hsb hbb (by first | exact i0 | exact i1 | exact i2 | exact i3 | exact i4 | exact i5) dL_law_1364 ?_
      refine a_aload_n X dL_law_1365 rfl ?_
      refine a_iload_n X dL_law_1366 rfl ?_
      refine a_iconst (v := 2) X dL_law_1367 (by decide) ?_
      refine a_iadd X dL_law_1368 ?_
      refine a_sld X hX0 hsb hbb (by first | exact i0 | exact i1 | exact i2 | exact i3 | exact i4 | exact i5) dL_law_1369 ?_
      refine a_aload_n X dL_law_1370 rfl ?_
      refine a_iload_n X dL_law_1371 rfl ?_
      refine a_iconst (v := 3) X dL_law_1372 (by decide) ?_
      refine a_iadd X dL_law_1373 ?_
      refine a_sld X hX0 hsb hbb (by first | exact i0 | exact i1 | exact i2 | exact i3 | exact i4 | exact i5) dL_law_1374 ?_
      refine a_callVx X dL_law_1375 miX7_often lmL_164 (f_often h7) (o7) rfl rfl rfl (Nat.le_of_ble_eq_true rfl) ⟨by decide, by decide, hc, hs⟩ (fun r_1375 S_1375 q_1375 => ?_)
      obtain ⟨rfl, fl_1375, fr_1375⟩ := q_1375
      have h8_1375 := h8.keep fl_1375 fr_1375 (by decide)
      refine a_aload_n X dL_law_1378 rfl ?_
      refine a_aload_n X dL_law_1379 rfl ?_
      refine a_iload_n X dL_law_1380 rfl ?_
      refine a_iconst (v := 1) X dL_law_1381 (by decide) ?_
      refine a_iadd X dL_law_1382 ?_
      refine a_sld X hX0 hsb hbb (by first | exact i0 | exact i1 | exact i2 | exact i3 | exact i4 | exact i5) dL_law_1383 ?_
      refine a_aload_n X dL_law_1384 rfl ?_
      refine a_iload_n X dL_law_1385 rfl ?_
      refine a_iconst (v := 2) X dL_law_1386 (by decide) ?_
      refine a_iadd X dL_law_1387 ?_
      refine a_sld X hX0 hsb hbb (by first | exact i0 | exact i1 | exact i2 | exact i3 | exact i4 | exact i5) dL_law_1388 ?_
      refine a_aload_n X dL_law_1389 rfl ?_
      refine a_iload_n X dL_law_1390 rfl ?_
      refine a_iconst (v := 3) X dL_law_1391 (by decide) ?_
      refine a_iadd X dL_law_1392 ?_
      refine a_sld X hX0 hsb hbb (by first | exact i0 | exact i1 | exact i2 | exact i3 | exact i4 | exact i5) dL_law_1393 ?_
      refine a_callVx X dL_law_1394 miX8_often lmL_167 (m_often h8_1375) (h8_1375.1.2.1) rfl rfl rfl (Nat.le_of_ble_eq_true rfl) ⟨by decide, by decide, hc, hs⟩ (fun r_1394 S_1394 q_1394 => ?_)
      obtain rfl := q_1394
      refine a_icmp_eq (tgt := 1738) X dL_law_1397 (by decide) (fun h_1397 => ?_) (fun h_1397 => absurd (by first | rfl | decide) h_1397)
      exact law_K X hr hX0 hsb hbb (Nat.le_refl 6) hc hs
    | 37, ht_33, hx_33 =>
      cases ht_33
      refine a_aload_n X dL_law_1402 rfl ?_
      refine a_aload_n X dL_law_1403 rfl ?_
      refine a_iload_n X dL_law_1404 rfl ?_
      refine a_iconst (v := 1) X dL_law_1405 (by decide) ?_
      refine a_iadd X dL_law_1406 ?_
      refine a_sld X hX0 hsb hbb (by first | exact i0 | exact i1 | exact i2 | exact i3 | exact i4 | exact i5) dL_law_1407 ?_
      refine a_aload_n X dL_law_1408 rfl ?_
      refine a_iload_n X dL_law_1409 rfl ?_
      refine a_iconst (v := 2) X dL_law_1410 (by decide) ?_
      refine a_iadd X dL_law_1411 ?_
      refine a_sld X hX0 hsb hbb (by first | exact i0 | exact i1 | exact i2 | exact i3 | exact i4 | exact i5) dL_law_1412 ?_
      refine a_aload_n X dL_law_1413 rfl ?_
      refine a_iload_n X dL_law_1414 rfl ?_
      refine a_iconst (v := 3) X dL_law_1415 (by decide) ?_
      refine a_iadd X dL_law_1416 ?_
      refine a_sld X hX0 hsb hbb (by first | exact i0 | exact i1 | exact i2 | exact i3 | exact i4 | exact i5) dL_law_1417 ?_
      refine a_callVx X dL_law_1418 miX7_soonest lmL_168 (f_soonest h7) (o7) rfl rfl rfl (Nat.le_of_ble_eq_true rfl) ⟨by decide, by decide, hc, hs⟩ (fun r_1418 S_1418 q_1418 => ?_)
      obtain ⟨rfl, fl_1418, fr_1418⟩ := q_1418
      have h8_1418 := h8.keep fl_1418 fr_1418 (by decide)
      refine a_aload_n X dL_law_1421 rfl ?_
      refine a_aload_n X dL_law_1422 rfl ?_
      refine a_iload_n X dL_law_1423 rfl ?_
      refine a_iconst (v := 1) X dL_law_1424 (by decide) ?_
      refine a_iadd X dL_law_1425 ?_
      refine a_sld X hX0 hsb hbb (by first | exact i0 | exact i1 | exact i2 | exact i3 | exact i4 | exact i5) dL_law_1426 ?_
      refine a_aload_n X dL_law_1427 rfl ?_
      refine a_iload_n X dL_law_1428 rfl ?_
      refine a_iconst (v := 2) X dL_law_1429 (by decide) ?_
      refine a_iadd X dL_law_1430 ?_
      refine a_sld X hX0 hsb hbb (by first | exact i0 | exact i1 | exact i2 | exact i3 | exact i4 | exact i5) dL_law_1431 ?_
      refine a_aload_n X dL_law_1432 rfl ?_
      refine a_iload_n X dL_law_1433 rfl ?_
      refine a_iconst (v := 3) X dL_law_1434 (by decide) ?_
      refine a_iadd X dL_law_1435 ?_
      refine a_sld X hX0 hsb hbb (by first | exact i0 | exact i1 | exact i2 | exact i3 | exact i4 | exact i5) dL_law_1436 ?_
      refine a_callVx X dL_law_1437 miX8_soonest lmL_171 (m_soonest h8_1418) (h8_1418.1.2.1) rfl rfl rfl (Nat.le_of_ble_eq_true rfl) ⟨by decide, by decide, hc, hs⟩ (fun r_1437 S_1437 q_1437 => ?_)
      obtain rfl := q_1437
      refine a_icmp_eq (tgt := 1738) X dL_law_1440 (by decide) (fun h_1440 => ?_) (fun h_1440 => absurd (by first | rfl | decide) h_1440)
      exact law_K X hr hX0 hsb hbb (Nat.le_refl 6) hc hs
    | 38, ht_33, hx_33 =>
      cases ht_33
      refine a_aload_n X dL_law_1445 rfl ?_
      refine a_aload_n X dL_law_1446 rfl ?_
      refine a_iload_n X dL_law_1447 rfl ?_
      refine a_iconst (v := 1) X dL_law_1448 (by decide) ?_
      refine a_iadd X dL_law_1449 ?_
      refine a_sld X hX0 hsb hbb (by first | exact i0 | exact i1 | exact i2 | exact i3 | exact i4 | exact i5) dL_law_1450 ?_
      refine a_callVx X dL_law_1451 miX7_draw lmL_172 (f_draw h7) (o7) rfl rfl rfl (Nat.le_of_ble_eq_true rfl) ⟨by decide, by decide, hc, hs⟩ (fun r_1451 S_1451 q_1451 => ?_)
      obtain ⟨rfl, fl_1451, fr_1451⟩ := q_1451
      have h8_1451 := h8.keep fl_1451 fr_1451 (by decide)
      refine a_aload_n X dL_law_1454 rfl ?_
      refine a_aload_n X dL_law_1455 rfl ?_
      refine a_iload_n X dL_law_1456 rfl ?_
      refine a_iconst (v := 1) X dL_law_1457 (by decide) ?_
      refine a_iadd X dL_law_1458 ?_
      refine a_sld X hX0 hsb hbb (by first | exact i0 | exact i1 | exact i2 | exact i3 | exact i4 | exact i5) dL_law_1459 ?_
      refine a_callVx X dL_law_1460 miX8_draw lmL_175 (m_draw h8_1451) (h8_1451.1.2.1) rfl rfl rfl (Nat.le_of_ble_eq_true rfl) ⟨by decide, by decide, hc, hs⟩ (fun r_1460 S_1460 q_1460 => ?_)
      obtain rfl := q_1460
      refine a_icmp_eq (tgt := 1738) X dL_law_1463 (by decide) (fun h_1463 => ?_) (fun h_1463 => absurd (by first | rfl | decide) h_1463)
      exact law_K X hr hX0 hsb hbb (Nat.le_refl 6) hc hs
    | 39, ht_33, hx_33 =>
      cases ht_33
      refine a_aload_n X dL_law_1468 rfl ?_
      refine a_aload_n X dL_law_1469 rfl ?_
      refine a_iload_n X dL_law_1470 rfl ?_
      refine a_iconst (v := 1) X dL_law_1471 (by decide) ?_
      refine a_iadd X dL_law_1472 ?_
      refine a_sld X hX0 hsb hbb (by first | exact i0 | exact i1 | exact i2 | exact i3 | exact i4 | exact i5) dL_law_1473 ?_
      refine a_aload_n X dL_law_1474 rfl ?_
      refine a_iload_n X dL_law_1475 rfl ?_
      refine a_iconst (v := 2) X dL_law_1476 (by decide) ?_
      refine a_iadd X dL_law_1477 ?_
      refine a_sld X hX0 hsb hbb (by first | exact i0 | exact i1 | exact i2 | exact i3 | exact i4 | exact i5) dL_law_1478 ?_
      refine a_callVx X dL_law_1479 miX7_points lmL_176 (f_points h7) (o7) rfl rfl rfl (Nat.le_of_ble_eq_true rfl) ⟨by decide, by decide, hc, hs⟩ (fun r_1479 S_1479 q_1479 => ?_)
      obtain ⟨rfl, fl_1479, fr_1479⟩ := q_1479
      have h8_1479 := h8.keep fl_1479 fr_1479 (by decide)
      refine a_aload_n X dL_law_1482 rfl ?_
      refine a_aload_n X dL_law_1483 rfl ?_
      refine a_iload_n X dL_law_1484 rfl ?_
      refine a_iconst (v := 1) X dL_law_1485 (by decide) ?_
      refine a_iadd X dL_law_1486 ?_
      refine a_sld X hX0 hsb hbb (by first | exact i0 | exact i1 | exact i2 | exact i3 | exact i4 | exact i5) dL_law_1487 ?_
      refine a_aload_n X dL_law_1488 rfl ?_
      refine a_iload_n X dL_law_1489 rfl ?_
      refine a_iconst (v := 2) X dL_law_1490 (by decide) ?_
      refine a_iadd X dL_law_1491 ?_
      refine a_sld X hX0 hsb hbb (by first | exact i0 | exact i1 | exact i2 | exact i3 | exact i4 | exact i5) dL_law_1492 ?_
      refine a_callVx X dL_law_1493 miX8_points lmL_179 (m_points h8_1479) (h8_1479.1.2.1) rfl rfl rfl (Nat.le_of_ble_eq_true rfl) ⟨by decide, by decide, hc, hs⟩ (fun r_1493 S_1493 q_1493 => ?_)
      obtain rfl := q_1493
      refine a_icmp_eq (tgt := 1738) X dL_law_1496 (by decide) (fun h_1496 => ?_) (fun h_1496 => absurd (by first | rfl | decide) h_1496)
      exact law_K X hr hX0 hsb hbb (Nat.le_refl 6) hc hs
    | 40, ht_33, hx_33 =>
      cases ht_33
      refine a_aload_n X dL_law_1501 rfl ?_
      refine a_aload_n X dL_law_1502 rfl ?_
      refine a_iload_n X dL_law_1503 rfl ?_
      refine a_iconst (v := 1) X dL_law_1504 (by decide) ?_
      refine a_iadd X dL_law_1505 ?_
      refine a_sld X hX0 hsb hbb (by first | exact i0 | exact i1 | exact i2 | exact i3 | exact i4 | exact i5) dL_law_1506 ?_
      refine a_aload_n X dL_law_1507 rfl ?_
      refine a_iload_n X dL_law_1508 rfl ?_
      refine a_iconst (v := 2) X dL_law_1509 (by decide) ?_
      refine a_iadd X dL_law_1510 ?_
      refine a_sld X hX0 hsb hbb (by first | exact i0 | exact i1 | exact i2 | exact i3 | exact i4 | exact i5) dL_law_1511 ?_
      refine a_callVx X dL_law_1512 miX7_quota lmL_180 (f_quota h7) (o7) rfl rfl rfl (Nat.le_of_ble_eq_true rfl) ⟨by decide, by decide, hc, hs⟩ (fun r_1512 S_1512 q_1512 => ?_)
      obtain ⟨rfl, fl_1512, fr_1512⟩ := q_1512
      have h8_1512 := h8.keep fl_1512 fr_1512 (by decide)
      refine a_aload_n X dL_law_1515 rfl ?_
      refine a_aload_n X dL_law_1516 rfl ?_
      refine a_iload_n X dL_law_1517 rfl ?_
      refine a_iconst (v := 1) X dL_law_1518 (by decide) ?_
      refine a_iadd X dL_law_1519 ?_
      refine a_sld X hX0 hsb hbb (by first | exact i0 | exact i1 | exact i2 | exact i3 | exact i4 | exact i5) dL_law_1520 ?_
      refine a_aload_n X dL_law_1521 rfl ?_
      refine a_iload_n X dL_law_1522 rfl ?_
      refine a_iconst (v := 2) X dL_law_1523 (by decide) ?_
      refine a_iadd X dL_law_1524 ?_
      refine a_sld X hX0 hsb hbb (by first | exact i0 | exact i1 | exact i2 | exact i3 | exact i4 | exact i5) dL_law_1525 ?_
      refine a_callVx X dL_law_1526 miX8_quota lmL_183 (m_quota h8_1512) (h8_1512.1.2.1) rfl rfl rfl (Nat.le_of_ble_eq_true rfl) ⟨by decide, by decide, hc, hs⟩ (fun r_1526 S_1526 q_1526 => ?_)
      obtain rfl := q_1526
      refine a_icmp_eq (tgt := 1738) X dL_law_1529 (by decide) (fun h_1529 => ?_) (fun h_1529 => absurd (by first | rfl | decide) h_1529)
      exact law_K X hr hX0 hsb hbb (Nat.le_refl 6) hc hs
    | 41, ht_33, hx_33 =>
      cases ht_33
      refine a_aload_n X dL_law_1534 rfl ?_
      refine a_aload_n X dL_law_1535 rfl ?_
      refine a_iload_n X dL_law_1536 rfl ?_
      refine a_iconst (v := 1) X dL_law_1537 (by decide) ?_
      refine a_iadd X dL_law_1538 ?_
      refine a_sld X hX0 hsb hbb (by first | exact i0 | exact i1 | exact i2 | exact i3 | exact i4 | exact i5) dL_law_1539 ?_
      refine a_aload_n X dL_law_1540 rfl ?_
      refine a_iload_n X dL_law_1541 rfl ?_
      refine a_iconst (v := 2) X dL_law_1542 (by decide) ?_
      refine a_iadd X dL_law_1543 ?_
      refine a_sld X hX0 hsb hbb (by first | exact i0 | exact i1 | exact i2 | exact i3 | exact i4 | exact i5) dL_law_1544 ?_
      refine a_aload_n X dL_law_1545 rfl ?_
      refine a_iload_n X dL_law_1546 rfl ?_
      refine a_iconst (v := 3) X dL_law_1547 (by decide) ?_
      refine a_iadd X dL_law_1548 ?_
      refine a_sld X hX0 hsb hbb (by first | exact i0 | exact i1 | exact i2 | exact i3 | exact i4 | exact i5) dL_law_1549 ?_
      refine a_aload_n X dL_law_1550 rfl ?_
      refine a_iload_n X dL_law_1551 rfl ?_
      refine a_iconst (v := 4) X dL_law_1552 (by decide) ?_
      refine a_iadd X dL_law_1553 ?_
      refine a_sld X hX0 hsb hbb (by first | exact i0 | exact i1 | exact i2 | exact i3 | exact i4 | exact i5) dL_law_1554 ?_
      refine a_callVx X dL_law_1555 miX7_choose lmL_184 (f_choose h7) (o7) rfl rfl rfl (Nat.le_of_ble_eq_true rfl) ⟨by decide, by decide, hc, hs⟩ (fun r_1555 S_1555 q_1555 => ?_)
      obtain ⟨rfl, fl_1555, fr_1555⟩ := q_1555
      have h8_1555 := h8.keep fl_1555 fr_1555 (by decide)
      refine a_aload_n X dL_law_1558 rfl ?_
      refine a_aload_n X dL_law_1559 rfl ?_
      refine a_iload_n X dL_law_1560 rfl ?_
      refine a_iconst (v := 1) X dL_law_1561 (by decide) ?_
      refine a_iadd X dL_law_1562 ?_
      refine a_sld X hX0 hsb hbb (by first | exact i0 | exact i1 | exact i2 | exact i3 | exact i4 | exact i5) dL_law_1563 ?_
      refine a_aload_n X dL_law_1564 rfl ?_
      refine a_iload_n X dL_law_1565 rfl ?_
      refine a_iconst (v := 2) X dL_law_1566 (by decide) ?_
      refine a_iadd X dL_law_1567 ?_
      refine a_sld X hX0 hsb hbb (by first | exact i0 | exact i1 | exact i2 | exact i3 | exact i4 | exact i5) dL_law_1568 ?_
      refine a_aload_n X dL_law_1569 rfl ?_
      refine a_iload_n X dL_law_1570 rfl ?_
      refine a_iconst (v := 3) X dL_law_1571 (by decide) ?_
      refine a_iadd X dL_law_1572 ?_
      refine a_sld X hX0 hsb hbb (by first | exact i0 | exact i1 | exact i2 | exact i3 | exact i4 | exact i5) dL_law_1573 ?_
      refine a_aload_n X dL_law_1574 rfl ?_
      refine a_iload_n X dL_law_1575 rfl ?_
      refine a_iconst (v := 4) X dL_law_1576 (by decide) ?_
      refine a_iadd X dL_law_1577 ?_
      refine a_sld X hX0 hsb hbb (by first | exact i0 | exact i1 | exact i2 | exact i3 | exact i4 | exact i5) dL_law_1578 ?_
      refine a_callVx X dL_law_1579 miX8_choose lmL_188 (m_choose h8_1555) (h8_1555.1.2.1) rfl rfl rfl (Nat.le_of_ble_eq_true rfl) ⟨by decide, by decide, hc, hs⟩ (fun r_1579 S_1579 q_1579 => ?_)
      obtain rfl := q_1579
      refine a_icmp_eq (tgt := 1738) X dL_law_1582 (by decide) (fun h_1582 => ?_) (fun h_1582 => absurd (by first | rfl | decide) h_1582)
      exact law_K X hr hX0 hsb hbb (Nat.le_refl 6) hc hs
    | 42, ht_33, hx_33 =>
      cases ht_33
      refine a_aload_n X dL_law_1587 rfl ?_
      refine a_aload_n X dL_law_1588 rfl ?_
      refine a_iload_n X dL_law_1589 rfl ?_
      refine a_iconst (v := 1) X dL_law_1590 (by decide) ?_
      refine a_iadd X dL_law_1591 ?_
      refine a_sld X hX0 hsb hbb (by first | exact i0 | exact i1 | exact i2 | exact i3 | exact i4 | exact i5) dL_law_1592 ?_
      refine a_callVx X dL_law_1593 miX7_law lmL_189 (f_law h7) (o7) rfl rfl rfl (Nat.le_of_ble_eq_true rfl) ⟨by decide, by decide, hc, hs⟩ (fun r_1593 S_1593 q_1593 => ?_)
      obtain ⟨rfl, fl_1593, fr_1593⟩ := q_1593
      have h8_1593 := h8.keep fl_1593 fr_1593 (by decide)
      refine a_aload_n X dL_law_1596 rfl ?_
      refine a_aload_n X dL_law_1597 rfl ?_
      refine a_iload_n X dL_law_1598 rfl ?_
      refine a_iconst (v := 1) X dL_law_1599 (by decide) ?_
      refine a_iadd X dL_law_1600 ?_
      refine a_sld X hX0 hsb hbb (by first | exact i0 | exact i1 | exact i2 | exact i3 | exact i4 | exact i5) dL_law_1601 ?_
      refine a_callVx X dL_law_1602 miX8_law lmL_192 (m_law h8_1593) (h8_1593.1.2.1) rfl rfl rfl (Nat.le_of_ble_eq_true rfl) ⟨by decide, by decide, hc, hs⟩ (fun r_1602 S_1602 q_1602 => ?_)
      obtain rfl := q_1602
      refine a_icmp_eq (tgt := 1738) X dL_law_1605 (by decide) (fun h_1605 => ?_) (fun h_1605 => absurd (by first | rfl | decide) h_1605)
      exact law_K X hr hX0 hsb hbb (Nat.le_refl 6) hc hs
    | 43, ht_33, hx_33 =>
      cases ht_33
      refine a_aload_n X dL_law_1610 rfl ?_
      refine a_aload_n X dL_law_1611 rfl ?_
      refine a_iload_n X dL_law_1612 rfl ?_
      refine a_iconst (v := 1) X dL_law_1613 (by decide) ?_
      refine a_iadd X dL_law_1614 ?_
      refine a_sld X hX0 hsb hbb (by first | exact i0 | exact i1 | exact i2 | exact i3 | exact i4 | exact i5) dL_law_1615 ?_
      refine a_callVx X dL_law_1616 miX7_prefer lmL_193 (f_prefer h7) (o7) rfl rfl rfl (Nat.le_of_ble_eq_true rfl) ⟨by decide, by decide, hc, hs⟩ (fun r_1616 S_1616 q_1616 => ?_)
      obtain ⟨rfl, fl_1616, fr_1616⟩ := q_1616
      have h8_1616 := h8.keep fl_1616 fr_1616 (by decide)
      refine a_aload_n X dL_law_1619 rfl ?_
      refine a_aload_n X dL_law_1620 rfl ?_
      refine a_iload_n X dL_law_1621 rfl ?_
      refine a_iconst (v := 1) X dL_law_1622 (by decide) ?_
      refine a_iadd X dL_law_1623 ?_
      refine a_sld X hX0 hsb hbb (by first | exact i0 | exact i1 | exact i2 | exact i3 | exact i4 | exact i5) dL_law_1624 ?_
      refine a_callVx X dL_law_1625 miX8_prefer lmL_196 (m_prefer h8_1616) (h8_1616.1.2.1) rfl rfl rfl (Nat.le_of_ble_eq_true rfl) ⟨by decide, by decide, hc, hs⟩ (fun r_1625 S_1625 q_1625 => ?_)
      obtain rfl := q_1625
      refine a_icmp_eq (tgt := 1738) X dL_law_1628 (by decide) (fun h_1628 => ?_) (fun h_1628 => absurd (by first | rfl | decide) h_1628)
      exact law_K X hr hX0 hsb hbb (Nat.le_refl 6) hc hs
    | 44, ht_33, hx_33 =>
      cases ht_33
      refine a_aload_n X dL_law_1633 rfl ?_
      refine a_aload_n X dL_law_1634 rfl ?_
      refine a_iload_n X dL_law_1635 rfl ?_
      refine a_iconst (v := 1) X dL_law_1636 (by decide) ?_
      refine a_iadd X dL_law_1637 ?_
      refine a_sld X hX0 hsb hbb (by first | exact i0 | exact i1 | exact i2 | exact i3 | exact i4 | exact i5) dL_law_1638 ?_
      refine a_callVx X dL_law_1639 miX7_guests lmL_197 (f_guests h7) (o7) rfl rfl rfl (Nat.le_of_ble_eq_true rfl) ⟨by decide, by decide, hc, hs⟩ (fun r_1639 S_1639 q_1639 => ?_)
      obtain ⟨rfl, fl_1639, fr_1639⟩ := q_1639
      have h8_1639 := h8.keep fl_1639 fr_1639 (by decide)
      refine a_aload_n X dL_law_1642 rfl ?_
      refine a_aload_n X dL_law_1643 rfl ?_
      refine a_iload_n X dL_law_1644 rfl ?_
      refine a_iconst (v := 1) X dL_law_1645 (by decide) ?_
      refine a_iadd X dL_law_1646 ?_
      refine a_sld X hX0 hsb hbb (by first | exact i0 | exact i1 | exact i2 | exact i3 | exact i4 | exact i5) dL_law_1647 ?_
      refine a_callVx X dL_law_1648 miX8_guests lmL_200 (m_guests h8_1639) (h8_1639.1.2.1) rfl rfl rfl (Nat.le_of_ble_eq_true rfl) ⟨by decide, by decide, hc, hs⟩ (fun r_1648 S_1648 q_1648 => ?_)
      obtain rfl := q_1648
      refine a_icmp_eq (tgt := 1738) X dL_law_1651 (by decide) (fun h_1651 => ?_) (fun h_1651 => absurd (by first | rfl | decide) h_1651)
      exact law_K X hr hX0 hsb hbb (Nat.le_refl 6) hc hs
    | 45, ht_33, hx_33 =>
      cases ht_33
      refine a_aload_n X dL_law_1656 rfl ?_
      refine a_aload_n X dL_law_1657 rfl ?_
      refine a_iload_n X dL_law_1658 rfl ?_
      refine a_iconst (v := 1) X dL_law_1659 (by decide) ?_
      refine a_iadd X dL_law_1660 ?_
      refine a_sld X hX0 hsb hbb (by first | exact i0 | exact i1 | exact i2 | exact i3 | exact i4 | exact i5) dL_law_1661 ?_
      refine a_callVx X dL_law_1662 miX7_split lmL_201 (f_split h7) (o7) rfl rfl rfl (Nat.le_of_ble_eq_true rfl) ⟨by decide, by decide, hc, hs⟩ (fun r_1662 S_1662 q_1662 => ?_)
      obtain ⟨rfl, fl_1662, fr_1662⟩ := q_1662
      have h8_1662 := h8.keep fl_1662 fr_1662 (by decide)
      refine a_aload_n X dL_law_1665 rfl ?_
      refine a_aload_n X dL_law_1666 rfl ?_
      refine a_iload_n X dL_law_1667 rfl ?_
      refine a_iconst (v := 1) X dL_law_1668 (by decide) ?_
      refine a_iadd X dL_law_1669 ?_
      refine a_sld X hX0 hsb hbb (by first | exact i0 | exact i1 | exact i2 | exact i3 | exact i4 | exact i5) dL_law_1670 ?_
      refine a_callVx X dL_law_1671 miX8_split lmL_204 (m_split h8_1662) (h8_1662.1.2.1) rfl rfl rfl (Nat.le_of_ble_eq_true rfl) ⟨by decide, by decide, hc, hs⟩ (fun r_1671 S_1671 q_1671 => ?_)
      obtain rfl := q_1671
      refine a_icmp_eq (tgt := 1738) X dL_law_1674 (by decide) (fun h_1674 => ?_) (fun h_1674 => absurd (by first | rfl | decide) h_1674)
      exact law_K X hr hX0 hsb hbb (Nat.le_refl 6) hc hs
    | 46, ht_33, hx_33 =>
      cases ht_33
      refine a_aload_n X dL_law_1679 rfl ?_
      refine a_callVx X dL_law_1680 miX7_undo lmL_205 (f_undo h7) (o7) rfl rfl rfl (Nat.le_of_ble_eq_true rfl) ⟨by decide, by decide, hc, hs⟩ (fun r_1680 S_1680 q_1680 => ?_)
      obtain ⟨rfl, fl_1680, fr_1680⟩ := q_1680
      have h8_1680 := h8.keep fl_1680 fr_1680 (by decide)
      refine a_aload_n X dL_law_1683 rfl ?_
      refine a_callVx X dL_law_1684 miX8_undo lmL_208 (m_undo h8_1680) (h8_1680.1.2.1) rfl rfl rfl (Nat.le_of_ble_eq_true rfl) ⟨by decide, by decide, hc, hs⟩ (fun r_1684 S_1684 q_1684 => ?_)
      obtain rfl := q_1684
      refine a_icmp_eq (tgt := 1738) X dL_law_1687 (by decide) (fun h_1687 => ?_) (fun h_1687 => absurd (by first | rfl | decide) h_1687)
      exact law_K X hr hX0 hsb hbb (Nat.le_refl 6) hc hs
    | 47, ht_33, hx_33 =>
      cases ht_33
      refine a_aload_n X dL_law_1692 rfl ?_
      refine a_aload_n X dL_law_1693 rfl ?_
      refine a_iload_n X dL_law_1694 rfl ?_
      refine a_iconst (v := 1) X dL_law_1695 (by decide) ?_
      refine a_iadd X dL_law_1696 ?_
      refine a_sld X hX0 hsb hbb (by first | exact i0 | exact i1 | exact i2 | exact i3 | exact i4 | exact i5) dL_law_1697 ?_
      refine a_callVx X dL_law_1698 miX7_print lmL_209 (f_print h7) (o7) rfl rfl rfl (Nat.le_of_ble_eq_true rfl) ⟨by decide, by decide, hc, hs⟩ (fun r_1698 S_1698 q_1698 => ?_)
      obtain ⟨rfl, fl_1698, fr_1698⟩ := q_1698
      have h8_1698 := h8.keep fl_1698 fr_1698 (by decide)
      refine a_aload_n X dL_law_1701 rfl ?_
      refine a_aload_n X dL_law_1702 rfl ?_
      refine a_iload_n X dL_law_1703 rfl ?_
      refine a_iconst (v := 1) X dL_law_1704 (by decide) ?_
      refine a_iadd X dL_law_1705 ?_
      refine a_sld X hX0 hsb hbb (by first | exact i0 | exact i1 | exact i2 | exact i3 | exact i4 | exact i5) dL_law_1706 ?_
      refine a_callVx X dL_law_1707 miX8_print lmL_212 (m_print h8_1698) (h8_1698.1.2.1) rfl rfl rfl (Nat.le_of_ble_eq_true rfl) ⟨by decide, by decide, hc, hs⟩ (fun r_1707 S_1707 q_1707 => ?_)
      obtain rfl := q_1707
      refine a_icmp_eq (tgt := 1738) X dL_law_1710 (by decide) (fun h_1710 => ?_) (fun h_1710 => absurd (by first | rfl | decide) h_1710)
      exact law_K X hr hX0 hsb hbb (Nat.le_refl 6) hc hs
    | 48, ht_33, hx_33 =>
      cases ht_33
      refine a_aload_n X dL_law_1715 rfl ?_
      refine a_aload_n X dL_law_1716 rfl ?_
      refine a_iload_n X dL_law_1717 rfl ?_
      refine a_iconst (v := 1) X dL_law_1718 (by decide) ?_
      refine a_iadd X dL_law_1719 ?_
      refine a_sld X hX0 hsb hbb (by first | exact i0 | exact i1 | exact i2 | exact i3 | exact i4 | exact i5) dL_law_1720 ?_
      refine a_callVx X dL_law_1721 miX7_out lmL_213 (f_out h7) (o7) rfl rfl rfl (Nat.le_of_ble_eq_true rfl) ⟨by decide, by decide, hc, hs⟩ (fun r_1721 S_1721 q_1721 => ?_)
      obtain ⟨rfl, fl_1721, fr_1721⟩ := q_1721
      have h8_1721 := h8.keep fl_1721 fr_1721 (by decide)
      refine a_aload_n X dL_law_1724 rfl ?_
      refine a_aload_n X dL_law_1725 rfl ?_
      refine a_iload_n X dL_law_1726 rfl ?_
      refine a_iconst (v := 1) X dL_law_1727 (by decide) ?_
      refine a_iadd X dL_law_1728 ?_
      refine a_sld X hX0 hsb hbb (by first | exact i0 | exact i1 | exact i2 | exact i3 | exact i4 | exact i5) dL_law_1729 ?_
      refine a_callVx X dL_law_1730 miX8_out lmL_216 (m_out h8_1721) (h8_1721.1.2.1) rfl rfl rfl (Nat.le_of_ble_eq_true rfl) ⟨by decide, by decide, hc, hs⟩ (fun r_1730 S_1730 q_1730 => ?_)
      obtain rfl := q_1730
      refine a_icmp_eq (tgt := 1738) X dL_law_1733 (by decide) (fun h_1733 => ?_) (fun h_1733 => absurd (by first | rfl | decide) h_1733)
      exact law_K X hr hX0 hsb hbb (Nat.le_refl 6) hc hs
  · exact law_K X hr hX0 hsb hbb (Nat.le_refl 6) hc hs
set_option maxRecDepth 100000 in
set_option maxHeartbeats 8000000 in
theorem law_H {p : Program} {l : Launch} {e : Env} {s : State} {m : MethodId} {below : List Frame} {meth : Method} {c : Code} {G : zG} {b sb L : Nat} {xs : Nat → Int32} (X : zOK p s m #[Value.ref sb] meth c G b R_law code 4) (hr : meth.sig.returnType = ret) (hX0 : va_X sb L xs s s.heap) (hsb : sb < s.heap.size) (hbb : b = s.heap.size) (hL : L ≤ 6) {nc ns : Nat} (hc : nc ≤ 600000) (hs : ns ≤ 7302250) {S : zS} (h7 : zE7 S 0) (h8 : zE8 S 200) : Zw p l e room_1 s m #[Value.ref sb] below meth c G b 4 (lw_Z below #[Value.ref sb] s) nc ns 18 [some (.ref (1000000 + sb)), some (.ref 0), some (.ref 200), some (.int 0)] [] S := by
  refine a_iload_n X dL_law_18 rfl ?_
  refine a_aload_n X dL_law_19 rfl ?_
  refine a_slen X hX0 hsb hbb dL_law_20 ?_
  refine a_bipush (v := 6) X dL_law_21 (by decide) ?_
  refine a_isub X dL_law_23 ?_
  refine a_icmp_gt (tgt := 1744) X dL_law_24 (by decide) (fun h_24 => ?_) (fun h_24 => ?_)
  · refine a_iconst (v := 1) X dL_law_1744 (by decide) ?_
    exact law_ret X hr hX0 hsb hbb hc hs
  · have hL6 : L = 6 := law_6 hL h_24
    subst hL6
    exact law_C X hr hX0 hsb hbb hc hs h7 h8
theorem zz0 {a : Nat} : zz a (fun _ _ => 0) (fun _ _ => 0) := fun _ _ _ => ⟨rfl, rfl⟩
set_option maxRecDepth 100000 in
theorem blk7_len : (([] : List zC) ++ blk7 0).length = 200 := rfl
set_option maxRecDepth 100000 in
set_option maxHeartbeats 8000000 in
theorem law_0 {p : Program} {l : Launch} {e : Env} {s : State} {m : MethodId} {below : List Frame} {meth : Method} {c : Code} {G : zG} {b sb L : Nat} {xs : Nat → Int32} (X : zOK p s m #[Value.ref sb] meth c G b R_law code 4) (hr : meth.sig.returnType = ret) (hX0 : va_X sb L xs s s.heap) (hsb : sb < s.heap.size) (hbb : b = s.heap.size) (hL : L ≤ 6) : Zw p l e room_1 s m #[Value.ref sb] below meth c G b 4 (lw_Z below #[Value.ref sb] s) 0 0 0 [some (.ref (1000000 + sb)), none, none, none] [] ([], fun _ _ => 0, fun _ _ => 0) := by
  refine b_new (pre := []) (Y := []) (P := 0) X 0 [(0, 0), (0, 0), (0, 0), (0, 0), (3, 0), (3, 0), (3, 0), (3, 0), (3, 0), (3, 0), (3, 0), (3, 0), (3, 0), (3, 0), (3, 0), (3, 0), (3, 0)] rfl rfl (by decide) zz0 zc7 lnL_7 zinst7 zini7 ⟨rfl, by decide, by decide⟩ ⟨by decide, by decide⟩ dL_law_0 ?_
  refine Zw.to2 (ls' := [some (.ref (1000000 + sb)), none, none, none]) (st' := [.ref 0]) (S' := (([] : List zC) ++ [(0, 7, [(0, 0), (0, 0), (0, 0), (0, 0), (3, 0), (3, 0), (3, 0), (3, 0), (3, 0), (3, 0), (3, 0), (3, 0), (3, 0), (3, 0), (3, 0), (3, 0), (3, 0)])], fun _ _ => 0, fun _ _ => 0)) ?_ rfl rfl rfl
  refine a_dup X dL_law_3 rfl ?_
  refine a_invI (P := 0) (ci := 7) X miX7_init lmL_9 rfl rfl rfl rfl (Nat.le_of_ble_eq_true rfl) ⟨by decide, by decide, by decide, by decide⟩ dL_law_4 (k_X7 (pre := []) (P := 0) rfl (by decide) zz0) (fun r S1 q => ?_)
  obtain ⟨rfl, M1, N1, rfl, h7, hz1, _⟩ := q
  refine Zw.to2 (ls' := [some (.ref (1000000 + sb)), none, none, none]) (st' := [.ref 0]) ?_ rfl rfl rfl
  refine a_astore_n X dL_law_7 (by decide) ?_
  refine b_new (pre := ([] : List zC) ++ blk7 0) (Y := []) (P := 200) X 0 [(3, 0), (3, 0), (3, 0), (3, 0), (3, 0), (3, 0), (0, 0), (0, 0), (0, 0), (0, 0), (3, 0), (0, 0), (0, 0), (0, 0), (0, 0), (0, 0), (0, 0), (0, 0), (0, 0), (0, 0), (0, 0), (0, 0), (0, 0), (0, 0), (1, 0), (3, 0), (3, 0), (3, 0), (0, 0), (0, 0), (0, 0), (0, 0), (1, 0), (0, 0), (3, 0), (3, 0), (3, 0), (3, 0), (3, 0), (3, 0), (3, 0), (3, 0), (3, 0), (3, 0), (3, 0), (3, 0), (1, 0), (3, 0), (3, 0), (3, 0), (3, 0), (3, 0), (3, 0), (3, 0), (0, 0), (0, 0), (0, 0), (0, 0), (0, 0), (1, 0), (1, 0), (3, 0), (3, 0), (3, 0), (0, 0)] blk7_len rfl (by decide) (hz1.up (by decide)) zc8 lnL_10 zinst8 zini8 ⟨rfl, by decide, by decide⟩ ⟨by decide, by decide⟩ dL_law_8 ?_
  refine Zw.to2 (ls' := [some (.ref (1000000 + sb)), some (.ref 0), none, none]) (st' := [.ref 200]) (S' := ((([] : List zC) ++ blk7 0) ++ [(0, 8, [(3, 0), (3, 0), (3, 0), (3, 0), (3, 0), (3, 0), (0, 0), (0, 0), (0, 0), (0, 0), (3, 0), (0, 0), (0, 0), (0, 0), (0, 0), (0, 0), (0, 0), (0, 0), (0, 0), (0, 0), (0, 0), (0, 0), (0, 0), (0, 0), (1, 0), (3, 0), (3, 0), (3, 0), (0, 0), (0, 0), (0, 0), (0, 0), (1, 0), (0, 0), (3, 0), (3, 0), (3, 0), (3, 0), (3, 0), (3, 0), (3, 0), (3, 0), (3, 0), (3, 0), (3, 0), (3, 0), (1, 0), (3, 0), (3, 0), (3, 0), (3, 0), (3, 0), (3, 0), (3, 0), (0, 0), (0, 0), (0, 0), (0, 0), (0, 0), (1, 0), (1, 0), (3, 0), (3, 0), (3, 0), (0, 0)])], M1, N1)) ?_ rfl rfl rfl
  refine a_dup X dL_law_11 rfl ?_
  refine a_invI (P := 200) (ci := 8) X miX8_init lmL_12 rfl rfl rfl rfl (Nat.le_of_ble_eq_true rfl) ⟨by decide, by decide, by decide, by decide⟩ dL_law_12 (k_X8 (pre := ([] : List zC) ++ blk7 0) (P := 200) blk7_len (by decide) (hz1.up (by decide))) (fun r S2 q => ?_)
  obtain ⟨rfl, M2, N2, rfl, h8, _, hk⟩ := q
  have h7' := h7.app (z := (([] ++ blk7 0) ++ blk8 200, M2, N2)) rfl (fun a ha => hk a ha)
  refine Zw.to2 (ls' := [some (.ref (1000000 + sb)), some (.ref 0), none, none]) (st' := [.ref 200]) ?_ rfl rfl rfl
  refine a_astore_n X dL_law_15 (by decide) ?_
  refine a_iconst (v := 0) X dL_law_16 (by decide) ?_
  refine a_istore_n X dL_law_17 (by decide) ?_
  exact Zw.to (law_H X hr hX0 hsb hbb hL (by decide) (by decide) h7' h8) rfl rfl
theorem law_sub {w : Cond} (h : w ∈ zT) : w ∈ lw_tbl := (List.mem_filter.mp h).1
theorem law_arr {s : State} {args : Array Value} {ty : FieldType} (h : (Cond.arrayClass ty).before args s = true) (hno : ∀ C, ty ≠ .object C) : ∃ cA, ArrOfT s cA ty ∧ va_RA s cA ty := by
  obtain ⟨cA, k, comp, h1, h2, h3⟩ := Cond.arrayClass_spec h
  refine ⟨cA, fun N z => ⟨(fun k h => by cases h), k, h2, comp, h3⟩, ?_⟩
  cases ty with
  | object C => exact absurd rfl (hno C)
  | _ => exact h1
theorem law_over {s : State} {args : Array Value} {C : String} (h : (Cond.arrayOver (.object C)).before args s = true) : ∃ cA, ArrOfT s cA (.object C) ∧ va_RA s cA (.object C) := by
  obtain ⟨comp, cA, k, h1, h2, h3, h4, h5⟩ := Cond.arrayOver_spec h
  exact ⟨cA, fun N z => ⟨(fun k h => by cases h), k, h3, comp, h4⟩, k, comp, h3, h4, h1, h5⟩
theorem law_ov {s : State} {args : Array Value} (hts : ∀ w ∈ lw_tbl, w.before args s = true) : (Cond.arrayOver (.object RX4)).before args s = true := hts _ (by decide +kernel)
theorem law_world {s : State} {args : Array Value} (hts : ∀ w ∈ lw_tbl, w.before args s = true) : ∃ G : zG, va_K G.1 vwCl (zty G) s := by
  have hT : ∀ w ∈ zT, w.before args s = true := fun w h => hts w (law_sub h)
  obtain ⟨c0, i0, u0⟩ := u_known hT zc0.2.1 (hT _ zinst0)
  obtain ⟨c1, i1, u1⟩ := u_known hT zc1.2.1 (hT _ zinst1)
  obtain ⟨c2, i2, u2⟩ := u_known hT zc2.2.1 (hT _ zinst2)
  obtain ⟨c3, i3, u3⟩ := u_known hT zc3.2.1 (hT _ zinst3)
  obtain ⟨c4, i4, u4⟩ := u_known hT zc4.2.1 (hT _ zinst4)
  obtain ⟨c5, i5, u5⟩ := u_known hT zc5.2.1 (hT _ zinst5)
  obtain ⟨c6, i6, u6⟩ := u_known hT zc6.2.1 (hT _ zinst6)
  obtain ⟨c7, i7, u7⟩ := u_known hT zc7.2.1 (hT _ zinst7)
  obtain ⟨c8, i8, u8⟩ := u_known hT zc8.2.1 (hT _ zinst8)
  obtain ⟨aI, qI⟩ := law_arr (hT _ zarrI) (fun C q => by cases q)
  obtain ⟨aZ, qZ⟩ := law_arr (hT _ zarrZ) (fun C q => by cases q)
  obtain ⟨aJ, qJ⟩ := law_arr (hT _ zarrJ) (fun C q => by cases q)
  obtain ⟨aR, qR⟩ := law_over (law_ov hts)
  refine ⟨((fun c => [c0, c1, c2, c3, c4, c5, c6, c7, c8].getD c 0, fun c => [i0, i1, i2, i3, i4, i5, i6, i7, i8].getD c (fun _ => 0)), fun k => [0, aI, aZ, aJ, aR].getD k 0), fun c q hq => ?_, fun k q hk => ?_⟩
  · match c, hq with
    | 0, hq => cases hq; exact u0
    | 1, hq => cases hq; exact u1
    | 2, hq => cases hq; exact u2
    | 3, hq => cases hq; exact u3
    | 4, hq => cases hq; exact u4
    | 5, hq => cases hq; exact u5
    | 6, hq => cases hq; exact u6
    | 7, hq => cases hq; exact u7
    | 8, hq => cases hq; exact u8
    | k + 9, hq => exact absurd hq (by simp [vwCl])
  · match k, hk with
    | 0, hk => cases hk; exact qI
    | 1, hk => cases hk; exact qZ
    | 2, hk => cases hk; exact qJ
    | 3, hk => cases hk; exact qR
    | k + 4, hk => exact absurd hk (by simp [zty])
theorem whole_start {p : Program} {e : Env} {s : State} {m : MethodId} {below : List Frame} {meth : Method} {c : Code} (l : Launch) (hflags : l.flags = flags0) {b L : Nat} {xs : Nat → Int32} (hL : L ≤ 6) (C0 : lw_At p s m meth c b L xs) : W p l e room_1 s m #[Value.ref b] below meth c s.heap [] 0 0 (lw_Z below #[Value.ref b] s) (entryFrame m ([Value.ref b] : List Value).toArray 4) := by
  obtain ⟨hx, hb, hr, hml, hown, hts, hX0, hsb, hlocks, _⟩ := C0
  obtain ⟨G, hK⟩ := law_world hts
  have hN : zEx s.heap.size s := ⟨fun w hw => va_Nw.of (by obtain ⟨a, i, x, t, rfl⟩ := zNest_form hw; rfl) (hts w (List.mem_filter.mp hw).1), va_AO.of (law_ov hts)⟩
  have X : zOK p s m #[Value.ref b] meth c G s.heap.size R_law code 4 := ⟨hx, hb, hml, hown, fun w hw => hts w (law_sub hw), hK, hN, hlocks, Nat.le_refl _⟩
  have hv : ([Value.ref (1000000 + b)] : List Value).map (zv s.heap.size) = [Value.ref b] := by
    show [zv s.heap.size (.ref (1000000 + b))] = _
    rw [zv_far]
  have hl := lv_entry (([Value.ref (1000000 + b)] : List Value).map (zv s.heap.size)) (n := 4) (by rw [zfl_sl]; exact Nat.le_of_ble_eq_true rfl)
  rw [hv] at hl
  have hl2 := zA_entry (b := s.heap.size) (n := 4) (av := [Value.ref (1000000 + b)]) (by rw [hv]; exact hl)
  rw [lg_entry_eq]
  exact law_0 X hr hX0 hsb rfl hL s.heap [] _ ⟨rfl, by decide, fun k q hk => by cases hk⟩ va_S.rf hl2
