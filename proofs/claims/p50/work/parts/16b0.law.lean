set_option maxRecDepth 100000 in
set_option maxHeartbeats 8000000 in
theorem law_c0 {p : Program} {l : Launch} {e : Env} {s : State} {m : MethodId} {below : List Frame} {meth : Method} {c : Code} {G : zG} {b sb L : Nat} {xs : Nat → Int32} (X : zOK p s m #[Value.ref sb] meth c G b R_law code 4) (hr : meth.sig.returnType = ret) (hX0 : va_X sb L xs s s.heap) (hsb : sb < s.heap.size) (hbb : b = s.heap.size) (hL : L ≤ 3072) {nc ns : Nat} (hc : nc ≤ 600000) (hs : ns ≤ 7302250) {i : Int32} (h0 : 0 ≤ i.toInt) (h6 : i.toInt + 6 ≤ L) {S : zS} (hI : jI S) (ih : ∀ S' : zS, jI S' → Zw p l e room_1 s m #[Value.ref sb] below meth c G b 4 (lw_Z below #[Value.ref sb] s) nc ns 18 [some (.ref (1000000 + sb)), some (.ref 0), some (.ref 200), some (.int (i + 6))] [] S') : Zw p l e room_1 s m #[Value.ref sb] below meth c G b 4 (lw_Z below #[Value.ref sb] s) nc ns 244 [some (.ref (1000000 + sb)), some (.ref 0), some (.ref 200), some (.int i)] [] S := by
  have i1 : vp_in (i + 1) L := law_ix hL h0 h6 (by decide) (by decide)
  have i2 : vp_in (i + 2) L := law_ix hL h0 h6 (by decide) (by decide)
  have i3 : vp_in (i + 3) L := law_ix hL h0 h6 (by decide) (by decide)
  have i4 : vp_in (i + 4) L := law_ix hL h0 h6 (by decide) (by decide)
  have i5 : vp_in (i + 5) L := law_ix hL h0 h6 (by decide) (by decide)
  refine a_aload_n X dL_law_244 rfl ?_
  refine a_callVx X dL_law_245 miX7_status lmL_13 (f_status hI) (hI.1.2.1) rfl rfl rfl (Nat.le_of_ble_eq_true rfl) ⟨by decide, by decide, hc, hs⟩ (fun r_245 S_245 q_245 => ?_)
  obtain ⟨⟨v_245, rfl⟩, h_245⟩ := q_245
  refine a_pop X dL_law_248 rfl ?_
  refine a_aload_n X dL_law_249 rfl ?_
  refine a_callVx X dL_law_250 miX8_status lmL_17 (m_status h_245) (h_245.2.1.2.1) rfl rfl rfl (Nat.le_of_ble_eq_true rfl) ⟨by decide, by decide, hc, hs⟩ (fun r_250 S_250 q_250 => ?_)
  obtain ⟨⟨v_250, rfl⟩, h_250⟩ := q_250
  refine a_pop X dL_law_253 rfl ?_
  refine a_goto (tgt := 1731) X dL_law_254 (by decide) ?_
  exact law_K X hr hX0 hsb hbb h_250 ih
set_option maxRecDepth 100000 in
set_option maxHeartbeats 8000000 in
theorem law_c1 {p : Program} {l : Launch} {e : Env} {s : State} {m : MethodId} {below : List Frame} {meth : Method} {c : Code} {G : zG} {b sb L : Nat} {xs : Nat → Int32} (X : zOK p s m #[Value.ref sb] meth c G b R_law code 4) (hr : meth.sig.returnType = ret) (hX0 : va_X sb L xs s s.heap) (hsb : sb < s.heap.size) (hbb : b = s.heap.size) (hL : L ≤ 3072) {nc ns : Nat} (hc : nc ≤ 600000) (hs : ns ≤ 7302250) {i : Int32} (h0 : 0 ≤ i.toInt) (h6 : i.toInt + 6 ≤ L) {S : zS} (hI : jI S) (ih : ∀ S' : zS, jI S' → Zw p l e room_1 s m #[Value.ref sb] below meth c G b 4 (lw_Z below #[Value.ref sb] s) nc ns 18 [some (.ref (1000000 + sb)), some (.ref 0), some (.ref 200), some (.int (i + 6))] [] S') : Zw p l e room_1 s m #[Value.ref sb] below meth c G b 4 (lw_Z below #[Value.ref sb] s) nc ns 257 [some (.ref (1000000 + sb)), some (.ref 0), some (.ref 200), some (.int i)] [] S := by
  have i1 : vp_in (i + 1) L := law_ix hL h0 h6 (by decide) (by decide)
  have i2 : vp_in (i + 2) L := law_ix hL h0 h6 (by decide) (by decide)
  have i3 : vp_in (i + 3) L := law_ix hL h0 h6 (by decide) (by decide)
  have i4 : vp_in (i + 4) L := law_ix hL h0 h6 (by decide) (by decide)
  have i5 : vp_in (i + 5) L := law_ix hL h0 h6 (by decide) (by decide)
  refine a_aload_n X dL_law_257 rfl ?_
  refine a_aload_n X dL_law_258 rfl ?_
  refine a_iload_n X dL_law_259 rfl ?_
  refine a_iconst (v := 1) X dL_law_260 (by decide) ?_
  refine a_iadd X dL_law_261 ?_
  refine a_sld X hX0 hsb hbb (i1) dL_law_262 ?_
  refine a_aload_n X dL_law_263 rfl ?_
  refine a_iload_n X dL_law_264 rfl ?_
  refine a_iconst (v := 2) X dL_law_265 (by decide) ?_
  refine a_iadd X dL_law_266 ?_
  refine a_sld X hX0 hsb hbb (i2) dL_law_267 ?_
  refine a_aload_n X dL_law_268 rfl ?_
  refine a_iload_n X dL_law_269 rfl ?_
  refine a_iconst (v := 3) X dL_law_270 (by decide) ?_
  refine a_iadd X dL_law_271 ?_
  refine a_sld X hX0 hsb hbb (i3) dL_law_272 ?_
  refine a_aload_n X dL_law_273 rfl ?_
  refine a_iload_n X dL_law_274 rfl ?_
  refine a_iconst (v := 4) X dL_law_275 (by decide) ?_
  refine a_iadd X dL_law_276 ?_
  refine a_sld X hX0 hsb hbb (i4) dL_law_277 ?_
  refine a_aload_n X dL_law_278 rfl ?_
  refine a_iload_n X dL_law_279 rfl ?_
  refine a_iconst (v := 5) X dL_law_280 (by decide) ?_
  refine a_iadd X dL_law_281 ?_
  refine a_sld X hX0 hsb hbb (i5) dL_law_282 ?_
  refine a_callVx X dL_law_283 miX7_feed lmL_18 (f_feed hI) (hI.1.2.1) rfl rfl rfl (Nat.le_of_ble_eq_true rfl) ⟨by decide, by decide, hc, hs⟩ (fun r_283 S_283 q_283 => ?_)
  obtain ⟨e_283, he_283, rfl, rfl⟩ := q_283
  refine a_pop X dL_law_286 rfl ?_
  refine a_aload_n X dL_law_287 rfl ?_
  refine a_aload_n X dL_law_288 rfl ?_
  refine a_iload_n X dL_law_289 rfl ?_
  refine a_iconst (v := 1) X dL_law_290 (by decide) ?_
  refine a_iadd X dL_law_291 ?_
  refine a_sld X hX0 hsb hbb (i1) dL_law_292 ?_
  refine a_aload_n X dL_law_293 rfl ?_
  refine a_iload_n X dL_law_294 rfl ?_
  refine a_iconst (v := 2) X dL_law_295 (by decide) ?_
  refine a_iadd X dL_law_296 ?_
  refine a_sld X hX0 hsb hbb (i2) dL_law_297 ?_
  refine a_aload_n X dL_law_298 rfl ?_
  refine a_iload_n X dL_law_299 rfl ?_
  refine a_iconst (v := 3) X dL_law_300 (by decide) ?_
  refine a_iadd X dL_law_301 ?_
  refine a_sld X hX0 hsb hbb (i3) dL_law_302 ?_
  refine a_aload_n X dL_law_303 rfl ?_
  refine a_iload_n X dL_law_304 rfl ?_
  refine a_iconst (v := 4) X dL_law_305 (by decide) ?_
  refine a_iadd X dL_law_306 ?_
  refine a_sld X hX0 hsb hbb (i4) dL_law_307 ?_
  refine a_aload_n X dL_law_308 rfl ?_
  refine a_iload_n X dL_law_309 rfl ?_
  refine a_iconst (v := 5) X dL_law_310 (by decide) ?_
  refine a_iadd X dL_law_311 ?_
  refine a_sld X hX0 hsb hbb (i5) dL_law_312 ?_
  refine a_callVx X dL_law_313 miX8_feed lmL_22 (m_feed hI he_283) (hI.2.1.2.1) rfl rfl rfl (Nat.le_of_ble_eq_true rfl) ⟨by decide, by decide, hc, hs⟩ (fun r_313 S_313 q_313 => ?_)
  obtain ⟨rfl, h_313⟩ := q_313
  refine a_pop X dL_law_316 rfl ?_
  refine a_goto (tgt := 1731) X dL_law_317 (by decide) ?_
  exact law_K X hr hX0 hsb hbb h_313 ih
set_option maxRecDepth 100000 in
set_option maxHeartbeats 8000000 in
theorem law_c2 {p : Program} {l : Launch} {e : Env} {s : State} {m : MethodId} {below : List Frame} {meth : Method} {c : Code} {G : zG} {b sb L : Nat} {xs : Nat → Int32} (X : zOK p s m #[Value.ref sb] meth c G b R_law code 4) (hr : meth.sig.returnType = ret) (hX0 : va_X sb L xs s s.heap) (hsb : sb < s.heap.size) (hbb : b = s.heap.size) (hL : L ≤ 3072) {nc ns : Nat} (hc : nc ≤ 600000) (hs : ns ≤ 7302250) {i : Int32} (h0 : 0 ≤ i.toInt) (h6 : i.toInt + 6 ≤ L) {S : zS} (hI : jI S) (ih : ∀ S' : zS, jI S' → Zw p l e room_1 s m #[Value.ref sb] below meth c G b 4 (lw_Z below #[Value.ref sb] s) nc ns 18 [some (.ref (1000000 + sb)), some (.ref 0), some (.ref 200), some (.int (i + 6))] [] S') : Zw p l e room_1 s m #[Value.ref sb] below meth c G b 4 (lw_Z below #[Value.ref sb] s) nc ns 320 [some (.ref (1000000 + sb)), some (.ref 0), some (.ref 200), some (.int i)] [] S := by
  have i1 : vp_in (i + 1) L := law_ix hL h0 h6 (by decide) (by decide)
  have i2 : vp_in (i + 2) L := law_ix hL h0 h6 (by decide) (by decide)
  have i3 : vp_in (i + 3) L := law_ix hL h0 h6 (by decide) (by decide)
  have i4 : vp_in (i + 4) L := law_ix hL h0 h6 (by decide) (by decide)
  have i5 : vp_in (i + 5) L := law_ix hL h0 h6 (by decide) (by decide)
  refine a_aload_n X dL_law_320 rfl ?_
  refine a_aload_n X dL_law_321 rfl ?_
  refine a_iload_n X dL_law_322 rfl ?_
  refine a_iconst (v := 1) X dL_law_323 (by decide) ?_
  refine a_iadd X dL_law_324 ?_
  refine a_sld X hX0 hsb hbb (i1) dL_law_325 ?_
  refine a_callVx X dL_law_326 miX7_load lmL_23 (f_load hI) (hI.1.2.1) rfl rfl rfl (Nat.le_of_ble_eq_true rfl) ⟨by decide, by decide, hc, hs⟩ (fun r_326 S_326 q_326 => ?_)
  obtain ⟨e_326, he_326, rfl, rfl⟩ := q_326
  refine a_pop X dL_law_329 rfl ?_
  refine a_aload_n X dL_law_330 rfl ?_
  refine a_aload_n X dL_law_331 rfl ?_
  refine a_iload_n X dL_law_332 rfl ?_
  refine a_iconst (v := 1) X dL_law_333 (by decide) ?_
  refine a_iadd X dL_law_334 ?_
  refine a_sld X hX0 hsb hbb (i1) dL_law_335 ?_
  refine a_callVx X dL_law_336 miX8_load lmL_27 (m_load hI he_326) (hI.2.1.2.1) rfl rfl rfl (Nat.le_of_ble_eq_true rfl) ⟨by decide, by decide, hc, hs⟩ (fun r_336 S_336 q_336 => ?_)
  obtain ⟨rfl, h_336⟩ := q_336
  refine a_pop X dL_law_339 rfl ?_
  refine a_goto (tgt := 1731) X dL_law_340 (by decide) ?_
  exact law_K X hr hX0 hsb hbb h_336 ih
set_option maxRecDepth 100000 in
set_option maxHeartbeats 8000000 in
theorem law_c3 {p : Program} {l : Launch} {e : Env} {s : State} {m : MethodId} {below : List Frame} {meth : Method} {c : Code} {G : zG} {b sb L : Nat} {xs : Nat → Int32} (X : zOK p s m #[Value.ref sb] meth c G b R_law code 4) (hr : meth.sig.returnType = ret) (hX0 : va_X sb L xs s s.heap) (hsb : sb < s.heap.size) (hbb : b = s.heap.size) (hL : L ≤ 3072) {nc ns : Nat} (hc : nc ≤ 600000) (hs : ns ≤ 7302250) {i : Int32} (h0 : 0 ≤ i.toInt) (h6 : i.toInt + 6 ≤ L) {S : zS} (hI : jI S) (ih : ∀ S' : zS, jI S' → Zw p l e room_1 s m #[Value.ref sb] below meth c G b 4 (lw_Z below #[Value.ref sb] s) nc ns 18 [some (.ref (1000000 + sb)), some (.ref 0), some (.ref 200), some (.int (i + 6))] [] S') : Zw p l e room_1 s m #[Value.ref sb] below meth c G b 4 (lw_Z below #[Value.ref sb] s) nc ns 343 [some (.ref (1000000 + sb)), some (.ref 0), some (.ref 200), some (.int i)] [] S := by
  have i1 : vp_in (i + 1) L := law_ix hL h0 h6 (by decide) (by decide)
  have i2 : vp_in (i + 2) L := law_ix hL h0 h6 (by decide) (by decide)
  have i3 : vp_in (i + 3) L := law_ix hL h0 h6 (by decide) (by decide)
  have i4 : vp_in (i + 4) L := law_ix hL h0 h6 (by decide) (by decide)
  have i5 : vp_in (i + 5) L := law_ix hL h0 h6 (by decide) (by decide)
  refine a_aload_n X dL_law_343 rfl ?_
  refine a_aload_n X dL_law_344 rfl ?_
  refine a_iload_n X dL_law_345 rfl ?_
  refine a_iconst (v := 1) X dL_law_346 (by decide) ?_
  refine a_iadd X dL_law_347 ?_
  refine a_sld X hX0 hsb hbb (i1) dL_law_348 ?_
  refine a_callVx X dL_law_349 miX7_fault lmL_28 (f_fault hI) (hI.1.2.1) rfl rfl rfl (Nat.le_of_ble_eq_true rfl) ⟨by decide, by decide, hc, hs⟩ (fun r_349 S_349 q_349 => ?_)
  obtain ⟨⟨v_349, rfl⟩, h_349⟩ := q_349
  refine a_pop X dL_law_352 rfl ?_
  refine a_aload_n X dL_law_353 rfl ?_
  refine a_aload_n X dL_law_354 rfl ?_
  refine a_iload_n X dL_law_355 rfl ?_
  refine a_iconst (v := 1) X dL_law_356 (by decide) ?_
  refine a_iadd X dL_law_357 ?_
  refine a_sld X hX0 hsb hbb (i1) dL_law_358 ?_
  refine a_callVx X dL_law_359 miX8_fault lmL_31 (m_fault h_349) (h_349.2.1.2.1) rfl rfl rfl (Nat.le_of_ble_eq_true rfl) ⟨by decide, by decide, hc, hs⟩ (fun r_359 S_359 q_359 => ?_)
  obtain ⟨⟨v_359, rfl⟩, h_359⟩ := q_359
  refine a_pop X dL_law_362 rfl ?_
  refine a_goto (tgt := 1731) X dL_law_363 (by decide) ?_
  exact law_K X hr hX0 hsb hbb h_359 ih
set_option maxRecDepth 100000 in
set_option maxHeartbeats 8000000 in
theorem law_c4 {p : Program} {l : Launch} {e : Env} {s : State} {m : MethodId} {below : List Frame} {meth : Method} {c : Code} {G : zG} {b sb L : Nat} {xs : Nat → Int32} (X : zOK p s m #[Value.ref sb] meth c G b R_law code 4) (hr : meth.sig.returnType = ret) (hX0 : va_X sb L xs s s.heap) (hsb : sb < s.heap.size) (hbb : b = s.heap.size) (hL : L ≤ 3072) {nc ns : Nat} (hc : nc ≤ 600000) (hs : ns ≤ 7302250) {i : Int32} (h0 : 0 ≤ i.toInt) (h6 : i.toInt + 6 ≤ L) {S : zS} (hI : jI S) (ih : ∀ S' : zS, jI S' → Zw p l e room_1 s m #[Value.ref sb] below meth c G b 4 (lw_Z below #[Value.ref sb] s) nc ns 18 [some (.ref (1000000 + sb)), some (.ref 0), some (.ref 200), some (.int (i + 6))] [] S') : Zw p l e room_1 s m #[Value.ref sb] below meth c G b 4 (lw_Z below #[Value.ref sb] s) nc ns 366 [some (.ref (1000000 + sb)), some (.ref 0), some (.ref 200), some (.int i)] [] S := by
  have i1 : vp_in (i + 1) L := law_ix hL h0 h6 (by decide) (by decide)
  have i2 : vp_in (i + 2) L := law_ix hL h0 h6 (by decide) (by decide)
  have i3 : vp_in (i + 3) L := law_ix hL h0 h6 (by decide) (by decide)
  have i4 : vp_in (i + 4) L := law_ix hL h0 h6 (by decide) (by decide)
  have i5 : vp_in (i + 5) L := law_ix hL h0 h6 (by decide) (by decide)
  refine a_aload_n X dL_law_366 rfl ?_
  refine a_aload_n X dL_law_367 rfl ?_
  refine a_iload_n X dL_law_368 rfl ?_
  refine a_iconst (v := 1) X dL_law_369 (by decide) ?_
  refine a_iadd X dL_law_370 ?_
  refine a_sld X hX0 hsb hbb (i1) dL_law_371 ?_
  refine a_callVx X dL_law_372 miX7_many lmL_32 (f_many hI) (hI.1.2.1) rfl rfl rfl (Nat.le_of_ble_eq_true rfl) ⟨by decide, by decide, hc, hs⟩ (fun r_372 S_372 q_372 => ?_)
  obtain ⟨⟨v_372, rfl⟩, h_372⟩ := q_372
  refine a_pop X dL_law_375 rfl ?_
  refine a_aload_n X dL_law_376 rfl ?_
  refine a_aload_n X dL_law_377 rfl ?_
  refine a_iload_n X dL_law_378 rfl ?_
  refine a_iconst (v := 1) X dL_law_379 (by decide) ?_
  refine a_iadd X dL_law_380 ?_
  refine a_sld X hX0 hsb hbb (i1) dL_law_381 ?_
  refine a_callVx X dL_law_382 miX8_many lmL_35 (m_many h_372) (h_372.2.1.2.1) rfl rfl rfl (Nat.le_of_ble_eq_true rfl) ⟨by decide, by decide, hc, hs⟩ (fun r_382 S_382 q_382 => ?_)
  obtain ⟨⟨v_382, rfl⟩, h_382⟩ := q_382
  refine a_pop X dL_law_385 rfl ?_
  refine a_goto (tgt := 1731) X dL_law_386 (by decide) ?_
  exact law_K X hr hX0 hsb hbb h_382 ih
set_option maxRecDepth 100000 in
set_option maxHeartbeats 8000000 in
theorem law_c5 {p : Program} {l : Launch} {e : Env} {s : State} {m : MethodId} {below : List Frame} {meth : Method} {c : Code} {G : zG} {b sb L : Nat} {xs : Nat → Int32} (X : zOK p s m #[Value.ref sb] meth c G b R_law code 4) (hr : meth.sig.returnType = ret) (hX0 : va_X sb L xs s s.heap) (hsb : sb < s.heap.size) (hbb : b = s.heap.size) (hL : L ≤ 3072) {nc ns : Nat} (hc : nc ≤ 600000) (hs : ns ≤ 7302250) {i : Int32} (h0 : 0 ≤ i.toInt) (h6 : i.toInt + 6 ≤ L) {S : zS} (hI : jI S) (ih : ∀ S' : zS, jI S' → Zw p l e room_1 s m #[Value.ref sb] below meth c G b 4 (lw_Z below #[Value.ref sb] s) nc ns 18 [some (.ref (1000000 + sb)), some (.ref 0), some (.ref 200), some (.int (i + 6))] [] S') : Zw p l e room_1 s m #[Value.ref sb] below meth c G b 4 (lw_Z below #[Value.ref sb] s) nc ns 389 [some (.ref (1000000 + sb)), some (.ref 0), some (.ref 200), some (.int i)] [] S := by
  have i1 : vp_in (i + 1) L := law_ix hL h0 h6 (by decide) (by decide)
  have i2 : vp_in (i + 2) L := law_ix hL h0 h6 (by decide) (by decide)
  have i3 : vp_in (i + 3) L := law_ix hL h0 h6 (by decide) (by decide)
  have i4 : vp_in (i + 4) L := law_ix hL h0 h6 (by decide) (by decide)
  have i5 : vp_in (i + 5) L := law_ix hL h0 h6 (by decide) (by decide)
  refine a_aload_n X dL_law_389 rfl ?_
  refine a_aload_n X dL_law_390 rfl ?_
  refine a_iload_n X dL_law_391 rfl ?_
  refine a_iconst (v := 1) X dL_law_392 (by decide) ?_
  refine a_iadd X dL_law_393 ?_
  refine a_sld X hX0 hsb hbb (i1) dL_law_394 ?_
  refine a_aload_n X dL_law_395 rfl ?_
  refine a_iload_n X dL_law_396 rfl ?_
  refine a_iconst (v := 2) X dL_law_397 (by decide) ?_
  refine a_iadd X dL_law_398 ?_
  refine a_sld X hX0 hsb hbb (i2) dL_law_399 ?_
  refine a_callVx X dL_law_400 miX7_hunter lmL_36 (f_hunter hI) (hI.1.2.1) rfl rfl rfl (Nat.le_of_ble_eq_true rfl) ⟨by decide, by decide, hc, hs⟩ (fun r_400 S_400 q_400 => ?_)
  obtain ⟨⟨v_400, rfl⟩, h_400⟩ := q_400
  refine a_pop X dL_law_403 rfl ?_
  refine a_aload_n X dL_law_404 rfl ?_
  refine a_aload_n X dL_law_405 rfl ?_
  refine a_iload_n X dL_law_406 rfl ?_
  refine a_iconst (v := 1) X dL_law_407 (by decide) ?_
  refine a_iadd X dL_law_408 ?_
  refine a_sld X hX0 hsb hbb (i1) dL_law_409 ?_
  refine a_aload_n X dL_law_410 rfl ?_
  refine a_iload_n X dL_law_411 rfl ?_
  refine a_iconst (v := 2) X dL_law_412 (by decide) ?_
  refine a_iadd X dL_law_413 ?_
  refine a_sld X hX0 hsb hbb (i2) dL_law_414 ?_
  refine a_callVx X dL_law_415 miX8_hunter lmL_40 (m_hunter h_400) (h_400.2.1.2.1) rfl rfl rfl (Nat.le_of_ble_eq_true rfl) ⟨by decide, by decide, hc, hs⟩ (fun r_415 S_415 q_415 => ?_)
  obtain ⟨⟨v_415, rfl⟩, h_415⟩ := q_415
  refine a_pop X dL_law_418 rfl ?_
  refine a_goto (tgt := 1731) X dL_law_419 (by decide) ?_
  exact law_K X hr hX0 hsb hbb h_415 ih
set_option maxRecDepth 100000 in
set_option maxHeartbeats 8000000 in
theorem law_c6 {p : Program} {l : Launch} {e : Env} {s : State} {m : MethodId} {below : List Frame} {meth : Method} {c : Code} {G : zG} {b sb L : Nat} {xs : Nat → Int32} (X : zOK p s m #[Value.ref sb] meth c G b R_law code 4) (hr : meth.sig.returnType = ret) (hX0 : va_X sb L xs s s.heap) (hsb : sb < s.heap.size) (hbb : b = s.heap.size) (hL : L ≤ 3072) {nc ns : Nat} (hc : nc ≤ 600000) (hs : ns ≤ 7302250) {i : Int32} (h0 : 0 ≤ i.toInt) (h6 : i.toInt + 6 ≤ L) {S : zS} (hI : jI S) (ih : ∀ S' : zS, jI S' → Zw p l e room_1 s m #[Value.ref sb] below meth c G b 4 (lw_Z below #[Value.ref sb] s) nc ns 18 [some (.ref (1000000 + sb)), some (.ref 0), some (.ref 200), some (.int (i + 6))] [] S') : Zw p l e room_1 s m #[Value.ref sb] below meth c G b 4 (lw_Z below #[Value.ref sb] s) nc ns 422 [some (.ref (1000000 + sb)), some (.ref 0), some (.ref 200), some (.int i)] [] S := by
  have i1 : vp_in (i + 1) L := law_ix hL h0 h6 (by decide) (by decide)
  have i2 : vp_in (i + 2) L := law_ix hL h0 h6 (by decide) (by decide)
  have i3 : vp_in (i + 3) L := law_ix hL h0 h6 (by decide) (by decide)
  have i4 : vp_in (i + 4) L := law_ix hL h0 h6 (by decide) (by decide)
  have i5 : vp_in (i + 5) L := law_ix hL h0 h6 (by decide) (by decide)
  refine a_aload_n X dL_law_422 rfl ?_
  refine a_aload_n X dL_law_423 rfl ?_
  refine a_iload_n X dL_law_424 rfl ?_
  refine a_iconst (v := 1) X dL_law_425 (by decide) ?_
  refine a_iadd X dL_law_426 ?_
  refine a_sld X hX0 hsb hbb (i1) dL_law_427 ?_
  refine a_aload_n X dL_law_428 rfl ?_
  refine a_iload_n X dL_law_429 rfl ?_
  refine a_iconst (v := 2) X dL_law_430 (by decide) ?_
  refine a_iadd X dL_law_431 ?_
  refine a_sld X hX0 hsb hbb (i2) dL_law_432 ?_
  refine a_callVx X dL_law_433 miX7_unit lmL_41 (f_unit hI) (hI.1.2.1) rfl rfl rfl (Nat.le_of_ble_eq_true rfl) ⟨by decide, by decide, hc, hs⟩ (fun r_433 S_433 q_433 => ?_)
  obtain ⟨⟨v_433, rfl⟩, h_433⟩ := q_433
  refine a_pop X dL_law_436 rfl ?_
  refine a_aload_n X dL_law_437 rfl ?_
  refine a_aload_n X dL_law_438 rfl ?_
  refine a_iload_n X dL_law_439 rfl ?_
  refine a_iconst (v := 1) X dL_law_440 (by decide) ?_
  refine a_iadd X dL_law_441 ?_
  refine a_sld X hX0 hsb hbb (i1) dL_law_442 ?_
  refine a_aload_n X dL_law_443 rfl ?_
  refine a_iload_n X dL_law_444 rfl ?_
  refine a_iconst (v := 2) X dL_law_445 (by decide) ?_
  refine a_iadd X dL_law_446 ?_
  refine a_sld X hX0 hsb hbb (i2) dL_law_447 ?_
  refine a_callVx X dL_law_448 miX8_unit lmL_44 (m_unit h_433) (h_433.2.1.2.1) rfl rfl rfl (Nat.le_of_ble_eq_true rfl) ⟨by decide, by decide, hc, hs⟩ (fun r_448 S_448 q_448 => ?_)
  obtain ⟨⟨v_448, rfl⟩, h_448⟩ := q_448
  refine a_pop X dL_law_451 rfl ?_
  refine a_goto (tgt := 1731) X dL_law_452 (by decide) ?_
  exact law_K X hr hX0 hsb hbb h_448 ih
set_option maxRecDepth 100000 in
set_option maxHeartbeats 8000000 in
theorem law_c7 {p : Program} {l : Launch} {e : Env} {s : State} {m : MethodId} {below : List Frame} {meth : Method} {c : Code} {G : zG} {b sb L : Nat} {xs : Nat → Int32} (X : zOK p s m #[Value.ref sb] meth c G b R_law code 4) (hr : meth.sig.returnType = ret) (hX0 : va_X sb L xs s s.heap) (hsb : sb < s.heap.size) (hbb : b = s.heap.size) (hL : L ≤ 3072) {nc ns : Nat} (hc : nc ≤ 600000) (hs : ns ≤ 7302250) {i : Int32} (h0 : 0 ≤ i.toInt) (h6 : i.toInt + 6 ≤ L) {S : zS} (hI : jI S) (ih : ∀ S' : zS, jI S' → Zw p l e room_1 s m #[Value.ref sb] below meth c G b 4 (lw_Z below #[Value.ref sb] s) nc ns 18 [some (.ref (1000000 + sb)), some (.ref 0), some (.ref 200), some (.int (i + 6))] [] S') : Zw p l e room_1 s m #[Value.ref sb] below meth c G b 4 (lw_Z below #[Value.ref sb] s) nc ns 455 [some (.ref (1000000 + sb)), some (.ref 0), some (.ref 200), some (.int i)] [] S := by
  have i1 : vp_in (i + 1) L := law_ix hL h0 h6 (by decide) (by decide)
  have i2 : vp_in (i + 2) L := law_ix hL h0 h6 (by decide) (by decide)
  have i3 : vp_in (i + 3) L := law_ix hL h0 h6 (by decide) (by decide)
  have i4 : vp_in (i + 4) L := law_ix hL h0 h6 (by decide) (by decide)
  have i5 : vp_in (i + 5) L := law_ix hL h0 h6 (by decide) (by decide)
  refine a_aload_n X dL_law_455 rfl ?_
  refine a_aload_n X dL_law_456 rfl ?_
  refine a_iload_n X dL_law_457 rfl ?_
  refine a_iconst (v := 1) X dL_law_458 (by decide) ?_
  refine a_iadd X dL_law_459 ?_
  refine a_sld X hX0 hsb hbb (i1) dL_law_460 ?_
  refine a_aload_n X dL_law_461 rfl ?_
  refine a_iload_n X dL_law_462 rfl ?_
  refine a_iconst (v := 2) X dL_law_463 (by decide) ?_
  refine a_iadd X dL_law_464 ?_
  refine a_sld X hX0 hsb hbb (i2) dL_law_465 ?_
  refine a_callVx X dL_law_466 miX7_applicant lmL_45 (f_applicant hI) (hI.1.2.1) rfl rfl rfl (Nat.le_of_ble_eq_true rfl) ⟨by decide, by decide, hc, hs⟩ (fun r_466 S_466 q_466 => ?_)
  obtain ⟨⟨v_466, rfl⟩, h_466⟩ := q_466
  refine a_pop X dL_law_469 rfl ?_
  refine a_aload_n X dL_law_470 rfl ?_
  refine a_aload_n X dL_law_471 rfl ?_
  refine a_iload_n X dL_law_472 rfl ?_
  refine a_iconst (v := 1) X dL_law_473 (by decide) ?_
  refine a_iadd X dL_law_474 ?_
  refine a_sld X hX0 hsb hbb (i1) dL_law_475 ?_
  refine a_aload_n X dL_law_476 rfl ?_
  refine a_iload_n X dL_law_477 rfl ?_
  refine a_iconst (v := 2) X dL_law_478 (by decide) ?_
  refine a_iadd X dL_law_479 ?_
  refine a_sld X hX0 hsb hbb (i2) dL_law_480 ?_
  refine a_callVx X dL_law_481 miX8_applicant lmL_48 (m_applicant h_466) (h_466.2.1.2.1) rfl rfl rfl (Nat.le_of_ble_eq_true rfl) ⟨by decide, by decide, hc, hs⟩ (fun r_481 S_481 q_481 => ?_)
  obtain ⟨⟨v_481, rfl⟩, h_481⟩ := q_481
  refine a_pop X dL_law_484 rfl ?_
  refine a_goto (tgt := 1731) X dL_law_485 (by decide) ?_
  exact law_K X hr hX0 hsb hbb h_481 ih
set_option maxRecDepth 100000 in
set_option maxHeartbeats 8000000 in
theorem law_c8 {p : Program} {l : Launch} {e : Env} {s : State} {m : MethodId} {below : List Frame} {meth : Method} {c : Code} {G : zG} {b sb L : Nat} {xs : Nat → Int32} (X : zOK p s m #[Value.ref sb] meth c G b R_law code 4) (hr : meth.sig.returnType = ret) (hX0 : va_X sb L xs s s.heap) (hsb : sb < s.heap.size) (hbb : b = s.heap.size) (hL : L ≤ 3072) {nc ns : Nat} (hc : nc ≤ 600000) (hs : ns ≤ 7302250) {i : Int32} (h0 : 0 ≤ i.toInt) (h6 : i.toInt + 6 ≤ L) {S : zS} (hI : jI S) (ih : ∀ S' : zS, jI S' → Zw p l e room_1 s m #[Value.ref sb] below meth c G b 4 (lw_Z below #[Value.ref sb] s) nc ns 18 [some (.ref (1000000 + sb)), some (.ref 0), some (.ref 200), some (.int (i + 6))] [] S') : Zw p l e room_1 s m #[Value.ref sb] below meth c G b 4 (lw_Z below #[Value.ref sb] s) nc ns 488 [some (.ref (1000000 + sb)), some (.ref 0), some (.ref 200), some (.int i)] [] S := by
  have i1 : vp_in (i + 1) L := law_ix hL h0 h6 (by decide) (by decide)
  have i2 : vp_in (i + 2) L := law_ix hL h0 h6 (by decide) (by decide)
  have i3 : vp_in (i + 3) L := law_ix hL h0 h6 (by decide) (by decide)
  have i4 : vp_in (i + 4) L := law_ix hL h0 h6 (by decide) (by decide)
  have i5 : vp_in (i + 5) L := law_ix hL h0 h6 (by decide) (by decide)
  refine a_aload_n X dL_law_488 rfl ?_
  refine a_aload_n X dL_law_489 rfl ?_
  refine a_iload_n X dL_law_490 rfl ?_
  refine a_iconst (v := 1) X dL_law_491 (by decide) ?_
  refine a_iadd X dL_law_492 ?_
  refine a_sld X hX0 hsb hbb (i1) dL_law_493 ?_
  refine a_aload_n X dL_law_494 rfl ?_
  refine a_iload_n X dL_law_495 rfl ?_
  refine a_iconst (v := 2) X dL_law_496 (by decide) ?_
  refine a_iadd X dL_law_497 ?_
  refine a_sld X hX0 hsb hbb (i2) dL_law_498 ?_
  refine a_callVx X dL_law_499 miX7_choice lmL_49 (f_choice hI) (hI.1.2.1) rfl rfl rfl (Nat.le_of_ble_eq_true rfl) ⟨by decide, by decide, hc, hs⟩ (fun r_499 S_499 q_499 => ?_)
  obtain ⟨⟨v_499, rfl⟩, h_499⟩ := q_499
  refine a_pop X dL_law_502 rfl ?_
  refine a_aload_n X dL_law_503 rfl ?_
  refine a_aload_n X dL_law_504 rfl ?_
  refine a_iload_n X dL_law_505 rfl ?_
  refine a_iconst (v := 1) X dL_law_506 (by decide) ?_
  refine a_iadd X dL_law_507 ?_
  refine a_sld X hX0 hsb hbb (i1) dL_law_508 ?_
  refine a_aload_n X dL_law_509 rfl ?_
  refine a_iload_n X dL_law_510 rfl ?_
  refine a_iconst (v := 2) X dL_law_511 (by decide) ?_
  refine a_iadd X dL_law_512 ?_
  refine a_sld X hX0 hsb hbb (i2) dL_law_513 ?_
  refine a_callVx X dL_law_514 miX8_choice lmL_52 (m_choice h_499) (h_499.2.1.2.1) rfl rfl rfl (Nat.le_of_ble_eq_true rfl) ⟨by decide, by decide, hc, hs⟩ (fun r_514 S_514 q_514 => ?_)
  obtain ⟨⟨v_514, rfl⟩, h_514⟩ := q_514
  refine a_pop X dL_law_517 rfl ?_
  refine a_goto (tgt := 1731) X dL_law_518 (by decide) ?_
  exact law_K X hr hX0 hsb hbb h_514 ih
set_option maxRecDepth 100000 in
set_option maxHeartbeats 8000000 in
theorem law_c9 {p : Program} {l : Launch} {e : Env} {s : State} {m : MethodId} {below : List Frame} {meth : Method} {c : Code} {G : zG} {b sb L : Nat} {xs : Nat → Int32} (X : zOK p s m #[Value.ref sb] meth c G b R_law code 4) (hr : meth.sig.returnType = ret) (hX0 : va_X sb L xs s s.heap) (hsb : sb < s.heap.size) (hbb : b = s.heap.size) (hL : L ≤ 3072) {nc ns : Nat} (hc : nc ≤ 600000) (hs : ns ≤ 7302250) {i : Int32} (h0 : 0 ≤ i.toInt) (h6 : i.toInt + 6 ≤ L) {S : zS} (hI : jI S) (ih : ∀ S' : zS, jI S' → Zw p l e room_1 s m #[Value.ref sb] below meth c G b 4 (lw_Z below #[Value.ref sb] s) nc ns 18 [some (.ref (1000000 + sb)), some (.ref 0), some (.ref 200), some (.int (i + 6))] [] S') : Zw p l e room_1 s m #[Value.ref sb] below meth c G b 4 (lw_Z below #[Value.ref sb] s) nc ns 521 [some (.ref (1000000 + sb)), some (.ref 0), some (.ref 200), some (.int i)] [] S := by
  have i1 : vp_in (i + 1) L := law_ix hL h0 h6 (by decide) (by decide)
  have i2 : vp_in (i + 2) L := law_ix hL h0 h6 (by decide) (by decide)
  have i3 : vp_in (i + 3) L := law_ix hL h0 h6 (by decide) (by decide)
  have i4 : vp_in (i + 4) L := law_ix hL h0 h6 (by decide) (by decide)
  have i5 : vp_in (i + 5) L := law_ix hL h0 h6 (by decide) (by decide)
  refine a_aload_n X dL_law_521 rfl ?_
  refine a_aload_n X dL_law_522 rfl ?_
  refine a_iload_n X dL_law_523 rfl ?_
  refine a_iconst (v := 1) X dL_law_524 (by decide) ?_
  refine a_iadd X dL_law_525 ?_
  refine a_sld X hX0 hsb hbb (i1) dL_law_526 ?_
  refine a_aload_n X dL_law_527 rfl ?_
  refine a_iload_n X dL_law_528 rfl ?_
  refine a_iconst (v := 2) X dL_law_529 (by decide) ?_
  refine a_iadd X dL_law_530 ?_
  refine a_sld X hX0 hsb hbb (i2) dL_law_531 ?_
  refine a_callVx X dL_law_532 miX7_demand lmL_53 (f_demand hI) (hI.1.2.1) rfl rfl rfl (Nat.le_of_ble_eq_true rfl) ⟨by decide, by decide, hc, hs⟩ (fun r_532 S_532 q_532 => ?_)
  obtain ⟨⟨v_532, rfl⟩, h_532⟩ := q_532
  refine a_pop X dL_law_535 rfl ?_
  refine a_aload_n X dL_law_536 rfl ?_
  refine a_aload_n X dL_law_537 rfl ?_
  refine a_iload_n X dL_law_538 rfl ?_
  refine a_iconst (v := 1) X dL_law_539 (by decide) ?_
  refine a_iadd X dL_law_540 ?_
  refine a_sld X hX0 hsb hbb (i1) dL_law_541 ?_
  refine a_aload_n X dL_law_542 rfl ?_
  refine a_iload_n X dL_law_543 rfl ?_
  refine a_iconst (v := 2) X dL_law_544 (by decide) ?_
  refine a_iadd X dL_law_545 ?_
  refine a_sld X hX0 hsb hbb (i2) dL_law_546 ?_
  refine a_callVx X dL_law_547 miX8_demand lmL_56 (m_demand h_532) (h_532.2.1.2.1) rfl rfl rfl (Nat.le_of_ble_eq_true rfl) ⟨by decide, by decide, hc, hs⟩ (fun r_547 S_547 q_547 => ?_)
  obtain ⟨⟨v_547, rfl⟩, h_547⟩ := q_547
  refine a_pop X dL_law_550 rfl ?_
  refine a_goto (tgt := 1731) X dL_law_551 (by decide) ?_
  exact law_K X hr hX0 hsb hbb h_547 ih
set_option maxRecDepth 100000 in
set_option maxHeartbeats 8000000 in
theorem law_c10 {p : Program} {l : Launch} {e : Env} {s : State} {m : MethodId} {below : List Frame} {meth : Method} {c : Code} {G : zG} {b sb L : Nat} {xs : Nat → Int32} (X : zOK p s m #[Value.ref sb] meth c G b R_law code 4) (hr : meth.sig.returnType = ret) (hX0 : va_X sb L xs s s.heap) (hsb : sb < s.heap.size) (hbb : b = s.heap.size) (hL : L ≤ 3072) {nc ns : Nat} (hc : nc ≤ 600000) (hs : ns ≤ 7302250) {i : Int32} (h0 : 0 ≤ i.toInt) (h6 : i.toInt + 6 ≤ L) {S : zS} (hI : jI S) (ih : ∀ S' : zS, jI S' → Zw p l e room_1 s m #[Value.ref sb] below meth c G b 4 (lw_Z below #[Value.ref sb] s) nc ns 18 [some (.ref (1000000 + sb)), some (.ref 0), some (.ref 200), some (.int (i + 6))] [] S') : Zw p l e room_1 s m #[Value.ref sb] below meth c G b 4 (lw_Z below #[Value.ref sb] s) nc ns 554 [some (.ref (1000000 + sb)), some (.ref 0), some (.ref 200), some (.int i)] [] S := by
  have i1 : vp_in (i + 1) L := law_ix hL h0 h6 (by decide) (by decide)
  have i2 : vp_in (i + 2) L := law_ix hL h0 h6 (by decide) (by decide)
  have i3 : vp_in (i + 3) L := law_ix hL h0 h6 (by decide) (by decide)
  have i4 : vp_in (i + 4) L := law_ix hL h0 h6 (by decide) (by decide)
  have i5 : vp_in (i + 5) L := law_ix hL h0 h6 (by decide) (by decide)
  refine a_aload_n X dL_law_554 rfl ?_
  refine a_aload_n X dL_law_555 rfl ?_
  refine a_iload_n X dL_law_556 rfl ?_
  refine a_iconst (v := 1) X dL_law_557 (by decide) ?_
  refine a_iadd X dL_law_558 ?_
  refine a_sld X hX0 hsb hbb (i1) dL_law_559 ?_
  refine a_aload_n X dL_law_560 rfl ?_
  refine a_iload_n X dL_law_561 rfl ?_
  refine a_iconst (v := 2) X dL_law_562 (by decide) ?_
  refine a_iadd X dL_law_563 ?_
  refine a_sld X hX0 hsb hbb (i2) dL_law_564 ?_
  refine a_callVx X dL_law_565 miX7_share lmL_57 (f_share hI) (hI.1.2.1) rfl rfl rfl (Nat.le_of_ble_eq_true rfl) ⟨by decide, by decide, hc, hs⟩ (fun r_565 S_565 q_565 => ?_)
  obtain ⟨⟨v_565, rfl⟩, h_565⟩ := q_565
  refine a_pop X dL_law_568 rfl ?_
  refine a_aload_n X dL_law_569 rfl ?_
  refine a_aload_n X dL_law_570 rfl ?_
  refine a_iload_n X dL_law_571 rfl ?_
  refine a_iconst (v := 1) X dL_law_572 (by decide) ?_
  refine a_iadd X dL_law_573 ?_
  refine a_sld X hX0 hsb hbb (i1) dL_law_574 ?_
  refine a_aload_n X dL_law_575 rfl ?_
  refine a_iload_n X dL_law_576 rfl ?_
  refine a_iconst (v := 2) X dL_law_577 (by decide) ?_
  refine a_iadd X dL_law_578 ?_
  refine a_sld X hX0 hsb hbb (i2) dL_law_579 ?_
  refine a_callVx X dL_law_580 miX8_share lmL_60 (m_share h_565) (h_565.2.1.2.1) rfl rfl rfl (Nat.le_of_ble_eq_true rfl) ⟨by decide, by decide, hc, hs⟩ (fun r_580 S_580 q_580 => ?_)
  obtain ⟨⟨v_580, rfl⟩, h_580⟩ := q_580
  refine a_pop X dL_law_583 rfl ?_
  refine a_goto (tgt := 1731) X dL_law_584 (by decide) ?_
  exact law_K X hr hX0 hsb hbb h_580 ih
set_option maxRecDepth 100000 in
set_option maxHeartbeats 8000000 in
theorem law_c11 {p : Program} {l : Launch} {e : Env} {s : State} {m : MethodId} {below : List Frame} {meth : Method} {c : Code} {G : zG} {b sb L : Nat} {xs : Nat → Int32} (X : zOK p s m #[Value.ref sb] meth c G b R_law code 4) (hr : meth.sig.returnType = ret) (hX0 : va_X sb L xs s s.heap) (hsb : sb < s.heap.size) (hbb : b = s.heap.size) (hL : L ≤ 3072) {nc ns : Nat} (hc : nc ≤ 600000) (hs : ns ≤ 7302250) {i : Int32} (h0 : 0 ≤ i.toInt) (h6 : i.toInt + 6 ≤ L) {S : zS} (hI : jI S) (ih : ∀ S' : zS, jI S' → Zw p l e room_1 s m #[Value.ref sb] below meth c G b 4 (lw_Z below #[Value.ref sb] s) nc ns 18 [some (.ref (1000000 + sb)), some (.ref 0), some (.ref 200), some (.int (i + 6))] [] S') : Zw p l e room_1 s m #[Value.ref sb] below meth c G b 4 (lw_Z below #[Value.ref sb] s) nc ns 587 [some (.ref (1000000 + sb)), some (.ref 0), some (.ref 200), some (.int i)] [] S := by
  have i1 : vp_in (i + 1) L := law_ix hL h0 h6 (by decide) (by decide)
  have i2 : vp_in (i + 2) L := law_ix hL h0 h6 (by decide) (by decide)
  have i3 : vp_in (i + 3) L := law_ix hL h0 h6 (by decide) (by decide)
  have i4 : vp_in (i + 4) L := law_ix hL h0 h6 (by decide) (by decide)
  have i5 : vp_in (i + 5) L := law_ix hL h0 h6 (by decide) (by decide)
  refine a_aload_n X dL_law_587 rfl ?_
  refine a_aload_n X dL_law_588 rfl ?_
  refine a_iload_n X dL_law_589 rfl ?_
  refine a_iconst (v := 1) X dL_law_590 (by decide) ?_
  refine a_iadd X dL_law_591 ?_
  refine a_sld X hX0 hsb hbb (i1) dL_law_592 ?_
  refine a_aload_n X dL_law_593 rfl ?_
  refine a_iload_n X dL_law_594 rfl ?_
  refine a_iconst (v := 2) X dL_law_595 (by decide) ?_
  refine a_iadd X dL_law_596 ?_
  refine a_sld X hX0 hsb hbb (i2) dL_law_597 ?_
  refine a_callVx X dL_law_598 miX7_order lmL_61 (f_order hI) (hI.1.2.1) rfl rfl rfl (Nat.le_of_ble_eq_true rfl) ⟨by decide, by decide, hc, hs⟩ (fun r_598 S_598 q_598 => ?_)
  obtain ⟨⟨v_598, rfl⟩, h_598⟩ := q_598
  refine a_pop X dL_law_601 rfl ?_
  refine a_aload_n X dL_law_602 rfl ?_
  refine a_aload_n X dL_law_603 rfl ?_
  refine a_iload_n X dL_law_604 rfl ?_
  refine a_iconst (v := 1) X dL_law_605 (by decide) ?_
  refine a_iadd X dL_law_606 ?_
  refine a_sld X hX0 hsb hbb (i1) dL_law_607 ?_
  refine a_aload_n X dL_law_608 rfl ?_
  refine a_iload_n X dL_law_609 rfl ?_
  refine a_iconst (v := 2) X dL_law_610 (by decide) ?_
  refine a_iadd X dL_law_611 ?_
  refine a_sld X hX0 hsb hbb (i2) dL_law_612 ?_
  refine a_callVx X dL_law_613 miX8_order lmL_64 (m_order h_598) (h_598.2.1.2.1) rfl rfl rfl (Nat.le_of_ble_eq_true rfl) ⟨by decide, by decide, hc, hs⟩ (fun r_613 S_613 q_613 => ?_)
  obtain ⟨⟨v_613, rfl⟩, h_613⟩ := q_613
  refine a_pop X dL_law_616 rfl ?_
  refine a_goto (tgt := 1731) X dL_law_617 (by decide) ?_
  exact law_K X hr hX0 hsb hbb h_613 ih
set_option maxRecDepth 100000 in
set_option maxHeartbeats 8000000 in
theorem law_c12 {p : Program} {l : Launch} {e : Env} {s : State} {m : MethodId} {below : List Frame} {meth : Method} {c : Code} {G : zG} {b sb L : Nat} {xs : Nat → Int32} (X : zOK p s m #[Value.ref sb] meth c G b R_law code 4) (hr : meth.sig.returnType = ret) (hX0 : va_X sb L xs s s.heap) (hsb : sb < s.heap.size) (hbb : b = s.heap.size) (hL : L ≤ 3072) {nc ns : Nat} (hc : nc ≤ 600000) (hs : ns ≤ 7302250) {i : Int32} (h0 : 0 ≤ i.toInt) (h6 : i.toInt + 6 ≤ L) {S : zS} (hI : jI S) (ih : ∀ S' : zS, jI S' → Zw p l e room_1 s m #[Value.ref sb] below meth c G b 4 (lw_Z below #[Value.ref sb] s) nc ns 18 [some (.ref (1000000 + sb)), some (.ref 0), some (.ref 200), some (.int (i + 6))] [] S') : Zw p l e room_1 s m #[Value.ref sb] below meth c G b 4 (lw_Z below #[Value.ref sb] s) nc ns 620 [some (.ref (1000000 + sb)), some (.ref 0), some (.ref 200), some (.int i)] [] S := by
  have i1 : vp_in (i + 1) L := law_ix hL h0 h6 (by decide) (by decide)
  have i2 : vp_in (i + 2) L := law_ix hL h0 h6 (by decide) (by decide)
  have i3 : vp_in (i + 3) L := law_ix hL h0 h6 (by decide) (by decide)
  have i4 : vp_in (i + 4) L := law_ix hL h0 h6 (by decide) (by decide)
  have i5 : vp_in (i + 5) L := law_ix hL h0 h6 (by decide) (by decide)
  refine a_aload_n X dL_law_620 rfl ?_
  refine a_aload_n X dL_law_621 rfl ?_
  refine a_iload_n X dL_law_622 rfl ?_
  refine a_iconst (v := 1) X dL_law_623 (by decide) ?_
  refine a_iadd X dL_law_624 ?_
  refine a_sld X hX0 hsb hbb (i1) dL_law_625 ?_
  refine a_aload_n X dL_law_626 rfl ?_
  refine a_iload_n X dL_law_627 rfl ?_
  refine a_iconst (v := 2) X dL_law_628 (by decide) ?_
  refine a_iadd X dL_law_629 ?_
  refine a_sld X hX0 hsb hbb (i2) dL_law_630 ?_
  refine a_callVx X dL_law_631 miX7_drawn lmL_65 (f_drawn hI) (hI.1.2.1) rfl rfl rfl (Nat.le_of_ble_eq_true rfl) ⟨by decide, by decide, hc, hs⟩ (fun r_631 S_631 q_631 => ?_)
  obtain ⟨⟨v_631, rfl⟩, h_631⟩ := q_631
  refine a_pop X dL_law_634 rfl ?_
  refine a_aload_n X dL_law_635 rfl ?_
  refine a_aload_n X dL_law_636 rfl ?_
  refine a_iload_n X dL_law_637 rfl ?_
  refine a_iconst (v := 1) X dL_law_638 (by decide) ?_
  refine a_iadd X dL_law_639 ?_
  refine a_sld X hX0 hsb hbb (i1) dL_law_640 ?_
  refine a_aload_n X dL_law_641 rfl ?_
  refine a_iload_n X dL_law_642 rfl ?_
  refine a_iconst (v := 2) X dL_law_643 (by decide) ?_
  refine a_iadd X dL_law_644 ?_
  refine a_sld X hX0 hsb hbb (i2) dL_law_645 ?_
  refine a_callVx X dL_law_646 miX8_drawn lmL_68 (m_drawn h_631) (h_631.2.1.2.1) rfl rfl rfl (Nat.le_of_ble_eq_true rfl) ⟨by decide, by decide, hc, hs⟩ (fun r_646 S_646 q_646 => ?_)
  obtain ⟨⟨v_646, rfl⟩, h_646⟩ := q_646
  refine a_pop X dL_law_649 rfl ?_
  refine a_goto (tgt := 1731) X dL_law_650 (by decide) ?_
  exact law_K X hr hX0 hsb hbb h_646 ih
