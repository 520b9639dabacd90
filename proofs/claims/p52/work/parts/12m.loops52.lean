/-! p52: the law's list: its loops -/
theorem pT_t : pT true = [112, 97, 114, 116, 121, 32, 112, 32, 104, 97, 32, 104, 98, 59] := rfl
set_option maxRecDepth 100000 in
set_option maxHeartbeats 4000000 in
theorem ls_358 {p0 : Program} {l : Launch} {e : Env} {s : State} {m : MethodId} {args : Array Value} {below : List Frame} {meth : Method} {c : Code} {G : zG} {b : Nat} {S0 : zS} {P a0 : Nat} (X : zOK p0 s m args meth c G b RX8 cL_list 9) (hr : meth.sig.returnType = some (.object "java/lang/String")) (ho : zLo G S0 P) (ha0 : a0 ≤ 5000) {nc ns : Nat} {S : zS} {v a f k : Nat} {x8 : Option Value} {qs : List Nat} {hs : List (Nat × Bool)} {bb : Bool} {as : List (Nat × List Nat)} {T : List Nat} {h : Nat} (hF : zLf qs hs bb h as T) (hh : h < hs.length) (hf : f < qs.length) (hk : 1 ≤ k ∧ k ≤ qs.length) (kC : ∀ (h2 : Nat) (as : List (Nat × List Nat)) (T : List Nat) (v a nc ns : Nat) (S : zS) (x7 x8 : Option Value), h < h2 → h2 ≤ hs.length → zLf qs hs bb h2 as T → zBg zRl (40 + 40 * (5 - h2)) nc ns S → zSt S0 S P a → a ≤ a0 + 16 + 4 * h2 → zTt G S S.1.length v T → Zw p0 l e zRl s m args below meth c G b 9 (MQ below (zQ G b (zLQ G S0 P a0)) args s 800 1204000 (fun q : Nat => b ≤ q)) nc ns 212 [some (.ref P), some (.int (nI 5)), some (.ref v), some (.int (nI qs.length)), some (.int (nI hs.length)), some (.int (nI (if bb then 1 else 0))), some (.int (nI h2)), x7, x8] [] S) (hb : zBg zRl (46 + 40 * (5 - (h + 1))) nc ns S) (hst : zSt S0 S P a) (ha : a ≤ a0 + 16 + 4 * (h + 1)) (hv : zTt G S S.1.length v (T ++ ([97, 115, 107, 115, 32] ++ ((if bb && h == 1 then [112] else [104, 97 + h]) ++ wtx (cyc f qs.length k))))) : Zw p0 l e zRl s m args below meth c G b 9 (MQ below (zQ G b (zLQ G S0 P a0)) args s 800 1204000 (fun q : Nat => b ≤ q)) nc ns 358 [some (.ref P), some (.int (nI 5)), some (.ref v), some (.int (nI qs.length)), some (.int (nI hs.length)), some (.int (nI (if bb then 1 else 0))), some (.int (nI h)), some (.int (nI f)), x8] [] S := by
  have hR : 6 ≤ zRl.frames ∧ 216 ≤ zRl.locals := ⟨Nat.le_of_ble_eq_true rfl, Nat.le_of_ble_eq_true rfl⟩
  obtain ⟨c3, c4, c5, c6, c7, c8, c9, c10, c11, c12, c13⟩ := id hF
  have hb := hb.less (k := 40 + 40 * (5 - (h + 1)) + 6) (by omega)
  have hT9 : T.length ≤ 219 := by omega
  have hwl : (wtx (cyc f qs.length k)).length = 3 * k := by rw [wtx_len, cyc_len]
  have hdl : (if bb && h == 1 then [112] else [104, 97 + h]).length ≤ 2 := by split; exact Nat.le_succ 1; exact Nat.le_refl 2
  have hTl : (T ++ ([97, 115, 107, 115, 32] ++ ((if bb && h == 1 then [112] else [104, 97 + h]) ++ wtx (cyc f qs.length k)))).length ≤ T.length + 16 := by simp only [List.length_append, List.length_cons, List.length_nil]; omega
  have hq0 := hst.2.1
  refine a_sbNew X dL_list_358 dL_list_361 dL_list_362 ln8_63 lm8_65 hR (Nat.le_of_ble_eq_true rfl) hb (fun j n nc ns z358 hb hg hsb => ?_)
  have hst := hst.gr hg (fun _ q => q.elim)
  have hv := hv.gr hg
  refine a_aload_n X dL_list_365 rfl ?_
  have hsb0 := hsb
  refine a_apS  X lm8_66 hR (Nat.le_of_ble_eq_true rfl) hb hsb ⟨hv.1, hv.2.1⟩ (fun q i hi w => Nat.lt_asymm ((hv.2.2 q).2 i hi) (by rw [w]; exact hsb.2.1.1)) (by show 0 + _ ≤ _; omega) dL_list_366 (fun j n nc ns z366 hb hg hsb => ?_)
  have hst := hst.gr hg (fun i q => by rcases q with q | q <;> (have := hsb0.2.1.1; omega))
  refine a_ldcS (i := 14) (q := ("TagDrawLaw", 80, ";")) X rfl rfl rfl dL_list_369 ?_
  have hsb0 := hsb
  refine a_apS  X lm8_66 hR (Nat.le_of_ble_eq_true rfl) hb hsb (zTt.lit2 (i := 14) (u := [59]) (by decide +kernel)) (fun q => absurd q (by omega)) (by simp only [List.length_append, List.length_cons, List.length_nil] at hTl ⊢; omega) dL_list_371 (fun j n nc ns z371 hb hg hsb => ?_)
  have hst := hst.gr hg (fun i q => by rcases q with q | q <;> (have := hsb0.2.1.1; omega))
  refine a_toS X lm8_82 hR (Nat.le_of_ble_eq_true rfl) hb hsb dL_list_374 (fun nc ns z374 hb hg hvn hv => ?_)
  have hst := hst.gr hg (fun _ q => q.elim)
  refine a_astore_n X dL_list_377 (by decide) ?_
  refine a_iinc (v := nI (h + 1)) X dL_list_378 (by decide) rfl (nI_1 h) ?_
  refine a_goto (tgt := 212) X dL_list_381 (by decide) ?_
  have hF2 : zLf qs hs bb (h + 1) (as ++ [(h, cyc f qs.length k)]) (T ++ aL bb h (cyc f qs.length k)) := ⟨c3, c4, c5, c6, aOk_snoc as 0 h _ c7 c9 (Nat.zero_le _) hh c12 (fun e9 => by have := cyc_len f qs.length k; rw [e9] at this; simp at this; omega) (by rw [cyc_len]; omega) (cyc_nd f (by omega) qs.length c3.2 hf k hk.2) (fun u hu => cyc_in (by omega) hu), by rw [List.length_append]; show _ + 1 ≤ _; omega, fun p hp => by
    rcases List.mem_append.mp hp with h8 | h8
    · have := c9 p h8; omega
    · rw [List.mem_singleton.mp h8]; exact Nat.lt_succ_self h, by rw [c10, aT_snoc]; simp only [List.append_assoc], by
    unfold aL
    simp only [List.length_append, List.length_cons, List.length_nil] at hTl ⊢
    omega, fun q => Nat.le_succ_of_le (c12 q), by omega⟩
  have e9 : [] ++ (T ++ ([97, 115, 107, 115, 32] ++ ((if bb && h == 1 then [112] else [104, 97 + h]) ++ wtx (cyc f qs.length k)))) ++ [59] = T ++ aL bb h (cyc f qs.length k) := by
    unfold aL
    simp only [List.append_assoc, List.nil_append]
  rw [e9] at hv
  exact Zw.to (kC (h + 1) _ _ _ _ _ _ _ _ _ (Nat.lt_succ_self h) hh hF2 (hb.less (by omega)) hst (by omega) hv) rfl rfl
set_option maxRecDepth 100000 in
set_option maxHeartbeats 4000000 in
theorem ls_299 {p0 : Program} {l : Launch} {e : Env} {s : State} {m : MethodId} {args : Array Value} {below : List Frame} {meth : Method} {c : Code} {G : zG} {b : Nat} {S0 : zS} {P a0 : Nat} (X : zOK p0 s m args meth c G b RX8 cL_list 9) (hr : meth.sig.returnType = some (.object "java/lang/String")) (ho : zLo G S0 P) (ha0 : a0 ≤ 5000) {qs : List Nat} {hs : List (Nat × Bool)} {bb : Bool} {as : List (Nat × List Nat)} {T : List Nat} {h : Nat} (hF : zLf qs hs bb h as T) (hh : h < hs.length) {f : Nat} (hf : f < qs.length) (kC : ∀ (h2 : Nat) (as : List (Nat × List Nat)) (T : List Nat) (v a nc ns : Nat) (S : zS) (x7 x8 : Option Value), h < h2 → h2 ≤ hs.length → zLf qs hs bb h2 as T → zBg zRl (40 + 40 * (5 - h2)) nc ns S → zSt S0 S P a → a ≤ a0 + 16 + 4 * h2 → zTt G S S.1.length v T → Zw p0 l e zRl s m args below meth c G b 9 (MQ below (zQ G b (zLQ G S0 P a0)) args s 800 1204000 (fun q : Nat => b ≤ q)) nc ns 212 [some (.ref P), some (.int (nI 5)), some (.ref v), some (.int (nI qs.length)), some (.int (nI hs.length)), some (.int (nI (if bb then 1 else 0))), some (.int (nI h2)), x7, x8] [] S) : ∀ (g k v a nc ns : Nat) (S : zS), 3 < g + k → k ≤ qs.length → zBg zRl (46 + 40 * (5 - (h + 1)) + 6 * (3 - k)) nc ns S → zSt S0 S P a → a ≤ a0 + 16 + 4 * h + 2 + (k - 1) → zTt G S S.1.length v (T ++ ([97, 115, 107, 115, 32] ++ ((if bb && h == 1 then [112] else [104, 97 + h]) ++ wtx (cyc f qs.length k)))) → Zw p0 l e zRl s m args below meth c G b 9 (MQ below (zQ G b (zLQ G S0 P a0)) args s 800 1204000 (fun q : Nat => b ≤ q)) nc ns 299 [some (.ref P), some (.int (nI 5)), some (.ref v), some (.int (nI qs.length)), some (.int (nI hs.length)), some (.int (nI (if bb then 1 else 0))), some (.int (nI h)), some (.int (nI f)), some (.int (nI k))] [] S := by
  have hR : 6 ≤ zRl.frames ∧ 216 ≤ zRl.locals := ⟨Nat.le_of_ble_eq_true rfl, Nat.le_of_ble_eq_true rfl⟩
  obtain ⟨c3, c4, c5, c6, c7, c8, c9, c10, c11, c12, c13⟩ := id hF
  have hT9 : T.length ≤ 219 := by omega
  intro g
  induction g with
  | zero => intro k v a nc ns S h1 h2; omega
  | succ g ih =>
    intro k v a nc ns S h1 hk2 hb hst ha hv
    have hwl : (wtx (cyc f qs.length k)).length = 3 * k := by rw [wtx_len, cyc_len]
    have hdl : (if bb && h == 1 then [112] else [104, 97 + h]).length ≤ 2 := by split; exact Nat.le_succ 1; exact Nat.le_refl 2
    have hTl : (T ++ ([97, 115, 107, 115, 32] ++ ((if bb && h == 1 then [112] else [104, 97 + h]) ++ wtx (cyc f qs.length k)))).length ≤ T.length + 16 := by simp only [List.length_append, List.length_cons, List.length_nil]; omega
    have J : ∀ (a : Nat) (S : zS), k < qs.length → zBg zRl (46 + 40 * (5 - (h + 1)) + 6 * (3 - k)) nc ns S → zSt S0 S P a → a ≤ a0 + 16 + 4 * h + 2 + k → zTt G S S.1.length v (T ++ ([97, 115, 107, 115, 32] ++ ((if bb && h == 1 then [112] else [104, 97 + h]) ++ wtx (cyc f qs.length k)))) → Zw p0 l e zRl s m args below meth c G b 9 (MQ below (zQ G b (zLQ G S0 P a0)) args s 800 1204000 (fun q : Nat => b ≤ q)) nc ns 318 [some (.ref P), some (.int (nI 5)), some (.ref v), some (.int (nI qs.length)), some (.int (nI hs.length)), some (.int (nI (if bb then 1 else 0))), some (.int (nI h)), some (.int (nI f)), some (.int (nI k))] [] S := by
      intro a S hkq hb hst ha hv
      have hb := hb.less (k := 46 + 40 * (5 - (h + 1)) + 6 * (3 - (k + 1)) + 6) (by omega)
      have hq0 := hst.2.1
      refine a_sbNew X dL_list_318 dL_list_321 dL_list_322 ln8_63 lm8_65 hR (Nat.le_of_ble_eq_true rfl) hb (fun j n nc ns z318 hb hg hsb => ?_)
      have hst := hst.gr hg (fun _ q => q.elim)
      have hv := hv.gr hg
      refine a_aload_n X dL_list_325 rfl ?_
      have hsb0 := hsb
      refine a_apS  X lm8_66 hR (Nat.le_of_ble_eq_true rfl) hb hsb ⟨hv.1, hv.2.1⟩ (fun q i hi w => Nat.lt_asymm ((hv.2.2 q).2 i hi) (by rw [w]; exact hsb.2.1.1)) (by show 0 + _ ≤ _; omega) dL_list_326 (fun j n nc ns z326 hb hg hsb => ?_)
      have hst := hst.gr hg (fun i q => by rcases q with q | q <;> (have := hsb0.2.1.1; omega))
      refine a_ldcS (i := 20) (q := ("TagDrawLaw", 96, " u")) X rfl rfl rfl dL_list_329 ?_
      have hsb0 := hsb
      refine a_apS  X lm8_66 hR (Nat.le_of_ble_eq_true rfl) hb hsb (zTt.lit2 (i := 20) (u := [32, 117]) (by decide +kernel)) (fun q => absurd q (by omega)) (by simp only [List.length_append, List.length_cons, List.length_nil] at hTl ⊢; omega) dL_list_331 (fun j n nc ns z331 hb hg hsb => ?_)
      have hst := hst.gr hg (fun i q => by rcases q with q | q <;> (have := hsb0.2.1.1; omega))
      refine a_bipush (v := nI 97) X dL_list_334 (by decide) ?_
      refine a_iload X dL_list_336 rfl ?_
      refine a_iload X dL_list_338 rfl ?_
      refine a_iadd X dL_list_340 ?_
      rw [nI_add]
      refine a_iload_n X dL_list_341 rfl ?_
      refine a_irem X dL_list_342 (z_nI0 (by omega)) ?_
      rw [z_irem (by omega) (by omega)]
      have hmd : (f + k) % qs.length < qs.length := Nat.mod_lt _ (by omega)
      refine a_iadd X dL_list_343 ?_
      rw [nI_add]
      refine a_i2c X dL_list_344 ?_
      rw [z_97 _ (by omega)]
      have hsb0 := hsb
      refine a_apC (x := 97 + (f + k) % qs.length) X lm8_72 hR (Nat.le_of_ble_eq_true rfl) hb hsb (by omega) (by simp only [List.length_append, List.length_cons, List.length_nil] at hTl ⊢; omega) dL_list_345 (fun j n nc ns z345 hb hg hsb => ?_)
      have hst := hst.gr hg (fun i q => by rcases q with q | q <;> (have := hsb0.2.1.1; omega))
      refine a_toS X lm8_82 hR (Nat.le_of_ble_eq_true rfl) hb hsb dL_list_348 (fun nc ns z348 hb hg hvn hv => ?_)
      have hst := hst.gr hg (fun _ q => q.elim)
      refine a_astore_n X dL_list_351 (by decide) ?_
      refine a_iinc (v := nI (k + 1)) X dL_list_352 (by decide) rfl (nI_1 k) ?_
      refine a_goto (tgt := 299) X dL_list_355 (by decide) ?_
      have e9 : [] ++ (T ++ ([97, 115, 107, 115, 32] ++ ((if bb && h == 1 then [112] else [104, 97 + h]) ++ wtx (cyc f qs.length k)))) ++ [32, 117] ++ [97 + (f + k) % qs.length] = T ++ ([97, 115, 107, 115, 32] ++ ((if bb && h == 1 then [112] else [104, 97 + h]) ++ wtx (cyc f qs.length (k + 1)))) := by
        rw [cyc_s, wtx_snoc]
        simp only [List.append_assoc, List.nil_append, List.cons_append]
      rw [e9] at hv
      exact Zw.to (ih (k + 1) _ _ _ _ _ (by omega) (by omega) (hb.less (by omega)) hst (by omega) hv) rfl rfl
    refine a_iload X dL_list_299 rfl ?_
    refine a_iload_n X dL_list_301 rfl ?_
    refine a_icmp_ge (tgt := 358) X dL_list_302 (by decide) (fun h9 => ?_) (fun h9 => ?_)
    · have h8 := (nI_leI (by omega) (by omega)).mp h9
      exact Zw.to (ls_358 (k := k) X hr ho ha0 hF hh hf ⟨by omega, hk2⟩ kC (hb.less (by omega)) hst (by omega) hv) rfl rfl
    · have h8 : k < qs.length := Nat.not_le.mp (fun q => h9 ((nI_leI (by omega) (by omega)).mpr q))
      refine a_iload X dL_list_305 rfl ?_
      refine a_if_eq (tgt := 318) X dL_list_307 (by decide) (fun h7 => ?_) (fun h7 => ?_)
      · exact Zw.to (J a S h8 hb hst (by omega) hv) rfl rfl
      · have hk1 : 1 ≤ k := by
          by_cases q : k = 0
          · subst q; exact absurd rfl h7
          · omega
        refine a_aload_n X dL_list_310 rfl ?_
        refine a_iconst (v := nI 3) X dL_list_311 (by decide) ?_
        have hst0 := hst
        refine a_cho (n := 3) X lm8_60 hR (Nat.le_of_ble_eq_true rfl) hb ho hst (by omega) ⟨by omega, by omega⟩ dL_list_312 (fun y hxy hb hst => ?_)
        have hv := hv.at hst0 ho
        refine a_if_le (tgt := 358) X dL_list_315 (by decide) (fun h6 => ?_) (fun h6 => ?_)
        · exact Zw.to (ls_358 (k := k) X hr ho ha0 hF hh hf ⟨hk1, hk2⟩ kC (hb.less (by omega)) hst (by omega) hv) rfl rfl
        · exact Zw.to (J _ _ h8 hb hst (by omega) hv) rfl rfl
set_option maxRecDepth 100000 in
set_option maxHeartbeats 4000000 in
theorem ls_282 {p0 : Program} {l : Launch} {e : Env} {s : State} {m : MethodId} {args : Array Value} {below : List Frame} {meth : Method} {c : Code} {G : zG} {b : Nat} {S0 : zS} {P a0 : Nat} (X : zOK p0 s m args meth c G b RX8 cL_list 9) (hr : meth.sig.returnType = some (.object "java/lang/String")) (ho : zLo G S0 P) (ha0 : a0 ≤ 5000) {nc ns : Nat} {S : zS} {v a q j n vv : Nat} {u : List Nat} {x7 x8 : Option Value} {qs : List Nat} {hs : List (Nat × Bool)} {bb : Bool} {as : List (Nat × List Nat)} {T : List Nat} {h : Nat} (hF : zLf qs hs bb h as T) (hh : h < hs.length) (kC : ∀ (h2 : Nat) (as : List (Nat × List Nat)) (T : List Nat) (v a nc ns : Nat) (S : zS) (x7 x8 : Option Value), h < h2 → h2 ≤ hs.length → zLf qs hs bb h2 as T → zBg zRl (40 + 40 * (5 - h2)) nc ns S → zSt S0 S P a → a ≤ a0 + 16 + 4 * h2 → zTt G S S.1.length v T → Zw p0 l e zRl s m args below meth c G b 9 (MQ below (zQ G b (zLQ G S0 P a0)) args s 800 1204000 (fun q : Nat => b ≤ q)) nc ns 212 [some (.ref P), some (.int (nI 5)), some (.ref v), some (.int (nI qs.length)), some (.int (nI hs.length)), some (.int (nI (if bb then 1 else 0))), some (.int (nI h2)), x7, x8] [] S) (hb : zBg zRl (50 + 40 * (5 - (h + 1)) + 18) nc ns S) (hst : zSt S0 S P a) (hq0 : S0.1.length ≤ q) (ha : a ≤ a0 + 16 + 4 * h + 1) (hsb : zSB S q j n T) (hv : zTx G S vv u ∧ ∀ x, x ∈ u → x < 128) (hvj : vv < 1000000 → ∀ i, S.1[vv]? = some (0, 9, [(2, i), (0, 0), (0, 0), (0, 0)]) → ¬ i = j) (hu : u = [97, 115, 107, 115, 32] ++ (if bb && h == 1 then [112] else [104, 97 + h])) : Zw p0 l e zRl s m args below meth c G b 9 (MQ below (zQ G b (zLQ G S0 P a0)) args s 800 1204000 (fun q : Nat => b ≤ q)) nc ns 282 [some (.ref P), some (.int (nI 5)), some (.ref v), some (.int (nI qs.length)), some (.int (nI hs.length)), some (.int (nI (if bb then 1 else 0))), some (.int (nI h)), x7, x8] [.ref vv, .ref q] S := by
  have hR : 6 ≤ zRl.frames ∧ 216 ≤ zRl.locals := ⟨Nat.le_of_ble_eq_true rfl, Nat.le_of_ble_eq_true rfl⟩
  obtain ⟨c3, c4, c5, c6, c7, c8, c9, c10, c11, c12, c13⟩ := id hF
  have hT9 : T.length ≤ 219 := by omega
  have hdl : (if bb && h == 1 then [112] else [104, 97 + h]).length ≤ 2 := by split; exact Nat.le_succ 1; exact Nat.le_refl 2
  have hul : u.length ≤ 7 := by rw [hu]; simp only [List.length_append, List.length_cons, List.length_nil]; omega
  have hsb0 := hsb
  refine a_apS  X lm8_66 hR (Nat.le_of_ble_eq_true rfl) hb hsb hv hvj (by omega) dL_list_282 (fun j n nc ns z282 hb hg hsb => ?_)
  have hst := hst.gr hg (fun i q => by rcases q with q | q <;> (have := hsb0.2.1.1; omega))
  refine a_toS X lm8_82 hR (Nat.le_of_ble_eq_true rfl) hb hsb dL_list_285 (fun nc ns z285 hb hg hvn hv => ?_)
  have hst := hst.gr hg (fun _ q => q.elim)
  refine a_astore_n X dL_list_288 (by decide) ?_
  refine a_aload_n X dL_list_289 rfl ?_
  refine a_iload_n X dL_list_290 rfl ?_
  have hst0 := hst
  refine a_cho (n := qs.length) X lm8_60 hR (Nat.le_of_ble_eq_true rfl) hb ho hst (by omega) ⟨by omega, by omega⟩ dL_list_291 (fun f hxf hb hst => ?_)
  have hv := hv.at hst0 ho
  refine a_istore X dL_list_294 (by decide) ?_
  refine a_iconst (v := nI 0) X dL_list_296 (by decide) ?_
  refine a_istore X dL_list_297 (by decide) ?_
  have e9 : T ++ u = T ++ ([97, 115, 107, 115, 32] ++ ((if bb && h == 1 then [112] else [104, 97 + h]) ++ wtx (cyc f qs.length 0))) := by
    rw [hu, show wtx (cyc f qs.length 0) = [] from rfl, List.append_nil]
  rw [e9] at hv
  exact Zw.to (ls_299 X hr ho ha0 hF hh hxf kC 4 0 _ _ _ _ _ (by omega) (by omega) (hb.less (by omega)) hst (by omega) hv) rfl rfl
set_option maxRecDepth 100000 in
set_option maxHeartbeats 4000000 in
theorem ls_212 {p0 : Program} {l : Launch} {e : Env} {s : State} {m : MethodId} {args : Array Value} {below : List Frame} {meth : Method} {c : Code} {G : zG} {b : Nat} {S0 : zS} {P a0 : Nat} (X : zOK p0 s m args meth c G b RX8 cL_list 9) (hr : meth.sig.returnType = some (.object "java/lang/String")) (ho : zLo G S0 P) (ha0 : a0 ≤ 5000) {qs : List Nat} {hs : List (Nat × Bool)} {bb : Bool} : ∀ (g h : Nat) (as : List (Nat × List Nat)) (T : List Nat) (v a nc ns : Nat) (S : zS) (x7 x8 : Option Value), 5 < g + h → h ≤ hs.length → zLf qs hs bb h as T → zBg zRl (40 + 40 * (5 - h)) nc ns S → zSt S0 S P a → a ≤ a0 + 16 + 4 * h → zTt G S S.1.length v T → Zw p0 l e zRl s m args below meth c G b 9 (MQ below (zQ G b (zLQ G S0 P a0)) args s 800 1204000 (fun q : Nat => b ≤ q)) nc ns 212 [some (.ref P), some (.int (nI 5)), some (.ref v), some (.int (nI qs.length)), some (.int (nI hs.length)), some (.int (nI (if bb then 1 else 0))), some (.int (nI h)), x7, x8] [] S := by
  have hR : 6 ≤ zRl.frames ∧ 216 ≤ zRl.locals := ⟨Nat.le_of_ble_eq_true rfl, Nat.le_of_ble_eq_true rfl⟩
  intro g
  induction g with
  | zero => intro h as T v a nc ns S x7 x8 h1 h2 hF; have := hF.2.2.1.2; omega
  | succ g ih =>
    intro h as T v a nc ns S x7 x8 h1 h2 hF hb hst ha hv
    obtain ⟨c3, c4, c5, c6, c7, c8, c9, c10, c11, c12, c13⟩ := id hF
    have hT9 : T.length ≤ 219 := by omega
    refine a_iload X dL_list_212 rfl ?_
    refine a_iload X dL_list_214 rfl ?_
    refine a_icmp_ge (tgt := 384) X dL_list_216 (by decide) (fun h9 => ?_) (fun h9 => ?_)
    · exact Zw.to (ls_384 X hr ho ha0 hF (hb.less (by omega)) hst (by omega) hv) rfl rfl
    · have hh : h < hs.length := Nat.not_le.mp (fun q => h9 ((nI_leI (by omega) (by omega)).mpr q))
      have kC : ∀ (h2 : Nat) (as : List (Nat × List Nat)) (T : List Nat) (v a nc ns : Nat) (S : zS) (x7 x8 : Option Value), h < h2 → h2 ≤ hs.length → zLf qs hs bb h2 as T → zBg zRl (40 + 40 * (5 - h2)) nc ns S → zSt S0 S P a → a ≤ a0 + 16 + 4 * h2 → zTt G S S.1.length v T → Zw p0 l e zRl s m args below meth c G b 9 (MQ below (zQ G b (zLQ G S0 P a0)) args s 800 1204000 (fun q : Nat => b ≤ q)) nc ns 212 [some (.ref P), some (.int (nI 5)), some (.ref v), some (.int (nI qs.length)), some (.int (nI hs.length)), some (.int (nI (if bb then 1 else 0))), some (.int (nI h2)), x7, x8] [] S := fun h2 as T v a nc ns S x7 x8 w1 w2 w3 w4 w5 w6 w7 => ih h2 as T v a nc ns S x7 x8 (by omega) w2 w3 w4 w5 w6 w7
      refine a_aload_n X dL_list_219 rfl ?_
      refine a_bipush (v := nI 6) X dL_list_220 (by decide) ?_
      have hst0 := hst
      refine a_cho (n := 6) X lm8_60 hR (Nat.le_of_ble_eq_true rfl) hb ho hst (by omega) ⟨by omega, by omega⟩ dL_list_222 (fun y hxy hb hst => ?_)
      have hv := hv.at hst0 ho
      refine a_if_ne (tgt := 231) X dL_list_225 (by decide) (fun h8 => ?_) (fun h8 => ?_)
      · have hb := hb.less (k := 50 + 40 * (5 - (h + 1)) + 18 + 8) (by omega)
        have hq0 := hst.2.1
        refine a_sbNew X dL_list_231 dL_list_234 dL_list_235 ln8_63 lm8_65 hR (Nat.le_of_ble_eq_true rfl) hb (fun j n nc ns z231 hb hg hsb => ?_)
        have hst := hst.gr hg (fun _ q => q.elim)
        have hv := hv.gr hg
        refine a_aload_n X dL_list_238 rfl ?_
        have hsb0 := hsb
        refine a_apS  X lm8_66 hR (Nat.le_of_ble_eq_true rfl) hb hsb ⟨hv.1, hv.2.1⟩ (fun q i hi w => Nat.lt_asymm ((hv.2.2 q).2 i hi) (by rw [w]; exact hsb.2.1.1)) (by show 0 + _ ≤ _; omega) dL_list_239 (fun j n nc ns z239 hb hg hsb => ?_)
        have hst := hst.gr hg (fun i q => by rcases q with q | q <;> (have := hsb0.2.1.1; omega))
        rw [List.nil_append] at hsb
        refine a_iload X dL_list_242 rfl ?_
        have hso := hsb
        have hqo := hq0
        have hlo := hso.lt
        cases bb with
        | true =>
          refine a_if_eq (tgt := 258) X dL_list_244 (by decide) (fun h7 => absurd h7 (by decide)) (fun h7 => ?_)
          refine a_iload X dL_list_247 rfl ?_
          refine a_iconst (v := nI 1) X dL_list_249 (by decide) ?_
          refine a_icmp_ne (tgt := 258) X dL_list_250 (by decide) (fun h6 => ?_) (fun h6 => ?_)
          · have hne : ¬ h = 1 := fun q => h6 (by rw [q])
            have hq0 := hst.2.1
            refine a_sbNew X dL_list_258 dL_list_261 dL_list_262 ln8_63 lm8_65 hR (Nat.le_of_ble_eq_true rfl) hb (fun j n nc ns z258 hb hg hsb => ?_)
            have hst := hst.gr hg (fun _ q => q.elim)
            have hso := hso.gr hg ⟨fun w => w, fun w => w⟩
            refine a_ldcS (i := 19) (q := ("TagDrawLaw", 94, "asks h")) X rfl rfl rfl dL_list_265 ?_
            have hsb0 := hsb
            refine a_apS  X lm8_66 hR (Nat.le_of_ble_eq_true rfl) hb hsb (zTt.lit2 (i := 19) (u := [97, 115, 107, 115, 32, 104]) (by decide +kernel)) (fun q => absurd q (by omega)) (by decide) dL_list_267 (fun j n nc ns z267 hb hg hsb => ?_)
            have hst := hst.gr hg (fun i q => by rcases q with q | q <;> (have := hsb0.2.1.1; omega))
            have hso := hso.gr hg ⟨fun w => by rcases w with w | w <;> (have := hsb0.2.1.1; omega), fun w => by rcases w with w | w <;> (have := hsb0.2.1.1; omega)⟩
            refine a_bipush (v := nI 97) X dL_list_270 (by decide) ?_
            refine a_iload X dL_list_272 rfl ?_
            refine a_iadd X dL_list_274 ?_
            rw [nI_add]
            refine a_i2c X dL_list_275 ?_
            rw [z_97 h (by omega)]
            have hsb0 := hsb
            refine a_apC (x := 97 + h) X lm8_72 hR (Nat.le_of_ble_eq_true rfl) hb hsb (by omega) (by decide) dL_list_276 (fun j n nc ns z276 hb hg hsb => ?_)
            have hst := hst.gr hg (fun i q => by rcases q with q | q <;> (have := hsb0.2.1.1; omega))
            have hso := hso.gr hg ⟨fun w => by rcases w with w | w <;> (have := hsb0.2.1.1; omega), fun w => by rcases w with w | w <;> (have := hsb0.2.1.1; omega)⟩
            refine a_toS X lm8_82 hR (Nat.le_of_ble_eq_true rfl) hb hsb dL_list_279 (fun nc ns z279 hb hg hvn hv => ?_)
            have hst := hst.gr hg (fun _ q => q.elim)
            have hlo2 := hso.lt
            have hso := hso.gr hg ⟨fun w => w, fun w => w⟩
            exact Zw.to (ls_282 (u := [] ++ [97, 115, 107, 115, 32, 104] ++ [97 + h]) X hr ho ha0 hF hh kC (hb.less (by omega)) hst hqo (by omega) hso ⟨hv.1, hv.2.1⟩ (fun q i hi e9 => by rw [hvn] at hi; cases hi; omega) (by rw [if_neg (by simp [hne])]; rfl)) rfl rfl
          · have h1 : h = 1 := by
              have := congrArg Int32.toInt h6
              rw [nI_toInt (by omega), nI_toInt (by omega)] at this
              omega
            refine a_ldcS (i := 18) (q := ("TagDrawLaw", 92, "asks p")) X rfl rfl rfl dL_list_253 ?_
            refine a_goto (tgt := 282) X dL_list_255 (by decide) ?_
            exact Zw.to (ls_282 (u := [97, 115, 107, 115, 32, 112]) X hr ho ha0 hF hh kC (hb.less (by omega)) hst hqo (by omega) hso (zTt.lit2 (i := 18) (u := [97, 115, 107, 115, 32, 112]) (by decide +kernel)) (fun q => absurd q (by omega)) (by subst h1; rfl)) rfl rfl
        | false =>
          refine a_if_eq (tgt := 258) X dL_list_244 (by decide) (fun h7 => ?_) (fun h7 => absurd rfl h7)
          have hq0 := hst.2.1
          refine a_sbNew X dL_list_258 dL_list_261 dL_list_262 ln8_63 lm8_65 hR (Nat.le_of_ble_eq_true rfl) hb (fun j n nc ns z258 hb hg hsb => ?_)
          have hst := hst.gr hg (fun _ q => q.elim)
          have hso := hso.gr hg ⟨fun w => w, fun w => w⟩
          refine a_ldcS (i := 19) (q := ("TagDrawLaw", 94, "asks h")) X rfl rfl rfl dL_list_265 ?_
          have hsb0 := hsb
          refine a_apS  X lm8_66 hR (Nat.le_of_ble_eq_true rfl) hb hsb (zTt.lit2 (i := 19) (u := [97, 115, 107, 115, 32, 104]) (by decide +kernel)) (fun q => absurd q (by omega)) (by decide) dL_list_267 (fun j n nc ns z267 hb hg hsb => ?_)
          have hst := hst.gr hg (fun i q => by rcases q with q | q <;> (have := hsb0.2.1.1; omega))
          have hso := hso.gr hg ⟨fun w => by rcases w with w | w <;> (have := hsb0.2.1.1; omega), fun w => by rcases w with w | w <;> (have := hsb0.2.1.1; omega)⟩
          refine a_bipush (v := nI 97) X dL_list_270 (by decide) ?_
          refine a_iload X dL_list_272 rfl ?_
          refine a_iadd X dL_list_274 ?_
          rw [nI_add]
          refine a_i2c X dL_list_275 ?_
          rw [z_97 h (by omega)]
          have hsb0 := hsb
          refine a_apC (x := 97 + h) X lm8_72 hR (Nat.le_of_ble_eq_true rfl) hb hsb (by omega) (by decide) dL_list_276 (fun j n nc ns z276 hb hg hsb => ?_)
          have hst := hst.gr hg (fun i q => by rcases q with q | q <;> (have := hsb0.2.1.1; omega))
          have hso := hso.gr hg ⟨fun w => by rcases w with w | w <;> (have := hsb0.2.1.1; omega), fun w => by rcases w with w | w <;> (have := hsb0.2.1.1; omega)⟩
          refine a_toS X lm8_82 hR (Nat.le_of_ble_eq_true rfl) hb hsb dL_list_279 (fun nc ns z279 hb hg hvn hv => ?_)
          have hst := hst.gr hg (fun _ q => q.elim)
          have hlo2 := hso.lt
          have hso := hso.gr hg ⟨fun w => w, fun w => w⟩
          exact Zw.to (ls_282 (u := [] ++ [97, 115, 107, 115, 32, 104] ++ [97 + h]) X hr ho ha0 hF hh kC (hb.less (by omega)) hst hqo (by omega) hso ⟨hv.1, hv.2.1⟩ (fun q i hi e9 => by rw [hvn] at hi; cases hi; omega) (by rw [if_neg (by simp)]; rfl)) rfl rfl
      · skip
        refine a_goto (tgt := 378) X dL_list_228 (by decide) ?_
        refine a_iinc (v := nI (h + 1)) X dL_list_378 (by decide) rfl (nI_1 h) ?_
        refine a_goto (tgt := 212) X dL_list_381 (by decide) ?_
        exact Zw.to (kC (h + 1) as T _ _ _ _ _ _ _ (Nat.lt_succ_self h) hh ⟨c3, c4, c5, c6, c7, by omega, fun p hp => Nat.lt_succ_of_lt (c9 p hp), c10, by omega, fun q => Nat.le_succ_of_le (c12 q), by omega⟩ (hb.less (by omega)) hst (by omega) hv) rfl rfl
set_option maxRecDepth 100000 in
set_option maxHeartbeats 4000000 in
theorem ls_160 {p0 : Program} {l : Launch} {e : Env} {s : State} {m : MethodId} {args : Array Value} {below : List Frame} {meth : Method} {c : Code} {G : zG} {b : Nat} {S0 : zS} {P a0 : Nat} (X : zOK p0 s m args meth c G b RX8 cL_list 9) (hr : meth.sig.returnType = some (.object "java/lang/String")) (ho : zLo G S0 P) (ha0 : a0 ≤ 5000) {nc ns : Nat} {S : zS} {v a : Nat} {qs : List Nat} {hs : List (Nat × Bool)} {x5 x6 x7 x8 : Option Value} (hF : (1 ≤ qs.length ∧ qs.length ≤ 3) ∧ (∀ d, d ∈ qs → d < 10) ∧ (2 ≤ hs.length ∧ hs.length ≤ 5) ∧ (∀ p, p ∈ hs → p.1 < 10) ∧ (uT 0 qs ++ hT 0 hs).length ≤ 120 ∧ True) (hb : zBg zRl 260 nc ns S) (hst : zSt S0 S P a) (ha : a ≤ a0 + 15) (hv : zTt G S S.1.length v (uT 0 qs ++ hT 0 hs)) : Zw p0 l e zRl s m args below meth c G b 9 (MQ below (zQ G b (zLQ G S0 P a0)) args s 800 1204000 (fun q : Nat => b ≤ q)) nc ns 160 [some (.ref P), some (.int (nI 5)), some (.ref v), some (.int (nI qs.length)), some (.int (nI hs.length)), x5, x6, x7, x8] [] S := by
  have hR : 6 ≤ zRl.frames ∧ 216 ≤ zRl.locals := ⟨Nat.le_of_ble_eq_true rfl, Nat.le_of_ble_eq_true rfl⟩
  obtain ⟨d1, d2, d3, d4, d5, d6⟩ := hF
  have d7 := d5
  rw [List.length_append] at d7
  refine a_aload_n X dL_list_160 rfl ?_
  refine a_iconst (v := nI 2) X dL_list_161 (by decide) ?_
  have hst0 := hst
  refine a_cho (n := 2) X lm8_60 hR (Nat.le_of_ble_eq_true rfl) hb ho hst (by omega) ⟨by omega, by omega⟩ dL_list_162 (fun y hxy hb hst => ?_)
  have hv := hv.at hst0 ho
  refine a_if_ne (tgt := 172) X dL_list_165 (by decide) (fun h8 => ?_) (fun h8 => ?_)
  · skip
    refine a_iconst (v := nI 0) X dL_list_172 (by decide) ?_
    refine a_istore X dL_list_173 (by decide) ?_
    refine a_iload X dL_list_175 rfl ?_
    refine a_if_eq (tgt := 200) X dL_list_177 (by decide) (fun h7 => ?_) (fun h7 => absurd rfl h7)
    refine a_iload X dL_list_200 rfl ?_
    refine a_if_eq (tgt := 209) X dL_list_202 (by decide) (fun h6 => ?_) (fun h6 => absurd rfl h6)
    refine a_iconst (v := nI 0) X dL_list_209 (by decide) ?_
    refine a_istore X dL_list_210 (by decide) ?_
    exact Zw.to (ls_212 (qs := qs) (hs := hs) (bb := false) X hr ho ha0 6 0 [] _ _ _ _ _ _ _ _ (by omega) (by omega) ⟨d1, d2, d3, d4, trivial, Nat.zero_le _, fun p hp => absurd hp List.not_mem_nil, rfl, by show (uT 0 qs ++ (hT 0 hs ++ ([] ++ []))).length ≤ _; rw [List.append_nil, List.append_nil]; exact Nat.le_trans d5 (by omega), (fun q => by cases q), by omega⟩ (hb.less (by omega)) hst (by omega) (by show zTt G _ _ _ (uT 0 qs ++ (hT 0 hs ++ ([] ++ []))); rw [List.append_nil, List.append_nil]; exact hv)) rfl rfl
  · skip
    refine a_iconst (v := nI 1) X dL_list_168 (by decide) ?_
    refine a_goto (tgt := 173) X dL_list_169 (by decide) ?_
    refine a_istore X dL_list_173 (by decide) ?_
    refine a_iload X dL_list_175 rfl ?_
    refine a_if_eq (tgt := 200) X dL_list_177 (by decide) (fun h7 => absurd h7 (by decide)) (fun h7 => ?_)
    have hq0 := hst.2.1
    refine a_sbNew X dL_list_180 dL_list_183 dL_list_184 ln8_63 lm8_65 hR (Nat.le_of_ble_eq_true rfl) hb (fun j n nc ns z180 hb hg hsb => ?_)
    have hst := hst.gr hg (fun _ q => q.elim)
    have hv := hv.gr hg
    refine a_aload_n X dL_list_187 rfl ?_
    have hsb0 := hsb
    refine a_apS  X lm8_66 hR (Nat.le_of_ble_eq_true rfl) hb hsb ⟨hv.1, hv.2.1⟩ (fun q i hi w => Nat.lt_asymm ((hv.2.2 q).2 i hi) (by rw [w]; exact hsb.2.1.1)) (by show 0 + _ ≤ _; omega) dL_list_188 (fun j n nc ns z188 hb hg hsb => ?_)
    have hst := hst.gr hg (fun i q => by rcases q with q | q <;> (have := hsb0.2.1.1; omega))
    refine a_ldcS (i := 17) (q := ("TagDrawLaw", 90, "party p ha hb;")) X rfl rfl rfl dL_list_191 ?_
    have hsb0 := hsb
    refine a_apS  X lm8_66 hR (Nat.le_of_ble_eq_true rfl) hb hsb (zTt.lit2 (i := 17) (u := [112, 97, 114, 116, 121, 32, 112, 32, 104, 97, 32, 104, 98, 59]) (by decide +kernel)) (fun q => absurd q (by omega)) (by first | omega | (simp only [List.length_append, List.length_cons, List.length_nil]; omega)) dL_list_193 (fun j n nc ns z193 hb hg hsb => ?_)
    have hst := hst.gr hg (fun i q => by rcases q with q | q <;> (have := hsb0.2.1.1; omega))
    refine a_toS X lm8_82 hR (Nat.le_of_ble_eq_true rfl) hb hsb dL_list_196 (fun nc ns z196 hb hg hvn hv => ?_)
    have hst := hst.gr hg (fun _ q => q.elim)
    refine a_astore_n X dL_list_199 (by decide) ?_
    refine a_iload X dL_list_200 rfl ?_
    refine a_if_eq (tgt := 209) X dL_list_202 (by decide) (fun h6 => absurd h6 (by decide)) (fun h6 => ?_)
    refine a_iconst (v := nI 1) X dL_list_205 (by decide) ?_
    refine a_goto (tgt := 210) X dL_list_206 (by decide) ?_
    refine a_istore X dL_list_210 (by decide) ?_
    have e9 : [] ++ (uT 0 qs ++ hT 0 hs) ++ [112, 97, 114, 116, 121, 32, 112, 32, 104, 97, 32, 104, 98, 59] = uT 0 qs ++ (hT 0 hs ++ (pT true ++ aT true [])) := by
      show _ = uT 0 qs ++ (hT 0 hs ++ ([112, 97, 114, 116, 121, 32, 112, 32, 104, 97, 32, 104, 98, 59] ++ []))
      simp only [List.append_assoc, List.nil_append, List.append_nil]
    rw [e9] at hv
    exact Zw.to (ls_212 (qs := qs) (hs := hs) (bb := true) X hr ho ha0 6 1 [] _ _ _ _ _ _ _ _ (by omega) (by omega) ⟨d1, d2, d3, d4, trivial, Nat.zero_le _, fun p hp => absurd hp List.not_mem_nil, rfl, by rw [← e9]; simp only [List.length_append, List.length_cons, List.length_nil] at d5 ⊢; omega, fun _ => Nat.le_refl 1, by omega⟩ (hb.less (by omega)) hst (by omega) hv) rfl rfl
set_option maxRecDepth 100000 in
set_option maxHeartbeats 4000000 in
theorem ls_87 {p0 : Program} {l : Launch} {e : Env} {s : State} {m : MethodId} {args : Array Value} {below : List Frame} {meth : Method} {c : Code} {G : zG} {b : Nat} {S0 : zS} {P a0 : Nat} (X : zOK p0 s m args meth c G b RX8 cL_list 9) (hr : meth.sig.returnType = some (.object "java/lang/String")) (ho : zLo G S0 P) (ha0 : a0 ≤ 5000) {qs : List Nat} {H : Nat} (hq1 : 1 ≤ qs.length ∧ qs.length ≤ 3) (hq2 : ∀ d, d ∈ qs → d < 10) (hH : 2 ≤ H ∧ H ≤ 5) : ∀ (g h : Nat) (hs : List (Nat × Bool)) (v a nc ns : Nat) (S : zS) (x6 x7 x8 : Option Value), H < g + h → h ≤ H → hs.length = h → (∀ p, p ∈ hs → p.1 < 10) → (hT 0 hs).length ≤ 18 * h → zBg zRl (270 + 10 * (5 - h)) nc ns S → zSt S0 S P a → a ≤ a0 + 5 + 2 * h → zTt G S S.1.length v (uT 0 qs ++ hT 0 hs) → Zw p0 l e zRl s m args below meth c G b 9 (MQ below (zQ G b (zLQ G S0 P a0)) args s 800 1204000 (fun q : Nat => b ≤ q)) nc ns 87 [some (.ref P), some (.int (nI 5)), some (.ref v), some (.int (nI qs.length)), some (.int (nI H)), some (.int (nI h)), x6, x7, x8] [] S := by
  have hR : 6 ≤ zRl.frames ∧ 216 ≤ zRl.locals := ⟨Nat.le_of_ble_eq_true rfl, Nat.le_of_ble_eq_true rfl⟩
  intro g
  induction g with
  | zero => intro h hs v a nc ns S x6 x7 x8 h1 h2; omega
  | succ g ih =>
    intro h hs v a nc ns S x6 x7 x8 h1 h2 hl hd hlen hb hst ha hv
    have hu := uT_len qs 0
    have hT9 : (uT 0 qs ++ hT 0 hs).length ≤ 120 := by rw [List.length_append]; omega
    refine a_iload X dL_list_87 rfl ?_
    refine a_iload X dL_list_89 rfl ?_
    refine a_icmp_ge (tgt := 160) X dL_list_91 (by decide) (fun h9 => ?_) (fun h9 => ?_)
    · have h8 := (nI_leI (by omega) (by omega)).mp h9
      have e8 : hs.length = H := by omega
      subst e8
      exact Zw.to (ls_160 X hr ho ha0 ⟨hq1, hq2, hH, hd, hT9, trivial⟩ (hb.less (by omega)) hst (by omega) hv) rfl rfl
    · have hh : h < H := Nat.not_le.mp (fun q => h9 ((nI_leI (by omega) (by omega)).mpr q))
      have hb := hb.less (k := 270 + 10 * (5 - (h + 1)) + 10) (by omega)
      have hq0 := hst.2.1
      refine a_sbNew X dL_list_94 dL_list_97 dL_list_98 ln8_63 lm8_65 hR (Nat.le_of_ble_eq_true rfl) hb (fun j n nc ns z94 hb hg hsb => ?_)
      have hst := hst.gr hg (fun _ q => q.elim)
      have hv := hv.gr hg
      refine a_aload_n X dL_list_101 rfl ?_
      have hsb0 := hsb
      refine a_apS  X lm8_66 hR (Nat.le_of_ble_eq_true rfl) hb hsb ⟨hv.1, hv.2.1⟩ (fun q i hi w => Nat.lt_asymm ((hv.2.2 q).2 i hi) (by rw [w]; exact hsb.2.1.1)) (by show 0 + _ ≤ _; omega) dL_list_102 (fun j n nc ns z102 hb hg hsb => ?_)
      have hst := hst.gr hg (fun i q => by rcases q with q | q <;> (have := hsb0.2.1.1; omega))
      refine a_ldcS (i := 15) (q := ("TagDrawLaw", 86, "hunter h")) X rfl rfl rfl dL_list_105 ?_
      have hsb0 := hsb
      refine a_apS  X lm8_66 hR (Nat.le_of_ble_eq_true rfl) hb hsb (zTt.lit2 (i := 15) (u := [104, 117, 110, 116, 101, 114, 32, 104]) (by decide +kernel)) (fun q => absurd q (by omega)) (by first | omega | (simp only [List.length_append, List.length_cons, List.length_nil]; omega)) dL_list_107 (fun j n nc ns z107 hb hg hsb => ?_)
      have hst := hst.gr hg (fun i q => by rcases q with q | q <;> (have := hsb0.2.1.1; omega))
      refine a_bipush (v := nI 97) X dL_list_110 (by decide) ?_
      refine a_iload X dL_list_112 rfl ?_
      refine a_iadd X dL_list_114 ?_
      rw [nI_add]
      refine a_i2c X dL_list_115 ?_
      rw [z_97 h (by omega)]
      have hsb0 := hsb
      refine a_apC (x := 97 + h) X lm8_72 hR (Nat.le_of_ble_eq_true rfl) hb hsb (by omega) (by first | omega | (simp only [List.length_append, List.length_cons, List.length_nil]; omega)) dL_list_116 (fun j n nc ns z116 hb hg hsb => ?_)
      have hst := hst.gr hg (fun i q => by rcases q with q | q <;> (have := hsb0.2.1.1; omega))
      refine a_ldcS (i := 13) (q := ("TagDrawLaw", 75, " ")) X rfl rfl rfl dL_list_119 ?_
      have hsb0 := hsb
      refine a_apS  X lm8_66 hR (Nat.le_of_ble_eq_true rfl) hb hsb (zTt.lit2 (i := 13) (u := [32]) (by decide +kernel)) (fun q => absurd q (by omega)) (by first | omega | (simp only [List.length_append, List.length_cons, List.length_nil]; omega)) dL_list_121 (fun j n nc ns z121 hb hg hsb => ?_)
      have hst := hst.gr hg (fun i q => by rcases q with q | q <;> (have := hsb0.2.1.1; omega))
      refine a_aload_n X dL_list_124 rfl ?_
      refine a_iconst (v := nI 5) X dL_list_125 (by decide) ?_
      have hst0 := hst
      refine a_cho (n := 5) X lm8_60 hR (Nat.le_of_ble_eq_true rfl) hb ho hst (by omega) ⟨by omega, by omega⟩ dL_list_126 (fun d hxd hb hst => ?_)
      have hsb := hsb.at hst0 hq0
      have hsb0 := hsb
      refine a_apI (x := d) X lm8_77 hR (Nat.le_of_ble_eq_true rfl) hb hsb (by omega) (by first | omega | (simp only [List.length_append, List.length_cons, List.length_nil]; omega)) dL_list_129 (fun j n nc ns z129 hb hg hsb => ?_)
      have hst := hst.gr hg (fun i q => by rcases q with q | q <;> (have := hsb0.2.1.1; omega))
      have dx := dg_len d
      refine a_aload_n X dL_list_132 rfl ?_
      refine a_iconst (v := nI 3) X dL_list_133 (by decide) ?_
      have hst0 := hst
      refine a_cho (n := 3) X lm8_60 hR (Nat.le_of_ble_eq_true rfl) hb ho hst (by omega) ⟨by omega, by omega⟩ dL_list_134 (fun y hxy hb hst => ?_)
      have hsb := hsb.at hst0 hq0
      have J : ∀ (vv : Nat) (uu : List Nat) (gg : Bool), (zTx G (z129.1, zu z129.2.1 P 1 (nI (a + 1 + 1)), z129.2.2) vv uu ∧ ∀ x, x ∈ uu → x < 128) → 1000000 ≤ vv → uu = (if gg then [32, 103, 117, 101, 115, 116, 59] else [59]) → Zw p0 l e zRl s m args below meth c G b 9 (MQ below (zQ G b (zLQ G S0 P a0)) args s 800 1204000 (fun q : Nat => b ≤ q)) nc ns 147 [some (.ref P), some (.int (nI 5)), some (.ref v), some (.int (nI qs.length)), some (.int (nI H)), some (.int (nI h)), x6, x7, x8] [.ref vv, .ref S.1.length] (z129.1, zu z129.2.1 P 1 (nI (a + 1 + 1)), z129.2.2) := by
        intro vv uu gg hvv hvf hug
        have hul : uu.length ≤ 7 := by rw [hug]; split <;> decide
        have hsb0 := hsb
        refine a_apS  X lm8_66 hR (Nat.le_of_ble_eq_true rfl) hb hsb hvv (fun q => absurd q (by omega)) (by first | omega | (simp only [List.length_append, List.length_cons, List.length_nil]; omega)) dL_list_147 (fun j n nc ns z147 hb hg hsb => ?_)
        have hst := hst.gr hg (fun i q => by rcases q with q | q <;> (have := hsb0.2.1.1; omega))
        refine a_toS X lm8_82 hR (Nat.le_of_ble_eq_true rfl) hb hsb dL_list_150 (fun nc ns z150 hb hg hvn hv => ?_)
        have hst := hst.gr hg (fun _ q => q.elim)
        refine a_astore_n X dL_list_153 (by decide) ?_
        refine a_iinc (v := nI (h + 1)) X dL_list_154 (by decide) rfl (nI_1 h) ?_
        refine a_goto (tgt := 87) X dL_list_157 (by decide) ?_
        have e9 : [] ++ (uT 0 qs ++ hT 0 hs) ++ [104, 117, 110, 116, 101, 114, 32, 104] ++ [97 + h] ++ [32] ++ dg d ++ uu = uT 0 qs ++ hT 0 (hs ++ [(d, gg)]) := by
          rw [hT_snoc, Nat.zero_add, hl, hug, dg_1 (by omega)]
          unfold hL
          simp only [List.append_assoc, List.nil_append, List.cons_append]
        rw [e9] at hv
        exact Zw.to (ih (h + 1) (hs ++ [(d, gg)]) _ _ _ _ _ _ _ _ (by omega) (by omega) (by rw [List.length_append, hl]; rfl) (fun p hp => by
          rcases List.mem_append.mp hp with h8 | h8
          · exact hd p h8
          · rw [List.mem_singleton.mp h8]; show d < 10; omega) (by rw [hT_snoc, List.length_append, hL_len]; split <;> omega) (hb.less (by omega)) hst (by omega) hv) rfl rfl
      refine a_if_ne (tgt := 145) X dL_list_137 (by decide) (fun h8 => ?_) (fun h8 => ?_)
      · skip
        refine a_ldcS (i := 14) (q := ("TagDrawLaw", 80, ";")) X rfl rfl rfl dL_list_145 ?_
        exact Zw.to2 (J _ [59] false (zTt.lit2 (i := 14) (u := [59]) (by decide +kernel)) (by omega) rfl) rfl rfl rfl
      · skip
        refine a_ldcS (i := 16) (q := ("TagDrawLaw", 88, " guest;")) X rfl rfl rfl dL_list_140 ?_
        refine a_goto (tgt := 147) X dL_list_142 (by decide) ?_
        exact Zw.to2 (J _ [32, 103, 117, 101, 115, 116, 59] true (zTt.lit2 (i := 16) (u := [32, 103, 117, 101, 115, 116, 59]) (by decide +kernel)) (by omega) rfl) rfl rfl rfl
set_option maxRecDepth 100000 in
set_option maxHeartbeats 4000000 in
theorem ls_14 {p0 : Program} {l : Launch} {e : Env} {s : State} {m : MethodId} {args : Array Value} {below : List Frame} {meth : Method} {c : Code} {G : zG} {b : Nat} {S0 : zS} {P a0 : Nat} (X : zOK p0 s m args meth c G b RX8 cL_list 9) (hr : meth.sig.returnType = some (.object "java/lang/String")) (ho : zLo G S0 P) (ha0 : a0 ≤ 5000) {U : Nat} (hU : 1 ≤ U ∧ U ≤ 3) : ∀ (g u : Nat) (qs : List Nat) (v a nc ns : Nat) (S : zS) (x5 x6 x7 x8 : Option Value), U < g + u → u ≤ U → qs.length = u → (∀ d, d ∈ qs → d < 10) → zBg zRl (330 + 12 * (3 - u)) nc ns S → zSt S0 S P a → a ≤ a0 + 1 + u → zTt G S S.1.length v (uT 0 qs) → Zw p0 l e zRl s m args below meth c G b 9 (MQ below (zQ G b (zLQ G S0 P a0)) args s 800 1204000 (fun q : Nat => b ≤ q)) nc ns 14 [some (.ref P), some (.int (nI 5)), some (.ref v), some (.int (nI U)), some (.int (nI u)), x5, x6, x7, x8] [] S := by
  have hR : 6 ≤ zRl.frames ∧ 216 ≤ zRl.locals := ⟨Nat.le_of_ble_eq_true rfl, Nat.le_of_ble_eq_true rfl⟩
  intro g
  induction g with
  | zero => intro u qs v a nc ns S x5 x6 x7 x8 h1 h2; omega
  | succ g ih =>
    intro u qs v a nc ns S x5 x6 x7 x8 h1 h2 hl hd hb hst ha hv
    have hu := uT_len qs 0
    refine a_iload X dL_list_14 rfl ?_
    refine a_iload_n X dL_list_16 rfl ?_
    refine a_icmp_ge (tgt := 73) X dL_list_17 (by decide) (fun h9 => ?_) (fun h9 => ?_)
    · have h8 := (nI_leI (by omega) (by omega)).mp h9
      have e8 : qs.length = U := by omega
      subst e8
      refine a_iconst (v := nI 2) X dL_list_73 (by decide) ?_
      refine a_aload_n X dL_list_74 rfl ?_
      refine a_iload_n X dL_list_75 rfl ?_
      refine a_iconst (v := nI 1) X dL_list_76 (by decide) ?_
      refine a_isub X dL_list_77 ?_
      rw [show nI 5 - nI 1 = nI 4 by decide]
      have hst0 := hst
      refine a_cho (n := 4) X lm8_60 hR (Nat.le_of_ble_eq_true rfl) hb ho hst (by omega) ⟨by omega, by omega⟩ dL_list_78 (fun y hxy hb hst => ?_)
      have hv := hv.at hst0 ho
      refine a_iadd X dL_list_81 ?_
      rw [nI_add]
      refine a_istore X dL_list_82 (by decide) ?_
      refine a_iconst (v := nI 0) X dL_list_84 (by decide) ?_
      refine a_istore X dL_list_85 (by decide) ?_
      exact Zw.to (ls_87 X hr ho ha0 (H := 2 + y) hU hd (by omega) 8 0 [] _ _ _ _ _ _ _ _ (by omega) (by omega) rfl (fun p hp => absurd hp List.not_mem_nil) (Nat.zero_le _) (hb.less (by omega)) hst (by omega) (by show zTt G _ _ _ (uT 0 qs ++ []); rw [List.append_nil]; exact hv)) rfl rfl
    · have hh : u < U := Nat.not_le.mp (fun q => h9 ((nI_leI (by omega) (by omega)).mpr q))
      have hb := hb.less (k := 330 + 12 * (3 - (u + 1)) + 12) (by omega)
      have hq0 := hst.2.1
      refine a_sbNew X dL_list_20 dL_list_23 dL_list_24 ln8_63 lm8_65 hR (Nat.le_of_ble_eq_true rfl) hb (fun j n nc ns z20 hb hg hsb => ?_)
      have hst := hst.gr hg (fun _ q => q.elim)
      have hv := hv.gr hg
      refine a_aload_n X dL_list_27 rfl ?_
      have hsb0 := hsb
      refine a_apS  X lm8_66 hR (Nat.le_of_ble_eq_true rfl) hb hsb ⟨hv.1, hv.2.1⟩ (fun q i hi w => Nat.lt_asymm ((hv.2.2 q).2 i hi) (by rw [w]; exact hsb.2.1.1)) (by show 0 + _ ≤ _; omega) dL_list_28 (fun j n nc ns z28 hb hg hsb => ?_)
      have hst := hst.gr hg (fun i q => by rcases q with q | q <;> (have := hsb0.2.1.1; omega))
      refine a_ldcS (i := 12) (q := ("TagDrawLaw", 70, "unit u")) X rfl rfl rfl dL_list_31 ?_
      have hsb0 := hsb
      refine a_apS  X lm8_66 hR (Nat.le_of_ble_eq_true rfl) hb hsb (zTt.lit2 (i := 12) (u := [117, 110, 105, 116, 32, 117]) (by decide +kernel)) (fun q => absurd q (by omega)) (by first | omega | (simp only [List.length_append, List.length_cons, List.length_nil]; omega)) dL_list_33 (fun j n nc ns z33 hb hg hsb => ?_)
      have hst := hst.gr hg (fun i q => by rcases q with q | q <;> (have := hsb0.2.1.1; omega))
      refine a_bipush (v := nI 97) X dL_list_36 (by decide) ?_
      refine a_iload X dL_list_38 rfl ?_
      refine a_iadd X dL_list_40 ?_
      rw [nI_add]
      refine a_i2c X dL_list_41 ?_
      rw [z_97 u (by omega)]
      have hsb0 := hsb
      refine a_apC (x := 97 + u) X lm8_72 hR (Nat.le_of_ble_eq_true rfl) hb hsb (by omega) (by first | omega | (simp only [List.length_append, List.length_cons, List.length_nil]; omega)) dL_list_42 (fun j n nc ns z42 hb hg hsb => ?_)
      have hst := hst.gr hg (fun i q => by rcases q with q | q <;> (have := hsb0.2.1.1; omega))
      refine a_ldcS (i := 13) (q := ("TagDrawLaw", 75, " ")) X rfl rfl rfl dL_list_45 ?_
      have hsb0 := hsb
      refine a_apS  X lm8_66 hR (Nat.le_of_ble_eq_true rfl) hb hsb (zTt.lit2 (i := 13) (u := [32]) (by decide +kernel)) (fun q => absurd q (by omega)) (by first | omega | (simp only [List.length_append, List.length_cons, List.length_nil]; omega)) dL_list_47 (fun j n nc ns z47 hb hg hsb => ?_)
      have hst := hst.gr hg (fun i q => by rcases q with q | q <;> (have := hsb0.2.1.1; omega))
      refine a_aload_n X dL_list_50 rfl ?_
      refine a_iconst (v := nI 4) X dL_list_51 (by decide) ?_
      have hst0 := hst
      refine a_cho (n := 4) X lm8_60 hR (Nat.le_of_ble_eq_true rfl) hb ho hst (by omega) ⟨by omega, by omega⟩ dL_list_52 (fun d hxd hb hst => ?_)
      have hsb := hsb.at hst0 hq0
      have hsb0 := hsb
      refine a_apI (x := d) X lm8_77 hR (Nat.le_of_ble_eq_true rfl) hb hsb (by omega) (by first | omega | (simp only [List.length_append, List.length_cons, List.length_nil]; omega)) dL_list_55 (fun j n nc ns z55 hb hg hsb => ?_)
      have hst := hst.gr hg (fun i q => by rcases q with q | q <;> (have := hsb0.2.1.1; omega))
      have dx := dg_len d
      refine a_ldcS (i := 14) (q := ("TagDrawLaw", 80, ";")) X rfl rfl rfl dL_list_58 ?_
      have hsb0 := hsb
      refine a_apS  X lm8_66 hR (Nat.le_of_ble_eq_true rfl) hb hsb (zTt.lit2 (i := 14) (u := [59]) (by decide +kernel)) (fun q => absurd q (by omega)) (by first | omega | (simp only [List.length_append, List.length_cons, List.length_nil]; omega)) dL_list_60 (fun j n nc ns z60 hb hg hsb => ?_)
      have hst := hst.gr hg (fun i q => by rcases q with q | q <;> (have := hsb0.2.1.1; omega))
      refine a_toS X lm8_82 hR (Nat.le_of_ble_eq_true rfl) hb hsb dL_list_63 (fun nc ns z63 hb hg hvn hv => ?_)
      have hst := hst.gr hg (fun _ q => q.elim)
      refine a_astore_n X dL_list_66 (by decide) ?_
      refine a_iinc (v := nI (u + 1)) X dL_list_67 (by decide) rfl (nI_1 u) ?_
      refine a_goto (tgt := 14) X dL_list_70 (by decide) ?_
      have e9 : [] ++ uT 0 qs ++ [117, 110, 105, 116, 32, 117] ++ [97 + u] ++ [32] ++ dg d ++ [59] = uT 0 (qs ++ [d]) := by
        rw [uT_snoc, Nat.zero_add, hl, dg_1 (by omega)]
        simp only [List.append_assoc, List.nil_append, List.cons_append]
      rw [e9] at hv
      exact Zw.to (ih (u + 1) (qs ++ [d]) _ _ _ _ _ _ _ _ _ (by omega) (by omega) (by rw [List.length_append, hl]; rfl) (fun p hp => by
        rcases List.mem_append.mp hp with h8 | h8
        · exact hd p h8
        · rw [List.mem_singleton.mp h8]; omega) (hb.less (by omega)) hst (by omega) hv) rfl rfl
set_option maxRecDepth 100000 in
theorem k_list {l : Launch} {G : zG} {b : Nat} {S : zS} {P a : Nat} (ho : zLo G S P) (ha : S.2.1 P 1 = nI a) (ha0 : a ≤ 5000) (hl : S.1.length ≤ 9000) : zM l G b yL_list cL_list 9 (some (.object "java/lang/String")) 6 800 1204000 [.ref P, .int (nI 5)] S (zLQ G S P a) := by
  refine zM.of miL_list (Nat.le_of_ble_eq_true rfl) ?_
  intro p0 e s m args below meth c X hr hname
  have hR : 6 ≤ zRl.frames ∧ 216 ≤ zRl.locals := ⟨Nat.le_of_ble_eq_true rfl, Nat.le_of_ble_eq_true rfl⟩
  have hst : zSt S S P a := ⟨(List.getElem?_eq_some_iff.mp ho).1, Nat.le_refl _, fun i hi => ⟨rfl, fun _ => rfl, rfl⟩, fun j hj => rfl, ha⟩
  have hb : zBg zRl 400 0 0 S := ⟨Nat.le_of_ble_eq_true rfl, Nat.le_of_ble_eq_true rfl, by omega⟩
  change Zw p0 l e zRl s m args below meth c G b 9 (MQ below (zQ G b (zLQ G S P a)) args s 800 1204000 (fun q : Nat => b ≤ q)) 0 0 0 [some (.ref P), some (.int (nI 5)), none, none, none, none, none, none, none] [] S
  refine a_ldcS (i := 11) (q := ("TagDrawLaw", 58, "")) X rfl rfl rfl dL_list_0 ?_
  refine a_astore_n X dL_list_2 (by decide) ?_
  refine a_iconst (v := nI 1) X dL_list_3 (by decide) ?_
  refine a_aload_n X dL_list_4 rfl ?_
  refine a_iconst (v := nI 3) X dL_list_5 (by decide) ?_
  have hst0 := hst
  refine a_cho (n := 3) X lm8_60 hR (Nat.le_of_ble_eq_true rfl) hb ho hst (by omega) ⟨by omega, by omega⟩ dL_list_6 (fun y hxy hb hst => ?_)
  refine a_iadd X dL_list_9 ?_
  rw [nI_add]
  refine a_istore_n X dL_list_10 (by decide) ?_
  refine a_iconst (v := nI 0) X dL_list_11 (by decide) ?_
  refine a_istore X dL_list_12 (by decide) ?_
  exact Zw.to (ls_14 X hr ho ha0 (U := 1 + y) (by omega) 8 0 [] _ _ _ _ _ _ _ _ _ (by omega) (by omega) rfl (fun d hd => absurd hd List.not_mem_nil) (hb.less (by omega)) hst (by omega) (zTt.lit (i := 11) (u := []) (by decide +kernel))) rfl rfl
