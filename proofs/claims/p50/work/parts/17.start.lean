set_option maxRecDepth 100000 in
set_option maxHeartbeats 8000000 in
theorem law_B {p : Program} {l : Launch} {e : Env} {s : State} {m : MethodId} {below : List Frame} {meth : Method} {c : Code} {G : zG} {b sb L : Nat} {xs : Nat → Int32} (X : zOK p s m #[Value.ref sb] meth c G b R_law code 4) (hr : meth.sig.returnType = ret) (hX0 : va_X sb L xs s s.heap) (hsb : sb < s.heap.size) (hbb : b = s.heap.size) (hL : L ≤ 3072) {nc ns : Nat} (hc : nc ≤ 600000) (hs : ns ≤ 7302250) {i : Int32} (h0 : 0 ≤ i.toInt) (h6 : i.toInt + 6 ≤ L) {S : zS} (hI : jI S) (ih : ∀ S' : zS, jI S' → Zw p l e room_1 s m #[Value.ref sb] below meth c G b 4 (lw_Z below #[Value.ref sb] s) nc ns 18 [some (.ref (1000000 + sb)), some (.ref 0), some (.ref 200), some (.int (i + 6))] [] S') : Zw p l e room_1 s m #[Value.ref sb] below meth c G b 4 (lw_Z below #[Value.ref sb] s) nc ns 27 [some (.ref (1000000 + sb)), some (.ref 0), some (.ref 200), some (.int i)] [] S := by
  have i0 : vp_in i L := vp_of h0 (by omega)
  refine a_aload_n X dL_law_27 rfl ?_
  refine a_iload_n X dL_law_28 rfl ?_
  refine a_sld X hX0 hsb hbb (i0) dL_law_29 ?_
  refine a_bipush (v := 63) X dL_law_30 (by decide) ?_
  refine a_iand X dL_law_32 ?_
  refine a_tsw (tg := [244, 257, 320, 343, 366, 389, 422, 455, 488, 521, 554, 587, 620, 653, 686, 729, 752, 795, 838, 871, 904, 937, 970, 1003, 1036, 1069, 1092, 1115, 1138, 1151, 1184, 1207, 1230, 1263, 1286, 1309, 1352, 1395, 1438, 1461, 1494, 1527, 1580, 1603, 1626, 1649, 1672, 1685, 1708]) (td := 1731) X dL_law_33 (by decide +kernel) (by decide) (by decide) (fun k_33 t_33 ht_33 hx_33 => ?_) (fun h_33 => ?_)
  · match k_33, ht_33, hx_33 with
    | 0, ht_33, hx_33 =>
      cases ht_33
      exact law_c0 X hr hX0 hsb hbb hL hc hs h0 h6 hI ih
    | 1, ht_33, hx_33 =>
      cases ht_33
      exact law_c1 X hr hX0 hsb hbb hL hc hs h0 h6 hI ih
    | 2, ht_33, hx_33 =>
      cases ht_33
      exact law_c2 X hr hX0 hsb hbb hL hc hs h0 h6 hI ih
    | 3, ht_33, hx_33 =>
      cases ht_33
      exact law_c3 X hr hX0 hsb hbb hL hc hs h0 h6 hI ih
    | 4, ht_33, hx_33 =>
      cases ht_33
      exact law_c4 X hr hX0 hsb hbb hL hc hs h0 h6 hI ih
    | 5, ht_33, hx_33 =>
      cases ht_33
      exact law_c5 X hr hX0 hsb hbb hL hc hs h0 h6 hI ih
    | 6, ht_33, hx_33 =>
      cases ht_33
      exact law_c6 X hr hX0 hsb hbb hL hc hs h0 h6 hI ih
    | 7, ht_33, hx_33 =>
      cases ht_33
      exact law_c7 X hr hX0 hsb hbb hL hc hs h0 h6 hI ih
    | 8, ht_33, hx_33 =>
      cases ht_33
      exact law_c8 X hr hX0 hsb hbb hL hc hs h0 h6 hI ih
    | 9, ht_33, hx_33 =>
      cases ht_33
      exact law_c9 X hr hX0 hsb hbb hL hc hs h0 h6 hI ih
    | 10, ht_33, hx_33 =>
      cases ht_33
      exact law_c10 X hr hX0 hsb hbb hL hc hs h0 h6 hI ih
    | 11, ht_33, hx_33 =>
      cases ht_33
      exact law_c11 X hr hX0 hsb hbb hL hc hs h0 h6 hI ih
    | 12, ht_33, hx_33 =>
      cases ht_33
      exact law_c12 X hr hX0 hsb hbb hL hc hs h0 h6 hI ih
    | 13, ht_33, hx_33 =>
      cases ht_33
      exact law_c13 X hr hX0 hsb hbb hL hc hs h0 h6 hI ih
    | 14, ht_33, hx_33 =>
      cases ht_33
      exact law_c14 X hr hX0 hsb hbb hL hc hs h0 h6 hI ih
    | 15, ht_33, hx_33 =>
      cases ht_33
      exact law_c15 X hr hX0 hsb hbb hL hc hs h0 h6 hI ih
    | 16, ht_33, hx_33 =>
      cases ht_33
      exact law_c16 X hr hX0 hsb hbb hL hc hs h0 h6 hI ih
    | 17, ht_33, hx_33 =>
      cases ht_33
      exact law_c17 X hr hX0 hsb hbb hL hc hs h0 h6 hI ih
    | 18, ht_33, hx_33 =>
      cases ht_33
      exact law_c18 X hr hX0 hsb hbb hL hc hs h0 h6 hI ih
    | 19, ht_33, hx_33 =>
      cases ht_33
      exact law_c19 X hr hX0 hsb hbb hL hc hs h0 h6 hI ih
    | 20, ht_33, hx_33 =>
      cases ht_33
      exact law_c20 X hr hX0 hsb hbb hL hc hs h0 h6 hI ih
    | 21, ht_33, hx_33 =>
      cases ht_33
      exact law_c21 X hr hX0 hsb hbb hL hc hs h0 h6 hI ih
    | 22, ht_33, hx_33 =>
      cases ht_33
      exact law_c22 X hr hX0 hsb hbb hL hc hs h0 h6 hI ih
    | 23, ht_33, hx_33 =>
      cases ht_33
      exact law_c23 X hr hX0 hsb hbb hL hc hs h0 h6 hI ih
    | 24, ht_33, hx_33 =>
      cases ht_33
      exact law_c24 X hr hX0 hsb hbb hL hc hs h0 h6 hI ih
    | 25, ht_33, hx_33 =>
      cases ht_33
      exact law_c25 X hr hX0 hsb hbb hL hc hs h0 h6 hI ih
    | 26, ht_33, hx_33 =>
      cases ht_33
      exact law_c26 X hr hX0 hsb hbb hL hc hs h0 h6 hI ih
    | 27, ht_33, hx_33 =>
      cases ht_33
      exact law_c27 X hr hX0 hsb hbb hL hc hs h0 h6 hI ih
    | 28, ht_33, hx_33 =>
      cases ht_33
      exact law_c28 X hr hX0 hsb hbb hL hc hs h0 h6 hI ih
    | 29, ht_33, hx_33 =>
      cases ht_33
      exact law_c29 X hr hX0 hsb hbb hL hc hs h0 h6 hI ih
    | 30, ht_33, hx_33 =>
      cases ht_33
      exact law_c30 X hr hX0 hsb hbb hL hc hs h0 h6 hI ih
    | 31, ht_33, hx_33 =>
      cases ht_33
      exact law_c31 X hr hX0 hsb hbb hL hc hs h0 h6 hI ih
    | 32, ht_33, hx_33 =>
      cases ht_33
      exact law_c32 X hr hX0 hsb hbb hL hc hs h0 h6 hI ih
    | 33, ht_33, hx_33 =>
      cases ht_33
      exact law_c33 X hr hX0 hsb hbb hL hc hs h0 h6 hI ih
    | 34, ht_33, hx_33 =>
      cases ht_33
      exact law_c34 X hr hX0 hsb hbb hL hc hs h0 h6 hI ih
    | 35, ht_33, hx_33 =>
      cases ht_33
      exact law_c35 X hr hX0 hsb hbb hL hc hs h0 h6 hI ih
    | 36, ht_33, hx_33 =>
      cases ht_33
      exact law_c36 X hr hX0 hsb hbb hL hc hs h0 h6 hI ih
    | 37, ht_33, hx_33 =>
      cases ht_33
      exact law_c37 X hr hX0 hsb hbb hL hc hs h0 h6 hI ih
    | 38, ht_33, hx_33 =>
      cases ht_33
      exact law_c38 X hr hX0 hsb hbb hL hc hs h0 h6 hI ih
    | 39, ht_33, hx_33 =>
      cases ht_33
      exact law_c39 X hr hX0 hsb hbb hL hc hs h0 h6 hI ih
    | 40, ht_33, hx_33 =>
      cases ht_33
      exact law_c40 X hr hX0 hsb hbb hL hc hs h0 h6 hI ih
    | 41, ht_33, hx_33 =>
      cases ht_33
      exact law_c41 X hr hX0 hsb hbb hL hc hs h0 h6 hI ih
    | 42, ht_33, hx_33 =>
      cases ht_33
      exact law_c42 X hr hX0 hsb hbb hL hc hs h0 h6 hI ih
    | 43, ht_33, hx_33 =>
      cases ht_33
      exact law_c43 X hr hX0 hsb hbb hL hc hs h0 h6 hI ih
    | 44, ht_33, hx_33 =>
      cases ht_33
      exact law_c44 X hr hX0 hsb hbb hL hc hs h0 h6 hI ih
    | 45, ht_33, hx_33 =>
      cases ht_33
      exact law_c45 X hr hX0 hsb hbb hL hc hs h0 h6 hI ih
    | 46, ht_33, hx_33 =>
      cases ht_33
      exact law_c46 X hr hX0 hsb hbb hL hc hs h0 h6 hI ih
    | 47, ht_33, hx_33 =>
      cases ht_33
      exact law_c47 X hr hX0 hsb hbb hL hc hs h0 h6 hI ih
    | 48, ht_33, hx_33 =>
      cases ht_33
      exact law_c48 X hr hX0 hsb hbb hL hc hs h0 h6 hI ih
  · exact law_K X hr hX0 hsb hbb hI ih
set_option maxRecDepth 100000 in
set_option maxHeartbeats 8000000 in
theorem law_H {p : Program} {l : Launch} {e : Env} {s : State} {m : MethodId} {below : List Frame} {meth : Method} {c : Code} {G : zG} {b sb L : Nat} {xs : Nat → Int32} (X : zOK p s m #[Value.ref sb] meth c G b R_law code 4) (hr : meth.sig.returnType = ret) (hX0 : va_X sb L xs s s.heap) (hsb : sb < s.heap.size) (hbb : b = s.heap.size) (hL : L ≤ 3072) {nc ns : Nat} (hc : nc ≤ 600000) (hs : ns ≤ 7302250) : ∀ (u : Nat) (i : Int32) (S : zS), 0 ≤ i.toInt → i.toInt ≤ L → (L : Int) - i.toInt < u → jI S → Zw p l e room_1 s m #[Value.ref sb] below meth c G b 4 (lw_Z below #[Value.ref sb] s) nc ns 18 [some (.ref (1000000 + sb)), some (.ref 0), some (.ref 200), some (.int i)] [] S := by
  intro u
  induction u with
  | zero => intro i S _ h1 h2; omega
  | succ u ih =>
    intro i S h0 h1 h2 hI
    refine a_iload_n X dL_law_18 rfl ?_
    refine a_aload_n X dL_law_19 rfl ?_
    refine a_slen X hX0 hsb hbb dL_law_20 ?_
    refine a_bipush (v := 6) X dL_law_21 (by decide) ?_
    refine a_isub X dL_law_23 ?_
    refine a_icmp_gt (tgt := 1737) X dL_law_24 (by decide) (fun h_24 => ?_) (fun h_24 => ?_)
    · refine a_iconst (v := 1) X dL_law_1737 (by decide) ?_
      exact law_ret X hr hX0 hsb hbb hc hs
    · exact law_B X hr hX0 hsb hbb hL hc hs h0 (law_in hL h_24) hI (fun S2 hI2 => ih (i + 6) S2 (by have := law_6 hL h0 (law_in hL h_24); omega) (by have := law_6 hL h0 (law_in hL h_24); have := law_in hL h_24; omega) (by have := law_6 hL h0 (law_in hL h_24); omega) hI2)
theorem zz0 {a : Nat} : zz a (fun _ _ => 0) (fun _ _ => 0) := fun _ _ _ => ⟨rfl, rfl⟩
set_option maxRecDepth 100000 in
theorem blk7_len : (([] : List zC) ++ blk7 0).length = 200 := rfl
set_option maxRecDepth 100000 in
set_option maxHeartbeats 8000000 in
theorem law_0 {p : Program} {l : Launch} {e : Env} {s : State} {m : MethodId} {below : List Frame} {meth : Method} {c : Code} {G : zG} {b sb L : Nat} {xs : Nat → Int32} (X : zOK p s m #[Value.ref sb] meth c G b R_law code 4) (hr : meth.sig.returnType = ret) (hX0 : va_X sb L xs s s.heap) (hsb : sb < s.heap.size) (hbb : b = s.heap.size) (hL : L ≤ 3072) : Zw p l e room_1 s m #[Value.ref sb] below meth c G b 4 (lw_Z below #[Value.ref sb] s) 0 0 0 [some (.ref (1000000 + sb)), none, none, none] [] ([], fun _ _ => 0, fun _ _ => 0) := by
  refine b_new (pre := []) (Y := []) (P := 0) X 0 [kq0, kq0, kq0, kq0, kq3, kq3, kq3, kq3, kq3, kq3, kq3, kq3, kq3, kq3, kq3, kq3, kq3] rfl rfl (by decide) zz0 zc7 lnL_7 zinst7 zini7 ⟨rfl, by decide, by decide⟩ ⟨by decide, by decide⟩ dL_law_0 ?_
  refine Zw.to2 (ls' := [some (.ref (1000000 + sb)), none, none, none]) (st' := [.ref 0]) (S' := (([] : List zC) ++ [kd99], fun _ _ => 0, fun _ _ => 0)) ?_ rfl rfl rfl
  refine a_dup X dL_law_3 rfl ?_
  refine a_invI (P := 0) (ci := 7) X miX7_init lmL_9 rfl rfl rfl rfl (Nat.le_of_ble_eq_true rfl) ⟨by decide, by decide, by decide, by decide⟩ dL_law_4 (k_X7 (pre := []) (P := 0) rfl (by decide) zz0) (fun r S1 q => ?_)
  obtain ⟨rfl, M1, N1, rfl, h7, hz1, _⟩ := q
  refine Zw.to2 (ls' := [some (.ref (1000000 + sb)), none, none, none]) (st' := [.ref 0]) ?_ rfl rfl rfl
  refine a_astore_n X dL_law_7 (by decide) ?_
  refine b_new (pre := ([] : List zC) ++ blk7 0) (Y := []) (P := 200) X 0 [kq3, kq3, kq3, kq3, kq3, kq3, kq0, kq0, kq0, kq0, kq3, kq0, kq0, kq0, kq0, kq0, kq0, kq0, kq0, kq0, kq0, kq0, kq0, kq0, kq1, kq3, kq3, kq3, kq0, kq0, kq0, kq0, kq1, kq0, kq3, kq3, kq3, kq3, kq3, kq3, kq3, kq3, kq3, kq3, kq3, kq3, kq1, kq3, kq3, kq3, kq3, kq3, kq3, kq3, kq0, kq0, kq0, kq0, kq0, kq1, kq1, kq3, kq3, kq3, kq0] blk7_len rfl (by decide) (hz1.up (by decide)) zc8 lnL_10 zinst8 zini8 ⟨rfl, by decide, by decide⟩ ⟨by decide, by decide⟩ dL_law_8 ?_
  refine Zw.to2 (ls' := [some (.ref (1000000 + sb)), some (.ref 0), none, none]) (st' := [.ref 200]) (S' := ((([] : List zC) ++ blk7 0) ++ [kd113], M1, N1)) ?_ rfl rfl rfl
  refine a_dup X dL_law_11 rfl ?_
  refine a_invI (P := 200) (ci := 8) X miX8_init lmL_12 rfl rfl rfl rfl (Nat.le_of_ble_eq_true rfl) ⟨by decide, by decide, by decide, by decide⟩ dL_law_12 (k_X8 (pre := ([] : List zC) ++ blk7 0) (P := 200) blk7_len (by decide) (hz1.up (by decide))) (fun r S2 q => ?_)
  obtain ⟨rfl, M2, N2, rfl, h8, _, hk⟩ := q
  have h7' := h7.app (z := (([] ++ blk7 0) ++ blk8 200, M2, N2)) rfl (fun a ha => hk a ha)
  obtain ⟨l7, -, t1, lw, -, ff1, ff2, la0, la1, la2, la3, la4, la5, la6, lq, lg, u0, u1, po0, po1, po2, po3, ls, lp, -, -, lh⟩ := h7'
  obtain ⟨m8, mJ, mt, mf1, mf2, b7, b8, b9, b64, r1, r2, r3, r4⟩ := id h8
  have w1 : M2 25 1 = 0 := u1
  have w2 : M2 0 1 = 0 := t1
  have w3 : M2 200 11 = 0 := h8.2.2.1
  have w4 : vp_in (M2 25 1) 8 := by rw [w1]; unfold vp_in; decide
  have w5 : M2 0 1 = M2 200 11 := by rw [w2, w3]
  have hI : jI (([] ++ blk7 0) ++ blk8 200, M2, N2) := ⟨l7, h8.1, w4, h8.2.1, ⟨0, by omega, w2.trans (by decide), w3.trans (by decide), fun k hk => absurd hk (Nat.not_lt_zero k)⟩, ⟨ff1.trans mf1.symm, ff2.trans mf2.symm⟩, eqE.fresh (C := 0) (P := 200) la0 la1 la2 la3 la4 la5 la6 lq lg u0 u1 po0 po1 po2 po3 ls lp lh b7 b8 b9 r1 r2 r3 r4, Or.inl ⟨lw, b64⟩⟩
  have o0 : (0 : Int32).toInt = 0 := by decide
  refine Zw.to2 (ls' := [some (.ref (1000000 + sb)), some (.ref 0), none, none]) (st' := [.ref 200]) ?_ rfl rfl rfl
  refine a_astore_n X dL_law_15 (by decide) ?_
  refine a_iconst (v := 0) X dL_law_16 (by decide) ?_
  refine a_istore_n X dL_law_17 (by decide) ?_
  exact Zw.to (law_H X hr hX0 hsb hbb hL (by decide) (by decide) (L + 1) 0 _ (by decide) (by rw [o0]; omega) (by rw [o0]; omega) hI) rfl rfl
theorem whole_start {p : Program} {e : Env} {s : State} {m : MethodId} {below : List Frame} {meth : Method} {c : Code} (l : Launch) (hflags : l.flags = flags0) {b L : Nat} {xs : Nat → Int32} (hL : L ≤ 3072) (C0 : lw_At p s m meth c b L xs) : W p l e room_1 s m #[Value.ref b] below meth c s.heap [] 0 0 (lw_Z below #[Value.ref b] s) (entryFrame m ([Value.ref b] : List Value).toArray 4) := by
  obtain ⟨hx, hb, hr, hml, hown, hts, hX0, hsb, hlocks, hgv⟩ := C0
  obtain ⟨G, hK, hZ⟩ := law_world hgv hts
  have hN : zEx G s.heap.size s := ⟨fun w hw => va_Nw.of (by obtain ⟨a, i, x, t, rfl⟩ := zNest_form hw; rfl) (hts w (List.mem_filter.mp hw).1), va_AO.of (law_ov hts), hZ⟩
  have X : zOK p s m #[Value.ref b] meth c G s.heap.size R_law code 4 := ⟨hx, hb, hml, hown, fun w hw => hts w (law_sub hw), hK, hN, hlocks, Nat.le_refl _⟩
  have hv : ([Value.ref (1000000 + b)] : List Value).map (zv s.heap.size) = [Value.ref b] := by
    show [zv s.heap.size (.ref (1000000 + b))] = _
    rw [zv_far]
  have hl := lv_entry (([Value.ref (1000000 + b)] : List Value).map (zv s.heap.size)) (n := 4) (by rw [zfl_sl]; exact Nat.le_of_ble_eq_true rfl)
  rw [hv] at hl
  have hl2 := zA_entry (b := s.heap.size) (n := 4) (av := [Value.ref (1000000 + b)]) (by rw [hv]; exact hl)
  rw [lg_entry_eq]
  exact law_0 X hr hX0 hsb rfl hL s.heap [] _ ⟨rfl, by decide, fun k q hk => by cases hk⟩ va_S.rf hl2
