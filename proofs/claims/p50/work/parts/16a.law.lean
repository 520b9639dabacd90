theorem law_ret {p : Program} {l : Launch} {e : Env} {s : State} {m : MethodId} {below : List Frame} {meth : Method} {c : Code} {G : zG} {b sb L : Nat} {xs : Nat → Int32} (X : zOK p s m #[Value.ref sb] meth c G b R_law code 4) (hr : meth.sig.returnType = ret) (hX0 : va_X sb L xs s s.heap) (hsb : sb < s.heap.size) (hbb : b = s.heap.size) {nc ns : Nat} (hc : nc ≤ 600000) (hs : ns ≤ 7302250) {ls : List (Option Value)} {S : zS} : Zw p l e room_1 s m #[Value.ref sb] below meth c G b 4 (lw_Z below #[Value.ref sb] s) nc ns 1738 ls [.int 1] S := by
  intro H locs la hH hS hL
  exact va_forget (fun q hq => by rw [← hbb]; exact hS.2.2 q hq) (W.widen hc hs (lw_ret X.1 X.2.1 hr X.2.2.2.2.2.2.2.1 dL_law_1738))
theorem law_in {L : Nat} {i : Int32} (hL : L ≤ 3072) (h : ¬ Int32.ofNat L - 6 < i) : i.toInt + 6 ≤ L := by
  have o6 : (6 : Int32).toInt = 6 := by decide
  have e1 : (Int32.ofNat L).toInt = L := nI_toInt (n := L) (by omega)
  have e2 : (Int32.ofNat L - 6).toInt = L - 6 := by rw [z_sub (by rw [e1, o6]; omega) (by rw [e1, o6]; omega), e1, o6]
  have := Int32.le_iff_toInt_le.mp (Int32.not_lt.mp h)
  omega
theorem law_ix {L : Nat} {i k : Int32} (hL : L ≤ 3072) (h0 : 0 ≤ i.toInt) (h6 : i.toInt + 6 ≤ L) (k0 : 0 ≤ k.toInt) (k5 : k.toInt ≤ 5) : vp_in (i + k) L := by
  have e : (i + k).toInt = i.toInt + k.toInt := z_add (by omega) (by omega)
  exact vp_of (by omega) (by omega)
theorem law_6 {L : Nat} {i : Int32} (hL : L ≤ 3072) (h0 : 0 ≤ i.toInt) (h6 : i.toInt + 6 ≤ L) : (i + 6).toInt = i.toInt + 6 := by
  have o6 : (6 : Int32).toInt = 6 := by decide
  rw [z_add (by omega) (by omega), o6]
set_option maxRecDepth 100000 in
set_option maxHeartbeats 8000000 in
theorem law_K {p : Program} {l : Launch} {e : Env} {s : State} {m : MethodId} {below : List Frame} {meth : Method} {c : Code} {G : zG} {b sb L : Nat} {xs : Nat → Int32} (X : zOK p s m #[Value.ref sb] meth c G b R_law code 4) (hr : meth.sig.returnType = ret) (hX0 : va_X sb L xs s s.heap) (hsb : sb < s.heap.size) (hbb : b = s.heap.size) {nc ns : Nat} {i : Int32} {S : zS} (hI : jI S) (ih : ∀ S' : zS, jI S' → Zw p l e room_1 s m #[Value.ref sb] below meth c G b 4 (lw_Z below #[Value.ref sb] s) nc ns 18 [some (.ref (1000000 + sb)), some (.ref 0), some (.ref 200), some (.int (i + 6))] [] S') : Zw p l e room_1 s m #[Value.ref sb] below meth c G b 4 (lw_Z below #[Value.ref sb] s) nc ns 1731 [some (.ref (1000000 + sb)), some (.ref 0), some (.ref 200), some (.int i)] [] S := by
  refine a_iinc (v := i + 6) X dL_law_1731 (by decide) rfl (by rw [show Int32.ofInt 6 = (6 : Int32) by decide]) ?_
  refine a_goto (tgt := 18) X dL_law_1734 (by decide) ?_
  exact Zw.to (ih S hI) rfl rfl
