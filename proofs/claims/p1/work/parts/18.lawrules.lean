/-! the law's own walk -/
theorem zv_far {b sb : Nat} : zv b (.ref (1000000 + sb)) = .ref sb := by
  show Value.ref (if 1000000 + sb < 1000000 then _ else _) = _
  rw [if_neg (by omega), Nat.add_sub_cancel_left]
section ZS
variable {p : Program} {l : Launch} {e : Env} {R : Room} {s : State} {m : MethodId} {args : Array Value} {below : List Frame} {meth : Method} {c : Code} {G : zG} {b : Nat} {Q : State → Prop} {nc ns : Nat}
variable {cc : ByteArray} {pc nL : Nat} {own : String} {ls : List (Option Value)} {st : List Value} {S : zS}
theorem a_sld (X : zOK p s m args meth c G b own cc nL) {sb L : Nat} {xs : Nat → Int32} (hX0 : va_X sb L xs s s.heap) (hsb : sb < s.heap.size) (hbb : b = s.heap.size) {i : Int32} (hin : vp_in i L) (hd : decode cc pc = .ok (.iaload, 1)) (kk : Zw p l e R s m args below meth c G b nL Q nc ns (pc + 1) ls (.int (xs i.toNatClampNeg) :: st) S) : Zw p l e R s m args below meth c G b nL Q nc ns pc ls (.int i :: .ref (1000000 + sb) :: st) S := by
  intro H locs la hH hS hL
  show W p l e R s m args below meth c H locs nc ns Q (F0 m pc la (.int i :: zv b (.ref (1000000 + sb)) :: st.map (zv b)))
  rw [zv_far]
  exact va_sld (A := fun q : Nat => b ≤ q) X.1 X.2.1 hX0 hsb (by omega) hS hin hd (kk H locs la hH hS hL)
theorem a_slen (X : zOK p s m args meth c G b own cc nL) {sb L : Nat} {xs : Nat → Int32} (hX0 : va_X sb L xs s s.heap) (hsb : sb < s.heap.size) (hbb : b = s.heap.size) (hd : decode cc pc = .ok (.arraylength, 1)) (kk : Zw p l e R s m args below meth c G b nL Q nc ns (pc + 1) ls (.int (Int32.ofNat L) :: st) S) : Zw p l e R s m args below meth c G b nL Q nc ns pc ls (.ref (1000000 + sb) :: st) S := by
  intro H locs la hH hS hL
  show W p l e R s m args below meth c H locs nc ns Q (F0 m pc la (zv b (.ref (1000000 + sb)) :: st.map (zv b)))
  rw [zv_far]
  exact va_slen (A := fun q : Nat => b ≤ q) X.1 X.2.1 hX0 hsb (by omega) hS hd (kk H locs la hH hS hL)
end ZS
theorem l_app {L K : List zC} {k : Nat} {q : zC} (h : L[k]? = some q) : (L ++ K)[k]? = some q := by
  rw [List.getElem?_append_left (List.getElem?_eq_some_iff.mp h).1]
  exact h
theorem LX4.app {L K : List zC} {P : Nat} (h : LX4 L P) : LX4 (L ++ K) P := ⟨h.1, l_app h.2.1, l_app h.2.2.1, l_app h.2.2.2.1, l_app h.2.2.2.2.1, l_app h.2.2.2.2.2.1, l_app h.2.2.2.2.2.2.1, l_app h.2.2.2.2.2.2.2.1, l_app h.2.2.2.2.2.2.2.2⟩
theorem LX2.app {L K : List zC} {P : Nat} (h : LX2 L P) : LX2 (L ++ K) P := ⟨h.1, l_app h.2.1, l_app h.2.2.1, l_app h.2.2.2.1, l_app h.2.2.2.2.1, l_app h.2.2.2.2.2.1, l_app h.2.2.2.2.2.2.1, l_app h.2.2.2.2.2.2.2.1, l_app h.2.2.2.2.2.2.2.2.1, l_app h.2.2.2.2.2.2.2.2.2.1, l_app h.2.2.2.2.2.2.2.2.2.2.1, l_app h.2.2.2.2.2.2.2.2.2.2.2.1, l_app h.2.2.2.2.2.2.2.2.2.2.2.2.1, l_app h.2.2.2.2.2.2.2.2.2.2.2.2.2⟩
theorem LX5.app {L K : List zC} {P : Nat} (h : LX5 L P) : LX5 (L ++ K) P := ⟨h.1, l_app h.2.1, l_app h.2.2.1, l_app h.2.2.2.1, l_app h.2.2.2.2.1, l_app h.2.2.2.2.2.1, l_app h.2.2.2.2.2.2.1, l_app h.2.2.2.2.2.2.2.1, l_app h.2.2.2.2.2.2.2.2⟩
theorem LX0.app {L K : List zC} {P : Nat} (h : LX0 L P) : LX0 (L ++ K) P := ⟨h.1, l_app h.2.1, l_app h.2.2.1, l_app h.2.2.2.1, l_app h.2.2.2.2.1, l_app h.2.2.2.2.2.1, LX5.app (h.2.2.2.2.2.2)⟩
theorem LX6.app {L K : List zC} {P : Nat} (h : LX6 L P) : LX6 (L ++ K) P := ⟨h.1, l_app h.2.1, l_app h.2.2.1, l_app h.2.2.2.1, l_app h.2.2.2.2.1, LX4.app (h.2.2.2.2.2.1), LX2.app (h.2.2.2.2.2.2.1), LX5.app (h.2.2.2.2.2.2.2)⟩
theorem LX3.app {L K : List zC} {P : Nat} (h : LX3 L P) : LX3 (L ++ K) P := ⟨h.1, l_app h.2.1, LX4.app (h.2.2.1), l_app h.2.2.2.1, l_app h.2.2.2.2.1, l_app h.2.2.2.2.2.1, l_app h.2.2.2.2.2.2.1, l_app h.2.2.2.2.2.2.2⟩
theorem LX1.app {L K : List zC} {P : Nat} (h : LX1 L P) : LX1 (L ++ K) P := ⟨h.1, l_app h.2.1, l_app h.2.2.1, LX4.app (h.2.2.2.1), LX4.app (h.2.2.2.2.1), LX4.app (h.2.2.2.2.2.1), LX4.app (h.2.2.2.2.2.2.1), LX4.app (h.2.2.2.2.2.2.2.1), LX4.app (h.2.2.2.2.2.2.2.2.1), LX4.app (h.2.2.2.2.2.2.2.2.2.1), LX4.app (h.2.2.2.2.2.2.2.2.2.2)⟩
theorem LX7.app {L K : List zC} {P : Nat} (h : LX7 L P) : LX7 (L ++ K) P := ⟨h.1, l_app h.2.1, l_app h.2.2.1, l_app h.2.2.2.1, LX3.app (h.2.2.2.2.1), LX4.app (h.2.2.2.2.2.1), LX1.app (h.2.2.2.2.2.2.1), LX2.app (h.2.2.2.2.2.2.2.1), LX5.app (h.2.2.2.2.2.2.2.2.1), LX0.app (h.2.2.2.2.2.2.2.2.2.1), LX6.app (h.2.2.2.2.2.2.2.2.2.2.1), LX4.app (h.2.2.2.2.2.2.2.2.2.2.2.1), LX2.app (h.2.2.2.2.2.2.2.2.2.2.2.2.1), LX5.app (h.2.2.2.2.2.2.2.2.2.2.2.2.2.1), LX0.app (h.2.2.2.2.2.2.2.2.2.2.2.2.2.2)⟩
theorem zE7.app {S z : zS} {P : Nat} {K : List zC} (h : zE7 S P) (h1 : z.1 = S.1 ++ K) (h2 : ∀ a, a < P + 200 → z.2.1 a = S.2.1 a) : zE7 z P := by
  obtain ⟨h0, hr⟩ := h
  refine ⟨by rw [h1]; exact h0.app, ?_⟩
  rw [h2 P (by omega), h2 (P + 3) (by omega), h2 (P + 17) (by omega), h2 (P + 18) (by omega), h2 (P + 20) (by omega), h2 (P + 25) (by omega), h2 (P + 91) (by omega)]
  exact hr
theorem zE8.keep {S z : zS} {P P' : Nat} (h : zE8 S P') (h1 : z.1 = S.1) (h2 : ∀ a, P + 200 ≤ a → z.2.1 a = S.2.1 a) (hp : P + 200 ≤ P') : zE8 z P' := by
  obtain ⟨h0, hr⟩ := h
  refine ⟨by rw [h1]; exact h0, ?_⟩
  rw [h2 P' (by omega), h2 (P' + 1) (by omega)]
  exact hr
