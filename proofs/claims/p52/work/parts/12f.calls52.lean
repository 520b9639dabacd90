/-! p52: calls of inherited, private and super methods on a StringBuilder; Strings, near and far -/
theorem zby_app {t u : List Nat} {k : Nat} : zby (t ++ u) k = if k < t.length then zby t k else zby u (k - t.length) := by
  unfold zby
  simp only [List.getD_eq_getElem?_getD]
  by_cases h : k < t.length
  · rw [if_pos h, List.getElem?_append_left h]
  · rw [if_neg h, List.getElem?_append_right (by omega)]
theorem zby_out {t : List Nat} {k : Nat} (h : t.length ≤ k) : zby t k = 0 := by
  unfold zby
  rw [List.getD_eq_getElem?_getD, List.getElem?_eq_none h]
  rfl
/-- v is a String of the letters t -/
def zTx (G : zG) (S : zS) (v : Nat) (t : List Nat) : Prop := (∃ i, i < zLit.length ∧ v = 1000000 + zKa G i ∧ t.length = zLen.getD i 0 ∧ ∀ k, k < t.length → (zByt.getD i []).getD k 0 = zby t k) ∨ (v < 1000000 ∧ ∃ j, S.1[v]? = some (0, 9, [(2, j), (0, 0), (0, 0), (0, 0)]) ∧ j < 1000000 ∧ S.2.1 v 1 = 0 ∧ S.1[j]? = some (2, t.length, []) ∧ ∀ k, k < t.length → S.2.1 j k = zby t k)
/-- p is a StringBuilder of the letters t, in the array j of length n -/
def zSB (S : zS) (p j n : Nat) (t : List Nat) : Prop := S.1[p]? = some (0, 10, [(2, j), (0, 0), (0, 0), (0, 0)]) ∧ (p < j ∧ j < 1000000) ∧ S.1[j]? = some (2, n, []) ∧ (t.length ≤ n ∧ n ≤ 3002) ∧ S.2.1 p 1 = 0 ∧ S.2.1 p 3 = nI t.length ∧ (∀ k, k < n → S.2.1 j k = zby t k) ∧ ∀ x, x ∈ t → x < 128
/-- S has grown to z by at most k cells; of the old none has changed but E's -/
def zGr (E : Nat → Prop) (k : Nat) (S z : zS) : Prop := S.1.length ≤ z.1.length ∧ z.1.length ≤ S.1.length + k ∧ ∀ a, a < S.1.length → ¬ E a → z.1[a]? = S.1[a]? ∧ z.2.1 a = S.2.1 a ∧ z.2.2 a = S.2.2 a
def zE2 (p j : Nat) (a : Nat) : Prop := a = p ∨ a = j
def zE1' (p : Nat) (a : Nat) : Prop := a = p
def zE0 (a : Nat) : Prop := False
theorem zGr.rf {E : Nat → Prop} {S : zS} : zGr E 0 S S := ⟨Nat.le_refl _, Nat.le_refl _, fun _ _ _ => ⟨rfl, rfl, rfl⟩⟩
theorem zGr.tr {E E' : Nat → Prop} {k m : Nat} {S z w : zS} (h : zGr E k S z) (g : zGr E' m z w) (hE : ∀ a, a < S.1.length → E' a → E a) : zGr E (k + m) S w := by
  obtain ⟨a1, a2, a3⟩ := h
  obtain ⟨b1, b2, b3⟩ := g
  refine ⟨by omega, by omega, fun a ha hn => ?_⟩
  obtain ⟨c1, c2, c3⟩ := a3 a ha hn
  obtain ⟨d1, d2, d3⟩ := b3 a (by omega) (fun q => hn (hE a ha q))
  exact ⟨d1.trans c1, d2.trans c2, d3.trans c3⟩
theorem zGr.up {E E' : Nat → Prop} {k m : Nat} {S z : zS} (h : zGr E k S z) (hE : ∀ a, E a → E' a) (hk : k ≤ m) : zGr E' m S z := ⟨h.1, by have := h.2.1; omega, fun a ha hn => h.2.2 a ha (fun q => hn (hE a q))⟩
theorem zTx.gr {E : Nat → Prop} {G : zG} {S z : zS} {v k : Nat} {t : List Nat} (h : zTx G S v t) (hg : zGr E k S z) (hp : v < 1000000 → ¬ E v ∧ ∀ j, S.1[v]? = some (0, 9, [(2, j), (0, 0), (0, 0), (0, 0)]) → ¬ E j) : zTx G z v t := by
  rcases h with h | ⟨hv, j, h1, h2, h3, h4, h5⟩
  · exact Or.inl h
  · obtain ⟨p1, p2⟩ := hp hv
    have p3 := p2 j h1
    obtain ⟨c1, c2, -⟩ := hg.2.2 v (List.getElem?_eq_some_iff.mp h1).1 p1
    obtain ⟨d1, d2, -⟩ := hg.2.2 j (List.getElem?_eq_some_iff.mp h4).1 p3
    exact Or.inr ⟨hv, j, c1.trans h1, h2, by rw [c2]; exact h3, d1.trans h4, fun k hk => by rw [d2]; exact h5 k hk⟩
section Z53
variable {p : Program} {l : Launch} {e : Env} {R : Room} {s : State} {m : MethodId} {args : Array Value} {below : List Frame} {meth : Method} {c : Code} {G : zG} {b : Nat} {Q : State → Prop} {nc ns : Nat}
variable {cc : ByteArray} {pc nL idx : Nat} {own : String} {ls : List (Option Value)} {st : List Value} {S : zS}
variable {y : MethodName} {cy : ByteArray} {nM : Nat} {rt : Option FieldType} {n d mc ms : Nat} {As rest : List Value} {Q' : Option Value → zS → Prop}
theorem a_invU (X : zOK p s m args meth c G b own cc nL) (hM : zMi y cy nM rt n) {x : MethodName} (hLk : zLu own idx x y) {P : Nat} {fs : List (Nat × Nat)} (hq : S.1[P]? = some (0, 10, fs)) (hn : As.length = n) (hst : st = As.reverse ++ .ref P :: rest) (hw : (rest.map fun v => v.category).sum ≤ 8) (hroom : d + 1 ≤ R.frames ∧ 8 + (nM + 11) + 36 * d ≤ R.locals ∧ nc + mc ≤ R.cells ∧ ns + ms ≤ R.slots)
    (hd : decode cc pc = .ok (.invokevirtual idx, 3)) (hZ : zM l G b y cy nM rt d mc ms (.ref P :: As) S Q') (kk : ∀ (r : Option Value) (S2 : zS), Q' r S2 → Zw p l e R s m args below meth c G b nL Q (nc + mc) (ns + ms) (pc + 3) ls (r.toList ++ rest) S2) : Zw p l e R s m args below meth c G b nL Q nc ns pc ls st S := by
  subst hst
  intro H locs la hH hS hL
  have hbH : b ≤ H.size := by have := hH.1; omega
  have hlt := zH_lt hH hq
  have hrev : (As.reverse ++ .ref P :: rest).map (zv b) = (As.map (zv b)).reverse ++ .ref (b + P) :: rest.map (zv b) := by rw [List.map_append, List.map_reverse, List.map_cons, zv_ref hlt]
  rw [hrev]
  unfold zM at hZ
  rw [List.map_cons, zv_ref hlt] at hZ
  have blk := zM.blind (b := b) (G := G) (l := l) (av := .ref P :: As) (S := S)
  rw [List.map_cons, zv_ref hlt] at blk
  obtain ⟨u1, u2, u3, u4, u5, u6, u7, ⟨b0, m0, r0, u8⟩, u9⟩ := id hLk
  have hts := X.2.2.2.2.1
  have hrcv := va_recv X.2.2.2.2.2.1 hH.2.2 (rfl : vwCl[10]? = some (RJ4, TJ4, 4)) (zW_get hq)
  have hsel : (Cond.selects RJ4 x y).before args s = true := hts _ u9
  have hlen : ∀ sig, parseMethodDescriptor x.desc = some sig → n = sig.parameters.length := fun sig h => by
    have h2 := hM.2.2.2.1
    rw [← u7, h] at h2
    exact (Option.some.inj h2).symm
  have cw : va_CU R s args own RJ4 x.cls idx x y cy nM rt (.code y cy nM rt :: zT) { frames := d, cells := mc, slots := ms, locals := 36 * d } mc ms n := ⟨⟨rfl, rfl, hroom.1, hroom.2.1, pay_in hts (z_good hM), List.mem_cons_self⟩, hts _ hM.1, hts _ u5, u6, hlen, hts _ u1, hts _ u2, va_Decl.of (hts _ u3) (hts _ u8), hsel, hts _ u4⟩
  exact z_run (a := _) (va_runU (owner := x.cls) (As := As.map (zv b)) (rest := rest.map (zv b)) (cc := cc) (nL := nL) (own := own) ⟨X.1, X.2.1, X.2.2.1, X.2.2.2.1, X.2.2.2.2.1⟩ hZ cw ⟨blk, hrcv, fun U hU hW => ⟨rfl, by rw [hU]; exact hH, X.2.2.2.2.2.1.moved hW.alike, X.2.2.2.2.2.2.1.warm hW (fun q h1 h2 => by rw [hU]; exact hS.2.1 q h1 h2)⟩⟩ rfl (by rw [List.length_map]; exact hn) (hL.1) rfl (by rw [z_sum]; show 2 * 0 + _ ≤ 8; omega) hd hroom.2.2) hbH hS hL kk
theorem a_invSU (X : zOK p s m args meth c G b own cc nL) (hM : zMi y cy nM rt n) (hLk : zLsu own idx y) {P : Nat} {fs : List (Nat × Nat)} (hq : S.1[P]? = some (0, 10, fs)) (hn : As.length = n) (hst : st = As.reverse ++ .ref P :: rest) (hw : (rest.map fun v => v.category).sum ≤ 8) (hroom : d + 1 ≤ R.frames ∧ 8 + (nM + 11) + 36 * d ≤ R.locals ∧ nc + mc ≤ R.cells ∧ ns + ms ≤ R.slots)
    (hd : decode cc pc = .ok (.invokespecial idx, 3)) (hZ : zM l G b y cy nM rt d mc ms (.ref P :: As) S Q') (kk : ∀ (r : Option Value) (S2 : zS), Q' r S2 → Zw p l e R s m args below meth c G b nL Q (nc + mc) (ns + ms) (pc + 3) ls (r.toList ++ rest) S2) : Zw p l e R s m args below meth c G b nL Q nc ns pc ls st S := by
  subst hst
  intro H locs la hH hS hL
  have hbH : b ≤ H.size := by have := hH.1; omega
  have hlt := zH_lt hH hq
  have hrev : (As.reverse ++ .ref P :: rest).map (zv b) = (As.map (zv b)).reverse ++ .ref (b + P) :: rest.map (zv b) := by rw [List.map_append, List.map_reverse, List.map_cons, zv_ref hlt]
  rw [hrev]
  unfold zM at hZ
  rw [List.map_cons, zv_ref hlt] at hZ
  have blk := zM.blind (b := b) (G := G) (l := l) (av := .ref P :: As) (S := S)
  rw [List.map_cons, zv_ref hlt] at blk
  obtain ⟨u1, u2, u3, u4, u5, u6⟩ := id hLk
  have hts := X.2.2.2.2.1
  have hrcv := va_recv X.2.2.2.2.2.1 hH.2.2 (rfl : vwCl[10]? = some (RJ4, TJ4, 4)) (zW_get hq)
  have hat := (X.2.2.2.2.2.1.1 10 _ rfl).2
  have cw : va_CS R s args own idx y cy nM rt (.code y cy nM rt :: zT) { frames := d, cells := mc, slots := ms, locals := 36 * d } mc ms n := ⟨⟨rfl, rfl, hroom.1, hroom.2.1, pay_in hts (z_good hM), List.mem_cons_self⟩, hts _ u1, hts _ u2, hts _ u3, hts _ u4, hts _ u5, hts _ hM.1, u6, z_len hM.2.2.2.1⟩
  exact z_run (a := _) (va_runSU (C := RJ4) hat (As := As.map (zv b)) (rest := rest.map (zv b)) (cc := cc) (nL := nL) (own := own) ⟨X.1, X.2.1, X.2.2.1, X.2.2.2.1, X.2.2.2.2.1⟩ hZ cw ⟨blk, hrcv, fun U hU hW => ⟨rfl, by rw [hU]; exact hH, X.2.2.2.2.2.1.moved hW.alike, X.2.2.2.2.2.2.1.warm hW (fun q h1 h2 => by rw [hU]; exact hS.2.1 q h1 h2)⟩⟩ rfl (by rw [List.length_map]; exact hn) (hL.1) rfl (by rw [z_sum]; show 2 * 0 + _ ≤ 8; omega) hd hroom.2.2) hbH hS hL kk
theorem a_invI0 (X : zOK p s m args meth c G b own cc nL) (hM : zMi y cy nM none n) (hLk : zLi own idx y) {P ci : Nat} {fs : List (Nat × Nat)} (hq : S.1[P]? = some (0, ci, fs)) (hn : As.length = n) (hst : st = As.reverse ++ .ref P :: rest) (hw : (rest.map fun v => v.category).sum ≤ 8) (hroom : d + 1 ≤ R.frames ∧ 8 + (nM + 11) + 36 * d ≤ R.locals ∧ nc + mc ≤ R.cells ∧ ns + ms ≤ R.slots)
    (hd : decode cc pc = .ok (.invokespecial idx, 3)) (hZ : zM l G b y cy nM none d mc ms (.ref P :: As) S Q') (kk : ∀ (r : Option Value) (S2 : zS), Q' r S2 → Zw p l e R s m args below meth c G b nL Q (nc + mc) (ns + ms) (pc + 3) ls (r.toList ++ rest) S2) : Zw p l e R s m args below meth c G b nL Q nc ns pc ls st S := by
  subst hst
  intro H locs la hH hS hL
  have hbH : b ≤ H.size := by have := hH.1; omega
  have hlt := zH_lt hH hq
  have hrev : (As.reverse ++ .ref P :: rest).map (zv b) = (As.map (zv b)).reverse ++ .ref (b + P) :: rest.map (zv b) := by rw [List.map_append, List.map_reverse, List.map_cons, zv_ref hlt]
  rw [hrev]
  unfold zM at hZ
  rw [List.map_cons, zv_ref hlt] at hZ
  have blk := zM.blind (b := b) (G := G) (l := l) (av := .ref P :: As) (S := S)
  rw [List.map_cons, zv_ref hlt] at blk
  exact z_run (a := _) (va_runI (As := As.map (zv b)) (rest := rest.map (zv b)) (cc := cc) (nL := nL) (own := own) ⟨X.1, X.2.1, X.2.2.1, X.2.2.2.1, X.2.2.2.2.1⟩ hZ ⟨⟨rfl, rfl, hroom.1, hroom.2.1, pay_in X.2.2.2.2.1 (z_good hM), List.mem_cons_self, X.2.2.2.2.1 _ hM.1, X.2.2.2.2.1 _ hM.2.1, hM.2.2.1, z_len hM.2.2.2.1, X.2.2.2.2.1 _ hLk.1⟩, hLk.2.2, X.2.2.2.2.1 _ hLk.2.1⟩ ⟨blk, fun U hU hW => ⟨rfl, by rw [hU]; exact hH, X.2.2.2.2.2.1.moved hW.alike, X.2.2.2.2.2.2.1.warm hW (fun q h1 h2 => by rw [hU]; exact hS.2.1 q h1 h2)⟩⟩ rfl (by rw [List.length_map]; exact hn) (hL.1) rfl (by rw [z_sum]; show 2 * 0 + _ ≤ 8; omega) hd hroom.2.2) hbH hS hL kk
theorem a_invT (X : zOK p s m args meth c G b own cc nL) (hM : zMi y cy nM rt n) (hLk : zLv own idx y) {v : Nat} {t : List Nat} (hv : zTx G S v t) (hcls : y.cls = "java/lang/String") (hn : As.length = n) (hst : st = As.reverse ++ .ref v :: rest) (hw : (rest.map fun v => v.category).sum ≤ 8) (hroom : d + 1 ≤ R.frames ∧ 8 + (nM + 11) + 36 * d ≤ R.locals ∧ nc + mc ≤ R.cells ∧ ns + ms ≤ R.slots)
    (hd : decode cc pc = .ok (.invokevirtual idx, 3)) (hZ : zM l G b y cy nM rt d mc ms (.ref v :: As) S Q') (kk : ∀ (r : Option Value) (S2 : zS), Q' r S2 → Zw p l e R s m args below meth c G b nL Q (nc + mc) (ns + ms) (pc + 3) ls (r.toList ++ rest) S2) : Zw p l e R s m args below meth c G b nL Q nc ns pc ls st S := by
  rcases hv with ⟨i, hi, rfl, -⟩ | ⟨-, j, hq, -⟩
  · exact a_invVs X hM hLk hi hcls hn hst hw hroom hd hZ kk
  · exact a_invV X hM hLk hq (show vwCl[9]? = some (y.cls, TJ0, 4) by rw [hcls]; rfl) hn hst hw hroom hd hZ kk
theorem a_tval (X : zOK p s m args meth c G b own cc nL) {v : Nat} {t : List Nat} (hv : zTx G S v t) (hw : Cond.fieldLink own idx "java/lang/String" "value" "[B" ∈ zT) (hf : zFl own idx 9 0 (.array .byte) true) (hd : decode cc pc = .ok (.getfield idx, 3)) (kk : ∀ w, zBz G S w t.length t → Zw p l e R s m args below meth c G b nL Q nc ns (pc + 3) ls (.ref w :: st) S) : Zw p l e R s m args below meth c G b nL Q nc ns pc ls (.ref v :: st) S := by
  rcases hv with ⟨i, hi, rfl, h3, h4⟩ | ⟨-, j, hq, hj, h3, h4, h5⟩
  · exact a_sval X hi hw hd (kk _ (Or.inl ⟨i, hi, rfl, h3, h4⟩))
  · exact a_getr X hf hq rfl hj hd (kk _ (Or.inr ⟨hj, h4, h5⟩))
theorem a_tcod (X : zOK p s m args meth c G b own cc nL) {v : Nat} {t : List Nat} (hv : zTx G S v t) (hw : Cond.fieldLink own idx "java/lang/String" "coder" "B" ∈ zT) (hf : zFl own idx 9 1 .byte true) (hd : decode cc pc = .ok (.getfield idx, 3)) (kk : Zw p l e R s m args below meth c G b nL Q nc ns (pc + 3) ls (.int 0 :: st) S) : Zw p l e R s m args below meth c G b nL Q nc ns pc ls (.ref v :: st) S := by
  rcases hv with ⟨i, hi, rfl, h3, h4⟩ | ⟨-, j, hq, hj, h3, h4, h5⟩
  · exact a_scod X hi hw hd kk
  · refine a_geti X hf hq rfl hd ?_
    rw [h3]
    exact kk
theorem a_getc (X : zOK p s m args meth c G b own cc nL) {ci k P z : Nat} {ty : FieldType} {fin : Bool} {fs : List (Nat × Nat)} {x : Int32} (hf : zFl own idx ci k ty fin) (hq : S.1[P]? = some (0, ci, fs)) (hk : fs[k]? = some (0, z)) (hx : S.2.1 P k = x) (hd : decode cc pc = .ok (.getfield idx, 3)) (kk : Zw p l e R s m args below meth c G b nL Q nc ns (pc + 3) ls (.int x :: st) S) : Zw p l e R s m args below meth c G b nL Q nc ns pc ls (.ref P :: st) S := by
  refine a_geti X hf hq hk hd ?_
  rw [hx]
  exact kk
end Z53
theorem z_shr0 {x : Int32} : x >>> ((0 : Int32) &&& 31) = x := by
  rw [show ((0 : Int32) &&& 31) = 0 by decide]
  simp
theorem z_shl0 {x : Int32} : x <<< ((0 : Int32) &&& 31) = x := by
  rw [show ((0 : Int32) &&& 31) = 0 by decide]
  simp
theorem z5_sub {x y : Int32} (h1 : -2147483648 ≤ x.toInt - y.toInt) (h2 : x.toInt - y.toInt < 2147483648) : (x - y).toInt = x.toInt - y.toInt := by
  rw [Int32.toInt_sub, Int.bmod_def]
  omega
