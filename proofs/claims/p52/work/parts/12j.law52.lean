/-! p52: rows of the law's strings: a builder made, added to, told; a choice taken -/
/-- K steps more have room -/
def zBg (R : Room) (K nc ns : Nat) (S : zS) : Prop := nc + 2 * K ≤ R.cells ∧ ns + 3010 * K ≤ R.slots ∧ S.1.length + 2 * K ≤ 9999
theorem zBg.less {R : Room} {K k nc ns : Nat} {S : zS} (h : zBg R K nc ns S) (hk : k ≤ K) : zBg R k nc ns S := by
  obtain ⟨h1, h2, h3⟩ := h
  exact ⟨by omega, by omega, by omega⟩
theorem zBg.step {R : Room} {K nc ns i j : Nat} {S z : zS} (h : zBg R (K + 1) nc ns S) (hi : i ≤ 2) (hj : j ≤ 3010) (hz : z.1.length ≤ S.1.length + 2) : zBg R K (nc + i) (ns + j) z := by
  obtain ⟨h1, h2, h3⟩ := h
  exact ⟨by omega, by omega, by omega⟩
/-- since S0 only cells are made, and the law's object P has taken choices: the next is the a-th -/
def zSt (S0 S : zS) (P a : Nat) : Prop := P < S0.1.length ∧ S0.1.length ≤ S.1.length ∧ (∀ i, i < S0.1.length → S.1[i]? = S0.1[i]? ∧ (i ≠ P → S.2.1 i = S0.2.1 i) ∧ S.2.2 i = S0.2.2 i) ∧ (∀ j, j ≠ 1 → S.2.1 P j = S0.2.1 P j) ∧ S.2.1 P 1 = nI a
theorem zSt.gr {E : Nat → Prop} {S0 S z : zS} {P a k : Nat} (h : zSt S0 S P a) (hg : zGr E k S z) (hE : ∀ i, E i → S0.1.length ≤ i) : zSt S0 z P a := by
  obtain ⟨h0, h1, h2, h3, h4⟩ := h
  obtain ⟨g1, g2, g3⟩ := hg
  have g4 : ∀ i, i < S0.1.length → z.1[i]? = S.1[i]? ∧ z.2.1 i = S.2.1 i ∧ z.2.2 i = S.2.2 i := fun i hi => g3 i (by omega) (fun q => by have := hE i q; omega)
  have gP := (g4 P h0).2.1
  exact ⟨h0, by omega, fun i hi => ⟨(g4 i hi).1.trans (h2 i hi).1, fun q => (g4 i hi).2.1.trans ((h2 i hi).2.1 q), (g4 i hi).2.2.trans (h2 i hi).2.2⟩, fun j hj => by rw [gP]; exact h3 j hj, by rw [gP]; exact h4⟩
theorem zSt.at {S0 S : zS} {P a : Nat} (h : zSt S0 S P a) : zSt S0 (S.1, zu S.2.1 P 1 (nI (a + 1)), S.2.2) P (a + 1) := by
  obtain ⟨h0, h1, h2, h3, h4⟩ := h
  exact ⟨h0, h1, fun i hi => ⟨(h2 i hi).1, fun q => (zu_row q).trans ((h2 i hi).2.1 q), (h2 i hi).2.2⟩, fun j hj => (zu_ne (fun q => hj q.2)).trans (h3 j hj), zu_eq⟩
theorem zSB.gr {E : Nat → Prop} {S z : zS} {p j n k : Nat} {t : List Nat} (h : zSB S p j n t) (hg : zGr E k S z) (hp : ¬ E p ∧ ¬ E j) : zSB z p j n t := by
  have hl := h.lt
  obtain ⟨h1, h2, h3, h4, h5, h6, h7, h8⟩ := h
  obtain ⟨c1, c2, -⟩ := hg.2.2 p hl.1 hp.1
  obtain ⟨d1, d2, -⟩ := hg.2.2 j hl.2 hp.2
  exact ⟨c1.trans h1, h2, d1.trans h3, h4, by rw [c2]; exact h5, by rw [c2]; exact h6, fun k hk => by rw [d2]; exact h7 k hk, h8⟩
theorem zSB.at {S0 S : zS} {p j n P a : Nat} {t : List Nat} (h : zSB S p j n t) (hs : zSt S0 S P a) (hp : S0.1.length ≤ p) : zSB (S.1, zu S.2.1 P 1 (nI (a + 1)), S.2.2) p j n t := by
  obtain ⟨h1, h2, h3, h4, h5, h6, h7, h8⟩ := h
  have hP := hs.1
  have e1 : zu S.2.1 P 1 (nI (a + 1)) p = S.2.1 p := zu_row (by omega)
  have e2 : zu S.2.1 P 1 (nI (a + 1)) j = S.2.1 j := zu_row (by omega)
  exact ⟨h1, h2, h3, h4, by show zu _ _ _ _ p 1 = _; rw [e1]; exact h5, by show zu _ _ _ _ p 3 = _; rw [e1]; exact h6, fun k hk => by show zu _ _ _ _ j k = _; rw [e2]; exact h7 k hk, h8⟩
/-- a String that is held: below c -/
def zTt (G : zG) (S : zS) (c v : Nat) (t : List Nat) : Prop := zTx G S v t ∧ (∀ x, x ∈ t → x < 128) ∧ (v < 1000000 → v < c ∧ ∀ i, S.1[v]? = some (0, 9, [(2, i), (0, 0), (0, 0), (0, 0)]) → i < c)
theorem zTt.gr {G : zG} {S z : zS} {c v k : Nat} {t : List Nat} (h : zTt G S c v t) (hg : zGr zE0 k S z) : zTt G z c v t := by
  obtain ⟨h1, h2, h3⟩ := h
  refine ⟨h1.gr hg (fun q => ⟨fun w => w, fun i hi w => w⟩), h2, fun q => ⟨(h3 q).1, fun i hi => ?_⟩⟩
  rcases h1 with ⟨i2, -, e9, -⟩ | ⟨-, i2, e1, -⟩
  · omega
  · rw [(hg.2.2 v (List.getElem?_eq_some_iff.mp e1).1 (fun w => w)).1] at hi
    exact (h3 q).2 i hi
/-- the law's object -/
def zLo (G : zG) (S : zS) (P : Nat) : Prop := S.1[P]? = some (0, 8, [(4, G.2 300), (0, 0), (0, 0), (0, 0), (2, P + 2), (2, P + 3), (2, P + 4)])
theorem zTt.at {G : zG} {S0 S : zS} {c v P a : Nat} {t : List Nat} (h : zTt G S c v t) (hs : zSt S0 S P a) (ho : zLo G S0 P) : zTt G (S.1, zu S.2.1 P 1 (nI (a + 1)), S.2.2) c v t := by
  obtain ⟨h1, h2, h3⟩ := h
  have hP : S.1[P]? = _ := ((hs.2.2.1 P hs.1).1).trans ho
  refine ⟨?_, h2, h3⟩
  rcases h1 with h1 | ⟨hv, j, q1, q2, q3, q4, q5⟩
  · exact Or.inl h1
  · have n1 : v ≠ P := fun e => by rw [e, hP] at q1; cases q1
    have n2 : j ≠ P := fun e => by rw [e, hP] at q4; cases q4
    have e1 : zu S.2.1 P 1 (nI (a + 1)) v = S.2.1 v := zu_row n1
    have e2 : zu S.2.1 P 1 (nI (a + 1)) j = S.2.1 j := zu_row n2
    exact Or.inr ⟨hv, j, q1, q2, by show zu _ _ _ _ v 1 = _; rw [e1]; exact q3, q4, fun k hk => by show zu _ _ _ _ j k = _; rw [e2]; exact q5 k hk⟩
theorem zTt.mono {G : zG} {S : zS} {c d v : Nat} {t : List Nat} (h : zTt G S c v t) (hd : c ≤ d) : zTt G S d v t := ⟨h.1, h.2.1, fun q => ⟨Nat.lt_of_lt_of_le (h.2.2 q).1 hd, fun i hi => Nat.lt_of_lt_of_le ((h.2.2 q).2 i hi) hd⟩⟩
/-- a literal -/
theorem zTt.lit {G : zG} {S : zS} {c i : Nat} {u : List Nat} (h : (decide (i < zLit.length) && decide (u.length = zLen.getD i 0) && (List.range u.length).all (fun k => decide ((zByt.getD i []).getD k 0 = zby u k)) && u.all (fun x => decide (x < 128))) = true) : zTt G S c (1000000 + zKa G i) u := by
  simp only [Bool.and_eq_true, decide_eq_true_eq, List.all_eq_true] at h
  obtain ⟨⟨⟨h1, h2⟩, h3⟩, h4⟩ := h
  exact ⟨Or.inl ⟨i, h1, rfl, h2, fun k hk => h3 k (List.mem_range.mpr hk)⟩, h4, fun q => absurd q (by omega)⟩
section Z54
variable {p : Program} {l : Launch} {e : Env} {R : Room} {s : State} {m : MethodId} {args : Array Value} {below : List Frame} {meth : Method} {c : Code} {G : zG} {b : Nat} {Q : State → Prop} {nc ns : Nat}
variable {cc : ByteArray} {pc nL idx K : Nat} {own : String} {ls : List (Option Value)} {st : List Value} {S : zS}
set_option maxRecDepth 100000 in
theorem a_sbNew (X : zOK p s m args meth c G b own cc nL) {i1 i3 : Nat} (hd1 : decode cc pc = .ok (.new i1, 3)) (hd2 : decode cc (pc + 3) = .ok (.dup, 1)) (hd3 : decode cc (pc + 3 + 1) = .ok (.invokespecial i3, 3)) (hl1 : Cond.classLink own i1 RJ4 ∈ zT) (hl3 : zLi own i3 yJ4_init_da8c8) (hR : 6 ≤ R.frames ∧ 216 ≤ R.locals) (hw : (st.map fun v => v.category).sum + 1 ≤ 8) (hb : zBg R (K + 1) nc ns S)
    (kk : ∀ (j n nc ns : Nat) (z : zS), zBg R K nc ns z → zGr zE0 2 S z → zSB z S.1.length j n [] → Zw p l e R s m args below meth c G b nL Q nc ns (pc + 3 + 1 + 3) ls (.ref S.1.length :: st) z) : Zw p l e R s m args below meth c G b nL Q nc ns pc ls st S := by
  obtain ⟨b1, b2, b3⟩ := id hb
  have hlen : (zS1 S (0, 10, [(3, 0), (0, 0), (0, 0), (0, 0)])).1.length = S.1.length + 1 := by show (S.1 ++ [_]).length = _; rw [List.length_append]; rfl
  refine a_new X [(3, 0), (0, 0), (0, 0), (0, 0)] zcJ10 hl1 zinst10 zini10 ⟨rfl, by decide, by decide⟩ (by omega) ⟨by omega, by omega⟩ hd1 ?_
  refine a_dup X hd2 rfl ?_
  refine a_invI0 X miJ4_init_da8c8 hl3 zS1_new rfl rfl (by rw [List.map_cons, List.sum_cons]; show 1 + _ ≤ 8; omega) ⟨by omega, by omega, by omega, by omega⟩ hd3 (k_init4 zS1_new (if_pos rfl) (by rw [hlen]; omega)) (fun r z q => ?_)
  obtain ⟨rfl, g1, g2⟩ := q
  have h1 : z.1.length ≤ S.1.length + 2 := by have := g2.2.1; rw [hlen] at this; omega
  refine kk _ _ _ _ z (hb.step (i := 2) (j := 3006) (Nat.le_refl 2) (by omega) h1) ⟨by have := g2.1; rw [hlen] at this; omega, h1, fun a ha _ => ?_⟩ g1
  obtain ⟨c1, c2, c3⟩ := g2.2.2 a (by rw [hlen]; omega) (fun q => by have : a = S.1.length := q; omega)
  exact ⟨c1.trans (List.getElem?_append_left ha), c2.trans (zn_row (by omega)), c3.trans (zn_row (by omega))⟩
set_option maxRecDepth 100000 in
theorem a_apS (X : zOK p s m args meth c G b own cc nL) {q j n v : Nat} {t u : List Nat} (hL : zLv own idx yJ4_append_15ec4) (hR : 6 ≤ R.frames ∧ 216 ≤ R.locals) (hw : (st.map fun v => v.category).sum ≤ 8) (hb : zBg R (K + 1) nc ns S) (h : zSB S q j n t) (hv : zTx G S v u ∧ ∀ x, x ∈ u → x < 128) (hvj : v < 1000000 → ∀ i, S.1[v]? = some (0, 9, [(2, i), (0, 0), (0, 0), (0, 0)]) → ¬ i = j) (hlen : t.length + u.length ≤ 1500) (hd : decode cc pc = .ok (.invokevirtual idx, 3))
    (kk : ∀ (j2 n nc ns : Nat) (z : zS), zBg R K nc ns z → zGr (zE2 q j) 1 S z → zSB z q j2 n (t ++ u) → Zw p l e R s m args below meth c G b nL Q nc ns (pc + 3) ls (.ref q :: st) z) : Zw p l e R s m args below meth c G b nL Q nc ns pc ls (.ref v :: .ref q :: st) S := by
  obtain ⟨b1, b2, b3⟩ := id hb
  refine a_invV X miJ4_append_15ec4 hL h.1 (show vwCl[10]? = some (yJ4_append_15ec4.cls, TJ4, 4) from rfl) rfl (As := [.ref v]) (rest := st) rfl hw ⟨by omega, by omega, by omega, by omega⟩ hd (k_app4S h hv.1 hv.2 hvj hlen (by omega)) (fun r z w => ?_)
  obtain ⟨rfl, j2, n2, g1, g2⟩ := w
  exact kk _ _ _ _ z (hb.step (i := 1) (j := 3002) (by omega) (by omega) (by have := g2.2.1; omega)) g2 g1
set_option maxRecDepth 100000 in
theorem a_apC (X : zOK p s m args meth c G b own cc nL) {q j n x : Nat} {t : List Nat} (hL : zLv own idx yJ4_append_cf468) (hR : 6 ≤ R.frames ∧ 216 ≤ R.locals) (hw : (st.map fun v => v.category).sum ≤ 8) (hb : zBg R (K + 1) nc ns S) (h : zSB S q j n t) (hx : x < 128) (hlen : t.length + 1 ≤ 1500) (hd : decode cc pc = .ok (.invokevirtual idx, 3))
    (kk : ∀ (j2 n nc ns : Nat) (z : zS), zBg R K nc ns z → zGr (zE2 q j) 1 S z → zSB z q j2 n (t ++ [x]) → Zw p l e R s m args below meth c G b nL Q nc ns (pc + 3) ls (.ref q :: st) z) : Zw p l e R s m args below meth c G b nL Q nc ns pc ls (.int (nI x) :: .ref q :: st) S := by
  obtain ⟨b1, b2, b3⟩ := id hb
  refine a_invV X miJ4_append_cf468 hL h.1 (show vwCl[10]? = some (yJ4_append_cf468.cls, TJ4, 4) from rfl) rfl (As := [.int (nI x)]) (rest := st) rfl hw ⟨by omega, by omega, by omega, by omega⟩ hd (k_app4C h hx hlen (by omega)) (fun r z w => ?_)
  obtain ⟨rfl, j2, n2, g1, g2⟩ := w
  exact kk _ _ _ _ z (hb.step (i := 1) (j := 3002) (by omega) (by omega) (by have := g2.2.1; omega)) g2 g1
set_option maxRecDepth 100000 in
theorem a_apI (X : zOK p s m args meth c G b own cc nL) {q j n x : Nat} {t : List Nat} (hL : zLv own idx yJ4_append_bf812) (hR : 6 ≤ R.frames ∧ 216 ≤ R.locals) (hw : (st.map fun v => v.category).sum ≤ 8) (hb : zBg R (K + 1) nc ns S) (h : zSB S q j n t) (hx : x ≤ 100) (hlen : t.length + 3 ≤ 1500) (hd : decode cc pc = .ok (.invokevirtual idx, 3))
    (kk : ∀ (j2 n nc ns : Nat) (z : zS), zBg R K nc ns z → zGr (zE2 q j) 1 S z → zSB z q j2 n (t ++ dg x) → Zw p l e R s m args below meth c G b nL Q nc ns (pc + 3) ls (.ref q :: st) z) : Zw p l e R s m args below meth c G b nL Q nc ns pc ls (.int (nI x) :: .ref q :: st) S := by
  obtain ⟨b1, b2, b3⟩ := id hb
  refine a_invV X miJ4_append_bf812 hL h.1 (show vwCl[10]? = some (yJ4_append_bf812.cls, TJ4, 4) from rfl) rfl (As := [.int (nI x)]) (rest := st) rfl hw ⟨by omega, by omega, by omega, by omega⟩ hd (k_app4I h hx hlen (by omega)) (fun r z w => ?_)
  obtain ⟨rfl, j2, n2, g1, g2⟩ := w
  exact kk _ _ _ _ z (hb.step (i := 1) (j := 3002) (by omega) (by omega) (by have := g2.2.1; omega)) g2 g1
set_option maxRecDepth 100000 in
theorem a_toS (X : zOK p s m args meth c G b own cc nL) {q j n : Nat} {t : List Nat} (hL : zLv own idx yJ4_toString_0e30d) (hR : 6 ≤ R.frames ∧ 216 ≤ R.locals) (hw : (st.map fun v => v.category).sum ≤ 8) (hb : zBg R (K + 1) nc ns S) (h : zSB S q j n t) (hd : decode cc pc = .ok (.invokevirtual idx, 3))
    (kk : ∀ (nc ns : Nat) (z : zS), zBg R K nc ns z → zGr zE0 2 S z → z.1[S.1.length]? = some (0, 9, [(2, S.1.length + 1), (0, 0), (0, 0), (0, 0)]) → zTt G z z.1.length S.1.length t → Zw p l e R s m args below meth c G b nL Q nc ns (pc + 3) ls (.ref S.1.length :: st) z) : Zw p l e R s m args below meth c G b nL Q nc ns pc ls (.ref q :: st) S := by
  obtain ⟨b1, b2, b3⟩ := id hb
  refine a_invV X miJ4_toString_0e30d hL h.1 (show vwCl[10]? = some (yJ4_toString_0e30d.cls, TJ4, 4) from rfl) rfl (As := []) (rest := st) rfl hw ⟨by omega, by omega, by omega, by omega⟩ hd (k_toString h (by omega)) (fun r z w => ?_)
  obtain ⟨rfl, g1, g2, g3, g4⟩ := w
  refine kk _ _ z (hb.step (i := 2) (j := 3006) (Nat.le_refl 2) (by omega) g1.2.1) g1 g2 ⟨g4, h.2.2.2.2.2.2.2, fun _ => ⟨by rw [g3]; omega, fun i hi => ?_⟩⟩
  rw [g2] at hi
  cases hi
  rw [g3]
  omega
end Z54
theorem z_amg {v : Int32} {m : Nat} (h1 : 1 ≤ m) (h2 : m ≤ 100000) : (0 ≤ v - v / nI m * nI m → ∃ x, x < m ∧ v - v / nI m * nI m = nI x) ∧ (¬ 0 ≤ v - v / nI m * nI m → ∃ x, x < m ∧ v - v / nI m * nI m + nI m = nI x) := by
  have e := rem_toInt v (nI m)
  rw [nI_toInt (n := m) (by omega)] at e
  have bd := tmod_bounds (a := v.toInt) (M := (m : Int)) (by omega)
  have e0 : (0 : Int32).toInt = 0 := by decide
  generalize v - v / nI m * nI m = r at e
  constructor
  · intro h
    have h3 := Int32.le_iff_toInt_le.mp h
    refine ⟨r.toInt.toNat, by omega, ?_⟩
    apply Int32.toInt_inj.mp
    rw [nI_toInt (by omega)]
    omega
  · intro h
    have h3 := Int32.lt_iff_toInt_lt.mp (Int32.not_le.mp h)
    refine ⟨(r.toInt + m).toNat, by omega, ?_⟩
    apply Int32.toInt_inj.mp
    rw [Int32.toInt_add, nI_toInt (n := m) (by omega), nI_toInt (by omega), Int.bmod_def]
    omega
theorem z_nI0 {n : Nat} (h : 1 ≤ n ∧ n ≤ 100000) : ¬ nI n = 0 := fun q => by
  have h1 := congrArg Int32.toInt q
  rw [nI_toInt (by omega), show (0 : Int32).toInt = 0 by decide] at h1
  omega
