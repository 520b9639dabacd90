/-! p52: the law's object, and the heads of results and isAs -/
/-- all cells are there still -/
def sb (L L' : List zC) : Prop := ∀ (k : Nat) (q : zC), L[k]? = some q → L'[k]? = some q
theorem sb.rf {L : List zC} : sb L L := fun _ _ h => h
theorem sb.tr {L L' L2 : List zC} (h : sb L L') (g : sb L' L2) : sb L L2 := fun k q z => g k q (h k q z)
theorem sb.app {L K : List zC} : sb L (L ++ K) := fun k q h => by
  rw [List.getElem?_append_left (List.getElem?_eq_some_iff.mp h).1]
  exact h
theorem LX4.sb {L L' : List zC} {P : Nat} (g : sb L L') (h : LX4 L P) : LX4 L' P := ⟨h.1, g _ _ h.2.1, g _ _ h.2.2.1, g _ _ h.2.2.2.1, g _ _ h.2.2.2.2.1, g _ _ h.2.2.2.2.2.1, g _ _ h.2.2.2.2.2.2.1, g _ _ h.2.2.2.2.2.2.2.1, g _ _ h.2.2.2.2.2.2.2.2⟩
theorem LX2.sb {L L' : List zC} {P : Nat} (g : sb L L') (h : LX2 L P) : LX2 L' P := ⟨h.1, g _ _ h.2.1, g _ _ h.2.2.1, g _ _ h.2.2.2.1, g _ _ h.2.2.2.2.1, g _ _ h.2.2.2.2.2.1, g _ _ h.2.2.2.2.2.2.1, g _ _ h.2.2.2.2.2.2.2.1, g _ _ h.2.2.2.2.2.2.2.2.1, g _ _ h.2.2.2.2.2.2.2.2.2.1, g _ _ h.2.2.2.2.2.2.2.2.2.2.1, g _ _ h.2.2.2.2.2.2.2.2.2.2.2.1, g _ _ h.2.2.2.2.2.2.2.2.2.2.2.2.1, g _ _ h.2.2.2.2.2.2.2.2.2.2.2.2.2⟩
theorem LX5.sb {L L' : List zC} {P : Nat} (g : sb L L') (h : LX5 L P) : LX5 L' P := ⟨h.1, g _ _ h.2.1, g _ _ h.2.2.1, g _ _ h.2.2.2.1, g _ _ h.2.2.2.2.1, g _ _ h.2.2.2.2.2.1, g _ _ h.2.2.2.2.2.2.1, g _ _ h.2.2.2.2.2.2.2.1, g _ _ h.2.2.2.2.2.2.2.2⟩
theorem LX0.sb {L L' : List zC} {P : Nat} (g : sb L L') (h : LX0 L P) : LX0 L' P := ⟨h.1, g _ _ h.2.1, g _ _ h.2.2.1, g _ _ h.2.2.2.1, g _ _ h.2.2.2.2.1, g _ _ h.2.2.2.2.2.1, LX5.sb g (h.2.2.2.2.2.2)⟩
theorem LX6.sb {L L' : List zC} {P : Nat} (g : sb L L') (h : LX6 L P) : LX6 L' P := ⟨h.1, g _ _ h.2.1, g _ _ h.2.2.1, g _ _ h.2.2.2.1, g _ _ h.2.2.2.2.1, LX4.sb g (h.2.2.2.2.2.1), LX2.sb g (h.2.2.2.2.2.2.1), LX5.sb g (h.2.2.2.2.2.2.2)⟩
theorem LX3.sb {L L' : List zC} {P : Nat} (g : sb L L') (h : LX3 L P) : LX3 L' P := ⟨h.1, g _ _ h.2.1, LX4.sb g (h.2.2.1), g _ _ h.2.2.2.1, g _ _ h.2.2.2.2.1, g _ _ h.2.2.2.2.2.1, g _ _ h.2.2.2.2.2.2.1, g _ _ h.2.2.2.2.2.2.2⟩
theorem LX1.sb {L L' : List zC} {P : Nat} (g : sb L L') (h : LX1 L P) : LX1 L' P := ⟨h.1, g _ _ h.2.1, g _ _ h.2.2.1, LX4.sb g (h.2.2.2.1), LX4.sb g (h.2.2.2.2.1), LX4.sb g (h.2.2.2.2.2.1), LX4.sb g (h.2.2.2.2.2.2.1), LX4.sb g (h.2.2.2.2.2.2.2.1), LX4.sb g (h.2.2.2.2.2.2.2.2.1), LX4.sb g (h.2.2.2.2.2.2.2.2.2.1), LX4.sb g (h.2.2.2.2.2.2.2.2.2.2)⟩
theorem LX7.sb {L L' : List zC} {P : Nat} (g : sb L L') (h : LX7 L P) : LX7 L' P := ⟨h.1, g _ _ h.2.1, g _ _ h.2.2.1, g _ _ h.2.2.2.1, LX3.sb g (h.2.2.2.2.1), LX4.sb g (h.2.2.2.2.2.1), LX1.sb g (h.2.2.2.2.2.2.1), LX2.sb g (h.2.2.2.2.2.2.2.1), LX5.sb g (h.2.2.2.2.2.2.2.2.1), LX0.sb g (h.2.2.2.2.2.2.2.2.2.1), LX6.sb g (h.2.2.2.2.2.2.2.2.2.2.1), LX4.sb g (h.2.2.2.2.2.2.2.2.2.2.2.1), LX2.sb g (h.2.2.2.2.2.2.2.2.2.2.2.2.1), LX5.sb g (h.2.2.2.2.2.2.2.2.2.2.2.2.2.1), LX0.sb g (h.2.2.2.2.2.2.2.2.2.2.2.2.2.2)⟩
theorem LX8.sb {L L' : List zC} {P : Nat} (g : sb L L') (h : LX8 L P) : LX8 L' P := by
  obtain ⟨h1, ⟨c, h2⟩, h3, h4, h5⟩ := h
  exact ⟨h1, ⟨c, g _ _ h2⟩, g _ _ h3, g _ _ h4, g _ _ h5⟩
theorem Zw.up {p : Program} {l : Launch} {e : Env} {R : Room} {s : State} {m : MethodId} {args : Array Value} {below : List Frame} {meth : Method} {c : Code} {G : zG} {b nL : Nat} {Q : State → Prop} {nc ns nc' ns' pc : Nat} {ls : List (Option Value)} {st : List Value} {S : zS} (h1 : nc ≤ nc') (h2 : ns ≤ ns') (h : Zw p l e R s m args below meth c G b nL Q nc' ns' pc ls st S) : Zw p l e R s m args below meth c G b nL Q nc ns pc ls st S :=
  fun H locs la hH hS hL => W.widen h1 h2 (h H locs la hH hS hL)
/-- two rows more, of noughts -/
def zn2 (M : zMt) (k : Nat) : zMt := zn (zn M k 0) (k + 1) 0
theorem zn2_row {M : zMt} {k a : Nat} (h : a < k) : zn2 M k a = M a := (zn_row (by omega)).trans (zn_row (by omega))
/-- the cells behind results -/
abbrev kr2 (L : List zC) (U : Nat) : List zC := (L ++ [(1, U, [])]) ++ [(1, U, [])]
theorem kr2_sb {L : List zC} {U : Nat} : sb L (kr2 L U) := sb.app.tr sb.app
theorem kr2_len {L : List zC} {U : Nat} : (kr2 L U).length = L.length + 2 := by
  show ((L ++ [_]) ++ [_]).length = _
  rw [List.length_append, List.length_append, List.length_singleton]
set_option maxRecDepth 100000 in
theorem k_results52 {l : Launch} {G : zG} {b : Nat} {L : List zC} {M : zMt} {N : zNt} {P C U : Nat} {r : zMt} (hP : LX8 L P) (hC : LX7 L C) (hPL : P < L.length) (hU : U ≤ 5) (hL : L.length + 10 < 1000000) (h3 : M P 3 = nI U) (hD : D_L_results P C L.length U (L.length + 1) U (zn2 M L.length) = some r) : zM l G b yL_results cL_results 10 none 5 2 10 [.ref P, .ref C] (L, M, N) (fun r2 z => r2 = none ∧ z = (kr2 L U, r, zn (zn N L.length 0) (L.length + 1) 0)) := by
  refine zM.of miL_results (Nat.le_of_ble_eq_true rfl) ?_
  intro p0 e s m args below meth c X hr hname
  obtain ⟨c0, ho⟩ := hP.2.1
  have hx : ¬ nI U < 0 ∧ (nI U).toNatClampNeg = U ∧ U ≤ 100000 := ⟨nn0 (by omega), nI_clamp (by omega), by omega⟩
  have e1 : (L ++ [((1, U, []) : zC)]).length = L.length + 1 := by rw [List.length_append, List.length_singleton]
  refine a_aload_n X dL_results_0 rfl ?_
  refine a_getc X lf8_120 ho rfl h3 dL_results_1 ?_
  refine a_newarray (at_ := .int) X (Or.inl ⟨rfl, rfl⟩) zarrI hx (by show L.length + 1 < _; omega) ⟨Nat.le_of_ble_eq_true rfl, by show 0 + U ≤ 10; omega⟩ dL_results_4 ?_
  refine a_astore_n X dL_results_6 (by decide) ?_
  refine a_aload_n X dL_results_7 rfl ?_
  have h3' : (zS1 (L, M, N) (1, U, [])).2.1 P 3 = nI U := (congrFun (zn_row (M := M) (n := L.length) (v := 0) (by omega)) 3).trans h3
  refine a_getc X lf8_120 (S := zS1 (L, M, N) (1, U, [])) (sb.app _ _ ho) rfl h3' dL_results_8 ?_
  refine a_newarray (at_ := .int) X (Or.inl ⟨rfl, rfl⟩) zarrI hx (by show (L ++ [((1, U, []) : zC)]).length + 1 < _; rw [e1]; omega) ⟨Nat.le_of_ble_eq_true rfl, by show 0 + U + U ≤ 10; omega⟩ dL_results_11 ?_
  refine a_astore_n X dL_results_13 (by decide) ?_
  have g1 : (kr2 L U)[L.length]? = some (1, U, []) := sb.app _ _ (by rw [List.getElem?_append_right (Nat.le_refl _), Nat.sub_self]; rfl)
  have g2 : (kr2 L U)[L.length + 1]? = some (1, U, []) := by
    show ((L ++ [((1, U, []) : zC)]) ++ [((1, U, []) : zC)])[L.length + 1]? = _
    rw [List.getElem?_append_right (by omega), e1, Nat.sub_self]
    rfl
  refine Zw.up (nc' := 2) (ns' := 10) (Nat.le_of_ble_eq_true rfl) (by show 0 + U + U ≤ 10; omega) ?_
  refine Zw.to2 (s_L_results (l := l) (G := G) (b := b) (N := zn (zn N L.length 0) (L.length + 1) 0) (e := e) (below := below) (LX8.sb kr2_sb hP) (LX7.sb kr2_sb hC) g1 (by omega) g2 (by omega) X hr rfl hD) ?_ rfl ?_
  · rw [show (zS1 (L, M, N) (1, U, [])).1.length = L.length + 1 from e1]
    rfl
  · show _ = zS1 (L ++ [(1, U, [])], zn M L.length 0, zn N L.length 0) (1, U, [])
    unfold zS1 zn2
    show (kr2 L U, zn (zn M L.length 0) (L.length + 1) 0, _) = (_, zn (zn M L.length 0) (L ++ [((1, U, []) : zC)]).length 0, zn (zn N L.length 0) (L ++ [((1, U, []) : zC)]).length 0)
    rw [e1]
theorem cS.kk {C n U H : Nat} {A A' T : zMt} (w : cS C A T n U H) (k : ∀ i j, C ≤ i → i < C + 104 → ¬ (i = C ∧ j = 0) → A' i j = A i j) : cS C A' T n U H := by
  obtain ⟨w1, w2, w3, w4, w5, w6, w7, w8⟩ := w
  exact ⟨w1, w2, w3, fun i j hi => (k _ _ (by omega) (by omega) (by omega)).trans (w4 i j hi), (k _ _ (by omega) (by omega) (by omega)).trans w5, (k _ _ (by omega) (by omega) (by omega)).trans w6, fun u hu => (k _ _ (by omega) (by omega) (by omega)).trans (w7 u hu), fun h hh => by rw [k _ _ (by omega) (by omega) (by omega)]; exact w8 h hh⟩
set_option maxRecDepth 100000 in
theorem k_isAs52 {l : Launch} {G : zG} {b : Nat} {L : List zC} {M T : zMt} {N : zNt} {P C n U H : Nat} {seed : Int32} (hP : LX8 L P) (hC : LX7 L C) (hPC : P + 5 ≤ C) (hCL : C + 200 ≤ L.length) (hL : L.length + 10 < 1000000) (hn : n ≤ 8) (w : cS C M T n U H) (h2 : M P 2 = nI n) (h3 : M P 3 = nI U) (hs : 0 ≤ seed.toInt) (hs2 : seed.toInt ≤ 999999999) : zM l G b yL_isAs cL_isAs 11 (some .boolean) 6 3 15 [.ref P, .ref C, .int (nI H), .int seed] (L, M, N) (fun r z => r = some (.int 1) ∧ ∃ M' N', z = (kr2 L U ++ [(1, U, [])], M', N') ∧ cS C M' T n U H ∧ ∀ j, M' P j = M P j) := by
  have hU := w.1.2.1
  obtain ⟨A1, o1, lo, l1, l2, o2⟩ := cc_orders hPC hn w h2 hs
  have hll : ∀ k, k < n → lo k < n := fun k hk => l1.lt n 0 _ _ _ k (by omega) (by omega)
  have hd : (lp lo n).Nodup := lp_nodup n (fun k k' a b => l1.inj (by omega) n 0 _ _ _ k k' (by omega) a (by omega))
  have hr2 : ∀ a, a < L.length → zn2 A1 L.length a = A1 a := fun a ha => zn2_row ha
  have w2 : wR P C n U H T lo (zn2 A1 L.length) := by
    refine ⟨w.kk (fun i j q1 q2 q3 => ?_), ?_, ?_, fun k hk => ?_⟩
    · rw [hr2 i (by omega)]; exact o2 i j q3 (by omega) (by omega)
    · rw [hr2 P (by omega), o2 _ _ (by omega) (by omega) (by omega)]; exact h2
    · rw [hr2 P (by omega), o2 _ _ (by omega) (by omega) (by omega)]; exact h3
    · rw [hr2 (P + 2) (by omega)]; exact l2 k hk
  obtain ⟨A3, r1, r2, r3⟩ := cc_results (F := L.length) (Gs := L.length + 1) hPC (by omega) (by omega) (by omega) hn hll hd w2
  have hr4 : ∀ a, a < L.length → zn A3 (L.length + 2) 0 a = A3 a := fun a ha => zn_row (by omega)
  have w3 := w2.k (F := L.length) (Gs := L.length + 1) hPC (by omega) (by omega) r3
  have w4 : wI P C n U H T (rs T 10 U n lo) lo (zn A3 (L.length + 2) 0) := by
    refine ⟨⟨w3.1.kk (fun i j q1 q2 q3 => congrFun (hr4 i (by omega)) j), ?_, ?_, fun k hk => ?_⟩, fun a ha => ?_⟩
    · rw [hr4 P (by omega)]; exact w3.2.1
    · rw [hr4 P (by omega)]; exact w3.2.2.1
    · rw [hr4 (P + 2) (by omega)]; exact w3.2.2.2 k hk
    · rw [hr4 (P + 3) (by omega), hr4 (P + 4) (by omega)]; exact r2 a ha
  obtain ⟨A5, i1, i2⟩ := cc_isAs (F := L.length + 2) hPC (by omega) hn hs hs2 l1 w4
  have w5 := w4.k (F := L.length + 2) hPC (by omega) i2
  have hA1 : A1 P 3 = nI U := (o2 _ _ (by omega) (by omega) (by omega)).trans h3
  have hA3 : A3 P 3 = nI U := w3.2.2.1
  have hrow : ∀ j, A5 P j = M P j := fun j => by
    rw [i2 _ _ (by omega) (by omega) (by omega), hr4 P (by omega), r3 _ _ (by omega) (by omega) (by omega), hr2 P (by omega), o2 _ _ (by omega) (by omega) (by omega)]
  refine zM.weaken (Q := fun r2 z => r2 = some (.int (((1 : Int32), A5) : Int32 × zMt).1) ∧ z = (kr2 L U ++ [(1, U, [])], (((1 : Int32), A5) : Int32 × zMt).2, zn (zn (zn N L.length 0) (L.length + 1) 0) (L.length + 2) 0) ∧ ((((1 : Int32), A5) : Int32 × zMt).1 = 0 ∨ (((1 : Int32), A5) : Int32 × zMt).1 = 1)) ?_ (fun r z q => ⟨q.1, A5, _, q.2.1, w5.1.1, hrow⟩)
  refine zM.of miL_isAs (Nat.le_of_ble_eq_true rfl) ?_
  intro p0 e s m args below meth c X hr hname
  obtain ⟨c0, ho⟩ := hP.2.1
  have hx : ¬ nI U < 0 ∧ (nI U).toNatClampNeg = U ∧ U ≤ 100000 := ⟨nn0 (by omega), nI_clamp (by omega), by omega⟩
  have e2 : (kr2 L U).length = L.length + 2 := kr2_len
  refine a_aload_n X dL_isAs_0 rfl ?_
  refine a_aload_n X dL_isAs_1 rfl ?_
  refine a_iload_n X dL_isAs_2 rfl ?_
  refine a_callVu X dL_isAs_3 miL_orders lm8_157 (t_L_orders hP hC o1) ho rfl rfl rfl (Nat.le_of_ble_eq_true rfl) ⟨by decide, by decide, by decide, by decide⟩ ?_
  refine a_aload_n X dL_isAs_6 rfl ?_
  refine a_aload_n X dL_isAs_7 rfl ?_
  refine a_callVu X dL_isAs_8 miL_results lm8_161 (k_results52 hP hC (by omega) hU hL hA1 r1) ho rfl rfl rfl (Nat.le_of_ble_eq_true rfl) ⟨by decide, by decide, by decide, by decide⟩ ?_
  refine a_iconst (v := 0) X dL_isAs_11 (by decide) ?_
  refine a_istore X dL_isAs_12 (by decide) ?_
  refine a_aload_n X dL_isAs_14 rfl ?_
  refine a_getc X lf8_120 (kr2_sb _ _ ho) rfl hA3 dL_isAs_15 ?_
  refine a_newarray (at_ := .int) X (Or.inl ⟨rfl, rfl⟩) zarrI hx (by show (kr2 L U).length + 1 < _; rw [e2]; omega) ⟨Nat.le_of_ble_eq_true rfl, by show 0 + 0 + 10 + U ≤ 15; omega⟩ dL_isAs_18 ?_
  refine a_astore X dL_isAs_20 (by decide) ?_
  have g1 : (kr2 L U ++ [((1, U, []) : zC)])[L.length + 2]? = some (1, U, []) := by
    rw [List.getElem?_append_right (by omega), e2, Nat.sub_self]
    rfl
  refine Zw.up (nc' := 3) (ns' := 15) (Nat.le_of_ble_eq_true rfl) (by show 0 + 0 + 10 + U ≤ 15; omega) ?_
  refine Zw.to2 (s_L_isAs (l := l) (G := G) (b := b) (N := zn (zn (zn N L.length 0) (L.length + 1) 0) (L.length + 2) 0) (e := e) (below := below) (LX8.sb sb.app (LX8.sb kr2_sb hP)) (LX7.sb sb.app (LX7.sb kr2_sb hC)) g1 (by omega) X hr rfl i1) ?_ rfl ?_
  · show _ = zs1 (zs1 _ _ _) _ (.ref (kr2 L U).length)
    rw [e2]
    rfl
  · show _ = zS1 (kr2 L U, A3, zn (zn N L.length 0) (L.length + 1) 0) (1, U, [])
    unfold zS1
    show (_, zn A3 (L.length + 2) 0, zn (zn (zn N L.length 0) (L.length + 1) 0) (L.length + 2) 0) = (_, zn A3 (kr2 L U).length 0, zn (zn (zn N L.length 0) (L.length + 1) 0) (kr2 L U).length 0)
    rw [e2]
/-- the law's own object is made -/
def kLo (P : Nat) (x : Nat × Nat) : zC := (0, 8, [x, (0, 0), (0, 0), (0, 0), (2, P + 2), (2, P + 3), (2, P + 4)])
set_option maxRecDepth 100000 in
theorem k_init52 {l : Launch} {G : zG} {b : Nat} {M : zMt} {N : zNt} (hz : zz 0 M N) : zM l G b yL_init cL_init 1 none 1 4 24 [.ref 0] ([(0, 8, [(3, 0), (0, 0), (0, 0), (0, 0), (3, 0), (3, 0), (3, 0)])], M, N) (fun r z => r = none ∧ z = ([kLo 0 (2, 1), (1, 0, []), (1, 8, []), (1, 8, []), (1, 8, [])], M, N)) := by
  refine zM.of miL_init (Nat.le_of_ble_eq_true rfl) ?_
  intro p0 e s m args below meth c X hr hname
  refine a_aload_n X dL_init_0 rfl ?_
  refine a_objinit X lm8_1 (by decide) dL_init_1 ?_
  refine a_aload_n X dL_init_4 rfl ?_
  refine a_iconst (v := 0) X dL_init_5 (by decide) ?_
  refine a_newarray (at_ := .int) (n := 0) X (Or.inl ⟨rfl, rfl⟩) zarrI ⟨by decide, rfl, by decide⟩ (Nat.le_of_ble_eq_true rfl) ⟨by decide, by decide⟩ dL_init_6 ?_
  refine Zw.to2 (st' := [.ref 1, .ref 0]) (S' := ([(0, 8, [(3, 0), (0, 0), (0, 0), (0, 0), (3, 0), (3, 0), (3, 0)]), (1, 0, [])], M, N)) ?_ rfl rfl (zS1_z (L := [(0, 8, [(3, 0), (0, 0), (0, 0), (0, 0), (3, 0), (3, 0), (3, 0)])]) (q := (1, 0, [])) (hz.up (Nat.zero_le _))).symm
  refine a_putR (P := 0) (z := 1) (fs := [(3, 0), (0, 0), (0, 0), (0, 0), (3, 0), (3, 0), (3, 0)]) X (by decide) lf8_7 (fun _ => ⟨rfl, rfl⟩) rfl (by decide) dL_init_8 ?_
  refine a_aload_n X dL_init_11 rfl ?_
  refine a_bipush (v := 8) X dL_init_12 (by decide) ?_
  refine a_newarray (at_ := .int) (n := 8) X (Or.inl ⟨rfl, rfl⟩) zarrI ⟨by decide, rfl, by decide⟩ (Nat.le_of_ble_eq_true rfl) ⟨by decide, by decide⟩ dL_init_14 ?_
  refine Zw.to2 (st' := [.ref 2, .ref 0]) (S' := ([(0, 8, [(2, 1), (0, 0), (0, 0), (0, 0), (3, 0), (3, 0), (3, 0)]), (1, 0, []), (1, 8, [])], M, N)) ?_ rfl rfl (zS1_z (L := [(0, 8, [(2, 1), (0, 0), (0, 0), (0, 0), (3, 0), (3, 0), (3, 0)]), (1, 0, [])]) (q := (1, 8, [])) (hz.up (Nat.zero_le _))).symm
  refine a_putr (P := 0) (z := 2) (fs := [(2, 1), (0, 0), (0, 0), (0, 0), (3, 0), (3, 0), (3, 0)]) X hname (by decide) lff8_13 (fun _ => ⟨rfl, rfl⟩) rfl (by decide) dL_init_16 ?_
  refine a_aload_n X dL_init_19 rfl ?_
  refine a_bipush (v := 8) X dL_init_20 (by decide) ?_
  refine a_newarray (at_ := .int) (n := 8) X (Or.inl ⟨rfl, rfl⟩) zarrI ⟨by decide, rfl, by decide⟩ (Nat.le_of_ble_eq_true rfl) ⟨by decide, by decide⟩ dL_init_22 ?_
  refine Zw.to2 (st' := [.ref 3, .ref 0]) (S' := ([(0, 8, [(2, 1), (0, 0), (0, 0), (0, 0), (2, 2), (3, 0), (3, 0)]), (1, 0, []), (1, 8, []), (1, 8, [])], M, N)) ?_ rfl rfl (zS1_z (L := [(0, 8, [(2, 1), (0, 0), (0, 0), (0, 0), (2, 2), (3, 0), (3, 0)]), (1, 0, []), (1, 8, [])]) (q := (1, 8, [])) (hz.up (Nat.zero_le _))).symm
  refine a_putr (P := 0) (z := 3) (fs := [(2, 1), (0, 0), (0, 0), (0, 0), (2, 2), (3, 0), (3, 0)]) X hname (by decide) lff8_16 (fun _ => ⟨rfl, rfl⟩) rfl (by decide) dL_init_24 ?_
  refine a_aload_n X dL_init_27 rfl ?_
  refine a_bipush (v := 8) X dL_init_28 (by decide) ?_
  refine a_newarray (at_ := .int) (n := 8) X (Or.inl ⟨rfl, rfl⟩) zarrI ⟨by decide, rfl, by decide⟩ (Nat.le_of_ble_eq_true rfl) ⟨by decide, by decide⟩ dL_init_30 ?_
  refine Zw.to2 (st' := [.ref 4, .ref 0]) (S' := ([(0, 8, [(2, 1), (0, 0), (0, 0), (0, 0), (2, 2), (2, 3), (3, 0)]), (1, 0, []), (1, 8, []), (1, 8, []), (1, 8, [])], M, N)) ?_ rfl rfl (zS1_z (L := [(0, 8, [(2, 1), (0, 0), (0, 0), (0, 0), (2, 2), (2, 3), (3, 0)]), (1, 0, []), (1, 8, []), (1, 8, [])]) (q := (1, 8, [])) (hz.up (Nat.zero_le _))).symm
  refine a_putr (P := 0) (z := 4) (fs := [(2, 1), (0, 0), (0, 0), (0, 0), (2, 2), (2, 3), (3, 0)]) X hname (by decide) lff8_19 (fun _ => ⟨rfl, rfl⟩) rfl (by decide) dL_init_32 ?_
  exact a_vret X hr dL_init_35 ⟨by decide, by decide⟩ ⟨rfl, rfl⟩
