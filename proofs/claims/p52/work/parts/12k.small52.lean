set_option maxRecDepth 100000 in
theorem k_among {l : Launch} {G : zG} {b : Nat} {S : zS} {v : Int32} {n : Nat} (h9 : 1 ≤ n ∧ n ≤ 100000) : zM l G b yL_among cL_among 3 (some .int) 0 0 0 [.int v, .int (nI n)] S (fun r z => ∃ x, x < n ∧ r = some (.int (nI x)) ∧ z = S) := by
  refine zM.of miL_among (Nat.le_of_ble_eq_true rfl) ?_
  intro p0 e s m args below meth c X hr hname
  refine a_iload_n X dL_among_0 rfl ?_
  refine a_iload_n X dL_among_1 rfl ?_
  refine a_irem X dL_among_2 (z_nI0 h9) ?_
  refine a_istore_n X dL_among_3 (by decide) ?_
  refine a_iload_n X dL_among_4 rfl ?_
  refine a_if_ge (tgt := 14) X dL_among_5 (by decide) (fun h => ?_) (fun h => ?_)
  · obtain ⟨x, hx, e1⟩ := (z_amg h9.1 h9.2).1 h
    refine a_iload_n X dL_among_14 rfl ?_
    exact a_iret X hr dL_among_15 ⟨by decide, by decide⟩ ⟨x, hx, by rw [e1], rfl⟩
  · obtain ⟨x, hx, e1⟩ := (z_amg h9.1 h9.2).2 h
    refine a_iload_n X dL_among_8 rfl ?_
    refine a_iload_n X dL_among_9 rfl ?_
    refine a_iadd X dL_among_10 ?_
    refine a_goto (tgt := 15) X dL_among_11 (by decide) ?_
    exact a_iret X hr dL_among_15 ⟨by decide, by decide⟩ ⟨x, hx, by rw [e1], rfl⟩
set_option maxRecDepth 100000 in
theorem k_cell5 {l : Launch} {G : zG} {b : Nat} {S : zS} {a : Nat} (ha : a < 100000) : zM l G b yL_cell cL_cell 2 (some .int) 0 0 0 [.ref (1000000 + G.2 300), .int (nI a)] S (fun r z => ∃ v, r = some (.int v) ∧ z = S) := by
  refine zM.of miL_cell (Nat.le_of_ble_eq_true rfl) ?_
  intro p0 e s m args below meth c X hr hname
  refine a_iload_n X dL_cell_0 rfl ?_
  refine a_aload_n X dL_cell_1 rfl ?_
  refine a_clen X dL_cell_2 ?_
  refine a_icmp_ge (tgt := 12) X dL_cell_3 (by decide) (fun h => ?_) (fun h => ?_)
  · skip
    refine a_sipush (v := 7919) X dL_cell_12 (by decide) ?_
    refine a_iload_n X dL_cell_15 rfl ?_
    refine a_imul X dL_cell_16 ?_
    refine a_iconst (v := 5) X dL_cell_17 (by decide) ?_
    refine a_iadd X dL_cell_18 ?_
    exact a_iret X hr dL_cell_19 ⟨by decide, by decide⟩ ⟨_, rfl, rfl⟩
  · have hc : (G.2 301 : Nat) ≤ 260 := X.clen
    have h2 : a < (G.2 301 : Nat) := Nat.not_le.mp (fun q => h ((nI_leI (Nat.lt_of_le_of_lt X.clen (by decide)) (by omega)).mpr q))
    refine a_aload_n X dL_cell_6 rfl ?_
    refine a_iload_n X dL_cell_7 rfl ?_
    refine a_cld X (vp_in_nI h2 (Nat.lt_of_le_of_lt X.clen (by decide))) dL_cell_8 ?_
    refine a_goto (tgt := 19) X dL_cell_9 (by decide) ?_
    exact a_iret X hr dL_cell_19 ⟨by decide, by decide⟩ ⟨_, rfl, rfl⟩
set_option maxRecDepth 100000 in
theorem k_chosen {l : Launch} {G : zG} {b : Nat} {S : zS} {P a n : Nat} (hw : zLo G S P) (ha : S.2.1 P 1 = nI a) (hab : a < 9000) (h9 : 1 ≤ n ∧ n ≤ 100000) : zM l G b yL_chosen cL_chosen 3 (some .int) 1 0 0 [.ref P, .int (nI n)] S (fun r z => ∃ x, x < n ∧ r = some (.int (nI x)) ∧ z = (S.1, zu S.2.1 P 1 (nI (a + 1)), S.2.2)) := by
  refine zM.of miL_chosen (Nat.le_of_ble_eq_true rfl) ?_
  intro p0 e s m args below meth c X hr hname
  refine a_aload_n X dL_chosen_0 rfl ?_
  refine a_getF X lf8_7 hw rfl dL_chosen_1 ?_
  refine a_aload_n X dL_chosen_4 rfl ?_
  refine a_getc X lf8_46 hw rfl ha dL_chosen_5 ?_
  refine a_callSx X dL_chosen_8 miL_cell lm8_50 (k_cell5 (by omega)) rfl rfl (Nat.le_of_ble_eq_true rfl) ⟨by decide, by decide, by decide, by decide⟩ (fun r z q => ?_)
  obtain ⟨v, rfl, rfl⟩ := q
  refine a_iload_n X dL_chosen_11 rfl ?_
  refine a_callSx X dL_chosen_12 miL_among lm8_54 (k_among h9) rfl rfl (Nat.le_of_ble_eq_true rfl) ⟨by decide, by decide, by decide, by decide⟩ (fun r z2 q => ?_)
  obtain ⟨x, hx, rfl, rfl⟩ := q
  refine a_istore_n X dL_chosen_15 (by decide) ?_
  refine a_aload_n X dL_chosen_16 rfl ?_
  refine a_dup X dL_chosen_17 rfl ?_
  refine a_getc X lf8_46 hw rfl ha dL_chosen_18 ?_
  refine a_iconst (v := 1) X dL_chosen_21 (by decide) ?_
  refine a_iadd X dL_chosen_22 ?_
  rw [nI_1]
  refine a_puti X lf8_46 hw rfl dL_chosen_23 ?_
  refine a_iload_n X dL_chosen_26 rfl ?_
  exact a_iret X hr dL_chosen_27 ⟨by decide, by decide⟩ ⟨x, hx, rfl, rfl⟩
section Z55
variable {p : Program} {l : Launch} {e : Env} {R : Room} {s : State} {m : MethodId} {args : Array Value} {below : List Frame} {meth : Method} {c : Code} {G : zG} {b : Nat} {Q : State → Prop} {nc ns : Nat}
variable {cc : ByteArray} {pc nL idx K : Nat} {own : String} {ls : List (Option Value)} {st : List Value} {S : zS}
theorem a_cho (X : zOK p s m args meth c G b own cc nL) {S0 : zS} {P a n : Nat} (hL : zLv own idx yL_chosen) (hR : 6 ≤ R.frames ∧ 216 ≤ R.locals) (hw : (st.map fun v => v.category).sum ≤ 8) (hb : zBg R K nc ns S) (ho : zLo G S0 P) (hs : zSt S0 S P a) (hab : a < 9000) (h9 : 1 ≤ n ∧ n ≤ 100000) (hd : decode cc pc = .ok (.invokevirtual idx, 3))
    (kk : ∀ (x : Nat), x < n → zBg R K nc ns (S.1, zu S.2.1 P 1 (nI (a + 1)), S.2.2) → zSt S0 (S.1, zu S.2.1 P 1 (nI (a + 1)), S.2.2) P (a + 1) → Zw p l e R s m args below meth c G b nL Q nc ns (pc + 3) ls (.int (nI x) :: st) (S.1, zu S.2.1 P 1 (nI (a + 1)), S.2.2)) : Zw p l e R s m args below meth c G b nL Q nc ns pc ls (.int (nI n) :: .ref P :: st) S := by
  obtain ⟨b1, b2, b3⟩ := id hb
  have hw2 : zLo G S P := ((hs.2.2.1 P hs.1).1).trans ho
  refine a_invV X miL_chosen hL hw2 (show vwCl[8]? = some (yL_chosen.cls, TX8, 7) from rfl) rfl (As := [.int (nI n)]) (rest := st) rfl hw ⟨by omega, by omega, by omega, by omega⟩ hd (k_chosen hw2 hs.2.2.2.2 hab h9) (fun r z w => ?_)
  obtain ⟨x, hx, rfl, rfl⟩ := w
  exact kk x hx hb hs.at
end Z55
