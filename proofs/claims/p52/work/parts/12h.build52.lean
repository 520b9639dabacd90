/-! p52: a StringBuilder grows, a String is made of it -/
theorem z_sle {k n : Nat} (hk : k ≤ 9999) (hn : n ≤ 9999) : nI k - nI n ≤ 0 ↔ k ≤ n := by
  rw [Int32.le_iff_toInt_le, z5_sub (by rw [nI_toInt (by omega), nI_toInt (by omega)]; omega) (by rw [nI_toInt (by omega), nI_toInt (by omega)]; omega), nI_toInt (by omega), nI_toInt (by omega), show (0 : Int32).toInt = 0 by decide]
  omega
theorem zSB.lt {S : zS} {p j n : Nat} {t : List Nat} (h : zSB S p j n t) : p < S.1.length ∧ j < S.1.length := ⟨(List.getElem?_eq_some_iff.mp h.1).1, (List.getElem?_eq_some_iff.mp h.2.2.1).1⟩
/-- a longer array in place of the old -/
theorem zSB.grown {S z : zS} {p j n k : Nat} {t : List Nat} (h : zSB S p j n t) (hz : zAp S z k t) (hk : t.length ≤ k ∧ k ≤ 3002) (hl : S.1.length < 1000000) : zSB (z.1.set p (0, 10, [(2, S.1.length), (0, 0), (0, 0), (0, 0)]), z.2) p S.1.length k t ∧ zGr (zE2 p j) 1 S (z.1.set p (0, 10, [(2, S.1.length), (0, 0), (0, 0), (0, 0)]), z.2) := by
  obtain ⟨hq, hj, ha, hn, hcod, hcnt, hby, h128⟩ := id h
  obtain ⟨p1, p2⟩ := h.lt
  obtain ⟨z1, z2, z3⟩ := hz
  have hlen : z.1.length = S.1.length + 1 := by rw [z1, List.length_append, List.length_singleton]
  have ep := z3 p p1
  refine ⟨⟨?_, ⟨p1, hl⟩, ?_, hk, ?_, ?_, z2, h128⟩, ?_, ?_, fun a h9 hn => ?_⟩
  · exact List.getElem?_set_self (by rw [hlen]; omega)
  · show (z.1.set p _)[S.1.length]? = _
    rw [List.getElem?_set_ne (by omega), z1]
    simp
  · show z.2.1 p 1 = 0
    rw [ep.1]
    exact hcod
  · show z.2.1 p 3 = _
    rw [ep.1]
    exact hcnt
  · show _ ≤ (z.1.set p _).length
    rw [List.length_set, hlen]
    omega
  · show (z.1.set p _).length ≤ _
    rw [List.length_set, hlen]
    exact Nat.le_refl _
  · refine ⟨?_, (z3 a (by omega)).1, (z3 a (by omega)).2⟩
    show (z.1.set p _)[a]? = _
    rw [List.getElem?_set_ne (fun q => hn (Or.inl q.symm)), z1, List.getElem?_append_left (by omega)]
theorem zTx.ap {G : zG} {S : zS} {v p j n : Nat} {t u : List Nat} (hv : zTx G S v u) (h : zSB S p j n t) (hvp : v < 1000000 → ∀ i, S.1[v]? = some (0, 9, [(2, i), (0, 0), (0, 0), (0, 0)]) → ¬ i = j) : v < 1000000 → ¬ zE2 p j v ∧ ∀ i, S.1[v]? = some (0, 9, [(2, i), (0, 0), (0, 0), (0, 0)]) → ¬ zE2 p j i := by
  intro q9
  have hq := h.1
  have ha := h.2.2.1
  rcases hv with ⟨i, hi, e9, -⟩ | ⟨-, i, e1, -, -, e2, -⟩
  · omega
  · refine ⟨fun w => ?_, fun i2 hi w => ?_⟩
    · rcases w with w | w
      · rw [w, hq] at e1; cases e1
      · rw [w, ha] at e1; cases e1
    · rcases w with w | w
      · rw [hi] at e1; cases e1; rw [w, hq] at e2; cases e2
      · exact hvp q9 i2 hi w
/-- letters more, laid behind -/
theorem zSB.laid {S : zS} {p j n : Nat} {t u : List Nat} {M : Nat → Nat → Int32} (h : zSB S p j n t) (hu : t.length + u.length ≤ n) (hu8 : ∀ x, x ∈ u → x < 128) (hM : ∀ k, k < n → M j k = if t.length ≤ k ∧ k < t.length + u.length then zby u (k - t.length) else S.2.1 j k) (hp : M p 1 = S.2.1 p 1) (hc : M p 3 = nI (t.length + u.length)) (ho : ∀ a, a ≠ p → a ≠ j → M a = S.2.1 a) : zSB (S.1, M, S.2.2) p j n (t ++ u) ∧ zGr (zE2 p j) 0 S (S.1, M, S.2.2) := by
  obtain ⟨hq, hj, ha, hn, hcod, hcnt, hby, h128⟩ := h
  refine ⟨⟨hq, hj, ha, ⟨by rw [List.length_append]; exact hu, hn.2⟩, hp.trans hcod, by rw [List.length_append]; exact hc, fun k hk => ?_, fun x hx => ?_⟩, Nat.le_refl _, Nat.le_refl _, fun a h9 hn => ⟨rfl, ho a (fun q => hn (Or.inl q)) (fun q => hn (Or.inr q)), rfl⟩⟩
  · show M j k = _
    rw [hM k hk, zby_app, hby k hk]
    by_cases h1 : k < t.length
    · rw [if_pos h1, if_neg (by omega)]
    · rw [if_neg h1]
      by_cases h2 : k < t.length + u.length
      · rw [if_pos ⟨by omega, h2⟩]
      · rw [if_neg (by omega), zby_out (by omega), zby_out (by omega)]
  · rcases List.mem_append.mp hx with h | h
    · exact h128 x h
    · exact hu8 x h
theorem z_b255 {t : List Nat} {k : Nat} (h : t.getD k 0 < 128) : zby t k &&& 255 = zby t k := by
  unfold zby
  generalize t.getD k 0 = x at h
  revert x
  decide +kernel
theorem z_bc {t : List Nat} {k : Nat} (h : t.getD k 0 < 128) : ((zby t k).toUInt32 % 65536).toInt32 = zby t k := by
  unfold zby
  generalize t.getD k 0 = x at h
  revert x
  decide +kernel
theorem z_bn {t : List Nat} {k : Nat} (h : t.getD k 0 < 128) : narrow .char (.int (zby t k)) = .int (zby t k) := by
  unfold zby
  generalize t.getD k 0 = x at h
  revert x
  decide +kernel
theorem z_bd {t : List Nat} {k : Nat} (h : ∀ x, x ∈ t → x < 128) : t.getD k 0 < 128 := by
  rw [List.getD_eq_getElem?_getD]
  cases hx : t[k]? with
  | none => exact Nat.zero_lt_succ _
  | some x => exact h x (List.mem_of_getElem? hx)
theorem z_byn : ∀ x, x < 128 → narrow .byte (.int (nI x)) = .int (nI x) ∧ (nI x).toInt8.toInt32 = nI x := by decide +kernel
set_option maxRecDepth 100000 in
theorem k_ensure {l : Launch} {G : zG} {b : Nat} {S : zS} {p j n : Nat} {t : List Nat} (h : zSB S p j n t) {k : Nat} (hk : k ≤ 1500) (hl : S.1.length + 1 < 1000000) : zM l G b yJ5_ensureCapacityInternal_d00df cJ5_ensureCapacityInternal_d00df 3 none 3 1 3002 [.ref p, .int (nI k)] S (fun r z => r = none ∧ ∃ j' n', zSB z p j' n' t ∧ k ≤ n' ∧ zGr (zE2 p j) 1 S z ∧ (j' = j ∨ S.1.length ≤ j')) := by
  obtain ⟨hq, hj, ha, hn, hcod, hcnt, hby, h128⟩ := id h
  refine zM.of miJ5_ensureCapacityInternal_d00df (Nat.le_of_ble_eq_true rfl) ?_
  intro p0 e s m args below meth c X hr hname
  refine a_aload_n X dJ5_ensureCapacityInternal_d00df_0 rfl ?_
  refine a_getr X lgJ5_15 hq rfl hj.2 dJ5_ensureCapacityInternal_d00df_1 ?_
  refine a_alen X ha (by decide) dJ5_ensureCapacityInternal_d00df_4 ?_
  refine a_aload_n X dJ5_ensureCapacityInternal_d00df_5 rfl ?_
  refine a_getc X lgJ5_22 hq rfl hcod dJ5_ensureCapacityInternal_d00df_6 ?_
  refine a_ishr X dJ5_ensureCapacityInternal_d00df_9 ?_
  rw [z_shr0]
  refine a_istore_n X dJ5_ensureCapacityInternal_d00df_10 (by decide) ?_
  refine a_iload_n X dJ5_ensureCapacityInternal_d00df_11 rfl ?_
  refine a_iload_n X dJ5_ensureCapacityInternal_d00df_12 rfl ?_
  refine a_isub X dJ5_ensureCapacityInternal_d00df_13 ?_
  rw [show Int32.ofNat n = nI n from rfl]
  refine a_if_le (tgt := 38) X dJ5_ensureCapacityInternal_d00df_14 (by decide) (fun h9 => ?_) (fun h9 => ?_)
  · exact a_vret X hr dJ5_ensureCapacityInternal_d00df_38 ⟨Nat.zero_le _, Nat.zero_le _⟩ ⟨rfl, j, n, h, (z_sle (by omega) (by omega)).mp h9, zGr.rf.up (fun _ q => q) (by omega), Or.inl rfl⟩
  · have hkn : n < k := Nat.not_le.mp (fun q => h9 ((z_sle (by omega) (by omega)).mpr q))
    refine a_aload_n X dJ5_ensureCapacityInternal_d00df_17 rfl ?_
    refine a_aload_n X dJ5_ensureCapacityInternal_d00df_18 rfl ?_
    refine a_getr X lgJ5_15 hq rfl hj.2 dJ5_ensureCapacityInternal_d00df_19 ?_
    refine a_aload_n X dJ5_ensureCapacityInternal_d00df_22 rfl ?_
    refine a_iload_n X dJ5_ensureCapacityInternal_d00df_23 rfl ?_
    refine a_invU X miJ5_newCapacity_0f7a4 lmJ5_104 hq rfl rfl (Nat.le_of_ble_eq_true rfl) ⟨by decide, by decide, by decide, by decide⟩ dJ5_ensureCapacityInternal_d00df_24 (k_newCapacity h ⟨hkn, hk⟩) (fun r z q => ?_)
    obtain ⟨rfl, rfl⟩ := q
    refine a_aload_n X dJ5_ensureCapacityInternal_d00df_27 rfl ?_
    refine a_getc X lgJ5_22 hq rfl hcod dJ5_ensureCapacityInternal_d00df_28 ?_
    refine a_ishl X dJ5_ensureCapacityInternal_d00df_31 ?_
    rw [z_shl0]
    refine a_callSx X dJ5_ensureCapacityInternal_d00df_32 miJ7_copyOf_9075b lmJ5_108 (k_copyOf ha hj.2 hby h128 hl hn.1 (k := n + (if k - n < n + 2 then n + 2 else k - n)) ⟨by split <;> omega, by split <;> omega⟩) rfl rfl (Nat.le_of_ble_eq_true rfl) ⟨by decide, by decide, by decide, by decide⟩ (fun r z q => ?_)
    obtain ⟨rfl, hz⟩ := q
    have hq2 : z.1[p]? = some (0, 10, [(2, j), (0, 0), (0, 0), (0, 0)]) := by rw [hz.1, List.getElem?_append_left h.lt.1]; exact hq
    obtain ⟨g1, g2⟩ := h.grown hz ⟨by split <;> omega, by split <;> omega⟩ (by omega)
    refine a_putR X (by omega) lgJ5_15 (fun _ => ⟨rfl, rfl⟩) hq2 (Nat.zero_lt_succ _) dJ5_ensureCapacityInternal_d00df_35 ?_
    exact a_vret X hr dJ5_ensureCapacityInternal_d00df_38 ⟨by decide, by decide⟩ ⟨rfl, _, _, g1, by split <;> omega, g2, Or.inr (Nat.le_refl _)⟩
set_option maxRecDepth 100000 in
theorem k_coder {l : Launch} {G : zG} {b : Nat} {S : zS} {v : Nat} {u : List Nat} (hv : zTx G S v u) : zM l G b yJ0_coder_7d493 cJ0_coder_7d493 1 (some .byte) 0 0 0 [.ref v] S (fun r z => r = some (.int 0) ∧ z = S) := by
  refine zM.of miJ0_coder_7d493 (Nat.le_of_ble_eq_true rfl) ?_
  intro p0 e s m args below meth c X hr hname
  refine a_scmp X lfJ0_38 dJ0_coder_7d493_0 ?_
  refine a_if_eq (tgt := 13) X dJ0_coder_7d493_3 (by decide) (fun h => absurd h (by decide)) (fun _ => ?_)
  refine a_aload_n X dJ0_coder_7d493_6 rfl ?_
  refine a_tcod X hv lfJ0_15 lgJ0_15 dJ0_coder_7d493_7 ?_
  refine a_goto (tgt := 14) X dJ0_coder_7d493_10 (by decide) ?_
  exact a_nret X (by decide) hr dJ0_coder_7d493_14 ⟨by decide, by decide⟩ ⟨rfl, rfl⟩
set_option maxRecDepth 100000 in
theorem k_isLatin1T {l : Launch} {G : zG} {b : Nat} {S : zS} {v : Nat} {u : List Nat} (hv : zTx G S v u) : zM l G b yJ0_isLatin1_aae02 cJ0_isLatin1_aae02 1 (some .boolean) 0 0 0 [.ref v] S (fun r z => r = some (.int 1) ∧ z = S) := by
  refine zM.of miJ0_isLatin1_aae02 (Nat.le_of_ble_eq_true rfl) ?_
  intro p0 e s m args below meth c X hr hname
  refine a_scmp X lfJ0_38 dJ0_isLatin1_aae02_0 ?_
  refine a_if_eq (tgt := 17) X dJ0_isLatin1_aae02_3 (by decide) (fun h => absurd h (by decide)) (fun _ => ?_)
  refine a_aload_n X dJ0_isLatin1_aae02_6 rfl ?_
  refine a_tcod X hv lfJ0_15 lgJ0_15 dJ0_isLatin1_aae02_7 ?_
  refine a_if_ne (tgt := 17) X dJ0_isLatin1_aae02_10 (by decide) (fun h => absurd rfl h) (fun _ => ?_)
  refine a_iconst (v := 1) X dJ0_isLatin1_aae02_13 (by decide) ?_
  refine a_goto (tgt := 18) X dJ0_isLatin1_aae02_14 (by decide) ?_
  exact a_nret X (by decide) hr dJ0_isLatin1_aae02_18 ⟨by decide, by decide⟩ ⟨rfl, rfl⟩
set_option maxRecDepth 100000 in
theorem k_length0 {l : Launch} {G : zG} {b : Nat} {S : zS} {v : Nat} {u : List Nat} (hv : zTx G S v u) : zM l G b yJ0_length_8abf5 cJ0_length_8abf5 1 (some .int) 1 0 0 [.ref v] S (fun r z => r = some (.int (nI u.length)) ∧ z = S) := by
  refine zM.of miJ0_length_8abf5 (Nat.le_of_ble_eq_true rfl) ?_
  intro p0 e s m args below meth c X hr hname
  refine a_aload_n X dJ0_length_8abf5_0 rfl ?_
  refine a_tval X hv lfJ0_9 lgJ0_9 dJ0_length_8abf5_1 (fun w hw => ?_)
  refine a_tlen X hw dJ0_length_8abf5_4 ?_
  refine a_aload_n X dJ0_length_8abf5_5 rfl ?_
  refine a_invT X miJ0_coder_7d493 lmJ0_335 hv rfl rfl rfl (Nat.le_of_ble_eq_true rfl) ⟨by decide, by decide, by decide, by decide⟩ dJ0_length_8abf5_6 (k_coder hv) (fun r z q => ?_)
  obtain ⟨rfl, rfl⟩ := q
  refine a_ishr X dJ0_length_8abf5_9 ?_
  rw [z_shr0]
  exact a_iret X hr dJ0_length_8abf5_10 ⟨by decide, by decide⟩ ⟨rfl, rfl⟩
set_option maxRecDepth 100000 in
theorem k_charAt1 {l : Launch} {G : zG} {b : Nat} {S : zS} {w n i : Nat} {u : List Nat} (hw : zBz G S w n u) (hi : i < n) (hn : n ≤ 9999) (h8 : u.getD i 0 < 128) : zM l G b yJ1_charAt_3b067 cJ1_charAt_3b067 2 (some .char) 2 0 0 [.ref w, .int (nI i)] S (fun r z => r = some (.int (zby u i)) ∧ z = S) := by
  refine zM.of miJ1_charAt_3b067 (Nat.le_of_ble_eq_true rfl) ?_
  intro p0 e s m args below meth c X hr hname
  refine a_iload_n X dJ1_charAt_3b067_0 rfl ?_
  refine a_aload_n X dJ1_charAt_3b067_1 rfl ?_
  refine a_tlen X hw dJ1_charAt_3b067_2 ?_
  refine a_callSu X dJ1_charAt_3b067_3 miJ0_checkIndex_df160 lmJ1_9 (c_checkIndex (nI_pos (by omega)) ((nI_ltI (by omega) (by omega)).mpr hi)) rfl rfl (Nat.le_of_ble_eq_true rfl) ⟨by decide, by decide, by decide, by decide⟩ ?_
  refine a_aload_n X dJ1_charAt_3b067_6 rfl ?_
  refine a_iload_n X dJ1_charAt_3b067_7 rfl ?_
  refine a_tld X hw hi (by omega) dJ1_charAt_3b067_8 ?_
  refine a_sipush (v := 255) X dJ1_charAt_3b067_9 (by decide) ?_
  refine a_iand X dJ1_charAt_3b067_12 ?_
  rw [show zby u i &&& 255 = zby u i from z_b255 h8]
  refine a_i2c X dJ1_charAt_3b067_13 ?_
  rw [show ((zby u i).toUInt32 % 65536).toInt32 = zby u i from z_bc h8]
  exact a_nret X (z_bn h8) hr dJ1_charAt_3b067_14 ⟨by decide, by decide⟩ ⟨rfl, rfl⟩
set_option maxRecDepth 100000 in
theorem k_charAt {l : Launch} {G : zG} {b : Nat} {S : zS} {v : Nat} {u : List Nat} (hv : zTx G S v u) {i : Nat} (hi : i < u.length) (hn : u.length ≤ 9999) (h8 : u.getD i 0 < 128) : zM l G b yJ0_charAt_5068e cJ0_charAt_5068e 2 (some .char) 3 0 0 [.ref v, .int (nI i)] S (fun r z => r = some (.int (zby u i)) ∧ z = S) := by
  refine zM.of miJ0_charAt_5068e (Nat.le_of_ble_eq_true rfl) ?_
  intro p0 e s m args below meth c X hr hname
  refine a_aload_n X dJ0_charAt_5068e_0 rfl ?_
  refine a_invT X miJ0_isLatin1_aae02 lmJ0_492 hv rfl rfl rfl (Nat.le_of_ble_eq_true rfl) ⟨by decide, by decide, by decide, by decide⟩ dJ0_charAt_5068e_1 (k_isLatin1T hv) (fun r z q => ?_)
  obtain ⟨rfl, rfl⟩ := q
  refine a_if_eq (tgt := 16) X dJ0_charAt_5068e_4 (by decide) (fun h => absurd h (by decide)) (fun _ => ?_)
  refine a_aload_n X dJ0_charAt_5068e_7 rfl ?_
  refine a_tval X hv lfJ0_9 lgJ0_9 dJ0_charAt_5068e_8 (fun w hw => ?_)
  refine a_iload_n X dJ0_charAt_5068e_11 rfl ?_
  refine a_callSv X dJ0_charAt_5068e_12 miJ1_charAt_3b067 lmJ0_495 (k_charAt1 hw hi hn h8) rfl rfl (Nat.le_of_ble_eq_true rfl) ⟨by decide, by decide, by decide, by decide⟩ ?_
  exact a_nret X (z_bn h8) hr dJ0_charAt_5068e_15 ⟨by decide, by decide⟩ ⟨rfl, rfl⟩
set_option maxRecDepth 100000 in
theorem k_getBytes {l : Launch} {G : zG} {b : Nat} {S : zS} {v : Nat} {u : List Nat} (hv : zTx G S v u) (h8 : ∀ x, x ∈ u → x < 128) {P n dp : Nat} (hP : S.1[P]? = some (2, n, [])) (hn : dp + u.length ≤ n ∧ n ≤ 3002) : zM l G b yJ0_getBytes_840e7 cJ0_getBytes_840e7 4 none 1 0 0 [.ref v, .ref P, .int (nI dp), .int 0] S (fun r z => r = none ∧ z = (S.1, zct S.2.1 P dp u.length u, S.2.2)) := by
  refine zM.of miJ0_getBytes_840e7 (Nat.le_of_ble_eq_true rfl) ?_
  intro p0 e s m args below meth c X hr hname
  refine a_aload_n X dJ0_getBytes_840e7_0 rfl ?_
  refine a_invT X miJ0_coder_7d493 lmJ0_335 hv rfl rfl rfl (Nat.le_of_ble_eq_true rfl) ⟨by decide, by decide, by decide, by decide⟩ dJ0_getBytes_840e7_1 (k_coder hv) (fun r z q => ?_)
  obtain ⟨rfl, rfl⟩ := q
  refine a_iload_n X dJ0_getBytes_840e7_4 rfl ?_
  refine a_icmp_ne (tgt := 28) X dJ0_getBytes_840e7_5 (by decide) (fun h => absurd rfl h) (fun _ => ?_)
  refine a_aload_n X dJ0_getBytes_840e7_8 rfl ?_
  refine a_tval X hv lfJ0_9 lgJ0_9 dJ0_getBytes_840e7_9 (fun w hw => ?_)
  refine a_iconst (v := 0) X dJ0_getBytes_840e7_12 (by decide) ?_
  refine a_aload_n X dJ0_getBytes_840e7_13 rfl ?_
  refine a_iload_n X dJ0_getBytes_840e7_14 rfl ?_
  refine a_iload_n X dJ0_getBytes_840e7_15 rfl ?_
  refine a_ishl X dJ0_getBytes_840e7_16 ?_
  rw [z_shl0]
  refine a_aload_n X dJ0_getBytes_840e7_17 rfl ?_
  refine a_tval X hv lfJ0_9 lgJ0_9 dJ0_getBytes_840e7_18 (fun w2 hw2 => ?_)
  refine a_tlen X hw2 dJ0_getBytes_840e7_21 ?_
  refine a_copyT X lmJ0_212 hw h8 hP ⟨Nat.le_refl _, hn.1, by omega, by omega⟩ ⟨by decide, by decide⟩ dJ0_getBytes_840e7_22 ?_
  refine a_goto (tgt := 43) X dJ0_getBytes_840e7_25 (by decide) ?_
  exact a_vret X hr dJ0_getBytes_840e7_43 ⟨by decide, by decide⟩ ⟨rfl, rfl⟩
set_option maxRecDepth 100000 in
theorem k_inflate {l : Launch} {G : zG} {b : Nat} {S : zS} {p j n : Nat} {t : List Nat} (h : zSB S p j n t) {v : Nat} {u : List Nat} (hv : zTx G S v u) : zM l G b yJ5_inflateIfNeededFor_a7421 cJ5_inflateIfNeededFor_a7421 2 none 1 0 0 [.ref p, .ref v] S (fun r z => r = none ∧ z = S) := by
  obtain ⟨hq, hj, ha, hn, hcod, hcnt, hby, h128⟩ := id h
  refine zM.of miJ5_inflateIfNeededFor_a7421 (Nat.le_of_ble_eq_true rfl) ?_
  intro p0 e s m args below meth c X hr hname
  refine a_scmp X lfJ5_18 dJ5_inflateIfNeededFor_a7421_0 ?_
  refine a_if_eq (tgt := 21) X dJ5_inflateIfNeededFor_a7421_3 (by decide) (fun h => absurd h (by decide)) (fun _ => ?_)
  refine a_aload_n X dJ5_inflateIfNeededFor_a7421_6 rfl ?_
  refine a_getc X lgJ5_22 hq rfl hcod dJ5_inflateIfNeededFor_a7421_7 ?_
  refine a_aload_n X dJ5_inflateIfNeededFor_a7421_10 rfl ?_
  refine a_invT X miJ0_coder_7d493 lmJ5_40 hv rfl rfl rfl (Nat.le_of_ble_eq_true rfl) ⟨by decide, by decide, by decide, by decide⟩ dJ5_inflateIfNeededFor_a7421_11 (k_coder hv) (fun r z q => ?_)
  obtain ⟨rfl, rfl⟩ := q
  refine a_icmp_eq (tgt := 21) X dJ5_inflateIfNeededFor_a7421_14 (by decide) (fun _ => ?_) (fun h => absurd rfl h)
  exact a_vret X hr dJ5_inflateIfNeededFor_a7421_21 ⟨by decide, by decide⟩ ⟨rfl, rfl⟩
set_option maxRecDepth 100000 in
theorem k_putStringAt {l : Launch} {G : zG} {b : Nat} {S : zS} {p j n : Nat} {t : List Nat} (h : zSB S p j n t) {v : Nat} {u : List Nat} (hv : zTx G S v u) (h8 : ∀ x, x ∈ u → x < 128) (hu : t.length + u.length ≤ n) : zM l G b yJ5_putStringAt_47b60 cJ5_putStringAt_47b60 3 none 2 0 0 [.ref p, .int (nI t.length), .ref v] S (fun r z => r = none ∧ z = (S.1, zct S.2.1 j t.length u.length u, S.2.2)) := by
  obtain ⟨hq, hj, ha, hn, hcod, hcnt, hby, h128⟩ := id h
  refine zM.of miJ5_putStringAt_47b60 (Nat.le_of_ble_eq_true rfl) ?_
  intro p0 e s m args below meth c X hr hname
  refine a_aload_n X dJ5_putStringAt_47b60_0 rfl ?_
  refine a_aload_n X dJ5_putStringAt_47b60_1 rfl ?_
  refine a_invU X miJ5_inflateIfNeededFor_a7421 lmJ5_397 hq rfl rfl (Nat.le_of_ble_eq_true rfl) ⟨by decide, by decide, by decide, by decide⟩ dJ5_putStringAt_47b60_2 (k_inflate h hv) (fun r z q => ?_)
  obtain ⟨rfl, rfl⟩ := q
  refine a_aload_n X dJ5_putStringAt_47b60_5 rfl ?_
  refine a_aload_n X dJ5_putStringAt_47b60_6 rfl ?_
  refine a_getr X lgJ5_15 hq rfl hj.2 dJ5_putStringAt_47b60_7 ?_
  refine a_iload_n X dJ5_putStringAt_47b60_10 rfl ?_
  refine a_aload_n X dJ5_putStringAt_47b60_11 rfl ?_
  refine a_getc X lgJ5_22 hq rfl hcod dJ5_putStringAt_47b60_12 ?_
  refine a_invT X miJ0_getBytes_840e7 lmJ5_399 hv rfl rfl rfl (Nat.le_of_ble_eq_true rfl) ⟨by decide, by decide, by decide, by decide⟩ dJ5_putStringAt_47b60_15 (k_getBytes hv h8 ha ⟨hu, hn.2⟩) (fun r z q => ?_)
  obtain ⟨rfl, rfl⟩ := q
  exact a_vret X hr dJ5_putStringAt_47b60_18 ⟨by decide, by decide⟩ ⟨rfl, rfl⟩
set_option maxRecDepth 100000 in
theorem k_appS {l : Launch} {G : zG} {b : Nat} {S : zS} {p j n : Nat} {t : List Nat} (h : zSB S p j n t) {v : Nat} {u : List Nat} (hv : zTx G S v u) (h8 : ∀ x, x ∈ u → x < 128) (hvp : v < 1000000 → ∀ i, S.1[v]? = some (0, 9, [(2, i), (0, 0), (0, 0), (0, 0)]) → ¬ i = j) (hu : t.length + u.length ≤ 1500) (hl : S.1.length + 1 < 1000000) : zM l G b yJ5_append_cf1ce cJ5_append_cf1ce 3 (some (.object "java/lang/AbstractStringBuilder")) 4 1 3002 [.ref p, .ref v] S (fun r z => r = some (.ref p) ∧ ∃ j' n', zSB z p j' n' (t ++ u) ∧ zGr (zE2 p j) 1 S z) := by
  obtain ⟨hq, hj, ha, hn, hcod, hcnt, hby, h128⟩ := id h
  refine zM.of miJ5_append_cf1ce (Nat.le_of_ble_eq_true rfl) ?_
  intro p0 e s m args below meth c X hr hname
  refine a_aload_n X dJ5_append_cf1ce_0 rfl ?_
  refine a_ifnonnull (tgt := 9) X dJ5_append_cf1ce_1 (by decide) ?_
  refine a_aload_n X dJ5_append_cf1ce_9 rfl ?_
  refine a_invT X miJ0_length_8abf5 lmJ5_32 hv rfl rfl rfl (Nat.le_of_ble_eq_true rfl) ⟨by decide, by decide, by decide, by decide⟩ dJ5_append_cf1ce_10 (k_length0 hv) (fun r z q => ?_)
  obtain ⟨rfl, rfl⟩ := q
  refine a_istore_n X dJ5_append_cf1ce_13 (by decide) ?_
  refine a_aload_n X dJ5_append_cf1ce_14 rfl ?_
  refine a_aload_n X dJ5_append_cf1ce_15 rfl ?_
  refine a_getc X lgJ5_79 hq rfl hcnt dJ5_append_cf1ce_16 ?_
  refine a_iload_n X dJ5_append_cf1ce_19 rfl ?_
  refine a_iadd X dJ5_append_cf1ce_20 ?_
  rw [z_nIadd (by omega)]
  refine a_invU X miJ5_ensureCapacityInternal_d00df lmJ5_100 hq rfl rfl (Nat.le_of_ble_eq_true rfl) ⟨by decide, by decide, by decide, by decide⟩ dJ5_append_cf1ce_21 (k_ensure h (k := t.length + u.length) (by omega) hl) (fun r z q => ?_)
  obtain ⟨rfl, j2, n2, h2, hk2, hg, hj2⟩ := q
  have hv2 := hv.gr hg (hv.ap h hvp)
  clear hq hj ha hn hcod hcnt hby h128
  obtain ⟨hq, hj, ha, hn, hcod, hcnt, hby, h128⟩ := id h2
  refine a_aload_n X dJ5_append_cf1ce_24 rfl ?_
  refine a_aload_n X dJ5_append_cf1ce_25 rfl ?_
  refine a_getc X lgJ5_79 hq rfl hcnt dJ5_append_cf1ce_26 ?_
  refine a_aload_n X dJ5_append_cf1ce_29 rfl ?_
  refine a_invU X miJ5_putStringAt_47b60 lmJ5_208 hq rfl rfl (Nat.le_of_ble_eq_true rfl) ⟨by decide, by decide, by decide, by decide⟩ dJ5_append_cf1ce_30 (k_putStringAt h2 hv2 h8 hk2) (fun r z2 q => ?_)
  obtain ⟨rfl, rfl⟩ := q
  refine a_aload_n X dJ5_append_cf1ce_33 rfl ?_
  refine a_dup X dJ5_append_cf1ce_34 rfl ?_
  refine a_getc (x := nI t.length) X lgJ5_79 hq rfl ((congrFun (zct_row (by omega)) 3).trans hcnt) dJ5_append_cf1ce_35 ?_
  refine a_iload_n X dJ5_append_cf1ce_38 rfl ?_
  refine a_iadd X dJ5_append_cf1ce_39 ?_
  rw [z_nIadd (by omega)]
  refine a_puti X lgJ5_79 hq rfl dJ5_append_cf1ce_40 ?_
  refine a_aload_n X dJ5_append_cf1ce_43 rfl ?_
  have G1 : zSB (z.1, zu (zct z.2.1 j2 t.length u.length u) p 3 (nI (t.length + u.length)), z.2.2) p j2 n2 (t ++ u) ∧ zGr (zE2 p j2) 0 z (z.1, zu (zct z.2.1 j2 t.length u.length u) p 3 (nI (t.length + u.length)), z.2.2) := by
    refine h2.laid (M := zu (zct z.2.1 j2 t.length u.length u) p 3 (nI (t.length + u.length))) hk2 h8 (fun k hk => ?_) ?_ zu_eq (fun a h9 h10 => ?_)
    · rw [zu_ne (by omega)]
      unfold zct
      by_cases h9 : t.length ≤ k ∧ k < t.length + u.length
      · rw [if_pos ⟨rfl, h9⟩, if_pos h9]
      · rw [if_neg (fun q => h9 q.2), if_neg h9]
    · rw [zu_ne (by omega)]
      exact congrFun (zct_row (by omega)) 1
    · exact (zu_row h9).trans (zct_row h10)
  obtain ⟨g1, g2⟩ := G1
  exact a_aret X hr (Or.inl ⟨_, rfl⟩) (Or.inr ⟨_, rfl⟩) dJ5_append_cf1ce_44 ⟨by decide, by decide⟩ ⟨rfl, j2, n2, g1, (hg.tr g2 (fun a h1 h3 => by rcases h3 with h3 | h3; exact Or.inl h3; rcases hj2 with h4 | h4; exact Or.inr (h3.trans h4); omega)).up (fun _ q => q) (by omega)⟩
set_option maxRecDepth 100000 in
theorem k_canEncode {l : Launch} {G : zG} {b : Nat} {S : zS} {x : Nat} (hx : x < 128) : zM l G b yJ1_canEncode_fc78d cJ1_canEncode_fc78d 1 (some .boolean) 0 0 0 [.int (nI x)] S (fun r z => r = some (.int 1) ∧ z = S) := by
  refine zM.of miJ1_canEncode_fc78d (Nat.le_of_ble_eq_true rfl) ?_
  intro p0 e s m args below meth c X hr hname
  refine a_iload_n X dJ1_canEncode_fc78d_0 rfl ?_
  refine a_sipush (v := 255) X dJ1_canEncode_fc78d_1 (by decide) ?_
  refine a_icmp_gt (tgt := 11) X dJ1_canEncode_fc78d_4 (by decide) (fun h => absurd ((nI_ltI (a := 255) (b := x) (by omega) (by omega)).mp h) (by omega)) (fun _ => ?_)
  refine a_iconst (v := 1) X dJ1_canEncode_fc78d_7 (by decide) ?_
  refine a_goto (tgt := 12) X dJ1_canEncode_fc78d_8 (by decide) ?_
  exact a_zret X (by decide) hr dJ1_canEncode_fc78d_12 ⟨by decide, by decide⟩ ⟨rfl, rfl⟩
set_option maxRecDepth 100000 in
theorem k_appC {l : Launch} {G : zG} {b : Nat} {S : zS} {p j n : Nat} {t : List Nat} (h : zSB S p j n t) {x : Nat} (hx : x < 128) (hu : t.length + 1 ≤ 1500) (hl : S.1.length + 1 < 1000000) : zM l G b yJ5_append_3fe6f cJ5_append_3fe6f 2 (some (.object "java/lang/AbstractStringBuilder")) 4 1 3002 [.ref p, .int (nI x)] S (fun r z => r = some (.ref p) ∧ ∃ j' n', zSB z p j' n' (t ++ [x]) ∧ zGr (zE2 p j) 1 S z) := by
  obtain ⟨hq, hj, ha, hn, hcod, hcnt, hby, h128⟩ := id h
  refine zM.of miJ5_append_3fe6f (Nat.le_of_ble_eq_true rfl) ?_
  intro p0 e s m args below meth c X hr hname
  refine a_aload_n X dJ5_append_3fe6f_0 rfl ?_
  refine a_aload_n X dJ5_append_3fe6f_1 rfl ?_
  refine a_getc X lgJ5_79 hq rfl hcnt dJ5_append_3fe6f_2 ?_
  refine a_iconst (v := 1) X dJ5_append_3fe6f_5 (by decide) ?_
  refine a_iadd X dJ5_append_3fe6f_6 ?_
  rw [nI_1]
  refine a_invU X miJ5_ensureCapacityInternal_d00df lmJ5_100 hq rfl rfl (Nat.le_of_ble_eq_true rfl) ⟨by decide, by decide, by decide, by decide⟩ dJ5_append_3fe6f_7 (k_ensure h (k := t.length + 1) (by omega) hl) (fun r z q => ?_)
  obtain ⟨rfl, j2, n2, h2, hk2, hg, hj2⟩ := q
  clear hq hj ha hn hcod hcnt hby h128
  obtain ⟨hq, hj, ha, hn, hcod, hcnt, hby, h128⟩ := id h2
  refine a_aload_n X dJ5_append_3fe6f_10 rfl ?_
  refine a_invU X miJ5_isLatin1_aae02 lmJ5_83 hq rfl rfl (Nat.le_of_ble_eq_true rfl) ⟨by decide, by decide, by decide, by decide⟩ dJ5_append_3fe6f_11 (k_isLatin1 h2) (fun r z2 q => ?_)
  obtain ⟨rfl, rfl⟩ := q
  refine a_if_eq (tgt := 45) X dJ5_append_3fe6f_14 (by decide) (fun h => absurd h (by decide)) (fun _ => ?_)
  refine a_iload_n X dJ5_append_3fe6f_17 rfl ?_
  refine a_callSv X dJ5_append_3fe6f_18 miJ1_canEncode_fc78d lmJ5_191 (k_canEncode hx) rfl rfl (Nat.le_of_ble_eq_true rfl) ⟨by decide, by decide, by decide, by decide⟩ ?_
  refine a_if_eq (tgt := 45) X dJ5_append_3fe6f_21 (by decide) (fun h => absurd h (by decide)) (fun _ => ?_)
  refine a_aload_n X dJ5_append_3fe6f_24 rfl ?_
  refine a_getr X lgJ5_15 hq rfl hj.2 dJ5_append_3fe6f_25 ?_
  refine a_aload_n X dJ5_append_3fe6f_28 rfl ?_
  refine a_dup X dJ5_append_3fe6f_29 rfl ?_
  refine a_getc X lgJ5_79 hq rfl hcnt dJ5_append_3fe6f_30 ?_
  refine a_dup_x1 X rfl rfl dJ5_append_3fe6f_33 ?_
  refine a_iconst (v := 1) X dJ5_append_3fe6f_34 (by decide) ?_
  refine a_iadd X dJ5_append_3fe6f_35 ?_
  rw [nI_1]
  refine a_puti X lgJ5_79 hq rfl dJ5_append_3fe6f_36 ?_
  refine a_iload_n X dJ5_append_3fe6f_39 rfl ?_
  refine a_i2b X dJ5_append_3fe6f_40 ?_
  rw [(z_byn x hx).2]
  refine a_bastore X (z_byn x hx).1 ha (vp_in_nI (by omega) (by omega)) dJ5_append_3fe6f_41 ?_
  rw [nI_clamp (by omega)]
  refine a_goto (tgt := 75) X dJ5_append_3fe6f_42 (by decide) ?_
  refine a_aload_n X dJ5_append_3fe6f_75 rfl ?_
  have G1 : zSB (z2.1, zu (zu z2.2.1 p 3 (nI (t.length + 1))) j2 t.length (nI x), z2.2.2) p j2 n2 (t ++ [x]) ∧ zGr (zE2 p j2) 0 z2 (z2.1, zu (zu z2.2.1 p 3 (nI (t.length + 1))) j2 t.length (nI x), z2.2.2) := by
    refine h2.laid (u := [x]) (M := zu (zu z2.2.1 p 3 (nI (t.length + 1))) j2 t.length (nI x)) hk2 (fun y hy => by rw [List.mem_singleton.mp hy]; exact hx) (fun k hk => ?_) ?_ ?_ (fun a h9 h10 => ?_)
    · by_cases h9 : k = t.length
      · subst h9
        rw [zu_eq, if_pos ⟨Nat.le_refl _, by show _ < _ + 1; omega⟩, Nat.sub_self]
        rfl
      · rw [zu_ne (by omega), zu_ne (by omega), if_neg (fun q => h9 (by have : k < t.length + 1 := q.2; omega))]
    · rw [zu_ne (by omega), zu_ne (by omega)]
    · rw [zu_ne (by omega), zu_eq]
      rfl
    · exact (zu_row h10).trans (zu_row h9)
  obtain ⟨g1, g2⟩ := G1
  exact a_aret X hr (Or.inl ⟨_, rfl⟩) (Or.inr ⟨_, rfl⟩) dJ5_append_3fe6f_76 ⟨by decide, by decide⟩ ⟨rfl, j2, n2, g1, (hg.tr g2 (fun a h1 h3 => by rcases h3 with h3 | h3; exact Or.inl h3; rcases hj2 with h4 | h4; exact Or.inr (h3.trans h4); omega)).up (fun _ q => q) (by omega)⟩
