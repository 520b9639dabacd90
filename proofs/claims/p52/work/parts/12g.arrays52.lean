/-! p52: StringBuilder and String, as the JDK runs them: one contract a method -/
set_option maxRecDepth 100000 in
theorem k_isLatin1 {l : Launch} {G : zG} {b : Nat} {S : zS} {p j n : Nat} {t : List Nat} (h : zSB S p j n t) : zM l G b yJ5_isLatin1_aae02 cJ5_isLatin1_aae02 1 (some .boolean) 0 0 0 [.ref p] S (fun r z => r = some (.int 1) ∧ z = S) := by
  obtain ⟨hq, hj, ha, hn, hcod, hcnt, hby, h128⟩ := id h
  refine zM.of miJ5_isLatin1_aae02 (Nat.le_of_ble_eq_true rfl) ?_
  intro p0 e s m args below meth c X hr hname
  refine a_scmp X lfJ5_18 dJ5_isLatin1_aae02_0 ?_
  refine a_if_eq (tgt := 17) X dJ5_isLatin1_aae02_3 (by decide) (fun h => absurd h (by decide)) (fun _ => ?_)
  refine a_aload_n X dJ5_isLatin1_aae02_6 rfl ?_
  refine a_getc X lgJ5_22 hq rfl hcod dJ5_isLatin1_aae02_7 ?_
  refine a_if_ne (tgt := 17) X dJ5_isLatin1_aae02_10 (by decide) (fun h => absurd rfl h) (fun _ => ?_)
  refine a_iconst (v := 1) X dJ5_isLatin1_aae02_13 (by decide) ?_
  refine a_goto (tgt := 18) X dJ5_isLatin1_aae02_14 (by decide) ?_
  exact a_nret X (by decide) hr dJ5_isLatin1_aae02_18 ⟨by decide, by decide⟩ ⟨rfl, rfl⟩
set_option maxRecDepth 100000 in
theorem k_getValue {l : Launch} {G : zG} {b : Nat} {S : zS} {p j n : Nat} {t : List Nat} (h : zSB S p j n t) : zM l G b yJ5_getValue_6d5f1 cJ5_getValue_6d5f1 1 (some (.array .byte)) 0 0 0 [.ref p] S (fun r z => r = some (.ref j) ∧ z = S) := by
  obtain ⟨hq, hj, ha, hn, hcod, hcnt, hby, h128⟩ := id h
  refine zM.of miJ5_getValue_6d5f1 (Nat.le_of_ble_eq_true rfl) ?_
  intro p0 e s m args below meth c X hr hname
  refine a_aload_n X dJ5_getValue_6d5f1_0 rfl ?_
  refine a_getr X lgJ5_15 hq rfl hj.2 dJ5_getValue_6d5f1_1 ?_
  exact a_aret X hr (by first | exact Or.inl ⟨_, rfl⟩ | exact Or.inr ⟨_, rfl⟩) (Or.inr ⟨_, rfl⟩) dJ5_getValue_6d5f1_4 ⟨by decide, by decide⟩ ⟨rfl, rfl⟩
set_option maxRecDepth 100000 in
theorem k_length5 {l : Launch} {G : zG} {b : Nat} {S : zS} {p j n : Nat} {t : List Nat} (h : zSB S p j n t) : zM l G b yJ5_length_8abf5 cJ5_length_8abf5 1 (some .int) 0 0 0 [.ref p] S (fun r z => r = some (.int (nI t.length)) ∧ z = S) := by
  obtain ⟨hq, hj, ha, hn, hcod, hcnt, hby, h128⟩ := id h
  refine zM.of miJ5_length_8abf5 (Nat.le_of_ble_eq_true rfl) ?_
  intro p0 e s m args below meth c X hr hname
  refine a_aload_n X dJ5_length_8abf5_0 rfl ?_
  refine a_getc X lgJ5_79 hq rfl hcnt dJ5_length_8abf5_1 ?_
  exact a_iret X hr dJ5_length_8abf5_4 ⟨by decide, by decide⟩ ⟨rfl, rfl⟩
set_option maxRecDepth 100000 in
theorem k_length4 {l : Launch} {G : zG} {b : Nat} {S : zS} {p j n : Nat} {t : List Nat} (h : zSB S p j n t) : zM l G b yJ4_length_8abf5 cJ4_length_8abf5 1 (some .int) 1 0 0 [.ref p] S (fun r z => r = some (.int (nI t.length)) ∧ z = S) := by
  obtain ⟨hq, hj, ha, hn, hcod, hcnt, hby, h128⟩ := id h
  refine zM.of miJ4_length_8abf5 (Nat.le_of_ble_eq_true rfl) ?_
  intro p0 e s m args below meth c X hr hname
  refine a_aload_n X dJ4_length_8abf5_0 rfl ?_
  refine a_invSU X miJ5_length_8abf5 lmJ4_343 hq rfl rfl (Nat.le_of_ble_eq_true rfl) ⟨by decide, by decide, by decide, by decide⟩ dJ4_length_8abf5_1 (k_length5 h) (fun r z q => ?_)
  obtain ⟨rfl, rfl⟩ := q
  exact a_iret X hr dJ4_length_8abf5_4 ⟨by decide, by decide⟩ ⟨rfl, rfl⟩
theorem z_mx {n k : Nat} (hn : n ≤ 3002) (hk : k ≤ 3002) : (if nI k < nI n then nI n else nI k) = nI (if k < n then n else k) := by
  by_cases h : k < n
  · rw [if_pos h, if_pos ((nI_ltI (by omega) (by omega)).mpr h)]
  · rw [if_neg h, if_neg (fun q => h ((nI_ltI (by omega) (by omega)).mp q))]
theorem z_mn {n k : Nat} (hn : n ≤ 9999) (hk : k ≤ 9999) : (if nI k < nI n then nI k else nI n) = nI (if k < n then k else n) := by
  by_cases h : k < n
  · rw [if_pos h, if_pos ((nI_ltI (by omega) (by omega)).mpr h)]
  · rw [if_neg h, if_neg (fun q => h ((nI_ltI (by omega) (by omega)).mp q))]
theorem z_nIadd {a c : Nat} (h : a + c < 2 ^ 31) : nI a + nI c = nI (a + c) := nI_add a c
theorem z_nIsub {a c : Nat} (h : c ≤ a) (ha : a < 2 ^ 31) : nI a - nI c = nI (a - c) := by
  apply Int32.toInt_inj.mp
  rw [z5_sub (by rw [nI_toInt (by omega), nI_toInt (by omega)]; omega) (by rw [nI_toInt (by omega), nI_toInt (by omega)]; omega), nI_toInt (by omega), nI_toInt (by omega), nI_toInt (by omega)]
  omega
set_option maxRecDepth 100000 in
theorem k_newLength {l : Launch} {G : zG} {b : Nat} {S : zS} {n g q : Nat} (hn : n ≤ 1500) (hg : g ≤ 3002) (hq9 : q ≤ 3002) (h1 : 1 ≤ q) : zM l G b yJ8_newLength_cabcc cJ8_newLength_cabcc 4 (some .int) 1 0 0 [.int (nI n), .int (nI g), .int (nI q)] S (fun r z => r = some (.int (nI (n + (if g < q then q else g)))) ∧ z = S) := by
  refine zM.of miJ8_newLength_cabcc (Nat.le_of_ble_eq_true rfl) ?_
  intro p0 e s m args below meth c X hr hname
  refine a_iload_n X dJ8_newLength_cabcc_0 rfl ?_
  refine a_iload_n X dJ8_newLength_cabcc_1 rfl ?_
  refine a_iload_n X dJ8_newLength_cabcc_2 rfl ?_
  refine a_mmax X lmJ8_194 zmath1 zmath0 zmathc1 ⟨by decide, (Nat.le_of_ble_eq_true rfl), by decide, by decide⟩ dJ8_newLength_cabcc_3 ?_
  rw [z_mx hq9 hg]
  refine a_iadd X dJ8_newLength_cabcc_6 ?_
  rw [z_nIadd (by split <;> omega)]
  refine a_istore_n X dJ8_newLength_cabcc_7 (by decide) ?_
  refine a_iconst (v := 0) X dJ8_newLength_cabcc_8 (by decide) ?_
  refine a_iload_n X dJ8_newLength_cabcc_9 rfl ?_
  refine a_icmp_ge (tgt := 21) X dJ8_newLength_cabcc_10 (by decide) (fun h => absurd ((nI_leI (a := n + (if g < q then q else g)) (b := 0) (by split <;> omega) (by omega)).mp h) (by split <;> omega)) (fun _ => ?_)
  refine a_iload_n X dJ8_newLength_cabcc_13 rfl ?_
  refine a_ldc X dJ8_newLength_cabcc_14 lkJ8_200 ?_
  refine a_icmp_gt (tgt := 21) X dJ8_newLength_cabcc_16 (by decide) (fun h => absurd (Int32.lt_iff_toInt_lt.mp h) (by rw [nI_toInt (by split <;> omega), show (2147483639 : Int32).toInt = 2147483639 by decide]; split <;> omega)) (fun _ => ?_)
  refine a_iload_n X dJ8_newLength_cabcc_19 rfl ?_
  exact a_iret X hr dJ8_newLength_cabcc_20 ⟨by decide, by decide⟩ ⟨rfl, rfl⟩
set_option maxRecDepth 100000 in
theorem k_newCapacity {l : Launch} {G : zG} {b : Nat} {S : zS} {p j n : Nat} {t : List Nat} (h : zSB S p j n t) {k : Nat} (hk : n < k ∧ k ≤ 1500) : zM l G b yJ5_newCapacity_0f7a4 cJ5_newCapacity_0f7a4 6 (some .int) 2 0 0 [.ref p, .int (nI k)] S (fun r z => r = some (.int (nI (n + (if k - n < n + 2 then n + 2 else k - n)))) ∧ z = S) := by
  obtain ⟨hq, hj, ha, hn, hcod, hcnt, hby, h128⟩ := id h
  refine zM.of miJ5_newCapacity_0f7a4 (Nat.le_of_ble_eq_true rfl) ?_
  intro p0 e s m args below meth c X hr hname
  refine a_aload_n X dJ5_newCapacity_0f7a4_0 rfl ?_
  refine a_getr X lgJ5_15 hq rfl hj.2 dJ5_newCapacity_0f7a4_1 ?_
  refine a_alen X ha (by decide) dJ5_newCapacity_0f7a4_4 ?_
  refine a_istore_n X dJ5_newCapacity_0f7a4_5 (by decide) ?_
  refine a_iload_n X dJ5_newCapacity_0f7a4_6 rfl ?_
  refine a_aload_n X dJ5_newCapacity_0f7a4_7 rfl ?_
  refine a_getc X lgJ5_22 hq rfl hcod dJ5_newCapacity_0f7a4_8 ?_
  refine a_ishl X dJ5_newCapacity_0f7a4_11 ?_
  rw [z_shl0]
  refine a_istore_n X dJ5_newCapacity_0f7a4_12 (by decide) ?_
  refine a_iload_n X dJ5_newCapacity_0f7a4_13 rfl ?_
  refine a_iload_n X dJ5_newCapacity_0f7a4_14 rfl ?_
  refine a_isub X dJ5_newCapacity_0f7a4_15 ?_
  rw [show Int32.ofNat n = nI n from rfl, z_nIsub (by omega) (by omega)]
  refine a_istore X dJ5_newCapacity_0f7a4_16 (by decide) ?_
  refine a_iload_n X dJ5_newCapacity_0f7a4_18 rfl ?_
  refine a_iload X dJ5_newCapacity_0f7a4_19 rfl ?_
  refine a_iload_n X dJ5_newCapacity_0f7a4_21 rfl ?_
  refine a_iconst (v := 2) X dJ5_newCapacity_0f7a4_22 (by decide) ?_
  refine a_aload_n X dJ5_newCapacity_0f7a4_23 rfl ?_
  refine a_getc X lgJ5_22 hq rfl hcod dJ5_newCapacity_0f7a4_24 ?_
  refine a_ishl X dJ5_newCapacity_0f7a4_27 ?_
  rw [show (2 : Int32) <<< ((0 : Int32) &&& 31) = nI 2 by decide]
  refine a_iadd X dJ5_newCapacity_0f7a4_28 ?_
  rw [z_nIadd (by omega)]
  refine a_callSv X dJ5_newCapacity_0f7a4_29 miJ8_newLength_cabcc lmJ5_114 (k_newLength (n := n) (g := k - n) (q := n + 2) (by omega) (by omega) (by omega) (by omega)) rfl rfl (Nat.le_of_ble_eq_true rfl) ⟨by decide, by decide, by decide, by decide⟩ ?_
  refine a_istore X dJ5_newCapacity_0f7a4_32 (by decide) ?_
  refine a_iload X dJ5_newCapacity_0f7a4_34 rfl ?_
  refine a_ldc X dJ5_newCapacity_0f7a4_36 lkJ5_39 ?_
  refine a_icmp_ne (tgt := 51) X dJ5_newCapacity_0f7a4_38 (by decide) (fun _ => ?_) (fun h => absurd h (show ¬ nI (n + (if k - n < n + 2 then n + 2 else k - n)) = (2147483647 : Int32) from fun q => by have := congrArg Int32.toInt q; rw [nI_toInt (by split <;> omega), show (2147483647 : Int32).toInt = 2147483647 by decide] at this; split at this <;> omega))
  refine a_iload X dJ5_newCapacity_0f7a4_51 rfl ?_
  refine a_aload_n X dJ5_newCapacity_0f7a4_53 rfl ?_
  refine a_getc X lgJ5_22 hq rfl hcod dJ5_newCapacity_0f7a4_54 ?_
  refine a_ishr X dJ5_newCapacity_0f7a4_57 ?_
  rw [z_shr0]
  exact a_iret X hr dJ5_newCapacity_0f7a4_58 ⟨by decide, by decide⟩ ⟨rfl, rfl⟩
/-- S with one byte array more, of n bytes, its letters t -/
def zAp (S z : zS) (n : Nat) (t : List Nat) : Prop := z.1 = S.1 ++ [(2, n, [])] ∧ (∀ k, k < n → z.2.1 S.1.length k = zby t k) ∧ ∀ a, a < S.1.length → z.2.1 a = S.2.1 a ∧ z.2.2 a = S.2.2 a
theorem zS1_get {S : zS} {q : zC} {a : Nat} {r : zC} (h : S.1[a]? = some r) : (zS1 S q).1[a]? = some r := by
  show (S.1 ++ [q])[a]? = _
  rw [List.getElem?_append_left (List.getElem?_eq_some_iff.mp h).1, h]
theorem zS1_new {S : zS} {q : zC} : (zS1 S q).1[S.1.length]? = some q := by
  show (S.1 ++ [q])[S.1.length]? = _
  simp
/-- what newarray and arraycopy leave -/
theorem zAp.mk {S : zS} {n k : Nat} {t : List Nat} (hk : k ≤ n) (ht : ∀ i, k ≤ i → i < n → zby t i = 0) : zAp S ((zS1 S (2, n, [])).1, zct (zS1 S (2, n, [])).2.1 S.1.length 0 k t, (zS1 S (2, n, [])).2.2) n t := by
  refine ⟨rfl, fun i hi => ?_, fun a ha => ⟨?_, ?_⟩⟩
  · show zct (zS1 S (2, n, [])).2.1 S.1.length 0 k t S.1.length i = _
    unfold zct
    by_cases h : i < k
    · rw [if_pos ⟨rfl, Nat.zero_le _, by omega⟩, Nat.sub_zero]
    · rw [if_neg (fun q => h (by have := q.2.2; omega)), ht i (by omega) hi]
      exact if_pos rfl
  · exact (zct_row (by omega)).trans (zn_row (by omega))
  · exact zn_row (by omega)
set_option maxRecDepth 100000 in
theorem k_copyOf {l : Launch} {G : zG} {b : Nat} {S : zS} {j n : Nat} {t : List Nat} (ha : S.1[j]? = some (2, n, [])) (hj : j < 1000000) (hby : ∀ k, k < n → S.2.1 j k = zby t k) (h128 : ∀ x, x ∈ t → x < 128) {k : Nat} (hl : S.1.length + 1 < 1000000) (ht : t.length ≤ n) (hk : n < k ∧ k ≤ 3002) : zM l G b yJ7_copyOf_9075b cJ7_copyOf_9075b 3 (some (.array .byte)) 1 1 3002 [.ref j, .int (nI k)] S (fun r z => r = some (.ref S.1.length) ∧ zAp S z k t) := by
  refine zM.of miJ7_copyOf_9075b (Nat.le_of_ble_eq_true rfl) ?_
  intro p0 e s m args below meth c X hr hname
  refine a_iload_n X dJ7_copyOf_9075b_0 rfl ?_
  refine a_aload_n X dJ7_copyOf_9075b_1 rfl ?_
  refine a_alen X ha (by decide) dJ7_copyOf_9075b_2 ?_
  refine a_icmp_ne (tgt := 14) X dJ7_copyOf_9075b_3 (by decide) (fun _ => ?_) (fun h => absurd h (show ¬ nI k = nI n from fun q => by have := congrArg Int32.toInt q; rw [nI_toInt (by omega), nI_toInt (by omega)] at this; omega))
  refine a_iload_n X dJ7_copyOf_9075b_14 rfl ?_
  refine a_newarray (at_ := .byte) (kd := 2) (n := k) X (Or.inr (Or.inl ⟨rfl, rfl⟩)) zarrB ⟨nI_pos (by omega), nI_clamp (by omega), by omega⟩ hl ⟨by show _ ≤ 1; omega, by show _ ≤ 3002; omega⟩ dJ7_copyOf_9075b_15 ?_
  refine a_astore_n X dJ7_copyOf_9075b_17 (by decide) ?_
  refine a_aload_n X dJ7_copyOf_9075b_18 rfl ?_
  refine a_iconst (v := 0) X dJ7_copyOf_9075b_19 (by decide) ?_
  refine a_aload_n X dJ7_copyOf_9075b_20 rfl ?_
  refine a_iconst (v := 0) X dJ7_copyOf_9075b_21 (by decide) ?_
  refine a_aload_n X dJ7_copyOf_9075b_22 rfl ?_
  refine a_alen X (zS1_get ha) (by decide) dJ7_copyOf_9075b_23 ?_
  refine a_iload_n X dJ7_copyOf_9075b_24 rfl ?_
  refine a_mmin X lmJ7_304 zmath2 zmath0 zmathc2 ⟨by decide, (Nat.le_of_ble_eq_true rfl), by show 0 + 1 ≤ 1; omega, by show 0 + k ≤ 3002; omega⟩ dJ7_copyOf_9075b_25 ?_
  rw [show Int32.ofNat n = nI n from rfl, z_mn (by omega) (by omega), if_neg (by omega)]
  refine a_copyT (v := j) (n := n) (P := S.1.length) (n1 := k) (dp := 0) (k := n) (t := t) X lmJ7_150 (Or.inr ⟨hj, zS1_get ha, fun k hk => (congrFun (zn_row (by have := (List.getElem?_eq_some_iff.mp ha).1; omega)) k).trans (hby k hk)⟩) h128 zS1_new ⟨by omega, by omega, by omega, by omega⟩ ⟨by decide, by decide⟩ dJ7_copyOf_9075b_28 ?_
  refine a_aload_n X dJ7_copyOf_9075b_31 rfl ?_
  refine a_aret X hr (Or.inr ⟨_, rfl⟩) (Or.inr ⟨_, rfl⟩) dJ7_copyOf_9075b_32 ⟨by show 0 + 1 ≤ 1; omega, by show 0 + k ≤ 3002; omega⟩ ⟨rfl, zAp.mk (by omega) (fun i h1 h2 => zby_out (by omega))⟩
set_option maxRecDepth 100000 in
theorem k_checkLength {l : Launch} {G : zG} {b : Nat} {S : zS} {a k9 : Nat} (h9 : a ≤ k9 ∧ k9 ≤ 9999) : zM l G b yJ7_checkLength_df160 cJ7_checkLength_df160 2 none 0 0 0 [.int (nI a), .int (nI k9)] S (fun r z => r = none ∧ z = S) := by
  refine zM.of miJ7_checkLength_df160 (Nat.le_of_ble_eq_true rfl) ?_
  intro p0 e s m args below meth c X hr hname
  refine a_iload_n X dJ7_checkLength_df160_0 rfl ?_
  refine a_iload_n X dJ7_checkLength_df160_1 rfl ?_
  refine a_icmp_ge (tgt := 37) X dJ7_checkLength_df160_2 (by decide) (fun _ => ?_) (fun h => absurd ((nI_leI (a := a) (b := k9) (by omega) (by omega)).mpr h9.1) h)
  exact a_vret X hr dJ7_checkLength_df160_37 ⟨by decide, by decide⟩ ⟨rfl, rfl⟩
set_option maxRecDepth 100000 in
theorem k_copyOfRangeByte {l : Launch} {G : zG} {b : Nat} {S : zS} {j n : Nat} {t : List Nat} (ha : S.1[j]? = some (2, n, [])) (hj : j < 1000000) (hby : ∀ k, k < n → S.2.1 j k = zby t k) (h128 : ∀ x, x ∈ t → x < 128) {k : Nat} (hl : S.1.length + 1 < 1000000) (hn : n ≤ 3002) (hk : k = t.length ∧ k ≤ n) : zM l G b yJ7_copyOfRangeByte_39247 cJ7_copyOfRangeByte_39247 5 (some (.array .byte)) 1 1 3002 [.ref j, .int 0, .int (nI k)] S (fun r z => r = some (.ref S.1.length) ∧ zAp S z k t) := by
  refine zM.of miJ7_copyOfRangeByte_39247 (Nat.le_of_ble_eq_true rfl) ?_
  intro p0 e s m args below meth c X hr hname
  refine a_iload_n X dJ7_copyOfRangeByte_39247_0 rfl ?_
  refine a_iload_n X dJ7_copyOfRangeByte_39247_1 rfl ?_
  refine a_callSu X dJ7_copyOfRangeByte_39247_2 miJ7_checkLength_df160 lmJ7_343 (k_checkLength (a := 0) (k9 := k) (by omega)) rfl rfl (Nat.le_of_ble_eq_true rfl) ⟨by decide, by decide, by decide, by decide⟩ ?_
  refine a_iload_n X dJ7_copyOfRangeByte_39247_5 rfl ?_
  refine a_iload_n X dJ7_copyOfRangeByte_39247_6 rfl ?_
  refine a_isub X dJ7_copyOfRangeByte_39247_7 ?_
  rw [show nI k - (0 : Int32) = nI k from by rw [show (0 : Int32) = nI 0 by decide, z_nIsub (by omega) (by omega), Nat.sub_zero]]
  refine a_istore_n X dJ7_copyOfRangeByte_39247_8 (by decide) ?_
  refine a_iload_n X dJ7_copyOfRangeByte_39247_9 rfl ?_
  refine a_newarray (at_ := .byte) (kd := 2) (n := k) X (Or.inr (Or.inl ⟨rfl, rfl⟩)) zarrB ⟨nI_pos (by omega), nI_clamp (by omega), by omega⟩ hl ⟨by show _ ≤ 1; omega, by show _ ≤ 3002; omega⟩ dJ7_copyOfRangeByte_39247_10 ?_
  refine a_astore X dJ7_copyOfRangeByte_39247_12 (by decide) ?_
  refine a_aload_n X dJ7_copyOfRangeByte_39247_14 rfl ?_
  refine a_iload_n X dJ7_copyOfRangeByte_39247_15 rfl ?_
  refine a_aload X dJ7_copyOfRangeByte_39247_16 rfl ?_
  refine a_iconst (v := 0) X dJ7_copyOfRangeByte_39247_18 (by decide) ?_
  refine a_aload_n X dJ7_copyOfRangeByte_39247_19 rfl ?_
  refine a_alen X (zS1_get ha) (by decide) dJ7_copyOfRangeByte_39247_20 ?_
  refine a_iload_n X dJ7_copyOfRangeByte_39247_21 rfl ?_
  refine a_isub X dJ7_copyOfRangeByte_39247_22 ?_
  rw [show Int32.ofNat n - (0 : Int32) = nI n from by rw [show (0 : Int32) = nI 0 by decide, show Int32.ofNat n = nI n from rfl, z_nIsub (by omega) (by omega), Nat.sub_zero]]
  refine a_iload_n X dJ7_copyOfRangeByte_39247_23 rfl ?_
  refine a_mmin X lmJ7_304 zmath2 zmath0 zmathc2 ⟨by decide, (Nat.le_of_ble_eq_true rfl), by show _ ≤ 1; omega, by show _ ≤ 3002; omega⟩ dJ7_copyOfRangeByte_39247_24 ?_
  rw [z_mn (by omega) (by omega), show (if k < n then k else n) = k by split <;> omega]
  refine a_copyT (v := j) (n := n) (P := S.1.length) (n1 := k) (dp := 0) (k := k) (t := t) X lmJ7_150 (Or.inr ⟨hj, zS1_get ha, fun k hk => (congrFun (zn_row (by have := (List.getElem?_eq_some_iff.mp ha).1; omega)) k).trans (hby k hk)⟩) h128 zS1_new ⟨by omega, by omega, by omega, by omega⟩ ⟨by decide, by decide⟩ dJ7_copyOfRangeByte_39247_27 ?_
  refine a_aload X dJ7_copyOfRangeByte_39247_30 rfl ?_
  refine a_aret X hr (Or.inr ⟨_, rfl⟩) (Or.inr ⟨_, rfl⟩) dJ7_copyOfRangeByte_39247_32 ⟨by show _ ≤ 1; omega, by show _ ≤ 3002; omega⟩ ⟨rfl, zAp.mk (Nat.le_refl k) (fun i h1 h2 => absurd h2 (by omega))⟩
set_option maxRecDepth 100000 in
theorem k_copyOfRange {l : Launch} {G : zG} {b : Nat} {S : zS} {j n : Nat} {t : List Nat} (ha : S.1[j]? = some (2, n, [])) (hj : j < 1000000) (hby : ∀ k, k < n → S.2.1 j k = zby t k) (h128 : ∀ x, x ∈ t → x < 128) {k : Nat} (hl : S.1.length + 1 < 1000000) (hn : n ≤ 3002) (hk : k = t.length ∧ k ≤ n) : zM l G b yJ7_copyOfRange_39247 cJ7_copyOfRange_39247 3 (some (.array .byte)) 2 1 3002 [.ref j, .int 0, .int (nI k)] S (fun r z => r = some (.ref S.1.length) ∧ zAp S z k t) := by
  refine zM.of miJ7_copyOfRange_39247 (Nat.le_of_ble_eq_true rfl) ?_
  intro p0 e s m args below meth c X hr hname
  refine a_iload_n X dJ7_copyOfRange_39247_0 rfl ?_
  refine a_if_ne (tgt := 10) X dJ7_copyOfRange_39247_1 (by decide) (fun h => absurd rfl h) (fun _ => ?_)
  refine a_iload_n X dJ7_copyOfRange_39247_4 rfl ?_
  refine a_aload_n X dJ7_copyOfRange_39247_5 rfl ?_
  refine a_alen X ha (by decide) dJ7_copyOfRange_39247_6 ?_
  refine a_icmp_eq (tgt := 17) X dJ7_copyOfRange_39247_7 (by decide) (fun h => ?_) (fun _ => ?_)
  · have e : k = n := by
      have := congrArg Int32.toInt h
      rw [nI_toInt (by omega), show Int32.ofNat n = nI n from rfl, nI_toInt (by omega)] at this
      omega
    subst e
    refine a_aload_n X dJ7_copyOfRange_39247_17 rfl ?_
    refine a_clone (t := t) X rfl rfl ha hby h128 hl ⟨by decide, by decide, by decide, by show 0 + k ≤ 3002; omega⟩ dJ7_copyOfRange_39247_18 ?_
    refine a_castB X lnJ7_311 zS1_new dJ7_copyOfRange_39247_21 ?_
    refine a_aret X hr (Or.inr ⟨_, rfl⟩) (Or.inr ⟨_, rfl⟩) dJ7_copyOfRange_39247_24 ⟨by show 0 + 1 ≤ 1; omega, by show 0 + k ≤ 3002; omega⟩ ⟨rfl, rfl, fun i hi => ?_, fun a h9 => ⟨?_, zn_row (by omega)⟩⟩
    · exact (if_pos rfl).trans (hby i hi)
    · funext i
      exact if_neg (by omega)
  · skip
    refine a_aload_n X dJ7_copyOfRange_39247_10 rfl ?_
    refine a_iload_n X dJ7_copyOfRange_39247_11 rfl ?_
    refine a_iload_n X dJ7_copyOfRange_39247_12 rfl ?_
    refine a_callSx X dJ7_copyOfRange_39247_13 miJ7_copyOfRangeByte_39247 lmJ7_339 (k_copyOfRangeByte ha hj hby h128 hl hn hk) rfl rfl (Nat.le_of_ble_eq_true rfl) ⟨by decide, by decide, by decide, by decide⟩ (fun r z q => ?_)
    obtain ⟨rfl, hz⟩ := q
    exact a_aret X hr (Or.inr ⟨_, rfl⟩) (Or.inr ⟨_, rfl⟩) dJ7_copyOfRange_39247_16 ⟨by decide, by decide⟩ ⟨rfl, hz⟩
