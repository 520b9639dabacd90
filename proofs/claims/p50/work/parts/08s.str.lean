/-! String constants, and what the JDK says of them -/
section ZSR
variable {p : Program} {l : Launch} {e : Env} {R : Room} {s : State} {m : MethodId} {args : Array Value} {below : List Frame} {meth : Method} {c : Code} {G : zG} {b : Nat} {Q : State → Prop} {nc ns : Nat}
variable {cc : ByteArray} {pc nL idx i : Nat} {own : String} {ls : List (Option Value)} {st : List Value} {S : zS}

theorem a_ldcS (X : zOK p s m args meth c G b own cc nL) {q : String × Nat × String} (hi : zLit[i]? = some q) (hown : q.1 = own) (hidx : q.2.1 = idx) (hd : decode cc pc = .ok (.ldc idx, 2)) (kk : Zw p l e R s m args below meth c G b nL Q nc ns (pc + 2) ls (.ref (1000000 + zKa G i) :: st) S) : Zw p l e R s m args below meth c G b nL Q nc ns (pc) ls (st) S := by
  intro H locs la hH hS hL
  have k := kk H locs la hH hS hL
  subst hown
  subst hidx
  rw [List.map_cons, zv_far] at k
  exact va_ldcS X.1 X.2.1 X.2.2.2.1 (X.2.2.2.2.2.2.1.2.2.2.1 i q hi) hd k
theorem a_sval (X : zOK p s m args meth c G b own cc nL) (hi : i < zLit.length) (hw : Cond.fieldLink own idx "java/lang/String" "value" "[B" ∈ zT) (hd : decode cc pc = .ok (.getfield idx, 3)) (kk : Zw p l e R s m args below meth c G b nL Q nc ns (pc + 3) ls (.ref (1000000 + zVa G i) :: st) S) : Zw p l e R s m args below meth c G b nL Q nc ns (pc) ls (.ref (1000000 + zKa G i) :: st) S := by
  intro H locs la hH hS hL
  have k := kk H locs la hH hS hL
  rw [List.map_cons, zv_far] at k ⊢
  exact vk_getf X.1 X.2.1 (X.2.2.2.2.2.2.1.2.2.1.1 i hi).2.2.1 hS X.2.2.2.1 (X.2.2.2.2.1 _ hw) (fun _ h => h) hd k
theorem a_scod (X : zOK p s m args meth c G b own cc nL) (hi : i < zLit.length) (hw : Cond.fieldLink own idx "java/lang/String" "coder" "B" ∈ zT) (hd : decode cc pc = .ok (.getfield idx, 3)) (kk : Zw p l e R s m args below meth c G b nL Q nc ns (pc + 3) ls (.int 0 :: st) S) : Zw p l e R s m args below meth c G b nL Q nc ns (pc) ls (.ref (1000000 + zKa G i) :: st) S := by
  intro H locs la hH hS hL
  have k := kk H locs la hH hS hL
  rw [List.map_cons, zv_far]
  exact vk_getf X.1 X.2.1 (X.2.2.2.2.2.2.1.2.2.1.1 i hi).2.1 hS X.2.2.2.1 (X.2.2.2.2.1 _ hw) (fun _ h => h) hd k
theorem a_sblen (X : zOK p s m args meth c G b own cc nL) (hi : i < zLit.length) (hd : decode cc pc = .ok (.arraylength, 1)) (kk : Zw p l e R s m args below meth c G b nL Q nc ns (pc + 1) ls (.int (Int32.ofNat (zLen.getD i 0)) :: st) S) : Zw p l e R s m args below meth c G b nL Q nc ns (pc) ls (.ref (1000000 + zVa G i) :: st) S := by
  intro H locs la hH hS hL
  have k := kk H locs la hH hS hL
  rw [List.map_cons, zv_far]
  exact va_tlen X.1 X.2.1 (X.2.2.2.2.2.2.1.2.2.1.1 i hi).2.2.2 hS rfl hd k
theorem a_sbld (X : zOK p s m args meth c G b own cc nL) (hi : i < zLit.length) {j : Int32} (hin : vp_in j (zLen.getD i 0)) (hd : decode cc pc = .ok (.baload, 1)) (kk : Zw p l e R s m args below meth c G b nL Q nc ns (pc + 1) ls (.int ((zByt.getD i []).getD j.toNatClampNeg 0) :: st) S) : Zw p l e R s m args below meth c G b nL Q nc ns (pc) ls (.int j :: .ref (1000000 + zVa G i) :: st) S := by
  intro H locs la hH hS hL
  have k := kk H locs la hH hS hL
  rw [List.map_cons, List.map_cons, zv_far]
  exact va_tb X.1 X.2.1 (X.2.2.2.2.2.2.1.2.2.1.1 i hi).2.2.2 hS hin rfl hd k
theorem a_scmp (X : zOK p s m args meth c G b own cc nL) (hw : Cond.fieldLink own idx "java/lang/String" "COMPACT_STRINGS" "Z" ∈ zT) (hd : decode cc pc = .ok (.getstatic idx, 3)) (kk : Zw p l e R s m args below meth c G b nL Q nc ns (pc + 3) ls (.int 1 :: st) S) : Zw p l e R s m args below meth c G b nL Q nc ns (pc) ls (st) S := by
  intro H locs la hH hS hL
  have k := kk H locs la hH hS hL
  exact va_gets X.1 X.2.1 X.2.2.2.2.2.2.1.2.2.2.2.1 hS X.2.2.2.1 (X.2.2.2.2.1 _ hw) (fun _ h => h) hd k
theorem a_sfmt (X : zOK p s m args meth c G b own cc nL) (hw : Cond.fieldLink own idx "jdk/internal/util/Preconditions" "SIOOBE_FORMATTER" "Ljava/util/function/BiFunction;" ∈ zT) (hd : decode cc pc = .ok (.getstatic idx, 3)) (kk : ∀ v : Value, (v = .null ∨ ∃ t, v = .ref t) → Zw p l e R s m args below meth c G b nL Q nc ns (pc + 3) ls (v :: st) S) : Zw p l e R s m args below meth c G b nL Q nc ns (pc) ls (st) S := by
  intro H locs la hH hS hL
  rcases X.2.2.2.2.2.2.1.2.2.2.2.2 with h | ⟨t, h⟩
  · exact va_gets X.1 X.2.1 h hS X.2.2.2.1 (X.2.2.2.2.1 _ hw) (fun _ h => h) hd (kk .null (Or.inl rfl) H locs la hH hS hL)
  · have k := kk (.ref (1000000 + t)) (Or.inr ⟨_, rfl⟩) H locs la hH hS hL
    rw [List.map_cons, zv_far] at k
    exact va_gets X.1 X.2.1 h hS X.2.2.2.1 (X.2.2.2.2.1 _ hw) (fun _ h => h) hd k
theorem a_i2c (X : zOK p s m args meth c G b own cc nL) {x : Int32} (hd : decode cc pc = .ok (.i2c, 1)) (kk : Zw p l e R s m args below meth c G b nL Q nc ns (pc + 1) ls (.int (x.toUInt32 % 65536).toInt32 :: st) S) : Zw p l e R s m args below meth c G b nL Q nc ns (pc) ls (.int x :: st) S :=
  fun H locs la hH hS hL => lv_i2c X.1 X.2.1 hd rfl (kk H locs la hH hS hL)
theorem a_nret (X : zOK p s m args meth c G b own cc nL) {mc ms : Nat} {v : Int32} {ty : FieldType} {Qf : Option Value → zS → Prop} (hn : narrow ty (.int v) = .int v) (hr : meth.sig.returnType = some ty) (hd : decode cc pc = .ok (.ireturn, 1)) (hc : nc ≤ mc ∧ ns ≤ ms) (hq : Qf (some (.int v)) S) : Zw p l e R s m args below meth c G b nL (MQ below (zQ G b Qf) args s mc ms (fun q : Nat => b ≤ q)) nc ns pc ls [.int v] S :=
  fun H locs la hH hS hL => W.widen hc.1 hc.2 (W.zret X.1 X.2.1 hr hn (fun t ht hW => ⟨⟨some (.int v), S, rfl, hq, by rw [ht]; exact hH⟩, hS.F ht⟩) hS.2.2 hd X.2.2.2.2.2.2.2.1)
end ZSR
theorem c_coder {l : Launch} {G : zG} {b : Nat} {S : zS} {i : Nat} (hi : i < zLit.length) : zM l G b yJ0_coder_7d493 cJ0_coder_7d493 1 (some .byte) 0 0 0 [.ref (1000000 + zKa G i)] S (fun r z => r = some (.int 0) ∧ z = S) := by
  refine zM.of miJ0_coder_7d493 (Nat.le_of_ble_eq_true rfl) ?_
  intro p e s m args below meth c X hr hname
  refine a_scmp X lfJ0_38 dJ0_coder_7d493_0 ?_
  refine a_if_eq (tgt := 13) X dJ0_coder_7d493_3 (by decide) (fun h => absurd h (by decide)) (fun _ => ?_)
  refine a_aload_n X dJ0_coder_7d493_6 rfl ?_
  refine a_scod X hi lfJ0_15 dJ0_coder_7d493_7 ?_
  refine a_goto (tgt := 14) X dJ0_coder_7d493_10 (by decide) ?_
  exact a_nret X (by decide) hr dJ0_coder_7d493_14 ⟨by decide, by decide⟩ ⟨rfl, rfl⟩
theorem c_isLatin1 {l : Launch} {G : zG} {b : Nat} {S : zS} {i : Nat} (hi : i < zLit.length) : zM l G b yJ0_isLatin1_aae02 cJ0_isLatin1_aae02 1 (some .boolean) 0 0 0 [.ref (1000000 + zKa G i)] S (fun r z => r = some (.int 1) ∧ z = S) := by
  refine zM.of miJ0_isLatin1_aae02 (Nat.le_of_ble_eq_true rfl) ?_
  intro p e s m args below meth c X hr hname
  refine a_scmp X lfJ0_38 dJ0_isLatin1_aae02_0 ?_
  refine a_if_eq (tgt := 17) X dJ0_isLatin1_aae02_3 (by decide) (fun h => absurd h (by decide)) (fun _ => ?_)
  refine a_aload_n X dJ0_isLatin1_aae02_6 rfl ?_
  refine a_scod X hi lfJ0_15 dJ0_isLatin1_aae02_7 ?_
  refine a_if_ne (tgt := 17) X dJ0_isLatin1_aae02_10 (by decide) (fun h => absurd rfl h) (fun _ => ?_)
  refine a_iconst (v := 1) X dJ0_isLatin1_aae02_13 (by decide) ?_
  refine a_goto (tgt := 18) X dJ0_isLatin1_aae02_14 (by decide) ?_
  exact a_nret X (by decide) hr dJ0_isLatin1_aae02_18 ⟨by decide, by decide⟩ ⟨rfl, rfl⟩
theorem zLen_sh (i : Nat) : Int32.ofNat (zLen.getD i 0) >>> ((0 : Int32) &&& 31) = Int32.ofNat (zLen.getD i 0) := by
  rw [show ((0 : Int32) &&& 31) = 0 by decide]
  simp
theorem c_length {l : Launch} {G : zG} {b : Nat} {S : zS} {i : Nat} (hi : i < zLit.length) : zM l G b yJ0_length_8abf5 cJ0_length_8abf5 1 (some .int) 1 0 0 [.ref (1000000 + zKa G i)] S (fun r z => r = some (.int (Int32.ofNat (zLen.getD i 0))) ∧ z = S) := by
  refine zM.of miJ0_length_8abf5 (Nat.le_of_ble_eq_true rfl) ?_
  intro p e s m args below meth c X hr hname
  refine a_aload_n X dJ0_length_8abf5_0 rfl ?_
  refine a_sval X hi lfJ0_9 dJ0_length_8abf5_1 ?_
  refine a_sblen X hi dJ0_length_8abf5_4 ?_
  refine a_aload_n X dJ0_length_8abf5_5 rfl ?_
  refine a_invVs X miJ0_coder_7d493 lmJ0_335 hi rfl rfl rfl (Nat.le_of_ble_eq_true rfl) ⟨by decide, by decide, by decide, by decide⟩ dJ0_length_8abf5_6 (c_coder hi) (fun r z q => ?_)
  obtain ⟨rfl, rfl⟩ := q
  refine a_ishr X dJ0_length_8abf5_9 ?_
  exact a_iret X hr dJ0_length_8abf5_10 ⟨by decide, by decide⟩ ⟨by rw [zLen_sh], rfl⟩
theorem c_preCheck {l : Launch} {G : zG} {b : Nat} {S : zS} {k n : Int32} {v : Value} (h1 : ¬ k < 0) (h2 : k < n) (hv : v = .null ∨ ∃ t, v = .ref t) : zM l G b yJ3_checkIndex_8e157 cJ3_checkIndex_8e157 3 (some .int) 0 0 0 [.int k, .int n, v] S (fun r z => r = some (.int k) ∧ z = S) := by
  rcases hv with rfl | ⟨t, rfl⟩
  · refine zM.of miJ3_checkIndex_8e157 (Nat.le_of_ble_eq_true rfl) ?_
    intro p e s m args below meth c X hr hname
    refine a_iload_n X dJ3_checkIndex_8e157_0 rfl ?_
    refine a_if_lt (tgt := 9) X dJ3_checkIndex_8e157_1 (by decide) (fun h => absurd h h1) (fun _ => ?_)
    refine a_iload_n X dJ3_checkIndex_8e157_4 rfl ?_
    refine a_iload_n X dJ3_checkIndex_8e157_5 rfl ?_
    refine a_icmp_lt (tgt := 16) X dJ3_checkIndex_8e157_6 (by decide) (fun _ => ?_) (fun h => absurd h2 h)
    refine a_iload_n X dJ3_checkIndex_8e157_16 rfl ?_
    exact a_iret X hr dJ3_checkIndex_8e157_17 ⟨by decide, by decide⟩ ⟨rfl, rfl⟩
  · refine zM.of miJ3_checkIndex_8e157 (Nat.le_of_ble_eq_true rfl) ?_
    intro p e s m args below meth c X hr hname
    refine a_iload_n X dJ3_checkIndex_8e157_0 rfl ?_
    refine a_if_lt (tgt := 9) X dJ3_checkIndex_8e157_1 (by decide) (fun h => absurd h h1) (fun _ => ?_)
    refine a_iload_n X dJ3_checkIndex_8e157_4 rfl ?_
    refine a_iload_n X dJ3_checkIndex_8e157_5 rfl ?_
    refine a_icmp_lt (tgt := 16) X dJ3_checkIndex_8e157_6 (by decide) (fun _ => ?_) (fun h => absurd h2 h)
    refine a_iload_n X dJ3_checkIndex_8e157_16 rfl ?_
    exact a_iret X hr dJ3_checkIndex_8e157_17 ⟨by decide, by decide⟩ ⟨rfl, rfl⟩
theorem c_checkIndex {l : Launch} {G : zG} {b : Nat} {S : zS} {k n : Int32} (h1 : ¬ k < 0) (h2 : k < n) : zM l G b yJ0_checkIndex_df160 cJ0_checkIndex_df160 2 none 1 0 0 [.int k, .int n] S (fun r z => r = none ∧ z = S) := by
  refine zM.of miJ0_checkIndex_df160 (Nat.le_of_ble_eq_true rfl) ?_
  intro p e s m args below meth c X hr hname
  refine a_iload_n X dJ0_checkIndex_df160_0 rfl ?_
  refine a_iload_n X dJ0_checkIndex_df160_1 rfl ?_
  refine a_sfmt X lfJ0_1053 dJ0_checkIndex_df160_2 (fun v hv => ?_)
  refine a_callSv X dJ0_checkIndex_df160_5 miJ3_checkIndex_8e157 lmJ0_1059 (c_preCheck h1 h2 hv) rfl rfl (Nat.le_of_ble_eq_true rfl) ⟨by decide, by decide, by decide, by decide⟩ ?_
  refine a_pop X dJ0_checkIndex_df160_8 rfl ?_
  exact a_vret X hr dJ0_checkIndex_df160_9 ⟨by decide, by decide⟩ ⟨rfl, rfl⟩
def zCh (i j : Nat) : Int32 := (zByt.getD i []).getD j 0
theorem zCh_ok : ∀ i, i < zLit.length → zLen.getD i 0 < 1000 ∧ ∀ j, j < zLen.getD i 0 → ((zCh i j &&& 255).toUInt32 % 65536).toInt32 = zCh i j ∧ narrow .char (.int (zCh i j)) = .int (zCh i j) := by decide +kernel
theorem c_charAt1 {l : Launch} {G : zG} {b : Nat} {S : zS} {i j : Nat} (hi : i < zLit.length) (hj : j < zLen.getD i 0) : zM l G b yJ1_charAt_3b067 cJ1_charAt_3b067 2 (some .char) 2 0 0 [.ref (1000000 + zVa G i), .int (nI j)] S (fun r z => r = some (.int (zCh i j)) ∧ z = S) := by
  refine zM.of miJ1_charAt_3b067 (Nat.le_of_ble_eq_true rfl) ?_
  intro p e s m args below meth c X hr hname
  obtain ⟨hL, hC⟩ := zCh_ok i hi
  obtain ⟨e1, e2⟩ := hC j hj
  refine a_iload_n X dJ1_charAt_3b067_0 rfl ?_
  refine a_aload_n X dJ1_charAt_3b067_1 rfl ?_
  refine a_sblen X hi dJ1_charAt_3b067_2 ?_
  refine a_callSu X dJ1_charAt_3b067_3 miJ0_checkIndex_df160 lmJ1_9 (c_checkIndex (nI_pos (by omega)) ((nI_ltI (by omega) (by omega)).mpr hj)) rfl rfl (Nat.le_of_ble_eq_true rfl) ⟨by decide, by decide, by decide, by decide⟩ ?_
  refine a_aload_n X dJ1_charAt_3b067_6 rfl ?_
  refine a_iload_n X dJ1_charAt_3b067_7 rfl ?_
  refine a_sbld X hi (vp_in_nI hj (by omega)) dJ1_charAt_3b067_8 ?_
  refine a_sipush (v := 255) X dJ1_charAt_3b067_9 (by decide) ?_
  refine a_iand X dJ1_charAt_3b067_12 ?_
  refine a_i2c X dJ1_charAt_3b067_13 ?_
  rw [nI_clamp (by omega)]
  show Zw _ _ _ _ _ _ _ _ _ _ _ _ _ _ _ _ _ _ [.int ((zCh i j &&& 255).toUInt32 % 65536).toInt32] _
  rw [e1]
  exact a_nret X e2 hr dJ1_charAt_3b067_14 ⟨by decide, by decide⟩ ⟨rfl, rfl⟩
theorem c_charAt {l : Launch} {G : zG} {b : Nat} {S : zS} {i j : Nat} (hi : i < zLit.length) (hj : j < zLen.getD i 0) : zM l G b yJ0_charAt_5068e cJ0_charAt_5068e 2 (some .char) 3 0 0 [.ref (1000000 + zKa G i), .int (nI j)] S (fun r z => r = some (.int (zCh i j)) ∧ z = S) := by
  refine zM.of miJ0_charAt_5068e (Nat.le_of_ble_eq_true rfl) ?_
  intro p e s m args below meth c X hr hname
  refine a_aload_n X dJ0_charAt_5068e_0 rfl ?_
  refine a_invVs X miJ0_isLatin1_aae02 lmJ0_492 hi rfl rfl rfl (Nat.le_of_ble_eq_true rfl) ⟨by decide, by decide, by decide, by decide⟩ dJ0_charAt_5068e_1 (c_isLatin1 hi) (fun r z q => ?_)
  obtain ⟨rfl, rfl⟩ := q
  refine a_if_eq (tgt := 16) X dJ0_charAt_5068e_4 (by decide) (fun h => absurd h (by decide)) (fun _ => ?_)
  refine a_aload_n X dJ0_charAt_5068e_7 rfl ?_
  refine a_sval X hi lfJ0_9 dJ0_charAt_5068e_8 ?_
  refine a_iload_n X dJ0_charAt_5068e_11 rfl ?_
  refine a_callSv X dJ0_charAt_5068e_12 miJ1_charAt_3b067 lmJ0_495 (c_charAt1 hi hj) rfl rfl (Nat.le_of_ble_eq_true rfl) ⟨by decide, by decide, by decide, by decide⟩ ?_
  exact a_nret X ((zCh_ok i hi).2 j hj).2 hr dJ0_charAt_5068e_15 ⟨by decide, by decide⟩ ⟨rfl, rfl⟩
