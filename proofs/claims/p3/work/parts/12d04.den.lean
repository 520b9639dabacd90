noncomputable def D_X3_isTaken_62 (Q : Nat) (M : zMt) (N : zNt) (y0_62 : Int32) : Option (Int32) :=
  some (y0_62)
noncomputable def D_X3_isTaken_57 (Q : Nat) (M : zMt) (N : zNt)  : Option (Int32) :=
  D_X3_isTaken_62 Q M N (1 : Int32)
noncomputable def D_X3_isTaken (Q : Nat) (M : zMt) (N : zNt) (v0 : Int64) : Option (Int32) :=
  zB (D_X3_find (Q + 10) 5 N (M (Q + 1) 0) v0) fun e_12 =>
  if e_12 = (-1 : Int32) then
    zB (D_X3_find (Q + 11) 10 N (M (Q + 1) 1) v0) fun e_31 =>
    if e_31 = (-1 : Int32) then
      zB (D_X3_find (Q + 12) 4 N (M (Q + 1) 2) v0) fun e_50 =>
      if e_50 = (-1 : Int32) then
        D_X3_isTaken_62 Q M N (0 : Int32)
      else
        D_X3_isTaken_57 Q M N
    else
      D_X3_isTaken_57 Q M N
  else
    D_X3_isTaken_57 Q M N
set_option maxRecDepth 100000 in
set_option maxHeartbeats 4000000 in
theorem t_X3_isTaken {l : Launch} {G : zG} {b : Nat} {L : List zC} {M : zMt} {N : zNt} {Q : Nat} (hQ : LX3 L Q) {v0 : Int64} {r : Int32} (h : D_X3_isTaken Q M N v0 = some r) : zM l G b yX3_isTaken cX3_isTaken 3 (some .boolean) 2 0 0 [.ref Q, .long v0] (L, M, N) (fun r2 z => r2 = some (.int r) ∧ z = (L, M, N) ∧ (r = 0 ∨ r = 1)) := by
  refine zM.of miX3_isTaken (Nat.le_of_ble_eq_true rfl) ?_
  intro p e s m args below meth c X hr hname
  generalize hF : ((fun r2 z => r2 = some (.int r) ∧ z = (L, M, N) ∧ (r = 0 ∨ r = 1)) : Option Value → zS → Prop) = FQ
  change Zw p l e { frames := 2, cells := 0, slots := 0, locals := 80 * (2) } s m args below meth c G b 3 (MQ below (zQ G b FQ) args s 0 0 (fun q : Nat => b ≤ q)) 0 0 0 [some (.ref Q), some (.long v0), none] [] (L, M, N)
  obtain ⟨q_lt, q_o, q_draft, q_text, q_unitNames, q_hunterNames, q_partyNames, q_asked⟩ := id hQ
  obtain ⟨q_draft_lt, q_draft_o, q_draft_quota, q_draft_score, q_draft_guest, q_draft_party, q_draft_wishCount, q_draft_wishes, q_draft_has⟩ := id q_draft
  have J_62 : ∀ (x1_62 : Int64) (y0_62 : Int32), (y0_62 = 0 ∨ y0_62 = 1) → D_X3_isTaken_62 Q M N y0_62 = some r → Zw p l e { frames := 2, cells := 0, slots := 0, locals := 80 * (2) } s m args below meth c G b 3 (MQ below (zQ G b FQ) args s 0 0 (fun q : Nat => b ≤ q)) 0 0 62 [some (.ref (Q)), some (.long x1_62), none] [.int y0_62] (L, M, N) := by
    intro x1_62 y0_62 fb_y0_62 h
    unfold D_X3_isTaken_62 at h
    refine a_zret X (by first | exact Or.inl rfl | exact Or.inr rfl | assumption) hr dX3_isTaken_62 ⟨by decide, by decide⟩ ?_
    subst hF
    rw [← Option.some.inj h]
    exact ⟨rfl, rfl, (by first | exact Or.inl rfl | exact Or.inr rfl | assumption)⟩
  have J_57 : ∀ (x1_57 : Int64), D_X3_isTaken_57 Q M N = some r → Zw p l e { frames := 2, cells := 0, slots := 0, locals := 80 * (2) } s m args below meth c G b 3 (MQ below (zQ G b FQ) args s 0 0 (fun q : Nat => b ≤ q)) 0 0 57 [some (.ref (Q)), some (.long x1_57), none] [] (L, M, N) := by
    intro x1_57 h
    unfold D_X3_isTaken_57 at h
    refine a_iconst (v := 1) X dX3_isTaken_57 (by decide) ?_
    refine a_goto (tgt := 62) X dX3_isTaken_58 (by decide) ?_
    exact Zw.to2 (J_62 _ _ (by first | exact Or.inl rfl | exact Or.inr rfl | assumption) h) rfl rfl rfl
  unfold D_X3_isTaken at h
  refine a_aload_n X dX3_isTaken_0 rfl ?_
  refine a_getr X lf3_29 (by assumption) rfl (by omega) dX3_isTaken_1 ?_
  refine a_aload_n X dX3_isTaken_4 rfl ?_
  refine a_getr X lf3_12 (by assumption) rfl (by omega) dX3_isTaken_5 ?_
  refine a_geti X lf3_142 (by assumption) rfl dX3_isTaken_8 ?_
  refine a_lload_n X dX3_isTaken_11 rfl ?_
  obtain ⟨e_12, f_12, h⟩ := zBx h
  refine a_callSv X dX3_isTaken_12 miX3_find lm3_202 (t_X3_find (by assumption) (by first | decide | assumption) f_12) rfl rfl (Nat.le_of_ble_eq_true rfl) ⟨by decide, by decide, by decide, by decide⟩ ?_
  refine a_iconst (v := -1) X dX3_isTaken_15 (by decide) ?_
  refine a_icmp_ne (tgt := 57) X dX3_isTaken_16 (by decide) (fun h_16 => ?_) (fun h_16 => ?_)
  · replace h := (if_neg h_16).symm.trans h
    exact Zw.to2 (J_57 _ h) rfl rfl rfl
  · replace h := (if_pos h_16).symm.trans h
    refine a_aload_n X dX3_isTaken_19 rfl ?_
    refine a_getr X lf3_33 (by assumption) rfl (by omega) dX3_isTaken_20 ?_
    refine a_aload_n X dX3_isTaken_23 rfl ?_
    refine a_getr X lf3_12 (by assumption) rfl (by omega) dX3_isTaken_24 ?_
    refine a_geti X lf3_151 (by assumption) rfl dX3_isTaken_27 ?_
    refine a_lload_n X dX3_isTaken_30 rfl ?_
    obtain ⟨e_31, f_31, h⟩ := zBx h
    refine a_callSv X dX3_isTaken_31 miX3_find lm3_202 (t_X3_find (by assumption) (by first | decide | assumption) f_31) rfl rfl (Nat.le_of_ble_eq_true rfl) ⟨by decide, by decide, by decide, by decide⟩ ?_
    refine a_iconst (v := -1) X dX3_isTaken_34 (by decide) ?_
    refine a_icmp_ne (tgt := 57) X dX3_isTaken_35 (by decide) (fun h_35 => ?_) (fun h_35 => ?_)
    · replace h := (if_neg h_35).symm.trans h
      exact Zw.to2 (J_57 _ h) rfl rfl rfl
    · replace h := (if_pos h_35).symm.trans h
      refine a_aload_n X dX3_isTaken_38 rfl ?_
      refine a_getr X lf3_36 (by assumption) rfl (by omega) dX3_isTaken_39 ?_
      refine a_aload_n X dX3_isTaken_42 rfl ?_
      refine a_getr X lf3_12 (by assumption) rfl (by omega) dX3_isTaken_43 ?_
      refine a_geti X lf3_157 (by assumption) rfl dX3_isTaken_46 ?_
      refine a_lload_n X dX3_isTaken_49 rfl ?_
      obtain ⟨e_50, f_50, h⟩ := zBx h
      refine a_callSv X dX3_isTaken_50 miX3_find lm3_202 (t_X3_find (by assumption) (by first | decide | assumption) f_50) rfl rfl (Nat.le_of_ble_eq_true rfl) ⟨by decide, by decide, by decide, by decide⟩ ?_
      refine a_iconst (v := -1) X dX3_isTaken_53 (by decide) ?_
      refine a_icmp_eq (tgt := 61) X dX3_isTaken_54 (by decide) (fun h_54 => ?_) (fun h_54 => ?_)
      · replace h := (if_pos h_54).symm.trans h
        refine a_iconst (v := 0) X dX3_isTaken_61 (by decide) ?_
        exact Zw.to2 (J_62 _ _ (by first | exact Or.inl rfl | exact Or.inr rfl | assumption) h) rfl rfl rfl
      · replace h := (if_neg h_54).symm.trans h
        exact Zw.to2 (J_57 _ h) rfl rfl rfl
noncomputable def D_X3_readNewName (Q : Nat) (M : zMt) (N : zNt) : Option (Int32 × zMt × zNt) :=
  zB (D_X3_isName Q M) fun e_1 =>
  if e_1 = 0 then
    zB (D_X3_fail Q (2 : Int32) M) fun e_9 =>
    some (e_9.1, e_9.2, N)
  else
    zB (D_X3_isTaken Q M N (N Q 8)) fun e_18 =>
    if e_18 = 0 then
      zLt (zu N Q 10 (N Q 8)) fun N_35 =>
      zB (D_X3_step Q M N_35) fun e_39 =>
      some ((1 : Int32), e_39.1, e_39.2)
    else
      zB (D_X3_fail Q (4 : Int32) M) fun e_26 =>
      some (e_26.1, e_26.2, N)
set_option maxRecDepth 100000 in
set_option maxHeartbeats 4000000 in
theorem t_X3_readNewName {l : Launch} {G : zG} {b : Nat} {L : List zC} {M : zMt} {N : zNt} {Q : Nat} (hQ : LX3 L Q)  {r : Int32 × zMt × zNt} (h : D_X3_readNewName Q M N = some r) : zM l G b yX3_readNewName cX3_readNewName 1 (some .boolean) 6 0 0 [.ref Q] (L, M, N) (fun r2 z => r2 = some (.int r.1) ∧ z = (L, r.2.1, r.2.2) ∧ (r.1 = 0 ∨ r.1 = 1)) := by
  refine zM.of miX3_readNewName (Nat.le_of_ble_eq_true rfl) ?_
  intro p e s m args below meth c X hr hname
  generalize hF : ((fun r2 z => r2 = some (.int r.1) ∧ z = (L, r.2.1, r.2.2) ∧ (r.1 = 0 ∨ r.1 = 1)) : Option Value → zS → Prop) = FQ
  change Zw p l e { frames := 6, cells := 0, slots := 0, locals := 80 * (6) } s m args below meth c G b 1 (MQ below (zQ G b FQ) args s 0 0 (fun q : Nat => b ≤ q)) 0 0 0 [some (.ref Q)] [] (L, M, N)
  obtain ⟨q_lt, q_o, q_draft, q_text, q_unitNames, q_hunterNames, q_partyNames, q_asked⟩ := id hQ
  obtain ⟨q_draft_lt, q_draft_o, q_draft_quota, q_draft_score, q_draft_guest, q_draft_party, q_draft_wishCount, q_draft_wishes, q_draft_has⟩ := id q_draft
  unfold D_X3_readNewName at h
  refine a_aload_n X dX3_readNewName_0 rfl ?_
  obtain ⟨e_1, f_1, h⟩ := zBx h
  refine a_callVx X dX3_readNewName_1 miX3_isName lm3_199 (t_X3_isName (by assumption) f_1) (by assumption) rfl rfl rfl (Nat.le_of_ble_eq_true rfl) ⟨by decide, by decide, by decide, by decide⟩ (fun r_1 S_1 q_1 => ?_)
  obtain ⟨rfl, rfl, b_1⟩ := q_1
  refine a_if_ne (tgt := 13) X dX3_readNewName_4 (by decide) (fun h_4 => ?_) (fun h_4 => ?_)
  · replace h := (if_neg h_4).symm.trans h
    refine a_aload_n X dX3_readNewName_13 rfl ?_
    refine a_aload_n X dX3_readNewName_14 rfl ?_
    refine a_getl X lf3_104 (by assumption) rfl dX3_readNewName_15 ?_
    obtain ⟨e_18, f_18, h⟩ := zBx h
    refine a_callVx X dX3_readNewName_18 miX3_isTaken lm3_242 (t_X3_isTaken (by assumption) f_18) (by assumption) rfl rfl rfl (Nat.le_of_ble_eq_true rfl) ⟨by decide, by decide, by decide, by decide⟩ (fun r_18 S_18 q_18 => ?_)
    obtain ⟨rfl, rfl, b_18⟩ := q_18
    refine a_if_eq (tgt := 30) X dX3_readNewName_21 (by decide) (fun h_21 => ?_) (fun h_21 => ?_)
    · replace h := (if_pos h_21).symm.trans h
      refine a_aload_n X dX3_readNewName_30 rfl ?_
      refine a_aload_n X dX3_readNewName_31 rfl ?_
      refine a_getl X lf3_104 (by assumption) rfl dX3_readNewName_32 ?_
      obtain ⟨N_35, f_35, h⟩ := zLtx h
      refine d_putl X lf3_184 (by assumption) rfl dX3_readNewName_35 f_35 ?_
      refine a_aload_n X dX3_readNewName_38 rfl ?_
      obtain ⟨e_39, f_39, h⟩ := zBx h
      refine a_callVu X dX3_readNewName_39 miX3_step lm3_71 (t_X3_step (by assumption) f_39) (by assumption) rfl rfl rfl (Nat.le_of_ble_eq_true rfl) ⟨by decide, by decide, by decide, by decide⟩ ?_
      refine a_iconst (v := 1) X dX3_readNewName_42 (by decide) ?_
      refine a_zret X (by first | exact Or.inl rfl | exact Or.inr rfl | assumption) hr dX3_readNewName_43 ⟨by decide, by decide⟩ ?_
      subst hF
      rw [← Option.some.inj h]
      exact ⟨rfl, rfl, (by first | exact Or.inl rfl | exact Or.inr rfl | assumption)⟩
    · replace h := (if_neg h_21).symm.trans h
      refine a_aload_n X dX3_readNewName_24 rfl ?_
      refine a_iconst (v := 4) X dX3_readNewName_25 (by decide) ?_
      obtain ⟨e_26, f_26, h⟩ := zBx h
      refine a_callVx X dX3_readNewName_26 miX3_fail lm3_148 (t_X3_fail (by assumption) f_26) (by assumption) rfl rfl rfl (Nat.le_of_ble_eq_true rfl) ⟨by decide, by decide, by decide, by decide⟩ (fun r_26 S_26 q_26 => ?_)
      obtain ⟨rfl, rfl, b_26⟩ := q_26
      refine a_zret X (by first | exact Or.inl rfl | exact Or.inr rfl | assumption) hr dX3_readNewName_29 ⟨by decide, by decide⟩ ?_
      subst hF
      rw [← Option.some.inj h]
      exact ⟨rfl, rfl, (by first | exact Or.inl rfl | exact Or.inr rfl | assumption)⟩
  · replace h := (if_pos h_4).symm.trans h
    refine a_aload_n X dX3_readNewName_7 rfl ?_
    refine a_iconst (v := 2) X dX3_readNewName_8 (by decide) ?_
    obtain ⟨e_9, f_9, h⟩ := zBx h
    refine a_callVx X dX3_readNewName_9 miX3_fail lm3_148 (t_X3_fail (by assumption) f_9) (by assumption) rfl rfl rfl (Nat.le_of_ble_eq_true rfl) ⟨by decide, by decide, by decide, by decide⟩ (fun r_9 S_9 q_9 => ?_)
    obtain ⟨rfl, rfl, b_9⟩ := q_9
    refine a_zret X (by first | exact Or.inl rfl | exact Or.inr rfl | assumption) hr dX3_readNewName_12 ⟨by decide, by decide⟩ ?_
    subst hF
    rw [← Option.some.inj h]
    exact ⟨rfl, rfl, (by first | exact Or.inl rfl | exact Or.inr rfl | assumption)⟩
noncomputable def D_X3_numberUpTo (Q : Nat) (v0 : Int32) (M : zMt) (N : zNt) : Option (Int32 × zMt × zNt) :=
  if (M Q 6) = (2 : Int32) then
    if (M Q 9) ≤ v0 then
      zB (D_X3_step Q M N) fun e_29 =>
      some ((1 : Int32), e_29.1, e_29.2)
    else
      zB (D_X3_fail Q (3 : Int32) M) fun e_24 =>
      some (e_24.1, e_24.2, N)
  else
    zB (D_X3_fail Q (2 : Int32) M) fun e_10 =>
    some (e_10.1, e_10.2, N)
set_option maxRecDepth 100000 in
set_option maxHeartbeats 4000000 in
theorem t_X3_numberUpTo {l : Launch} {G : zG} {b : Nat} {L : List zC} {M : zMt} {N : zNt} {Q : Nat} (hQ : LX3 L Q) {v0 : Int32} {r : Int32 × zMt × zNt} (h : D_X3_numberUpTo Q v0 M N = some r) : zM l G b yX3_numberUpTo cX3_numberUpTo 2 (some .boolean) 3 0 0 [.ref Q, .int v0] (L, M, N) (fun r2 z => r2 = some (.int r.1) ∧ z = (L, r.2.1, r.2.2) ∧ (r.1 = 0 ∨ r.1 = 1)) := by
  refine zM.of miX3_numberUpTo (Nat.le_of_ble_eq_true rfl) ?_
  intro p e s m args below meth c X hr hname
  generalize hF : ((fun r2 z => r2 = some (.int r.1) ∧ z = (L, r.2.1, r.2.2) ∧ (r.1 = 0 ∨ r.1 = 1)) : Option Value → zS → Prop) = FQ
  change Zw p l e { frames := 3, cells := 0, slots := 0, locals := 80 * (3) } s m args below meth c G b 2 (MQ below (zQ G b FQ) args s 0 0 (fun q : Nat => b ≤ q)) 0 0 0 [some (.ref Q), some (.int v0)] [] (L, M, N)
  obtain ⟨q_lt, q_o, q_draft, q_text, q_unitNames, q_hunterNames, q_partyNames, q_asked⟩ := id hQ
  obtain ⟨q_draft_lt, q_draft_o, q_draft_quota, q_draft_score, q_draft_guest, q_draft_party, q_draft_wishCount, q_draft_wishes, q_draft_has⟩ := id q_draft
  unfold D_X3_numberUpTo at h
  refine a_aload_n X dX3_numberUpTo_0 rfl ?_
  refine a_geti X lf3_74 (by assumption) rfl dX3_numberUpTo_1 ?_
  refine a_iconst (v := 2) X dX3_numberUpTo_4 (by decide) ?_
  refine a_icmp_eq (tgt := 14) X dX3_numberUpTo_5 (by decide) (fun h_5 => ?_) (fun h_5 => ?_)
  · replace h := (if_pos h_5).symm.trans h
    refine a_aload_n X dX3_numberUpTo_14 rfl ?_
    refine a_geti X lf3_110 (by assumption) rfl dX3_numberUpTo_15 ?_
    refine a_iload_n X dX3_numberUpTo_18 rfl ?_
    refine a_icmp_le (tgt := 28) X dX3_numberUpTo_19 (by decide) (fun h_19 => ?_) (fun h_19 => ?_)
    · replace h := (if_pos h_19).symm.trans h
      refine a_aload_n X dX3_numberUpTo_28 rfl ?_
      obtain ⟨e_29, f_29, h⟩ := zBx h
      refine a_callVu X dX3_numberUpTo_29 miX3_step lm3_71 (t_X3_step (by assumption) f_29) (by assumption) rfl rfl rfl (Nat.le_of_ble_eq_true rfl) ⟨by decide, by decide, by decide, by decide⟩ ?_
      refine a_iconst (v := 1) X dX3_numberUpTo_32 (by decide) ?_
      refine a_zret X (by first | exact Or.inl rfl | exact Or.inr rfl | assumption) hr dX3_numberUpTo_33 ⟨by decide, by decide⟩ ?_
      subst hF
      rw [← Option.some.inj h]
      exact ⟨rfl, rfl, (by first | exact Or.inl rfl | exact Or.inr rfl | assumption)⟩
    · replace h := (if_neg h_19).symm.trans h
      refine a_aload_n X dX3_numberUpTo_22 rfl ?_
      refine a_iconst (v := 3) X dX3_numberUpTo_23 (by decide) ?_
      obtain ⟨e_24, f_24, h⟩ := zBx h
      refine a_callVx X dX3_numberUpTo_24 miX3_fail lm3_148 (t_X3_fail (by assumption) f_24) (by assumption) rfl rfl rfl (Nat.le_of_ble_eq_true rfl) ⟨by decide, by decide, by decide, by decide⟩ (fun r_24 S_24 q_24 => ?_)
      obtain ⟨rfl, rfl, b_24⟩ := q_24
      refine a_zret X (by first | exact Or.inl rfl | exact Or.inr rfl | assumption) hr dX3_numberUpTo_27 ⟨by decide, by decide⟩ ?_
      subst hF
      rw [← Option.some.inj h]
      exact ⟨rfl, rfl, (by first | exact Or.inl rfl | exact Or.inr rfl | assumption)⟩
  · replace h := (if_neg h_5).symm.trans h
    refine a_aload_n X dX3_numberUpTo_8 rfl ?_
    refine a_iconst (v := 2) X dX3_numberUpTo_9 (by decide) ?_
    obtain ⟨e_10, f_10, h⟩ := zBx h
    refine a_callVx X dX3_numberUpTo_10 miX3_fail lm3_148 (t_X3_fail (by assumption) f_10) (by assumption) rfl rfl rfl (Nat.le_of_ble_eq_true rfl) ⟨by decide, by decide, by decide, by decide⟩ (fun r_10 S_10 q_10 => ?_)
    obtain ⟨rfl, rfl, b_10⟩ := q_10
    refine a_zret X (by first | exact Or.inl rfl | exact Or.inr rfl | assumption) hr dX3_numberUpTo_13 ⟨by decide, by decide⟩ ?_
    subst hF
    rw [← Option.some.inj h]
    exact ⟨rfl, rfl, (by first | exact Or.inl rfl | exact Or.inr rfl | assumption)⟩
noncomputable def D_X3_endOfLine (Q : Nat) (M : zMt) (N : zNt) : Option (Int32 × zMt × zNt) :=
  if (M Q 6) = (3 : Int32) then
    zB (D_X3_step Q M N) fun e_15 =>
    some ((1 : Int32), e_15.1, e_15.2)
  else
    zB (D_X3_fail Q (2 : Int32) M) fun e_10 =>
    some (e_10.1, e_10.2, N)
set_option maxRecDepth 100000 in
set_option maxHeartbeats 4000000 in
theorem t_X3_endOfLine {l : Launch} {G : zG} {b : Nat} {L : List zC} {M : zMt} {N : zNt} {Q : Nat} (hQ : LX3 L Q)  {r : Int32 × zMt × zNt} (h : D_X3_endOfLine Q M N = some r) : zM l G b yX3_endOfLine cX3_endOfLine 1 (some .boolean) 3 0 0 [.ref Q] (L, M, N) (fun r2 z => r2 = some (.int r.1) ∧ z = (L, r.2.1, r.2.2) ∧ (r.1 = 0 ∨ r.1 = 1)) := by
  refine zM.of miX3_endOfLine (Nat.le_of_ble_eq_true rfl) ?_
  intro p e s m args below meth c X hr hname
  generalize hF : ((fun r2 z => r2 = some (.int r.1) ∧ z = (L, r.2.1, r.2.2) ∧ (r.1 = 0 ∨ r.1 = 1)) : Option Value → zS → Prop) = FQ
  change Zw p l e { frames := 3, cells := 0, slots := 0, locals := 80 * (3) } s m args below meth c G b 1 (MQ below (zQ G b FQ) args s 0 0 (fun q : Nat => b ≤ q)) 0 0 0 [some (.ref Q)] [] (L, M, N)
  obtain ⟨q_lt, q_o, q_draft, q_text, q_unitNames, q_hunterNames, q_partyNames, q_asked⟩ := id hQ
  obtain ⟨q_draft_lt, q_draft_o, q_draft_quota, q_draft_score, q_draft_guest, q_draft_party, q_draft_wishCount, q_draft_wishes, q_draft_has⟩ := id q_draft
  unfold D_X3_endOfLine at h
  refine a_aload_n X dX3_endOfLine_0 rfl ?_
  refine a_geti X lf3_74 (by assumption) rfl dX3_endOfLine_1 ?_
  refine a_iconst (v := 3) X dX3_endOfLine_4 (by decide) ?_
  refine a_icmp_eq (tgt := 14) X dX3_endOfLine_5 (by decide) (fun h_5 => ?_) (fun h_5 => ?_)
  · replace h := (if_pos h_5).symm.trans h
    refine a_aload_n X dX3_endOfLine_14 rfl ?_
    obtain ⟨e_15, f_15, h⟩ := zBx h
    refine a_callVu X dX3_endOfLine_15 miX3_step lm3_71 (t_X3_step (by assumption) f_15) (by assumption) rfl rfl rfl (Nat.le_of_ble_eq_true rfl) ⟨by decide, by decide, by decide, by decide⟩ ?_
    refine a_iconst (v := 1) X dX3_endOfLine_18 (by decide) ?_
    refine a_zret X (by first | exact Or.inl rfl | exact Or.inr rfl | assumption) hr dX3_endOfLine_19 ⟨by decide, by decide⟩ ?_
    subst hF
    rw [← Option.some.inj h]
    exact ⟨rfl, rfl, (by first | exact Or.inl rfl | exact Or.inr rfl | assumption)⟩
  · replace h := (if_neg h_5).symm.trans h
    refine a_aload_n X dX3_endOfLine_8 rfl ?_
    refine a_iconst (v := 2) X dX3_endOfLine_9 (by decide) ?_
    obtain ⟨e_10, f_10, h⟩ := zBx h
    refine a_callVx X dX3_endOfLine_10 miX3_fail lm3_148 (t_X3_fail (by assumption) f_10) (by assumption) rfl rfl rfl (Nat.le_of_ble_eq_true rfl) ⟨by decide, by decide, by decide, by decide⟩ (fun r_10 S_10 q_10 => ?_)
    obtain ⟨rfl, rfl, b_10⟩ := q_10
    refine a_zret X (by first | exact Or.inl rfl | exact Or.inr rfl | assumption) hr dX3_endOfLine_13 ⟨by decide, by decide⟩ ?_
    subst hF
    rw [← Option.some.inj h]
    exact ⟨rfl, rfl, (by first | exact Or.inl rfl | exact Or.inr rfl | assumption)⟩
noncomputable def D_X4_addUnit (Q : Nat) (v0 : Int32) (M : zMt) : Option (zMt) :=
  zLt (zwr M (Q + 1) 5 (M Q 0) v0) fun M_9 =>
  zLt (zu M_9 Q 0 ((M_9 Q 0) + (1 : Int32))) fun M_19 =>
  some (M_19)
set_option maxRecDepth 100000 in
set_option maxHeartbeats 4000000 in
theorem t_X4_addUnit {l : Launch} {G : zG} {b : Nat} {L : List zC} {M : zMt} {N : zNt} {Q : Nat} (hQ : LX4 L Q) {v0 : Int32} {r : zMt} (h : D_X4_addUnit Q v0 M = some r) : zM l G b yX4_addUnit cX4_addUnit 2 none 1 0 0 [.ref Q, .int v0] (L, M, N) (fun r2 z => r2 = none ∧ z = (L, r, N)) := by
  refine zM.of miX4_addUnit (Nat.le_of_ble_eq_true rfl) ?_
  intro p e s m args below meth c X hr hname
  generalize hF : ((fun r2 z => r2 = none ∧ z = (L, r, N)) : Option Value → zS → Prop) = FQ
  change Zw p l e { frames := 1, cells := 0, slots := 0, locals := 80 * (1) } s m args below meth c G b 2 (MQ below (zQ G b FQ) args s 0 0 (fun q : Nat => b ≤ q)) 0 0 0 [some (.ref Q), some (.int v0)] [] (L, M, N)
  obtain ⟨q_lt, q_o, q_quota, q_score, q_guest, q_party, q_wishCount, q_wishes, q_has⟩ := id hQ
  unfold D_X4_addUnit at h
  refine a_aload_n X dX4_addUnit_0 rfl ?_
  refine a_getr X lf4_9 (by assumption) rfl (by omega) dX4_addUnit_1 ?_
  refine a_aload_n X dX4_addUnit_4 rfl ?_
  refine a_geti X lf4_33 (by assumption) rfl dX4_addUnit_5 ?_
  refine a_iload_n X dX4_addUnit_8 rfl ?_
  obtain ⟨M_9, f_9, h⟩ := zLtx h
  refine a_callSNu X dX4_addUnit_9 miX7_put lm4_63 (zMu (c_put (by assumption) (by first | decide | assumption)) f_9) rfl rfl (Nat.le_of_ble_eq_true rfl) ⟨by decide, by decide, by decide, by decide⟩ ?_
  refine a_aload_n X dX4_addUnit_12 rfl ?_
  refine a_dup X dX4_addUnit_13 rfl ?_
  refine a_geti X lf4_33 (by assumption) rfl dX4_addUnit_14 ?_
  refine a_iconst (v := 1) X dX4_addUnit_17 (by decide) ?_
  refine a_iadd X dX4_addUnit_18 ?_
  obtain ⟨M_19, f_19, h⟩ := zLtx h
  refine d_puti X lf4_33 (by assumption) rfl dX4_addUnit_19 f_19 ?_
  refine a_vret X hr dX4_addUnit_22 ⟨by decide, by decide⟩ ?_
  subst hF
  rw [← Option.some.inj h]
  exact ⟨rfl, rfl⟩
noncomputable def D_X3_readUnit_29 (Q : Nat) (M_29 : zMt) (N_29 : zNt) : Option (Int32 × zMt × zNt) :=
  some ((0 : Int32), M_29, N_29)
noncomputable def D_X3_readUnit (Q : Nat) (M : zMt) (N : zNt) : Option (Int32 × zMt × zNt) :=
  zB (D_X3_step Q M N) fun e_1 =>
  zB (D_X3_readNewName Q e_1.1 e_1.2) fun e_5 =>
  if e_5.1 = 0 then
    some ((0 : Int32), e_5.2.1, e_5.2.2)
  else
    zB (D_X3_numberUpTo Q (20 : Int32) e_5.2.1 e_5.2.2) fun e_16 =>
    if e_16.1 = 0 then
      D_X3_readUnit_29 Q e_16.2.1 e_16.2.2
    else
      zB (D_X3_endOfLine Q e_16.2.1 e_16.2.2) fun e_23 =>
      if e_23.1 = 0 then
        D_X3_readUnit_29 Q e_23.2.1 e_23.2.2
      else
        zLt (zwr e_23.2.2 (Q + 10) 5 (e_23.2.1 (Q + 1) 0) (e_23.2.2 Q 10)) fun N_46 =>
        zB (D_X4_addUnit (Q + 1) (e_23.2.1 Q 9) e_23.2.1) fun e_57 =>
        some ((1 : Int32), e_57, N_46)
set_option maxRecDepth 100000 in
set_option maxHeartbeats 4000000 in
theorem t_X3_readUnit {l : Launch} {G : zG} {b : Nat} {L : List zC} {M : zMt} {N : zNt} {Q : Nat} (hQ : LX3 L Q)  {r : Int32 × zMt × zNt} (h : D_X3_readUnit Q M N = some r) : zM l G b yX3_readUnit cX3_readUnit 1 (some .boolean) 7 0 0 [.ref Q] (L, M, N) (fun r2 z => r2 = some (.int r.1) ∧ z = (L, r.2.1, r.2.2) ∧ (r.1 = 0 ∨ r.1 = 1)) := by
  refine zM.of miX3_readUnit (Nat.le_of_ble_eq_true rfl) ?_
  intro p e s m args below meth c X hr hname
  generalize hF : ((fun r2 z => r2 = some (.int r.1) ∧ z = (L, r.2.1, r.2.2) ∧ (r.1 = 0 ∨ r.1 = 1)) : Option Value → zS → Prop) = FQ
  change Zw p l e { frames := 7, cells := 0, slots := 0, locals := 80 * (7) } s m args below meth c G b 1 (MQ below (zQ G b FQ) args s 0 0 (fun q : Nat => b ≤ q)) 0 0 0 [some (.ref Q)] [] (L, M, N)
  obtain ⟨q_lt, q_o, q_draft, q_text, q_unitNames, q_hunterNames, q_partyNames, q_asked⟩ := id hQ
  obtain ⟨q_draft_lt, q_draft_o, q_draft_quota, q_draft_score, q_draft_guest, q_draft_party, q_draft_wishCount, q_draft_wishes, q_draft_has⟩ := id q_draft
  have J_29 : ∀ (M_29 : zMt) (N_29 : zNt), D_X3_readUnit_29 Q M_29 N_29 = some r → Zw p l e { frames := 7, cells := 0, slots := 0, locals := 80 * (7) } s m args below meth c G b 1 (MQ below (zQ G b FQ) args s 0 0 (fun q : Nat => b ≤ q)) 0 0 29 [some (.ref (Q))] [] (L, M_29, N_29) := by
    intro M_29 N_29 h
    unfold D_X3_readUnit_29 at h
    refine a_iconst (v := 0) X dX3_readUnit_29 (by decide) ?_
    refine a_zret X (by first | exact Or.inl rfl | exact Or.inr rfl | assumption) hr dX3_readUnit_30 ⟨by decide, by decide⟩ ?_
    subst hF
    rw [← Option.some.inj h]
    exact ⟨rfl, rfl, (by first | exact Or.inl rfl | exact Or.inr rfl | assumption)⟩
  unfold D_X3_readUnit at h
  refine a_aload_n X dX3_readUnit_0 rfl ?_
  obtain ⟨e_1, f_1, h⟩ := zBx h
  refine a_callVu X dX3_readUnit_1 miX3_step lm3_71 (t_X3_step (by assumption) f_1) (by assumption) rfl rfl rfl (Nat.le_of_ble_eq_true rfl) ⟨by decide, by decide, by decide, by decide⟩ ?_
  refine a_aload_n X dX3_readUnit_4 rfl ?_
  obtain ⟨e_5, f_5, h⟩ := zBx h
  refine a_callVx X dX3_readUnit_5 miX3_readNewName lm3_175 (t_X3_readNewName (by assumption) f_5) (by assumption) rfl rfl rfl (Nat.le_of_ble_eq_true rfl) ⟨by decide, by decide, by decide, by decide⟩ (fun r_5 S_5 q_5 => ?_)
  obtain ⟨rfl, rfl, b_5⟩ := q_5
  refine a_if_ne (tgt := 13) X dX3_readUnit_8 (by decide) (fun h_8 => ?_) (fun h_8 => ?_)
  · replace h := (if_neg h_8).symm.trans h
    refine a_aload_n X dX3_readUnit_13 rfl ?_
    refine a_bipush (v := 20) X dX3_readUnit_14 (by decide) ?_
    obtain ⟨e_16, f_16, h⟩ := zBx h
    refine a_callVx X dX3_readUnit_16 miX3_numberUpTo lm3_178 (t_X3_numberUpTo (by assumption) f_16) (by assumption) rfl rfl rfl (Nat.le_of_ble_eq_true rfl) ⟨by decide, by decide, by decide, by decide⟩ (fun r_16 S_16 q_16 => ?_)
    obtain ⟨rfl, rfl, b_16⟩ := q_16
    refine a_if_eq (tgt := 29) X dX3_readUnit_19 (by decide) (fun h_19 => ?_) (fun h_19 => ?_)
    · replace h := (if_pos h_19).symm.trans h
      exact Zw.to2 (J_29 _ _ h) rfl rfl rfl
    · replace h := (if_neg h_19).symm.trans h
      refine a_aload_n X dX3_readUnit_22 rfl ?_
      obtain ⟨e_23, f_23, h⟩ := zBx h
      refine a_callVx X dX3_readUnit_23 miX3_endOfLine lm3_181 (t_X3_endOfLine (by assumption) f_23) (by assumption) rfl rfl rfl (Nat.le_of_ble_eq_true rfl) ⟨by decide, by decide, by decide, by decide⟩ (fun r_23 S_23 q_23 => ?_)
      obtain ⟨rfl, rfl, b_23⟩ := q_23
      refine a_if_ne (tgt := 31) X dX3_readUnit_26 (by decide) (fun h_26 => ?_) (fun h_26 => ?_)
      · replace h := (if_neg h_26).symm.trans h
        refine a_aload_n X dX3_readUnit_31 rfl ?_
        refine a_getr X lf3_29 (by assumption) rfl (by omega) dX3_readUnit_32 ?_
        refine a_aload_n X dX3_readUnit_35 rfl ?_
        refine a_getr X lf3_12 (by assumption) rfl (by omega) dX3_readUnit_36 ?_
        refine a_geti X lf3_142 (by assumption) rfl dX3_readUnit_39 ?_
        refine a_aload_n X dX3_readUnit_42 rfl ?_
        refine a_getl X lf3_184 (by assumption) rfl dX3_readUnit_43 ?_
        obtain ⟨N_46, f_46, h⟩ := zLtx h
        refine a_callSNu X dX3_readUnit_46 miX7_bigPut lm3_187 (zMuN (c_bigPut (by assumption) (by first | decide | assumption)) f_46) rfl rfl (Nat.le_of_ble_eq_true rfl) ⟨by decide, by decide, by decide, by decide⟩ ?_
        refine a_aload_n X dX3_readUnit_49 rfl ?_
        refine a_getr X lf3_12 (by assumption) rfl (by omega) dX3_readUnit_50 ?_
        refine a_aload_n X dX3_readUnit_53 rfl ?_
        refine a_geti X lf3_110 (by assumption) rfl dX3_readUnit_54 ?_
        obtain ⟨e_57, f_57, h⟩ := zBx h
        refine a_callVu X dX3_readUnit_57 miX4_addUnit lm3_191 (t_X4_addUnit (by assumption) f_57) (by assumption) rfl rfl rfl (Nat.le_of_ble_eq_true rfl) ⟨by decide, by decide, by decide, by decide⟩ ?_
        refine a_iconst (v := 1) X dX3_readUnit_60 (by decide) ?_
        refine a_zret X (by first | exact Or.inl rfl | exact Or.inr rfl | assumption) hr dX3_readUnit_61 ⟨by decide, by decide⟩ ?_
        subst hF
        rw [← Option.some.inj h]
        exact ⟨rfl, rfl, (by first | exact Or.inl rfl | exact Or.inr rfl | assumption)⟩
      · replace h := (if_pos h_26).symm.trans h
        exact Zw.to2 (J_29 _ _ h) rfl rfl rfl
  · replace h := (if_pos h_8).symm.trans h
    refine a_iconst (v := 0) X dX3_readUnit_11 (by decide) ?_
    refine a_zret X (by first | exact Or.inl rfl | exact Or.inr rfl | assumption) hr dX3_readUnit_12 ⟨by decide, by decide⟩ ?_
    subst hF
    rw [← Option.some.inj h]
    exact ⟨rfl, rfl, (by first | exact Or.inl rfl | exact Or.inr rfl | assumption)⟩
noncomputable def D_X4_addHunter_29 (Q : Nat) (y1_29 : Int32) (y2_29 : Int32) (M_29 : zMt) : Option (zMt) :=
  zLt (zwr M_29 (Q + 3) 10 y1_29 y2_29) fun M_29 =>
  zLt (zu M_29 Q 1 ((M_29 Q 1) + (1 : Int32))) fun M_39 =>
  some (M_39)
noncomputable def D_X4_addHunter (Q : Nat) (v0 : Int32) (v1 : Int32) (M : zMt) : Option (zMt) :=
  zLt (zwr M (Q + 2) 10 (M Q 1) v0) fun M_9 =>
  if v1 = 0 then
    D_X4_addHunter_29 Q (M_9 Q 1) (0 : Int32) M_9
  else
    D_X4_addHunter_29 Q (M_9 Q 1) (1 : Int32) M_9
set_option maxRecDepth 100000 in
set_option maxHeartbeats 4000000 in
theorem t_X4_addHunter {l : Launch} {G : zG} {b : Nat} {L : List zC} {M : zMt} {N : zNt} {Q : Nat} (hQ : LX4 L Q) (bv1 : v1 = 0 ∨ v1 = 1) {v0 : Int32} {v1 : Int32} {r : zMt} (h : D_X4_addHunter Q v0 v1 M = some r) : zM l G b yX4_addHunter cX4_addHunter 3 none 1 0 0 [.ref Q, .int v0, .int v1] (L, M, N) (fun r2 z => r2 = none ∧ z = (L, r, N)) := by
  refine zM.of miX4_addHunter (Nat.le_of_ble_eq_true rfl) ?_
  intro p e s m args below meth c X hr hname
  generalize hF : ((fun r2 z => r2 = none ∧ z = (L, r, N)) : Option Value → zS → Prop) = FQ
  change Zw p l e { frames := 1, cells := 0, slots := 0, locals := 80 * (1) } s m args below meth c G b 3 (MQ below (zQ G b FQ) args s 0 0 (fun q : Nat => b ≤ q)) 0 0 0 [some (.ref Q), some (.int v0), some (.int v1)] [] (L, M, N)
  obtain ⟨q_lt, q_o, q_quota, q_score, q_guest, q_party, q_wishCount, q_wishes, q_has⟩ := id hQ
  have J_29 : ∀ (x1_29 : Int32) (x2_29 : Int32) (y1_29 : Int32) (y2_29 : Int32) (M_29 : zMt), (y2_29 = 0 ∨ y2_29 = 1) → D_X4_addHunter_29 Q y1_29 y2_29 M_29 = some r → Zw p l e { frames := 1, cells := 0, slots := 0, locals := 80 * (1) } s m args below meth c G b 3 (MQ below (zQ G b FQ) args s 0 0 (fun q : Nat => b ≤ q)) 0 0 29 [some (.ref (Q)), some (.int x1_29), some (.int x2_29)] [.int y2_29, .int y1_29, .ref (Q + 3)] (L, M_29, N) := by
    intro x1_29 x2_29 y1_29 y2_29 M_29 fb_y2_29 h
    unfold D_X4_addHunter_29 at h
    obtain ⟨M_29, f_29, h⟩ := zLtx h
    refine a_callSNu X dX4_addHunter_29 miX7_put lm4_63 (zMu (c_put (by assumption) (by first | decide | assumption)) f_29) rfl rfl (Nat.le_of_ble_eq_true rfl) ⟨by decide, by decide, by decide, by decide⟩ ?_
    refine a_aload_n X dX4_addHunter_32 rfl ?_
    refine a_dup X dX4_addHunter_33 rfl ?_
    refine a_geti X lf4_37 (by assumption) rfl dX4_addHunter_34 ?_
    refine a_iconst (v := 1) X dX4_addHunter_37 (by decide) ?_
    refine a_iadd X dX4_addHunter_38 ?_
    obtain ⟨M_39, f_39, h⟩ := zLtx h
    refine d_puti X lf4_37 (by assumption) rfl dX4_addHunter_39 f_39 ?_
    refine a_vret X hr dX4_addHunter_42 ⟨by decide, by decide⟩ ?_
    subst hF
    rw [← Option.some.inj h]
    exact ⟨rfl, rfl⟩
  unfold D_X4_addHunter at h
  refine a_aload_n X dX4_addHunter_0 rfl ?_
  refine a_getr X lf4_15 (by assumption) rfl (by omega) dX4_addHunter_1 ?_
  refine a_aload_n X dX4_addHunter_4 rfl ?_
  refine a_geti X lf4_37 (by assumption) rfl dX4_addHunter_5 ?_
  refine a_iload_n X dX4_addHunter_8 rfl ?_
  obtain ⟨M_9, f_9, h⟩ := zLtx h
  refine a_callSNu X dX4_addHunter_9 miX7_put lm4_63 (zMu (c_put (by assumption) (by first | decide | assumption)) f_9) rfl rfl (Nat.le_of_ble_eq_true rfl) ⟨by decide, by decide, by decide, by decide⟩ ?_
  refine a_aload_n X dX4_addHunter_12 rfl ?_
  refine a_getr X lf4_18 (by assumption) rfl (by omega) dX4_addHunter_13 ?_
  refine a_aload_n X dX4_addHunter_16 rfl ?_
  refine a_geti X lf4_37 (by assumption) rfl dX4_addHunter_17 ?_
  refine a_iload_n X dX4_addHunter_20 rfl ?_
  refine a_if_eq (tgt := 28) X dX4_addHunter_21 (by decide) (fun h_21 => ?_) (fun h_21 => ?_)
  · replace h := (if_pos h_21).symm.trans h
    refine a_iconst (v := 0) X dX4_addHunter_28 (by decide) ?_
    exact Zw.to2 (J_29 _ _ _ _ _ (by first | exact Or.inl rfl | exact Or.inr rfl | assumption) h) rfl rfl rfl
  · replace h := (if_neg h_21).symm.trans h
    refine a_iconst (v := 1) X dX4_addHunter_24 (by decide) ?_
    refine a_goto (tgt := 29) X dX4_addHunter_25 (by decide) ?_
    exact Zw.to2 (J_29 _ _ _ _ _ (by first | exact Or.inl rfl | exact Or.inr rfl | assumption) h) rfl rfl rfl
noncomputable def D_X3_readHunter_39 (Q : Nat) (x1_39 : Int32) (M_39 : zMt) (N_39 : zNt) : Option (Int32 × zMt × zNt) :=
  zB (D_X3_endOfLine Q M_39 N_39) fun e_40 =>
  if e_40.1 = 0 then
    some ((0 : Int32), e_40.2.1, e_40.2.2)
  else
    zLt (zwr e_40.2.2 (Q + 11) 10 (e_40.2.1 (Q + 1) 1) (e_40.2.2 Q 10)) fun N_63 =>
    zB (D_X4_addHunter (Q + 1) (e_40.2.1 Q 9) x1_39 e_40.2.1) fun e_75 =>
    some ((1 : Int32), e_75, N_63)
noncomputable def D_X3_readHunter (Q : Nat) (M : zMt) (N : zNt) : Option (Int32 × zMt × zNt) :=
  zB (D_X3_step Q M N) fun e_1 =>
  zB (D_X3_readNewName Q e_1.1 e_1.2) fun e_5 =>
  if e_5.1 = 0 then
    some ((0 : Int32), e_5.2.1, e_5.2.2)
  else
    zB (D_X3_numberUpTo Q (20 : Int32) e_5.2.1 e_5.2.2) fun e_16 =>
    if e_16.1 = 0 then
      some ((0 : Int32), e_16.2.1, e_16.2.2)
    else
      zB (D_X3_says Q 2 e_16.2.1) fun e_27 =>
      if e_27 = 0 then
        D_X3_readHunter_39 Q e_27 e_16.2.1 e_16.2.2
      else
        zB (D_X3_step Q e_16.2.1 e_16.2.2) fun e_36 =>
        D_X3_readHunter_39 Q e_27 e_36.1 e_36.2
set_option maxRecDepth 100000 in
set_option maxHeartbeats 4000000 in
theorem t_X3_readHunter {l : Launch} {G : zG} {b : Nat} {L : List zC} {M : zMt} {N : zNt} {Q : Nat} (hQ : LX3 L Q)  {r : Int32 × zMt × zNt} (h : D_X3_readHunter Q M N = some r) : zM l G b yX3_readHunter cX3_readHunter 2 (some .boolean) 7 0 0 [.ref Q] (L, M, N) (fun r2 z => r2 = some (.int r.1) ∧ z = (L, r.2.1, r.2.2) ∧ (r.1 = 0 ∨ r.1 = 1)) := by
  refine zM.of miX3_readHunter (Nat.le_of_ble_eq_true rfl) ?_
  intro p e s m args below meth c X hr hname
  generalize hF : ((fun r2 z => r2 = some (.int r.1) ∧ z = (L, r.2.1, r.2.2) ∧ (r.1 = 0 ∨ r.1 = 1)) : Option Value → zS → Prop) = FQ
  change Zw p l e { frames := 7, cells := 0, slots := 0, locals := 80 * (7) } s m args below meth c G b 2 (MQ below (zQ G b FQ) args s 0 0 (fun q : Nat => b ≤ q)) 0 0 0 [some (.ref Q), none] [] (L, M, N)
  obtain ⟨q_lt, q_o, q_draft, q_text, q_unitNames, q_hunterNames, q_partyNames, q_asked⟩ := id hQ
  obtain ⟨q_draft_lt, q_draft_o, q_draft_quota, q_draft_score, q_draft_guest, q_draft_party, q_draft_wishCount, q_draft_wishes, q_draft_has⟩ := id q_draft
  have J_39 : ∀ (x1_39 : Int32) (M_39 : zMt) (N_39 : zNt), (x1_39 = 0 ∨ x1_39 = 1) → D_X3_readHunter_39 Q x1_39 M_39 N_39 = some r → Zw p l e { frames := 7, cells := 0, slots := 0, locals := 80 * (7) } s m args below meth c G b 2 (MQ below (zQ G b FQ) args s 0 0 (fun q : Nat => b ≤ q)) 0 0 39 [some (.ref (Q)), some (.int x1_39)] [] (L, M_39, N_39) := by
    intro x1_39 M_39 N_39 fb_x1_39 h
    unfold D_X3_readHunter_39 at h
    refine a_aload_n X dX3_readHunter_39 rfl ?_
    obtain ⟨e_40, f_40, h⟩ := zBx h
    refine a_callVx X dX3_readHunter_40 miX3_endOfLine lm3_181 (t_X3_endOfLine (by assumption) f_40) (by assumption) rfl rfl rfl (Nat.le_of_ble_eq_true rfl) ⟨by decide, by decide, by decide, by decide⟩ (fun r_40 S_40 q_40 => ?_)
    obtain ⟨rfl, rfl, b_40⟩ := q_40
    refine a_if_ne (tgt := 48) X dX3_readHunter_43 (by decide) (fun h_43 => ?_) (fun h_43 => ?_)
    · replace h := (if_neg h_43).symm.trans h
      refine a_aload_n X dX3_readHunter_48 rfl ?_
      refine a_getr X lf3_33 (by assumption) rfl (by omega) dX3_readHunter_49 ?_
      refine a_aload_n X dX3_readHunter_52 rfl ?_
      refine a_getr X lf3_12 (by assumption) rfl (by omega) dX3_readHunter_53 ?_
      refine a_geti X lf3_151 (by assumption) rfl dX3_readHunter_56 ?_
      refine a_aload_n X dX3_readHunter_59 rfl ?_
      refine a_getl X lf3_184 (by assumption) rfl dX3_readHunter_60 ?_
      obtain ⟨N_63, f_63, h⟩ := zLtx h
      refine a_callSNu X dX3_readHunter_63 miX7_bigPut lm3_187 (zMuN (c_bigPut (by assumption) (by first | decide | assumption)) f_63) rfl rfl (Nat.le_of_ble_eq_true rfl) ⟨by decide, by decide, by decide, by decide⟩ ?_
      refine a_aload_n X dX3_readHunter_66 rfl ?_
      refine a_getr X lf3_12 (by assumption) rfl (by omega) dX3_readHunter_67 ?_
      refine a_aload_n X dX3_readHunter_70 rfl ?_
      refine a_geti X lf3_110 (by assumption) rfl dX3_readHunter_71 ?_
      refine a_iload_n X dX3_readHunter_74 rfl ?_
      obtain ⟨e_75, f_75, h⟩ := zBx h
      refine a_callVu X dX3_readHunter_75 miX4_addHunter lm3_195 (t_X4_addHunter (by assumption) (by first | exact Or.inl rfl | exact Or.inr rfl | assumption) f_75) (by assumption) rfl rfl rfl (Nat.le_of_ble_eq_true rfl) ⟨by decide, by decide, by decide, by decide⟩ ?_
      refine a_iconst (v := 1) X dX3_readHunter_78 (by decide) ?_
      refine a_zret X (by first | exact Or.inl rfl | exact Or.inr rfl | assumption) hr dX3_readHunter_79 ⟨by decide, by decide⟩ ?_
      subst hF
      rw [← Option.some.inj h]
      exact ⟨rfl, rfl, (by first | exact Or.inl rfl | exact Or.inr rfl | assumption)⟩
    · replace h := (if_pos h_43).symm.trans h
      refine a_iconst (v := 0) X dX3_readHunter_46 (by decide) ?_
      refine a_zret X (by first | exact Or.inl rfl | exact Or.inr rfl | assumption) hr dX3_readHunter_47 ⟨by decide, by decide⟩ ?_
      subst hF
      rw [← Option.some.inj h]
      exact ⟨rfl, rfl, (by first | exact Or.inl rfl | exact Or.inr rfl | assumption)⟩
  unfold D_X3_readHunter at h
  refine a_aload_n X dX3_readHunter_0 rfl ?_
  obtain ⟨e_1, f_1, h⟩ := zBx h
  refine a_callVu X dX3_readHunter_1 miX3_step lm3_71 (t_X3_step (by assumption) f_1) (by assumption) rfl rfl rfl (Nat.le_of_ble_eq_true rfl) ⟨by decide, by decide, by decide, by decide⟩ ?_
  refine a_aload_n X dX3_readHunter_4 rfl ?_
  obtain ⟨e_5, f_5, h⟩ := zBx h
  refine a_callVx X dX3_readHunter_5 miX3_readNewName lm3_175 (t_X3_readNewName (by assumption) f_5) (by assumption) rfl rfl rfl (Nat.le_of_ble_eq_true rfl) ⟨by decide, by decide, by decide, by decide⟩ (fun r_5 S_5 q_5 => ?_)
  obtain ⟨rfl, rfl, b_5⟩ := q_5
  refine a_if_ne (tgt := 13) X dX3_readHunter_8 (by decide) (fun h_8 => ?_) (fun h_8 => ?_)
  · replace h := (if_neg h_8).symm.trans h
    refine a_aload_n X dX3_readHunter_13 rfl ?_
    refine a_bipush (v := 20) X dX3_readHunter_14 (by decide) ?_
    obtain ⟨e_16, f_16, h⟩ := zBx h
    refine a_callVx X dX3_readHunter_16 miX3_numberUpTo lm3_178 (t_X3_numberUpTo (by assumption) f_16) (by assumption) rfl rfl rfl (Nat.le_of_ble_eq_true rfl) ⟨by decide, by decide, by decide, by decide⟩ (fun r_16 S_16 q_16 => ?_)
    obtain ⟨rfl, rfl, b_16⟩ := q_16
    refine a_if_ne (tgt := 24) X dX3_readHunter_19 (by decide) (fun h_19 => ?_) (fun h_19 => ?_)
    · replace h := (if_neg h_19).symm.trans h
      refine a_aload_n X dX3_readHunter_24 rfl ?_
      refine a_ldcS (i := 2) (q := ("TagDraw$Reader", 130, "guest")) X rfl rfl rfl dX3_readHunter_25 ?_
      obtain ⟨e_27, f_27, h⟩ := zBx h
      refine a_callVx X dX3_readHunter_27 miX3_says lm3_124 (t_X3_says (by assumption) (by first | assumption | decide) f_27) (by assumption) rfl rfl rfl (Nat.le_of_ble_eq_true rfl) ⟨by decide, by decide, by decide, by decide⟩ (fun r_27 S_27 q_27 => ?_)
      obtain ⟨rfl, rfl, b_27⟩ := q_27
      refine a_istore_n X dX3_readHunter_30 (by decide) ?_
      refine a_iload_n X dX3_readHunter_31 rfl ?_
      refine a_if_eq (tgt := 39) X dX3_readHunter_32 (by decide) (fun h_32 => ?_) (fun h_32 => ?_)
      · replace h := (if_pos h_32).symm.trans h
        exact Zw.to2 (J_39 _ _ _ (by first | exact Or.inl rfl | exact Or.inr rfl | assumption) h) rfl rfl rfl
      · replace h := (if_neg h_32).symm.trans h
        refine a_aload_n X dX3_readHunter_35 rfl ?_
        obtain ⟨e_36, f_36, h⟩ := zBx h
        refine a_callVu X dX3_readHunter_36 miX3_step lm3_71 (t_X3_step (by assumption) f_36) (by assumption) rfl rfl rfl (Nat.le_of_ble_eq_true rfl) ⟨by decide, by decide, by decide, by decide⟩ ?_
        exact Zw.to2 (J_39 _ _ _ (by first | exact Or.inl rfl | exact Or.inr rfl | assumption) h) rfl rfl rfl
    · replace h := (if_pos h_19).symm.trans h
      refine a_iconst (v := 0) X dX3_readHunter_22 (by decide) ?_
      refine a_zret X (by first | exact Or.inl rfl | exact Or.inr rfl | assumption) hr dX3_readHunter_23 ⟨by decide, by decide⟩ ?_
      subst hF
      rw [← Option.some.inj h]
      exact ⟨rfl, rfl, (by first | exact Or.inl rfl | exact Or.inr rfl | assumption)⟩
  · replace h := (if_pos h_8).symm.trans h
    refine a_iconst (v := 0) X dX3_readHunter_11 (by decide) ?_
    refine a_zret X (by first | exact Or.inl rfl | exact Or.inr rfl | assumption) hr dX3_readHunter_12 ⟨by decide, by decide⟩ ?_
    subst hF
    rw [← Option.some.inj h]
    exact ⟨rfl, rfl, (by first | exact Or.inl rfl | exact Or.inr rfl | assumption)⟩
noncomputable def D_X3_isFree_39 (Q : Nat) (M : zMt) (y0_39 : Int32) : Option (Int32) :=
  some (y0_39)
noncomputable def D_X3_isFree_38 (Q : Nat) (M : zMt)  : Option (Int32) :=
  D_X3_isFree_39 Q M (0 : Int32)
noncomputable def D_X3_isFree (Q : Nat) (M : zMt) (v0 : Int32) : Option (Int32) :=
  if v0 = (-1 : Int32) then
    D_X3_isFree_38 Q M
  else
    if (zrd 0 (M (Q + 5)) 10 v0) = (-1 : Int32) then
      if (zrd 0 (M (Q + 6)) 10 v0) = 0 then
        D_X3_isFree_39 Q M (1 : Int32)
      else
        D_X3_isFree_38 Q M
    else
      D_X3_isFree_38 Q M
set_option maxRecDepth 100000 in
set_option maxHeartbeats 4000000 in
theorem t_X3_isFree {l : Launch} {G : zG} {b : Nat} {L : List zC} {M : zMt} {N : zNt} {Q : Nat} (hQ : LX3 L Q) {v0 : Int32} {r : Int32} (h : D_X3_isFree Q M v0 = some r) : zM l G b yX3_isFree cX3_isFree 2 (some .boolean) 1 0 0 [.ref Q, .int v0] (L, M, N) (fun r2 z => r2 = some (.int r) ∧ z = (L, M, N) ∧ (r = 0 ∨ r = 1)) := by
  refine zM.of miX3_isFree (Nat.le_of_ble_eq_true rfl) ?_
  intro p e s m args below meth c X hr hname
  generalize hF : ((fun r2 z => r2 = some (.int r) ∧ z = (L, M, N) ∧ (r = 0 ∨ r = 1)) : Option Value → zS → Prop) = FQ
  change Zw p l e { frames := 1, cells := 0, slots := 0, locals := 80 * (1) } s m args below meth c G b 2 (MQ below (zQ G b FQ) args s 0 0 (fun q : Nat => b ≤ q)) 0 0 0 [some (.ref Q), some (.int v0)] [] (L, M, N)
  obtain ⟨q_lt, q_o, q_draft, q_text, q_unitNames, q_hunterNames, q_partyNames, q_asked⟩ := id hQ
  obtain ⟨q_draft_lt, q_draft_o, q_draft_quota, q_draft_score, q_draft_guest, q_draft_party, q_draft_wishCount, q_draft_wishes, q_draft_has⟩ := id q_draft
  have J_39 : ∀ (x1_39 : Int32) (y0_39 : Int32), (y0_39 = 0 ∨ y0_39 = 1) → D_X3_isFree_39 Q M y0_39 = some r → Zw p l e { frames := 1, cells := 0, slots := 0, locals := 80 * (1) } s m args below meth c G b 2 (MQ below (zQ G b FQ) args s 0 0 (fun q : Nat => b ≤ q)) 0 0 39 [some (.ref (Q)), some (.int x1_39)] [.int y0_39] (L, M, N) := by
    intro x1_39 y0_39 fb_y0_39 h
    unfold D_X3_isFree_39 at h
    refine a_zret X (by first | exact Or.inl rfl | exact Or.inr rfl | assumption) hr dX3_isFree_39 ⟨by decide, by decide⟩ ?_
    subst hF
    rw [← Option.some.inj h]
    exact ⟨rfl, rfl, (by first | exact Or.inl rfl | exact Or.inr rfl | assumption)⟩
  have J_38 : ∀ (x1_38 : Int32), D_X3_isFree_38 Q M = some r → Zw p l e { frames := 1, cells := 0, slots := 0, locals := 80 * (1) } s m args below meth c G b 2 (MQ below (zQ G b FQ) args s 0 0 (fun q : Nat => b ≤ q)) 0 0 38 [some (.ref (Q)), some (.int x1_38)] [] (L, M, N) := by
    intro x1_38 h
    unfold D_X3_isFree_38 at h
    refine a_iconst (v := 0) X dX3_isFree_38 (by decide) ?_
    exact Zw.to2 (J_39 _ _ (by first | exact Or.inl rfl | exact Or.inr rfl | assumption) h) rfl rfl rfl
  unfold D_X3_isFree at h
  refine a_iload_n X dX3_isFree_0 rfl ?_
  refine a_iconst (v := -1) X dX3_isFree_1 (by decide) ?_
  refine a_icmp_eq (tgt := 38) X dX3_isFree_2 (by decide) (fun h_2 => ?_) (fun h_2 => ?_)
  · replace h := (if_pos h_2).symm.trans h
    exact Zw.to2 (J_38 _ h) rfl rfl rfl
  · replace h := (if_neg h_2).symm.trans h
    refine a_aload_n X dX3_isFree_5 rfl ?_
    refine a_getr X lf3_12 (by assumption) rfl (by omega) dX3_isFree_6 ?_
    refine a_getr X lf3_250 (by assumption) rfl (by omega) dX3_isFree_9 ?_
    refine a_iload_n X dX3_isFree_12 rfl ?_
    refine a_callSNv X dX3_isFree_13 miX7_cell lm3_81 (c_cell (by assumption) (by first | decide | assumption)) rfl rfl (Nat.le_of_ble_eq_true rfl) ⟨by decide, by decide, by decide, by decide⟩ ?_
    refine a_iconst (v := -1) X dX3_isFree_16 (by decide) ?_
    refine a_icmp_ne (tgt := 38) X dX3_isFree_17 (by decide) (fun h_17 => ?_) (fun h_17 => ?_)
    · replace h := (if_neg h_17).symm.trans h
      exact Zw.to2 (J_38 _ h) rfl rfl rfl
    · replace h := (if_pos h_17).symm.trans h
      refine a_aload_n X dX3_isFree_20 rfl ?_
      refine a_getr X lf3_12 (by assumption) rfl (by omega) dX3_isFree_21 ?_
      refine a_getr X lf3_252 (by assumption) rfl (by omega) dX3_isFree_24 ?_
      refine a_iload_n X dX3_isFree_27 rfl ?_
      refine a_callSNv X dX3_isFree_28 miX7_cell lm3_81 (c_cell (by assumption) (by first | decide | assumption)) rfl rfl (Nat.le_of_ble_eq_true rfl) ⟨by decide, by decide, by decide, by decide⟩ ?_
      refine a_if_ne (tgt := 38) X dX3_isFree_31 (by decide) (fun h_31 => ?_) (fun h_31 => ?_)
      · replace h := (if_neg h_31).symm.trans h
        exact Zw.to2 (J_38 _ h) rfl rfl rfl
      · replace h := (if_pos h_31).symm.trans h
        refine a_iconst (v := 1) X dX3_isFree_34 (by decide) ?_
        refine a_goto (tgt := 39) X dX3_isFree_35 (by decide) ?_
        exact Zw.to2 (J_39 _ _ (by first | exact Or.inl rfl | exact Or.inr rfl | assumption) h) rfl rfl rfl
noncomputable def D_X4_addParty_31 (Q : Nat) (k2 : Int32 → Int32 → zMt → Option (zMt)) (x1_31 : Int32) (x2_31 : Int32) (M_31 : zMt) : Option (zMt) :=
  k2 x1_31 (x2_31 + 1) M_31
noncomputable def D_X4_addParty_2 (Q : Nat) : Nat → Int32 → Int32 → zMt → Option (zMt)
  | 0, _, _, _ => none
  | n + 1, x1_2, x2_2, M_2 =>
    if (M_2 Q 1) ≤ x2_2 then
      zLt (zu M_2 Q 2 ((M_2 Q 2) + (1 : Int32))) fun M_44 =>
      some (M_44)
    else
      if ((x1_2 >>> (x2_2 &&& 31)) &&& (1 : Int32)) = (1 : Int32) then
        zLt (zwr M_2 (Q + 4) 10 x2_2 (M_2 Q 2)) fun M_28 =>
        D_X4_addParty_31 Q (D_X4_addParty_2 Q n) x1_2 x2_2 M_28
      else
        D_X4_addParty_31 Q (D_X4_addParty_2 Q n) x1_2 x2_2 M_2
noncomputable def D_X4_addParty (Q : Nat) (v0 : Int32) (M : zMt) : Option (zMt) :=
  D_X4_addParty_2 Q zFu v0 (0 : Int32) M
set_option maxRecDepth 100000 in
set_option maxHeartbeats 4000000 in
theorem t_X4_addParty {l : Launch} {G : zG} {b : Nat} {L : List zC} {M : zMt} {N : zNt} {Q : Nat} (hQ : LX4 L Q) {v0 : Int32} {r : zMt} (h : D_X4_addParty Q v0 M = some r) : zM l G b yX4_addParty cX4_addParty 3 none 1 0 0 [.ref Q, .int v0] (L, M, N) (fun r2 z => r2 = none ∧ z = (L, r, N)) := by
  refine zM.of miX4_addParty (Nat.le_of_ble_eq_true rfl) ?_
  intro p e s m args below meth c X hr hname
  generalize hF : ((fun r2 z => r2 = none ∧ z = (L, r, N)) : Option Value → zS → Prop) = FQ
  change Zw p l e { frames := 1, cells := 0, slots := 0, locals := 80 * (1) } s m args below meth c G b 3 (MQ below (zQ G b FQ) args s 0 0 (fun q : Nat => b ≤ q)) 0 0 0 [some (.ref Q), some (.int v0), none] [] (L, M, N)
  obtain ⟨q_lt, q_o, q_quota, q_score, q_guest, q_party, q_wishCount, q_wishes, q_has⟩ := id hQ
  have L_2 : ∀ u : Nat, ∀ (x1_2 : Int32) (x2_2 : Int32) (M_2 : zMt), D_X4_addParty_2 Q u x1_2 x2_2 M_2 = some r → Zw p l e { frames := 1, cells := 0, slots := 0, locals := 80 * (1) } s m args below meth c G b 3 (MQ below (zQ G b FQ) args s 0 0 (fun q : Nat => b ≤ q)) 0 0 2 [some (.ref (Q)), some (.int x1_2), some (.int x2_2)] [] (L, M_2, N) := by
    intro u
    induction u with
    | zero => intro x1_2 x2_2 M_2 h; cases (show none = some r from h)
    | succ u_2 ih_2 =>
      have J_31 : ∀ (x1_31 : Int32) (x2_31 : Int32) (M_31 : zMt), D_X4_addParty_31 Q (D_X4_addParty_2 Q u_2) x1_31 x2_31 M_31 = some r → Zw p l e { frames := 1, cells := 0, slots := 0, locals := 80 * (1) } s m args below meth c G b 3 (MQ below (zQ G b FQ) args s 0 0 (fun q : Nat => b ≤ q)) 0 0 31 [some (.ref (Q)), some (.int x1_31), some (.int x2_31)] [] (L, M_31, N) := by
        intro x1_31 x2_31 M_31 h
        unfold D_X4_addParty_31 at h
        refine a_iinc (v := x2_31 + 1) X dX4_addParty_31 (by decide) rfl zi_1 ?_
        refine a_goto (tgt := 2) X dX4_addParty_34 (by decide) ?_
        exact Zw.to2 (ih_2 _ _ _ h) rfl rfl rfl
      intro x1_2 x2_2 M_2 h
      rw [D_X4_addParty_2] at h
      refine a_iload_n X dX4_addParty_2 rfl ?_
      refine a_aload_n X dX4_addParty_3 rfl ?_
      refine a_geti X lf4_37 (by assumption) rfl dX4_addParty_4 ?_
      refine a_icmp_ge (tgt := 37) X dX4_addParty_7 (by decide) (fun h_7 => ?_) (fun h_7 => ?_)
      · replace h := (if_pos h_7).symm.trans h
        refine a_aload_n X dX4_addParty_37 rfl ?_
        refine a_dup X dX4_addParty_38 rfl ?_
        refine a_geti X lf4_40 (by assumption) rfl dX4_addParty_39 ?_
        refine a_iconst (v := 1) X dX4_addParty_42 (by decide) ?_
        refine a_iadd X dX4_addParty_43 ?_
        obtain ⟨M_44, f_44, h⟩ := zLtx h
        refine d_puti X lf4_40 (by assumption) rfl dX4_addParty_44 f_44 ?_
        refine a_vret X hr dX4_addParty_47 ⟨by decide, by decide⟩ ?_
        subst hF
        rw [← Option.some.inj h]
        exact ⟨rfl, rfl⟩
      · replace h := (if_neg h_7).symm.trans h
        refine a_iload_n X dX4_addParty_10 rfl ?_
        refine a_iload_n X dX4_addParty_11 rfl ?_
        refine a_ishr X dX4_addParty_12 ?_
        refine a_iconst (v := 1) X dX4_addParty_13 (by decide) ?_
        refine a_iand X dX4_addParty_14 ?_
        refine a_iconst (v := 1) X dX4_addParty_15 (by decide) ?_
        refine a_icmp_ne (tgt := 31) X dX4_addParty_16 (by decide) (fun h_16 => ?_) (fun h_16 => ?_)
        · replace h := (if_neg h_16).symm.trans h
          exact Zw.to2 (J_31 _ _ _ h) rfl rfl rfl
        · replace h := (if_pos h_16).symm.trans h
          refine a_aload_n X dX4_addParty_19 rfl ?_
          refine a_getr X lf4_21 (by assumption) rfl (by omega) dX4_addParty_20 ?_
          refine a_iload_n X dX4_addParty_23 rfl ?_
          refine a_aload_n X dX4_addParty_24 rfl ?_
          refine a_geti X lf4_40 (by assumption) rfl dX4_addParty_25 ?_
          obtain ⟨M_28, f_28, h⟩ := zLtx h
          refine a_callSNu X dX4_addParty_28 miX7_put lm4_63 (zMu (c_put (by assumption) (by first | decide | assumption)) f_28) rfl rfl (Nat.le_of_ble_eq_true rfl) ⟨by decide, by decide, by decide, by decide⟩ ?_
          exact Zw.to2 (J_31 _ _ _ h) rfl rfl rfl
  have H_2 : ∀ (x1_2 : Int32) (x2_2 : Int32) (M_2 : zMt), D_X4_addParty_2 Q zFu x1_2 x2_2 M_2 = some r → Zw p l e { frames := 1, cells := 0, slots := 0, locals := 80 * (1) } s m args below meth c G b 3 (MQ below (zQ G b FQ) args s 0 0 (fun q : Nat => b ≤ q)) 0 0 2 [some (.ref (Q)), some (.int x1_2), some (.int x2_2)] [] (L, M_2, N) := L_2 zFu
  unfold D_X4_addParty at h
  refine a_iconst (v := 0) X dX4_addParty_0 (by decide) ?_
  refine a_istore_n X dX4_addParty_1 (by decide) ?_
  exact Zw.to2 (H_2 _ _ _ h) rfl rfl rfl
noncomputable def D_X3_readParty_106 (Q : Nat) (x1_106 : Int32) (M_106 : zMt) (N_106 : zNt) : Option (Int32 × zMt × zNt) :=
  zB (D_X3_endOfLine Q M_106 N_106) fun e_107 =>
  if e_107.1 = 0 then
    some ((0 : Int32), e_107.2.1, e_107.2.2)
  else
    zLt (zwr e_107.2.2 (Q + 12) 4 (e_107.2.1 (Q + 1) 2) (e_107.2.2 Q 10)) fun N_130 =>
    zB (D_X4_addParty (Q + 1) x1_106 e_107.2.1) fun e_138 =>
    some ((1 : Int32), e_138, N_130)
noncomputable def D_X3_readParty_84 (Q : Nat) (M_84 : zMt) (N_84 : zNt) : Option (Int32 × zMt × zNt) :=
  zB (D_X3_fail Q (4 : Int32) M_84) fun e_86 =>
  some (e_86.1, e_86.2, N_84)
noncomputable def D_X3_readParty_35 (Q : Nat) (k17 : Int32 → Int32 → zMt → zNt → Option (Int32 × zMt × zNt)) (x1_35 : Int32) (x2_35 : Int32) (M_35 : zMt) (N_35 : zNt) : Option (Int32 × zMt × zNt) :=
  zB (D_X3_isName Q M_35) fun e_36 =>
  if e_36 = 0 then
    zB (D_X3_fail Q (2 : Int32) M_35) fun e_44 =>
    some (e_44.1, e_44.2, N_35)
  else
    zB (D_X3_find (Q + 11) 10 N_35 (M_35 (Q + 1) 1) (N_35 Q 8)) fun e_63 =>
    zB (D_X3_isFree Q M_35 e_63) fun e_69 =>
    if e_69 = 0 then
      D_X3_readParty_84 Q M_35 N_35
    else
      if ((x1_35 >>> (e_63 &&& 31)) &&& (1 : Int32)) = (1 : Int32) then
        D_X3_readParty_84 Q M_35 N_35
      else
        zB (D_X3_step Q M_35 N_35) fun e_97 =>
        k17 (x1_35 ||| ((1 : Int32) <<< (e_63 &&& 31))) (x2_35 + 1) e_97.1 e_97.2
noncomputable def D_X3_readParty_17 (Q : Nat) : Nat → Int32 → Int32 → zMt → zNt → Option (Int32 × zMt × zNt)
  | 0, _, _, _, _ => none
  | n + 1, x1_17, x2_17, M_17, N_17 =>
    if (4 : Int32) ≤ x2_17 then
      D_X3_readParty_106 Q x1_17 M_17 N_17
    else
      if x2_17 < (2 : Int32) then
        D_X3_readParty_35 Q (D_X3_readParty_17 Q n) x1_17 x2_17 M_17 N_17
      else
        if (M_17 Q 6) = (3 : Int32) then
          D_X3_readParty_106 Q x1_17 M_17 N_17
        else
          D_X3_readParty_35 Q (D_X3_readParty_17 Q n) x1_17 x2_17 M_17 N_17
noncomputable def D_X3_readParty (Q : Nat) (M : zMt) (N : zNt) : Option (Int32 × zMt × zNt) :=
  zB (D_X3_step Q M N) fun e_1 =>
  zB (D_X3_readNewName Q e_1.1 e_1.2) fun e_5 =>
  if e_5.1 = 0 then
    some ((0 : Int32), e_5.2.1, e_5.2.2)
  else
    D_X3_readParty_17 Q zFu (0 : Int32) (0 : Int32) e_5.2.1 e_5.2.2
set_option maxRecDepth 100000 in
set_option maxHeartbeats 4000000 in
theorem t_X3_readParty {l : Launch} {G : zG} {b : Nat} {L : List zC} {M : zMt} {N : zNt} {Q : Nat} (hQ : LX3 L Q)  {r : Int32 × zMt × zNt} (h : D_X3_readParty Q M N = some r) : zM l G b yX3_readParty cX3_readParty 4 (some .boolean) 7 0 0 [.ref Q] (L, M, N) (fun r2 z => r2 = some (.int r.1) ∧ z = (L, r.2.1, r.2.2) ∧ (r.1 = 0 ∨ r.1 = 1)) := by
  refine zM.of miX3_readParty (Nat.le_of_ble_eq_true rfl) ?_
  intro p e s m args below meth c X hr hname
  generalize hF : ((fun r2 z => r2 = some (.int r.1) ∧ z = (L, r.2.1, r.2.2) ∧ (r.1 = 0 ∨ r.1 = 1)) : Option Value → zS → Prop) = FQ
  change Zw p l e { frames := 7, cells := 0, slots := 0, locals := 80 * (7) } s m args below meth c G b 4 (MQ below (zQ G b FQ) args s 0 0 (fun q : Nat => b ≤ q)) 0 0 0 [some (.ref Q), none, none, none] [] (L, M, N)
  obtain ⟨q_lt, q_o, q_draft, q_text, q_unitNames, q_hunterNames, q_partyNames, q_asked⟩ := id hQ
  obtain ⟨q_draft_lt, q_draft_o, q_draft_quota, q_draft_score, q_draft_guest, q_draft_party, q_draft_wishCount, q_draft_wishes, q_draft_has⟩ := id q_draft
  have J_106 : ∀ (x1_106 : Int32) (x2_106 : Int32) (x3_106 : Option Value) (M_106 : zMt) (N_106 : zNt), D_X3_readParty_106 Q x1_106 M_106 N_106 = some r → Zw p l e { frames := 7, cells := 0, slots := 0, locals := 80 * (7) } s m args below meth c G b 4 (MQ below (zQ G b FQ) args s 0 0 (fun q : Nat => b ≤ q)) 0 0 106 [some (.ref (Q)), some (.int x1_106), some (.int x2_106), x3_106] [] (L, M_106, N_106) := by
    intro x1_106 x2_106 x3_106 M_106 N_106 h
    unfold D_X3_readParty_106 at h
    refine a_aload_n X dX3_readParty_106 rfl ?_
    obtain ⟨e_107, f_107, h⟩ := zBx h
    refine a_callVx X dX3_readParty_107 miX3_endOfLine lm3_181 (t_X3_endOfLine (by assumption) f_107) (by assumption) rfl rfl rfl (Nat.le_of_ble_eq_true rfl) ⟨by decide, by decide, by decide, by decide⟩ (fun r_107 S_107 q_107 => ?_)
    obtain ⟨rfl, rfl, b_107⟩ := q_107
    refine a_if_ne (tgt := 115) X dX3_readParty_110 (by decide) (fun h_110 => ?_) (fun h_110 => ?_)
    · replace h := (if_neg h_110).symm.trans h
      refine a_aload_n X dX3_readParty_115 rfl ?_
      refine a_getr X lf3_36 (by assumption) rfl (by omega) dX3_readParty_116 ?_
      refine a_aload_n X dX3_readParty_119 rfl ?_
      refine a_getr X lf3_12 (by assumption) rfl (by omega) dX3_readParty_120 ?_
      refine a_geti X lf3_157 (by assumption) rfl dX3_readParty_123 ?_
      refine a_aload_n X dX3_readParty_126 rfl ?_
      refine a_getl X lf3_184 (by assumption) rfl dX3_readParty_127 ?_
      obtain ⟨N_130, f_130, h⟩ := zLtx h
      refine a_callSNu X dX3_readParty_130 miX7_bigPut lm3_187 (zMuN (c_bigPut (by assumption) (by first | decide | assumption)) f_130) rfl rfl (Nat.le_of_ble_eq_true rfl) ⟨by decide, by decide, by decide, by decide⟩ ?_
      refine a_aload_n X dX3_readParty_133 rfl ?_
      refine a_getr X lf3_12 (by assumption) rfl (by omega) dX3_readParty_134 ?_
      refine a_iload_n X dX3_readParty_137 rfl ?_
      obtain ⟨e_138, f_138, h⟩ := zBx h
      refine a_callVu X dX3_readParty_138 miX4_addParty lm3_209 (t_X4_addParty (by assumption) f_138) (by assumption) rfl rfl rfl (Nat.le_of_ble_eq_true rfl) ⟨by decide, by decide, by decide, by decide⟩ ?_
      refine a_iconst (v := 1) X dX3_readParty_141 (by decide) ?_
      refine a_zret X (by first | exact Or.inl rfl | exact Or.inr rfl | assumption) hr dX3_readParty_142 ⟨by decide, by decide⟩ ?_
      subst hF
      rw [← Option.some.inj h]
      exact ⟨rfl, rfl, (by first | exact Or.inl rfl | exact Or.inr rfl | assumption)⟩
    · replace h := (if_pos h_110).symm.trans h
      refine a_iconst (v := 0) X dX3_readParty_113 (by decide) ?_
      refine a_zret X (by first | exact Or.inl rfl | exact Or.inr rfl | assumption) hr dX3_readParty_114 ⟨by decide, by decide⟩ ?_
      subst hF
      rw [← Option.some.inj h]
      exact ⟨rfl, rfl, (by first | exact Or.inl rfl | exact Or.inr rfl | assumption)⟩
  have J_84 : ∀ (x1_84 : Int32) (x2_84 : Int32) (x3_84 : Int32) (M_84 : zMt) (N_84 : zNt), D_X3_readParty_84 Q M_84 N_84 = some r → Zw p l e { frames := 7, cells := 0, slots := 0, locals := 80 * (7) } s m args below meth c G b 4 (MQ below (zQ G b FQ) args s 0 0 (fun q : Nat => b ≤ q)) 0 0 84 [some (.ref (Q)), some (.int x1_84), some (.int x2_84), some (.int x3_84)] [] (L, M_84, N_84) := by
    intro x1_84 x2_84 x3_84 M_84 N_84 h
    unfold D_X3_readParty_84 at h
    refine a_aload_n X dX3_readParty_84 rfl ?_
    refine a_iconst (v := 4) X dX3_readParty_85 (by decide) ?_
    obtain ⟨e_86, f_86, h⟩ := zBx h
    refine a_callVx X dX3_readParty_86 miX3_fail lm3_148 (t_X3_fail (by assumption) f_86) (by assumption) rfl rfl rfl (Nat.le_of_ble_eq_true rfl) ⟨by decide, by decide, by decide, by decide⟩ (fun r_86 S_86 q_86 => ?_)
    obtain ⟨rfl, rfl, b_86⟩ := q_86
    refine a_zret X (by first | exact Or.inl rfl | exact Or.inr rfl | assumption) hr dX3_readParty_89 ⟨by decide, by decide⟩ ?_
    subst hF
    rw [← Option.some.inj h]
    exact ⟨rfl, rfl, (by first | exact Or.inl rfl | exact Or.inr rfl | assumption)⟩
  have L_17 : ∀ u : Nat, ∀ (x1_17 : Int32) (x2_17 : Int32) (x3_17 : Option Value) (M_17 : zMt) (N_17 : zNt), D_X3_readParty_17 Q u x1_17 x2_17 M_17 N_17 = some r → Zw p l e { frames := 7, cells := 0, slots := 0, locals := 80 * (7) } s m args below meth c G b 4 (MQ below (zQ G b FQ) args s 0 0 (fun q : Nat => b ≤ q)) 0 0 17 [some (.ref (Q)), some (.int x1_17), some (.int x2_17), x3_17] [] (L, M_17, N_17) := by
    intro u
    induction u with
    | zero => intro x1_17 x2_17 x3_17 M_17 N_17 h; cases (show none = some r from h)
    | succ u_17 ih_17 =>
      have J_35 : ∀ (x1_35 : Int32) (x2_35 : Int32) (x3_35 : Option Value) (M_35 : zMt) (N_35 : zNt), D_X3_readParty_35 Q (D_X3_readParty_17 Q u_17) x1_35 x2_35 M_35 N_35 = some r → Zw p l e { frames := 7, cells := 0, slots := 0, locals := 80 * (7) } s m args below meth c G b 4 (MQ below (zQ G b FQ) args s 0 0 (fun q : Nat => b ≤ q)) 0 0 35 [some (.ref (Q)), some (.int x1_35), some (.int x2_35), x3_35] [] (L, M_35, N_35) := by
        intro x1_35 x2_35 x3_35 M_35 N_35 h
        unfold D_X3_readParty_35 at h
        refine a_aload_n X dX3_readParty_35 rfl ?_
        obtain ⟨e_36, f_36, h⟩ := zBx h
        refine a_callVx X dX3_readParty_36 miX3_isName lm3_199 (t_X3_isName (by assumption) f_36) (by assumption) rfl rfl rfl (Nat.le_of_ble_eq_true rfl) ⟨by decide, by decide, by decide, by decide⟩ (fun r_36 S_36 q_36 => ?_)
        obtain ⟨rfl, rfl, b_36⟩ := q_36
        refine a_if_ne (tgt := 48) X dX3_readParty_39 (by decide) (fun h_39 => ?_) (fun h_39 => ?_)
        · replace h := (if_neg h_39).symm.trans h
          refine a_aload_n X dX3_readParty_48 rfl ?_
          refine a_getr X lf3_33 (by assumption) rfl (by omega) dX3_readParty_49 ?_
          refine a_aload_n X dX3_readParty_52 rfl ?_
          refine a_getr X lf3_12 (by assumption) rfl (by omega) dX3_readParty_53 ?_
          refine a_geti X lf3_151 (by assumption) rfl dX3_readParty_56 ?_
          refine a_aload_n X dX3_readParty_59 rfl ?_
          refine a_getl X lf3_104 (by assumption) rfl dX3_readParty_60 ?_
          obtain ⟨e_63, f_63, h⟩ := zBx h
          refine a_callSv X dX3_readParty_63 miX3_find lm3_202 (t_X3_find (by assumption) (by first | decide | assumption) f_63) rfl rfl (Nat.le_of_ble_eq_true rfl) ⟨by decide, by decide, by decide, by decide⟩ ?_
          refine a_istore_n X dX3_readParty_66 (by decide) ?_
          refine a_aload_n X dX3_readParty_67 rfl ?_
          refine a_iload_n X dX3_readParty_68 rfl ?_
          obtain ⟨e_69, f_69, h⟩ := zBx h
          refine a_callVx X dX3_readParty_69 miX3_isFree lm3_206 (t_X3_isFree (by assumption) f_69) (by assumption) rfl rfl rfl (Nat.le_of_ble_eq_true rfl) ⟨by decide, by decide, by decide, by decide⟩ (fun r_69 S_69 q_69 => ?_)
          obtain ⟨rfl, rfl, b_69⟩ := q_69
          refine a_if_eq (tgt := 84) X dX3_readParty_72 (by decide) (fun h_72 => ?_) (fun h_72 => ?_)
          · replace h := (if_pos h_72).symm.trans h
            exact Zw.to2 (J_84 _ _ _ _ _ h) rfl rfl rfl
          · replace h := (if_neg h_72).symm.trans h
            refine a_iload_n X dX3_readParty_75 rfl ?_
            refine a_iload_n X dX3_readParty_76 rfl ?_
            refine a_ishr X dX3_readParty_77 ?_
            refine a_iconst (v := 1) X dX3_readParty_78 (by decide) ?_
            refine a_iand X dX3_readParty_79 ?_
            refine a_iconst (v := 1) X dX3_readParty_80 (by decide) ?_
            refine a_icmp_ne (tgt := 90) X dX3_readParty_81 (by decide) (fun h_81 => ?_) (fun h_81 => ?_)
            · replace h := (if_neg h_81).symm.trans h
              refine a_iload_n X dX3_readParty_90 rfl ?_
              refine a_iconst (v := 1) X dX3_readParty_91 (by decide) ?_
              refine a_iload_n X dX3_readParty_92 rfl ?_
              refine a_ishl X dX3_readParty_93 ?_
              refine a_ior X dX3_readParty_94 ?_
              refine a_istore_n X dX3_readParty_95 (by decide) ?_
              refine a_aload_n X dX3_readParty_96 rfl ?_
              obtain ⟨e_97, f_97, h⟩ := zBx h
              refine a_callVu X dX3_readParty_97 miX3_step lm3_71 (t_X3_step (by assumption) f_97) (by assumption) rfl rfl rfl (Nat.le_of_ble_eq_true rfl) ⟨by decide, by decide, by decide, by decide⟩ ?_
              refine a_iinc (v := x2_35 + 1) X dX3_readParty_100 (by decide) rfl zi_1 ?_
              refine a_goto (tgt := 17) X dX3_readParty_103 (by decide) ?_
              exact Zw.to2 (ih_17 _ _ _ _ _ h) rfl rfl rfl
            · replace h := (if_pos h_81).symm.trans h
              exact Zw.to2 (J_84 _ _ _ _ _ h) rfl rfl rfl
        · replace h := (if_pos h_39).symm.trans h
          refine a_aload_n X dX3_readParty_42 rfl ?_
          refine a_iconst (v := 2) X dX3_readParty_43 (by decide) ?_
          obtain ⟨e_44, f_44, h⟩ := zBx h
          refine a_callVx X dX3_readParty_44 miX3_fail lm3_148 (t_X3_fail (by assumption) f_44) (by assumption) rfl rfl rfl (Nat.le_of_ble_eq_true rfl) ⟨by decide, by decide, by decide, by decide⟩ (fun r_44 S_44 q_44 => ?_)
          obtain ⟨rfl, rfl, b_44⟩ := q_44
          refine a_zret X (by first | exact Or.inl rfl | exact Or.inr rfl | assumption) hr dX3_readParty_47 ⟨by decide, by decide⟩ ?_
          subst hF
          rw [← Option.some.inj h]
          exact ⟨rfl, rfl, (by first | exact Or.inl rfl | exact Or.inr rfl | assumption)⟩
      intro x1_17 x2_17 x3_17 M_17 N_17 h
      rw [D_X3_readParty_17] at h
      refine a_iload_n X dX3_readParty_17 rfl ?_
      refine a_iconst (v := 4) X dX3_readParty_18 (by decide) ?_
      refine a_icmp_ge (tgt := 106) X dX3_readParty_19 (by decide) (fun h_19 => ?_) (fun h_19 => ?_)
      · replace h := (if_pos h_19).symm.trans h
        exact Zw.to2 (J_106 _ _ _ _ _ h) rfl rfl rfl
      · replace h := (if_neg h_19).symm.trans h
        refine a_iload_n X dX3_readParty_22 rfl ?_
        refine a_iconst (v := 2) X dX3_readParty_23 (by decide) ?_
        refine a_icmp_lt (tgt := 35) X dX3_readParty_24 (by decide) (fun h_24 => ?_) (fun h_24 => ?_)
        · replace h := (if_pos h_24).symm.trans h
          exact Zw.to2 (J_35 _ _ _ _ _ h) rfl rfl rfl
        · replace h := (if_neg h_24).symm.trans h
          refine a_aload_n X dX3_readParty_27 rfl ?_
          refine a_geti X lf3_74 (by assumption) rfl dX3_readParty_28 ?_
          refine a_iconst (v := 3) X dX3_readParty_31 (by decide) ?_
          refine a_icmp_eq (tgt := 106) X dX3_readParty_32 (by decide) (fun h_32 => ?_) (fun h_32 => ?_)
          · replace h := (if_pos h_32).symm.trans h
            exact Zw.to2 (J_106 _ _ _ _ _ h) rfl rfl rfl
          · replace h := (if_neg h_32).symm.trans h
            exact Zw.to2 (J_35 _ _ _ _ _ h) rfl rfl rfl
  have H_17 : ∀ (x1_17 : Int32) (x2_17 : Int32) (x3_17 : Option Value) (M_17 : zMt) (N_17 : zNt), D_X3_readParty_17 Q zFu x1_17 x2_17 M_17 N_17 = some r → Zw p l e { frames := 7, cells := 0, slots := 0, locals := 80 * (7) } s m args below meth c G b 4 (MQ below (zQ G b FQ) args s 0 0 (fun q : Nat => b ≤ q)) 0 0 17 [some (.ref (Q)), some (.int x1_17), some (.int x2_17), x3_17] [] (L, M_17, N_17) := L_17 zFu
  unfold D_X3_readParty at h
  refine a_aload_n X dX3_readParty_0 rfl ?_
  obtain ⟨e_1, f_1, h⟩ := zBx h
  refine a_callVu X dX3_readParty_1 miX3_step lm3_71 (t_X3_step (by assumption) f_1) (by assumption) rfl rfl rfl (Nat.le_of_ble_eq_true rfl) ⟨by decide, by decide, by decide, by decide⟩ ?_
  refine a_aload_n X dX3_readParty_4 rfl ?_
  obtain ⟨e_5, f_5, h⟩ := zBx h
  refine a_callVx X dX3_readParty_5 miX3_readNewName lm3_175 (t_X3_readNewName (by assumption) f_5) (by assumption) rfl rfl rfl (Nat.le_of_ble_eq_true rfl) ⟨by decide, by decide, by decide, by decide⟩ (fun r_5 S_5 q_5 => ?_)
  obtain ⟨rfl, rfl, b_5⟩ := q_5
  refine a_if_ne (tgt := 13) X dX3_readParty_8 (by decide) (fun h_8 => ?_) (fun h_8 => ?_)
  · replace h := (if_neg h_8).symm.trans h
    refine a_iconst (v := 0) X dX3_readParty_13 (by decide) ?_
    refine a_istore_n X dX3_readParty_14 (by decide) ?_
    refine a_iconst (v := 0) X dX3_readParty_15 (by decide) ?_
    refine a_istore_n X dX3_readParty_16 (by decide) ?_
    exact Zw.to2 (H_17 _ _ _ _ _ h) rfl rfl rfl
  · replace h := (if_pos h_8).symm.trans h
    refine a_iconst (v := 0) X dX3_readParty_11 (by decide) ?_
    refine a_zret X (by first | exact Or.inl rfl | exact Or.inr rfl | assumption) hr dX3_readParty_12 ⟨by decide, by decide⟩ ?_
    subst hF
    rw [← Option.some.inj h]
    exact ⟨rfl, rfl, (by first | exact Or.inl rfl | exact Or.inr rfl | assumption)⟩
