noncomputable def D_X4_addHunter_29 (Q : Nat) (y1_29 : Int32) (y2_29 : Int32) (M_29 : zMt) : Option (zMt) :=
  zLt (zwr M_29 (Q + 3) 10 y1_29 y2_29) fun M_29 =>
  zLt (zu M_29 Q 1 ((M_29 Q 1) + (1 : Int32))) fun M_39 =>
  some (M_39)
noncomputable def D_X4_addHunter (Q : Nat) (v0 : Int32) (v1 : Int32) (M : zMt) : Option (zMt) :=
  zLt (zwr M (Q + 2) 10 (M Q 1) v0) fun M_9 =>
  if v1 = 0 then
    D_X4_addHunter_29 Q (M_9 Q 1) (0 : Int32) M_9
  else
    D_X4_addHunter_29 Q (M_9 Q 1) (1 : Int32) M_9
set_option maxRecDepth 100000 in
set_option maxHeartbeats 4000000 in
theorem t_X4_addHunter {l : Launch} {G : zG} {b : Nat} {L : List zC} {M : zMt} {N : zNt} {Q : Nat} {v0 : Int32} {v1 : Int32} (hQ : LX4 L Q) (bv1 : v1 = 0 ∨ v1 = 1) {r : zMt} (h : D_X4_addHunter Q v0 v1 M = some r) : zM l G b yX4_addHunter cX4_addHunter 3 none 1 0 0 [.ref Q, .int v0, .int v1] (L, M, N) (fun r2 z => r2 = none ∧ z = (L, r, N)) := by
  refine zM.of miX4_addHunter (Nat.le_of_ble_eq_true rfl) ?_
  intro p e s m args below meth c X hr hname
  generalize hF : ((fun r2 z => r2 = none ∧ z = (L, r, N)) : Option Value → zS → Prop) = FQ
  change Zw p l e { frames := 1, cells := 0, slots := 0, locals := 80 * (1) } s m args below meth c G b 3 (MQ below (zQ G b FQ) args s 0 0 (fun q : Nat => b ≤ q)) 0 0 0 [some (.ref Q), some (.int v0), some (.int v1)] [] (L, M, N)
  obtain ⟨q_lt, q_o, q_quota, q_score, q_guest, q_party, q_wishCount, q_wishes, q_has⟩ := id hQ
  have J_29 : ∀ (x1_29 : Int32) (x2_29 : Int32) (y1_29 : Int32) (y2_29 : Int32) (M_29 : zMt), (y2_29 = 0 ∨ y2_29 = 1) → D_X4_addHunter_29 Q y1_29 y2_29 M_29 = some r → Zw p l e { frames := 1, cells := 0, slots := 0, locals := 80 * (1) } s m args below meth c G b 3 (MQ below (zQ G b FQ) args s 0 0 (fun q : Nat => b ≤ q)) 0 0 29 [some (.ref (Q)), some (.int x1_29), some (.int x2_29)] [.int y2_29, .int y1_29, .ref (Q + 3)] (L, M_29, N) := by
    intro x1_29 x2_29 y1_29 y2_29 M_29 fb_y2_29 h
    unfold D_X4_addHunter_29 at h
    obtain ⟨M_29, f_29, h⟩ := zLtx h
    refine a_callSNu X dX4_addHunter_29 miX7_put lm4_63 (zMu (c_put (by assumption) (by first | decide | assumption)) f_29) rfl rfl (Nat.le_of_ble_eq_true rfl) ⟨by decide, by decide, by decide, by decide⟩ ?_
    refine a_aload_n X dX4_addHunter_32 rfl ?_
    refine a_dup X dX4_addHunter_33 rfl ?_
    refine a_geti X lf4_37 (by assumption) rfl dX4_addHunter_34 ?_
    refine a_iconst (v := 1) X dX4_addHunter_37 (by decide) ?_
    refine a_iadd X dX4_addHunter_38 ?_
    obtain ⟨M_39, f_39, h⟩ := zLtx h
    refine d_puti X lf4_37 (by assumption) rfl dX4_addHunter_39 f_39 ?_
    refine a_vret X hr dX4_addHunter_42 ⟨by decide, by decide⟩ ?_
    subst hF
    rw [← Option.some.inj h]
    exact ⟨rfl, rfl⟩
  unfold D_X4_addHunter at h
  refine a_aload_n X dX4_addHunter_0 rfl ?_
  refine a_getr X lf4_15 (by assumption) rfl (by omega) dX4_addHunter_1 ?_
  refine a_aload_n X dX4_addHunter_4 rfl ?_
  refine a_geti X lf4_37 (by assumption) rfl dX4_addHunter_5 ?_
  refine a_iload_n X dX4_addHunter_8 rfl ?_
  obtain ⟨M_9, f_9, h⟩ := zLtx h
  refine a_callSNu X dX4_addHunter_9 miX7_put lm4_63 (zMu (c_put (by assumption) (by first | decide | assumption)) f_9) rfl rfl (Nat.le_of_ble_eq_true rfl) ⟨by decide, by decide, by decide, by decide⟩ ?_
  refine a_aload_n X dX4_addHunter_12 rfl ?_
  refine a_getr X lf4_18 (by assumption) rfl (by omega) dX4_addHunter_13 ?_
  refine a_aload_n X dX4_addHunter_16 rfl ?_
  refine a_geti X lf4_37 (by assumption) rfl dX4_addHunter_17 ?_
  refine a_iload_n X dX4_addHunter_20 rfl ?_
  refine a_if_eq (tgt := 28) X dX4_addHunter_21 (by decide) (fun h_21 => ?_) (fun h_21 => ?_)
  · replace h := (if_pos h_21).symm.trans h
    refine a_iconst (v := 0) X dX4_addHunter_28 (by decide) ?_
    exact Zw.to2 (J_29 _ _ _ _ _ (by first | exact Or.inl rfl | exact Or.inr rfl | assumption) h) rfl rfl rfl
  · replace h := (if_neg h_21).symm.trans h
    refine a_iconst (v := 1) X dX4_addHunter_24 (by decide) ?_
    refine a_goto (tgt := 29) X dX4_addHunter_25 (by decide) ?_
    exact Zw.to2 (J_29 _ _ _ _ _ (by first | exact Or.inl rfl | exact Or.inr rfl | assumption) h) rfl rfl rfl
noncomputable def D_X3_readHunter_39 (Q : Nat) (x1_39 : Int32) (M_39 : zMt) (N_39 : zNt) : Option (Int32 × zMt × zNt) :=
  zB (D_X3_endOfLine Q M_39 N_39) fun e_40 =>
  if e_40.1 = 0 then
    some ((0 : Int32), e_40.2.1, e_40.2.2)
  else
    zLt (zwr e_40.2.2 (Q + 11) 10 (e_40.2.1 (Q + 1) 1) (e_40.2.2 Q 10)) fun N_63 =>
    zB (D_X4_addHunter (Q + 1) (e_40.2.1 Q 9) x1_39 e_40.2.1) fun e_75 =>
    some ((1 : Int32), e_75, N_63)
noncomputable def D_X3_readHunter (Q : Nat) (M : zMt) (N : zNt) : Option (Int32 × zMt × zNt) :=
  zB (D_X3_step Q M N) fun e_1 =>
  zB (D_X3_readNewName Q e_1.1 e_1.2) fun e_5 =>
  if e_5.1 = 0 then
    some ((0 : Int32), e_5.2.1, e_5.2.2)
  else
    zB (D_X3_numberUpTo Q (20 : Int32) e_5.2.1 e_5.2.2) fun e_16 =>
    if e_16.1 = 0 then
      some ((0 : Int32), e_16.2.1, e_16.2.2)
    else
      zB (D_X3_says Q 2 e_16.2.1) fun e_27 =>
      if e_27 = 0 then
        D_X3_readHunter_39 Q e_27 e_16.2.1 e_16.2.2
      else
        zB (D_X3_step Q e_16.2.1 e_16.2.2) fun e_36 =>
        D_X3_readHunter_39 Q e_27 e_36.1 e_36.2
set_option maxRecDepth 100000 in
set_option maxHeartbeats 4000000 in
theorem t_X3_readHunter {l : Launch} {G : zG} {b : Nat} {L : List zC} {M : zMt} {N : zNt} {Q : Nat}  (hQ : LX3 L Q) {r : Int32 × zMt × zNt} (h : D_X3_readHunter Q M N = some r) : zM l G b yX3_readHunter cX3_readHunter 2 (some .boolean) 7 0 0 [.ref Q] (L, M, N) (fun r2 z => r2 = some (.int r.1) ∧ z = (L, r.2.1, r.2.2) ∧ (r.1 = 0 ∨ r.1 = 1)) := by
  refine zM.of miX3_readHunter (Nat.le_of_ble_eq_true rfl) ?_
  intro p e s m args below meth c X hr hname
  generalize hF : ((fun r2 z => r2 = some (.int r.1) ∧ z = (L, r.2.1, r.2.2) ∧ (r.1 = 0 ∨ r.1 = 1)) : Option Value → zS → Prop) = FQ
  change Zw p l e { frames := 7, cells := 0, slots := 0, locals := 80 * (7) } s m args below meth c G b 2 (MQ below (zQ G b FQ) args s 0 0 (fun q : Nat => b ≤ q)) 0 0 0 [some (.ref Q), none] [] (L, M, N)
  obtain ⟨q_lt, q_o, q_draft, q_text, q_unitNames, q_hunterNames, q_partyNames, q_asked⟩ := id hQ
  obtain ⟨q_draft_lt, q_draft_o, q_draft_quota, q_draft_score, q_draft_guest, q_draft_party, q_draft_wishCount, q_draft_wishes, q_draft_has⟩ := id q_draft
  have J_39 : ∀ (x1_39 : Int32) (M_39 : zMt) (N_39 : zNt), (x1_39 = 0 ∨ x1_39 = 1) → D_X3_readHunter_39 Q x1_39 M_39 N_39 = some r → Zw p l e { frames := 7, cells := 0, slots := 0, locals := 80 * (7) } s m args below meth c G b 2 (MQ below (zQ G b FQ) args s 0 0 (fun q : Nat => b ≤ q)) 0 0 39 [some (.ref (Q)), some (.int x1_39)] [] (L, M_39, N_39) := by
    intro x1_39 M_39 N_39 fb_x1_39 h
    unfold D_X3_readHunter_39 at h
    refine a_aload_n X dX3_readHunter_39 rfl ?_
    obtain ⟨e_40, f_40, h⟩ := zBx h
    refine a_callVx X dX3_readHunter_40 miX3_endOfLine lm3_181 (t_X3_endOfLine (by assumption) f_40) (by assumption) rfl rfl rfl (Nat.le_of_ble_eq_true rfl) ⟨by decide, by decide, by decide, by decide⟩ (fun r_40 S_40 q_40 => ?_)
    obtain ⟨rfl, rfl, b_40⟩ := q_40
    refine a_if_ne (tgt := 48) X dX3_readHunter_43 (by decide) (fun h_43 => ?_) (fun h_43 => ?_)
    · replace h := (if_neg h_43).symm.trans h
      refine a_aload_n X dX3_readHunter_48 rfl ?_
      refine a_getr X lf3_33 (by assumption) rfl (by omega) dX3_readHunter_49 ?_
      refine a_aload_n X dX3_readHunter_52 rfl ?_
      refine a_getr X lf3_12 (by assumption) rfl (by omega) dX3_readHunter_53 ?_
      refine a_geti X lf3_151 (by assumption) rfl dX3_readHunter_56 ?_
      refine a_aload_n X dX3_readHunter_59 rfl ?_
      refine a_getl X lf3_184 (by assumption) rfl dX3_readHunter_60 ?_
      obtain ⟨N_63, f_63, h⟩ := zLtx h
      refine a_callSNu X dX3_readHunter_63 miX7_bigPut lm3_187 (zMuN (c_bigPut (by assumption) (by first | decide | assumption)) f_63) rfl rfl (Nat.le_of_ble_eq_true rfl) ⟨by decide, by decide, by decide, by decide⟩ ?_
      refine a_aload_n X dX3_readHunter_66 rfl ?_
      refine a_getr X lf3_12 (by assumption) rfl (by omega) dX3_readHunter_67 ?_
      refine a_aload_n X dX3_readHunter_70 rfl ?_
      refine a_geti X lf3_110 (by assumption) rfl dX3_readHunter_71 ?_
      refine a_iload_n X dX3_readHunter_74 rfl ?_
      obtain ⟨e_75, f_75, h⟩ := zBx h
      refine a_callVu X dX3_readHunter_75 miX4_addHunter lm3_195 (t_X4_addHunter (by assumption) (by first | exact Or.inl rfl | exact Or.inr rfl | assumption) f_75) (by assumption) rfl rfl rfl (Nat.le_of_ble_eq_true rfl) ⟨by decide, by decide, by decide, by decide⟩ ?_
      refine a_iconst (v := 1) X dX3_readHunter_78 (by decide) ?_
      refine a_zret X (by first | exact Or.inl rfl | exact Or.inr rfl | assumption) hr dX3_readHunter_79 ⟨by decide, by decide⟩ ?_
      subst hF
      rw [← Option.some.inj h]
      exact ⟨rfl, rfl, (by first | exact Or.inl rfl | exact Or.inr rfl | assumption)⟩
    · replace h := (if_pos h_43).symm.trans h
      refine a_iconst (v := 0) X dX3_readHunter_46 (by decide) ?_
      refine a_zret X (by first | exact Or.inl rfl | exact Or.inr rfl | assumption) hr dX3_readHunter_47 ⟨by decide, by decide⟩ ?_
      subst hF
      rw [← Option.some.inj h]
      exact ⟨rfl, rfl, (by first | exact Or.inl rfl | exact Or.inr rfl | assumption)⟩
  unfold D_X3_readHunter at h
  refine a_aload_n X dX3_readHunter_0 rfl ?_
  obtain ⟨e_1, f_1, h⟩ := zBx h
  refine a_callVu X dX3_readHunter_1 miX3_step lm3_71 (t_X3_step (by assumption) f_1) (by assumption) rfl rfl rfl (Nat.le_of_ble_eq_true rfl) ⟨by decide, by decide, by decide, by decide⟩ ?_
  refine a_aload_n X dX3_readHunter_4 rfl ?_
  obtain ⟨e_5, f_5, h⟩ := zBx h
  refine a_callVx X dX3_readHunter_5 miX3_readNewName lm3_175 (t_X3_readNewName (by assumption) f_5) (by assumption) rfl rfl rfl (Nat.le_of_ble_eq_true rfl) ⟨by decide, by decide, by decide, by decide⟩ (fun r_5 S_5 q_5 => ?_)
  obtain ⟨rfl, rfl, b_5⟩ := q_5
  refine a_if_ne (tgt := 13) X dX3_readHunter_8 (by decide) (fun h_8 => ?_) (fun h_8 => ?_)
  · replace h := (if_neg h_8).symm.trans h
    refine a_aload_n X dX3_readHunter_13 rfl ?_
    refine a_bipush (v := 20) X dX3_readHunter_14 (by decide) ?_
    obtain ⟨e_16, f_16, h⟩ := zBx h
    refine a_callVx X dX3_readHunter_16 miX3_numberUpTo lm3_178 (t_X3_numberUpTo (by assumption) f_16) (by assumption) rfl rfl rfl (Nat.le_of_ble_eq_true rfl) ⟨by decide, by decide, by decide, by decide⟩ (fun r_16 S_16 q_16 => ?_)
    obtain ⟨rfl, rfl, b_16⟩ := q_16
    refine a_if_ne (tgt := 24) X dX3_readHunter_19 (by decide) (fun h_19 => ?_) (fun h_19 => ?_)
    · replace h := (if_neg h_19).symm.trans h
      refine a_aload_n X dX3_readHunter_24 rfl ?_
      refine a_ldcS (i := 2) (q := ("TagDraw$Reader", 130, "guest")) X rfl rfl rfl dX3_readHunter_25 ?_
      obtain ⟨e_27, f_27, h⟩ := zBx h
      refine a_callVx X dX3_readHunter_27 miX3_says lm3_124 (t_X3_says (by assumption) (by first | assumption | decide) f_27) (by assumption) rfl rfl rfl (Nat.le_of_ble_eq_true rfl) ⟨by decide, by decide, by decide, by decide⟩ (fun r_27 S_27 q_27 => ?_)
      obtain ⟨rfl, rfl, b_27⟩ := q_27
      refine a_istore_n X dX3_readHunter_30 (by decide) ?_
      refine a_iload_n X dX3_readHunter_31 rfl ?_
      refine a_if_eq (tgt := 39) X dX3_readHunter_32 (by decide) (fun h_32 => ?_) (fun h_32 => ?_)
      · replace h := (if_pos h_32).symm.trans h
        exact Zw.to2 (J_39 _ _ _ (by first | exact Or.inl rfl | exact Or.inr rfl | assumption) h) rfl rfl rfl
      · replace h := (if_neg h_32).symm.trans h
        refine a_aload_n X dX3_readHunter_35 rfl ?_
        obtain ⟨e_36, f_36, h⟩ := zBx h
        refine a_callVu X dX3_readHunter_36 miX3_step lm3_71 (t_X3_step (by assumption) f_36) (by assumption) rfl rfl rfl (Nat.le_of_ble_eq_true rfl) ⟨by decide, by decide, by decide, by decide⟩ ?_
        exact Zw.to2 (J_39 _ _ _ (by first | exact Or.inl rfl | exact Or.inr rfl | assumption) h) rfl rfl rfl
    · replace h := (if_pos h_19).symm.trans h
      refine a_iconst (v := 0) X dX3_readHunter_22 (by decide) ?_
      refine a_zret X (by first | exact Or.inl rfl | exact Or.inr rfl | assumption) hr dX3_readHunter_23 ⟨by decide, by decide⟩ ?_
      subst hF
      rw [← Option.some.inj h]
      exact ⟨rfl, rfl, (by first | exact Or.inl rfl | exact Or.inr rfl | assumption)⟩
  · replace h := (if_pos h_8).symm.trans h
    refine a_iconst (v := 0) X dX3_readHunter_11 (by decide) ?_
    refine a_zret X (by first | exact Or.inl rfl | exact Or.inr rfl | assumption) hr dX3_readHunter_12 ⟨by decide, by decide⟩ ?_
    subst hF
    rw [← Option.some.inj h]
    exact ⟨rfl, rfl, (by first | exact Or.inl rfl | exact Or.inr rfl | assumption)⟩
noncomputable def D_X3_isFree_39 (Q : Nat) (M : zMt) (y0_39 : Int32) : Option (Int32) :=
  some (y0_39)
noncomputable def D_X3_isFree_38 (Q : Nat) (M : zMt)  : Option (Int32) :=
  D_X3_isFree_39 Q M (0 : Int32)
noncomputable def D_X3_isFree (Q : Nat) (M : zMt) (v0 : Int32) : Option (Int32) :=
  if v0 = (-1 : Int32) then
    D_X3_isFree_38 Q M
  else
    if (zrd 0 (M (Q + 5)) 10 v0) = (-1 : Int32) then
      if (zrd 0 (M (Q + 6)) 10 v0) = 0 then
        D_X3_isFree_39 Q M (1 : Int32)
      else
        D_X3_isFree_38 Q M
    else
      D_X3_isFree_38 Q M
set_option maxRecDepth 100000 in
set_option maxHeartbeats 4000000 in
theorem t_X3_isFree {l : Launch} {G : zG} {b : Nat} {L : List zC} {M : zMt} {N : zNt} {Q : Nat} {v0 : Int32} (hQ : LX3 L Q) {r : Int32} (h : D_X3_isFree Q M v0 = some r) : zM l G b yX3_isFree cX3_isFree 2 (some .boolean) 1 0 0 [.ref Q, .int v0] (L, M, N) (fun r2 z => r2 = some (.int r) ∧ z = (L, M, N) ∧ (r = 0 ∨ r = 1)) := by
  refine zM.of miX3_isFree (Nat.le_of_ble_eq_true rfl) ?_
  intro p e s m args below meth c X hr hname
  generalize hF : ((fun r2 z => r2 = some (.int r) ∧ z = (L, M, N) ∧ (r = 0 ∨ r = 1)) : Option Value → zS → Prop) = FQ
  change Zw p l e { frames := 1, cells := 0, slots := 0, locals := 80 * (1) } s m args below meth c G b 2 (MQ below (zQ G b FQ) args s 0 0 (fun q : Nat => b ≤ q)) 0 0 0 [some (.ref Q), some (.int v0)] [] (L, M, N)
  obtain ⟨q_lt, q_o, q_draft, q_text, q_unitNames, q_hunterNames, q_partyNames, q_asked⟩ := id hQ
  obtain ⟨q_draft_lt, q_draft_o, q_draft_quota, q_draft_score, q_draft_guest, q_draft_party, q_draft_wishCount, q_draft_wishes, q_draft_has⟩ := id q_draft
  have J_39 : ∀ (x1_39 : Int32) (y0_39 : Int32), (y0_39 = 0 ∨ y0_39 = 1) → D_X3_isFree_39 Q M y0_39 = some r → Zw p l e { frames := 1, cells := 0, slots := 0, locals := 80 * (1) } s m args below meth c G b 2 (MQ below (zQ G b FQ) args s 0 0 (fun q : Nat => b ≤ q)) 0 0 39 [some (.ref (Q)), some (.int x1_39)] [.int y0_39] (L, M, N) := by
    intro x1_39 y0_39 fb_y0_39 h
    unfold D_X3_isFree_39 at h
    refine a_zret X (by first | exact Or.inl rfl | exact Or.inr rfl | assumption) hr dX3_isFree_39 ⟨by decide, by decide⟩ ?_
    subst hF
    rw [← Option.some.inj h]
    exact ⟨rfl, rfl, (by first | exact Or.inl rfl | exact Or.inr rfl | assumption)⟩
  have J_38 : ∀ (x1_38 : Int32), D_X3_isFree_38 Q M = some r → Zw p l e { frames := 1, cells := 0, slots := 0, locals := 80 * (1) } s m args below meth c G b 2 (MQ below (zQ G b FQ) args s 0 0 (fun q : Nat => b ≤ q)) 0 0 38 [some (.ref (Q)), some (.int x1_38)] [] (L, M, N) := by
    intro x1_38 h
    unfold D_X3_isFree_38 at h
    refine a_iconst (v := 0) X dX3_isFree_38 (by decide) ?_
    exact Zw.to2 (J_39 _ _ (by first | exact Or.inl rfl | exact Or.inr rfl | assumption) h) rfl rfl rfl
  unfold D_X3_isFree at h
  refine a_iload_n X dX3_isFree_0 rfl ?_
  refine a_iconst (v := -1) X dX3_isFree_1 (by decide) ?_
  refine a_icmp_eq (tgt := 38) X dX3_isFree_2 (by decide) (fun h_2 => ?_) (fun h_2 => ?_)
  · replace h := (if_pos h_2).symm.trans h
    exact Zw.to2 (J_38 _ h) rfl rfl rfl
  · replace h := (if_neg h_2).symm.trans h
    refine a_aload_n X dX3_isFree_5 rfl ?_
    refine a_getr X lf3_12 (by assumption) rfl (by omega) dX3_isFree_6 ?_
    refine a_getr X lf3_250 (by assumption) rfl (by omega) dX3_isFree_9 ?_
    refine a_iload_n X dX3_isFree_12 rfl ?_
    refine a_callSNv X dX3_isFree_13 miX7_cell lm3_81 (c_cell (by assumption) (by first | decide | assumption)) rfl rfl (Nat.le_of_ble_eq_true rfl) ⟨by decide, by decide, by decide, by decide⟩ ?_
    refine a_iconst (v := -1) X dX3_isFree_16 (by decide) ?_
    refine a_icmp_ne (tgt := 38) X dX3_isFree_17 (by decide) (fun h_17 => ?_) (fun h_17 => ?_)
    · replace h := (if_neg h_17).symm.trans h
      exact Zw.to2 (J_38 _ h) rfl rfl rfl
    · replace h := (if_pos h_17).symm.trans h
      refine a_aload_n X dX3_isFree_20 rfl ?_
      refine a_getr X lf3_12 (by assumption) rfl (by omega) dX3_isFree_21 ?_
      refine a_getr X lf3_252 (by assumption) rfl (by omega) dX3_isFree_24 ?_
      refine a_iload_n X dX3_isFree_27 rfl ?_
      refine a_callSNv X dX3_isFree_28 miX7_cell lm3_81 (c_cell (by assumption) (by first | decide | assumption)) rfl rfl (Nat.le_of_ble_eq_true rfl) ⟨by decide, by decide, by decide, by decide⟩ ?_
      refine a_if_ne (tgt := 38) X dX3_isFree_31 (by decide) (fun h_31 => ?_) (fun h_31 => ?_)
      · replace h := (if_neg h_31).symm.trans h
        exact Zw.to2 (J_38 _ h) rfl rfl rfl
      · replace h := (if_pos h_31).symm.trans h
        refine a_iconst (v := 1) X dX3_isFree_34 (by decide) ?_
        refine a_goto (tgt := 39) X dX3_isFree_35 (by decide) ?_
        exact Zw.to2 (J_39 _ _ (by first | exact Or.inl rfl | exact Or.inr rfl | assumption) h) rfl rfl rfl
noncomputable def D_X4_addParty_31 (Q : Nat) (k2 : Int32 → Int32 → zMt → Option (zMt)) (x1_31 : Int32) (x2_31 : Int32) (M_31 : zMt) : Option (zMt) :=
  k2 x1_31 (x2_31 + 1) M_31
noncomputable def D_X4_addParty_2 (Q : Nat) : Nat → Int32 → Int32 → zMt → Option (zMt)
  | 0, _, _, _ => none
  | n + 1, x1_2, x2_2, M_2 =>
    if (M_2 Q 1) ≤ x2_2 then
      zLt (zu M_2 Q 2 ((M_2 Q 2) + (1 : Int32))) fun M_44 =>
      some (M_44)
    else
      if ((x1_2 >>> (x2_2 &&& 31)) &&& (1 : Int32)) = (1 : Int32) then
        zLt (zwr M_2 (Q + 4) 10 x2_2 (M_2 Q 2)) fun M_28 =>
        D_X4_addParty_31 Q (D_X4_addParty_2 Q n) x1_2 x2_2 M_28
      else
        D_X4_addParty_31 Q (D_X4_addParty_2 Q n) x1_2 x2_2 M_2
noncomputable def D_X4_addParty (Q : Nat) (v0 : Int32) (M : zMt) : Option (zMt) :=
  D_X4_addParty_2 Q zFu v0 (0 : Int32) M
set_option maxRecDepth 100000 in
set_option maxHeartbeats 4000000 in
theorem t_X4_addParty {l : Launch} {G : zG} {b : Nat} {L : List zC} {M : zMt} {N : zNt} {Q : Nat} {v0 : Int32} (hQ : LX4 L Q) {r : zMt} (h : D_X4_addParty Q v0 M = some r) : zM l G b yX4_addParty cX4_addParty 3 none 1 0 0 [.ref Q, .int v0] (L, M, N) (fun r2 z => r2 = none ∧ z = (L, r, N)) := by
  refine zM.of miX4_addParty (Nat.le_of_ble_eq_true rfl) ?_
  intro p e s m args below meth c X hr hname
  generalize hF : ((fun r2 z => r2 = none ∧ z = (L, r, N)) : Option Value → zS → Prop) = FQ
  change Zw p l e { frames := 1, cells := 0, slots := 0, locals := 80 * (1) } s m args below meth c G b 3 (MQ below (zQ G b FQ) args s 0 0 (fun q : Nat => b ≤ q)) 0 0 0 [some (.ref Q), some (.int v0), none] [] (L, M, N)
  obtain ⟨q_lt, q_o, q_quota, q_score, q_guest, q_party, q_wishCount, q_wishes, q_has⟩ := id hQ
  have L_2 : ∀ u : Nat, ∀ (x1_2 : Int32) (x2_2 : Int32) (M_2 : zMt), D_X4_addParty_2 Q u x1_2 x2_2 M_2 = some r → Zw p l e { frames := 1, cells := 0, slots := 0, locals := 80 * (1) } s m args below meth c G b 3 (MQ below (zQ G b FQ) args s 0 0 (fun q : Nat => b ≤ q)) 0 0 2 [some (.ref (Q)), some (.int x1_2), some (.int x2_2)] [] (L, M_2, N) := by
    intro u
    induction u with
    | zero => intro x1_2 x2_2 M_2 h; cases (show none = some r from h)
    | succ u_2 ih_2 =>
      have J_31 : ∀ (x1_31 : Int32) (x2_31 : Int32) (M_31 : zMt), D_X4_addParty_31 Q (D_X4_addParty_2 Q u_2) x1_31 x2_31 M_31 = some r → Zw p l e { frames := 1, cells := 0, slots := 0, locals := 80 * (1) } s m args below meth c G b 3 (MQ below (zQ G b FQ) args s 0 0 (fun q : Nat => b ≤ q)) 0 0 31 [some (.ref (Q)), some (.int x1_31), some (.int x2_31)] [] (L, M_31, N) := by
        intro x1_31 x2_31 M_31 h
        unfold D_X4_addParty_31 at h
        refine a_iinc (v := x2_31 + 1) X dX4_addParty_31 (by decide) rfl zi_1 ?_
        refine a_goto (tgt := 2) X dX4_addParty_34 (by decide) ?_
        exact Zw.to2 (ih_2 _ _ _ h) rfl rfl rfl
      intro x1_2 x2_2 M_2 h
      rw [D_X4_addParty_2] at h
      refine a_iload_n X dX4_addParty_2 rfl ?_
      refine a_aload_n X dX4_addParty_3 rfl ?_
      refine a_geti X lf4_37 (by assumption) rfl dX4_addParty_4 ?_
      refine a_icmp_ge (tgt := 37) X dX4_addParty_7 (by decide) (fun h_7 => ?_) (fun h_7 => ?_)
      · replace h := (if_pos h_7).symm.trans h
        refine a_aload_n X dX4_addParty_37 rfl ?_
        refine a_dup X dX4_addParty_38 rfl ?_
        refine a_geti X lf4_40 (by assumption) rfl dX4_addParty_39 ?_
        refine a_iconst (v := 1) X dX4_addParty_42 (by decide) ?_
        refine a_iadd X dX4_addParty_43 ?_
        obtain ⟨M_44, f_44, h⟩ := zLtx h
        refine d_puti X lf4_40 (by assumption) rfl dX4_addParty_44 f_44 ?_
        refine a_vret X hr dX4_addParty_47 ⟨by decide, by decide⟩ ?_
        subst hF
        rw [← Option.some.inj h]
        exact ⟨rfl, rfl⟩
      · replace h := (if_neg h_7).symm.trans h
        refine a_iload_n X dX4_addParty_10 rfl ?_
        refine a_iload_n X dX4_addParty_11 rfl ?_
        refine a_ishr X dX4_addParty_12 ?_
        refine a_iconst (v := 1) X dX4_addParty_13 (by decide) ?_
        refine a_iand X dX4_addParty_14 ?_
        refine a_iconst (v := 1) X dX4_addParty_15 (by decide) ?_
        refine a_icmp_ne (tgt := 31) X dX4_addParty_16 (by decide) (fun h_16 => ?_) (fun h_16 => ?_)
        · replace h := (if_neg h_16).symm.trans h
          exact Zw.to2 (J_31 _ _ _ h) rfl rfl rfl
        · replace h := (if_pos h_16).symm.trans h
          refine a_aload_n X dX4_addParty_19 rfl ?_
          refine a_getr X lf4_21 (by assumption) rfl (by omega) dX4_addParty_20 ?_
          refine a_iload_n X dX4_addParty_23 rfl ?_
          refine a_aload_n X dX4_addParty_24 rfl ?_
          refine a_geti X lf4_40 (by assumption) rfl dX4_addParty_25 ?_
          obtain ⟨M_28, f_28, h⟩ := zLtx h
          refine a_callSNu X dX4_addParty_28 miX7_put lm4_63 (zMu (c_put (by assumption) (by first | decide | assumption)) f_28) rfl rfl (Nat.le_of_ble_eq_true rfl) ⟨by decide, by decide, by decide, by decide⟩ ?_
          exact Zw.to2 (J_31 _ _ _ h) rfl rfl rfl
  have H_2 : ∀ (x1_2 : Int32) (x2_2 : Int32) (M_2 : zMt), D_X4_addParty_2 Q zFu x1_2 x2_2 M_2 = some r → Zw p l e { frames := 1, cells := 0, slots := 0, locals := 80 * (1) } s m args below meth c G b 3 (MQ below (zQ G b FQ) args s 0 0 (fun q : Nat => b ≤ q)) 0 0 2 [some (.ref (Q)), some (.int x1_2), some (.int x2_2)] [] (L, M_2, N) := L_2 zFu
  unfold D_X4_addParty at h
  refine a_iconst (v := 0) X dX4_addParty_0 (by decide) ?_
  refine a_istore_n X dX4_addParty_1 (by decide) ?_
  exact Zw.to2 (H_2 _ _ _ h) rfl rfl rfl
noncomputable def D_X3_readParty_106 (Q : Nat) (x1_106 : Int32) (M_106 : zMt) (N_106 : zNt) : Option (Int32 × zMt × zNt) :=
  zB (D_X3_endOfLine Q M_106 N_106) fun e_107 =>
  if e_107.1 = 0 then
    some ((0 : Int32), e_107.2.1, e_107.2.2)
  else
    zLt (zwr e_107.2.2 (Q + 12) 4 (e_107.2.1 (Q + 1) 2) (e_107.2.2 Q 10)) fun N_130 =>
    zB (D_X4_addParty (Q + 1) x1_106 e_107.2.1) fun e_138 =>
    some ((1 : Int32), e_138, N_130)
noncomputable def D_X3_readParty_84 (Q : Nat) (M_84 : zMt) (N_84 : zNt) : Option (Int32 × zMt × zNt) :=
  zB (D_X3_fail Q (4 : Int32) M_84) fun e_86 =>
  some (e_86.1, e_86.2, N_84)
noncomputable def D_X3_readParty_35 (Q : Nat) (k17 : Int32 → Int32 → zMt → zNt → Option (Int32 × zMt × zNt)) (x1_35 : Int32) (x2_35 : Int32) (M_35 : zMt) (N_35 : zNt) : Option (Int32 × zMt × zNt) :=
  zB (D_X3_isName Q M_35) fun e_36 =>
  if e_36 = 0 then
    zB (D_X3_fail Q (2 : Int32) M_35) fun e_44 =>
    some (e_44.1, e_44.2, N_35)
  else
    zB (D_X3_find (Q + 11) 10 N_35 (M_35 (Q + 1) 1) (N_35 Q 8)) fun e_63 =>
    zB (D_X3_isFree Q M_35 e_63) fun e_69 =>
    if e_69 = 0 then
      D_X3_readParty_84 Q M_35 N_35
    else
      if ((x1_35 >>> (e_63 &&& 31)) &&& (1 : Int32)) = (1 : Int32) then
        D_X3_readParty_84 Q M_35 N_35
      else
        zB (D_X3_step Q M_35 N_35) fun e_97 =>
        k17 (x1_35 ||| ((1 : Int32) <<< (e_63 &&& 31))) (x2_35 + 1) e_97.1 e_97.2
noncomputable def D_X3_readParty_17 (Q : Nat) : Nat → Int32 → Int32 → zMt → zNt → Option (Int32 × zMt × zNt)
  | 0, _, _, _, _ => none
  | n + 1, x1_17, x2_17, M_17, N_17 =>
    if (4 : Int32) ≤ x2_17 then
      D_X3_readParty_106 Q x1_17 M_17 N_17
    else
      if x2_17 < (2 : Int32) then
        D_X3_readParty_35 Q (D_X3_readParty_17 Q n) x1_17 x2_17 M_17 N_17
      else
        if (M_17 Q 6) = (3 : Int32) then
          D_X3_readParty_106 Q x1_17 M_17 N_17
        else
          D_X3_readParty_35 Q (D_X3_readParty_17 Q n) x1_17 x2_17 M_17 N_17
noncomputable def D_X3_readParty (Q : Nat) (M : zMt) (N : zNt) : Option (Int32 × zMt × zNt) :=
  zB (D_X3_step Q M N) fun e_1 =>
  zB (D_X3_readNewName Q e_1.1 e_1.2) fun e_5 =>
  if e_5.1 = 0 then
    some ((0 : Int32), e_5.2.1, e_5.2.2)
  else
    D_X3_readParty_17 Q zFu (0 : Int32) (0 : Int32) e_5.2.1 e_5.2.2
set_option maxRecDepth 100000 in
set_option maxHeartbeats 4000000 in
theorem t_X3_readParty {l : Launch} {G : zG} {b : Nat} {L : List zC} {M : zMt} {N : zNt} {Q : Nat}  (hQ : LX3 L Q) {r : Int32 × zMt × zNt} (h : D_X3_readParty Q M N = some r) : zM l G b yX3_readParty cX3_readParty 4 (some .boolean) 7 0 0 [.ref Q] (L, M, N) (fun r2 z => r2 = some (.int r.1) ∧ z = (L, r.2.1, r.2.2) ∧ (r.1 = 0 ∨ r.1 = 1)) := by
  refine zM.of miX3_readParty (Nat.le_of_ble_eq_true rfl) ?_
  intro p e s m args below meth c X hr hname
  generalize hF : ((fun r2 z => r2 = some (.int r.1) ∧ z = (L, r.2.1, r.2.2) ∧ (r.1 = 0 ∨ r.1 = 1)) : Option Value → zS → Prop) = FQ
  change Zw p l e { frames := 7, cells := 0, slots := 0, locals := 80 * (7) } s m args below meth c G b 4 (MQ below (zQ G b FQ) args s 0 0 (fun q : Nat => b ≤ q)) 0 0 0 [some (.ref Q), none, none, none] [] (L, M, N)
  obtain ⟨q_lt, q_o, q_draft, q_text, q_unitNames, q_hunterNames, q_partyNames, q_asked⟩ := id hQ
  obtain ⟨q_draft_lt, q_draft_o, q_draft_quota, q_draft_score, q_draft_guest, q_draft_party, q_draft_wishCount, q_draft_wishes, q_draft_has⟩ := id q_draft
  have J_106 : ∀ (x1_106 : Int32) (x2_106 : Int32) (x3_106 : Option Value) (M_106 : zMt) (N_106 : zNt), D_X3_readParty_106 Q x1_106 M_106 N_106 = some r → Zw p l e { frames := 7, cells := 0, slots := 0, locals := 80 * (7) } s m args below meth c G b 4 (MQ below (zQ G b FQ) args s 0 0 (fun q : Nat => b ≤ q)) 0 0 106 [some (.ref (Q)), some (.int x1_106), some (.int x2_106), x3_106] [] (L, M_106, N_106) := by
    intro x1_106 x2_106 x3_106 M_106 N_106 h
    unfold D_X3_readParty_106 at h
    refine a_aload_n X dX3_readParty_106 rfl ?_
    obtain ⟨e_107, f_107, h⟩ := zBx h
    refine a_callVx X dX3_readParty_107 miX3_endOfLine lm3_181 (t_X3_endOfLine (by assumption) f_107) (by assumption) rfl rfl rfl (Nat.le_of_ble_eq_true rfl) ⟨by decide, by decide, by decide, by decide⟩ (fun r_107 S_107 q_107 => ?_)
    obtain ⟨rfl, rfl, b_107⟩ := q_107
    refine a_if_ne (tgt := 115) X dX3_readParty_110 (by decide) (fun h_110 => ?_) (fun h_110 => ?_)
    · replace h := (if_neg h_110).symm.trans h
      refine a_aload_n X dX3_readParty_115 rfl ?_
      refine a_getr X lf3_36 (by assumption) rfl (by omega) dX3_readParty_116 ?_
      refine a_aload_n X dX3_readParty_119 rfl ?_
      refine a_getr X lf3_12 (by assumption) rfl (by omega) dX3_readParty_120 ?_
      refine a_geti X lf3_157 (by assumption) rfl dX3_readParty_123 ?_
      refine a_aload_n X dX3_readParty_126 rfl ?_
      refine a_getl X lf3_184 (by assumption) rfl dX3_readParty_127 ?_
      obtain ⟨N_130, f_130, h⟩ := zLtx h
      refine a_callSNu X dX3_readParty_130 miX7_bigPut lm3_187 (zMuN (c_bigPut (by assumption) (by first | decide | assumption)) f_130) rfl rfl (Nat.le_of_ble_eq_true rfl) ⟨by decide, by decide, by decide, by decide⟩ ?_
      refine a_aload_n X dX3_readParty_133 rfl ?_
      refine a_getr X lf3_12 (by assumption) rfl (by omega) dX3_readParty_134 ?_
      refine a_iload_n X dX3_readParty_137 rfl ?_
      obtain ⟨e_138, f_138, h⟩ := zBx h
      refine a_callVu X dX3_readParty_138 miX4_addParty lm3_209 (t_X4_addParty (by assumption) f_138) (by assumption) rfl rfl rfl (Nat.le_of_ble_eq_true rfl) ⟨by decide, by decide, by decide, by decide⟩ ?_
      refine a_iconst (v := 1) X dX3_readParty_141 (by decide) ?_
      refine a_zret X (by first | exact Or.inl rfl | exact Or.inr rfl | assumption) hr dX3_readParty_142 ⟨by decide, by decide⟩ ?_
      subst hF
      rw [← Option.some.inj h]
      exact ⟨rfl, rfl, (by first | exact Or.inl rfl | exact Or.inr rfl | assumption)⟩
    · replace h := (if_pos h_110).symm.trans h
      refine a_iconst (v := 0) X dX3_readParty_113 (by decide) ?_
      refine a_zret X (by first | exact Or.inl rfl | exact Or.inr rfl | assumption) hr dX3_readParty_114 ⟨by decide, by decide⟩ ?_
      subst hF
      rw [← Option.some.inj h]
      exact ⟨rfl, rfl, (by first | exact Or.inl rfl | exact Or.inr rfl | assumption)⟩
  have J_84 : ∀ (x1_84 : Int32) (x2_84 : Int32) (x3_84 : Int32) (M_84 : zMt) (N_84 : zNt), D_X3_readParty_84 Q M_84 N_84 = some r → Zw p l e { frames := 7, cells := 0, slots := 0, locals := 80 * (7) } s m args below meth c G b 4 (MQ below (zQ G b FQ) args s 0 0 (fun q : Nat => b ≤ q)) 0 0 84 [some (.ref (Q)), some (.int x1_84), some (.int x2_84), some (.int x3_84)] [] (L, M_84, N_84) := by
    intro x1_84 x2_84 x3_84 M_84 N_84 h
    unfold D_X3_readParty_84 at h
    refine a_aload_n X dX3_readParty_84 rfl ?_
    refine a_iconst (v := 4) X dX3_readParty_85 (by decide) ?_
    obtain ⟨e_86, f_86, h⟩ := zBx h
    refine a_callVx X dX3_readParty_86 miX3_fail lm3_148 (t_X3_fail (by assumption) f_86) (by assumption) rfl rfl rfl (Nat.le_of_ble_eq_true rfl) ⟨by decide, by decide, by decide, by decide⟩ (fun r_86 S_86 q_86 => ?_)
    obtain ⟨rfl, rfl, b_86⟩ := q_86
    refine a_zret X (by first | exact Or.inl rfl | exact Or.inr rfl | assumption) hr dX3_readParty_89 ⟨by decide, by decide⟩ ?_
    subst hF
    rw [← Option.some.inj h]
    exact ⟨rfl, rfl, (by first | exact Or.inl rfl | exact Or.inr rfl | assumption)⟩
  have L_17 : ∀ u : Nat, ∀ (x1_17 : Int32) (x2_17 : Int32) (x3_17 : Option Value) (M_17 : zMt) (N_17 : zNt), D_X3_readParty_17 Q u x1_17 x2_17 M_17 N_17 = some r → Zw p l e { frames := 7, cells := 0, slots := 0, locals := 80 * (7) } s m args below meth c G b 4 (MQ below (zQ G b FQ) args s 0 0 (fun q : Nat => b ≤ q)) 0 0 17 [some (.ref (Q)), some (.int x1_17), some (.int x2_17), x3_17] [] (L, M_17, N_17) := by
    intro u
    induction u with
    | zero => intro x1_17 x2_17 x3_17 M_17 N_17 h; cases (show none = some r from h)
    | succ u_17 ih_17 =>
      have J_35 : ∀ (x1_35 : Int32) (x2_35 : Int32) (x3_35 : Option Value) (M_35 : zMt) (N_35 : zNt), D_X3_readParty_35 Q (D_X3_readParty_17 Q u_17) x1_35 x2_35 M_35 N_35 = some r → Zw p l e { frames := 7, cells := 0, slots := 0, locals := 80 * (7) } s m args below meth c G b 4 (MQ below (zQ G b FQ) args s 0 0 (fun q : Nat => b ≤ q)) 0 0 35 [some (.ref (Q)), some (.int x1_35), some (.int x2_35), x3_35] [] (L, M_35, N_35) := by
        intro x1_35 x2_35 x3_35 M_35 N_35 h
        unfold D_X3_readParty_35 at h
        refine a_aload_n X dX3_readParty_35 rfl ?_
        obtain ⟨e_36, f_36, h⟩ := zBx h
        refine a_callVx X dX3_readParty_36 miX3_isName lm3_199 (t_X3_isName (by assumption) f_36) (by assumption) rfl rfl rfl (Nat.le_of_ble_eq_true rfl) ⟨by decide, by decide, by decide, by decide⟩ (fun r_36 S_36 q_36 => ?_)
        obtain ⟨rfl, rfl, b_36⟩ := q_36
        refine a_if_ne (tgt := 48) X dX3_readParty_39 (by decide) (fun h_39 => ?_) (fun h_39 => ?_)
        · replace h := (if_neg h_39).symm.trans h
          refine a_aload_n X dX3_readParty_48 rfl ?_
          refine a_getr X lf3_33 (by assumption) rfl (by omega) dX3_readParty_49 ?_
          refine a_aload_n X dX3_readParty_52 rfl ?_
          refine a_getr X lf3_12 (by assumption) rfl (by omega) dX3_readParty_53 ?_
          refine a_geti X lf3_151 (by assumption) rfl dX3_readParty_56 ?_
          refine a_aload_n X dX3_readParty_59 rfl ?_
          refine a_getl X lf3_104 (by assumption) rfl dX3_readParty_60 ?_
          obtain ⟨e_63, f_63, h⟩ := zBx h
          refine a_callSv X dX3_readParty_63 miX3_find lm3_202 (t_X3_find (by assumption) (by first | decide | assumption) f_63) rfl rfl (Nat.le_of_ble_eq_true rfl) ⟨by decide, by decide, by decide, by decide⟩ ?_
          refine a_istore_n X dX3_readParty_66 (by decide) ?_
          refine a_aload_n X dX3_readParty_67 rfl ?_
          refine a_iload_n X dX3_readParty_68 rfl ?_
          obtain ⟨e_69, f_69, h⟩ := zBx h
          refine a_callVx X dX3_readParty_69 miX3_isFree lm3_206 (t_X3_isFree (by assumption) f_69) (by assumption) rfl rfl rfl (Nat.le_of_ble_eq_true rfl) ⟨by decide, by decide, by decide, by decide⟩ (fun r_69 S_69 q_69 => ?_)
          obtain ⟨rfl, rfl, b_69⟩ := q_69
          refine a_if_eq (tgt := 84) X dX3_readParty_72 (by decide) (fun h_72 => ?_) (fun h_72 => ?_)
          · replace h := (if_pos h_72).symm.trans h
            exact Zw.to2 (J_84 _ _ _ _ _ h) rfl rfl rfl
          · replace h := (if_neg h_72).symm.trans h
            refine a_iload_n X dX3_readParty_75 rfl ?_
            refine a_iload_n X dX3_readParty_76 rfl ?_
            refine a_ishr X dX3_readParty_77 ?_
            refine a_iconst (v := 1) X dX3_readParty_78 (by decide) ?_
            refine a_iand X dX3_readParty_79 ?_
            refine a_iconst (v := 1) X dX3_readParty_80 (by decide) ?_
            refine a_icmp_ne (tgt := 90) X dX3_readParty_81 (by decide) (fun h_81 => ?_) (fun h_81 => ?_)
            · replace h := (if_neg h_81).symm.trans h
              refine a_iload_n X dX3_readParty_90 rfl ?_
              refine a_iconst (v := 1) X dX3_readParty_91 (by decide) ?_
              refine a_iload_n X dX3_readParty_92 rfl ?_
              refine a_ishl X dX3_readParty_93 ?_
              refine a_ior X dX3_readParty_94 ?_
              refine a_istore_n X dX3_readParty_95 (by decide) ?_
              refine a_aload_n X dX3_readParty_96 rfl ?_
              obtain ⟨e_97, f_97, h⟩ := zBx h
              refine a_callVu X dX3_readParty_97 miX3_step lm3_71 (t_X3_step (by assumption) f_97) (by assumption) rfl rfl rfl (Nat.le_of_ble_eq_true rfl) ⟨by decide, by decide, by decide, by decide⟩ ?_
              refine a_iinc (v := x2_35 + 1) X dX3_readParty_100 (by decide) rfl zi_1 ?_
              refine a_goto (tgt := 17) X dX3_readParty_103 (by decide) ?_
              exact Zw.to2 (ih_17 _ _ _ _ _ h) rfl rfl rfl
            · replace h := (if_pos h_81).symm.trans h
              exact Zw.to2 (J_84 _ _ _ _ _ h) rfl rfl rfl
        · replace h := (if_pos h_39).symm.trans h
          refine a_aload_n X dX3_readParty_42 rfl ?_
          refine a_iconst (v := 2) X dX3_readParty_43 (by decide) ?_
          obtain ⟨e_44, f_44, h⟩ := zBx h
          refine a_callVx X dX3_readParty_44 miX3_fail lm3_148 (t_X3_fail (by assumption) f_44) (by assumption) rfl rfl rfl (Nat.le_of_ble_eq_true rfl) ⟨by decide, by decide, by decide, by decide⟩ (fun r_44 S_44 q_44 => ?_)
          obtain ⟨rfl, rfl, b_44⟩ := q_44
          refine a_zret X (by first | exact Or.inl rfl | exact Or.inr rfl | assumption) hr dX3_readParty_47 ⟨by decide, by decide⟩ ?_
          subst hF
          rw [← Option.some.inj h]
          exact ⟨rfl, rfl, (by first | exact Or.inl rfl | exact Or.inr rfl | assumption)⟩
      intro x1_17 x2_17 x3_17 M_17 N_17 h
      rw [D_X3_readParty_17] at h
      refine a_iload_n X dX3_readParty_17 rfl ?_
      refine a_iconst (v := 4) X dX3_readParty_18 (by decide) ?_
      refine a_icmp_ge (tgt := 106) X dX3_readParty_19 (by decide) (fun h_19 => ?_) (fun h_19 => ?_)
      · replace h := (if_pos h_19).symm.trans h
        exact Zw.to2 (J_106 _ _ _ _ _ h) rfl rfl rfl
      · replace h := (if_neg h_19).symm.trans h
        refine a_iload_n X dX3_readParty_22 rfl ?_
        refine a_iconst (v := 2) X dX3_readParty_23 (by decide) ?_
        refine a_icmp_lt (tgt := 35) X dX3_readParty_24 (by decide) (fun h_24 => ?_) (fun h_24 => ?_)
        · replace h := (if_pos h_24).symm.trans h
          exact Zw.to2 (J_35 _ _ _ _ _ h) rfl rfl rfl
        · replace h := (if_neg h_24).symm.trans h
          refine a_aload_n X dX3_readParty_27 rfl ?_
          refine a_geti X lf3_74 (by assumption) rfl dX3_readParty_28 ?_
          refine a_iconst (v := 3) X dX3_readParty_31 (by decide) ?_
          refine a_icmp_eq (tgt := 106) X dX3_readParty_32 (by decide) (fun h_32 => ?_) (fun h_32 => ?_)
          · replace h := (if_pos h_32).symm.trans h
            exact Zw.to2 (J_106 _ _ _ _ _ h) rfl rfl rfl
          · replace h := (if_neg h_32).symm.trans h
            exact Zw.to2 (J_35 _ _ _ _ _ h) rfl rfl rfl
  have H_17 : ∀ (x1_17 : Int32) (x2_17 : Int32) (x3_17 : Option Value) (M_17 : zMt) (N_17 : zNt), D_X3_readParty_17 Q zFu x1_17 x2_17 M_17 N_17 = some r → Zw p l e { frames := 7, cells := 0, slots := 0, locals := 80 * (7) } s m args below meth c G b 4 (MQ below (zQ G b FQ) args s 0 0 (fun q : Nat => b ≤ q)) 0 0 17 [some (.ref (Q)), some (.int x1_17), some (.int x2_17), x3_17] [] (L, M_17, N_17) := L_17 zFu
  unfold D_X3_readParty at h
  refine a_aload_n X dX3_readParty_0 rfl ?_
  obtain ⟨e_1, f_1, h⟩ := zBx h
  refine a_callVu X dX3_readParty_1 miX3_step lm3_71 (t_X3_step (by assumption) f_1) (by assumption) rfl rfl rfl (Nat.le_of_ble_eq_true rfl) ⟨by decide, by decide, by decide, by decide⟩ ?_
  refine a_aload_n X dX3_readParty_4 rfl ?_
  obtain ⟨e_5, f_5, h⟩ := zBx h
  refine a_callVx X dX3_readParty_5 miX3_readNewName lm3_175 (t_X3_readNewName (by assumption) f_5) (by assumption) rfl rfl rfl (Nat.le_of_ble_eq_true rfl) ⟨by decide, by decide, by decide, by decide⟩ (fun r_5 S_5 q_5 => ?_)
  obtain ⟨rfl, rfl, b_5⟩ := q_5
  refine a_if_ne (tgt := 13) X dX3_readParty_8 (by decide) (fun h_8 => ?_) (fun h_8 => ?_)
  · replace h := (if_neg h_8).symm.trans h
    refine a_iconst (v := 0) X dX3_readParty_13 (by decide) ?_
    refine a_istore_n X dX3_readParty_14 (by decide) ?_
    refine a_iconst (v := 0) X dX3_readParty_15 (by decide) ?_
    refine a_istore_n X dX3_readParty_16 (by decide) ?_
    exact Zw.to2 (H_17 _ _ _ _ _ h) rfl rfl rfl
  · replace h := (if_pos h_8).symm.trans h
    refine a_iconst (v := 0) X dX3_readParty_11 (by decide) ?_
    refine a_zret X (by first | exact Or.inl rfl | exact Or.inr rfl | assumption) hr dX3_readParty_12 ⟨by decide, by decide⟩ ?_
    subst hF
    rw [← Option.some.inj h]
    exact ⟨rfl, rfl, (by first | exact Or.inl rfl | exact Or.inr rfl | assumption)⟩
noncomputable def D_X3_asker_116 (Q : Nat) (M : zMt) (N : zNt) (x3_116 : Int32) : Option (Int32) :=
  some (x3_116)
noncomputable def D_X3_asker_110 (Q : Nat) (M : zMt) (N : zNt) (k55 : Int32 → Int32 → Int32 → Option (Int32)) (x2_110 : Int32) (x3_110 : Int32) (x4_110 : Int32) : Option (Int32) :=
  k55 x2_110 x3_110 (x4_110 + 1)
noncomputable def D_X3_asker_55 (Q : Nat) (M : zMt) (N : zNt) : Nat → Int32 → Int32 → Int32 → Option (Int32)
  | 0, _, _, _ => none
  | n + 1, x2_55, x3_55, x4_55 =>
    if x2_55 = (-1 : Int32) then
      D_X3_asker_116 Q M N x3_55
    else
      if (M (Q + 1) 1) ≤ x4_55 then
        D_X3_asker_116 Q M N x3_55
      else
        if (zrd 0 (M (Q + 5)) 10 x4_55) = x2_55 then
          if (zrd 0 (M (Q + 6)) 10 x4_55) = 0 then
            D_X3_asker_110 Q M N (D_X3_asker_55 Q M N n) x2_55 (x3_55 ||| ((1 : Int32) <<< (x4_55 &&& 31))) x4_55
          else
            D_X3_asker_110 Q M N (D_X3_asker_55 Q M N n) x2_55 x3_55 x4_55
        else
          D_X3_asker_110 Q M N (D_X3_asker_55 Q M N n) x2_55 x3_55 x4_55
noncomputable def D_X3_asker (Q : Nat) (M : zMt) (N : zNt)  : Option (Int32) :=
  zB (D_X3_find (Q + 11) 10 N (M (Q + 1) 1) (N Q 8)) fun e_15 =>
  zB (D_X3_isFree Q M e_15) fun e_21 =>
  if e_21 = 0 then
    zB (D_X3_find (Q + 12) 4 N (M (Q + 1) 2) (N Q 8)) fun e_46 =>
    D_X3_asker_55 Q M N zFu e_46 (0 : Int32) (0 : Int32)
  else
    some (((1 : Int32) <<< (e_15 &&& 31)))
set_option maxRecDepth 100000 in
set_option maxHeartbeats 4000000 in
theorem t_X3_asker {l : Launch} {G : zG} {b : Nat} {L : List zC} {M : zMt} {N : zNt} {Q : Nat}  (hQ : LX3 L Q) {r : Int32} (h : D_X3_asker Q M N = some r) : zM l G b yX3_asker cX3_asker 5 (some .int) 2 0 0 [.ref Q] (L, M, N) (fun r2 z => r2 = some (.int r) ∧ z = (L, M, N)) := by
  refine zM.of miX3_asker (Nat.le_of_ble_eq_true rfl) ?_
  intro p e s m args below meth c X hr hname
  generalize hF : ((fun r2 z => r2 = some (.int r) ∧ z = (L, M, N)) : Option Value → zS → Prop) = FQ
  change Zw p l e { frames := 2, cells := 0, slots := 0, locals := 80 * (2) } s m args below meth c G b 5 (MQ below (zQ G b FQ) args s 0 0 (fun q : Nat => b ≤ q)) 0 0 0 [some (.ref Q), none, none, none, none] [] (L, M, N)
  obtain ⟨q_lt, q_o, q_draft, q_text, q_unitNames, q_hunterNames, q_partyNames, q_asked⟩ := id hQ
  obtain ⟨q_draft_lt, q_draft_o, q_draft_quota, q_draft_score, q_draft_guest, q_draft_party, q_draft_wishCount, q_draft_wishes, q_draft_has⟩ := id q_draft
  have J_116 : ∀ (x1_116 : Int32) (x2_116 : Int32) (x3_116 : Int32) (x4_116 : Int32), D_X3_asker_116 Q M N x3_116 = some r → Zw p l e { frames := 2, cells := 0, slots := 0, locals := 80 * (2) } s m args below meth c G b 5 (MQ below (zQ G b FQ) args s 0 0 (fun q : Nat => b ≤ q)) 0 0 116 [some (.ref (Q)), some (.int x1_116), some (.int x2_116), some (.int x3_116), some (.int x4_116)] [] (L, M, N) := by
    intro x1_116 x2_116 x3_116 x4_116 h
    unfold D_X3_asker_116 at h
    refine a_iload_n X dX3_asker_116 rfl ?_
    refine a_iret X hr dX3_asker_117 ⟨by decide, by decide⟩ ?_
    subst hF
    rw [← Option.some.inj h]
    exact ⟨rfl, rfl⟩
  have L_55 : ∀ u : Nat, ∀ (x1_55 : Int32) (x2_55 : Int32) (x3_55 : Int32) (x4_55 : Int32), D_X3_asker_55 Q M N u x2_55 x3_55 x4_55 = some r → Zw p l e { frames := 2, cells := 0, slots := 0, locals := 80 * (2) } s m args below meth c G b 5 (MQ below (zQ G b FQ) args s 0 0 (fun q : Nat => b ≤ q)) 0 0 55 [some (.ref (Q)), some (.int x1_55), some (.int x2_55), some (.int x3_55), some (.int x4_55)] [] (L, M, N) := by
    intro u
    induction u with
    | zero => intro x1_55 x2_55 x3_55 x4_55 h; cases (show none = some r from h)
    | succ u_55 ih_55 =>
      have J_110 : ∀ (x1_110 : Int32) (x2_110 : Int32) (x3_110 : Int32) (x4_110 : Int32), D_X3_asker_110 Q M N (D_X3_asker_55 Q M N u_55) x2_110 x3_110 x4_110 = some r → Zw p l e { frames := 2, cells := 0, slots := 0, locals := 80 * (2) } s m args below meth c G b 5 (MQ below (zQ G b FQ) args s 0 0 (fun q : Nat => b ≤ q)) 0 0 110 [some (.ref (Q)), some (.int x1_110), some (.int x2_110), some (.int x3_110), some (.int x4_110)] [] (L, M, N) := by
        intro x1_110 x2_110 x3_110 x4_110 h
        unfold D_X3_asker_110 at h
        refine a_iinc (v := x4_110 + 1) X dX3_asker_110 (by decide) rfl zi_1 ?_
        refine a_goto (tgt := 55) X dX3_asker_113 (by decide) ?_
        exact Zw.to2 (ih_55 _ _ _ _ h) rfl rfl rfl
      intro x1_55 x2_55 x3_55 x4_55 h
      rw [D_X3_asker_55] at h
      refine a_iload_n X dX3_asker_55 rfl ?_
      refine a_iconst (v := -1) X dX3_asker_56 (by decide) ?_
      refine a_icmp_eq (tgt := 116) X dX3_asker_57 (by decide) (fun h_57 => ?_) (fun h_57 => ?_)
      · replace h := (if_pos h_57).symm.trans h
        exact Zw.to2 (J_116 _ _ _ _ h) rfl rfl rfl
      · replace h := (if_neg h_57).symm.trans h
        refine a_iload X dX3_asker_60 rfl ?_
        refine a_aload_n X dX3_asker_62 rfl ?_
        refine a_getr X lf3_12 (by assumption) rfl (by omega) dX3_asker_63 ?_
        refine a_geti X lf3_151 (by assumption) rfl dX3_asker_66 ?_
        refine a_icmp_ge (tgt := 116) X dX3_asker_69 (by decide) (fun h_69 => ?_) (fun h_69 => ?_)
        · replace h := (if_pos h_69).symm.trans h
          exact Zw.to2 (J_116 _ _ _ _ h) rfl rfl rfl
        · replace h := (if_neg h_69).symm.trans h
          refine a_aload_n X dX3_asker_72 rfl ?_
          refine a_getr X lf3_12 (by assumption) rfl (by omega) dX3_asker_73 ?_
          refine a_getr X lf3_250 (by assumption) rfl (by omega) dX3_asker_76 ?_
          refine a_iload X dX3_asker_79 rfl ?_
          refine a_callSNv X dX3_asker_81 miX7_cell lm3_81 (c_cell (by assumption) (by first | decide | assumption)) rfl rfl (Nat.le_of_ble_eq_true rfl) ⟨by decide, by decide, by decide, by decide⟩ ?_
          refine a_iload_n X dX3_asker_84 rfl ?_
          refine a_icmp_ne (tgt := 110) X dX3_asker_85 (by decide) (fun h_85 => ?_) (fun h_85 => ?_)
          · replace h := (if_neg h_85).symm.trans h
            exact Zw.to2 (J_110 _ _ _ _ h) rfl rfl rfl
          · replace h := (if_pos h_85).symm.trans h
            refine a_aload_n X dX3_asker_88 rfl ?_
            refine a_getr X lf3_12 (by assumption) rfl (by omega) dX3_asker_89 ?_
            refine a_getr X lf3_252 (by assumption) rfl (by omega) dX3_asker_92 ?_
            refine a_iload X dX3_asker_95 rfl ?_
            refine a_callSNv X dX3_asker_97 miX7_cell lm3_81 (c_cell (by assumption) (by first | decide | assumption)) rfl rfl (Nat.le_of_ble_eq_true rfl) ⟨by decide, by decide, by decide, by decide⟩ ?_
            refine a_if_ne (tgt := 110) X dX3_asker_100 (by decide) (fun h_100 => ?_) (fun h_100 => ?_)
            · replace h := (if_neg h_100).symm.trans h
              exact Zw.to2 (J_110 _ _ _ _ h) rfl rfl rfl
            · replace h := (if_pos h_100).symm.trans h
              refine a_iload_n X dX3_asker_103 rfl ?_
              refine a_iconst (v := 1) X dX3_asker_104 (by decide) ?_
              refine a_iload X dX3_asker_105 rfl ?_
              refine a_ishl X dX3_asker_107 ?_
              refine a_ior X dX3_asker_108 ?_
              refine a_istore_n X dX3_asker_109 (by decide) ?_
              exact Zw.to2 (J_110 _ _ _ _ h) rfl rfl rfl
  have H_55 : ∀ (x1_55 : Int32) (x2_55 : Int32) (x3_55 : Int32) (x4_55 : Int32), D_X3_asker_55 Q M N zFu x2_55 x3_55 x4_55 = some r → Zw p l e { frames := 2, cells := 0, slots := 0, locals := 80 * (2) } s m args below meth c G b 5 (MQ below (zQ G b FQ) args s 0 0 (fun q : Nat => b ≤ q)) 0 0 55 [some (.ref (Q)), some (.int x1_55), some (.int x2_55), some (.int x3_55), some (.int x4_55)] [] (L, M, N) := L_55 zFu
  unfold D_X3_asker at h
  refine a_aload_n X dX3_asker_0 rfl ?_
  refine a_getr X lf3_33 (by assumption) rfl (by omega) dX3_asker_1 ?_
  refine a_aload_n X dX3_asker_4 rfl ?_
  refine a_getr X lf3_12 (by assumption) rfl (by omega) dX3_asker_5 ?_
  refine a_geti X lf3_151 (by assumption) rfl dX3_asker_8 ?_
  refine a_aload_n X dX3_asker_11 rfl ?_
  refine a_getl X lf3_104 (by assumption) rfl dX3_asker_12 ?_
  obtain ⟨e_15, f_15, h⟩ := zBx h
  refine a_callSv X dX3_asker_15 miX3_find lm3_202 (t_X3_find (by assumption) (by first | decide | assumption) f_15) rfl rfl (Nat.le_of_ble_eq_true rfl) ⟨by decide, by decide, by decide, by decide⟩ ?_
  refine a_istore_n X dX3_asker_18 (by decide) ?_
  refine a_aload_n X dX3_asker_19 rfl ?_
  refine a_iload_n X dX3_asker_20 rfl ?_
  obtain ⟨e_21, f_21, h⟩ := zBx h
  refine a_callVx X dX3_asker_21 miX3_isFree lm3_206 (t_X3_isFree (by assumption) f_21) (by assumption) rfl rfl rfl (Nat.le_of_ble_eq_true rfl) ⟨by decide, by decide, by decide, by decide⟩ (fun r_21 S_21 q_21 => ?_)
  obtain ⟨rfl, rfl, b_21⟩ := q_21
  refine a_if_eq (tgt := 31) X dX3_asker_24 (by decide) (fun h_24 => ?_) (fun h_24 => ?_)
  · replace h := (if_pos h_24).symm.trans h
    refine a_aload_n X dX3_asker_31 rfl ?_
    refine a_getr X lf3_36 (by assumption) rfl (by omega) dX3_asker_32 ?_
    refine a_aload_n X dX3_asker_35 rfl ?_
    refine a_getr X lf3_12 (by assumption) rfl (by omega) dX3_asker_36 ?_
    refine a_geti X lf3_157 (by assumption) rfl dX3_asker_39 ?_
    refine a_aload_n X dX3_asker_42 rfl ?_
    refine a_getl X lf3_104 (by assumption) rfl dX3_asker_43 ?_
    obtain ⟨e_46, f_46, h⟩ := zBx h
    refine a_callSv X dX3_asker_46 miX3_find lm3_202 (t_X3_find (by assumption) (by first | decide | assumption) f_46) rfl rfl (Nat.le_of_ble_eq_true rfl) ⟨by decide, by decide, by decide, by decide⟩ ?_
    refine a_istore_n X dX3_asker_49 (by decide) ?_
    refine a_iconst (v := 0) X dX3_asker_50 (by decide) ?_
    refine a_istore_n X dX3_asker_51 (by decide) ?_
    refine a_iconst (v := 0) X dX3_asker_52 (by decide) ?_
    refine a_istore X dX3_asker_53 (by decide) ?_
    exact Zw.to2 (H_55 _ _ _ _ h) rfl rfl rfl
  · replace h := (if_neg h_24).symm.trans h
    refine a_iconst (v := 1) X dX3_asker_27 (by decide) ?_
    refine a_iload_n X dX3_asker_28 rfl ?_
    refine a_ishl X dX3_asker_29 ?_
    refine a_iret X hr dX3_asker_30 ⟨by decide, by decide⟩ ?_
    subst hF
    rw [← Option.some.inj h]
    exact ⟨rfl, rfl⟩
noncomputable def D_X4_wishFor_109 (Q : Nat) (k38 : Int32 → Int32 → Int32 → Int32 → Int32 → Int32 → zMt → Option (zMt)) (x1_109 : Int32) (x2_109 : Int32) (x3_109 : Int32) (x4_109 : Int32) (x5_109 : Int32) (x6_109 : Int32) (M_109 : zMt) : Option (zMt) :=
  k38 x1_109 x2_109 x3_109 x4_109 x5_109 (x6_109 + 1) M_109
noncomputable def D_X4_wishFor_38 (Q : Nat) : Nat → Int32 → Int32 → Int32 → Int32 → Int32 → Int32 → zMt → Option (zMt)
  | 0, _, _, _, _, _, _, _ => none
  | n + 1, x1_38, x2_38, x3_38, x4_38, x5_38, x6_38, M_38 =>
    if (M_38 Q 1) ≤ x6_38 then
      some (M_38)
    else
      if ((x1_38 >>> (x6_38 &&& 31)) &&& (1 : Int32)) = (1 : Int32) then
        zLt (zwr M_38 (Q + 5) 10 x6_38 x5_38) fun M_65 =>
        zLt (zwr M_65 (Q + 6) 30 (x6_38 * (3 : Int32)) x2_38) fun M_77 =>
        zLt (zwr M_77 (Q + 6) 30 ((x6_38 * (3 : Int32)) + (1 : Int32)) x3_38) fun M_91 =>
        zLt (zwr M_91 (Q + 6) 30 ((x6_38 * (3 : Int32)) + (2 : Int32)) x4_38) fun M_106 =>
        D_X4_wishFor_109 Q (D_X4_wishFor_38 Q n) x1_38 x2_38 x3_38 x4_38 x5_38 x6_38 M_106
      else
        D_X4_wishFor_109 Q (D_X4_wishFor_38 Q n) x1_38 x2_38 x3_38 x4_38 x5_38 x6_38 M_38
noncomputable def D_X4_wishFor_32 (Q : Nat) (x1_32 : Int32) (x2_32 : Int32) (x3_32 : Int32) (x4_32 : Int32) (y0_32 : Int32) (y1_32 : Int32) (M_32 : zMt) : Option (zMt) :=
  D_X4_wishFor_38 Q zFu x1_32 x2_32 x3_32 x4_32 (y0_32 + y1_32) (0 : Int32) M_32
noncomputable def D_X4_wishFor_20 (Q : Nat) (x1_20 : Int32) (x2_20 : Int32) (x3_20 : Int32) (x4_20 : Int32) (y0_20 : Int32) (y1_20 : Int32) (M_20 : zMt) : Option (zMt) :=
  if x4_20 = (-1 : Int32) then
    D_X4_wishFor_32 Q x1_20 x2_20 x3_20 x4_20 (y0_20 + y1_20) (0 : Int32) M_20
  else
    D_X4_wishFor_32 Q x1_20 x2_20 x3_20 x4_20 (y0_20 + y1_20) (1 : Int32) M_20
noncomputable def D_X4_wishFor_10 (Q : Nat) (x1_10 : Int32) (x2_10 : Int32) (x3_10 : Int32) (x4_10 : Int32) (y0_10 : Int32) (M_10 : zMt) : Option (zMt) :=
  if x3_10 = (-1 : Int32) then
    D_X4_wishFor_20 Q x1_10 x2_10 x3_10 x4_10 y0_10 (0 : Int32) M_10
  else
    D_X4_wishFor_20 Q x1_10 x2_10 x3_10 x4_10 y0_10 (1 : Int32) M_10
noncomputable def D_X4_wishFor (Q : Nat) (v0 : Int32) (v1 : Int32) (v2 : Int32) (v3 : Int32) (M : zMt) : Option (zMt) :=
  if v1 = (-1 : Int32) then
    D_X4_wishFor_10 Q v0 v1 v2 v3 (0 : Int32) M
  else
    D_X4_wishFor_10 Q v0 v1 v2 v3 (1 : Int32) M
set_option maxRecDepth 100000 in
set_option maxHeartbeats 4000000 in
theorem t_X4_wishFor {l : Launch} {G : zG} {b : Nat} {L : List zC} {M : zMt} {N : zNt} {Q : Nat} {v0 : Int32} {v1 : Int32} {v2 : Int32} {v3 : Int32} (hQ : LX4 L Q) {r : zMt} (h : D_X4_wishFor Q v0 v1 v2 v3 M = some r) : zM l G b yX4_wishFor cX4_wishFor 7 none 1 0 0 [.ref Q, .int v0, .int v1, .int v2, .int v3] (L, M, N) (fun r2 z => r2 = none ∧ z = (L, r, N)) := by
  refine zM.of miX4_wishFor (Nat.le_of_ble_eq_true rfl) ?_
  intro p e s m args below meth c X hr hname
  generalize hF : ((fun r2 z => r2 = none ∧ z = (L, r, N)) : Option Value → zS → Prop) = FQ
  change Zw p l e { frames := 1, cells := 0, slots := 0, locals := 80 * (1) } s m args below meth c G b 7 (MQ below (zQ G b FQ) args s 0 0 (fun q : Nat => b ≤ q)) 0 0 0 [some (.ref Q), some (.int v0), some (.int v1), some (.int v2), some (.int v3), none, none] [] (L, M, N)
  obtain ⟨q_lt, q_o, q_quota, q_score, q_guest, q_party, q_wishCount, q_wishes, q_has⟩ := id hQ
  have L_38 : ∀ u : Nat, ∀ (x1_38 : Int32) (x2_38 : Int32) (x3_38 : Int32) (x4_38 : Int32) (x5_38 : Int32) (x6_38 : Int32) (M_38 : zMt), D_X4_wishFor_38 Q u x1_38 x2_38 x3_38 x4_38 x5_38 x6_38 M_38 = some r → Zw p l e { frames := 1, cells := 0, slots := 0, locals := 80 * (1) } s m args below meth c G b 7 (MQ below (zQ G b FQ) args s 0 0 (fun q : Nat => b ≤ q)) 0 0 38 [some (.ref (Q)), some (.int x1_38), some (.int x2_38), some (.int x3_38), some (.int x4_38), some (.int x5_38), some (.int x6_38)] [] (L, M_38, N) := by
    intro u
    induction u with
    | zero => intro x1_38 x2_38 x3_38 x4_38 x5_38 x6_38 M_38 h; cases (show none = some r from h)
    | succ u_38 ih_38 =>
      have J_109 : ∀ (x1_109 : Int32) (x2_109 : Int32) (x3_109 : Int32) (x4_109 : Int32) (x5_109 : Int32) (x6_109 : Int32) (M_109 : zMt), D_X4_wishFor_109 Q (D_X4_wishFor_38 Q u_38) x1_109 x2_109 x3_109 x4_109 x5_109 x6_109 M_109 = some r → Zw p l e { frames := 1, cells := 0, slots := 0, locals := 80 * (1) } s m args below meth c G b 7 (MQ below (zQ G b FQ) args s 0 0 (fun q : Nat => b ≤ q)) 0 0 109 [some (.ref (Q)), some (.int x1_109), some (.int x2_109), some (.int x3_109), some (.int x4_109), some (.int x5_109), some (.int x6_109)] [] (L, M_109, N) := by
        intro x1_109 x2_109 x3_109 x4_109 x5_109 x6_109 M_109 h
        unfold D_X4_wishFor_109 at h
        refine a_iinc (v := x6_109 + 1) X dX4_wishFor_109 (by decide) rfl zi_1 ?_
        refine a_goto (tgt := 38) X dX4_wishFor_112 (by decide) ?_
        exact Zw.to2 (ih_38 _ _ _ _ _ _ _ h) rfl rfl rfl
      intro x1_38 x2_38 x3_38 x4_38 x5_38 x6_38 M_38 h
      rw [D_X4_wishFor_38] at h
      refine a_iload X dX4_wishFor_38 rfl ?_
      refine a_aload_n X dX4_wishFor_40 rfl ?_
      refine a_geti X lf4_37 (by assumption) rfl dX4_wishFor_41 ?_
      refine a_icmp_ge (tgt := 115) X dX4_wishFor_44 (by decide) (fun h_44 => ?_) (fun h_44 => ?_)
      · replace h := (if_pos h_44).symm.trans h
        refine a_vret X hr dX4_wishFor_115 ⟨by decide, by decide⟩ ?_
        subst hF
        rw [← Option.some.inj h]
        exact ⟨rfl, rfl⟩
      · replace h := (if_neg h_44).symm.trans h
        refine a_iload_n X dX4_wishFor_47 rfl ?_
        refine a_iload X dX4_wishFor_48 rfl ?_
        refine a_ishr X dX4_wishFor_50 ?_
        refine a_iconst (v := 1) X dX4_wishFor_51 (by decide) ?_
        refine a_iand X dX4_wishFor_52 ?_
        refine a_iconst (v := 1) X dX4_wishFor_53 (by decide) ?_
        refine a_icmp_ne (tgt := 109) X dX4_wishFor_54 (by decide) (fun h_54 => ?_) (fun h_54 => ?_)
        · replace h := (if_neg h_54).symm.trans h
          exact Zw.to2 (J_109 _ _ _ _ _ _ _ h) rfl rfl rfl
        · replace h := (if_pos h_54).symm.trans h
          refine a_aload_n X dX4_wishFor_57 rfl ?_
          refine a_getr X lf4_24 (by assumption) rfl (by omega) dX4_wishFor_58 ?_
          refine a_iload X dX4_wishFor_61 rfl ?_
          refine a_iload X dX4_wishFor_63 rfl ?_
          obtain ⟨M_65, f_65, h⟩ := zLtx h
          refine a_callSNu X dX4_wishFor_65 miX7_put lm4_63 (zMu (c_put (by assumption) (by first | decide | assumption)) f_65) rfl rfl (Nat.le_of_ble_eq_true rfl) ⟨by decide, by decide, by decide, by decide⟩ ?_
          refine a_aload_n X dX4_wishFor_68 rfl ?_
          refine a_getr X lf4_27 (by assumption) rfl (by omega) dX4_wishFor_69 ?_
          refine a_iload X dX4_wishFor_72 rfl ?_
          refine a_iconst (v := 3) X dX4_wishFor_74 (by decide) ?_
          refine a_imul X dX4_wishFor_75 ?_
          refine a_iload_n X dX4_wishFor_76 rfl ?_
          obtain ⟨M_77, f_77, h⟩ := zLtx h
          refine a_callSNu X dX4_wishFor_77 miX7_put lm4_63 (zMu (c_put (by assumption) (by first | decide | assumption)) f_77) rfl rfl (Nat.le_of_ble_eq_true rfl) ⟨by decide, by decide, by decide, by decide⟩ ?_
          refine a_aload_n X dX4_wishFor_80 rfl ?_
          refine a_getr X lf4_27 (by assumption) rfl (by omega) dX4_wishFor_81 ?_
          refine a_iload X dX4_wishFor_84 rfl ?_
          refine a_iconst (v := 3) X dX4_wishFor_86 (by decide) ?_
          refine a_imul X dX4_wishFor_87 ?_
          refine a_iconst (v := 1) X dX4_wishFor_88 (by decide) ?_
          refine a_iadd X dX4_wishFor_89 ?_
          refine a_iload_n X dX4_wishFor_90 rfl ?_
          obtain ⟨M_91, f_91, h⟩ := zLtx h
          refine a_callSNu X dX4_wishFor_91 miX7_put lm4_63 (zMu (c_put (by assumption) (by first | decide | assumption)) f_91) rfl rfl (Nat.le_of_ble_eq_true rfl) ⟨by decide, by decide, by decide, by decide⟩ ?_
          refine a_aload_n X dX4_wishFor_94 rfl ?_
          refine a_getr X lf4_27 (by assumption) rfl (by omega) dX4_wishFor_95 ?_
          refine a_iload X dX4_wishFor_98 rfl ?_
          refine a_iconst (v := 3) X dX4_wishFor_100 (by decide) ?_
          refine a_imul X dX4_wishFor_101 ?_
          refine a_iconst (v := 2) X dX4_wishFor_102 (by decide) ?_
          refine a_iadd X dX4_wishFor_103 ?_
          refine a_iload X dX4_wishFor_104 rfl ?_
          obtain ⟨M_106, f_106, h⟩ := zLtx h
          refine a_callSNu X dX4_wishFor_106 miX7_put lm4_63 (zMu (c_put (by assumption) (by first | decide | assumption)) f_106) rfl rfl (Nat.le_of_ble_eq_true rfl) ⟨by decide, by decide, by decide, by decide⟩ ?_
          exact Zw.to2 (J_109 _ _ _ _ _ _ _ h) rfl rfl rfl
  have H_38 : ∀ (x1_38 : Int32) (x2_38 : Int32) (x3_38 : Int32) (x4_38 : Int32) (x5_38 : Int32) (x6_38 : Int32) (M_38 : zMt), D_X4_wishFor_38 Q zFu x1_38 x2_38 x3_38 x4_38 x5_38 x6_38 M_38 = some r → Zw p l e { frames := 1, cells := 0, slots := 0, locals := 80 * (1) } s m args below meth c G b 7 (MQ below (zQ G b FQ) args s 0 0 (fun q : Nat => b ≤ q)) 0 0 38 [some (.ref (Q)), some (.int x1_38), some (.int x2_38), some (.int x3_38), some (.int x4_38), some (.int x5_38), some (.int x6_38)] [] (L, M_38, N) := L_38 zFu
  have J_32 : ∀ (x1_32 : Int32) (x2_32 : Int32) (x3_32 : Int32) (x4_32 : Int32) (x5_32 : Option Value) (x6_32 : Option Value) (y0_32 : Int32) (y1_32 : Int32) (M_32 : zMt), (y1_32 = 0 ∨ y1_32 = 1) → D_X4_wishFor_32 Q x1_32 x2_32 x3_32 x4_32 y0_32 y1_32 M_32 = some r → Zw p l e { frames := 1, cells := 0, slots := 0, locals := 80 * (1) } s m args below meth c G b 7 (MQ below (zQ G b FQ) args s 0 0 (fun q : Nat => b ≤ q)) 0 0 32 [some (.ref (Q)), some (.int x1_32), some (.int x2_32), some (.int x3_32), some (.int x4_32), x5_32, x6_32] [.int y1_32, .int y0_32] (L, M_32, N) := by
    intro x1_32 x2_32 x3_32 x4_32 x5_32 x6_32 y0_32 y1_32 M_32 fb_y1_32 h
    unfold D_X4_wishFor_32 at h
    refine a_iadd X dX4_wishFor_32 ?_
    refine a_istore X dX4_wishFor_33 (by decide) ?_
    refine a_iconst (v := 0) X dX4_wishFor_35 (by decide) ?_
    refine a_istore X dX4_wishFor_36 (by decide) ?_
    exact Zw.to2 (H_38 _ _ _ _ _ _ _ h) rfl rfl rfl
  have J_20 : ∀ (x1_20 : Int32) (x2_20 : Int32) (x3_20 : Int32) (x4_20 : Int32) (x5_20 : Option Value) (x6_20 : Option Value) (y0_20 : Int32) (y1_20 : Int32) (M_20 : zMt), (y0_20 = 0 ∨ y0_20 = 1) → (y1_20 = 0 ∨ y1_20 = 1) → D_X4_wishFor_20 Q x1_20 x2_20 x3_20 x4_20 y0_20 y1_20 M_20 = some r → Zw p l e { frames := 1, cells := 0, slots := 0, locals := 80 * (1) } s m args below meth c G b 7 (MQ below (zQ G b FQ) args s 0 0 (fun q : Nat => b ≤ q)) 0 0 20 [some (.ref (Q)), some (.int x1_20), some (.int x2_20), some (.int x3_20), some (.int x4_20), x5_20, x6_20] [.int y1_20, .int y0_20] (L, M_20, N) := by
    intro x1_20 x2_20 x3_20 x4_20 x5_20 x6_20 y0_20 y1_20 M_20 fb_y0_20 fb_y1_20 h
    unfold D_X4_wishFor_20 at h
    refine a_iadd X dX4_wishFor_20 ?_
    refine a_iload X dX4_wishFor_21 rfl ?_
    refine a_iconst (v := -1) X dX4_wishFor_23 (by decide) ?_
    refine a_icmp_ne (tgt := 31) X dX4_wishFor_24 (by decide) (fun h_24 => ?_) (fun h_24 => ?_)
    · replace h := (if_neg h_24).symm.trans h
      refine a_iconst (v := 1) X dX4_wishFor_31 (by decide) ?_
      exact Zw.to2 (J_32 _ _ _ _ _ _ _ _ _ (by first | exact Or.inl rfl | exact Or.inr rfl | assumption) h) rfl rfl rfl
    · replace h := (if_pos h_24).symm.trans h
      refine a_iconst (v := 0) X dX4_wishFor_27 (by decide) ?_
      refine a_goto (tgt := 32) X dX4_wishFor_28 (by decide) ?_
      exact Zw.to2 (J_32 _ _ _ _ _ _ _ _ _ (by first | exact Or.inl rfl | exact Or.inr rfl | assumption) h) rfl rfl rfl
  have J_10 : ∀ (x1_10 : Int32) (x2_10 : Int32) (x3_10 : Int32) (x4_10 : Int32) (x5_10 : Option Value) (x6_10 : Option Value) (y0_10 : Int32) (M_10 : zMt), (y0_10 = 0 ∨ y0_10 = 1) → D_X4_wishFor_10 Q x1_10 x2_10 x3_10 x4_10 y0_10 M_10 = some r → Zw p l e { frames := 1, cells := 0, slots := 0, locals := 80 * (1) } s m args below meth c G b 7 (MQ below (zQ G b FQ) args s 0 0 (fun q : Nat => b ≤ q)) 0 0 10 [some (.ref (Q)), some (.int x1_10), some (.int x2_10), some (.int x3_10), some (.int x4_10), x5_10, x6_10] [.int y0_10] (L, M_10, N) := by
    intro x1_10 x2_10 x3_10 x4_10 x5_10 x6_10 y0_10 M_10 fb_y0_10 h
    unfold D_X4_wishFor_10 at h
    refine a_iload_n X dX4_wishFor_10 rfl ?_
    refine a_iconst (v := -1) X dX4_wishFor_11 (by decide) ?_
    refine a_icmp_ne (tgt := 19) X dX4_wishFor_12 (by decide) (fun h_12 => ?_) (fun h_12 => ?_)
    · replace h := (if_neg h_12).symm.trans h
      refine a_iconst (v := 1) X dX4_wishFor_19 (by decide) ?_
      exact Zw.to2 (J_20 _ _ _ _ _ _ _ _ _ (by first | exact Or.inl rfl | exact Or.inr rfl | assumption) (by first | exact Or.inl rfl | exact Or.inr rfl | assumption) h) rfl rfl rfl
    · replace h := (if_pos h_12).symm.trans h
      refine a_iconst (v := 0) X dX4_wishFor_15 (by decide) ?_
      refine a_goto (tgt := 20) X dX4_wishFor_16 (by decide) ?_
      exact Zw.to2 (J_20 _ _ _ _ _ _ _ _ _ (by first | exact Or.inl rfl | exact Or.inr rfl | assumption) (by first | exact Or.inl rfl | exact Or.inr rfl | assumption) h) rfl rfl rfl
  unfold D_X4_wishFor at h
  refine a_iload_n X dX4_wishFor_0 rfl ?_
  refine a_iconst (v := -1) X dX4_wishFor_1 (by decide) ?_
  refine a_icmp_ne (tgt := 9) X dX4_wishFor_2 (by decide) (fun h_2 => ?_) (fun h_2 => ?_)
  · replace h := (if_neg h_2).symm.trans h
    refine a_iconst (v := 1) X dX4_wishFor_9 (by decide) ?_
    exact Zw.to2 (J_10 _ _ _ _ _ _ _ _ (by first | exact Or.inl rfl | exact Or.inr rfl | assumption) h) rfl rfl rfl
  · replace h := (if_pos h_2).symm.trans h
    refine a_iconst (v := 0) X dX4_wishFor_5 (by decide) ?_
    refine a_goto (tgt := 10) X dX4_wishFor_6 (by decide) ?_
    exact Zw.to2 (J_10 _ _ _ _ _ _ _ _ (by first | exact Or.inl rfl | exact Or.inr rfl | assumption) h) rfl rfl rfl
noncomputable def D_X3_readAsks_150 (Q : Nat) (x1_150 : Int32) (M_150 : zMt) (N_150 : zNt) : Option (Int32 × zMt × zNt) :=
  zB (D_X3_endOfLine Q M_150 N_150) fun e_151 =>
  if e_151.1 = 0 then
    some ((0 : Int32), e_151.2.1, e_151.2.2)
  else
    zB (D_X4_wishFor (Q + 1) x1_150 (zrd 0 (e_151.2.1 (Q + 13)) 3 (0 : Int32)) (zrd 0 (e_151.2.1 (Q + 13)) 3 (1 : Int32)) (zrd 0 (e_151.2.1 (Q + 13)) 3 (2 : Int32)) e_151.2.1) fun e_188 =>
    some ((1 : Int32), e_188, e_151.2.2)
noncomputable def D_X3_readAsks_125 (Q : Nat) (M_125 : zMt) (N_125 : zNt) : Option (Int32 × zMt × zNt) :=
  zB (D_X3_fail Q (4 : Int32) M_125) fun e_127 =>
  some (e_127.1, e_127.2, N_125)
noncomputable def D_X3_readAsks_64 (Q : Nat) (k46 : Int32 → Int32 → zMt → zNt → Option (Int32 × zMt × zNt)) (x1_64 : Int32) (x2_64 : Int32) (M_64 : zMt) (N_64 : zNt) : Option (Int32 × zMt × zNt) :=
  zB (D_X3_isName Q M_64) fun e_65 =>
  if e_65 = 0 then
    zB (D_X3_fail Q (2 : Int32) M_64) fun e_73 =>
    some (e_73.1, e_73.2, N_64)
  else
    zB (D_X3_find (Q + 10) 5 N_64 (M_64 (Q + 1) 0) (N_64 Q 8)) fun e_92 =>
    if e_92 = (-1 : Int32) then
      D_X3_readAsks_125 Q M_64 N_64
    else
      if (zrd 0 (M_64 (Q + 13)) 3 (0 : Int32)) = e_92 then
        D_X3_readAsks_125 Q M_64 N_64
      else
        if (zrd 0 (M_64 (Q + 13)) 3 (1 : Int32)) = e_92 then
          D_X3_readAsks_125 Q M_64 N_64
        else
          zLt (zwr M_64 (Q + 13) 3 x2_64 e_92) fun M_137 =>
          zB (D_X3_step Q M_137 N_64) fun e_141 =>
          k46 x1_64 (x2_64 + 1) e_141.1 e_141.2
noncomputable def D_X3_readAsks_46 (Q : Nat) : Nat → Int32 → Int32 → zMt → zNt → Option (Int32 × zMt × zNt)
  | 0, _, _, _, _ => none
  | n + 1, x1_46, x2_46, M_46, N_46 =>
    if (3 : Int32) ≤ x2_46 then
      D_X3_readAsks_150 Q x1_46 M_46 N_46
    else
      if x2_46 < (1 : Int32) then
        D_X3_readAsks_64 Q (D_X3_readAsks_46 Q n) x1_46 x2_46 M_46 N_46
      else
        if (M_46 Q 6) = (3 : Int32) then
          D_X3_readAsks_150 Q x1_46 M_46 N_46
        else
          D_X3_readAsks_64 Q (D_X3_readAsks_46 Q n) x1_46 x2_46 M_46 N_46
noncomputable def D_X3_readAsks (Q : Nat) (M : zMt) (N : zNt) : Option (Int32 × zMt × zNt) :=
  zB (D_X3_step Q M N) fun e_1 =>
  zB (D_X3_isName Q e_1.1) fun e_5 =>
  if e_5 = 0 then
    zB (D_X3_fail Q (2 : Int32) e_1.1) fun e_13 =>
    some (e_13.1, e_13.2, e_1.2)
  else
    zB (D_X3_asker Q e_1.1 e_1.2) fun e_18 =>
    if e_18 = 0 then
      zB (D_X3_fail Q (4 : Int32) e_1.1) fun e_28 =>
      some (e_28.1, e_28.2, e_1.2)
    else
      zB (D_X3_step Q e_1.1 e_1.2) fun e_33 =>
      zLt (zfil e_33.1 (Q + 13) 3 (-1 : Int32)) fun M_41 =>
      D_X3_readAsks_46 Q zFu e_18 (0 : Int32) M_41 e_33.2
set_option maxRecDepth 100000 in
set_option maxHeartbeats 4000000 in
theorem t_X3_readAsks {l : Launch} {G : zG} {b : Nat} {L : List zC} {M : zMt} {N : zNt} {Q : Nat}  (hQ : LX3 L Q) {r : Int32 × zMt × zNt} (h : D_X3_readAsks Q M N = some r) : zM l G b yX3_readAsks cX3_readAsks 4 (some .boolean) 6 0 0 [.ref Q] (L, M, N) (fun r2 z => r2 = some (.int r.1) ∧ z = (L, r.2.1, r.2.2) ∧ (r.1 = 0 ∨ r.1 = 1)) := by
  refine zM.of miX3_readAsks (Nat.le_of_ble_eq_true rfl) ?_
  intro p e s m args below meth c X hr hname
  generalize hF : ((fun r2 z => r2 = some (.int r.1) ∧ z = (L, r.2.1, r.2.2) ∧ (r.1 = 0 ∨ r.1 = 1)) : Option Value → zS → Prop) = FQ
  change Zw p l e { frames := 6, cells := 0, slots := 0, locals := 80 * (6) } s m args below meth c G b 4 (MQ below (zQ G b FQ) args s 0 0 (fun q : Nat => b ≤ q)) 0 0 0 [some (.ref Q), none, none, none] [] (L, M, N)
  obtain ⟨q_lt, q_o, q_draft, q_text, q_unitNames, q_hunterNames, q_partyNames, q_asked⟩ := id hQ
  obtain ⟨q_draft_lt, q_draft_o, q_draft_quota, q_draft_score, q_draft_guest, q_draft_party, q_draft_wishCount, q_draft_wishes, q_draft_has⟩ := id q_draft
  have J_150 : ∀ (x1_150 : Int32) (x2_150 : Int32) (x3_150 : Option Value) (M_150 : zMt) (N_150 : zNt), D_X3_readAsks_150 Q x1_150 M_150 N_150 = some r → Zw p l e { frames := 6, cells := 0, slots := 0, locals := 80 * (6) } s m args below meth c G b 4 (MQ below (zQ G b FQ) args s 0 0 (fun q : Nat => b ≤ q)) 0 0 150 [some (.ref (Q)), some (.int x1_150), some (.int x2_150), x3_150] [] (L, M_150, N_150) := by
    intro x1_150 x2_150 x3_150 M_150 N_150 h
    unfold D_X3_readAsks_150 at h
    refine a_aload_n X dX3_readAsks_150 rfl ?_
    obtain ⟨e_151, f_151, h⟩ := zBx h
    refine a_callVx X dX3_readAsks_151 miX3_endOfLine lm3_181 (t_X3_endOfLine (by assumption) f_151) (by assumption) rfl rfl rfl (Nat.le_of_ble_eq_true rfl) ⟨by decide, by decide, by decide, by decide⟩ (fun r_151 S_151 q_151 => ?_)
    obtain ⟨rfl, rfl, b_151⟩ := q_151
    refine a_if_ne (tgt := 159) X dX3_readAsks_154 (by decide) (fun h_154 => ?_) (fun h_154 => ?_)
    · replace h := (if_neg h_154).symm.trans h
      refine a_aload_n X dX3_readAsks_159 rfl ?_
      refine a_getr X lf3_12 (by assumption) rfl (by omega) dX3_readAsks_160 ?_
      refine a_iload_n X dX3_readAsks_163 rfl ?_
      refine a_aload_n X dX3_readAsks_164 rfl ?_
      refine a_getr X lf3_39 (by assumption) rfl (by omega) dX3_readAsks_165 ?_
      refine a_iconst (v := 0) X dX3_readAsks_168 (by decide) ?_
      refine a_callSNv X dX3_readAsks_169 miX7_cell lm3_81 (c_cell (by assumption) (by first | decide | assumption)) rfl rfl (Nat.le_of_ble_eq_true rfl) ⟨by decide, by decide, by decide, by decide⟩ ?_
      refine a_aload_n X dX3_readAsks_172 rfl ?_
      refine a_getr X lf3_39 (by assumption) rfl (by omega) dX3_readAsks_173 ?_
      refine a_iconst (v := 1) X dX3_readAsks_176 (by decide) ?_
      refine a_callSNv X dX3_readAsks_177 miX7_cell lm3_81 (c_cell (by assumption) (by first | decide | assumption)) rfl rfl (Nat.le_of_ble_eq_true rfl) ⟨by decide, by decide, by decide, by decide⟩ ?_
      refine a_aload_n X dX3_readAsks_180 rfl ?_
      refine a_getr X lf3_39 (by assumption) rfl (by omega) dX3_readAsks_181 ?_
      refine a_iconst (v := 2) X dX3_readAsks_184 (by decide) ?_
      refine a_callSNv X dX3_readAsks_185 miX7_cell lm3_81 (c_cell (by assumption) (by first | decide | assumption)) rfl rfl (Nat.le_of_ble_eq_true rfl) ⟨by decide, by decide, by decide, by decide⟩ ?_
      obtain ⟨e_188, f_188, h⟩ := zBx h
      refine a_callVu X dX3_readAsks_188 miX4_wishFor lm3_223 (t_X4_wishFor (by assumption) f_188) (by assumption) rfl rfl rfl (Nat.le_of_ble_eq_true rfl) ⟨by decide, by decide, by decide, by decide⟩ ?_
      refine a_iconst (v := 1) X dX3_readAsks_191 (by decide) ?_
      refine a_zret X (by first | exact Or.inl rfl | exact Or.inr rfl | assumption) hr dX3_readAsks_192 ⟨by decide, by decide⟩ ?_
      subst hF
      rw [← Option.some.inj h]
      exact ⟨rfl, rfl, (by first | exact Or.inl rfl | exact Or.inr rfl | assumption)⟩
    · replace h := (if_pos h_154).symm.trans h
      refine a_iconst (v := 0) X dX3_readAsks_157 (by decide) ?_
      refine a_zret X (by first | exact Or.inl rfl | exact Or.inr rfl | assumption) hr dX3_readAsks_158 ⟨by decide, by decide⟩ ?_
      subst hF
      rw [← Option.some.inj h]
      exact ⟨rfl, rfl, (by first | exact Or.inl rfl | exact Or.inr rfl | assumption)⟩
  have J_125 : ∀ (x1_125 : Int32) (x2_125 : Int32) (x3_125 : Int32) (M_125 : zMt) (N_125 : zNt), D_X3_readAsks_125 Q M_125 N_125 = some r → Zw p l e { frames := 6, cells := 0, slots := 0, locals := 80 * (6) } s m args below meth c G b 4 (MQ below (zQ G b FQ) args s 0 0 (fun q : Nat => b ≤ q)) 0 0 125 [some (.ref (Q)), some (.int x1_125), some (.int x2_125), some (.int x3_125)] [] (L, M_125, N_125) := by
    intro x1_125 x2_125 x3_125 M_125 N_125 h
    unfold D_X3_readAsks_125 at h
    refine a_aload_n X dX3_readAsks_125 rfl ?_
    refine a_iconst (v := 4) X dX3_readAsks_126 (by decide) ?_
    obtain ⟨e_127, f_127, h⟩ := zBx h
    refine a_callVx X dX3_readAsks_127 miX3_fail lm3_148 (t_X3_fail (by assumption) f_127) (by assumption) rfl rfl rfl (Nat.le_of_ble_eq_true rfl) ⟨by decide, by decide, by decide, by decide⟩ (fun r_127 S_127 q_127 => ?_)
    obtain ⟨rfl, rfl, b_127⟩ := q_127
    refine a_zret X (by first | exact Or.inl rfl | exact Or.inr rfl | assumption) hr dX3_readAsks_130 ⟨by decide, by decide⟩ ?_
    subst hF
    rw [← Option.some.inj h]
    exact ⟨rfl, rfl, (by first | exact Or.inl rfl | exact Or.inr rfl | assumption)⟩
  have L_46 : ∀ u : Nat, ∀ (x1_46 : Int32) (x2_46 : Int32) (x3_46 : Option Value) (M_46 : zMt) (N_46 : zNt), D_X3_readAsks_46 Q u x1_46 x2_46 M_46 N_46 = some r → Zw p l e { frames := 6, cells := 0, slots := 0, locals := 80 * (6) } s m args below meth c G b 4 (MQ below (zQ G b FQ) args s 0 0 (fun q : Nat => b ≤ q)) 0 0 46 [some (.ref (Q)), some (.int x1_46), some (.int x2_46), x3_46] [] (L, M_46, N_46) := by
    intro u
    induction u with
    | zero => intro x1_46 x2_46 x3_46 M_46 N_46 h; cases (show none = some r from h)
    | succ u_46 ih_46 =>
      have J_64 : ∀ (x1_64 : Int32) (x2_64 : Int32) (x3_64 : Option Value) (M_64 : zMt) (N_64 : zNt), D_X3_readAsks_64 Q (D_X3_readAsks_46 Q u_46) x1_64 x2_64 M_64 N_64 = some r → Zw p l e { frames := 6, cells := 0, slots := 0, locals := 80 * (6) } s m args below meth c G b 4 (MQ below (zQ G b FQ) args s 0 0 (fun q : Nat => b ≤ q)) 0 0 64 [some (.ref (Q)), some (.int x1_64), some (.int x2_64), x3_64] [] (L, M_64, N_64) := by
        intro x1_64 x2_64 x3_64 M_64 N_64 h
        unfold D_X3_readAsks_64 at h
        refine a_aload_n X dX3_readAsks_64 rfl ?_
        obtain ⟨e_65, f_65, h⟩ := zBx h
        refine a_callVx X dX3_readAsks_65 miX3_isName lm3_199 (t_X3_isName (by assumption) f_65) (by assumption) rfl rfl rfl (Nat.le_of_ble_eq_true rfl) ⟨by decide, by decide, by decide, by decide⟩ (fun r_65 S_65 q_65 => ?_)
        obtain ⟨rfl, rfl, b_65⟩ := q_65
        refine a_if_ne (tgt := 77) X dX3_readAsks_68 (by decide) (fun h_68 => ?_) (fun h_68 => ?_)
        · replace h := (if_neg h_68).symm.trans h
          refine a_aload_n X dX3_readAsks_77 rfl ?_
          refine a_getr X lf3_29 (by assumption) rfl (by omega) dX3_readAsks_78 ?_
          refine a_aload_n X dX3_readAsks_81 rfl ?_
          refine a_getr X lf3_12 (by assumption) rfl (by omega) dX3_readAsks_82 ?_
          refine a_geti X lf3_142 (by assumption) rfl dX3_readAsks_85 ?_
          refine a_aload_n X dX3_readAsks_88 rfl ?_
          refine a_getl X lf3_104 (by assumption) rfl dX3_readAsks_89 ?_
          obtain ⟨e_92, f_92, h⟩ := zBx h
          refine a_callSv X dX3_readAsks_92 miX3_find lm3_202 (t_X3_find (by assumption) (by first | decide | assumption) f_92) rfl rfl (Nat.le_of_ble_eq_true rfl) ⟨by decide, by decide, by decide, by decide⟩ ?_
          refine a_istore_n X dX3_readAsks_95 (by decide) ?_
          refine a_iload_n X dX3_readAsks_96 rfl ?_
          refine a_iconst (v := -1) X dX3_readAsks_97 (by decide) ?_
          refine a_icmp_eq (tgt := 125) X dX3_readAsks_98 (by decide) (fun h_98 => ?_) (fun h_98 => ?_)
          · replace h := (if_pos h_98).symm.trans h
            exact Zw.to2 (J_125 _ _ _ _ _ h) rfl rfl rfl
          · replace h := (if_neg h_98).symm.trans h
            refine a_aload_n X dX3_readAsks_101 rfl ?_
            refine a_getr X lf3_39 (by assumption) rfl (by omega) dX3_readAsks_102 ?_
            refine a_iconst (v := 0) X dX3_readAsks_105 (by decide) ?_
            refine a_callSNv X dX3_readAsks_106 miX7_cell lm3_81 (c_cell (by assumption) (by first | decide | assumption)) rfl rfl (Nat.le_of_ble_eq_true rfl) ⟨by decide, by decide, by decide, by decide⟩ ?_
            refine a_iload_n X dX3_readAsks_109 rfl ?_
            refine a_icmp_eq (tgt := 125) X dX3_readAsks_110 (by decide) (fun h_110 => ?_) (fun h_110 => ?_)
            · replace h := (if_pos h_110).symm.trans h
              exact Zw.to2 (J_125 _ _ _ _ _ h) rfl rfl rfl
            · replace h := (if_neg h_110).symm.trans h
              refine a_aload_n X dX3_readAsks_113 rfl ?_
              refine a_getr X lf3_39 (by assumption) rfl (by omega) dX3_readAsks_114 ?_
              refine a_iconst (v := 1) X dX3_readAsks_117 (by decide) ?_
              refine a_callSNv X dX3_readAsks_118 miX7_cell lm3_81 (c_cell (by assumption) (by first | decide | assumption)) rfl rfl (Nat.le_of_ble_eq_true rfl) ⟨by decide, by decide, by decide, by decide⟩ ?_
              refine a_iload_n X dX3_readAsks_121 rfl ?_
              refine a_icmp_ne (tgt := 131) X dX3_readAsks_122 (by decide) (fun h_122 => ?_) (fun h_122 => ?_)
              · replace h := (if_neg h_122).symm.trans h
                refine a_aload_n X dX3_readAsks_131 rfl ?_
                refine a_getr X lf3_39 (by assumption) rfl (by omega) dX3_readAsks_132 ?_
                refine a_iload_n X dX3_readAsks_135 rfl ?_
                refine a_iload_n X dX3_readAsks_136 rfl ?_
                obtain ⟨M_137, f_137, h⟩ := zLtx h
                refine a_callSNu X dX3_readAsks_137 miX7_put lm3_219 (zMu (c_put (by assumption) (by first | decide | assumption)) f_137) rfl rfl (Nat.le_of_ble_eq_true rfl) ⟨by decide, by decide, by decide, by decide⟩ ?_
                refine a_aload_n X dX3_readAsks_140 rfl ?_
                obtain ⟨e_141, f_141, h⟩ := zBx h
                refine a_callVu X dX3_readAsks_141 miX3_step lm3_71 (t_X3_step (by assumption) f_141) (by assumption) rfl rfl rfl (Nat.le_of_ble_eq_true rfl) ⟨by decide, by decide, by decide, by decide⟩ ?_
                refine a_iinc (v := x2_64 + 1) X dX3_readAsks_144 (by decide) rfl zi_1 ?_
                refine a_goto (tgt := 46) X dX3_readAsks_147 (by decide) ?_
                exact Zw.to2 (ih_46 _ _ _ _ _ h) rfl rfl rfl
              · replace h := (if_pos h_122).symm.trans h
                exact Zw.to2 (J_125 _ _ _ _ _ h) rfl rfl rfl
        · replace h := (if_pos h_68).symm.trans h
          refine a_aload_n X dX3_readAsks_71 rfl ?_
          refine a_iconst (v := 2) X dX3_readAsks_72 (by decide) ?_
          obtain ⟨e_73, f_73, h⟩ := zBx h
          refine a_callVx X dX3_readAsks_73 miX3_fail lm3_148 (t_X3_fail (by assumption) f_73) (by assumption) rfl rfl rfl (Nat.le_of_ble_eq_true rfl) ⟨by decide, by decide, by decide, by decide⟩ (fun r_73 S_73 q_73 => ?_)
          obtain ⟨rfl, rfl, b_73⟩ := q_73
          refine a_zret X (by first | exact Or.inl rfl | exact Or.inr rfl | assumption) hr dX3_readAsks_76 ⟨by decide, by decide⟩ ?_
          subst hF
          rw [← Option.some.inj h]
          exact ⟨rfl, rfl, (by first | exact Or.inl rfl | exact Or.inr rfl | assumption)⟩
      intro x1_46 x2_46 x3_46 M_46 N_46 h
      rw [D_X3_readAsks_46] at h
      refine a_iload_n X dX3_readAsks_46 rfl ?_
      refine a_iconst (v := 3) X dX3_readAsks_47 (by decide) ?_
      refine a_icmp_ge (tgt := 150) X dX3_readAsks_48 (by decide) (fun h_48 => ?_) (fun h_48 => ?_)
      · replace h := (if_pos h_48).symm.trans h
        exact Zw.to2 (J_150 _ _ _ _ _ h) rfl rfl rfl
      · replace h := (if_neg h_48).symm.trans h
        refine a_iload_n X dX3_readAsks_51 rfl ?_
        refine a_iconst (v := 1) X dX3_readAsks_52 (by decide) ?_
        refine a_icmp_lt (tgt := 64) X dX3_readAsks_53 (by decide) (fun h_53 => ?_) (fun h_53 => ?_)
        · replace h := (if_pos h_53).symm.trans h
          exact Zw.to2 (J_64 _ _ _ _ _ h) rfl rfl rfl
        · replace h := (if_neg h_53).symm.trans h
          refine a_aload_n X dX3_readAsks_56 rfl ?_
          refine a_geti X lf3_74 (by assumption) rfl dX3_readAsks_57 ?_
          refine a_iconst (v := 3) X dX3_readAsks_60 (by decide) ?_
          refine a_icmp_eq (tgt := 150) X dX3_readAsks_61 (by decide) (fun h_61 => ?_) (fun h_61 => ?_)
          · replace h := (if_pos h_61).symm.trans h
            exact Zw.to2 (J_150 _ _ _ _ _ h) rfl rfl rfl
          · replace h := (if_neg h_61).symm.trans h
            exact Zw.to2 (J_64 _ _ _ _ _ h) rfl rfl rfl
  have H_46 : ∀ (x1_46 : Int32) (x2_46 : Int32) (x3_46 : Option Value) (M_46 : zMt) (N_46 : zNt), D_X3_readAsks_46 Q zFu x1_46 x2_46 M_46 N_46 = some r → Zw p l e { frames := 6, cells := 0, slots := 0, locals := 80 * (6) } s m args below meth c G b 4 (MQ below (zQ G b FQ) args s 0 0 (fun q : Nat => b ≤ q)) 0 0 46 [some (.ref (Q)), some (.int x1_46), some (.int x2_46), x3_46] [] (L, M_46, N_46) := L_46 zFu
  unfold D_X3_readAsks at h
  refine a_aload_n X dX3_readAsks_0 rfl ?_
  obtain ⟨e_1, f_1, h⟩ := zBx h
  refine a_callVu X dX3_readAsks_1 miX3_step lm3_71 (t_X3_step (by assumption) f_1) (by assumption) rfl rfl rfl (Nat.le_of_ble_eq_true rfl) ⟨by decide, by decide, by decide, by decide⟩ ?_
  refine a_aload_n X dX3_readAsks_4 rfl ?_
  obtain ⟨e_5, f_5, h⟩ := zBx h
  refine a_callVx X dX3_readAsks_5 miX3_isName lm3_199 (t_X3_isName (by assumption) f_5) (by assumption) rfl rfl rfl (Nat.le_of_ble_eq_true rfl) ⟨by decide, by decide, by decide, by decide⟩ (fun r_5 S_5 q_5 => ?_)
  obtain ⟨rfl, rfl, b_5⟩ := q_5
  refine a_if_ne (tgt := 17) X dX3_readAsks_8 (by decide) (fun h_8 => ?_) (fun h_8 => ?_)
  · replace h := (if_neg h_8).symm.trans h
    refine a_aload_n X dX3_readAsks_17 rfl ?_
    obtain ⟨e_18, f_18, h⟩ := zBx h
    refine a_callVv X dX3_readAsks_18 miX3_asker lm3_212 (t_X3_asker (by assumption) f_18) (by assumption) rfl rfl rfl (Nat.le_of_ble_eq_true rfl) ⟨by decide, by decide, by decide, by decide⟩ ?_
    refine a_istore_n X dX3_readAsks_21 (by decide) ?_
    refine a_iload_n X dX3_readAsks_22 rfl ?_
    refine a_if_ne (tgt := 32) X dX3_readAsks_23 (by decide) (fun h_23 => ?_) (fun h_23 => ?_)
    · replace h := (if_neg h_23).symm.trans h
      refine a_aload_n X dX3_readAsks_32 rfl ?_
      obtain ⟨e_33, f_33, h⟩ := zBx h
      refine a_callVu X dX3_readAsks_33 miX3_step lm3_71 (t_X3_step (by assumption) f_33) (by assumption) rfl rfl rfl (Nat.le_of_ble_eq_true rfl) ⟨by decide, by decide, by decide, by decide⟩ ?_
      refine a_aload_n X dX3_readAsks_36 rfl ?_
      refine a_getr X lf3_39 (by assumption) rfl (by omega) dX3_readAsks_37 ?_
      refine a_iconst (v := -1) X dX3_readAsks_40 (by decide) ?_
      obtain ⟨M_41, f_41, h⟩ := zLtx h
      refine a_callSNu X dX3_readAsks_41 miX7_fill lm3_215 (zMu (c_fill (by assumption) (by first | decide | assumption)) f_41) rfl rfl (Nat.le_of_ble_eq_true rfl) ⟨by decide, by decide, by decide, by decide⟩ ?_
      refine a_iconst (v := 0) X dX3_readAsks_44 (by decide) ?_
      refine a_istore_n X dX3_readAsks_45 (by decide) ?_
      exact Zw.to2 (H_46 _ _ _ _ _ h) rfl rfl rfl
    · replace h := (if_pos h_23).symm.trans h
      refine a_aload_n X dX3_readAsks_26 rfl ?_
      refine a_iconst (v := 4) X dX3_readAsks_27 (by decide) ?_
      obtain ⟨e_28, f_28, h⟩ := zBx h
      refine a_callVx X dX3_readAsks_28 miX3_fail lm3_148 (t_X3_fail (by assumption) f_28) (by assumption) rfl rfl rfl (Nat.le_of_ble_eq_true rfl) ⟨by decide, by decide, by decide, by decide⟩ (fun r_28 S_28 q_28 => ?_)
      obtain ⟨rfl, rfl, b_28⟩ := q_28
      refine a_zret X (by first | exact Or.inl rfl | exact Or.inr rfl | assumption) hr dX3_readAsks_31 ⟨by decide, by decide⟩ ?_
      subst hF
      rw [← Option.some.inj h]
      exact ⟨rfl, rfl, (by first | exact Or.inl rfl | exact Or.inr rfl | assumption)⟩
  · replace h := (if_pos h_8).symm.trans h
    refine a_aload_n X dX3_readAsks_11 rfl ?_
    refine a_iconst (v := 2) X dX3_readAsks_12 (by decide) ?_
    obtain ⟨e_13, f_13, h⟩ := zBx h
    refine a_callVx X dX3_readAsks_13 miX3_fail lm3_148 (t_X3_fail (by assumption) f_13) (by assumption) rfl rfl rfl (Nat.le_of_ble_eq_true rfl) ⟨by decide, by decide, by decide, by decide⟩ (fun r_13 S_13 q_13 => ?_)
    obtain ⟨rfl, rfl, b_13⟩ := q_13
    refine a_zret X (by first | exact Or.inl rfl | exact Or.inr rfl | assumption) hr dX3_readAsks_16 ⟨by decide, by decide⟩ ?_
    subst hF
    rw [← Option.some.inj h]
    exact ⟨rfl, rfl, (by first | exact Or.inl rfl | exact Or.inr rfl | assumption)⟩
noncomputable def D_X3_readLaw_59 (Q : Nat) (M_59 : zMt) (N_59 : zNt) : Option (Int32 × zMt × zNt) :=
  zLt (zu M_59 Q 11 (1 : Int32)) fun M_61 =>
  zB (D_X3_step Q M_61 N_59) fun e_65 =>
  zB (D_X3_endOfLine Q e_65.1 e_65.2) fun e_69 =>
  some (e_69.1, e_69.2.1, e_69.2.2)
noncomputable def D_X3_readLaw (Q : Nat) (M : zMt) (N : zNt) : Option (Int32 × zMt × zNt) :=
  zB (D_X3_step Q M N) fun e_1 =>
  zB (D_X3_says Q 8 e_1.1) fun e_7 =>
  if e_7 = 0 then
    zB (D_X3_says Q 9 e_1.1) fun e_27 =>
    if e_27 = 0 then
      zB (D_X3_says Q 10 e_1.1) fun e_47 =>
      if e_47 = 0 then
        zB (D_X3_fail Q (2 : Int32) e_1.1) fun e_55 =>
        some (e_55.1, e_55.2, e_1.2)
      else
        D_X3_readLaw_59 Q e_1.1 e_1.2
    else
      zLt (zu e_1.1 (Q + 1) 3 (2 : Int32)) fun M_38 =>
      D_X3_readLaw_59 Q M_38 e_1.2
  else
    zLt (zu e_1.1 (Q + 1) 3 (1 : Int32)) fun M_18 =>
    D_X3_readLaw_59 Q M_18 e_1.2
set_option maxRecDepth 100000 in
set_option maxHeartbeats 4000000 in
theorem t_X3_readLaw {l : Launch} {G : zG} {b : Nat} {L : List zC} {M : zMt} {N : zNt} {Q : Nat}  (hQ : LX3 L Q) {r : Int32 × zMt × zNt} (h : D_X3_readLaw Q M N = some r) : zM l G b yX3_readLaw cX3_readLaw 1 (some .boolean) 5 0 0 [.ref Q] (L, M, N) (fun r2 z => r2 = some (.int r.1) ∧ z = (L, r.2.1, r.2.2) ∧ (r.1 = 0 ∨ r.1 = 1)) := by
  refine zM.of miX3_readLaw (Nat.le_of_ble_eq_true rfl) ?_
  intro p e s m args below meth c X hr hname
  generalize hF : ((fun r2 z => r2 = some (.int r.1) ∧ z = (L, r.2.1, r.2.2) ∧ (r.1 = 0 ∨ r.1 = 1)) : Option Value → zS → Prop) = FQ
  change Zw p l e { frames := 5, cells := 0, slots := 0, locals := 80 * (5) } s m args below meth c G b 1 (MQ below (zQ G b FQ) args s 0 0 (fun q : Nat => b ≤ q)) 0 0 0 [some (.ref Q)] [] (L, M, N)
  obtain ⟨q_lt, q_o, q_draft, q_text, q_unitNames, q_hunterNames, q_partyNames, q_asked⟩ := id hQ
  obtain ⟨q_draft_lt, q_draft_o, q_draft_quota, q_draft_score, q_draft_guest, q_draft_party, q_draft_wishCount, q_draft_wishes, q_draft_has⟩ := id q_draft
  have J_59 : ∀ (M_59 : zMt) (N_59 : zNt), D_X3_readLaw_59 Q M_59 N_59 = some r → Zw p l e { frames := 5, cells := 0, slots := 0, locals := 80 * (5) } s m args below meth c G b 1 (MQ below (zQ G b FQ) args s 0 0 (fun q : Nat => b ≤ q)) 0 0 59 [some (.ref (Q))] [] (L, M_59, N_59) := by
    intro M_59 N_59 h
    unfold D_X3_readLaw_59 at h
    refine a_aload_n X dX3_readLaw_59 rfl ?_
    refine a_iconst (v := 1) X dX3_readLaw_60 (by decide) ?_
    obtain ⟨M_61, f_61, h⟩ := zLtx h
    refine d_putz X (by first | exact Or.inl rfl | exact Or.inr rfl | assumption) lf3_58 (by assumption) rfl dX3_readLaw_61 f_61 ?_
    refine a_aload_n X dX3_readLaw_64 rfl ?_
    obtain ⟨e_65, f_65, h⟩ := zBx h
    refine a_callVu X dX3_readLaw_65 miX3_step lm3_71 (t_X3_step (by assumption) f_65) (by assumption) rfl rfl rfl (Nat.le_of_ble_eq_true rfl) ⟨by decide, by decide, by decide, by decide⟩ ?_
    refine a_aload_n X dX3_readLaw_68 rfl ?_
    obtain ⟨e_69, f_69, h⟩ := zBx h
    refine a_callVx X dX3_readLaw_69 miX3_endOfLine lm3_181 (t_X3_endOfLine (by assumption) f_69) (by assumption) rfl rfl rfl (Nat.le_of_ble_eq_true rfl) ⟨by decide, by decide, by decide, by decide⟩ (fun r_69 S_69 q_69 => ?_)
    obtain ⟨rfl, rfl, b_69⟩ := q_69
    refine a_zret X (by first | exact Or.inl rfl | exact Or.inr rfl | assumption) hr dX3_readLaw_72 ⟨by decide, by decide⟩ ?_
    subst hF
    rw [← Option.some.inj h]
    exact ⟨rfl, rfl, (by first | exact Or.inl rfl | exact Or.inr rfl | assumption)⟩
  unfold D_X3_readLaw at h
  refine a_aload_n X dX3_readLaw_0 rfl ?_
  obtain ⟨e_1, f_1, h⟩ := zBx h
  refine a_callVu X dX3_readLaw_1 miX3_step lm3_71 (t_X3_step (by assumption) f_1) (by assumption) rfl rfl rfl (Nat.le_of_ble_eq_true rfl) ⟨by decide, by decide, by decide, by decide⟩ ?_
  refine a_aload_n X dX3_readLaw_4 rfl ?_
  refine a_ldcS (i := 8) (q := ("TagDraw$Reader", 227, "line")) X rfl rfl rfl dX3_readLaw_5 ?_
  obtain ⟨e_7, f_7, h⟩ := zBx h
  refine a_callVx X dX3_readLaw_7 miX3_says lm3_124 (t_X3_says (by assumption) (by first | assumption | decide) f_7) (by assumption) rfl rfl rfl (Nat.le_of_ble_eq_true rfl) ⟨by decide, by decide, by decide, by decide⟩ (fun r_7 S_7 q_7 => ?_)
  obtain ⟨rfl, rfl, b_7⟩ := q_7
  refine a_if_eq (tgt := 24) X dX3_readLaw_10 (by decide) (fun h_10 => ?_) (fun h_10 => ?_)
  · replace h := (if_pos h_10).symm.trans h
    refine a_aload_n X dX3_readLaw_24 rfl ?_
    refine a_ldcS (i := 9) (q := ("TagDraw$Reader", 232, "square")) X rfl rfl rfl dX3_readLaw_25 ?_
    obtain ⟨e_27, f_27, h⟩ := zBx h
    refine a_callVx X dX3_readLaw_27 miX3_says lm3_124 (t_X3_says (by assumption) (by first | assumption | decide) f_27) (by assumption) rfl rfl rfl (Nat.le_of_ble_eq_true rfl) ⟨by decide, by decide, by decide, by decide⟩ (fun r_27 S_27 q_27 => ?_)
    obtain ⟨rfl, rfl, b_27⟩ := q_27
    refine a_if_eq (tgt := 44) X dX3_readLaw_30 (by decide) (fun h_30 => ?_) (fun h_30 => ?_)
    · replace h := (if_pos h_30).symm.trans h
      refine a_aload_n X dX3_readLaw_44 rfl ?_
      refine a_ldcS (i := 10) (q := ("TagDraw$Reader", 234, "plain")) X rfl rfl rfl dX3_readLaw_45 ?_
      obtain ⟨e_47, f_47, h⟩ := zBx h
      refine a_callVx X dX3_readLaw_47 miX3_says lm3_124 (t_X3_says (by assumption) (by first | assumption | decide) f_47) (by assumption) rfl rfl rfl (Nat.le_of_ble_eq_true rfl) ⟨by decide, by decide, by decide, by decide⟩ (fun r_47 S_47 q_47 => ?_)
      obtain ⟨rfl, rfl, b_47⟩ := q_47
      refine a_if_ne (tgt := 59) X dX3_readLaw_50 (by decide) (fun h_50 => ?_) (fun h_50 => ?_)
      · replace h := (if_neg h_50).symm.trans h
        exact Zw.to2 (J_59 _ _ h) rfl rfl rfl
      · replace h := (if_pos h_50).symm.trans h
        refine a_aload_n X dX3_readLaw_53 rfl ?_
        refine a_iconst (v := 2) X dX3_readLaw_54 (by decide) ?_
        obtain ⟨e_55, f_55, h⟩ := zBx h
        refine a_callVx X dX3_readLaw_55 miX3_fail lm3_148 (t_X3_fail (by assumption) f_55) (by assumption) rfl rfl rfl (Nat.le_of_ble_eq_true rfl) ⟨by decide, by decide, by decide, by decide⟩ (fun r_55 S_55 q_55 => ?_)
        obtain ⟨rfl, rfl, b_55⟩ := q_55
        refine a_zret X (by first | exact Or.inl rfl | exact Or.inr rfl | assumption) hr dX3_readLaw_58 ⟨by decide, by decide⟩ ?_
        subst hF
        rw [← Option.some.inj h]
        exact ⟨rfl, rfl, (by first | exact Or.inl rfl | exact Or.inr rfl | assumption)⟩
    · replace h := (if_neg h_30).symm.trans h
      refine a_aload_n X dX3_readLaw_33 rfl ?_
      refine a_getr X lf3_12 (by assumption) rfl (by omega) dX3_readLaw_34 ?_
      refine a_iconst (v := 2) X dX3_readLaw_37 (by decide) ?_
      obtain ⟨M_38, f_38, h⟩ := zLtx h
      refine d_puti X lf3_229 (by assumption) rfl dX3_readLaw_38 f_38 ?_
      refine a_goto (tgt := 59) X dX3_readLaw_41 (by decide) ?_
      exact Zw.to2 (J_59 _ _ h) rfl rfl rfl
  · replace h := (if_neg h_10).symm.trans h
    refine a_aload_n X dX3_readLaw_13 rfl ?_
    refine a_getr X lf3_12 (by assumption) rfl (by omega) dX3_readLaw_14 ?_
    refine a_iconst (v := 1) X dX3_readLaw_17 (by decide) ?_
    obtain ⟨M_18, f_18, h⟩ := zLtx h
    refine d_puti X lf3_229 (by assumption) rfl dX3_readLaw_18 f_18 ?_
    refine a_goto (tgt := 59) X dX3_readLaw_21 (by decide) ?_
    exact Zw.to2 (J_59 _ _ h) rfl rfl rfl
noncomputable def D_X3_readPrefer (Q : Nat) (M : zMt) (N : zNt) : Option (Int32 × zMt × zNt) :=
  zB (D_X3_step Q M N) fun e_1 =>
  zB (D_X3_numberUpTo Q (100 : Int32) e_1.1 e_1.2) fun e_7 =>
  if e_7.1 = 0 then
    some ((0 : Int32), e_7.2.1, e_7.2.2)
  else
    zLt (zu e_7.2.1 Q 12 (1 : Int32)) fun M_17 =>
    zLt (zu M_17 (Q + 1) 4 (M_17 Q 9)) fun M_28 =>
    zB (D_X3_endOfLine Q M_28 e_7.2.2) fun e_32 =>
    some (e_32.1, e_32.2.1, e_32.2.2)
set_option maxRecDepth 100000 in
set_option maxHeartbeats 4000000 in
theorem t_X3_readPrefer {l : Launch} {G : zG} {b : Nat} {L : List zC} {M : zMt} {N : zNt} {Q : Nat}  (hQ : LX3 L Q) {r : Int32 × zMt × zNt} (h : D_X3_readPrefer Q M N = some r) : zM l G b yX3_readPrefer cX3_readPrefer 1 (some .boolean) 4 0 0 [.ref Q] (L, M, N) (fun r2 z => r2 = some (.int r.1) ∧ z = (L, r.2.1, r.2.2) ∧ (r.1 = 0 ∨ r.1 = 1)) := by
  refine zM.of miX3_readPrefer (Nat.le_of_ble_eq_true rfl) ?_
  intro p e s m args below meth c X hr hname
  generalize hF : ((fun r2 z => r2 = some (.int r.1) ∧ z = (L, r.2.1, r.2.2) ∧ (r.1 = 0 ∨ r.1 = 1)) : Option Value → zS → Prop) = FQ
  change Zw p l e { frames := 4, cells := 0, slots := 0, locals := 80 * (4) } s m args below meth c G b 1 (MQ below (zQ G b FQ) args s 0 0 (fun q : Nat => b ≤ q)) 0 0 0 [some (.ref Q)] [] (L, M, N)
  obtain ⟨q_lt, q_o, q_draft, q_text, q_unitNames, q_hunterNames, q_partyNames, q_asked⟩ := id hQ
  obtain ⟨q_draft_lt, q_draft_o, q_draft_quota, q_draft_score, q_draft_guest, q_draft_party, q_draft_wishCount, q_draft_wishes, q_draft_has⟩ := id q_draft
  unfold D_X3_readPrefer at h
  refine a_aload_n X dX3_readPrefer_0 rfl ?_
  obtain ⟨e_1, f_1, h⟩ := zBx h
  refine a_callVu X dX3_readPrefer_1 miX3_step lm3_71 (t_X3_step (by assumption) f_1) (by assumption) rfl rfl rfl (Nat.le_of_ble_eq_true rfl) ⟨by decide, by decide, by decide, by decide⟩ ?_
  refine a_aload_n X dX3_readPrefer_4 rfl ?_
  refine a_bipush (v := 100) X dX3_readPrefer_5 (by decide) ?_
  obtain ⟨e_7, f_7, h⟩ := zBx h
  refine a_callVx X dX3_readPrefer_7 miX3_numberUpTo lm3_178 (t_X3_numberUpTo (by assumption) f_7) (by assumption) rfl rfl rfl (Nat.le_of_ble_eq_true rfl) ⟨by decide, by decide, by decide, by decide⟩ (fun r_7 S_7 q_7 => ?_)
  obtain ⟨rfl, rfl, b_7⟩ := q_7
  refine a_if_ne (tgt := 15) X dX3_readPrefer_10 (by decide) (fun h_10 => ?_) (fun h_10 => ?_)
  · replace h := (if_neg h_10).symm.trans h
    refine a_aload_n X dX3_readPrefer_15 rfl ?_
    refine a_iconst (v := 1) X dX3_readPrefer_16 (by decide) ?_
    obtain ⟨M_17, f_17, h⟩ := zLtx h
    refine d_putz X (by first | exact Or.inl rfl | exact Or.inr rfl | assumption) lf3_62 (by assumption) rfl dX3_readPrefer_17 f_17 ?_
    refine a_aload_n X dX3_readPrefer_20 rfl ?_
    refine a_getr X lf3_12 (by assumption) rfl (by omega) dX3_readPrefer_21 ?_
    refine a_aload_n X dX3_readPrefer_24 rfl ?_
    refine a_geti X lf3_110 (by assumption) rfl dX3_readPrefer_25 ?_
    obtain ⟨M_28, f_28, h⟩ := zLtx h
    refine d_puti X lf3_236 (by assumption) rfl dX3_readPrefer_28 f_28 ?_
    refine a_aload_n X dX3_readPrefer_31 rfl ?_
    obtain ⟨e_32, f_32, h⟩ := zBx h
    refine a_callVx X dX3_readPrefer_32 miX3_endOfLine lm3_181 (t_X3_endOfLine (by assumption) f_32) (by assumption) rfl rfl rfl (Nat.le_of_ble_eq_true rfl) ⟨by decide, by decide, by decide, by decide⟩ (fun r_32 S_32 q_32 => ?_)
    obtain ⟨rfl, rfl, b_32⟩ := q_32
    refine a_zret X (by first | exact Or.inl rfl | exact Or.inr rfl | assumption) hr dX3_readPrefer_35 ⟨by decide, by decide⟩ ?_
    subst hF
    rw [← Option.some.inj h]
    exact ⟨rfl, rfl, (by first | exact Or.inl rfl | exact Or.inr rfl | assumption)⟩
  · replace h := (if_pos h_10).symm.trans h
    refine a_iconst (v := 0) X dX3_readPrefer_13 (by decide) ?_
    refine a_zret X (by first | exact Or.inl rfl | exact Or.inr rfl | assumption) hr dX3_readPrefer_14 ⟨by decide, by decide⟩ ?_
    subst hF
    rw [← Option.some.inj h]
    exact ⟨rfl, rfl, (by first | exact Or.inl rfl | exact Or.inr rfl | assumption)⟩
