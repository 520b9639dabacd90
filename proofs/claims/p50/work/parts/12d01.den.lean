noncomputable def D_X3_readLaw_59 (Q : Nat) (M_59 : zMt) (N_59 : zNt) : Option (Int32 × zMt × zNt) :=
  zLt (zu M_59 Q 11 (1 : Int32)) fun M_61 =>
  zB (D_X3_step Q M_61 N_59) fun e_65 =>
  zB (D_X3_endOfLine Q e_65.1 e_65.2) fun e_69 =>
  some (e_69.1, e_69.2.1, e_69.2.2)
noncomputable def D_X3_readLaw (Q : Nat) (M : zMt) (N : zNt) : Option (Int32 × zMt × zNt) :=
  zB (D_X3_step Q M N) fun e_1 =>
  zB (D_X3_says Q 8 e_1.1) fun e_7 =>
  if e_7 = 0 then
    zB (D_X3_says Q 9 e_1.1) fun e_27 =>
    if e_27 = 0 then
      zB (D_X3_says Q 10 e_1.1) fun e_47 =>
      if e_47 = 0 then
        zB (D_X3_fail Q (2 : Int32) e_1.1) fun e_55 =>
        some (e_55.1, e_55.2, e_1.2)
      else
        D_X3_readLaw_59 Q e_1.1 e_1.2
    else
      zLt (zu e_1.1 (Q + 1) 3 (2 : Int32)) fun M_38 =>
      D_X3_readLaw_59 Q M_38 e_1.2
  else
    zLt (zu e_1.1 (Q + 1) 3 (1 : Int32)) fun M_18 =>
    D_X3_readLaw_59 Q M_18 e_1.2
set_option maxRecDepth 100000 in
set_option maxHeartbeats 4000000 in
theorem t_X3_readLaw {l : Launch} {G : zG} {b : Nat} {L : List zC} {M : zMt} {N : zNt} {Q : Nat}  (hQ : LX3 L Q) {r : Int32 × zMt × zNt} (h : D_X3_readLaw Q M N = some r) : zM l G b yX3_readLaw cX3_readLaw 1 (some .boolean) 5 0 0 [.ref Q] (L, M, N) (fun r2 z => r2 = some (.int r.1) ∧ z = (L, r.2.1, r.2.2) ∧ (r.1 = 0 ∨ r.1 = 1)) := by
  refine zM.of miX3_readLaw (Nat.le_of_ble_eq_true rfl) ?_
  intro p e s m args below meth c X hr hname
  generalize hF : ((fun r2 z => r2 = some (.int r.1) ∧ z = (L, r.2.1, r.2.2) ∧ (r.1 = 0 ∨ r.1 = 1)) : Option Value → zS → Prop) = FQ
  change Zw p l e { frames := 5, cells := 0, slots := 0, locals := 80 * (5) } s m args below meth c G b 1 (MQ below (zQ G b FQ) args s 0 0 (fun q : Nat => b ≤ q)) 0 0 0 [some (.ref Q)] [] (L, M, N)
  have q_lt := hQ.1
  have q_o := hQ.2.1
  have q_draft := hQ.2.2.1
  have q_draft_lt := q_draft.1
  have q_draft_o := q_draft.2.1
  have J_59 : ∀ (M_59 : zMt) (N_59 : zNt), D_X3_readLaw_59 Q M_59 N_59 = some r → Zw p l e { frames := 5, cells := 0, slots := 0, locals := 80 * (5) } s m args below meth c G b 1 (MQ below (zQ G b FQ) args s 0 0 (fun q : Nat => b ≤ q)) 0 0 59 [some (.ref (Q))] [] (L, M_59, N_59) := by
    intro M_59 N_59 h
    unfold D_X3_readLaw_59 at h
    refine a_aload_n X dX3_readLaw_59 rfl ?_
    refine a_iconst (v := 1) X dX3_readLaw_60 (by decide) ?_
    obtain ⟨M_61, f_61, h⟩ := zLtx h
    refine d_putz X (by first | exact Or.inl rfl | exact Or.inr rfl | assumption) lf3_58 (by first | exact q_o | assumption) rfl dX3_readLaw_61 f_61 ?_
    refine a_aload_n X dX3_readLaw_64 rfl ?_
    obtain ⟨e_65, f_65, h⟩ := zBx h
    refine a_callVu X dX3_readLaw_65 miX3_step lm3_71 (t_X3_step (by first | exact hQ | assumption) f_65) (by first | exact q_o | assumption) rfl rfl rfl (Nat.le_of_ble_eq_true rfl) ⟨by decide, by decide, by decide, by decide⟩ ?_
    refine a_aload_n X dX3_readLaw_68 rfl ?_
    obtain ⟨e_69, f_69, h⟩ := zBx h
    refine a_callVx X dX3_readLaw_69 miX3_endOfLine lm3_181 (t_X3_endOfLine (by first | exact hQ | assumption) f_69) (by first | exact q_o | assumption) rfl rfl rfl (Nat.le_of_ble_eq_true rfl) ⟨by decide, by decide, by decide, by decide⟩ (fun r_69 S_69 q_69 => ?_)
    obtain ⟨rfl, rfl, b_69⟩ := q_69
    refine a_zret X (by first | exact Or.inl rfl | exact Or.inr rfl | assumption) hr dX3_readLaw_72 ⟨by decide, by decide⟩ ?_
    subst hF
    rw [← Option.some.inj h]
    exact ⟨rfl, rfl, (by first | exact Or.inl rfl | exact Or.inr rfl | assumption)⟩
  unfold D_X3_readLaw at h
  refine a_aload_n X dX3_readLaw_0 rfl ?_
  obtain ⟨e_1, f_1, h⟩ := zBx h
  refine a_callVu X dX3_readLaw_1 miX3_step lm3_71 (t_X3_step (by first | exact hQ | assumption) f_1) (by first | exact q_o | assumption) rfl rfl rfl (Nat.le_of_ble_eq_true rfl) ⟨by decide, by decide, by decide, by decide⟩ ?_
  refine a_aload_n X dX3_readLaw_4 rfl ?_
  refine a_ldcS (i := 8) (q := ("TagDraw$Reader", 227, "line")) X rfl rfl rfl dX3_readLaw_5 ?_
  obtain ⟨e_7, f_7, h⟩ := zBx h
  refine a_callVx X dX3_readLaw_7 miX3_says lm3_124 (t_X3_says (by first | exact hQ | assumption) (by first | assumption | decide) f_7) (by first | exact q_o | assumption) rfl rfl rfl (Nat.le_of_ble_eq_true rfl) ⟨by decide, by decide, by decide, by decide⟩ (fun r_7 S_7 q_7 => ?_)
  obtain ⟨rfl, rfl, b_7⟩ := q_7
  refine a_if_eq (tgt := 24) X dX3_readLaw_10 (by decide) (fun h_10 => ?_) (fun h_10 => ?_)
  · replace h := (if_pos h_10).symm.trans h
    refine a_aload_n X dX3_readLaw_24 rfl ?_
    refine a_ldcS (i := 9) (q := ("TagDraw$Reader", 232, "square")) X rfl rfl rfl dX3_readLaw_25 ?_
    obtain ⟨e_27, f_27, h⟩ := zBx h
    refine a_callVx X dX3_readLaw_27 miX3_says lm3_124 (t_X3_says (by first | exact hQ | assumption) (by first | assumption | decide) f_27) (by first | exact q_o | assumption) rfl rfl rfl (Nat.le_of_ble_eq_true rfl) ⟨by decide, by decide, by decide, by decide⟩ (fun r_27 S_27 q_27 => ?_)
    obtain ⟨rfl, rfl, b_27⟩ := q_27
    refine a_if_eq (tgt := 44) X dX3_readLaw_30 (by decide) (fun h_30 => ?_) (fun h_30 => ?_)
    · replace h := (if_pos h_30).symm.trans h
      refine a_aload_n X dX3_readLaw_44 rfl ?_
      refine a_ldcS (i := 10) (q := ("TagDraw$Reader", 234, "plain")) X rfl rfl rfl dX3_readLaw_45 ?_
      obtain ⟨e_47, f_47, h⟩ := zBx h
      refine a_callVx X dX3_readLaw_47 miX3_says lm3_124 (t_X3_says (by first | exact hQ | assumption) (by first | assumption | decide) f_47) (by first | exact q_o | assumption) rfl rfl rfl (Nat.le_of_ble_eq_true rfl) ⟨by decide, by decide, by decide, by decide⟩ (fun r_47 S_47 q_47 => ?_)
      obtain ⟨rfl, rfl, b_47⟩ := q_47
      refine a_if_ne (tgt := 59) X dX3_readLaw_50 (by decide) (fun h_50 => ?_) (fun h_50 => ?_)
      · replace h := (if_neg h_50).symm.trans h
        exact Zw.to2 (J_59 _ _ h) rfl rfl rfl
      · replace h := (if_pos h_50).symm.trans h
        refine a_aload_n X dX3_readLaw_53 rfl ?_
        refine a_iconst (v := 2) X dX3_readLaw_54 (by decide) ?_
        obtain ⟨e_55, f_55, h⟩ := zBx h
        refine a_callVx X dX3_readLaw_55 miX3_fail lm3_148 (t_X3_fail (by first | exact hQ | assumption) f_55) (by first | exact q_o | assumption) rfl rfl rfl (Nat.le_of_ble_eq_true rfl) ⟨by decide, by decide, by decide, by decide⟩ (fun r_55 S_55 q_55 => ?_)
        obtain ⟨rfl, rfl, b_55⟩ := q_55
        refine a_zret X (by first | exact Or.inl rfl | exact Or.inr rfl | assumption) hr dX3_readLaw_58 ⟨by decide, by decide⟩ ?_
        subst hF
        rw [← Option.some.inj h]
        exact ⟨rfl, rfl, (by first | exact Or.inl rfl | exact Or.inr rfl | assumption)⟩
    · replace h := (if_neg h_30).symm.trans h
      refine a_aload_n X dX3_readLaw_33 rfl ?_
      refine a_getr X lf3_12 (by first | exact q_o | assumption) rfl (by omega) dX3_readLaw_34 ?_
      refine a_iconst (v := 2) X dX3_readLaw_37 (by decide) ?_
      obtain ⟨M_38, f_38, h⟩ := zLtx h
      refine d_puti X lf3_229 (by first | exact q_draft_o | assumption) rfl dX3_readLaw_38 f_38 ?_
      refine a_goto (tgt := 59) X dX3_readLaw_41 (by decide) ?_
      exact Zw.to2 (J_59 _ _ h) rfl rfl rfl
  · replace h := (if_neg h_10).symm.trans h
    refine a_aload_n X dX3_readLaw_13 rfl ?_
    refine a_getr X lf3_12 (by first | exact q_o | assumption) rfl (by omega) dX3_readLaw_14 ?_
    refine a_iconst (v := 1) X dX3_readLaw_17 (by decide) ?_
    obtain ⟨M_18, f_18, h⟩ := zLtx h
    refine d_puti X lf3_229 (by first | exact q_draft_o | assumption) rfl dX3_readLaw_18 f_18 ?_
    refine a_goto (tgt := 59) X dX3_readLaw_21 (by decide) ?_
    exact Zw.to2 (J_59 _ _ h) rfl rfl rfl
noncomputable def D_X3_readPrefer (Q : Nat) (M : zMt) (N : zNt) : Option (Int32 × zMt × zNt) :=
  zB (D_X3_step Q M N) fun e_1 =>
  zB (D_X3_numberUpTo Q (100 : Int32) e_1.1 e_1.2) fun e_7 =>
  if e_7.1 = 0 then
    some ((0 : Int32), e_7.2.1, e_7.2.2)
  else
    zLt (zu e_7.2.1 Q 12 (1 : Int32)) fun M_17 =>
    zLt (zu M_17 (Q + 1) 4 (M_17 Q 9)) fun M_28 =>
    zB (D_X3_endOfLine Q M_28 e_7.2.2) fun e_32 =>
    some (e_32.1, e_32.2.1, e_32.2.2)
set_option maxRecDepth 100000 in
set_option maxHeartbeats 4000000 in
theorem t_X3_readPrefer {l : Launch} {G : zG} {b : Nat} {L : List zC} {M : zMt} {N : zNt} {Q : Nat}  (hQ : LX3 L Q) {r : Int32 × zMt × zNt} (h : D_X3_readPrefer Q M N = some r) : zM l G b yX3_readPrefer cX3_readPrefer 1 (some .boolean) 4 0 0 [.ref Q] (L, M, N) (fun r2 z => r2 = some (.int r.1) ∧ z = (L, r.2.1, r.2.2) ∧ (r.1 = 0 ∨ r.1 = 1)) := by
  refine zM.of miX3_readPrefer (Nat.le_of_ble_eq_true rfl) ?_
  intro p e s m args below meth c X hr hname
  generalize hF : ((fun r2 z => r2 = some (.int r.1) ∧ z = (L, r.2.1, r.2.2) ∧ (r.1 = 0 ∨ r.1 = 1)) : Option Value → zS → Prop) = FQ
  change Zw p l e { frames := 4, cells := 0, slots := 0, locals := 80 * (4) } s m args below meth c G b 1 (MQ below (zQ G b FQ) args s 0 0 (fun q : Nat => b ≤ q)) 0 0 0 [some (.ref Q)] [] (L, M, N)
  have q_lt := hQ.1
  have q_o := hQ.2.1
  have q_draft := hQ.2.2.1
  have q_draft_lt := q_draft.1
  have q_draft_o := q_draft.2.1
  unfold D_X3_readPrefer at h
  refine a_aload_n X dX3_readPrefer_0 rfl ?_
  obtain ⟨e_1, f_1, h⟩ := zBx h
  refine a_callVu X dX3_readPrefer_1 miX3_step lm3_71 (t_X3_step (by first | exact hQ | assumption) f_1) (by first | exact q_o | assumption) rfl rfl rfl (Nat.le_of_ble_eq_true rfl) ⟨by decide, by decide, by decide, by decide⟩ ?_
  refine a_aload_n X dX3_readPrefer_4 rfl ?_
  refine a_bipush (v := 100) X dX3_readPrefer_5 (by decide) ?_
  obtain ⟨e_7, f_7, h⟩ := zBx h
  refine a_callVx X dX3_readPrefer_7 miX3_numberUpTo lm3_178 (t_X3_numberUpTo (by first | exact hQ | assumption) f_7) (by first | exact q_o | assumption) rfl rfl rfl (Nat.le_of_ble_eq_true rfl) ⟨by decide, by decide, by decide, by decide⟩ (fun r_7 S_7 q_7 => ?_)
  obtain ⟨rfl, rfl, b_7⟩ := q_7
  refine a_if_ne (tgt := 15) X dX3_readPrefer_10 (by decide) (fun h_10 => ?_) (fun h_10 => ?_)
  · replace h := (if_neg h_10).symm.trans h
    refine a_aload_n X dX3_readPrefer_15 rfl ?_
    refine a_iconst (v := 1) X dX3_readPrefer_16 (by decide) ?_
    obtain ⟨M_17, f_17, h⟩ := zLtx h
    refine d_putz X (by first | exact Or.inl rfl | exact Or.inr rfl | assumption) lf3_62 (by first | exact q_o | assumption) rfl dX3_readPrefer_17 f_17 ?_
    refine a_aload_n X dX3_readPrefer_20 rfl ?_
    refine a_getr X lf3_12 (by first | exact q_o | assumption) rfl (by omega) dX3_readPrefer_21 ?_
    refine a_aload_n X dX3_readPrefer_24 rfl ?_
    refine a_geti X lf3_110 (by first | exact q_o | assumption) rfl dX3_readPrefer_25 ?_
    obtain ⟨M_28, f_28, h⟩ := zLtx h
    refine d_puti X lf3_236 (by first | exact q_draft_o | assumption) rfl dX3_readPrefer_28 f_28 ?_
    refine a_aload_n X dX3_readPrefer_31 rfl ?_
    obtain ⟨e_32, f_32, h⟩ := zBx h
    refine a_callVx X dX3_readPrefer_32 miX3_endOfLine lm3_181 (t_X3_endOfLine (by first | exact hQ | assumption) f_32) (by first | exact q_o | assumption) rfl rfl rfl (Nat.le_of_ble_eq_true rfl) ⟨by decide, by decide, by decide, by decide⟩ (fun r_32 S_32 q_32 => ?_)
    obtain ⟨rfl, rfl, b_32⟩ := q_32
    refine a_zret X (by first | exact Or.inl rfl | exact Or.inr rfl | assumption) hr dX3_readPrefer_35 ⟨by decide, by decide⟩ ?_
    subst hF
    rw [← Option.some.inj h]
    exact ⟨rfl, rfl, (by first | exact Or.inl rfl | exact Or.inr rfl | assumption)⟩
  · replace h := (if_pos h_10).symm.trans h
    refine a_iconst (v := 0) X dX3_readPrefer_13 (by decide) ?_
    refine a_zret X (by first | exact Or.inl rfl | exact Or.inr rfl | assumption) hr dX3_readPrefer_14 ⟨by decide, by decide⟩ ?_
    subst hF
    rw [← Option.some.inj h]
    exact ⟨rfl, rfl, (by first | exact Or.inl rfl | exact Or.inr rfl | assumption)⟩
noncomputable def D_X3_readGuests (Q : Nat) (M : zMt) (N : zNt) : Option (Int32 × zMt × zNt) :=
  zB (D_X3_step Q M N) fun e_1 =>
  zB (D_X3_numberUpTo Q (100 : Int32) e_1.1 e_1.2) fun e_7 =>
  if e_7.1 = 0 then
    some ((0 : Int32), e_7.2.1, e_7.2.2)
  else
    zLt (zu e_7.2.1 Q 13 (1 : Int32)) fun M_17 =>
    zLt (zu M_17 (Q + 1) 5 (M_17 Q 9)) fun M_28 =>
    zB (D_X3_endOfLine Q M_28 e_7.2.2) fun e_32 =>
    some (e_32.1, e_32.2.1, e_32.2.2)
set_option maxRecDepth 100000 in
set_option maxHeartbeats 4000000 in
theorem t_X3_readGuests {l : Launch} {G : zG} {b : Nat} {L : List zC} {M : zMt} {N : zNt} {Q : Nat}  (hQ : LX3 L Q) {r : Int32 × zMt × zNt} (h : D_X3_readGuests Q M N = some r) : zM l G b yX3_readGuests cX3_readGuests 1 (some .boolean) 4 0 0 [.ref Q] (L, M, N) (fun r2 z => r2 = some (.int r.1) ∧ z = (L, r.2.1, r.2.2) ∧ (r.1 = 0 ∨ r.1 = 1)) := by
  refine zM.of miX3_readGuests (Nat.le_of_ble_eq_true rfl) ?_
  intro p e s m args below meth c X hr hname
  generalize hF : ((fun r2 z => r2 = some (.int r.1) ∧ z = (L, r.2.1, r.2.2) ∧ (r.1 = 0 ∨ r.1 = 1)) : Option Value → zS → Prop) = FQ
  change Zw p l e { frames := 4, cells := 0, slots := 0, locals := 80 * (4) } s m args below meth c G b 1 (MQ below (zQ G b FQ) args s 0 0 (fun q : Nat => b ≤ q)) 0 0 0 [some (.ref Q)] [] (L, M, N)
  have q_lt := hQ.1
  have q_o := hQ.2.1
  have q_draft := hQ.2.2.1
  have q_draft_lt := q_draft.1
  have q_draft_o := q_draft.2.1
  unfold D_X3_readGuests at h
  refine a_aload_n X dX3_readGuests_0 rfl ?_
  obtain ⟨e_1, f_1, h⟩ := zBx h
  refine a_callVu X dX3_readGuests_1 miX3_step lm3_71 (t_X3_step (by first | exact hQ | assumption) f_1) (by first | exact q_o | assumption) rfl rfl rfl (Nat.le_of_ble_eq_true rfl) ⟨by decide, by decide, by decide, by decide⟩ ?_
  refine a_aload_n X dX3_readGuests_4 rfl ?_
  refine a_bipush (v := 100) X dX3_readGuests_5 (by decide) ?_
  obtain ⟨e_7, f_7, h⟩ := zBx h
  refine a_callVx X dX3_readGuests_7 miX3_numberUpTo lm3_178 (t_X3_numberUpTo (by first | exact hQ | assumption) f_7) (by first | exact q_o | assumption) rfl rfl rfl (Nat.le_of_ble_eq_true rfl) ⟨by decide, by decide, by decide, by decide⟩ (fun r_7 S_7 q_7 => ?_)
  obtain ⟨rfl, rfl, b_7⟩ := q_7
  refine a_if_ne (tgt := 15) X dX3_readGuests_10 (by decide) (fun h_10 => ?_) (fun h_10 => ?_)
  · replace h := (if_neg h_10).symm.trans h
    refine a_aload_n X dX3_readGuests_15 rfl ?_
    refine a_iconst (v := 1) X dX3_readGuests_16 (by decide) ?_
    obtain ⟨M_17, f_17, h⟩ := zLtx h
    refine d_putz X (by first | exact Or.inl rfl | exact Or.inr rfl | assumption) lf3_65 (by first | exact q_o | assumption) rfl dX3_readGuests_17 f_17 ?_
    refine a_aload_n X dX3_readGuests_20 rfl ?_
    refine a_getr X lf3_12 (by first | exact q_o | assumption) rfl (by omega) dX3_readGuests_21 ?_
    refine a_aload_n X dX3_readGuests_24 rfl ?_
    refine a_geti X lf3_110 (by first | exact q_o | assumption) rfl dX3_readGuests_25 ?_
    obtain ⟨M_28, f_28, h⟩ := zLtx h
    refine d_puti X lf3_239 (by first | exact q_draft_o | assumption) rfl dX3_readGuests_28 f_28 ?_
    refine a_aload_n X dX3_readGuests_31 rfl ?_
    obtain ⟨e_32, f_32, h⟩ := zBx h
    refine a_callVx X dX3_readGuests_32 miX3_endOfLine lm3_181 (t_X3_endOfLine (by first | exact hQ | assumption) f_32) (by first | exact q_o | assumption) rfl rfl rfl (Nat.le_of_ble_eq_true rfl) ⟨by decide, by decide, by decide, by decide⟩ (fun r_32 S_32 q_32 => ?_)
    obtain ⟨rfl, rfl, b_32⟩ := q_32
    refine a_zret X (by first | exact Or.inl rfl | exact Or.inr rfl | assumption) hr dX3_readGuests_35 ⟨by decide, by decide⟩ ?_
    subst hF
    rw [← Option.some.inj h]
    exact ⟨rfl, rfl, (by first | exact Or.inl rfl | exact Or.inr rfl | assumption)⟩
  · replace h := (if_pos h_10).symm.trans h
    refine a_iconst (v := 0) X dX3_readGuests_13 (by decide) ?_
    refine a_zret X (by first | exact Or.inl rfl | exact Or.inr rfl | assumption) hr dX3_readGuests_14 ⟨by decide, by decide⟩ ?_
    subst hF
    rw [← Option.some.inj h]
    exact ⟨rfl, rfl, (by first | exact Or.inl rfl | exact Or.inr rfl | assumption)⟩
noncomputable def D_X3_readLine_200 (Q : Nat) (y0_200 : Int32) (M_200 : zMt) (N_200 : zNt) : Option (Int32 × zMt × zNt) :=
  some (y0_200, M_200, N_200)
noncomputable def D_X3_readLine_171 (Q : Nat) (y0_171 : Int32) (M_171 : zMt) (N_171 : zNt) : Option (Int32 × zMt × zNt) :=
  some (y0_171, M_171, N_171)
noncomputable def D_X3_readLine_142 (Q : Nat) (y0_142 : Int32) (M_142 : zMt) (N_142 : zNt) : Option (Int32 × zMt × zNt) :=
  some (y0_142, M_142, N_142)
noncomputable def D_X3_readLine_99 (Q : Nat) (y0_99 : Int32) (M_99 : zMt) (N_99 : zNt) : Option (Int32 × zMt × zNt) :=
  some (y0_99, M_99, N_99)
noncomputable def D_X3_readLine_66 (Q : Nat) (y0_66 : Int32) (M_66 : zMt) (N_66 : zNt) : Option (Int32 × zMt × zNt) :=
  some (y0_66, M_66, N_66)
noncomputable def D_X3_readLine_32 (Q : Nat) (y0_32 : Int32) (M_32 : zMt) (N_32 : zNt) : Option (Int32 × zMt × zNt) :=
  some (y0_32, M_32, N_32)
noncomputable def D_X3_readLine (Q : Nat) (M : zMt) (N : zNt) : Option (Int32 × zMt × zNt) :=
  zB (D_X3_says Q 0 M) fun e_3 =>
  if e_3 = 0 then
    zB (D_X3_says Q 1 M) fun e_36 =>
    if e_36 = 0 then
      zB (D_X3_says Q 3 M) fun e_70 =>
      if e_70 = 0 then
        zB (D_X3_says Q 4 M) fun e_103 =>
        if e_103 = 0 then
          zB (D_X3_says Q 5 M) fun e_117 =>
          if e_117 = 0 then
            zB (D_X3_says Q 6 M) fun e_146 =>
            if e_146 = 0 then
              zB (D_X3_says Q 7 M) fun e_175 =>
              if e_175 = 0 then
                zB (D_X3_fail Q (2 : Int32) M) fun e_203 =>
                some (e_203.1, e_203.2, N)
              else
                if (M Q 13) = 0 then
                  zB (D_X3_readGuests Q M N) fun e_197 =>
                  D_X3_readLine_200 Q e_197.1 e_197.2.1 e_197.2.2
                else
                  zB (D_X3_fail Q (2 : Int32) M) fun e_190 =>
                  D_X3_readLine_200 Q e_190.1 e_190.2 N
            else
              if (M Q 12) = 0 then
                zB (D_X3_readPrefer Q M N) fun e_168 =>
                D_X3_readLine_171 Q e_168.1 e_168.2.1 e_168.2.2
              else
                zB (D_X3_fail Q (2 : Int32) M) fun e_161 =>
                D_X3_readLine_171 Q e_161.1 e_161.2 N
          else
            if (M Q 11) = 0 then
              zB (D_X3_readLaw Q M N) fun e_139 =>
              D_X3_readLine_142 Q e_139.1 e_139.2.1 e_139.2.2
            else
              zB (D_X3_fail Q (2 : Int32) M) fun e_132 =>
              D_X3_readLine_142 Q e_132.1 e_132.2 N
        else
          zB (D_X3_readAsks Q M N) fun e_110 =>
          some (e_110.1, e_110.2.1, e_110.2.2)
      else
        if (4 : Int32) ≤ (M (Q + 1) 2) then
          zB (D_X3_fail Q (2 : Int32) M) fun e_96 =>
          D_X3_readLine_99 Q e_96.1 e_96.2 N
        else
          zB (D_X3_readParty Q M N) fun e_88 =>
          D_X3_readLine_99 Q e_88.1 e_88.2.1 e_88.2.2
    else
      if (10 : Int32) ≤ (M (Q + 1) 1) then
        zB (D_X3_fail Q (2 : Int32) M) fun e_63 =>
        D_X3_readLine_66 Q e_63.1 e_63.2 N
      else
        zB (D_X3_readHunter Q M N) fun e_55 =>
        D_X3_readLine_66 Q e_55.1 e_55.2.1 e_55.2.2
  else
    if (5 : Int32) ≤ (M (Q + 1) 0) then
      zB (D_X3_fail Q (2 : Int32) M) fun e_29 =>
      D_X3_readLine_32 Q e_29.1 e_29.2 N
    else
      zB (D_X3_readUnit Q M N) fun e_21 =>
      D_X3_readLine_32 Q e_21.1 e_21.2.1 e_21.2.2
set_option maxRecDepth 100000 in
set_option maxHeartbeats 4000000 in
theorem t_X3_readLine {l : Launch} {G : zG} {b : Nat} {L : List zC} {M : zMt} {N : zNt} {Q : Nat}  (hQ : LX3 L Q) {r : Int32 × zMt × zNt} (h : D_X3_readLine Q M N = some r) : zM l G b yX3_readLine cX3_readLine 1 (some .boolean) 8 0 0 [.ref Q] (L, M, N) (fun r2 z => r2 = some (.int r.1) ∧ z = (L, r.2.1, r.2.2) ∧ (r.1 = 0 ∨ r.1 = 1)) := by
  refine zM.of miX3_readLine (Nat.le_of_ble_eq_true rfl) ?_
  intro p e s m args below meth c X hr hname
  generalize hF : ((fun r2 z => r2 = some (.int r.1) ∧ z = (L, r.2.1, r.2.2) ∧ (r.1 = 0 ∨ r.1 = 1)) : Option Value → zS → Prop) = FQ
  change Zw p l e { frames := 8, cells := 0, slots := 0, locals := 80 * (8) } s m args below meth c G b 1 (MQ below (zQ G b FQ) args s 0 0 (fun q : Nat => b ≤ q)) 0 0 0 [some (.ref Q)] [] (L, M, N)
  have q_lt := hQ.1
  have q_o := hQ.2.1
  have q_draft := hQ.2.2.1
  have q_draft_lt := q_draft.1
  have q_draft_o := q_draft.2.1
  have J_200 : ∀ (y0_200 : Int32) (M_200 : zMt) (N_200 : zNt), (y0_200 = 0 ∨ y0_200 = 1) → D_X3_readLine_200 Q y0_200 M_200 N_200 = some r → Zw p l e { frames := 8, cells := 0, slots := 0, locals := 80 * (8) } s m args below meth c G b 1 (MQ below (zQ G b FQ) args s 0 0 (fun q : Nat => b ≤ q)) 0 0 200 [some (.ref (Q))] [.int y0_200] (L, M_200, N_200) := by
    intro y0_200 M_200 N_200 fb_y0_200 h
    unfold D_X3_readLine_200 at h
    refine a_zret X (by first | exact Or.inl rfl | exact Or.inr rfl | assumption) hr dX3_readLine_200 ⟨by decide, by decide⟩ ?_
    subst hF
    rw [← Option.some.inj h]
    exact ⟨rfl, rfl, (by first | exact Or.inl rfl | exact Or.inr rfl | assumption)⟩
  have J_171 : ∀ (y0_171 : Int32) (M_171 : zMt) (N_171 : zNt), (y0_171 = 0 ∨ y0_171 = 1) → D_X3_readLine_171 Q y0_171 M_171 N_171 = some r → Zw p l e { frames := 8, cells := 0, slots := 0, locals := 80 * (8) } s m args below meth c G b 1 (MQ below (zQ G b FQ) args s 0 0 (fun q : Nat => b ≤ q)) 0 0 171 [some (.ref (Q))] [.int y0_171] (L, M_171, N_171) := by
    intro y0_171 M_171 N_171 fb_y0_171 h
    unfold D_X3_readLine_171 at h
    refine a_zret X (by first | exact Or.inl rfl | exact Or.inr rfl | assumption) hr dX3_readLine_171 ⟨by decide, by decide⟩ ?_
    subst hF
    rw [← Option.some.inj h]
    exact ⟨rfl, rfl, (by first | exact Or.inl rfl | exact Or.inr rfl | assumption)⟩
  have J_142 : ∀ (y0_142 : Int32) (M_142 : zMt) (N_142 : zNt), (y0_142 = 0 ∨ y0_142 = 1) → D_X3_readLine_142 Q y0_142 M_142 N_142 = some r → Zw p l e { frames := 8, cells := 0, slots := 0, locals := 80 * (8) } s m args below meth c G b 1 (MQ below (zQ G b FQ) args s 0 0 (fun q : Nat => b ≤ q)) 0 0 142 [some (.ref (Q))] [.int y0_142] (L, M_142, N_142) := by
    intro y0_142 M_142 N_142 fb_y0_142 h
    unfold D_X3_readLine_142 at h
    refine a_zret X (by first | exact Or.inl rfl | exact Or.inr rfl | assumption) hr dX3_readLine_142 ⟨by decide, by decide⟩ ?_
    subst hF
    rw [← Option.some.inj h]
    exact ⟨rfl, rfl, (by first | exact Or.inl rfl | exact Or.inr rfl | assumption)⟩
  have J_99 : ∀ (y0_99 : Int32) (M_99 : zMt) (N_99 : zNt), (y0_99 = 0 ∨ y0_99 = 1) → D_X3_readLine_99 Q y0_99 M_99 N_99 = some r → Zw p l e { frames := 8, cells := 0, slots := 0, locals := 80 * (8) } s m args below meth c G b 1 (MQ below (zQ G b FQ) args s 0 0 (fun q : Nat => b ≤ q)) 0 0 99 [some (.ref (Q))] [.int y0_99] (L, M_99, N_99) := by
    intro y0_99 M_99 N_99 fb_y0_99 h
    unfold D_X3_readLine_99 at h
    refine a_zret X (by first | exact Or.inl rfl | exact Or.inr rfl | assumption) hr dX3_readLine_99 ⟨by decide, by decide⟩ ?_
    subst hF
    rw [← Option.some.inj h]
    exact ⟨rfl, rfl, (by first | exact Or.inl rfl | exact Or.inr rfl | assumption)⟩
  have J_66 : ∀ (y0_66 : Int32) (M_66 : zMt) (N_66 : zNt), (y0_66 = 0 ∨ y0_66 = 1) → D_X3_readLine_66 Q y0_66 M_66 N_66 = some r → Zw p l e { frames := 8, cells := 0, slots := 0, locals := 80 * (8) } s m args below meth c G b 1 (MQ below (zQ G b FQ) args s 0 0 (fun q : Nat => b ≤ q)) 0 0 66 [some (.ref (Q))] [.int y0_66] (L, M_66, N_66) := by
    intro y0_66 M_66 N_66 fb_y0_66 h
    unfold D_X3_readLine_66 at h
    refine a_zret X (by first | exact Or.inl rfl | exact Or.inr rfl | assumption) hr dX3_readLine_66 ⟨by decide, by decide⟩ ?_
    subst hF
    rw [← Option.some.inj h]
    exact ⟨rfl, rfl, (by first | exact Or.inl rfl | exact Or.inr rfl | assumption)⟩
  have J_32 : ∀ (y0_32 : Int32) (M_32 : zMt) (N_32 : zNt), (y0_32 = 0 ∨ y0_32 = 1) → D_X3_readLine_32 Q y0_32 M_32 N_32 = some r → Zw p l e { frames := 8, cells := 0, slots := 0, locals := 80 * (8) } s m args below meth c G b 1 (MQ below (zQ G b FQ) args s 0 0 (fun q : Nat => b ≤ q)) 0 0 32 [some (.ref (Q))] [.int y0_32] (L, M_32, N_32) := by
    intro y0_32 M_32 N_32 fb_y0_32 h
    unfold D_X3_readLine_32 at h
    refine a_zret X (by first | exact Or.inl rfl | exact Or.inr rfl | assumption) hr dX3_readLine_32 ⟨by decide, by decide⟩ ?_
    subst hF
    rw [← Option.some.inj h]
    exact ⟨rfl, rfl, (by first | exact Or.inl rfl | exact Or.inr rfl | assumption)⟩
  unfold D_X3_readLine at h
  refine a_aload_n X dX3_readLine_0 rfl ?_
  refine a_ldcS (i := 0) (q := ("TagDraw$Reader", 122, "unit")) X rfl rfl rfl dX3_readLine_1 ?_
  obtain ⟨e_3, f_3, h⟩ := zBx h
  refine a_callVx X dX3_readLine_3 miX3_says lm3_124 (t_X3_says (by first | exact hQ | assumption) (by first | assumption | decide) f_3) (by first | exact q_o | assumption) rfl rfl rfl (Nat.le_of_ble_eq_true rfl) ⟨by decide, by decide, by decide, by decide⟩ (fun r_3 S_3 q_3 => ?_)
  obtain ⟨rfl, rfl, b_3⟩ := q_3
  refine a_if_eq (tgt := 33) X dX3_readLine_6 (by decide) (fun h_6 => ?_) (fun h_6 => ?_)
  · replace h := (if_pos h_6).symm.trans h
    refine a_aload_n X dX3_readLine_33 rfl ?_
    refine a_ldcS (i := 1) (q := ("TagDraw$Reader", 128, "hunter")) X rfl rfl rfl dX3_readLine_34 ?_
    obtain ⟨e_36, f_36, h⟩ := zBx h
    refine a_callVx X dX3_readLine_36 miX3_says lm3_124 (t_X3_says (by first | exact hQ | assumption) (by first | assumption | decide) f_36) (by first | exact q_o | assumption) rfl rfl rfl (Nat.le_of_ble_eq_true rfl) ⟨by decide, by decide, by decide, by decide⟩ (fun r_36 S_36 q_36 => ?_)
    obtain ⟨rfl, rfl, b_36⟩ := q_36
    refine a_if_eq (tgt := 67) X dX3_readLine_39 (by decide) (fun h_39 => ?_) (fun h_39 => ?_)
    · replace h := (if_pos h_39).symm.trans h
      refine a_aload_n X dX3_readLine_67 rfl ?_
      refine a_ldcS (i := 3) (q := ("TagDraw$Reader", 132, "party")) X rfl rfl rfl dX3_readLine_68 ?_
      obtain ⟨e_70, f_70, h⟩ := zBx h
      refine a_callVx X dX3_readLine_70 miX3_says lm3_124 (t_X3_says (by first | exact hQ | assumption) (by first | assumption | decide) f_70) (by first | exact q_o | assumption) rfl rfl rfl (Nat.le_of_ble_eq_true rfl) ⟨by decide, by decide, by decide, by decide⟩ (fun r_70 S_70 q_70 => ?_)
      obtain ⟨rfl, rfl, b_70⟩ := q_70
      refine a_if_eq (tgt := 100) X dX3_readLine_73 (by decide) (fun h_73 => ?_) (fun h_73 => ?_)
      · replace h := (if_pos h_73).symm.trans h
        refine a_aload_n X dX3_readLine_100 rfl ?_
        refine a_ldcS (i := 4) (q := ("TagDraw$Reader", 134, "asks")) X rfl rfl rfl dX3_readLine_101 ?_
        obtain ⟨e_103, f_103, h⟩ := zBx h
        refine a_callVx X dX3_readLine_103 miX3_says lm3_124 (t_X3_says (by first | exact hQ | assumption) (by first | assumption | decide) f_103) (by first | exact q_o | assumption) rfl rfl rfl (Nat.le_of_ble_eq_true rfl) ⟨by decide, by decide, by decide, by decide⟩ (fun r_103 S_103 q_103 => ?_)
        obtain ⟨rfl, rfl, b_103⟩ := q_103
        refine a_if_eq (tgt := 114) X dX3_readLine_106 (by decide) (fun h_106 => ?_) (fun h_106 => ?_)
        · replace h := (if_pos h_106).symm.trans h
          refine a_aload_n X dX3_readLine_114 rfl ?_
          refine a_ldcS (i := 5) (q := ("TagDraw$Reader", 136, "law")) X rfl rfl rfl dX3_readLine_115 ?_
          obtain ⟨e_117, f_117, h⟩ := zBx h
          refine a_callVx X dX3_readLine_117 miX3_says lm3_124 (t_X3_says (by first | exact hQ | assumption) (by first | assumption | decide) f_117) (by first | exact q_o | assumption) rfl rfl rfl (Nat.le_of_ble_eq_true rfl) ⟨by decide, by decide, by decide, by decide⟩ (fun r_117 S_117 q_117 => ?_)
          obtain ⟨rfl, rfl, b_117⟩ := q_117
          refine a_if_eq (tgt := 143) X dX3_readLine_120 (by decide) (fun h_120 => ?_) (fun h_120 => ?_)
          · replace h := (if_pos h_120).symm.trans h
            refine a_aload_n X dX3_readLine_143 rfl ?_
            refine a_ldcS (i := 6) (q := ("TagDraw$Reader", 138, "prefer")) X rfl rfl rfl dX3_readLine_144 ?_
            obtain ⟨e_146, f_146, h⟩ := zBx h
            refine a_callVx X dX3_readLine_146 miX3_says lm3_124 (t_X3_says (by first | exact hQ | assumption) (by first | assumption | decide) f_146) (by first | exact q_o | assumption) rfl rfl rfl (Nat.le_of_ble_eq_true rfl) ⟨by decide, by decide, by decide, by decide⟩ (fun r_146 S_146 q_146 => ?_)
            obtain ⟨rfl, rfl, b_146⟩ := q_146
            refine a_if_eq (tgt := 172) X dX3_readLine_149 (by decide) (fun h_149 => ?_) (fun h_149 => ?_)
            · replace h := (if_pos h_149).symm.trans h
              refine a_aload_n X dX3_readLine_172 rfl ?_
              refine a_ldcS (i := 7) (q := ("TagDraw$Reader", 140, "guests")) X rfl rfl rfl dX3_readLine_173 ?_
              obtain ⟨e_175, f_175, h⟩ := zBx h
              refine a_callVx X dX3_readLine_175 miX3_says lm3_124 (t_X3_says (by first | exact hQ | assumption) (by first | assumption | decide) f_175) (by first | exact q_o | assumption) rfl rfl rfl (Nat.le_of_ble_eq_true rfl) ⟨by decide, by decide, by decide, by decide⟩ (fun r_175 S_175 q_175 => ?_)
              obtain ⟨rfl, rfl, b_175⟩ := q_175
              refine a_if_eq (tgt := 201) X dX3_readLine_178 (by decide) (fun h_178 => ?_) (fun h_178 => ?_)
              · replace h := (if_pos h_178).symm.trans h
                refine a_aload_n X dX3_readLine_201 rfl ?_
                refine a_iconst (v := 2) X dX3_readLine_202 (by decide) ?_
                obtain ⟨e_203, f_203, h⟩ := zBx h
                refine a_callVx X dX3_readLine_203 miX3_fail lm3_148 (t_X3_fail (by first | exact hQ | assumption) f_203) (by first | exact q_o | assumption) rfl rfl rfl (Nat.le_of_ble_eq_true rfl) ⟨by decide, by decide, by decide, by decide⟩ (fun r_203 S_203 q_203 => ?_)
                obtain ⟨rfl, rfl, b_203⟩ := q_203
                refine a_zret X (by first | exact Or.inl rfl | exact Or.inr rfl | assumption) hr dX3_readLine_206 ⟨by decide, by decide⟩ ?_
                subst hF
                rw [← Option.some.inj h]
                exact ⟨rfl, rfl, (by first | exact Or.inl rfl | exact Or.inr rfl | assumption)⟩
              · replace h := (if_neg h_178).symm.trans h
                refine a_aload_n X dX3_readLine_181 rfl ?_
                refine a_geti X lf3_65 (by first | exact q_o | assumption) rfl dX3_readLine_182 ?_
                refine a_if_eq (tgt := 196) X dX3_readLine_185 (by decide) (fun h_185 => ?_) (fun h_185 => ?_)
                · replace h := (if_pos h_185).symm.trans h
                  refine a_aload_n X dX3_readLine_196 rfl ?_
                  obtain ⟨e_197, f_197, h⟩ := zBx h
                  refine a_callVx X dX3_readLine_197 miX3_readGuests lm3_172 (t_X3_readGuests (by first | exact hQ | assumption) f_197) (by first | exact q_o | assumption) rfl rfl rfl (Nat.le_of_ble_eq_true rfl) ⟨by decide, by decide, by decide, by decide⟩ (fun r_197 S_197 q_197 => ?_)
                  obtain ⟨rfl, rfl, b_197⟩ := q_197
                  exact Zw.to2 (J_200 _ _ _ (by first | exact Or.inl rfl | exact Or.inr rfl | assumption) h) rfl rfl rfl
                · replace h := (if_neg h_185).symm.trans h
                  refine a_aload_n X dX3_readLine_188 rfl ?_
                  refine a_iconst (v := 2) X dX3_readLine_189 (by decide) ?_
                  obtain ⟨e_190, f_190, h⟩ := zBx h
                  refine a_callVx X dX3_readLine_190 miX3_fail lm3_148 (t_X3_fail (by first | exact hQ | assumption) f_190) (by first | exact q_o | assumption) rfl rfl rfl (Nat.le_of_ble_eq_true rfl) ⟨by decide, by decide, by decide, by decide⟩ (fun r_190 S_190 q_190 => ?_)
                  obtain ⟨rfl, rfl, b_190⟩ := q_190
                  refine a_goto (tgt := 200) X dX3_readLine_193 (by decide) ?_
                  exact Zw.to2 (J_200 _ _ _ (by first | exact Or.inl rfl | exact Or.inr rfl | assumption) h) rfl rfl rfl
            · replace h := (if_neg h_149).symm.trans h
              refine a_aload_n X dX3_readLine_152 rfl ?_
              refine a_geti X lf3_62 (by first | exact q_o | assumption) rfl dX3_readLine_153 ?_
              refine a_if_eq (tgt := 167) X dX3_readLine_156 (by decide) (fun h_156 => ?_) (fun h_156 => ?_)
              · replace h := (if_pos h_156).symm.trans h
                refine a_aload_n X dX3_readLine_167 rfl ?_
                obtain ⟨e_168, f_168, h⟩ := zBx h
                refine a_callVx X dX3_readLine_168 miX3_readPrefer lm3_169 (t_X3_readPrefer (by first | exact hQ | assumption) f_168) (by first | exact q_o | assumption) rfl rfl rfl (Nat.le_of_ble_eq_true rfl) ⟨by decide, by decide, by decide, by decide⟩ (fun r_168 S_168 q_168 => ?_)
                obtain ⟨rfl, rfl, b_168⟩ := q_168
                exact Zw.to2 (J_171 _ _ _ (by first | exact Or.inl rfl | exact Or.inr rfl | assumption) h) rfl rfl rfl
              · replace h := (if_neg h_156).symm.trans h
                refine a_aload_n X dX3_readLine_159 rfl ?_
                refine a_iconst (v := 2) X dX3_readLine_160 (by decide) ?_
                obtain ⟨e_161, f_161, h⟩ := zBx h
                refine a_callVx X dX3_readLine_161 miX3_fail lm3_148 (t_X3_fail (by first | exact hQ | assumption) f_161) (by first | exact q_o | assumption) rfl rfl rfl (Nat.le_of_ble_eq_true rfl) ⟨by decide, by decide, by decide, by decide⟩ (fun r_161 S_161 q_161 => ?_)
                obtain ⟨rfl, rfl, b_161⟩ := q_161
                refine a_goto (tgt := 171) X dX3_readLine_164 (by decide) ?_
                exact Zw.to2 (J_171 _ _ _ (by first | exact Or.inl rfl | exact Or.inr rfl | assumption) h) rfl rfl rfl
          · replace h := (if_neg h_120).symm.trans h
            refine a_aload_n X dX3_readLine_123 rfl ?_
            refine a_geti X lf3_58 (by first | exact q_o | assumption) rfl dX3_readLine_124 ?_
            refine a_if_eq (tgt := 138) X dX3_readLine_127 (by decide) (fun h_127 => ?_) (fun h_127 => ?_)
            · replace h := (if_pos h_127).symm.trans h
              refine a_aload_n X dX3_readLine_138 rfl ?_
              obtain ⟨e_139, f_139, h⟩ := zBx h
              refine a_callVx X dX3_readLine_139 miX3_readLaw lm3_166 (t_X3_readLaw (by first | exact hQ | assumption) f_139) (by first | exact q_o | assumption) rfl rfl rfl (Nat.le_of_ble_eq_true rfl) ⟨by decide, by decide, by decide, by decide⟩ (fun r_139 S_139 q_139 => ?_)
              obtain ⟨rfl, rfl, b_139⟩ := q_139
              exact Zw.to2 (J_142 _ _ _ (by first | exact Or.inl rfl | exact Or.inr rfl | assumption) h) rfl rfl rfl
            · replace h := (if_neg h_127).symm.trans h
              refine a_aload_n X dX3_readLine_130 rfl ?_
              refine a_iconst (v := 2) X dX3_readLine_131 (by decide) ?_
              obtain ⟨e_132, f_132, h⟩ := zBx h
              refine a_callVx X dX3_readLine_132 miX3_fail lm3_148 (t_X3_fail (by first | exact hQ | assumption) f_132) (by first | exact q_o | assumption) rfl rfl rfl (Nat.le_of_ble_eq_true rfl) ⟨by decide, by decide, by decide, by decide⟩ (fun r_132 S_132 q_132 => ?_)
              obtain ⟨rfl, rfl, b_132⟩ := q_132
              refine a_goto (tgt := 142) X dX3_readLine_135 (by decide) ?_
              exact Zw.to2 (J_142 _ _ _ (by first | exact Or.inl rfl | exact Or.inr rfl | assumption) h) rfl rfl rfl
        · replace h := (if_neg h_106).symm.trans h
          refine a_aload_n X dX3_readLine_109 rfl ?_
          obtain ⟨e_110, f_110, h⟩ := zBx h
          refine a_callVx X dX3_readLine_110 miX3_readAsks lm3_163 (t_X3_readAsks (by first | exact hQ | assumption) f_110) (by first | exact q_o | assumption) rfl rfl rfl (Nat.le_of_ble_eq_true rfl) ⟨by decide, by decide, by decide, by decide⟩ (fun r_110 S_110 q_110 => ?_)
          obtain ⟨rfl, rfl, b_110⟩ := q_110
          refine a_zret X (by first | exact Or.inl rfl | exact Or.inr rfl | assumption) hr dX3_readLine_113 ⟨by decide, by decide⟩ ?_
          subst hF
          rw [← Option.some.inj h]
          exact ⟨rfl, rfl, (by first | exact Or.inl rfl | exact Or.inr rfl | assumption)⟩
      · replace h := (if_neg h_73).symm.trans h
        refine a_aload_n X dX3_readLine_76 rfl ?_
        refine a_getr X lf3_12 (by first | exact q_o | assumption) rfl (by omega) dX3_readLine_77 ?_
        refine a_geti X lf3_157 (by first | exact q_draft_o | assumption) rfl dX3_readLine_80 ?_
        refine a_iconst (v := 4) X dX3_readLine_83 (by decide) ?_
        refine a_icmp_ge (tgt := 94) X dX3_readLine_84 (by decide) (fun h_84 => ?_) (fun h_84 => ?_)
        · replace h := (if_pos h_84).symm.trans h
          refine a_aload_n X dX3_readLine_94 rfl ?_
          refine a_iconst (v := 2) X dX3_readLine_95 (by decide) ?_
          obtain ⟨e_96, f_96, h⟩ := zBx h
          refine a_callVx X dX3_readLine_96 miX3_fail lm3_148 (t_X3_fail (by first | exact hQ | assumption) f_96) (by first | exact q_o | assumption) rfl rfl rfl (Nat.le_of_ble_eq_true rfl) ⟨by decide, by decide, by decide, by decide⟩ (fun r_96 S_96 q_96 => ?_)
          obtain ⟨rfl, rfl, b_96⟩ := q_96
          exact Zw.to2 (J_99 _ _ _ (by first | exact Or.inl rfl | exact Or.inr rfl | assumption) h) rfl rfl rfl
        · replace h := (if_neg h_84).symm.trans h
          refine a_aload_n X dX3_readLine_87 rfl ?_
          obtain ⟨e_88, f_88, h⟩ := zBx h
          refine a_callVx X dX3_readLine_88 miX3_readParty lm3_160 (t_X3_readParty (by first | exact hQ | assumption) f_88) (by first | exact q_o | assumption) rfl rfl rfl (Nat.le_of_ble_eq_true rfl) ⟨by decide, by decide, by decide, by decide⟩ (fun r_88 S_88 q_88 => ?_)
          obtain ⟨rfl, rfl, b_88⟩ := q_88
          refine a_goto (tgt := 99) X dX3_readLine_91 (by decide) ?_
          exact Zw.to2 (J_99 _ _ _ (by first | exact Or.inl rfl | exact Or.inr rfl | assumption) h) rfl rfl rfl
    · replace h := (if_neg h_39).symm.trans h
      refine a_aload_n X dX3_readLine_42 rfl ?_
      refine a_getr X lf3_12 (by first | exact q_o | assumption) rfl (by omega) dX3_readLine_43 ?_
      refine a_geti X lf3_151 (by first | exact q_draft_o | assumption) rfl dX3_readLine_46 ?_
      refine a_bipush (v := 10) X dX3_readLine_49 (by decide) ?_
      refine a_icmp_ge (tgt := 61) X dX3_readLine_51 (by decide) (fun h_51 => ?_) (fun h_51 => ?_)
      · replace h := (if_pos h_51).symm.trans h
        refine a_aload_n X dX3_readLine_61 rfl ?_
        refine a_iconst (v := 2) X dX3_readLine_62 (by decide) ?_
        obtain ⟨e_63, f_63, h⟩ := zBx h
        refine a_callVx X dX3_readLine_63 miX3_fail lm3_148 (t_X3_fail (by first | exact hQ | assumption) f_63) (by first | exact q_o | assumption) rfl rfl rfl (Nat.le_of_ble_eq_true rfl) ⟨by decide, by decide, by decide, by decide⟩ (fun r_63 S_63 q_63 => ?_)
        obtain ⟨rfl, rfl, b_63⟩ := q_63
        exact Zw.to2 (J_66 _ _ _ (by first | exact Or.inl rfl | exact Or.inr rfl | assumption) h) rfl rfl rfl
      · replace h := (if_neg h_51).symm.trans h
        refine a_aload_n X dX3_readLine_54 rfl ?_
        obtain ⟨e_55, f_55, h⟩ := zBx h
        refine a_callVx X dX3_readLine_55 miX3_readHunter lm3_154 (t_X3_readHunter (by first | exact hQ | assumption) f_55) (by first | exact q_o | assumption) rfl rfl rfl (Nat.le_of_ble_eq_true rfl) ⟨by decide, by decide, by decide, by decide⟩ (fun r_55 S_55 q_55 => ?_)
        obtain ⟨rfl, rfl, b_55⟩ := q_55
        refine a_goto (tgt := 66) X dX3_readLine_58 (by decide) ?_
        exact Zw.to2 (J_66 _ _ _ (by first | exact Or.inl rfl | exact Or.inr rfl | assumption) h) rfl rfl rfl
  · replace h := (if_neg h_6).symm.trans h
    refine a_aload_n X dX3_readLine_9 rfl ?_
    refine a_getr X lf3_12 (by first | exact q_o | assumption) rfl (by omega) dX3_readLine_10 ?_
    refine a_geti X lf3_142 (by first | exact q_draft_o | assumption) rfl dX3_readLine_13 ?_
    refine a_iconst (v := 5) X dX3_readLine_16 (by decide) ?_
    refine a_icmp_ge (tgt := 27) X dX3_readLine_17 (by decide) (fun h_17 => ?_) (fun h_17 => ?_)
    · replace h := (if_pos h_17).symm.trans h
      refine a_aload_n X dX3_readLine_27 rfl ?_
      refine a_iconst (v := 2) X dX3_readLine_28 (by decide) ?_
      obtain ⟨e_29, f_29, h⟩ := zBx h
      refine a_callVx X dX3_readLine_29 miX3_fail lm3_148 (t_X3_fail (by first | exact hQ | assumption) f_29) (by first | exact q_o | assumption) rfl rfl rfl (Nat.le_of_ble_eq_true rfl) ⟨by decide, by decide, by decide, by decide⟩ (fun r_29 S_29 q_29 => ?_)
      obtain ⟨rfl, rfl, b_29⟩ := q_29
      exact Zw.to2 (J_32 _ _ _ (by first | exact Or.inl rfl | exact Or.inr rfl | assumption) h) rfl rfl rfl
    · replace h := (if_neg h_17).symm.trans h
      refine a_aload_n X dX3_readLine_20 rfl ?_
      obtain ⟨e_21, f_21, h⟩ := zBx h
      refine a_callVx X dX3_readLine_21 miX3_readUnit lm3_145 (t_X3_readUnit (by first | exact hQ | assumption) f_21) (by first | exact q_o | assumption) rfl rfl rfl (Nat.le_of_ble_eq_true rfl) ⟨by decide, by decide, by decide, by decide⟩ (fun r_21 S_21 q_21 => ?_)
      obtain ⟨rfl, rfl, b_21⟩ := q_21
      refine a_goto (tgt := 32) X dX3_readLine_24 (by decide) ?_
      exact Zw.to2 (J_32 _ _ _ (by first | exact Or.inl rfl | exact Or.inr rfl | assumption) h) rfl rfl rfl
noncomputable def D_X3_read_91 (Q : Nat) (A : Nat) (nA : Nat) (M_91 : zMt) (N_91 : zNt) : Option (Int32 × zMt × zNt) :=
  some ((1 : Int32), M_91, N_91)
noncomputable def D_X3_read_62 (Q : Nat) (A : Nat) (nA : Nat) : Nat → Int32 → zMt → zNt → Option (Int32 × zMt × zNt)
  | 0, _, _, _ => none
  | n + 1, x3_62, M_62, N_62 =>
    if (700 : Int32) ≤ x3_62 then
      D_X3_read_91 Q A nA M_62 N_62
    else
      if (M_62 Q 6) = 0 then
        D_X3_read_91 Q A nA M_62 N_62
      else
        zB (D_X3_readLine Q M_62 N_62) fun e_77 =>
        if e_77.1 = 0 then
          some ((0 : Int32), e_77.2.1, e_77.2.2)
        else
          (D_X3_read_62 Q A nA n) (x3_62 + 1) e_77.2.1 e_77.2.2
noncomputable def D_X3_read (Q : Nat) (A : Nat) (nA : Nat) (v0 : Int32) (M : zMt) (N : zNt) : Option (Int32 × zMt × zNt) :=
  zLt (zcpy M (Q + 9) 700 (fun j => zrd 0 (M A) nA (nI j))) fun M_5 =>
  zLt (zu M_5 Q 4 (if (700 : Int32) < v0 then (700 : Int32) else v0)) fun M_16 =>
  zLt (zu M_16 Q 5 (0 : Int32)) fun M_21 =>
  zLt (zu M_21 Q 11 (0 : Int32)) fun M_26 =>
  zLt (zu M_26 Q 12 (0 : Int32)) fun M_31 =>
  zLt (zu M_31 Q 13 (0 : Int32)) fun M_36 =>
  zB (D_X4_clear (Q + 1) M_36) fun e_43 =>
  zLt (zu e_43 Q 1 (0 : Int32)) fun M_48 =>
  zLt (zu M_48 Q 2 (-1 : Int32)) fun M_53 =>
  zB (D_X3_step Q M_53 N) fun e_57 =>
  D_X3_read_62 Q A nA zFu (0 : Int32) e_57.1 e_57.2
set_option maxRecDepth 100000 in
set_option maxHeartbeats 4000000 in
theorem t_X3_read {l : Launch} {G : zG} {b : Nat} {L : List zC} {M : zMt} {N : zNt} {Q : Nat} {A : Nat} {nA : Nat} {v0 : Int32} (hQ : LX3 L Q) (hA : L[A]? = some (1, nA, [])) (lA : nA < 2 ^ 31) (dQA : A < Q ∨ Q + 14 ≤ A) {r : Int32 × zMt × zNt} (h : D_X3_read Q A nA v0 M N = some r) : zM l G b yX3_read cX3_read 4 (some .boolean) 9 0 0 [.ref Q, .ref A, .int v0] (L, M, N) (fun r2 z => r2 = some (.int r.1) ∧ z = (L, r.2.1, r.2.2) ∧ (r.1 = 0 ∨ r.1 = 1)) := by
  refine zM.of miX3_read (Nat.le_of_ble_eq_true rfl) ?_
  intro p e s m args below meth c X hr hname
  generalize hF : ((fun r2 z => r2 = some (.int r.1) ∧ z = (L, r.2.1, r.2.2) ∧ (r.1 = 0 ∨ r.1 = 1)) : Option Value → zS → Prop) = FQ
  change Zw p l e { frames := 9, cells := 0, slots := 0, locals := 80 * (9) } s m args below meth c G b 4 (MQ below (zQ G b FQ) args s 0 0 (fun q : Nat => b ≤ q)) 0 0 0 [some (.ref Q), some (.ref A), some (.int v0), none] [] (L, M, N)
  have q_lt := hQ.1
  have q_o := hQ.2.1
  have q_draft := hQ.2.2.1
  have q_draft_lt := q_draft.1
  have q_draft_o := q_draft.2.1
  have q_text := hQ.2.2.2.1
  have J_91 : ∀ (x2_91 : Int32) (x3_91 : Int32) (M_91 : zMt) (N_91 : zNt), D_X3_read_91 Q A nA M_91 N_91 = some r → Zw p l e { frames := 9, cells := 0, slots := 0, locals := 80 * (9) } s m args below meth c G b 4 (MQ below (zQ G b FQ) args s 0 0 (fun q : Nat => b ≤ q)) 0 0 91 [some (.ref (Q)), some (.ref (A)), some (.int x2_91), some (.int x3_91)] [] (L, M_91, N_91) := by
    intro x2_91 x3_91 M_91 N_91 h
    unfold D_X3_read_91 at h
    refine a_iconst (v := 1) X dX3_read_91 (by decide) ?_
    refine a_zret X (by first | exact Or.inl rfl | exact Or.inr rfl | assumption) hr dX3_read_92 ⟨by decide, by decide⟩ ?_
    subst hF
    rw [← Option.some.inj h]
    exact ⟨rfl, rfl, (by first | exact Or.inl rfl | exact Or.inr rfl | assumption)⟩
  have L_62 : ∀ u : Nat, ∀ (x2_62 : Int32) (x3_62 : Int32) (M_62 : zMt) (N_62 : zNt), D_X3_read_62 Q A nA u x3_62 M_62 N_62 = some r → Zw p l e { frames := 9, cells := 0, slots := 0, locals := 80 * (9) } s m args below meth c G b 4 (MQ below (zQ G b FQ) args s 0 0 (fun q : Nat => b ≤ q)) 0 0 62 [some (.ref (Q)), some (.ref (A)), some (.int x2_62), some (.int x3_62)] [] (L, M_62, N_62) := by
    intro u
    induction u with
    | zero => intro x2_62 x3_62 M_62 N_62 h; cases (show none = some r from h)
    | succ u_62 ih_62 =>
      intro x2_62 x3_62 M_62 N_62 h
      rw [D_X3_read_62] at h
      refine a_iload_n X dX3_read_62 rfl ?_
      refine a_sipush (v := 700) X dX3_read_63 (by decide) ?_
      refine a_icmp_ge (tgt := 91) X dX3_read_66 (by decide) (fun h_66 => ?_) (fun h_66 => ?_)
      · replace h := (if_pos h_66).symm.trans h
        exact Zw.to2 (J_91 _ _ _ _ h) rfl rfl rfl
      · replace h := (if_neg h_66).symm.trans h
        refine a_aload_n X dX3_read_69 rfl ?_
        refine a_geti X lf3_74 (by first | exact q_o | assumption) rfl dX3_read_70 ?_
        refine a_if_eq (tgt := 91) X dX3_read_73 (by decide) (fun h_73 => ?_) (fun h_73 => ?_)
        · replace h := (if_pos h_73).symm.trans h
          exact Zw.to2 (J_91 _ _ _ _ h) rfl rfl rfl
        · replace h := (if_neg h_73).symm.trans h
          refine a_aload_n X dX3_read_76 rfl ?_
          obtain ⟨e_77, f_77, h⟩ := zBx h
          refine a_callVx X dX3_read_77 miX3_readLine lm3_77 (t_X3_readLine (by first | exact hQ | assumption) f_77) (by first | exact q_o | assumption) rfl rfl rfl (Nat.le_of_ble_eq_true rfl) ⟨by decide, by decide, by decide, by decide⟩ (fun r_77 S_77 q_77 => ?_)
          obtain ⟨rfl, rfl, b_77⟩ := q_77
          refine a_if_ne (tgt := 85) X dX3_read_80 (by decide) (fun h_80 => ?_) (fun h_80 => ?_)
          · replace h := (if_neg h_80).symm.trans h
            refine a_iinc (v := x3_62 + 1) X dX3_read_85 (by decide) rfl zi_1 ?_
            refine a_goto (tgt := 62) X dX3_read_88 (by decide) ?_
            exact Zw.to2 (ih_62 _ _ _ _ h) rfl rfl rfl
          · replace h := (if_pos h_80).symm.trans h
            refine a_iconst (v := 0) X dX3_read_83 (by decide) ?_
            refine a_zret X (by first | exact Or.inl rfl | exact Or.inr rfl | assumption) hr dX3_read_84 ⟨by decide, by decide⟩ ?_
            subst hF
            rw [← Option.some.inj h]
            exact ⟨rfl, rfl, (by first | exact Or.inl rfl | exact Or.inr rfl | assumption)⟩
  have H_62 : ∀ (x2_62 : Int32) (x3_62 : Int32) (M_62 : zMt) (N_62 : zNt), D_X3_read_62 Q A nA zFu x3_62 M_62 N_62 = some r → Zw p l e { frames := 9, cells := 0, slots := 0, locals := 80 * (9) } s m args below meth c G b 4 (MQ below (zQ G b FQ) args s 0 0 (fun q : Nat => b ≤ q)) 0 0 62 [some (.ref (Q)), some (.ref (A)), some (.int x2_62), some (.int x3_62)] [] (L, M_62, N_62) := L_62 zFu
  unfold D_X3_read at h
  refine a_aload_n X dX3_read_0 rfl ?_
  refine a_aload_n X dX3_read_1 rfl ?_
  refine a_getr X lf3_25 (by first | exact q_o | assumption) rfl (by omega) dX3_read_2 ?_
  obtain ⟨M_5, f_5, h⟩ := zLtx h
  refine a_callSNu X dX3_read_5 miX7_copy lm3_42 (zMu (c_copy (by first | exact hA | assumption) (by first | exact q_text | assumption) (by decide) (by first | exact lA | assumption) (by omega)) f_5) rfl rfl (Nat.le_of_ble_eq_true rfl) ⟨by decide, by decide, by decide, by decide⟩ ?_
  refine a_aload_n X dX3_read_8 rfl ?_
  refine a_iload_n X dX3_read_9 rfl ?_
  refine a_sipush (v := 700) X dX3_read_10 (by decide) ?_
  refine a_mmin X lm3_46 zmath2 zmath0 zmathc2 ⟨by decide, Nat.le_of_ble_eq_true rfl, by decide, by decide⟩ dX3_read_13 ?_
  obtain ⟨M_16, f_16, h⟩ := zLtx h
  refine d_puti X lf3_52 (by first | exact q_o | assumption) rfl dX3_read_16 f_16 ?_
  refine a_aload_n X dX3_read_19 rfl ?_
  refine a_iconst (v := 0) X dX3_read_20 (by decide) ?_
  obtain ⟨M_21, f_21, h⟩ := zLtx h
  refine d_puti X lf3_55 (by first | exact q_o | assumption) rfl dX3_read_21 f_21 ?_
  refine a_aload_n X dX3_read_24 rfl ?_
  refine a_iconst (v := 0) X dX3_read_25 (by decide) ?_
  obtain ⟨M_26, f_26, h⟩ := zLtx h
  refine d_putz X (by first | exact Or.inl rfl | exact Or.inr rfl | assumption) lf3_58 (by first | exact q_o | assumption) rfl dX3_read_26 f_26 ?_
  refine a_aload_n X dX3_read_29 rfl ?_
  refine a_iconst (v := 0) X dX3_read_30 (by decide) ?_
  obtain ⟨M_31, f_31, h⟩ := zLtx h
  refine d_putz X (by first | exact Or.inl rfl | exact Or.inr rfl | assumption) lf3_62 (by first | exact q_o | assumption) rfl dX3_read_31 f_31 ?_
  refine a_aload_n X dX3_read_34 rfl ?_
  refine a_iconst (v := 0) X dX3_read_35 (by decide) ?_
  obtain ⟨M_36, f_36, h⟩ := zLtx h
  refine d_putz X (by first | exact Or.inl rfl | exact Or.inr rfl | assumption) lf3_65 (by first | exact q_o | assumption) rfl dX3_read_36 f_36 ?_
  refine a_aload_n X dX3_read_39 rfl ?_
  refine a_getr X lf3_12 (by first | exact q_o | assumption) rfl (by omega) dX3_read_40 ?_
  obtain ⟨e_43, f_43, h⟩ := zBx h
  refine a_callVu X dX3_read_43 miX4_clear lm3_68 (t_X4_clear (by first | exact q_draft | assumption) f_43) (by first | exact q_draft_o | assumption) rfl rfl rfl (Nat.le_of_ble_eq_true rfl) ⟨by decide, by decide, by decide, by decide⟩ ?_
  refine a_aload_n X dX3_read_46 rfl ?_
  refine a_iconst (v := 0) X dX3_read_47 (by decide) ?_
  obtain ⟨M_48, f_48, h⟩ := zLtx h
  refine d_puti X lf3_18 (by first | exact q_o | assumption) rfl dX3_read_48 f_48 ?_
  refine a_aload_n X dX3_read_51 rfl ?_
  refine a_iconst (v := -1) X dX3_read_52 (by decide) ?_
  obtain ⟨M_53, f_53, h⟩ := zLtx h
  refine d_puti X lf3_22 (by first | exact q_o | assumption) rfl dX3_read_53 f_53 ?_
  refine a_aload_n X dX3_read_56 rfl ?_
  obtain ⟨e_57, f_57, h⟩ := zBx h
  refine a_callVu X dX3_read_57 miX3_step lm3_71 (t_X3_step (by first | exact hQ | assumption) f_57) (by first | exact q_o | assumption) rfl rfl rfl (Nat.le_of_ble_eq_true rfl) ⟨by decide, by decide, by decide, by decide⟩ ?_
  refine a_iconst (v := 0) X dX3_read_60 (by decide) ?_
  refine a_istore_n X dX3_read_61 (by decide) ?_
  exact Zw.to2 (H_62 _ _ _ _ h) rfl rfl rfl
noncomputable def D_X4_take (Q : Nat) (A : Nat) (M : zMt) : Option (zMt) :=
  zLt (zu M Q 0 (M A 0)) fun M_5 =>
  zLt (zu M_5 Q 1 (M_5 A 1)) fun M_13 =>
  zLt (zu M_13 Q 2 (M_13 A 2)) fun M_21 =>
  zLt (zu M_21 Q 3 (M_21 A 3)) fun M_29 =>
  zLt (zu M_29 Q 4 (M_29 A 4)) fun M_37 =>
  zLt (zu M_37 Q 5 (M_37 A 5)) fun M_45 =>
  zLt (zu M_45 Q 6 (M_45 A 6)) fun M_53 =>
  zLt (zcpy M_53 (Q + 1) 5 (fun j => zrd 0 (M_53 (A + 1)) 5 (nI j))) fun M_64 =>
  zLt (zcpy M_64 (Q + 2) 10 (fun j => zrd 0 (M_64 (A + 2)) 10 (nI j))) fun M_75 =>
  zLt (zcpy M_75 (Q + 3) 10 (fun j => zrd 0 (M_75 (A + 3)) 10 (nI j))) fun M_86 =>
  zLt (zcpy M_86 (Q + 4) 10 (fun j => zrd 0 (M_86 (A + 4)) 10 (nI j))) fun M_97 =>
  zLt (zcpy M_97 (Q + 5) 10 (fun j => zrd 0 (M_97 (A + 5)) 10 (nI j))) fun M_108 =>
  zLt (zcpy M_108 (Q + 6) 30 (fun j => zrd 0 (M_108 (A + 6)) 30 (nI j))) fun M_119 =>
  zLt (zcpy M_119 (Q + 7) 10 (fun j => zrd 0 (M_119 (A + 7)) 10 (nI j))) fun M_130 =>
  some (M_130)
set_option maxRecDepth 100000 in
set_option maxHeartbeats 4000000 in
theorem t_X4_take {l : Launch} {G : zG} {b : Nat} {L : List zC} {M : zMt} {N : zNt} {Q : Nat} {A : Nat}  (hQ : LX4 L Q) (hA : LX4 L A) (dQA : Q + 8 ≤ A ∨ A + 8 ≤ Q) {r : zMt} (h : D_X4_take Q A M = some r) : zM l G b yX4_take cX4_take 2 none 2 0 0 [.ref Q, .ref A] (L, M, N) (fun r2 z => r2 = none ∧ z = (L, r, N)) := by
  refine zM.of miX4_take (Nat.le_of_ble_eq_true rfl) ?_
  intro p e s m args below meth c X hr hname
  generalize hF : ((fun r2 z => r2 = none ∧ z = (L, r, N)) : Option Value → zS → Prop) = FQ
  change Zw p l e { frames := 2, cells := 0, slots := 0, locals := 80 * (2) } s m args below meth c G b 2 (MQ below (zQ G b FQ) args s 0 0 (fun q : Nat => b ≤ q)) 0 0 0 [some (.ref Q), some (.ref A)] [] (L, M, N)
  have q_lt := hQ.1
  have q_o := hQ.2.1
  have q_quota := hQ.2.2.1
  have q_score := hQ.2.2.2.1
  have q_guest := hQ.2.2.2.2.1
  have q_party := hQ.2.2.2.2.2.1
  have q_wishCount := hQ.2.2.2.2.2.2.1
  have q_wishes := hQ.2.2.2.2.2.2.2.1
  have q_has := hQ.2.2.2.2.2.2.2.2
  have a_lt := hA.1
  have a_o := hA.2.1
  have a_quota := hA.2.2.1
  have a_score := hA.2.2.2.1
  have a_guest := hA.2.2.2.2.1
  have a_party := hA.2.2.2.2.2.1
  have a_wishCount := hA.2.2.2.2.2.2.1
  have a_wishes := hA.2.2.2.2.2.2.2.1
  have a_has := hA.2.2.2.2.2.2.2.2
  unfold D_X4_take at h
  refine a_aload_n X dX4_take_0 rfl ?_
  refine a_aload_n X dX4_take_1 rfl ?_
  refine a_geti X lf4_33 (by first | exact a_o | assumption) rfl dX4_take_2 ?_
  obtain ⟨M_5, f_5, h⟩ := zLtx h
  refine d_puti X lf4_33 (by first | exact q_o | assumption) rfl dX4_take_5 f_5 ?_
  refine a_aload_n X dX4_take_8 rfl ?_
  refine a_aload_n X dX4_take_9 rfl ?_
  refine a_geti X lf4_37 (by first | exact a_o | assumption) rfl dX4_take_10 ?_
  obtain ⟨M_13, f_13, h⟩ := zLtx h
  refine d_puti X lf4_37 (by first | exact q_o | assumption) rfl dX4_take_13 f_13 ?_
  refine a_aload_n X dX4_take_16 rfl ?_
  refine a_aload_n X dX4_take_17 rfl ?_
  refine a_geti X lf4_40 (by first | exact a_o | assumption) rfl dX4_take_18 ?_
  obtain ⟨M_21, f_21, h⟩ := zLtx h
  refine d_puti X lf4_40 (by first | exact q_o | assumption) rfl dX4_take_21 f_21 ?_
  refine a_aload_n X dX4_take_24 rfl ?_
  refine a_aload_n X dX4_take_25 rfl ?_
  refine a_geti X lf4_43 (by first | exact a_o | assumption) rfl dX4_take_26 ?_
  obtain ⟨M_29, f_29, h⟩ := zLtx h
  refine d_puti X lf4_43 (by first | exact q_o | assumption) rfl dX4_take_29 f_29 ?_
  refine a_aload_n X dX4_take_32 rfl ?_
  refine a_aload_n X dX4_take_33 rfl ?_
  refine a_geti X lf4_46 (by first | exact a_o | assumption) rfl dX4_take_34 ?_
  obtain ⟨M_37, f_37, h⟩ := zLtx h
  refine d_puti X lf4_46 (by first | exact q_o | assumption) rfl dX4_take_37 f_37 ?_
  refine a_aload_n X dX4_take_40 rfl ?_
  refine a_aload_n X dX4_take_41 rfl ?_
  refine a_geti X lf4_49 (by first | exact a_o | assumption) rfl dX4_take_42 ?_
  obtain ⟨M_45, f_45, h⟩ := zLtx h
  refine d_puti X lf4_49 (by first | exact q_o | assumption) rfl dX4_take_45 f_45 ?_
  refine a_aload_n X dX4_take_48 rfl ?_
  refine a_aload_n X dX4_take_49 rfl ?_
  refine a_geti X lf4_52 (by first | exact a_o | assumption) rfl dX4_take_50 ?_
  obtain ⟨M_53, f_53, h⟩ := zLtx h
  refine d_puti X lf4_52 (by first | exact q_o | assumption) rfl dX4_take_53 f_53 ?_
  refine a_aload_n X dX4_take_56 rfl ?_
  refine a_getr X lf4_9 (by first | exact a_o | assumption) rfl (by omega) dX4_take_57 ?_
  refine a_aload_n X dX4_take_60 rfl ?_
  refine a_getr X lf4_9 (by first | exact q_o | assumption) rfl (by omega) dX4_take_61 ?_
  obtain ⟨M_64, f_64, h⟩ := zLtx h
  refine a_callSNu X dX4_take_64 miX7_copy lm4_59 (zMu (c_copy (by first | exact a_quota | assumption) (by first | exact q_quota | assumption) (by decide) (by decide) (by omega)) f_64) rfl rfl (Nat.le_of_ble_eq_true rfl) ⟨by decide, by decide, by decide, by decide⟩ ?_
  refine a_aload_n X dX4_take_67 rfl ?_
  refine a_getr X lf4_15 (by first | exact a_o | assumption) rfl (by omega) dX4_take_68 ?_
  refine a_aload_n X dX4_take_71 rfl ?_
  refine a_getr X lf4_15 (by first | exact q_o | assumption) rfl (by omega) dX4_take_72 ?_
  obtain ⟨M_75, f_75, h⟩ := zLtx h
  refine a_callSNu X dX4_take_75 miX7_copy lm4_59 (zMu (c_copy (by first | exact a_score | assumption) (by first | exact q_score | assumption) (by decide) (by decide) (by omega)) f_75) rfl rfl (Nat.le_of_ble_eq_true rfl) ⟨by decide, by decide, by decide, by decide⟩ ?_
  refine a_aload_n X dX4_take_78 rfl ?_
  refine a_getr X lf4_18 (by first | exact a_o | assumption) rfl (by omega) dX4_take_79 ?_
  refine a_aload_n X dX4_take_82 rfl ?_
  refine a_getr X lf4_18 (by first | exact q_o | assumption) rfl (by omega) dX4_take_83 ?_
  obtain ⟨M_86, f_86, h⟩ := zLtx h
  refine a_callSNu X dX4_take_86 miX7_copy lm4_59 (zMu (c_copy (by first | exact a_guest | assumption) (by first | exact q_guest | assumption) (by decide) (by decide) (by omega)) f_86) rfl rfl (Nat.le_of_ble_eq_true rfl) ⟨by decide, by decide, by decide, by decide⟩ ?_
  refine a_aload_n X dX4_take_89 rfl ?_
  refine a_getr X lf4_21 (by first | exact a_o | assumption) rfl (by omega) dX4_take_90 ?_
  refine a_aload_n X dX4_take_93 rfl ?_
  refine a_getr X lf4_21 (by first | exact q_o | assumption) rfl (by omega) dX4_take_94 ?_
  obtain ⟨M_97, f_97, h⟩ := zLtx h
  refine a_callSNu X dX4_take_97 miX7_copy lm4_59 (zMu (c_copy (by first | exact a_party | assumption) (by first | exact q_party | assumption) (by decide) (by decide) (by omega)) f_97) rfl rfl (Nat.le_of_ble_eq_true rfl) ⟨by decide, by decide, by decide, by decide⟩ ?_
  refine a_aload_n X dX4_take_100 rfl ?_
  refine a_getr X lf4_24 (by first | exact a_o | assumption) rfl (by omega) dX4_take_101 ?_
  refine a_aload_n X dX4_take_104 rfl ?_
  refine a_getr X lf4_24 (by first | exact q_o | assumption) rfl (by omega) dX4_take_105 ?_
  obtain ⟨M_108, f_108, h⟩ := zLtx h
  refine a_callSNu X dX4_take_108 miX7_copy lm4_59 (zMu (c_copy (by first | exact a_wishCount | assumption) (by first | exact q_wishCount | assumption) (by decide) (by decide) (by omega)) f_108) rfl rfl (Nat.le_of_ble_eq_true rfl) ⟨by decide, by decide, by decide, by decide⟩ ?_
  refine a_aload_n X dX4_take_111 rfl ?_
  refine a_getr X lf4_27 (by first | exact a_o | assumption) rfl (by omega) dX4_take_112 ?_
  refine a_aload_n X dX4_take_115 rfl ?_
  refine a_getr X lf4_27 (by first | exact q_o | assumption) rfl (by omega) dX4_take_116 ?_
  obtain ⟨M_119, f_119, h⟩ := zLtx h
  refine a_callSNu X dX4_take_119 miX7_copy lm4_59 (zMu (c_copy (by first | exact a_wishes | assumption) (by first | exact q_wishes | assumption) (by decide) (by decide) (by omega)) f_119) rfl rfl (Nat.le_of_ble_eq_true rfl) ⟨by decide, by decide, by decide, by decide⟩ ?_
  refine a_aload_n X dX4_take_122 rfl ?_
  refine a_getr X lf4_30 (by first | exact a_o | assumption) rfl (by omega) dX4_take_123 ?_
  refine a_aload_n X dX4_take_126 rfl ?_
  refine a_getr X lf4_30 (by first | exact q_o | assumption) rfl (by omega) dX4_take_127 ?_
  obtain ⟨M_130, f_130, h⟩ := zLtx h
  refine a_callSNu X dX4_take_130 miX7_copy lm4_59 (zMu (c_copy (by first | exact a_has | assumption) (by first | exact q_has | assumption) (by decide) (by decide) (by omega)) f_130) rfl rfl (Nat.le_of_ble_eq_true rfl) ⟨by decide, by decide, by decide, by decide⟩ ?_
  refine a_vret X hr dX4_take_133 ⟨by decide, by decide⟩ ?_
  subst hF
  rw [← Option.some.inj h]
  exact ⟨rfl, rfl⟩
theorem z_vin {k : Int32} {n : Nat} (hn : n < 2 ^ 31) (h : vp_in k n) : k = nI k.toNatClampNeg ∧ k.toNatClampNeg < n := by
  have h0 : ¬ k < 0 := fun q => h (Or.inl q)
  have h1 : k.toNatClampNeg < n := Nat.not_le.mp (fun q => h (Or.inr q))
  have e1 : k.toNatClampNeg = k.toInt.toNat := rfl
  have e0 : (0 : Int32).toInt = 0 := by decide
  rw [Int32.lt_iff_toInt_lt] at h0
  refine ⟨?_, h1⟩
  apply Int32.toInt_inj.mp
  rw [nI_toInt (by omega), e1]
  omega
noncomputable def D_X1_keep_22 (Q A : Nat) (y1 : Int32) (M : zMt) : Option zMt :=
  zLt (zu M Q 1 y1) fun M1 =>
  zI y1 8 <|
  zB (D_X4_take (Q + 2 + 8 * y1.toNatClampNeg) A M1) fun M2 =>
  zLt (zu M2 Q 0 (if 8 < M2 Q 0 + 1 then 8 else M2 Q 0 + 1)) fun M3 =>
  some M3
noncomputable def D_X1_keep (Q A : Nat) (M : zMt) : Option zMt :=
  if 8 ≤ M Q 1 + 1 then D_X1_keep_22 Q A 0 M else D_X1_keep_22 Q A (M Q 1 + 1) M
noncomputable def D_X1_giveBack_52 (Q A : Nat) (y : Int32) (M : zMt) : Option (Int32 × zMt) :=
  zLt (zu M Q 1 y) fun M1 =>
  some (1, M1)
noncomputable def D_X1_giveBack (Q A : Nat) (M : zMt) : Option (Int32 × zMt) :=
  zI (M Q 1) 8 <|
  if M Q 0 = 0 then some (0, M)
  else
    zB (D_X4_take A (Q + 2 + 8 * (M Q 1).toNatClampNeg) M) fun M1 =>
    zLt (zu M1 Q 0 (M1 Q 0 - 1)) fun M2 =>
    if M2 Q 1 ≤ 0 then D_X1_giveBack_52 Q A 7 M2 else D_X1_giveBack_52 Q A (M2 Q 1 - 1) M2
set_option maxRecDepth 100000 in
theorem t_X1_keep {l : Launch} {G : zG} {b : Nat} {L : List zC} {M : zMt} {N : zNt} {Q A : Nat} (hQ : LX1 L Q) (hA : LX4 L A) (dQA : Q + 66 ≤ A ∨ A + 8 ≤ Q) {r : zMt} (h : D_X1_keep Q A M = some r) : zM l G b yX1_keep cX1_keep 3 none 3 0 0 [.ref Q, .ref A] (L, M, N) (fun r2 z => r2 = none ∧ z = (L, r, N)) := by
  refine zM.of miX1_keep (Nat.le_of_ble_eq_true rfl) ?_
  intro p e s m args below meth c X hr hname
  generalize hF : ((fun r2 z => r2 = none ∧ z = (L, r, N)) : Option Value → zS → Prop) = FQ
  change Zw p l e { frames := 3, cells := 0, slots := 0, locals := 80 * 3 } s m args below meth c G b 3 (MQ below (zQ G b FQ) args s 0 0 (fun q : Nat => b ≤ q)) 0 0 0 [some (.ref Q), some (.ref A), none] [] (L, M, N)
  have hQ9 := hQ
  obtain ⟨plt, po, pstood, pstood0, pstood1, pstood2, pstood3, pstood4, pstood5, pstood6, pstood7⟩ := id hQ
  have hst : ∀ k : Nat, k < 8 → LX4 L (Q + 2 + 8 * k) := fun k hk => by match k, hk with | 0, _ => exact pstood0 | 1, _ => exact pstood1 | 2, _ => exact pstood2 | 3, _ => exact pstood3 | 4, _ => exact pstood4 | 5, _ => exact pstood5 | 6, _ => exact pstood6 | 7, _ => exact pstood7
  have J : ∀ y : Int32, D_X1_keep_22 Q A y M = some r → Zw p l e { frames := 3, cells := 0, slots := 0, locals := 80 * 3 } s m args below meth c G b 3 (MQ below (zQ G b FQ) args s 0 0 (fun q : Nat => b ≤ q)) 0 0 22 [some (.ref Q), some (.ref A), none] [.int y, .ref Q] (L, M, N) := by
    intro y h
    unfold D_X1_keep_22 at h
    obtain ⟨M1, f1, h⟩ := zLtx h
    obtain ⟨g1, h⟩ := zIx h
    obtain ⟨hy, hk8⟩ := z_vin (by decide) g1
    obtain ⟨M2, f2, h⟩ := zBx h
    obtain ⟨M3, f3, h⟩ := zLtx h
    refine d_puti X lf1_22 (by assumption) rfl dX1_keep_22 f1 ?_
    refine a_aload_n X dX1_keep_25 rfl ?_
    refine a_callVv X dX1_keep_26 miX1_newestStood lm1_25 (c_newestStood (k := y.toNatClampNeg) hQ9 (by rw [← hy, ← f1]; exact zu_eq) hk8) (by assumption) rfl rfl rfl (Nat.le_of_ble_eq_true rfl) ⟨by decide, by decide, by decide, by decide⟩ ?_
    refine a_astore_n X dX1_keep_29 (by decide) ?_
    refine a_aload_n X dX1_keep_30 rfl ?_
    refine a_ifnonnull (tgt := 35) X dX1_keep_31 (by decide) ?_
    refine a_aload_n X dX1_keep_35 rfl ?_
    refine a_aload_n X dX1_keep_36 rfl ?_
    refine a_callVu X dX1_keep_37 miX4_take lm1_29 (t_X4_take (hst _ hk8) hA (by omega) f2) ((hst _ hk8).2.1) rfl rfl rfl (Nat.le_of_ble_eq_true rfl) ⟨by decide, by decide, by decide, by decide⟩ ?_
    refine a_aload_n X dX1_keep_40 rfl ?_
    refine a_aload_n X dX1_keep_41 rfl ?_
    refine a_geti X lf1_18 (by assumption) rfl dX1_keep_42 ?_
    refine a_iconst (v := 1) X dX1_keep_45 (by decide) ?_
    refine a_iadd X dX1_keep_46 ?_
    refine a_bipush (v := 8) X dX1_keep_47 (by decide) ?_
    refine a_mmin X lm1_33 zmath2 zmath0 zmathc2 ⟨by decide, Nat.le_of_ble_eq_true rfl, by decide, by decide⟩ dX1_keep_49 ?_
    refine d_puti X lf1_18 (by assumption) rfl dX1_keep_52 f3 ?_
    refine a_vret X hr dX1_keep_55 ⟨by decide, by decide⟩ ?_
    subst hF
    rw [← Option.some.inj h]
    exact ⟨rfl, rfl⟩
  unfold D_X1_keep at h
  refine a_aload_n X dX1_keep_0 rfl ?_
  refine a_aload_n X dX1_keep_1 rfl ?_
  refine a_geti X lf1_22 (by assumption) rfl dX1_keep_2 ?_
  refine a_iconst (v := 1) X dX1_keep_5 (by decide) ?_
  refine a_iadd X dX1_keep_6 ?_
  refine a_bipush (v := 8) X dX1_keep_7 (by decide) ?_
  refine a_icmp_ge (tgt := 21) X dX1_keep_9 (by decide) (fun h_9 => ?_) (fun h_9 => ?_)
  · replace h := (if_pos h_9).symm.trans h
    refine a_iconst (v := 0) X dX1_keep_21 (by decide) ?_
    exact J 0 h
  · replace h := (if_neg h_9).symm.trans h
    refine a_aload_n X dX1_keep_12 rfl ?_
    refine a_geti X lf1_22 (by assumption) rfl dX1_keep_13 ?_
    refine a_iconst (v := 1) X dX1_keep_16 (by decide) ?_
    refine a_iadd X dX1_keep_17 ?_
    refine a_goto (tgt := 22) X dX1_keep_18 (by decide) ?_
    exact J _ h
set_option maxRecDepth 100000 in
theorem t_X1_giveBack {l : Launch} {G : zG} {b : Nat} {L : List zC} {M : zMt} {N : zNt} {Q A : Nat} (hQ : LX1 L Q) (hA : LX4 L A) (dQA : Q + 66 ≤ A ∨ A + 8 ≤ Q) {r : Int32 × zMt} (h : D_X1_giveBack Q A M = some r) : zM l G b yX1_giveBack cX1_giveBack 3 (some .boolean) 3 0 0 [.ref Q, .ref A] (L, M, N) (fun r2 z => r2 = some (.int r.1) ∧ z = (L, r.2, N) ∧ (r.1 = 0 ∨ r.1 = 1)) := by
  refine zM.of miX1_giveBack (Nat.le_of_ble_eq_true rfl) ?_
  intro p e s m args below meth c X hr hname
  generalize hF : ((fun r2 z => r2 = some (.int r.1) ∧ z = (L, r.2, N) ∧ (r.1 = 0 ∨ r.1 = 1)) : Option Value → zS → Prop) = FQ
  change Zw p l e { frames := 3, cells := 0, slots := 0, locals := 80 * 3 } s m args below meth c G b 3 (MQ below (zQ G b FQ) args s 0 0 (fun q : Nat => b ≤ q)) 0 0 0 [some (.ref Q), some (.ref A), none] [] (L, M, N)
  have hQ9 := hQ
  obtain ⟨plt, po, pstood, pstood0, pstood1, pstood2, pstood3, pstood4, pstood5, pstood6, pstood7⟩ := id hQ
  have hst : ∀ k : Nat, k < 8 → LX4 L (Q + 2 + 8 * k) := fun k hk => by match k, hk with | 0, _ => exact pstood0 | 1, _ => exact pstood1 | 2, _ => exact pstood2 | 3, _ => exact pstood3 | 4, _ => exact pstood4 | 5, _ => exact pstood5 | 6, _ => exact pstood6 | 7, _ => exact pstood7
  have J : ∀ (z2 : Option Value) (y : Int32) (M2 : zMt), D_X1_giveBack_52 Q A y M2 = some r → Zw p l e { frames := 3, cells := 0, slots := 0, locals := 80 * 3 } s m args below meth c G b 3 (MQ below (zQ G b FQ) args s 0 0 (fun q : Nat => b ≤ q)) 0 0 52 [some (.ref Q), some (.ref A), z2] [.int y, .ref Q] (L, M2, N) := by
    intro z2 y M2 h
    unfold D_X1_giveBack_52 at h
    obtain ⟨M1, f1, h⟩ := zLtx h
    refine d_puti X lf1_22 (by assumption) rfl dX1_giveBack_52 f1 ?_
    refine a_iconst (v := 1) X dX1_giveBack_55 (by decide) ?_
    refine a_zret X (Or.inr rfl) hr dX1_giveBack_56 ⟨by decide, by decide⟩ ?_
    subst hF
    rw [← Option.some.inj h]
    exact ⟨rfl, rfl, Or.inr rfl⟩
  unfold D_X1_giveBack at h
  obtain ⟨g1, h⟩ := zIx h
  obtain ⟨hy, hk8⟩ := z_vin (by decide) g1
  refine a_aload_n X dX1_giveBack_0 rfl ?_
  refine a_callVv X dX1_giveBack_1 miX1_newestStood lm1_25 (c_newestStood (k := (M Q 1).toNatClampNeg) hQ9 hy hk8) (by assumption) rfl rfl rfl (Nat.le_of_ble_eq_true rfl) ⟨by decide, by decide, by decide, by decide⟩ ?_
  refine a_astore_n X dX1_giveBack_4 (by decide) ?_
  refine a_aload_n X dX1_giveBack_5 rfl ?_
  refine a_geti X lf1_18 (by assumption) rfl dX1_giveBack_6 ?_
  refine a_if_eq (tgt := 16) X dX1_giveBack_9 (by decide) (fun h_9 => ?_) (fun h_9 => ?_)
  · replace h := (if_pos h_9).symm.trans h
    refine a_iconst (v := 0) X dX1_giveBack_16 (by decide) ?_
    refine a_zret X (Or.inl rfl) hr dX1_giveBack_17 ⟨by decide, by decide⟩ ?_
    subst hF
    rw [← Option.some.inj h]
    exact ⟨rfl, rfl, Or.inl rfl⟩
  · replace h := (if_neg h_9).symm.trans h
    obtain ⟨M1, f1, h⟩ := zBx h
    obtain ⟨M2, f2, h⟩ := zLtx h
    refine a_aload_n X dX1_giveBack_12 rfl ?_
    refine a_ifnonnull (tgt := 18) X dX1_giveBack_13 (by decide) ?_
    refine a_aload_n X dX1_giveBack_18 rfl ?_
    refine a_aload_n X dX1_giveBack_19 rfl ?_
    refine a_callVu X dX1_giveBack_20 miX4_take lm1_29 (t_X4_take hA (hst _ hk8) (by omega) f1) (hA.2.1) rfl rfl rfl (Nat.le_of_ble_eq_true rfl) ⟨by decide, by decide, by decide, by decide⟩ ?_
    refine a_aload_n X dX1_giveBack_23 rfl ?_
    refine a_dup X dX1_giveBack_24 rfl ?_
    refine a_geti X lf1_18 (by assumption) rfl dX1_giveBack_25 ?_
    refine a_iconst (v := 1) X dX1_giveBack_28 (by decide) ?_
    refine a_isub X dX1_giveBack_29 ?_
    refine d_puti X lf1_18 (by assumption) rfl dX1_giveBack_30 f2 ?_
    refine a_aload_n X dX1_giveBack_33 rfl ?_
    refine a_aload_n X dX1_giveBack_34 rfl ?_
    refine a_geti X lf1_22 (by assumption) rfl dX1_giveBack_35 ?_
    refine a_if_le (tgt := 50) X dX1_giveBack_38 (by decide) (fun h_38 => ?_) (fun h_38 => ?_)
    · replace h := (if_pos h_38).symm.trans h
      refine a_bipush (v := 7) X dX1_giveBack_50 (by decide) ?_
      exact J _ _ _ h
    · replace h := (if_neg h_38).symm.trans h
      refine a_aload_n X dX1_giveBack_41 rfl ?_
      refine a_geti X lf1_22 (by assumption) rfl dX1_giveBack_42 ?_
      refine a_iconst (v := 1) X dX1_giveBack_45 (by decide) ?_
      refine a_isub X dX1_giveBack_46 ?_
      refine a_goto (tgt := 52) X dX1_giveBack_47 (by decide) ?_
      exact J _ _ _ h
noncomputable def D_X4_join (Q : Nat) (v0 : Int32) (v1 : Int32) (M : zMt) : Option (zMt) :=
  zB (D_X4_wishFor Q ((1 : Int32) <<< (v1 &&& 31)) (zrd 0 (M (Q + 6)) 30 (v0 * (3 : Int32))) (zrd 0 (M (Q + 6)) 30 ((v0 * (3 : Int32)) + (1 : Int32))) (zrd 0 (M (Q + 6)) 30 ((v0 * (3 : Int32)) + (2 : Int32))) M) fun e_36 =>
  zB (D_X4_addParty Q (((1 : Int32) <<< (v0 &&& 31)) ||| ((1 : Int32) <<< (v1 &&& 31))) e_36) fun e_47 =>
  some (e_47)
set_option maxRecDepth 100000 in
set_option maxHeartbeats 4000000 in
theorem t_X4_join {l : Launch} {G : zG} {b : Nat} {L : List zC} {M : zMt} {N : zNt} {Q : Nat} {v0 : Int32} {v1 : Int32} (hQ : LX4 L Q) {r : zMt} (h : D_X4_join Q v0 v1 M = some r) : zM l G b yX4_join cX4_join 4 none 2 0 0 [.ref Q, .int v0, .int v1] (L, M, N) (fun r2 z => r2 = none ∧ z = (L, r, N)) := by
  refine zM.of miX4_join (Nat.le_of_ble_eq_true rfl) ?_
  intro p e s m args below meth c X hr hname
  generalize hF : ((fun r2 z => r2 = none ∧ z = (L, r, N)) : Option Value → zS → Prop) = FQ
  change Zw p l e { frames := 2, cells := 0, slots := 0, locals := 80 * (2) } s m args below meth c G b 4 (MQ below (zQ G b FQ) args s 0 0 (fun q : Nat => b ≤ q)) 0 0 0 [some (.ref Q), some (.int v0), some (.int v1), none] [] (L, M, N)
  have q_lt := hQ.1
  have q_o := hQ.2.1
  have q_wishes := hQ.2.2.2.2.2.2.2.1
  unfold D_X4_join at h
  refine a_iload_n X dX4_join_0 rfl ?_
  refine a_iconst (v := 3) X dX4_join_1 (by decide) ?_
  refine a_imul X dX4_join_2 ?_
  refine a_istore_n X dX4_join_3 (by decide) ?_
  refine a_aload_n X dX4_join_4 rfl ?_
  refine a_iconst (v := 1) X dX4_join_5 (by decide) ?_
  refine a_iload_n X dX4_join_6 rfl ?_
  refine a_ishl X dX4_join_7 ?_
  refine a_aload_n X dX4_join_8 rfl ?_
  refine a_getr X lf4_27 (by first | exact q_o | assumption) rfl (by omega) dX4_join_9 ?_
  refine a_iload_n X dX4_join_12 rfl ?_
  refine a_callSNv X dX4_join_13 miX7_cell lm4_67 (c_cell (by first | exact q_wishes | assumption) (by decide)) rfl rfl (Nat.le_of_ble_eq_true rfl) ⟨by decide, by decide, by decide, by decide⟩ ?_
  refine a_aload_n X dX4_join_16 rfl ?_
  refine a_getr X lf4_27 (by first | exact q_o | assumption) rfl (by omega) dX4_join_17 ?_
  refine a_iload_n X dX4_join_20 rfl ?_
  refine a_iconst (v := 1) X dX4_join_21 (by decide) ?_
  refine a_iadd X dX4_join_22 ?_
  refine a_callSNv X dX4_join_23 miX7_cell lm4_67 (c_cell (by first | exact q_wishes | assumption) (by decide)) rfl rfl (Nat.le_of_ble_eq_true rfl) ⟨by decide, by decide, by decide, by decide⟩ ?_
  refine a_aload_n X dX4_join_26 rfl ?_
  refine a_getr X lf4_27 (by first | exact q_o | assumption) rfl (by omega) dX4_join_27 ?_
  refine a_iload_n X dX4_join_30 rfl ?_
  refine a_iconst (v := 2) X dX4_join_31 (by decide) ?_
  refine a_iadd X dX4_join_32 ?_
  refine a_callSNv X dX4_join_33 miX7_cell lm4_67 (c_cell (by first | exact q_wishes | assumption) (by decide)) rfl rfl (Nat.le_of_ble_eq_true rfl) ⟨by decide, by decide, by decide, by decide⟩ ?_
  obtain ⟨e_36, f_36, h⟩ := zBx h
  refine a_callVu X dX4_join_36 miX4_wishFor lm4_71 (t_X4_wishFor (by first | exact hQ | assumption) f_36) (by first | exact q_o | assumption) rfl rfl rfl (Nat.le_of_ble_eq_true rfl) ⟨by decide, by decide, by decide, by decide⟩ ?_
  refine a_aload_n X dX4_join_39 rfl ?_
  refine a_iconst (v := 1) X dX4_join_40 (by decide) ?_
  refine a_iload_n X dX4_join_41 rfl ?_
  refine a_ishl X dX4_join_42 ?_
  refine a_iconst (v := 1) X dX4_join_43 (by decide) ?_
  refine a_iload_n X dX4_join_44 rfl ?_
  refine a_ishl X dX4_join_45 ?_
  refine a_ior X dX4_join_46 ?_
  obtain ⟨e_47, f_47, h⟩ := zBx h
  refine a_callVu X dX4_join_47 miX4_addParty lm4_75 (t_X4_addParty (by first | exact hQ | assumption) f_47) (by first | exact q_o | assumption) rfl rfl rfl (Nat.le_of_ble_eq_true rfl) ⟨by decide, by decide, by decide, by decide⟩ ?_
  refine a_vret X hr dX4_join_50 ⟨by decide, by decide⟩ ?_
  subst hF
  rw [← Option.some.inj h]
  exact ⟨rfl, rfl⟩
noncomputable def D_X4_dissolve_52 (Q : Nat) (k2 : Int32 → Int32 → zMt → Option (zMt)) (x1_52 : Int32) (x2_52 : Int32) (M_52 : zMt) : Option (zMt) :=
  k2 x1_52 (x2_52 + 1) M_52
noncomputable def D_X4_dissolve_2 (Q : Nat) : Nat → Int32 → Int32 → zMt → Option (zMt)
  | 0, _, _, _ => none
  | n + 1, x1_2, x2_2, M_2 =>
    if (M_2 Q 1) ≤ x2_2 then
      zLt (zu M_2 Q 2 ((M_2 Q 2) - (1 : Int32))) fun M_65 =>
      some (M_65)
    else
      if (zrd 0 (M_2 (Q + 4)) 10 x2_2) = x1_2 then
        zLt (zwr M_2 (Q + 4) 10 x2_2 (-1 : Int32)) fun M_30 =>
        D_X4_dissolve_52 Q (D_X4_dissolve_2 Q n) x1_2 x2_2 M_30
      else
        if (zrd 0 (M_2 (Q + 4)) 10 x2_2) ≤ x1_2 then
          D_X4_dissolve_52 Q (D_X4_dissolve_2 Q n) x1_2 x2_2 M_2
        else
          zLt (zwr M_2 (Q + 4) 10 x2_2 ((zrd 0 (M_2 (Q + 4)) 10 x2_2) - (1 : Int32))) fun M_49 =>
          D_X4_dissolve_52 Q (D_X4_dissolve_2 Q n) x1_2 x2_2 M_49
noncomputable def D_X4_dissolve (Q : Nat) (v0 : Int32) (M : zMt) : Option (zMt) :=
  D_X4_dissolve_2 Q zFu v0 (0 : Int32) M
set_option maxRecDepth 100000 in
set_option maxHeartbeats 4000000 in
theorem t_X4_dissolve {l : Launch} {G : zG} {b : Nat} {L : List zC} {M : zMt} {N : zNt} {Q : Nat} {v0 : Int32} (hQ : LX4 L Q) {r : zMt} (h : D_X4_dissolve Q v0 M = some r) : zM l G b yX4_dissolve cX4_dissolve 4 none 1 0 0 [.ref Q, .int v0] (L, M, N) (fun r2 z => r2 = none ∧ z = (L, r, N)) := by
  refine zM.of miX4_dissolve (Nat.le_of_ble_eq_true rfl) ?_
  intro p e s m args below meth c X hr hname
  generalize hF : ((fun r2 z => r2 = none ∧ z = (L, r, N)) : Option Value → zS → Prop) = FQ
  change Zw p l e { frames := 1, cells := 0, slots := 0, locals := 80 * (1) } s m args below meth c G b 4 (MQ below (zQ G b FQ) args s 0 0 (fun q : Nat => b ≤ q)) 0 0 0 [some (.ref Q), some (.int v0), none, none] [] (L, M, N)
  have q_lt := hQ.1
  have q_o := hQ.2.1
  have q_party := hQ.2.2.2.2.2.1
  have L_2 : ∀ u : Nat, ∀ (x1_2 : Int32) (x2_2 : Int32) (x3_2 : Option Value) (M_2 : zMt), D_X4_dissolve_2 Q u x1_2 x2_2 M_2 = some r → Zw p l e { frames := 1, cells := 0, slots := 0, locals := 80 * (1) } s m args below meth c G b 4 (MQ below (zQ G b FQ) args s 0 0 (fun q : Nat => b ≤ q)) 0 0 2 [some (.ref (Q)), some (.int x1_2), some (.int x2_2), x3_2] [] (L, M_2, N) := by
    intro u
    induction u with
    | zero => intro x1_2 x2_2 x3_2 M_2 h; cases (show none = some r from h)
    | succ u_2 ih_2 =>
      have J_52 : ∀ (x1_52 : Int32) (x2_52 : Int32) (x3_52 : Int32) (M_52 : zMt), D_X4_dissolve_52 Q (D_X4_dissolve_2 Q u_2) x1_52 x2_52 M_52 = some r → Zw p l e { frames := 1, cells := 0, slots := 0, locals := 80 * (1) } s m args below meth c G b 4 (MQ below (zQ G b FQ) args s 0 0 (fun q : Nat => b ≤ q)) 0 0 52 [some (.ref (Q)), some (.int x1_52), some (.int x2_52), some (.int x3_52)] [] (L, M_52, N) := by
        intro x1_52 x2_52 x3_52 M_52 h
        unfold D_X4_dissolve_52 at h
        refine a_iinc (v := x2_52 + 1) X dX4_dissolve_52 (by decide) rfl zi_1 ?_
        refine a_goto (tgt := 2) X dX4_dissolve_55 (by decide) ?_
        exact Zw.to2 (ih_2 _ _ _ _ h) rfl rfl rfl
      intro x1_2 x2_2 x3_2 M_2 h
      rw [D_X4_dissolve_2] at h
      refine a_iload_n X dX4_dissolve_2 rfl ?_
      refine a_aload_n X dX4_dissolve_3 rfl ?_
      refine a_geti X lf4_37 (by first | exact q_o | assumption) rfl dX4_dissolve_4 ?_
      refine a_icmp_ge (tgt := 58) X dX4_dissolve_7 (by decide) (fun h_7 => ?_) (fun h_7 => ?_)
      · replace h := (if_pos h_7).symm.trans h
        refine a_aload_n X dX4_dissolve_58 rfl ?_
        refine a_dup X dX4_dissolve_59 rfl ?_
        refine a_geti X lf4_40 (by first | exact q_o | assumption) rfl dX4_dissolve_60 ?_
        refine a_iconst (v := 1) X dX4_dissolve_63 (by decide) ?_
        refine a_isub X dX4_dissolve_64 ?_
        obtain ⟨M_65, f_65, h⟩ := zLtx h
        refine d_puti X lf4_40 (by first | exact q_o | assumption) rfl dX4_dissolve_65 f_65 ?_
        refine a_vret X hr dX4_dissolve_68 ⟨by decide, by decide⟩ ?_
        subst hF
        rw [← Option.some.inj h]
        exact ⟨rfl, rfl⟩
      · replace h := (if_neg h_7).symm.trans h
        refine a_aload_n X dX4_dissolve_10 rfl ?_
        refine a_getr X lf4_21 (by first | exact q_o | assumption) rfl (by omega) dX4_dissolve_11 ?_
        refine a_iload_n X dX4_dissolve_14 rfl ?_
        refine a_callSNv X dX4_dissolve_15 miX7_cell lm4_67 (c_cell (by first | exact q_party | assumption) (by decide)) rfl rfl (Nat.le_of_ble_eq_true rfl) ⟨by decide, by decide, by decide, by decide⟩ ?_
        refine a_istore_n X dX4_dissolve_18 (by decide) ?_
        refine a_iload_n X dX4_dissolve_19 rfl ?_
        refine a_iload_n X dX4_dissolve_20 rfl ?_
        refine a_icmp_ne (tgt := 36) X dX4_dissolve_21 (by decide) (fun h_21 => ?_) (fun h_21 => ?_)
        · replace h := (if_neg h_21).symm.trans h
          refine a_iload_n X dX4_dissolve_36 rfl ?_
          refine a_iload_n X dX4_dissolve_37 rfl ?_
          refine a_icmp_le (tgt := 52) X dX4_dissolve_38 (by decide) (fun h_38 => ?_) (fun h_38 => ?_)
          · replace h := (if_pos h_38).symm.trans h
            exact Zw.to2 (J_52 _ _ _ _ h) rfl rfl rfl
          · replace h := (if_neg h_38).symm.trans h
            refine a_aload_n X dX4_dissolve_41 rfl ?_
            refine a_getr X lf4_21 (by first | exact q_o | assumption) rfl (by omega) dX4_dissolve_42 ?_
            refine a_iload_n X dX4_dissolve_45 rfl ?_
            refine a_iload_n X dX4_dissolve_46 rfl ?_
            refine a_iconst (v := 1) X dX4_dissolve_47 (by decide) ?_
            refine a_isub X dX4_dissolve_48 ?_
            obtain ⟨M_49, f_49, h⟩ := zLtx h
            refine a_callSNu X dX4_dissolve_49 miX7_put lm4_63 (zMu (c_put (by first | exact q_party | assumption) (by decide)) f_49) rfl rfl (Nat.le_of_ble_eq_true rfl) ⟨by decide, by decide, by decide, by decide⟩ ?_
            exact Zw.to2 (J_52 _ _ _ _ h) rfl rfl rfl
        · replace h := (if_pos h_21).symm.trans h
          refine a_aload_n X dX4_dissolve_24 rfl ?_
          refine a_getr X lf4_21 (by first | exact q_o | assumption) rfl (by omega) dX4_dissolve_25 ?_
          refine a_iload_n X dX4_dissolve_28 rfl ?_
          refine a_iconst (v := -1) X dX4_dissolve_29 (by decide) ?_
          obtain ⟨M_30, f_30, h⟩ := zLtx h
          refine a_callSNu X dX4_dissolve_30 miX7_put lm4_63 (zMu (c_put (by first | exact q_party | assumption) (by decide)) f_30) rfl rfl (Nat.le_of_ble_eq_true rfl) ⟨by decide, by decide, by decide, by decide⟩ ?_
          refine a_goto (tgt := 52) X dX4_dissolve_33 (by decide) ?_
          exact Zw.to2 (J_52 _ _ _ _ h) rfl rfl rfl
  have H_2 : ∀ (x1_2 : Int32) (x2_2 : Int32) (x3_2 : Option Value) (M_2 : zMt), D_X4_dissolve_2 Q zFu x1_2 x2_2 M_2 = some r → Zw p l e { frames := 1, cells := 0, slots := 0, locals := 80 * (1) } s m args below meth c G b 4 (MQ below (zQ G b FQ) args s 0 0 (fun q : Nat => b ≤ q)) 0 0 2 [some (.ref (Q)), some (.int x1_2), some (.int x2_2), x3_2] [] (L, M_2, N) := L_2 zFu
  unfold D_X4_dissolve at h
  refine a_iconst (v := 0) X dX4_dissolve_0 (by decide) ?_
  refine a_istore_n X dX4_dissolve_1 (by decide) ?_
  exact Zw.to2 (H_2 _ _ _ _ h) rfl rfl rfl
noncomputable def D_X5_hasFirst_34 (Q : Nat) (A : Nat) (M : zMt) (y0_34 : Int32) : Option (Int32) :=
  some (y0_34)
noncomputable def D_X5_hasFirst_33 (Q : Nat) (A : Nat) (M : zMt)  : Option (Int32) :=
  D_X5_hasFirst_34 Q A M (0 : Int32)
noncomputable def D_X5_hasFirst (Q : Nat) (A : Nat) (M : zMt) (v0 : Int32) : Option (Int32) :=
  if (zrd 0 (M (Q + 2)) 10 v0) = (-1 : Int32) then
    D_X5_hasFirst_33 Q A M
  else
    zB (D_X2_wish A M v0 (0 : Int32)) fun e_23 =>
    if (zrd 0 (M (Q + 2)) 10 v0) = e_23 then
      D_X5_hasFirst_34 Q A M (1 : Int32)
    else
      D_X5_hasFirst_33 Q A M
set_option maxRecDepth 100000 in
set_option maxHeartbeats 4000000 in
theorem t_X5_hasFirst {l : Launch} {G : zG} {b : Nat} {L : List zC} {M : zMt} {N : zNt} {Q : Nat} {A : Nat} {v0 : Int32} (hQ : LX5 L Q) (hA : LX2 L A) {r : Int32} (h : D_X5_hasFirst Q A M v0 = some r) : zM l G b yX5_hasFirst cX5_hasFirst 3 (some .boolean) 2 0 0 [.ref Q, .ref A, .int v0] (L, M, N) (fun r2 z => r2 = some (.int r) ∧ z = (L, M, N) ∧ (r = 0 ∨ r = 1)) := by
  refine zM.of miX5_hasFirst (Nat.le_of_ble_eq_true rfl) ?_
  intro p e s m args below meth c X hr hname
  generalize hF : ((fun r2 z => r2 = some (.int r) ∧ z = (L, M, N) ∧ (r = 0 ∨ r = 1)) : Option Value → zS → Prop) = FQ
  change Zw p l e { frames := 2, cells := 0, slots := 0, locals := 80 * (2) } s m args below meth c G b 3 (MQ below (zQ G b FQ) args s 0 0 (fun q : Nat => b ≤ q)) 0 0 0 [some (.ref Q), some (.ref A), some (.int v0)] [] (L, M, N)
  have q_lt := hQ.1
  have q_o := hQ.2.1
  have q_unitOf := hQ.2.2.2.1
  have a_lt := hA.1
  have a_o := hA.2.1
  have J_34 : ∀ (x2_34 : Int32) (y0_34 : Int32), (y0_34 = 0 ∨ y0_34 = 1) → D_X5_hasFirst_34 Q A M y0_34 = some r → Zw p l e { frames := 2, cells := 0, slots := 0, locals := 80 * (2) } s m args below meth c G b 3 (MQ below (zQ G b FQ) args s 0 0 (fun q : Nat => b ≤ q)) 0 0 34 [some (.ref (Q)), some (.ref (A)), some (.int x2_34)] [.int y0_34] (L, M, N) := by
    intro x2_34 y0_34 fb_y0_34 h
    unfold D_X5_hasFirst_34 at h
    refine a_zret X (by first | exact Or.inl rfl | exact Or.inr rfl | assumption) hr dX5_hasFirst_34 ⟨by decide, by decide⟩ ?_
    subst hF
    rw [← Option.some.inj h]
    exact ⟨rfl, rfl, (by first | exact Or.inl rfl | exact Or.inr rfl | assumption)⟩
  have J_33 : ∀ (x2_33 : Int32), D_X5_hasFirst_33 Q A M = some r → Zw p l e { frames := 2, cells := 0, slots := 0, locals := 80 * (2) } s m args below meth c G b 3 (MQ below (zQ G b FQ) args s 0 0 (fun q : Nat => b ≤ q)) 0 0 33 [some (.ref (Q)), some (.ref (A)), some (.int x2_33)] [] (L, M, N) := by
    intro x2_33 h
    unfold D_X5_hasFirst_33 at h
    refine a_iconst (v := 0) X dX5_hasFirst_33 (by decide) ?_
    exact Zw.to2 (J_34 _ _ (by first | exact Or.inl rfl | exact Or.inr rfl | assumption) h) rfl rfl rfl
  unfold D_X5_hasFirst at h
  refine a_aload_n X dX5_hasFirst_0 rfl ?_
  refine a_getr X lf5_15 (by first | exact q_o | assumption) rfl (by omega) dX5_hasFirst_1 ?_
  refine a_iload_n X dX5_hasFirst_4 rfl ?_
  refine a_callSNv X dX5_hasFirst_5 miX7_cell lm5_69 (c_cell (by first | exact q_unitOf | assumption) (by decide)) rfl rfl (Nat.le_of_ble_eq_true rfl) ⟨by decide, by decide, by decide, by decide⟩ ?_
  refine a_iconst (v := -1) X dX5_hasFirst_8 (by decide) ?_
  refine a_icmp_eq (tgt := 33) X dX5_hasFirst_9 (by decide) (fun h_9 => ?_) (fun h_9 => ?_)
  · replace h := (if_pos h_9).symm.trans h
    exact Zw.to2 (J_33 _ h) rfl rfl rfl
  · replace h := (if_neg h_9).symm.trans h
    refine a_aload_n X dX5_hasFirst_12 rfl ?_
    refine a_getr X lf5_15 (by first | exact q_o | assumption) rfl (by omega) dX5_hasFirst_13 ?_
    refine a_iload_n X dX5_hasFirst_16 rfl ?_
    refine a_callSNv X dX5_hasFirst_17 miX7_cell lm5_69 (c_cell (by first | exact q_unitOf | assumption) (by decide)) rfl rfl (Nat.le_of_ble_eq_true rfl) ⟨by decide, by decide, by decide, by decide⟩ ?_
    refine a_aload_n X dX5_hasFirst_20 rfl ?_
    refine a_iload_n X dX5_hasFirst_21 rfl ?_
    refine a_iconst (v := 0) X dX5_hasFirst_22 (by decide) ?_
    obtain ⟨e_23, f_23, h⟩ := zBx h
    refine a_callVv X dX5_hasFirst_23 miX2_wish lm5_98 (t_X2_wish (by first | exact hA | assumption) f_23) (by first | exact a_o | assumption) rfl rfl rfl (Nat.le_of_ble_eq_true rfl) ⟨by decide, by decide, by decide, by decide⟩ ?_
    refine a_icmp_ne (tgt := 33) X dX5_hasFirst_26 (by decide) (fun h_26 => ?_) (fun h_26 => ?_)
    · replace h := (if_neg h_26).symm.trans h
      exact Zw.to2 (J_33 _ h) rfl rfl rfl
    · replace h := (if_pos h_26).symm.trans h
      refine a_iconst (v := 1) X dX5_hasFirst_29 (by decide) ?_
      refine a_goto (tgt := 34) X dX5_hasFirst_30 (by decide) ?_
      exact Zw.to2 (J_34 _ _ (by first | exact Or.inl rfl | exact Or.inr rfl | assumption) h) rfl rfl rfl
noncomputable def D_X5_scoreBehind_48 (Q : Nat) (A : Nat) (M : zMt) (y0_48 : Int32) : Option (Int32) :=
  some (y0_48)
noncomputable def D_X5_scoreBehind (Q : Nat) (A : Nat) (M : zMt) (v0 : Int32) (v1 : Int32) : Option (Int32) :=
  if (zrd 0 (M (A + 11)) 10 v0) = 0 then
    some (v1)
  else
    if (zrd 0 (M (Q + 2)) 10 v0) = (-1 : Int32) then
      some ((if (20 : Int32) < (v1 + (1 : Int32)) then (20 : Int32) else (v1 + (1 : Int32))))
    else
      zB (D_X5_hasFirst Q A M v0) fun e_37 =>
      if e_37 = 0 then
        D_X5_scoreBehind_48 Q A M v1
      else
        D_X5_scoreBehind_48 Q A M (0 : Int32)
set_option maxRecDepth 100000 in
set_option maxHeartbeats 4000000 in
theorem t_X5_scoreBehind {l : Launch} {G : zG} {b : Nat} {L : List zC} {M : zMt} {N : zNt} {Q : Nat} {A : Nat} {v0 : Int32} {v1 : Int32} (hQ : LX5 L Q) (hA : LX2 L A) {r : Int32} (h : D_X5_scoreBehind Q A M v0 v1 = some r) : zM l G b yX5_scoreBehind cX5_scoreBehind 4 (some .int) 3 0 0 [.ref Q, .ref A, .int v0, .int v1] (L, M, N) (fun r2 z => r2 = some (.int r) ∧ z = (L, M, N)) := by
  refine zM.of miX5_scoreBehind (Nat.le_of_ble_eq_true rfl) ?_
  intro p e s m args below meth c X hr hname
  generalize hF : ((fun r2 z => r2 = some (.int r) ∧ z = (L, M, N)) : Option Value → zS → Prop) = FQ
  change Zw p l e { frames := 3, cells := 0, slots := 0, locals := 80 * (3) } s m args below meth c G b 4 (MQ below (zQ G b FQ) args s 0 0 (fun q : Nat => b ≤ q)) 0 0 0 [some (.ref Q), some (.ref A), some (.int v0), some (.int v1)] [] (L, M, N)
  have q_lt := hQ.1
  have q_o := hQ.2.1
  have q_unitOf := hQ.2.2.2.1
  have a_lt := hA.1
  have a_o := hA.2.1
  have a_wishCount := hA.2.2.2.2.2.2.2.2.2.2.2.2.1
  have J_48 : ∀ (x2_48 : Int32) (x3_48 : Int32) (y0_48 : Int32), D_X5_scoreBehind_48 Q A M y0_48 = some r → Zw p l e { frames := 3, cells := 0, slots := 0, locals := 80 * (3) } s m args below meth c G b 4 (MQ below (zQ G b FQ) args s 0 0 (fun q : Nat => b ≤ q)) 0 0 48 [some (.ref (Q)), some (.ref (A)), some (.int x2_48), some (.int x3_48)] [.int y0_48] (L, M, N) := by
    intro x2_48 x3_48 y0_48 h
    unfold D_X5_scoreBehind_48 at h
    refine a_iret X hr dX5_scoreBehind_48 ⟨by decide, by decide⟩ ?_
    subst hF
    rw [← Option.some.inj h]
    exact ⟨rfl, rfl⟩
  unfold D_X5_scoreBehind at h
  refine a_aload_n X dX5_scoreBehind_0 rfl ?_
  refine a_getr X lf5_119 (by first | exact a_o | assumption) rfl (by omega) dX5_scoreBehind_1 ?_
  refine a_iload_n X dX5_scoreBehind_4 rfl ?_
  refine a_callSNv X dX5_scoreBehind_5 miX7_cell lm5_69 (c_cell (by first | exact a_wishCount | assumption) (by decide)) rfl rfl (Nat.le_of_ble_eq_true rfl) ⟨by decide, by decide, by decide, by decide⟩ ?_
  refine a_if_ne (tgt := 13) X dX5_scoreBehind_8 (by decide) (fun h_8 => ?_) (fun h_8 => ?_)
  · replace h := (if_neg h_8).symm.trans h
    refine a_aload_n X dX5_scoreBehind_13 rfl ?_
    refine a_getr X lf5_15 (by first | exact q_o | assumption) rfl (by omega) dX5_scoreBehind_14 ?_
    refine a_iload_n X dX5_scoreBehind_17 rfl ?_
    refine a_callSNv X dX5_scoreBehind_18 miX7_cell lm5_69 (c_cell (by first | exact q_unitOf | assumption) (by decide)) rfl rfl (Nat.le_of_ble_eq_true rfl) ⟨by decide, by decide, by decide, by decide⟩ ?_
    refine a_iconst (v := -1) X dX5_scoreBehind_21 (by decide) ?_
    refine a_icmp_ne (tgt := 34) X dX5_scoreBehind_22 (by decide) (fun h_22 => ?_) (fun h_22 => ?_)
    · replace h := (if_neg h_22).symm.trans h
      refine a_aload_n X dX5_scoreBehind_34 rfl ?_
      refine a_aload_n X dX5_scoreBehind_35 rfl ?_
      refine a_iload_n X dX5_scoreBehind_36 rfl ?_
      obtain ⟨e_37, f_37, h⟩ := zBx h
      refine a_callVx X dX5_scoreBehind_37 miX5_hasFirst lm5_133 (t_X5_hasFirst (by first | exact hQ | assumption) (by first | exact hA | assumption) f_37) (by first | exact q_o | assumption) rfl rfl rfl (Nat.le_of_ble_eq_true rfl) ⟨by decide, by decide, by decide, by decide⟩ (fun r_37 S_37 q_37 => ?_)
      obtain ⟨rfl, rfl, b_37⟩ := q_37
      refine a_if_eq (tgt := 47) X dX5_scoreBehind_40 (by decide) (fun h_40 => ?_) (fun h_40 => ?_)
      · replace h := (if_pos h_40).symm.trans h
        refine a_iload_n X dX5_scoreBehind_47 rfl ?_
        exact Zw.to2 (J_48 _ _ _ h) rfl rfl rfl
      · replace h := (if_neg h_40).symm.trans h
        refine a_iconst (v := 0) X dX5_scoreBehind_43 (by decide) ?_
        refine a_goto (tgt := 48) X dX5_scoreBehind_44 (by decide) ?_
        exact Zw.to2 (J_48 _ _ _ h) rfl rfl rfl
    · replace h := (if_pos h_22).symm.trans h
      refine a_iload_n X dX5_scoreBehind_25 rfl ?_
      refine a_iconst (v := 1) X dX5_scoreBehind_26 (by decide) ?_
      refine a_iadd X dX5_scoreBehind_27 ?_
      refine a_bipush (v := 20) X dX5_scoreBehind_28 (by decide) ?_
      refine a_mmin X lm5_128 zmath2 zmath0 zmathc2 ⟨by decide, Nat.le_of_ble_eq_true rfl, by decide, by decide⟩ dX5_scoreBehind_30 ?_
      refine a_iret X hr dX5_scoreBehind_33 ⟨by decide, by decide⟩ ?_
      subst hF
      rw [← Option.some.inj h]
      exact ⟨rfl, rfl⟩
  · replace h := (if_pos h_8).symm.trans h
    refine a_iload_n X dX5_scoreBehind_11 rfl ?_
    refine a_iret X hr dX5_scoreBehind_12 ⟨by decide, by decide⟩ ?_
    subst hF
    rw [← Option.some.inj h]
    exact ⟨rfl, rfl⟩
noncomputable def D_X4_live_2 (Q : Nat) (A : Nat) (B : Nat) : Nat → Int32 → zMt → Option (zMt)
  | 0, _, _ => none
  | n + 1, x3_2, M_2 =>
    if (M_2 Q 1) ≤ x3_2 then
      some (M_2)
    else
      zB (D_X5_scoreBehind B A M_2 (zrd 0 (M_2 (A + 4)) 10 x3_2) (zrd 0 (M_2 (Q + 2)) 10 x3_2)) fun e_37 =>
      zLt (zwr M_2 (Q + 2) 10 x3_2 e_37) fun M_40 =>
      zLt (zwr M_40 (Q + 7) 10 x3_2 (zrd 0 (M_40 (B + 2)) 10 (zrd 0 (M_2 (A + 4)) 10 x3_2))) fun M_57 =>
      (D_X4_live_2 Q A B n) (x3_2 + 1) M_57
noncomputable def D_X4_live (Q : Nat) (A : Nat) (B : Nat) (M : zMt) : Option (zMt) :=
  D_X4_live_2 Q A B zFu (0 : Int32) M
set_option maxRecDepth 100000 in
set_option maxHeartbeats 4000000 in
theorem t_X4_live {l : Launch} {G : zG} {b : Nat} {L : List zC} {M : zMt} {N : zNt} {Q : Nat} {A : Nat} {B : Nat}  (hQ : LX4 L Q) (hA : LX2 L A) (hB : LX5 L B) {r : zMt} (h : D_X4_live Q A B M = some r) : zM l G b yX4_live cX4_live 5 none 4 0 0 [.ref Q, .ref A, .ref B] (L, M, N) (fun r2 z => r2 = none ∧ z = (L, r, N)) := by
  refine zM.of miX4_live (Nat.le_of_ble_eq_true rfl) ?_
  intro p e s m args below meth c X hr hname
  generalize hF : ((fun r2 z => r2 = none ∧ z = (L, r, N)) : Option Value → zS → Prop) = FQ
  change Zw p l e { frames := 4, cells := 0, slots := 0, locals := 80 * (4) } s m args below meth c G b 5 (MQ below (zQ G b FQ) args s 0 0 (fun q : Nat => b ≤ q)) 0 0 0 [some (.ref Q), some (.ref A), some (.ref B), none, none] [] (L, M, N)
  have q_lt := hQ.1
  have q_o := hQ.2.1
  have q_score := hQ.2.2.2.1
  have q_has := hQ.2.2.2.2.2.2.2.2
  have a_lt := hA.1
  have a_o := hA.2.1
  have a_applicantOf := hA.2.2.2.2.2.1
  have b_lt := hB.1
  have b_o := hB.2.1
  have b_unitOf := hB.2.2.2.1
  have L_2 : ∀ u : Nat, ∀ (x3_2 : Int32) (x4_2 : Option Value) (M_2 : zMt), D_X4_live_2 Q A B u x3_2 M_2 = some r → Zw p l e { frames := 4, cells := 0, slots := 0, locals := 80 * (4) } s m args below meth c G b 5 (MQ below (zQ G b FQ) args s 0 0 (fun q : Nat => b ≤ q)) 0 0 2 [some (.ref (Q)), some (.ref (A)), some (.ref (B)), some (.int x3_2), x4_2] [] (L, M_2, N) := by
    intro u
    induction u with
    | zero => intro x3_2 x4_2 M_2 h; cases (show none = some r from h)
    | succ u_2 ih_2 =>
      intro x3_2 x4_2 M_2 h
      rw [D_X4_live_2] at h
      refine a_iload_n X dX4_live_2 rfl ?_
      refine a_aload_n X dX4_live_3 rfl ?_
      refine a_geti X lf4_37 (by first | exact q_o | assumption) rfl dX4_live_4 ?_
      refine a_icmp_ge (tgt := 66) X dX4_live_7 (by decide) (fun h_7 => ?_) (fun h_7 => ?_)
      · replace h := (if_pos h_7).symm.trans h
        refine a_vret X hr dX4_live_66 ⟨by decide, by decide⟩ ?_
        subst hF
        rw [← Option.some.inj h]
        exact ⟨rfl, rfl⟩
      · replace h := (if_neg h_7).symm.trans h
        refine a_aload_n X dX4_live_10 rfl ?_
        refine a_getr X lf4_79 (by first | exact a_o | assumption) rfl (by omega) dX4_live_11 ?_
        refine a_iload_n X dX4_live_14 rfl ?_
        refine a_callSNv X dX4_live_15 miX7_cell lm4_67 (c_cell (by first | exact a_applicantOf | assumption) (by decide)) rfl rfl (Nat.le_of_ble_eq_true rfl) ⟨by decide, by decide, by decide, by decide⟩ ?_
        refine a_istore X dX4_live_18 (by decide) ?_
        refine a_aload_n X dX4_live_20 rfl ?_
        refine a_getr X lf4_15 (by first | exact q_o | assumption) rfl (by omega) dX4_live_21 ?_
        refine a_iload_n X dX4_live_24 rfl ?_
        refine a_aload_n X dX4_live_25 rfl ?_
        refine a_aload_n X dX4_live_26 rfl ?_
        refine a_iload X dX4_live_27 rfl ?_
        refine a_aload_n X dX4_live_29 rfl ?_
        refine a_getr X lf4_15 (by first | exact q_o | assumption) rfl (by omega) dX4_live_30 ?_
        refine a_iload_n X dX4_live_33 rfl ?_
        refine a_callSNv X dX4_live_34 miX7_cell lm4_67 (c_cell (by first | exact q_score | assumption) (by decide)) rfl rfl (Nat.le_of_ble_eq_true rfl) ⟨by decide, by decide, by decide, by decide⟩ ?_
        obtain ⟨e_37, f_37, h⟩ := zBx h
        refine a_callVv X dX4_live_37 miX5_scoreBehind lm4_84 (t_X5_scoreBehind (by first | exact hB | assumption) (by first | exact hA | assumption) f_37) (by first | exact b_o | assumption) rfl rfl rfl (Nat.le_of_ble_eq_true rfl) ⟨by decide, by decide, by decide, by decide⟩ ?_
        obtain ⟨M_40, f_40, h⟩ := zLtx h
        refine a_callSNu X dX4_live_40 miX7_put lm4_63 (zMu (c_put (by first | exact q_score | assumption) (by decide)) f_40) rfl rfl (Nat.le_of_ble_eq_true rfl) ⟨by decide, by decide, by decide, by decide⟩ ?_
        refine a_aload_n X dX4_live_43 rfl ?_
        refine a_getr X lf4_30 (by first | exact q_o | assumption) rfl (by omega) dX4_live_44 ?_
        refine a_iload_n X dX4_live_47 rfl ?_
        refine a_aload_n X dX4_live_48 rfl ?_
        refine a_getr X lf4_90 (by first | exact b_o | assumption) rfl (by omega) dX4_live_49 ?_
        refine a_iload X dX4_live_52 rfl ?_
        refine a_callSNv X dX4_live_54 miX7_cell lm4_67 (c_cell (by first | exact b_unitOf | assumption) (by decide)) rfl rfl (Nat.le_of_ble_eq_true rfl) ⟨by decide, by decide, by decide, by decide⟩ ?_
        obtain ⟨M_57, f_57, h⟩ := zLtx h
        refine a_callSNu X dX4_live_57 miX7_put lm4_63 (zMu (c_put (by first | exact q_has | assumption) (by decide)) f_57) rfl rfl (Nat.le_of_ble_eq_true rfl) ⟨by decide, by decide, by decide, by decide⟩ ?_
        refine a_iinc (v := x3_2 + 1) X dX4_live_60 (by decide) rfl zi_1 ?_
        refine a_goto (tgt := 2) X dX4_live_63 (by decide) ?_
        exact Zw.to2 (ih_2 _ _ _ h) rfl rfl rfl
  have H_2 : ∀ (x3_2 : Int32) (x4_2 : Option Value) (M_2 : zMt), D_X4_live_2 Q A B zFu x3_2 M_2 = some r → Zw p l e { frames := 4, cells := 0, slots := 0, locals := 80 * (4) } s m args below meth c G b 5 (MQ below (zQ G b FQ) args s 0 0 (fun q : Nat => b ≤ q)) 0 0 2 [some (.ref (Q)), some (.ref (A)), some (.ref (B)), some (.int x3_2), x4_2] [] (L, M_2, N) := L_2 zFu
  unfold D_X4_live at h
  refine a_iconst (v := 0) X dX4_live_0 (by decide) ?_
  refine a_istore_n X dX4_live_1 (by decide) ?_
  exact Zw.to2 (H_2 _ _ _ h) rfl rfl rfl
noncomputable def D_X5_holderOf_44 (Q : Nat) (M : zMt) (k5 : Int32 → Int32 → Int32 → Int32 → Option (Int32)) (x1_44 : Int32) (x2_44 : Int32) (x3_44 : Int32) (x4_44 : Int32) : Option (Int32) :=
  k5 x1_44 x2_44 x3_44 (x4_44 + 1)
noncomputable def D_X5_holderOf_5 (Q : Nat) (M : zMt) : Nat → Int32 → Int32 → Int32 → Int32 → Option (Int32)
  | 0, _, _, _, _ => none
  | n + 1, x1_5, x2_5, x3_5, x4_5 =>
    if (M Q 1) ≤ x4_5 then
      some ((0 : Int32))
    else
      if ((x1_5 >>> (x4_5 &&& 31)) &&& (1 : Int32)) = (1 : Int32) then
        if (x3_5 + (zrd 0 (M (Q + 8)) 10 x4_5)) ≤ x2_5 then
          D_X5_holderOf_44 Q M (D_X5_holderOf_5 Q M n) x1_5 x2_5 (x3_5 + (zrd 0 (M (Q + 8)) 10 x4_5)) x4_5
        else
          some (x4_5)
      else
        D_X5_holderOf_44 Q M (D_X5_holderOf_5 Q M n) x1_5 x2_5 x3_5 x4_5
noncomputable def D_X5_holderOf (Q : Nat) (M : zMt) (v0 : Int32) (v1 : Int32) : Option (Int32) :=
  D_X5_holderOf_5 Q M zFu v0 v1 (0 : Int32) (0 : Int32)
set_option maxRecDepth 100000 in
set_option maxHeartbeats 4000000 in
theorem t_X5_holderOf {l : Launch} {G : zG} {b : Nat} {L : List zC} {M : zMt} {N : zNt} {Q : Nat} {v0 : Int32} {v1 : Int32} (hQ : LX2 L Q) {r : Int32} (h : D_X5_holderOf Q M v0 v1 = some r) : zM l G b yX5_holderOf cX5_holderOf 5 (some .int) 1 0 0 [.ref Q, .int v0, .int v1] (L, M, N) (fun r2 z => r2 = some (.int r) ∧ z = (L, M, N)) := by
  refine zM.of miX5_holderOf (Nat.le_of_ble_eq_true rfl) ?_
  intro p e s m args below meth c X hr hname
  generalize hF : ((fun r2 z => r2 = some (.int r) ∧ z = (L, M, N)) : Option Value → zS → Prop) = FQ
  change Zw p l e { frames := 1, cells := 0, slots := 0, locals := 80 * (1) } s m args below meth c G b 5 (MQ below (zQ G b FQ) args s 0 0 (fun q : Nat => b ≤ q)) 0 0 0 [some (.ref Q), some (.int v0), some (.int v1), none, none] [] (L, M, N)
  have q_lt := hQ.1
  have q_o := hQ.2.1
  have q_tickets := hQ.2.2.2.2.2.2.2.2.2.1
  have L_5 : ∀ u : Nat, ∀ (x1_5 : Int32) (x2_5 : Int32) (x3_5 : Int32) (x4_5 : Int32), D_X5_holderOf_5 Q M u x1_5 x2_5 x3_5 x4_5 = some r → Zw p l e { frames := 1, cells := 0, slots := 0, locals := 80 * (1) } s m args below meth c G b 5 (MQ below (zQ G b FQ) args s 0 0 (fun q : Nat => b ≤ q)) 0 0 5 [some (.ref (Q)), some (.int x1_5), some (.int x2_5), some (.int x3_5), some (.int x4_5)] [] (L, M, N) := by
    intro u
    induction u with
    | zero => intro x1_5 x2_5 x3_5 x4_5 h; cases (show none = some r from h)
    | succ u_5 ih_5 =>
      have J_44 : ∀ (x1_44 : Int32) (x2_44 : Int32) (x3_44 : Int32) (x4_44 : Int32), D_X5_holderOf_44 Q M (D_X5_holderOf_5 Q M u_5) x1_44 x2_44 x3_44 x4_44 = some r → Zw p l e { frames := 1, cells := 0, slots := 0, locals := 80 * (1) } s m args below meth c G b 5 (MQ below (zQ G b FQ) args s 0 0 (fun q : Nat => b ≤ q)) 0 0 44 [some (.ref (Q)), some (.int x1_44), some (.int x2_44), some (.int x3_44), some (.int x4_44)] [] (L, M, N) := by
        intro x1_44 x2_44 x3_44 x4_44 h
        unfold D_X5_holderOf_44 at h
        refine a_iinc (v := x4_44 + 1) X dX5_holderOf_44 (by decide) rfl zi_1 ?_
        refine a_goto (tgt := 5) X dX5_holderOf_47 (by decide) ?_
        exact Zw.to2 (ih_5 _ _ _ _ h) rfl rfl rfl
      intro x1_5 x2_5 x3_5 x4_5 h
      rw [D_X5_holderOf_5] at h
      refine a_iload X dX5_holderOf_5 rfl ?_
      refine a_aload_n X dX5_holderOf_7 rfl ?_
      refine a_geti X lf5_47 (by first | exact q_o | assumption) rfl dX5_holderOf_8 ?_
      refine a_icmp_ge (tgt := 50) X dX5_holderOf_11 (by decide) (fun h_11 => ?_) (fun h_11 => ?_)
      · replace h := (if_pos h_11).symm.trans h
        refine a_iconst (v := 0) X dX5_holderOf_50 (by decide) ?_
        refine a_iret X hr dX5_holderOf_51 ⟨by decide, by decide⟩ ?_
        subst hF
        rw [← Option.some.inj h]
        exact ⟨rfl, rfl⟩
      · replace h := (if_neg h_11).symm.trans h
        refine a_iload_n X dX5_holderOf_14 rfl ?_
        refine a_iload X dX5_holderOf_15 rfl ?_
        refine a_ishr X dX5_holderOf_17 ?_
        refine a_iconst (v := 1) X dX5_holderOf_18 (by decide) ?_
        refine a_iand X dX5_holderOf_19 ?_
        refine a_iconst (v := 1) X dX5_holderOf_20 (by decide) ?_
        refine a_icmp_ne (tgt := 44) X dX5_holderOf_21 (by decide) (fun h_21 => ?_) (fun h_21 => ?_)
        · replace h := (if_neg h_21).symm.trans h
          exact Zw.to2 (J_44 _ _ _ _ h) rfl rfl rfl
        · replace h := (if_pos h_21).symm.trans h
          refine a_iload_n X dX5_holderOf_24 rfl ?_
          refine a_aload_n X dX5_holderOf_25 rfl ?_
          refine a_getr X lf5_66 (by first | exact q_o | assumption) rfl (by omega) dX5_holderOf_26 ?_
          refine a_iload X dX5_holderOf_29 rfl ?_
          refine a_callSNv X dX5_holderOf_31 miX7_cell lm5_69 (c_cell (by first | exact q_tickets | assumption) (by decide)) rfl rfl (Nat.le_of_ble_eq_true rfl) ⟨by decide, by decide, by decide, by decide⟩ ?_
          refine a_iadd X dX5_holderOf_34 ?_
          refine a_istore_n X dX5_holderOf_35 (by decide) ?_
          refine a_iload_n X dX5_holderOf_36 rfl ?_
          refine a_iload_n X dX5_holderOf_37 rfl ?_
          refine a_icmp_le (tgt := 44) X dX5_holderOf_38 (by decide) (fun h_38 => ?_) (fun h_38 => ?_)
          · replace h := (if_pos h_38).symm.trans h
            exact Zw.to2 (J_44 _ _ _ _ h) rfl rfl rfl
          · replace h := (if_neg h_38).symm.trans h
            refine a_iload X dX5_holderOf_41 rfl ?_
            refine a_iret X hr dX5_holderOf_43 ⟨by decide, by decide⟩ ?_
            subst hF
            rw [← Option.some.inj h]
            exact ⟨rfl, rfl⟩
  have H_5 : ∀ (x1_5 : Int32) (x2_5 : Int32) (x3_5 : Int32) (x4_5 : Int32), D_X5_holderOf_5 Q M zFu x1_5 x2_5 x3_5 x4_5 = some r → Zw p l e { frames := 1, cells := 0, slots := 0, locals := 80 * (1) } s m args below meth c G b 5 (MQ below (zQ G b FQ) args s 0 0 (fun q : Nat => b ≤ q)) 0 0 5 [some (.ref (Q)), some (.int x1_5), some (.int x2_5), some (.int x3_5), some (.int x4_5)] [] (L, M, N) := L_5 zFu
  unfold D_X5_holderOf at h
  refine a_iconst (v := 0) X dX5_holderOf_0 (by decide) ?_
  refine a_istore_n X dX5_holderOf_1 (by decide) ?_
  refine a_iconst (v := 0) X dX5_holderOf_2 (by decide) ?_
  refine a_istore X dX5_holderOf_3 (by decide) ?_
  exact Zw.to2 (H_5 _ _ _ _ h) rfl rfl rfl
noncomputable def D_X5_lineUp_110 (Q : Nat) (A : Nat) (M_110 : zMt) : Option (zMt) :=
  some (M_110)
noncomputable def D_X5_lineUp_22 (Q : Nat) (A : Nat) : Nat → Int64 → Int32 → Int32 → Int32 → zMt → Option (zMt)
  | 0, _, _, _, _, _ => none
  | n + 1, x3_22, x5_22, x6_22, x7_22, M_22 =>
    if (M_22 A 1) ≤ x7_22 then
      D_X5_lineUp_110 Q A M_22
    else
      if x5_22 ≤ 0 then
        D_X5_lineUp_110 Q A M_22
      else
        zZl (Int32.toInt64 x5_22) <|
        zB (D_X5_holderOf A M_22 x6_22 (Int64.toInt32 ((((((1103515245 : Int64) * x3_22) + (12345 : Int64)) - (((1103515245 : Int64) * x3_22) + (12345 : Int64)) / (2147483648 : Int64) * (2147483648 : Int64)) / (65536 : Int64)) - (((((1103515245 : Int64) * x3_22) + (12345 : Int64)) - (((1103515245 : Int64) * x3_22) + (12345 : Int64)) / (2147483648 : Int64) * (2147483648 : Int64)) / (65536 : Int64)) / (Int32.toInt64 x5_22) * (Int32.toInt64 x5_22)))) fun e_63 =>
        zLt (zwr M_22 (Q + 1) 10 x7_22 e_63) fun M_76 =>
        (D_X5_lineUp_22 Q A n) ((((1103515245 : Int64) * x3_22) + (12345 : Int64)) - (((1103515245 : Int64) * x3_22) + (12345 : Int64)) / (2147483648 : Int64) * (2147483648 : Int64)) (x5_22 - (zrd 0 (M_76 (A + 8)) 10 e_63)) (x6_22 &&& (((1 : Int32) <<< (e_63 &&& 31)) ^^^ (-1 : Int32))) (x7_22 + 1) M_76
noncomputable def D_X5_lineUp (Q : Nat) (A : Nat) (v0 : Int32) (M : zMt) : Option (zMt) :=
  D_X5_lineUp_22 Q A zFu (Int32.toInt64 v0) (M A 2) (((1 : Int32) <<< ((M A 1) &&& 31)) - (1 : Int32)) (0 : Int32) M
set_option maxRecDepth 100000 in
set_option maxHeartbeats 4000000 in
theorem t_X5_lineUp {l : Launch} {G : zG} {b : Nat} {L : List zC} {M : zMt} {N : zNt} {Q : Nat} {A : Nat} {v0 : Int32} (hQ : LX5 L Q) (hA : LX2 L A) {r : zMt} (h : D_X5_lineUp Q A v0 M = some r) : zM l G b yX5_lineUp cX5_lineUp 9 none 2 0 0 [.ref Q, .ref A, .int v0] (L, M, N) (fun r2 z => r2 = none ∧ z = (L, r, N)) := by
  refine zM.of miX5_lineUp (Nat.le_of_ble_eq_true rfl) ?_
  intro p e s m args below meth c X hr hname
  generalize hF : ((fun r2 z => r2 = none ∧ z = (L, r, N)) : Option Value → zS → Prop) = FQ
  change Zw p l e { frames := 2, cells := 0, slots := 0, locals := 80 * (2) } s m args below meth c G b 9 (MQ below (zQ G b FQ) args s 0 0 (fun q : Nat => b ≤ q)) 0 0 0 [some (.ref Q), some (.ref A), some (.int v0), none, none, none, none, none, none] [] (L, M, N)
  have q_lt := hQ.1
  have q_o := hQ.2.1
  have q_line := hQ.2.2.1
  have a_lt := hA.1
  have a_o := hA.2.1
  have a_tickets := hA.2.2.2.2.2.2.2.2.2.1
  have J_110 : ∀ (x2_110 : Int32) (x3_110 : Int64) (x5_110 : Int32) (x6_110 : Int32) (x7_110 : Int32) (x8_110 : Option Value) (M_110 : zMt), D_X5_lineUp_110 Q A M_110 = some r → Zw p l e { frames := 2, cells := 0, slots := 0, locals := 80 * (2) } s m args below meth c G b 9 (MQ below (zQ G b FQ) args s 0 0 (fun q : Nat => b ≤ q)) 0 0 110 [some (.ref (Q)), some (.ref (A)), some (.int x2_110), some (.long x3_110), none, some (.int x5_110), some (.int x6_110), some (.int x7_110), x8_110] [] (L, M_110, N) := by
    intro x2_110 x3_110 x5_110 x6_110 x7_110 x8_110 M_110 h
    unfold D_X5_lineUp_110 at h
    refine a_vret X hr dX5_lineUp_110 ⟨by decide, by decide⟩ ?_
    subst hF
    rw [← Option.some.inj h]
    exact ⟨rfl, rfl⟩
  have L_22 : ∀ u : Nat, ∀ (x2_22 : Int32) (x3_22 : Int64) (x5_22 : Int32) (x6_22 : Int32) (x7_22 : Int32) (x8_22 : Option Value) (M_22 : zMt), D_X5_lineUp_22 Q A u x3_22 x5_22 x6_22 x7_22 M_22 = some r → Zw p l e { frames := 2, cells := 0, slots := 0, locals := 80 * (2) } s m args below meth c G b 9 (MQ below (zQ G b FQ) args s 0 0 (fun q : Nat => b ≤ q)) 0 0 22 [some (.ref (Q)), some (.ref (A)), some (.int x2_22), some (.long x3_22), none, some (.int x5_22), some (.int x6_22), some (.int x7_22), x8_22] [] (L, M_22, N) := by
    intro u
    induction u with
    | zero => intro x2_22 x3_22 x5_22 x6_22 x7_22 x8_22 M_22 h; cases (show none = some r from h)
    | succ u_22 ih_22 =>
      intro x2_22 x3_22 x5_22 x6_22 x7_22 x8_22 M_22 h
      rw [D_X5_lineUp_22] at h
      refine a_iload X dX5_lineUp_22 rfl ?_
      refine a_aload_n X dX5_lineUp_24 rfl ?_
      refine a_geti X lf5_47 (by first | exact a_o | assumption) rfl dX5_lineUp_25 ?_
      refine a_icmp_ge (tgt := 110) X dX5_lineUp_28 (by decide) (fun h_28 => ?_) (fun h_28 => ?_)
      · replace h := (if_pos h_28).symm.trans h
        exact Zw.to2 (J_110 _ _ _ _ _ _ _ h) rfl rfl rfl
      · replace h := (if_neg h_28).symm.trans h
        refine a_iload X dX5_lineUp_31 rfl ?_
        refine a_if_le (tgt := 110) X dX5_lineUp_33 (by decide) (fun h_33 => ?_) (fun h_33 => ?_)
        · replace h := (if_pos h_33).symm.trans h
          exact Zw.to2 (J_110 _ _ _ _ _ _ _ h) rfl rfl rfl
        · replace h := (if_neg h_33).symm.trans h
          refine a_ldc2 X dX5_lineUp_36 lk5_50 ?_
          refine a_lload_n X dX5_lineUp_39 rfl ?_
          refine a_lmul X dX5_lineUp_40 ?_
          refine a_ldc2 X dX5_lineUp_41 lk5_52 ?_
          refine a_ladd X dX5_lineUp_44 ?_
          refine a_ldc2 X dX5_lineUp_45 lk5_54 ?_
          refine a_lrem X dX5_lineUp_48 (by decide) ?_
          refine a_lstore_n X dX5_lineUp_49 (by decide) ?_
          refine a_aload_n X dX5_lineUp_50 rfl ?_
          refine a_iload X dX5_lineUp_51 rfl ?_
          refine a_lload_n X dX5_lineUp_53 rfl ?_
          refine a_ldc2 X dX5_lineUp_54 lk5_56 ?_
          refine a_ldiv X dX5_lineUp_57 (by decide) ?_
          refine a_iload X dX5_lineUp_58 rfl ?_
          refine a_i2l X dX5_lineUp_60 ?_
          obtain ⟨z_61, h⟩ := zZlx h
          refine a_lrem X dX5_lineUp_61 (z_61) ?_
          refine a_l2i X dX5_lineUp_62 ?_
          obtain ⟨e_63, f_63, h⟩ := zBx h
          refine a_callSv X dX5_lineUp_63 miX5_holderOf lm5_58 (t_X5_holderOf (by first | exact hA | assumption) f_63) rfl rfl (Nat.le_of_ble_eq_true rfl) ⟨by decide, by decide, by decide, by decide⟩ ?_
          refine a_istore X dX5_lineUp_66 (by decide) ?_
          refine a_aload_n X dX5_lineUp_68 rfl ?_
          refine a_getr X lf5_9 (by first | exact q_o | assumption) rfl (by omega) dX5_lineUp_69 ?_
          refine a_iload X dX5_lineUp_72 rfl ?_
          refine a_iload X dX5_lineUp_74 rfl ?_
          obtain ⟨M_76, f_76, h⟩ := zLtx h
          refine a_callSNu X dX5_lineUp_76 miX7_put lm5_62 (zMu (c_put (by first | exact q_line | assumption) (by decide)) f_76) rfl rfl (Nat.le_of_ble_eq_true rfl) ⟨by decide, by decide, by decide, by decide⟩ ?_
          refine a_iload X dX5_lineUp_79 rfl ?_
          refine a_iconst (v := 1) X dX5_lineUp_81 (by decide) ?_
          refine a_iload X dX5_lineUp_82 rfl ?_
          refine a_ishl X dX5_lineUp_84 ?_
          refine a_iconst (v := -1) X dX5_lineUp_85 (by decide) ?_
          refine a_ixor X dX5_lineUp_86 ?_
          refine a_iand X dX5_lineUp_87 ?_
          refine a_istore X dX5_lineUp_88 (by decide) ?_
          refine a_iload X dX5_lineUp_90 rfl ?_
          refine a_aload_n X dX5_lineUp_92 rfl ?_
          refine a_getr X lf5_66 (by first | exact a_o | assumption) rfl (by omega) dX5_lineUp_93 ?_
          refine a_iload X dX5_lineUp_96 rfl ?_
          refine a_callSNv X dX5_lineUp_98 miX7_cell lm5_69 (c_cell (by first | exact a_tickets | assumption) (by decide)) rfl rfl (Nat.le_of_ble_eq_true rfl) ⟨by decide, by decide, by decide, by decide⟩ ?_
          refine a_isub X dX5_lineUp_101 ?_
          refine a_istore X dX5_lineUp_102 (by decide) ?_
          refine a_iinc (v := x7_22 + 1) X dX5_lineUp_104 (by decide) rfl zi_1 ?_
          refine a_goto (tgt := 22) X dX5_lineUp_107 (by decide) ?_
          exact Zw.to2 (ih_22 _ _ _ _ _ _ _ h) rfl rfl rfl
  have H_22 : ∀ (x2_22 : Int32) (x3_22 : Int64) (x5_22 : Int32) (x6_22 : Int32) (x7_22 : Int32) (x8_22 : Option Value) (M_22 : zMt), D_X5_lineUp_22 Q A zFu x3_22 x5_22 x6_22 x7_22 M_22 = some r → Zw p l e { frames := 2, cells := 0, slots := 0, locals := 80 * (2) } s m args below meth c G b 9 (MQ below (zQ G b FQ) args s 0 0 (fun q : Nat => b ≤ q)) 0 0 22 [some (.ref (Q)), some (.ref (A)), some (.int x2_22), some (.long x3_22), none, some (.int x5_22), some (.int x6_22), some (.int x7_22), x8_22] [] (L, M_22, N) := L_22 zFu
  unfold D_X5_lineUp at h
  refine a_iload_n X dX5_lineUp_0 rfl ?_
  refine a_i2l X dX5_lineUp_1 ?_
  refine a_lstore_n X dX5_lineUp_2 (by decide) ?_
  refine a_aload_n X dX5_lineUp_3 rfl ?_
  refine a_geti X lf5_41 (by first | exact a_o | assumption) rfl dX5_lineUp_4 ?_
  refine a_istore X dX5_lineUp_7 (by decide) ?_
  refine a_iconst (v := 1) X dX5_lineUp_9 (by decide) ?_
  refine a_aload_n X dX5_lineUp_10 rfl ?_
  refine a_geti X lf5_47 (by first | exact a_o | assumption) rfl dX5_lineUp_11 ?_
  refine a_ishl X dX5_lineUp_14 ?_
  refine a_iconst (v := 1) X dX5_lineUp_15 (by decide) ?_
  refine a_isub X dX5_lineUp_16 ?_
  refine a_istore X dX5_lineUp_17 (by decide) ?_
  refine a_iconst (v := 0) X dX5_lineUp_19 (by decide) ?_
  refine a_istore X dX5_lineUp_20 (by decide) ?_
  exact Zw.to2 (H_22 _ _ _ _ _ _ _ h) rfl rfl rfl
noncomputable def D_X5_bySeed (Q : Nat) (A : Nat) (v0 : Int32) (M : zMt) : Option (zMt) :=
  zB (D_X5_lineUp Q A v0 M) fun e_3 =>
  zB (D_X5_settle Q A e_3) fun e_8 =>
  some (e_8)
set_option maxRecDepth 100000 in
set_option maxHeartbeats 4000000 in
theorem t_X5_bySeed {l : Launch} {G : zG} {b : Nat} {L : List zC} {M : zMt} {N : zNt} {Q : Nat} {A : Nat} {v0 : Int32} (hQ : LX5 L Q) (hA : LX2 L A) {r : zMt} (h : D_X5_bySeed Q A v0 M = some r) : zM l G b yX5_bySeed cX5_bySeed 3 none 4 0 0 [.ref Q, .ref A, .int v0] (L, M, N) (fun r2 z => r2 = none ∧ z = (L, r, N)) := by
  refine zM.of miX5_bySeed (Nat.le_of_ble_eq_true rfl) ?_
  intro p e s m args below meth c X hr hname
  generalize hF : ((fun r2 z => r2 = none ∧ z = (L, r, N)) : Option Value → zS → Prop) = FQ
  change Zw p l e { frames := 4, cells := 0, slots := 0, locals := 80 * (4) } s m args below meth c G b 3 (MQ below (zQ G b FQ) args s 0 0 (fun q : Nat => b ≤ q)) 0 0 0 [some (.ref Q), some (.ref A), some (.int v0)] [] (L, M, N)
  have q_lt := hQ.1
  have q_o := hQ.2.1
  have a_lt := hA.1
  have a_o := hA.2.1
  unfold D_X5_bySeed at h
  refine a_aload_n X dX5_bySeed_0 rfl ?_
  refine a_aload_n X dX5_bySeed_1 rfl ?_
  refine a_iload_n X dX5_bySeed_2 rfl ?_
  obtain ⟨e_3, f_3, h⟩ := zBx h
  refine a_callVu X dX5_bySeed_3 miX5_lineUp lm5_33 (t_X5_lineUp (by first | exact hQ | assumption) (by first | exact hA | assumption) f_3) (by first | exact q_o | assumption) rfl rfl rfl (Nat.le_of_ble_eq_true rfl) ⟨by decide, by decide, by decide, by decide⟩ ?_
  refine a_aload_n X dX5_bySeed_6 rfl ?_
  refine a_aload_n X dX5_bySeed_7 rfl ?_
  obtain ⟨e_8, f_8, h⟩ := zBx h
  refine a_callVu X dX5_bySeed_8 miX5_settle lm5_37 (t_X5_settle (by first | exact hQ | assumption) (by first | exact hA | assumption) f_8) (by first | exact q_o | assumption) rfl rfl rfl (Nat.le_of_ble_eq_true rfl) ⟨by decide, by decide, by decide, by decide⟩ ?_
  refine a_vret X hr dX5_bySeed_11 ⟨by decide, by decide⟩ ?_
  subst hF
  rw [← Option.some.inj h]
  exact ⟨rfl, rfl⟩
noncomputable def D_X5_rankHeld_24 (Q : Nat) (A : Nat) (M : zMt) (y0_24 : Int32) : Option (Int32) :=
  some (y0_24)
noncomputable def D_X5_rankHeld (Q : Nat) (A : Nat) (M : zMt) (v0 : Int32) : Option (Int32) :=
  zB (D_X2_rankOf A M v0 (zrd 0 (M (Q + 2)) 10 v0)) fun e_10 =>
  if e_10 = (-1 : Int32) then
    D_X5_rankHeld_24 Q A M (3 : Int32)
  else
    D_X5_rankHeld_24 Q A M e_10
set_option maxRecDepth 100000 in
set_option maxHeartbeats 4000000 in
theorem t_X5_rankHeld {l : Launch} {G : zG} {b : Nat} {L : List zC} {M : zMt} {N : zNt} {Q : Nat} {A : Nat} {v0 : Int32} (hQ : LX5 L Q) (hA : LX2 L A) {r : Int32} (h : D_X5_rankHeld Q A M v0 = some r) : zM l G b yX5_rankHeld cX5_rankHeld 4 (some .int) 3 0 0 [.ref Q, .ref A, .int v0] (L, M, N) (fun r2 z => r2 = some (.int r) ∧ z = (L, M, N)) := by
  refine zM.of miX5_rankHeld (Nat.le_of_ble_eq_true rfl) ?_
  intro p e s m args below meth c X hr hname
  generalize hF : ((fun r2 z => r2 = some (.int r) ∧ z = (L, M, N)) : Option Value → zS → Prop) = FQ
  change Zw p l e { frames := 3, cells := 0, slots := 0, locals := 80 * (3) } s m args below meth c G b 4 (MQ below (zQ G b FQ) args s 0 0 (fun q : Nat => b ≤ q)) 0 0 0 [some (.ref Q), some (.ref A), some (.int v0), none] [] (L, M, N)
  have q_lt := hQ.1
  have q_o := hQ.2.1
  have q_unitOf := hQ.2.2.2.1
  have a_lt := hA.1
  have a_o := hA.2.1
  have J_24 : ∀ (x2_24 : Int32) (x3_24 : Int32) (y0_24 : Int32), D_X5_rankHeld_24 Q A M y0_24 = some r → Zw p l e { frames := 3, cells := 0, slots := 0, locals := 80 * (3) } s m args below meth c G b 4 (MQ below (zQ G b FQ) args s 0 0 (fun q : Nat => b ≤ q)) 0 0 24 [some (.ref (Q)), some (.ref (A)), some (.int x2_24), some (.int x3_24)] [.int y0_24] (L, M, N) := by
    intro x2_24 x3_24 y0_24 h
    unfold D_X5_rankHeld_24 at h
    refine a_iret X hr dX5_rankHeld_24 ⟨by decide, by decide⟩ ?_
    subst hF
    rw [← Option.some.inj h]
    exact ⟨rfl, rfl⟩
  unfold D_X5_rankHeld at h
  refine a_aload_n X dX5_rankHeld_0 rfl ?_
  refine a_iload_n X dX5_rankHeld_1 rfl ?_
  refine a_aload_n X dX5_rankHeld_2 rfl ?_
  refine a_getr X lf5_15 (by first | exact q_o | assumption) rfl (by omega) dX5_rankHeld_3 ?_
  refine a_iload_n X dX5_rankHeld_6 rfl ?_
  refine a_callSNv X dX5_rankHeld_7 miX7_cell lm5_69 (c_cell (by first | exact q_unitOf | assumption) (by decide)) rfl rfl (Nat.le_of_ble_eq_true rfl) ⟨by decide, by decide, by decide, by decide⟩ ?_
  obtain ⟨e_10, f_10, h⟩ := zBx h
  refine a_callVv X dX5_rankHeld_10 miX2_rankOf lm5_125 (t_X2_rankOf (by first | exact hA | assumption) f_10) (by first | exact a_o | assumption) rfl rfl rfl (Nat.le_of_ble_eq_true rfl) ⟨by decide, by decide, by decide, by decide⟩ ?_
  refine a_istore_n X dX5_rankHeld_13 (by decide) ?_
  refine a_iload_n X dX5_rankHeld_14 rfl ?_
  refine a_iconst (v := -1) X dX5_rankHeld_15 (by decide) ?_
  refine a_icmp_ne (tgt := 23) X dX5_rankHeld_16 (by decide) (fun h_16 => ?_) (fun h_16 => ?_)
  · replace h := (if_neg h_16).symm.trans h
    refine a_iload_n X dX5_rankHeld_23 rfl ?_
    exact Zw.to2 (J_24 _ _ _ h) rfl rfl rfl
  · replace h := (if_pos h_16).symm.trans h
    refine a_iconst (v := 3) X dX5_rankHeld_19 (by decide) ?_
    refine a_goto (tgt := 24) X dX5_rankHeld_20 (by decide) ?_
    exact Zw.to2 (J_24 _ _ _ h) rfl rfl rfl
noncomputable def D_X5_isWaiting_27 (Q : Nat) (A : Nat) (M : zMt) (y0_27 : Int32) : Option (Int32) :=
  some (y0_27)
noncomputable def D_X5_isWaiting_26 (Q : Nat) (A : Nat) (M : zMt)  : Option (Int32) :=
  D_X5_isWaiting_27 Q A M (0 : Int32)
noncomputable def D_X5_isWaiting (Q : Nat) (A : Nat) (M : zMt) (v0 : Int32) (v1 : Int32) : Option (Int32) :=
  if (zrd 0 (M (Q + 2)) 10 v0) = (-1 : Int32) then
    zB (D_X2_rankOf A M v0 v1) fun e_15 =>
    if e_15 = (-1 : Int32) then
      D_X5_isWaiting_26 Q A M
    else
      D_X5_isWaiting_27 Q A M (1 : Int32)
  else
    D_X5_isWaiting_26 Q A M
set_option maxRecDepth 100000 in
set_option maxHeartbeats 4000000 in
theorem t_X5_isWaiting {l : Launch} {G : zG} {b : Nat} {L : List zC} {M : zMt} {N : zNt} {Q : Nat} {A : Nat} {v0 : Int32} {v1 : Int32} (hQ : LX5 L Q) (hA : LX2 L A) {r : Int32} (h : D_X5_isWaiting Q A M v0 v1 = some r) : zM l G b yX5_isWaiting cX5_isWaiting 4 (some .boolean) 3 0 0 [.ref Q, .ref A, .int v0, .int v1] (L, M, N) (fun r2 z => r2 = some (.int r) ∧ z = (L, M, N) ∧ (r = 0 ∨ r = 1)) := by
  refine zM.of miX5_isWaiting (Nat.le_of_ble_eq_true rfl) ?_
  intro p e s m args below meth c X hr hname
  generalize hF : ((fun r2 z => r2 = some (.int r) ∧ z = (L, M, N) ∧ (r = 0 ∨ r = 1)) : Option Value → zS → Prop) = FQ
  change Zw p l e { frames := 3, cells := 0, slots := 0, locals := 80 * (3) } s m args below meth c G b 4 (MQ below (zQ G b FQ) args s 0 0 (fun q : Nat => b ≤ q)) 0 0 0 [some (.ref Q), some (.ref A), some (.int v0), some (.int v1)] [] (L, M, N)
  have q_lt := hQ.1
  have q_o := hQ.2.1
  have q_unitOf := hQ.2.2.2.1
  have a_lt := hA.1
  have a_o := hA.2.1
  have J_27 : ∀ (x2_27 : Int32) (x3_27 : Int32) (y0_27 : Int32), (y0_27 = 0 ∨ y0_27 = 1) → D_X5_isWaiting_27 Q A M y0_27 = some r → Zw p l e { frames := 3, cells := 0, slots := 0, locals := 80 * (3) } s m args below meth c G b 4 (MQ below (zQ G b FQ) args s 0 0 (fun q : Nat => b ≤ q)) 0 0 27 [some (.ref (Q)), some (.ref (A)), some (.int x2_27), some (.int x3_27)] [.int y0_27] (L, M, N) := by
    intro x2_27 x3_27 y0_27 fb_y0_27 h
    unfold D_X5_isWaiting_27 at h
    refine a_zret X (by first | exact Or.inl rfl | exact Or.inr rfl | assumption) hr dX5_isWaiting_27 ⟨by decide, by decide⟩ ?_
    subst hF
    rw [← Option.some.inj h]
    exact ⟨rfl, rfl, (by first | exact Or.inl rfl | exact Or.inr rfl | assumption)⟩
  have J_26 : ∀ (x2_26 : Int32) (x3_26 : Int32), D_X5_isWaiting_26 Q A M = some r → Zw p l e { frames := 3, cells := 0, slots := 0, locals := 80 * (3) } s m args below meth c G b 4 (MQ below (zQ G b FQ) args s 0 0 (fun q : Nat => b ≤ q)) 0 0 26 [some (.ref (Q)), some (.ref (A)), some (.int x2_26), some (.int x3_26)] [] (L, M, N) := by
    intro x2_26 x3_26 h
    unfold D_X5_isWaiting_26 at h
    refine a_iconst (v := 0) X dX5_isWaiting_26 (by decide) ?_
    exact Zw.to2 (J_27 _ _ _ (by first | exact Or.inl rfl | exact Or.inr rfl | assumption) h) rfl rfl rfl
  unfold D_X5_isWaiting at h
  refine a_aload_n X dX5_isWaiting_0 rfl ?_
  refine a_getr X lf5_15 (by first | exact q_o | assumption) rfl (by omega) dX5_isWaiting_1 ?_
  refine a_iload_n X dX5_isWaiting_4 rfl ?_
  refine a_callSNv X dX5_isWaiting_5 miX7_cell lm5_69 (c_cell (by first | exact q_unitOf | assumption) (by decide)) rfl rfl (Nat.le_of_ble_eq_true rfl) ⟨by decide, by decide, by decide, by decide⟩ ?_
  refine a_iconst (v := -1) X dX5_isWaiting_8 (by decide) ?_
  refine a_icmp_ne (tgt := 26) X dX5_isWaiting_9 (by decide) (fun h_9 => ?_) (fun h_9 => ?_)
  · replace h := (if_neg h_9).symm.trans h
    exact Zw.to2 (J_26 _ _ h) rfl rfl rfl
  · replace h := (if_pos h_9).symm.trans h
    refine a_aload_n X dX5_isWaiting_12 rfl ?_
    refine a_iload_n X dX5_isWaiting_13 rfl ?_
    refine a_iload_n X dX5_isWaiting_14 rfl ?_
    obtain ⟨e_15, f_15, h⟩ := zBx h
    refine a_callVv X dX5_isWaiting_15 miX2_rankOf lm5_125 (t_X2_rankOf (by first | exact hA | assumption) f_15) (by first | exact a_o | assumption) rfl rfl rfl (Nat.le_of_ble_eq_true rfl) ⟨by decide, by decide, by decide, by decide⟩ ?_
    refine a_iconst (v := -1) X dX5_isWaiting_18 (by decide) ?_
    refine a_icmp_eq (tgt := 26) X dX5_isWaiting_19 (by decide) (fun h_19 => ?_) (fun h_19 => ?_)
    · replace h := (if_pos h_19).symm.trans h
      exact Zw.to2 (J_26 _ _ h) rfl rfl rfl
    · replace h := (if_neg h_19).symm.trans h
      refine a_iconst (v := 1) X dX5_isWaiting_22 (by decide) ?_
      refine a_goto (tgt := 27) X dX5_isWaiting_23 (by decide) ?_
      exact Zw.to2 (J_27 _ _ _ (by first | exact Or.inl rfl | exact Or.inr rfl | assumption) h) rfl rfl rfl
noncomputable def D_X5_holders_33 (Q : Nat) (A : Nat) (M : zMt) (k5 : Int32 → Int32 → Int32 → Option (Int32)) (x2_33 : Int32) (x4_33 : Int32) (y0_33 : Int32) (y1_33 : Int32) : Option (Int32) :=
  k5 x2_33 (y0_33 + y1_33) (x4_33 + 1)
noncomputable def D_X5_holders_5 (Q : Nat) (A : Nat) (M : zMt) : Nat → Int32 → Int32 → Int32 → Option (Int32)
  | 0, _, _, _ => none
  | n + 1, x2_5, x3_5, x4_5 =>
    if (M A 1) ≤ x4_5 then
      some (x3_5)
    else
      if (zrd 0 (M (Q + 2)) 10 x4_5) = x2_5 then
        D_X5_holders_33 Q A M (D_X5_holders_5 Q A M n) x2_5 x4_5 x3_5 (1 : Int32)
      else
        D_X5_holders_33 Q A M (D_X5_holders_5 Q A M n) x2_5 x4_5 x3_5 (0 : Int32)
noncomputable def D_X5_holders (Q : Nat) (A : Nat) (M : zMt) (v0 : Int32) : Option (Int32) :=
  D_X5_holders_5 Q A M zFu v0 (0 : Int32) (0 : Int32)
set_option maxRecDepth 100000 in
set_option maxHeartbeats 4000000 in
theorem t_X5_holders {l : Launch} {G : zG} {b : Nat} {L : List zC} {M : zMt} {N : zNt} {Q : Nat} {A : Nat} {v0 : Int32} (hQ : LX5 L Q) (hA : LX2 L A) {r : Int32} (h : D_X5_holders Q A M v0 = some r) : zM l G b yX5_holders cX5_holders 5 (some .int) 1 0 0 [.ref Q, .ref A, .int v0] (L, M, N) (fun r2 z => r2 = some (.int r) ∧ z = (L, M, N)) := by
  refine zM.of miX5_holders (Nat.le_of_ble_eq_true rfl) ?_
  intro p e s m args below meth c X hr hname
  generalize hF : ((fun r2 z => r2 = some (.int r) ∧ z = (L, M, N)) : Option Value → zS → Prop) = FQ
  change Zw p l e { frames := 1, cells := 0, slots := 0, locals := 80 * (1) } s m args below meth c G b 5 (MQ below (zQ G b FQ) args s 0 0 (fun q : Nat => b ≤ q)) 0 0 0 [some (.ref Q), some (.ref A), some (.int v0), none, none] [] (L, M, N)
  have q_lt := hQ.1
  have q_o := hQ.2.1
  have q_unitOf := hQ.2.2.2.1
  have a_lt := hA.1
  have a_o := hA.2.1
  have L_5 : ∀ u : Nat, ∀ (x2_5 : Int32) (x3_5 : Int32) (x4_5 : Int32), D_X5_holders_5 Q A M u x2_5 x3_5 x4_5 = some r → Zw p l e { frames := 1, cells := 0, slots := 0, locals := 80 * (1) } s m args below meth c G b 5 (MQ below (zQ G b FQ) args s 0 0 (fun q : Nat => b ≤ q)) 0 0 5 [some (.ref (Q)), some (.ref (A)), some (.int x2_5), some (.int x3_5), some (.int x4_5)] [] (L, M, N) := by
    intro u
    induction u with
    | zero => intro x2_5 x3_5 x4_5 h; cases (show none = some r from h)
    | succ u_5 ih_5 =>
      have J_33 : ∀ (x2_33 : Int32) (x3_33 : Int32) (x4_33 : Int32) (y0_33 : Int32) (y1_33 : Int32), (y1_33 = 0 ∨ y1_33 = 1) → D_X5_holders_33 Q A M (D_X5_holders_5 Q A M u_5) x2_33 x4_33 y0_33 y1_33 = some r → Zw p l e { frames := 1, cells := 0, slots := 0, locals := 80 * (1) } s m args below meth c G b 5 (MQ below (zQ G b FQ) args s 0 0 (fun q : Nat => b ≤ q)) 0 0 33 [some (.ref (Q)), some (.ref (A)), some (.int x2_33), some (.int x3_33), some (.int x4_33)] [.int y1_33, .int y0_33] (L, M, N) := by
        intro x2_33 x3_33 x4_33 y0_33 y1_33 fb_y1_33 h
        unfold D_X5_holders_33 at h
        refine a_iadd X dX5_holders_33 ?_
        refine a_istore_n X dX5_holders_34 (by decide) ?_
        refine a_iinc (v := x4_33 + 1) X dX5_holders_35 (by decide) rfl zi_1 ?_
        refine a_goto (tgt := 5) X dX5_holders_38 (by decide) ?_
        exact Zw.to2 (ih_5 _ _ _ h) rfl rfl rfl
      intro x2_5 x3_5 x4_5 h
      rw [D_X5_holders_5] at h
      refine a_iload X dX5_holders_5 rfl ?_
      refine a_aload_n X dX5_holders_7 rfl ?_
      refine a_geti X lf5_47 (by first | exact a_o | assumption) rfl dX5_holders_8 ?_
      refine a_icmp_ge (tgt := 41) X dX5_holders_11 (by decide) (fun h_11 => ?_) (fun h_11 => ?_)
      · replace h := (if_pos h_11).symm.trans h
        refine a_iload_n X dX5_holders_41 rfl ?_
        refine a_iret X hr dX5_holders_42 ⟨by decide, by decide⟩ ?_
        subst hF
        rw [← Option.some.inj h]
        exact ⟨rfl, rfl⟩
      · replace h := (if_neg h_11).symm.trans h
        refine a_iload_n X dX5_holders_14 rfl ?_
        refine a_aload_n X dX5_holders_15 rfl ?_
        refine a_getr X lf5_15 (by first | exact q_o | assumption) rfl (by omega) dX5_holders_16 ?_
        refine a_iload X dX5_holders_19 rfl ?_
        refine a_callSNv X dX5_holders_21 miX7_cell lm5_69 (c_cell (by first | exact q_unitOf | assumption) (by decide)) rfl rfl (Nat.le_of_ble_eq_true rfl) ⟨by decide, by decide, by decide, by decide⟩ ?_
        refine a_iload_n X dX5_holders_24 rfl ?_
        refine a_icmp_ne (tgt := 32) X dX5_holders_25 (by decide) (fun h_25 => ?_) (fun h_25 => ?_)
        · replace h := (if_neg h_25).symm.trans h
          refine a_iconst (v := 0) X dX5_holders_32 (by decide) ?_
          exact Zw.to2 (J_33 _ _ _ _ _ (by first | exact Or.inl rfl | exact Or.inr rfl | assumption) h) rfl rfl rfl
        · replace h := (if_pos h_25).symm.trans h
          refine a_iconst (v := 1) X dX5_holders_28 (by decide) ?_
          refine a_goto (tgt := 33) X dX5_holders_29 (by decide) ?_
          exact Zw.to2 (J_33 _ _ _ _ _ (by first | exact Or.inl rfl | exact Or.inr rfl | assumption) h) rfl rfl rfl
  have H_5 : ∀ (x2_5 : Int32) (x3_5 : Int32) (x4_5 : Int32), D_X5_holders_5 Q A M zFu x2_5 x3_5 x4_5 = some r → Zw p l e { frames := 1, cells := 0, slots := 0, locals := 80 * (1) } s m args below meth c G b 5 (MQ below (zQ G b FQ) args s 0 0 (fun q : Nat => b ≤ q)) 0 0 5 [some (.ref (Q)), some (.ref (A)), some (.int x2_5), some (.int x3_5), some (.int x4_5)] [] (L, M, N) := L_5 zFu
  unfold D_X5_holders at h
  refine a_iconst (v := 0) X dX5_holders_0 (by decide) ?_
  refine a_istore_n X dX5_holders_1 (by decide) ?_
  refine a_iconst (v := 0) X dX5_holders_2 (by decide) ?_
  refine a_istore X dX5_holders_3 (by decide) ?_
  exact Zw.to2 (H_5 _ _ _ h) rfl rfl rfl
noncomputable def D_X5_fewestPoints_55 (Q : Nat) (A : Nat) (M : zMt) (k5 : Int32 → Int32 → Int32 → Option (Int32)) (x2_55 : Int32) (x3_55 : Int32) (x4_55 : Int32) : Option (Int32) :=
  k5 x2_55 x3_55 (x4_55 + 1)
noncomputable def D_X5_fewestPoints_45 (Q : Nat) (A : Nat) (M : zMt) (k5 : Int32 → Int32 → Int32 → Option (Int32)) (x2_45 : Int32) (x4_45 : Int32) : Option (Int32) :=
  D_X5_fewestPoints_55 Q A M k5 x2_45 (zrd 0 (M (A + 7)) 10 x4_45) x4_45
noncomputable def D_X5_fewestPoints_5 (Q : Nat) (A : Nat) (M : zMt) : Nat → Int32 → Int32 → Int32 → Option (Int32)
  | 0, _, _, _ => none
  | n + 1, x2_5, x3_5, x4_5 =>
    if (M A 1) ≤ x4_5 then
      some (x3_5)
    else
      if (zrd 0 (M (Q + 2)) 10 x4_5) = x2_5 then
        if x3_5 = (-1 : Int32) then
          D_X5_fewestPoints_45 Q A M (D_X5_fewestPoints_5 Q A M n) x2_5 x4_5
        else
          if x3_5 ≤ (zrd 0 (M (A + 7)) 10 x4_5) then
            D_X5_fewestPoints_55 Q A M (D_X5_fewestPoints_5 Q A M n) x2_5 x3_5 x4_5
          else
            D_X5_fewestPoints_45 Q A M (D_X5_fewestPoints_5 Q A M n) x2_5 x4_5
      else
        D_X5_fewestPoints_55 Q A M (D_X5_fewestPoints_5 Q A M n) x2_5 x3_5 x4_5
noncomputable def D_X5_fewestPoints (Q : Nat) (A : Nat) (M : zMt) (v0 : Int32) : Option (Int32) :=
  D_X5_fewestPoints_5 Q A M zFu v0 (-1 : Int32) (0 : Int32)
set_option maxRecDepth 100000 in
set_option maxHeartbeats 4000000 in
theorem t_X5_fewestPoints {l : Launch} {G : zG} {b : Nat} {L : List zC} {M : zMt} {N : zNt} {Q : Nat} {A : Nat} {v0 : Int32} (hQ : LX5 L Q) (hA : LX2 L A) {r : Int32} (h : D_X5_fewestPoints Q A M v0 = some r) : zM l G b yX5_fewestPoints cX5_fewestPoints 5 (some .int) 1 0 0 [.ref Q, .ref A, .int v0] (L, M, N) (fun r2 z => r2 = some (.int r) ∧ z = (L, M, N)) := by
  refine zM.of miX5_fewestPoints (Nat.le_of_ble_eq_true rfl) ?_
  intro p e s m args below meth c X hr hname
  generalize hF : ((fun r2 z => r2 = some (.int r) ∧ z = (L, M, N)) : Option Value → zS → Prop) = FQ
  change Zw p l e { frames := 1, cells := 0, slots := 0, locals := 80 * (1) } s m args below meth c G b 5 (MQ below (zQ G b FQ) args s 0 0 (fun q : Nat => b ≤ q)) 0 0 0 [some (.ref Q), some (.ref A), some (.int v0), none, none] [] (L, M, N)
  have q_lt := hQ.1
  have q_o := hQ.2.1
  have q_unitOf := hQ.2.2.2.1
  have a_lt := hA.1
  have a_o := hA.2.1
  have a_score := hA.2.2.2.2.2.2.2.2.1
  have L_5 : ∀ u : Nat, ∀ (x2_5 : Int32) (x3_5 : Int32) (x4_5 : Int32), D_X5_fewestPoints_5 Q A M u x2_5 x3_5 x4_5 = some r → Zw p l e { frames := 1, cells := 0, slots := 0, locals := 80 * (1) } s m args below meth c G b 5 (MQ below (zQ G b FQ) args s 0 0 (fun q : Nat => b ≤ q)) 0 0 5 [some (.ref (Q)), some (.ref (A)), some (.int x2_5), some (.int x3_5), some (.int x4_5)] [] (L, M, N) := by
    intro u
    induction u with
    | zero => intro x2_5 x3_5 x4_5 h; cases (show none = some r from h)
    | succ u_5 ih_5 =>
      have J_55 : ∀ (x2_55 : Int32) (x3_55 : Int32) (x4_55 : Int32), D_X5_fewestPoints_55 Q A M (D_X5_fewestPoints_5 Q A M u_5) x2_55 x3_55 x4_55 = some r → Zw p l e { frames := 1, cells := 0, slots := 0, locals := 80 * (1) } s m args below meth c G b 5 (MQ below (zQ G b FQ) args s 0 0 (fun q : Nat => b ≤ q)) 0 0 55 [some (.ref (Q)), some (.ref (A)), some (.int x2_55), some (.int x3_55), some (.int x4_55)] [] (L, M, N) := by
        intro x2_55 x3_55 x4_55 h
        unfold D_X5_fewestPoints_55 at h
        refine a_iinc (v := x4_55 + 1) X dX5_fewestPoints_55 (by decide) rfl zi_1 ?_
        refine a_goto (tgt := 5) X dX5_fewestPoints_58 (by decide) ?_
        exact Zw.to2 (ih_5 _ _ _ h) rfl rfl rfl
      have J_45 : ∀ (x2_45 : Int32) (x3_45 : Int32) (x4_45 : Int32), D_X5_fewestPoints_45 Q A M (D_X5_fewestPoints_5 Q A M u_5) x2_45 x4_45 = some r → Zw p l e { frames := 1, cells := 0, slots := 0, locals := 80 * (1) } s m args below meth c G b 5 (MQ below (zQ G b FQ) args s 0 0 (fun q : Nat => b ≤ q)) 0 0 45 [some (.ref (Q)), some (.ref (A)), some (.int x2_45), some (.int x3_45), some (.int x4_45)] [] (L, M, N) := by
        intro x2_45 x3_45 x4_45 h
        unfold D_X5_fewestPoints_45 at h
        refine a_aload_n X dX5_fewestPoints_45 rfl ?_
        refine a_getr X lf5_116 (by first | exact a_o | assumption) rfl (by omega) dX5_fewestPoints_46 ?_
        refine a_iload X dX5_fewestPoints_49 rfl ?_
        refine a_callSNv X dX5_fewestPoints_51 miX7_cell lm5_69 (c_cell (by first | exact a_score | assumption) (by decide)) rfl rfl (Nat.le_of_ble_eq_true rfl) ⟨by decide, by decide, by decide, by decide⟩ ?_
        refine a_istore_n X dX5_fewestPoints_54 (by decide) ?_
        exact Zw.to2 (J_55 _ _ _ h) rfl rfl rfl
      intro x2_5 x3_5 x4_5 h
      rw [D_X5_fewestPoints_5] at h
      refine a_iload X dX5_fewestPoints_5 rfl ?_
      refine a_aload_n X dX5_fewestPoints_7 rfl ?_
      refine a_geti X lf5_47 (by first | exact a_o | assumption) rfl dX5_fewestPoints_8 ?_
      refine a_icmp_ge (tgt := 61) X dX5_fewestPoints_11 (by decide) (fun h_11 => ?_) (fun h_11 => ?_)
      · replace h := (if_pos h_11).symm.trans h
        refine a_iload_n X dX5_fewestPoints_61 rfl ?_
        refine a_iret X hr dX5_fewestPoints_62 ⟨by decide, by decide⟩ ?_
        subst hF
        rw [← Option.some.inj h]
        exact ⟨rfl, rfl⟩
      · replace h := (if_neg h_11).symm.trans h
        refine a_aload_n X dX5_fewestPoints_14 rfl ?_
        refine a_getr X lf5_15 (by first | exact q_o | assumption) rfl (by omega) dX5_fewestPoints_15 ?_
        refine a_iload X dX5_fewestPoints_18 rfl ?_
        refine a_callSNv X dX5_fewestPoints_20 miX7_cell lm5_69 (c_cell (by first | exact q_unitOf | assumption) (by decide)) rfl rfl (Nat.le_of_ble_eq_true rfl) ⟨by decide, by decide, by decide, by decide⟩ ?_
        refine a_iload_n X dX5_fewestPoints_23 rfl ?_
        refine a_icmp_ne (tgt := 55) X dX5_fewestPoints_24 (by decide) (fun h_24 => ?_) (fun h_24 => ?_)
        · replace h := (if_neg h_24).symm.trans h
          exact Zw.to2 (J_55 _ _ _ h) rfl rfl rfl
        · replace h := (if_pos h_24).symm.trans h
          refine a_iload_n X dX5_fewestPoints_27 rfl ?_
          refine a_iconst (v := -1) X dX5_fewestPoints_28 (by decide) ?_
          refine a_icmp_eq (tgt := 45) X dX5_fewestPoints_29 (by decide) (fun h_29 => ?_) (fun h_29 => ?_)
          · replace h := (if_pos h_29).symm.trans h
            exact Zw.to2 (J_45 _ _ _ h) rfl rfl rfl
          · replace h := (if_neg h_29).symm.trans h
            refine a_aload_n X dX5_fewestPoints_32 rfl ?_
            refine a_getr X lf5_116 (by first | exact a_o | assumption) rfl (by omega) dX5_fewestPoints_33 ?_
            refine a_iload X dX5_fewestPoints_36 rfl ?_
            refine a_callSNv X dX5_fewestPoints_38 miX7_cell lm5_69 (c_cell (by first | exact a_score | assumption) (by decide)) rfl rfl (Nat.le_of_ble_eq_true rfl) ⟨by decide, by decide, by decide, by decide⟩ ?_
            refine a_iload_n X dX5_fewestPoints_41 rfl ?_
            refine a_icmp_ge (tgt := 55) X dX5_fewestPoints_42 (by decide) (fun h_42 => ?_) (fun h_42 => ?_)
            · replace h := (if_pos h_42).symm.trans h
              exact Zw.to2 (J_55 _ _ _ h) rfl rfl rfl
            · replace h := (if_neg h_42).symm.trans h
              exact Zw.to2 (J_45 _ _ _ h) rfl rfl rfl
  have H_5 : ∀ (x2_5 : Int32) (x3_5 : Int32) (x4_5 : Int32), D_X5_fewestPoints_5 Q A M zFu x2_5 x3_5 x4_5 = some r → Zw p l e { frames := 1, cells := 0, slots := 0, locals := 80 * (1) } s m args below meth c G b 5 (MQ below (zQ G b FQ) args s 0 0 (fun q : Nat => b ≤ q)) 0 0 5 [some (.ref (Q)), some (.ref (A)), some (.int x2_5), some (.int x3_5), some (.int x4_5)] [] (L, M, N) := L_5 zFu
  unfold D_X5_fewestPoints at h
  refine a_iconst (v := -1) X dX5_fewestPoints_0 (by decide) ?_
  refine a_istore_n X dX5_fewestPoints_1 (by decide) ?_
  refine a_iconst (v := 0) X dX5_fewestPoints_2 (by decide) ?_
  refine a_istore X dX5_fewestPoints_3 (by decide) ?_
  exact Zw.to2 (H_5 _ _ _ h) rfl rfl rfl
noncomputable def D_X5_tagsGiven_37 (Q : Nat) (A : Nat) (M : zMt) (k4 : Int32 → Int32 → Option (Int32)) (x3_37 : Int32) (y0_37 : Int32) (y1_37 : Int32) : Option (Int32) :=
  k4 (y0_37 + y1_37) (x3_37 + 1)
noncomputable def D_X5_tagsGiven_4 (Q : Nat) (A : Nat) (M : zMt) : Nat → Int32 → Int32 → Option (Int32)
  | 0, _, _ => none
  | n + 1, x2_4, x3_4 =>
    if (M A 1) ≤ x3_4 then
      some (x2_4)
    else
      if (zrd 0 (M (Q + 2)) 10 x3_4) = (-1 : Int32) then
        D_X5_tagsGiven_37 Q A M (D_X5_tagsGiven_4 Q A M n) x3_4 x2_4 (0 : Int32)
      else
        D_X5_tagsGiven_37 Q A M (D_X5_tagsGiven_4 Q A M n) x3_4 x2_4 (zrd 0 (M (A + 5)) 10 x3_4)
noncomputable def D_X5_tagsGiven (Q : Nat) (A : Nat) (M : zMt)  : Option (Int32) :=
  D_X5_tagsGiven_4 Q A M zFu (0 : Int32) (0 : Int32)
set_option maxRecDepth 100000 in
set_option maxHeartbeats 4000000 in
theorem t_X5_tagsGiven {l : Launch} {G : zG} {b : Nat} {L : List zC} {M : zMt} {N : zNt} {Q : Nat} {A : Nat}  (hQ : LX5 L Q) (hA : LX2 L A) {r : Int32} (h : D_X5_tagsGiven Q A M = some r) : zM l G b yX5_tagsGiven cX5_tagsGiven 4 (some .int) 1 0 0 [.ref Q, .ref A] (L, M, N) (fun r2 z => r2 = some (.int r) ∧ z = (L, M, N)) := by
  refine zM.of miX5_tagsGiven (Nat.le_of_ble_eq_true rfl) ?_
  intro p e s m args below meth c X hr hname
  generalize hF : ((fun r2 z => r2 = some (.int r) ∧ z = (L, M, N)) : Option Value → zS → Prop) = FQ
  change Zw p l e { frames := 1, cells := 0, slots := 0, locals := 80 * (1) } s m args below meth c G b 4 (MQ below (zQ G b FQ) args s 0 0 (fun q : Nat => b ≤ q)) 0 0 0 [some (.ref Q), some (.ref A), none, none] [] (L, M, N)
  have q_lt := hQ.1
  have q_o := hQ.2.1
  have q_unitOf := hQ.2.2.2.1
  have a_lt := hA.1
  have a_o := hA.2.1
  have a_size := hA.2.2.2.2.2.2.1
  have L_4 : ∀ u : Nat, ∀ (x2_4 : Int32) (x3_4 : Int32), D_X5_tagsGiven_4 Q A M u x2_4 x3_4 = some r → Zw p l e { frames := 1, cells := 0, slots := 0, locals := 80 * (1) } s m args below meth c G b 4 (MQ below (zQ G b FQ) args s 0 0 (fun q : Nat => b ≤ q)) 0 0 4 [some (.ref (Q)), some (.ref (A)), some (.int x2_4), some (.int x3_4)] [] (L, M, N) := by
    intro u
    induction u with
    | zero => intro x2_4 x3_4 h; cases (show none = some r from h)
    | succ u_4 ih_4 =>
      have J_37 : ∀ (x2_37 : Int32) (x3_37 : Int32) (y0_37 : Int32) (y1_37 : Int32), D_X5_tagsGiven_37 Q A M (D_X5_tagsGiven_4 Q A M u_4) x3_37 y0_37 y1_37 = some r → Zw p l e { frames := 1, cells := 0, slots := 0, locals := 80 * (1) } s m args below meth c G b 4 (MQ below (zQ G b FQ) args s 0 0 (fun q : Nat => b ≤ q)) 0 0 37 [some (.ref (Q)), some (.ref (A)), some (.int x2_37), some (.int x3_37)] [.int y1_37, .int y0_37] (L, M, N) := by
        intro x2_37 x3_37 y0_37 y1_37 h
        unfold D_X5_tagsGiven_37 at h
        refine a_iadd X dX5_tagsGiven_37 ?_
        refine a_istore_n X dX5_tagsGiven_38 (by decide) ?_
        refine a_iinc (v := x3_37 + 1) X dX5_tagsGiven_39 (by decide) rfl zi_1 ?_
        refine a_goto (tgt := 4) X dX5_tagsGiven_42 (by decide) ?_
        exact Zw.to2 (ih_4 _ _ h) rfl rfl rfl
      intro x2_4 x3_4 h
      rw [D_X5_tagsGiven_4] at h
      refine a_iload_n X dX5_tagsGiven_4 rfl ?_
      refine a_aload_n X dX5_tagsGiven_5 rfl ?_
      refine a_geti X lf5_47 (by first | exact a_o | assumption) rfl dX5_tagsGiven_6 ?_
      refine a_icmp_ge (tgt := 45) X dX5_tagsGiven_9 (by decide) (fun h_9 => ?_) (fun h_9 => ?_)
      · replace h := (if_pos h_9).symm.trans h
        refine a_iload_n X dX5_tagsGiven_45 rfl ?_
        refine a_iret X hr dX5_tagsGiven_46 ⟨by decide, by decide⟩ ?_
        subst hF
        rw [← Option.some.inj h]
        exact ⟨rfl, rfl⟩
      · replace h := (if_neg h_9).symm.trans h
        refine a_iload_n X dX5_tagsGiven_12 rfl ?_
        refine a_aload_n X dX5_tagsGiven_13 rfl ?_
        refine a_getr X lf5_15 (by first | exact q_o | assumption) rfl (by omega) dX5_tagsGiven_14 ?_
        refine a_iload_n X dX5_tagsGiven_17 rfl ?_
        refine a_callSNv X dX5_tagsGiven_18 miX7_cell lm5_69 (c_cell (by first | exact q_unitOf | assumption) (by decide)) rfl rfl (Nat.le_of_ble_eq_true rfl) ⟨by decide, by decide, by decide, by decide⟩ ?_
        refine a_iconst (v := -1) X dX5_tagsGiven_21 (by decide) ?_
        refine a_icmp_ne (tgt := 29) X dX5_tagsGiven_22 (by decide) (fun h_22 => ?_) (fun h_22 => ?_)
        · replace h := (if_neg h_22).symm.trans h
          refine a_aload_n X dX5_tagsGiven_29 rfl ?_
          refine a_getr X lf5_106 (by first | exact a_o | assumption) rfl (by omega) dX5_tagsGiven_30 ?_
          refine a_iload_n X dX5_tagsGiven_33 rfl ?_
          refine a_callSNv X dX5_tagsGiven_34 miX7_cell lm5_69 (c_cell (by first | exact a_size | assumption) (by decide)) rfl rfl (Nat.le_of_ble_eq_true rfl) ⟨by decide, by decide, by decide, by decide⟩ ?_
          exact Zw.to2 (J_37 _ _ _ _ h) rfl rfl rfl
        · replace h := (if_pos h_22).symm.trans h
          refine a_iconst (v := 0) X dX5_tagsGiven_25 (by decide) ?_
          refine a_goto (tgt := 37) X dX5_tagsGiven_26 (by decide) ?_
          exact Zw.to2 (J_37 _ _ _ _ h) rfl rfl rfl
  have H_4 : ∀ (x2_4 : Int32) (x3_4 : Int32), D_X5_tagsGiven_4 Q A M zFu x2_4 x3_4 = some r → Zw p l e { frames := 1, cells := 0, slots := 0, locals := 80 * (1) } s m args below meth c G b 4 (MQ below (zQ G b FQ) args s 0 0 (fun q : Nat => b ≤ q)) 0 0 4 [some (.ref (Q)), some (.ref (A)), some (.int x2_4), some (.int x3_4)] [] (L, M, N) := L_4 zFu
  unfold D_X5_tagsGiven at h
  refine a_iconst (v := 0) X dX5_tagsGiven_0 (by decide) ?_
  refine a_istore_n X dX5_tagsGiven_1 (by decide) ?_
  refine a_iconst (v := 0) X dX5_tagsGiven_2 (by decide) ?_
  refine a_istore_n X dX5_tagsGiven_3 (by decide) ?_
  exact Zw.to2 (H_4 _ _ h) rfl rfl rfl
noncomputable def D_X6_note_109 (Q : Nat) (M_109 : zMt) : Option (zMt) :=
  some (M_109)
noncomputable def D_X6_note (Q : Nat) (v0 : Int32) (v1 : Int32) (M : zMt) : Option (zMt) :=
  if (zrd 0 (M (Q + 27)) 10 (zrd 0 (M (Q + 16)) 10 v0)) = (-1 : Int32) then
    zLt (zwr M (Q + 3) 10 v0 (zrd 0 (M (Q + 3)) 10 v0 + (1 : Int32))) fun M_33 =>
    zLt (zu M_33 Q 1 (if (M_33 Q 1) < (zrd 0 (M_33 (Q + 3)) 10 v0) then (zrd 0 (M_33 (Q + 3)) 10 v0) else (M_33 Q 1))) fun M_52 =>
    some (M_52)
  else
    zLt (zwr M (Q + 3) 10 v0 (0 : Int32)) fun M_62 =>
    zLt (zwr M_62 (Q + 1) 10 v0 (zrd 0 (M_62 (Q + 1)) 10 v0 + (1 : Int32))) fun M_71 =>
    zB (D_X5_hasFirst (Q + 25) (Q + 12) M_71 (zrd 0 (M (Q + 16)) 10 v0)) fun e_83 =>
    if e_83 = 0 then
      D_X6_note_109 Q M_71
    else
      if (zrd 0 (M_71 (Q + 2)) 10 v0) = 0 then
        zLt (zwr M_71 (Q + 2) 10 v0 v1) fun M_106 =>
        D_X6_note_109 Q M_106
      else
        D_X6_note_109 Q M_71
set_option maxRecDepth 100000 in
set_option maxHeartbeats 4000000 in
theorem t_X6_note {l : Launch} {G : zG} {b : Nat} {L : List zC} {M : zMt} {N : zNt} {Q : Nat} {v0 : Int32} {v1 : Int32} (hQ : LX6 L Q) {r : zMt} (h : D_X6_note Q v0 v1 M = some r) : zM l G b yX6_note cX6_note 4 none 3 0 0 [.ref Q, .int v0, .int v1] (L, M, N) (fun r2 z => r2 = none ∧ z = (L, r, N)) := by
  refine zM.of miX6_note (Nat.le_of_ble_eq_true rfl) ?_
  intro p e s m args below meth c X hr hname
  generalize hF : ((fun r2 z => r2 = none ∧ z = (L, r, N)) : Option Value → zS → Prop) = FQ
  change Zw p l e { frames := 3, cells := 0, slots := 0, locals := 80 * (3) } s m args below meth c G b 4 (MQ below (zQ G b FQ) args s 0 0 (fun q : Nat => b ≤ q)) 0 0 0 [some (.ref Q), some (.int v0), some (.int v1), none] [] (L, M, N)
  have q_lt := hQ.1
  have q_o := hQ.2.1
  have q_times := hQ.2.2.1
  have q_firstWish := hQ.2.2.2.1
  have q_dry := hQ.2.2.2.2.1
  have q_pool := hQ.2.2.2.2.2.2.1
  have q_pool_lt := q_pool.1
  have q_pool_o := q_pool.2.1
  have q_pool_applicantOf := q_pool.2.2.2.2.2.1
  have q_result := hQ.2.2.2.2.2.2.2
  have q_result_lt := q_result.1
  have q_result_o := q_result.2.1
  have q_result_unitOf := q_result.2.2.2.1
  have J_109 : ∀ (x1_109 : Int32) (x2_109 : Int32) (x3_109 : Int32) (M_109 : zMt), D_X6_note_109 Q M_109 = some r → Zw p l e { frames := 3, cells := 0, slots := 0, locals := 80 * (3) } s m args below meth c G b 4 (MQ below (zQ G b FQ) args s 0 0 (fun q : Nat => b ≤ q)) 0 0 109 [some (.ref (Q)), some (.int x1_109), some (.int x2_109), some (.int x3_109)] [] (L, M_109, N) := by
    intro x1_109 x2_109 x3_109 M_109 h
    unfold D_X6_note_109 at h
    refine a_vret X hr dX6_note_109 ⟨by decide, by decide⟩ ?_
    subst hF
    rw [← Option.some.inj h]
    exact ⟨rfl, rfl⟩
  unfold D_X6_note at h
  refine a_aload_n X dX6_note_0 rfl ?_
  refine a_getr X lf6_31 (by first | exact q_o | assumption) rfl (by omega) dX6_note_1 ?_
  refine a_getr X lf6_79 (by first | exact q_pool_o | assumption) rfl (by omega) dX6_note_4 ?_
  refine a_iload_n X dX6_note_7 rfl ?_
  refine a_callSNv X dX6_note_8 miX7_cell lm6_82 (c_cell (by first | exact q_pool_applicantOf | assumption) (by decide)) rfl rfl (Nat.le_of_ble_eq_true rfl) ⟨by decide, by decide, by decide, by decide⟩ ?_
  refine a_istore_n X dX6_note_11 (by decide) ?_
  refine a_aload_n X dX6_note_12 rfl ?_
  refine a_getr X lf6_38 (by first | exact q_o | assumption) rfl (by omega) dX6_note_13 ?_
  refine a_getr X lf6_86 (by first | exact q_result_o | assumption) rfl (by omega) dX6_note_16 ?_
  refine a_iload_n X dX6_note_19 rfl ?_
  refine a_callSNv X dX6_note_20 miX7_cell lm6_82 (c_cell (by first | exact q_result_unitOf | assumption) (by decide)) rfl rfl (Nat.le_of_ble_eq_true rfl) ⟨by decide, by decide, by decide, by decide⟩ ?_
  refine a_iconst (v := -1) X dX6_note_23 (by decide) ?_
  refine a_icmp_ne (tgt := 56) X dX6_note_24 (by decide) (fun h_24 => ?_) (fun h_24 => ?_)
  · replace h := (if_neg h_24).symm.trans h
    refine a_aload_n X dX6_note_56 rfl ?_
    refine a_getr X lf6_18 (by first | exact q_o | assumption) rfl (by omega) dX6_note_57 ?_
    refine a_iload_n X dX6_note_60 rfl ?_
    refine a_iconst (v := 0) X dX6_note_61 (by decide) ?_
    obtain ⟨M_62, f_62, h⟩ := zLtx h
    refine a_callSNu X dX6_note_62 miX7_put lm6_99 (zMu (c_put (by first | exact q_dry | assumption) (by decide)) f_62) rfl rfl (Nat.le_of_ble_eq_true rfl) ⟨by decide, by decide, by decide, by decide⟩ ?_
    refine a_aload_n X dX6_note_65 rfl ?_
    refine a_getr X lf6_9 (by first | exact q_o | assumption) rfl (by omega) dX6_note_66 ?_
    refine a_iload_n X dX6_note_69 rfl ?_
    refine a_iconst (v := 1) X dX6_note_70 (by decide) ?_
    obtain ⟨M_71, f_71, h⟩ := zLtx h
    refine a_callSNu X dX6_note_71 miX7_add lm6_89 (zMu (c_add (by first | exact q_times | assumption) (by decide)) f_71) rfl rfl (Nat.le_of_ble_eq_true rfl) ⟨by decide, by decide, by decide, by decide⟩ ?_
    refine a_aload_n X dX6_note_74 rfl ?_
    refine a_getr X lf6_38 (by first | exact q_o | assumption) rfl (by omega) dX6_note_75 ?_
    refine a_aload_n X dX6_note_78 rfl ?_
    refine a_getr X lf6_31 (by first | exact q_o | assumption) rfl (by omega) dX6_note_79 ?_
    refine a_iload_n X dX6_note_82 rfl ?_
    obtain ⟨e_83, f_83, h⟩ := zBx h
    refine a_callVx X dX6_note_83 miX5_hasFirst lm6_102 (t_X5_hasFirst (by first | exact q_result | assumption) (by first | exact q_pool | assumption) f_83) (by first | exact q_result_o | assumption) rfl rfl rfl (Nat.le_of_ble_eq_true rfl) ⟨by decide, by decide, by decide, by decide⟩ (fun r_83 S_83 q_83 => ?_)
    obtain ⟨rfl, rfl, b_83⟩ := q_83
    refine a_if_eq (tgt := 109) X dX6_note_86 (by decide) (fun h_86 => ?_) (fun h_86 => ?_)
    · replace h := (if_pos h_86).symm.trans h
      exact Zw.to2 (J_109 _ _ _ _ h) rfl rfl rfl
    · replace h := (if_neg h_86).symm.trans h
      refine a_aload_n X dX6_note_89 rfl ?_
      refine a_getr X lf6_15 (by first | exact q_o | assumption) rfl (by omega) dX6_note_90 ?_
      refine a_iload_n X dX6_note_93 rfl ?_
      refine a_callSNv X dX6_note_94 miX7_cell lm6_82 (c_cell (by first | exact q_firstWish | assumption) (by decide)) rfl rfl (Nat.le_of_ble_eq_true rfl) ⟨by decide, by decide, by decide, by decide⟩ ?_
      refine a_if_ne (tgt := 109) X dX6_note_97 (by decide) (fun h_97 => ?_) (fun h_97 => ?_)
      · replace h := (if_neg h_97).symm.trans h
        exact Zw.to2 (J_109 _ _ _ _ h) rfl rfl rfl
      · replace h := (if_pos h_97).symm.trans h
        refine a_aload_n X dX6_note_100 rfl ?_
        refine a_getr X lf6_15 (by first | exact q_o | assumption) rfl (by omega) dX6_note_101 ?_
        refine a_iload_n X dX6_note_104 rfl ?_
        refine a_iload_n X dX6_note_105 rfl ?_
        obtain ⟨M_106, f_106, h⟩ := zLtx h
        refine a_callSNu X dX6_note_106 miX7_put lm6_99 (zMu (c_put (by first | exact q_firstWish | assumption) (by decide)) f_106) rfl rfl (Nat.le_of_ble_eq_true rfl) ⟨by decide, by decide, by decide, by decide⟩ ?_
        exact Zw.to2 (J_109 _ _ _ _ h) rfl rfl rfl
  · replace h := (if_pos h_24).symm.trans h
    refine a_aload_n X dX6_note_27 rfl ?_
    refine a_getr X lf6_18 (by first | exact q_o | assumption) rfl (by omega) dX6_note_28 ?_
    refine a_iload_n X dX6_note_31 rfl ?_
    refine a_iconst (v := 1) X dX6_note_32 (by decide) ?_
    obtain ⟨M_33, f_33, h⟩ := zLtx h
    refine a_callSNu X dX6_note_33 miX7_add lm6_89 (zMu (c_add (by first | exact q_dry | assumption) (by decide)) f_33) rfl rfl (Nat.le_of_ble_eq_true rfl) ⟨by decide, by decide, by decide, by decide⟩ ?_
    refine a_aload_n X dX6_note_36 rfl ?_
    refine a_aload_n X dX6_note_37 rfl ?_
    refine a_geti X lf6_46 (by first | exact q_o | assumption) rfl dX6_note_38 ?_
    refine a_aload_n X dX6_note_41 rfl ?_
    refine a_getr X lf6_18 (by first | exact q_o | assumption) rfl (by omega) dX6_note_42 ?_
    refine a_iload_n X dX6_note_45 rfl ?_
    refine a_callSNv X dX6_note_46 miX7_cell lm6_82 (c_cell (by first | exact q_dry | assumption) (by decide)) rfl rfl (Nat.le_of_ble_eq_true rfl) ⟨by decide, by decide, by decide, by decide⟩ ?_
    refine a_mmax X lm6_93 zmath1 zmath0 zmathc1 ⟨by decide, Nat.le_of_ble_eq_true rfl, by decide, by decide⟩ dX6_note_49 ?_
    obtain ⟨M_52, f_52, h⟩ := zLtx h
    refine d_puti X lf6_46 (by first | exact q_o | assumption) rfl dX6_note_52 f_52 ?_
    refine a_vret X hr dX6_note_55 ⟨by decide, by decide⟩ ?_
    subst hF
    rw [← Option.some.inj h]
    exact ⟨rfl, rfl⟩
noncomputable def D_X6_pass_102 (Q : Nat) (A : Nat) (k45 : Int32 → Int32 → Int32 → zMt → Option (zMt)) : Nat → Int32 → Int32 → Int32 → Int32 → zMt → Option (zMt)
  | 0, _, _, _, _, _ => none
  | n + 1, x2_102, x3_102, x4_102, x5_102, M_102 =>
    if (M_102 (Q + 4) 1) ≤ x5_102 then
      zB (D_X4_live (Q + 4) (Q + 12) (Q + 25) M_102) fun e_140 =>
      k45 x2_102 x3_102 (x4_102 + 1) e_140
    else
      zB (D_X6_note Q x5_102 x4_102 M_102) fun e_119 =>
      (D_X6_pass_102 Q A k45 n) x2_102 x3_102 x4_102 (x5_102 + 1) e_119
noncomputable def D_X6_pass_45 (Q : Nat) (A : Nat) : Nat → Int32 → Int32 → Int32 → zMt → Option (zMt)
  | 0, _, _, _, _ => none
  | n + 1, x2_45, x3_45, x4_45, M_45 =>
    if x3_45 < x4_45 then
      some (M_45)
    else
      zB (D_X2_gather (Q + 12) (Q + 4) M_45) fun e_59 =>
      zB (D_X5_bySeed (Q + 25) (Q + 12) ((x2_45 + x4_45) - (1 : Int32)) e_59) fun e_76 =>
      zB (D_X5_tagsGiven (Q + 25) (Q + 12) e_76) fun e_92 =>
      zLt (zu e_76 Q 0 ((e_76 Q 0) + e_92)) fun M_96 =>
      D_X6_pass_102 Q A (D_X6_pass_45 Q A n) zFu x2_45 x3_45 x4_45 (0 : Int32) M_96
noncomputable def D_X6_pass (Q : Nat) (A : Nat) (v0 : Int32) (v1 : Int32) (M : zMt) : Option (zMt) :=
  zLt (zu M Q 0 (0 : Int32)) fun M_2 =>
  zLt (zu M_2 Q 1 (0 : Int32)) fun M_7 =>
  zLt (zfil M_7 (Q + 1) 10 (0 : Int32)) fun M_15 =>
  zLt (zfil M_15 (Q + 2) 10 (0 : Int32)) fun M_23 =>
  zLt (zfil M_23 (Q + 3) 10 (0 : Int32)) fun M_31 =>
  zB (D_X4_take (Q + 4) A M_31) fun e_39 =>
  D_X6_pass_45 Q A zFu v0 v1 (1 : Int32) e_39
set_option maxRecDepth 100000 in
set_option maxHeartbeats 4000000 in
theorem t_X6_pass {l : Launch} {G : zG} {b : Nat} {L : List zC} {M : zMt} {N : zNt} {Q : Nat} {A : Nat} {v0 : Int32} {v1 : Int32} (hQ : LX6 L Q) (hA : LX4 L A) (dQA : Q + 33 ≤ A ∨ A + 8 ≤ Q) {r : zMt} (h : D_X6_pass Q A v0 v1 M = some r) : zM l G b yX6_pass cX6_pass 6 none 5 0 0 [.ref Q, .ref A, .int v0, .int v1] (L, M, N) (fun r2 z => r2 = none ∧ z = (L, r, N)) := by
  refine zM.of miX6_pass (Nat.le_of_ble_eq_true rfl) ?_
  intro p e s m args below meth c X hr hname
  generalize hF : ((fun r2 z => r2 = none ∧ z = (L, r, N)) : Option Value → zS → Prop) = FQ
  change Zw p l e { frames := 5, cells := 0, slots := 0, locals := 80 * (5) } s m args below meth c G b 6 (MQ below (zQ G b FQ) args s 0 0 (fun q : Nat => b ≤ q)) 0 0 0 [some (.ref Q), some (.ref A), some (.int v0), some (.int v1), none, none] [] (L, M, N)
  have q_lt := hQ.1
  have q_o := hQ.2.1
  have q_times := hQ.2.2.1
  have q_firstWish := hQ.2.2.2.1
  have q_dry := hQ.2.2.2.2.1
  have q_list := hQ.2.2.2.2.2.1
  have q_list_lt := q_list.1
  have q_list_o := q_list.2.1
  have q_pool := hQ.2.2.2.2.2.2.1
  have q_pool_lt := q_pool.1
  have q_pool_o := q_pool.2.1
  have q_result := hQ.2.2.2.2.2.2.2
  have q_result_lt := q_result.1
  have q_result_o := q_result.2.1
  have a_lt := hA.1
  have a_o := hA.2.1
  have L_45 : ∀ u : Nat, ∀ (x2_45 : Int32) (x3_45 : Int32) (x4_45 : Int32) (x5_45 : Option Value) (M_45 : zMt), D_X6_pass_45 Q A u x2_45 x3_45 x4_45 M_45 = some r → Zw p l e { frames := 5, cells := 0, slots := 0, locals := 80 * (5) } s m args below meth c G b 6 (MQ below (zQ G b FQ) args s 0 0 (fun q : Nat => b ≤ q)) 0 0 45 [some (.ref (Q)), some (.ref (A)), some (.int x2_45), some (.int x3_45), some (.int x4_45), x5_45] [] (L, M_45, N) := by
    intro u
    induction u with
    | zero => intro x2_45 x3_45 x4_45 x5_45 M_45 h; cases (show none = some r from h)
    | succ u_45 ih_45 =>
      have L_102 : ∀ u : Nat, ∀ (x2_102 : Int32) (x3_102 : Int32) (x4_102 : Int32) (x5_102 : Int32) (M_102 : zMt), D_X6_pass_102 Q A (D_X6_pass_45 Q A u_45) u x2_102 x3_102 x4_102 x5_102 M_102 = some r → Zw p l e { frames := 5, cells := 0, slots := 0, locals := 80 * (5) } s m args below meth c G b 6 (MQ below (zQ G b FQ) args s 0 0 (fun q : Nat => b ≤ q)) 0 0 102 [some (.ref (Q)), some (.ref (A)), some (.int x2_102), some (.int x3_102), some (.int x4_102), some (.int x5_102)] [] (L, M_102, N) := by
        intro u
        induction u with
        | zero => intro x2_102 x3_102 x4_102 x5_102 M_102 h; cases (show none = some r from h)
        | succ u_102 ih_102 =>
          intro x2_102 x3_102 x4_102 x5_102 M_102 h
          rw [D_X6_pass_102] at h
          refine a_iload X dX6_pass_102 rfl ?_
          refine a_aload_n X dX6_pass_104 rfl ?_
          refine a_getr X lf6_24 (by first | exact q_o | assumption) rfl (by omega) dX6_pass_105 ?_
          refine a_geti X lf6_68 (by first | exact q_list_o | assumption) rfl dX6_pass_108 ?_
          refine a_icmp_ge (tgt := 128) X dX6_pass_111 (by decide) (fun h_111 => ?_) (fun h_111 => ?_)
          · replace h := (if_pos h_111).symm.trans h
            refine a_aload_n X dX6_pass_128 rfl ?_
            refine a_getr X lf6_24 (by first | exact q_o | assumption) rfl (by omega) dX6_pass_129 ?_
            refine a_aload_n X dX6_pass_132 rfl ?_
            refine a_getr X lf6_31 (by first | exact q_o | assumption) rfl (by omega) dX6_pass_133 ?_
            refine a_aload_n X dX6_pass_136 rfl ?_
            refine a_getr X lf6_38 (by first | exact q_o | assumption) rfl (by omega) dX6_pass_137 ?_
            obtain ⟨e_140, f_140, h⟩ := zBx h
            refine a_callVu X dX6_pass_140 miX4_live lm6_75 (t_X4_live (by first | exact q_list | assumption) (by first | exact q_pool | assumption) (by first | exact q_result | assumption) f_140) (by first | exact q_list_o | assumption) rfl rfl rfl (Nat.le_of_ble_eq_true rfl) ⟨by decide, by decide, by decide, by decide⟩ ?_
            refine a_iinc (v := x4_102 + 1) X dX6_pass_143 (by decide) rfl zi_1 ?_
            refine a_goto (tgt := 45) X dX6_pass_146 (by decide) ?_
            exact Zw.to2 (ih_45 _ _ _ _ _ h) rfl rfl rfl
          · replace h := (if_neg h_111).symm.trans h
            refine a_aload_n X dX6_pass_114 rfl ?_
            refine a_iload X dX6_pass_115 rfl ?_
            refine a_iload X dX6_pass_117 rfl ?_
            obtain ⟨e_119, f_119, h⟩ := zBx h
            refine a_callVu X dX6_pass_119 miX6_note lm6_71 (t_X6_note (by first | exact hQ | assumption) f_119) (by first | exact q_o | assumption) rfl rfl rfl (Nat.le_of_ble_eq_true rfl) ⟨by decide, by decide, by decide, by decide⟩ ?_
            refine a_iinc (v := x5_102 + 1) X dX6_pass_122 (by decide) rfl zi_1 ?_
            refine a_goto (tgt := 102) X dX6_pass_125 (by decide) ?_
            exact Zw.to2 (ih_102 _ _ _ _ _ h) rfl rfl rfl
      have H_102 : ∀ (x2_102 : Int32) (x3_102 : Int32) (x4_102 : Int32) (x5_102 : Int32) (M_102 : zMt), D_X6_pass_102 Q A (D_X6_pass_45 Q A u_45) zFu x2_102 x3_102 x4_102 x5_102 M_102 = some r → Zw p l e { frames := 5, cells := 0, slots := 0, locals := 80 * (5) } s m args below meth c G b 6 (MQ below (zQ G b FQ) args s 0 0 (fun q : Nat => b ≤ q)) 0 0 102 [some (.ref (Q)), some (.ref (A)), some (.int x2_102), some (.int x3_102), some (.int x4_102), some (.int x5_102)] [] (L, M_102, N) := L_102 zFu
      intro x2_45 x3_45 x4_45 x5_45 M_45 h
      rw [D_X6_pass_45] at h
      refine a_iload X dX6_pass_45 rfl ?_
      refine a_iload_n X dX6_pass_47 rfl ?_
      refine a_icmp_gt (tgt := 149) X dX6_pass_48 (by decide) (fun h_48 => ?_) (fun h_48 => ?_)
      · replace h := (if_pos h_48).symm.trans h
        refine a_vret X hr dX6_pass_149 ⟨by decide, by decide⟩ ?_
        subst hF
        rw [← Option.some.inj h]
        exact ⟨rfl, rfl⟩
      · replace h := (if_neg h_48).symm.trans h
        refine a_aload_n X dX6_pass_51 rfl ?_
        refine a_getr X lf6_31 (by first | exact q_o | assumption) rfl (by omega) dX6_pass_52 ?_
        refine a_aload_n X dX6_pass_55 rfl ?_
        refine a_getr X lf6_24 (by first | exact q_o | assumption) rfl (by omega) dX6_pass_56 ?_
        obtain ⟨e_59, f_59, h⟩ := zBx h
        refine a_callVu X dX6_pass_59 miX2_gather lm6_57 (t_X2_gather (by first | exact q_pool | assumption) (by first | exact q_list | assumption) f_59) (by first | exact q_pool_o | assumption) rfl rfl rfl (Nat.le_of_ble_eq_true rfl) ⟨by decide, by decide, by decide, by decide⟩ ?_
        refine a_aload_n X dX6_pass_62 rfl ?_
        refine a_getr X lf6_38 (by first | exact q_o | assumption) rfl (by omega) dX6_pass_63 ?_
        refine a_aload_n X dX6_pass_66 rfl ?_
        refine a_getr X lf6_31 (by first | exact q_o | assumption) rfl (by omega) dX6_pass_67 ?_
        refine a_iload_n X dX6_pass_70 rfl ?_
        refine a_iload X dX6_pass_71 rfl ?_
        refine a_iadd X dX6_pass_73 ?_
        refine a_iconst (v := 1) X dX6_pass_74 (by decide) ?_
        refine a_isub X dX6_pass_75 ?_
        obtain ⟨e_76, f_76, h⟩ := zBx h
        refine a_callVu X dX6_pass_76 miX5_bySeed lm6_60 (t_X5_bySeed (by first | exact q_result | assumption) (by first | exact q_pool | assumption) f_76) (by first | exact q_result_o | assumption) rfl rfl rfl (Nat.le_of_ble_eq_true rfl) ⟨by decide, by decide, by decide, by decide⟩ ?_
        refine a_aload_n X dX6_pass_79 rfl ?_
        refine a_dup X dX6_pass_80 rfl ?_
        refine a_geti X lf6_42 (by first | exact q_o | assumption) rfl dX6_pass_81 ?_
        refine a_aload_n X dX6_pass_84 rfl ?_
        refine a_getr X lf6_38 (by first | exact q_o | assumption) rfl (by omega) dX6_pass_85 ?_
        refine a_aload_n X dX6_pass_88 rfl ?_
        refine a_getr X lf6_31 (by first | exact q_o | assumption) rfl (by omega) dX6_pass_89 ?_
        obtain ⟨e_92, f_92, h⟩ := zBx h
        refine a_callVv X dX6_pass_92 miX5_tagsGiven lm6_64 (t_X5_tagsGiven (by first | exact q_result | assumption) (by first | exact q_pool | assumption) f_92) (by first | exact q_result_o | assumption) rfl rfl rfl (Nat.le_of_ble_eq_true rfl) ⟨by decide, by decide, by decide, by decide⟩ ?_
        refine a_iadd X dX6_pass_95 ?_
        obtain ⟨M_96, f_96, h⟩ := zLtx h
        refine d_puti X lf6_42 (by first | exact q_o | assumption) rfl dX6_pass_96 f_96 ?_
        refine a_iconst (v := 0) X dX6_pass_99 (by decide) ?_
        refine a_istore X dX6_pass_100 (by decide) ?_
        exact Zw.to2 (H_102 _ _ _ _ _ h) rfl rfl rfl
  have H_45 : ∀ (x2_45 : Int32) (x3_45 : Int32) (x4_45 : Int32) (x5_45 : Option Value) (M_45 : zMt), D_X6_pass_45 Q A zFu x2_45 x3_45 x4_45 M_45 = some r → Zw p l e { frames := 5, cells := 0, slots := 0, locals := 80 * (5) } s m args below meth c G b 6 (MQ below (zQ G b FQ) args s 0 0 (fun q : Nat => b ≤ q)) 0 0 45 [some (.ref (Q)), some (.ref (A)), some (.int x2_45), some (.int x3_45), some (.int x4_45), x5_45] [] (L, M_45, N) := L_45 zFu
  unfold D_X6_pass at h
  refine a_aload_n X dX6_pass_0 rfl ?_
  refine a_iconst (v := 0) X dX6_pass_1 (by decide) ?_
  obtain ⟨M_2, f_2, h⟩ := zLtx h
  refine d_puti X lf6_42 (by first | exact q_o | assumption) rfl dX6_pass_2 f_2 ?_
  refine a_aload_n X dX6_pass_5 rfl ?_
  refine a_iconst (v := 0) X dX6_pass_6 (by decide) ?_
  obtain ⟨M_7, f_7, h⟩ := zLtx h
  refine d_puti X lf6_46 (by first | exact q_o | assumption) rfl dX6_pass_7 f_7 ?_
  refine a_aload_n X dX6_pass_10 rfl ?_
  refine a_getr X lf6_9 (by first | exact q_o | assumption) rfl (by omega) dX6_pass_11 ?_
  refine a_iconst (v := 0) X dX6_pass_14 (by decide) ?_
  obtain ⟨M_15, f_15, h⟩ := zLtx h
  refine a_callSNu X dX6_pass_15 miX7_fill lm6_49 (zMu (c_fill (by first | exact q_times | assumption) (by decide)) f_15) rfl rfl (Nat.le_of_ble_eq_true rfl) ⟨by decide, by decide, by decide, by decide⟩ ?_
  refine a_aload_n X dX6_pass_18 rfl ?_
  refine a_getr X lf6_15 (by first | exact q_o | assumption) rfl (by omega) dX6_pass_19 ?_
  refine a_iconst (v := 0) X dX6_pass_22 (by decide) ?_
  obtain ⟨M_23, f_23, h⟩ := zLtx h
  refine a_callSNu X dX6_pass_23 miX7_fill lm6_49 (zMu (c_fill (by first | exact q_firstWish | assumption) (by decide)) f_23) rfl rfl (Nat.le_of_ble_eq_true rfl) ⟨by decide, by decide, by decide, by decide⟩ ?_
  refine a_aload_n X dX6_pass_26 rfl ?_
  refine a_getr X lf6_18 (by first | exact q_o | assumption) rfl (by omega) dX6_pass_27 ?_
  refine a_iconst (v := 0) X dX6_pass_30 (by decide) ?_
  obtain ⟨M_31, f_31, h⟩ := zLtx h
  refine a_callSNu X dX6_pass_31 miX7_fill lm6_49 (zMu (c_fill (by first | exact q_dry | assumption) (by decide)) f_31) rfl rfl (Nat.le_of_ble_eq_true rfl) ⟨by decide, by decide, by decide, by decide⟩ ?_
  refine a_aload_n X dX6_pass_34 rfl ?_
  refine a_getr X lf6_24 (by first | exact q_o | assumption) rfl (by omega) dX6_pass_35 ?_
  refine a_aload_n X dX6_pass_38 rfl ?_
  obtain ⟨e_39, f_39, h⟩ := zBx h
  refine a_callVu X dX6_pass_39 miX4_take lm6_53 (t_X4_take (by first | exact q_list | assumption) (by first | exact hA | assumption) (by omega) f_39) (by first | exact q_list_o | assumption) rfl rfl rfl (Nat.le_of_ble_eq_true rfl) ⟨by decide, by decide, by decide, by decide⟩ ?_
  refine a_iconst (v := 1) X dX6_pass_42 (by decide) ?_
  refine a_istore X dX6_pass_43 (by decide) ?_
  exact Zw.to2 (H_45 _ _ _ _ _ h) rfl rfl rfl
noncomputable def D_X6_unserved_28 (Q : Nat) (M : zMt) (k4 : Int32 → Int32 → Int32 → Option (Int32)) (x1_28 : Int32) (x3_28 : Int32) (y0_28 : Int32) (y1_28 : Int32) : Option (Int32) :=
  k4 x1_28 (y0_28 ||| y1_28) (x3_28 + 1)
noncomputable def D_X6_unserved_4 (Q : Nat) (M : zMt) : Nat → Int32 → Int32 → Int32 → Option (Int32)
  | 0, _, _, _ => none
  | n + 1, x1_4, x2_4, x3_4 =>
    if x1_4 ≤ x3_4 then
      some (x2_4)
    else
      if (zrd 0 (M (Q + 1)) 10 x3_4) = 0 then
        D_X6_unserved_28 Q M (D_X6_unserved_4 Q M n) x1_4 x3_4 x2_4 ((1 : Int32) <<< (x3_4 &&& 31))
      else
        D_X6_unserved_28 Q M (D_X6_unserved_4 Q M n) x1_4 x3_4 x2_4 (0 : Int32)
noncomputable def D_X6_unserved (Q : Nat) (M : zMt) (v0 : Int32) : Option (Int32) :=
  D_X6_unserved_4 Q M zFu v0 (0 : Int32) (0 : Int32)
set_option maxRecDepth 100000 in
set_option maxHeartbeats 4000000 in
theorem t_X6_unserved {l : Launch} {G : zG} {b : Nat} {L : List zC} {M : zMt} {N : zNt} {Q : Nat} {v0 : Int32} (hQ : LX6 L Q) {r : Int32} (h : D_X6_unserved Q M v0 = some r) : zM l G b yX6_unserved cX6_unserved 4 (some .int) 1 0 0 [.ref Q, .int v0] (L, M, N) (fun r2 z => r2 = some (.int r) ∧ z = (L, M, N)) := by
  refine zM.of miX6_unserved (Nat.le_of_ble_eq_true rfl) ?_
  intro p e s m args below meth c X hr hname
  generalize hF : ((fun r2 z => r2 = some (.int r) ∧ z = (L, M, N)) : Option Value → zS → Prop) = FQ
  change Zw p l e { frames := 1, cells := 0, slots := 0, locals := 80 * (1) } s m args below meth c G b 4 (MQ below (zQ G b FQ) args s 0 0 (fun q : Nat => b ≤ q)) 0 0 0 [some (.ref Q), some (.int v0), none, none] [] (L, M, N)
  have q_lt := hQ.1
  have q_o := hQ.2.1
  have q_times := hQ.2.2.1
  have L_4 : ∀ u : Nat, ∀ (x1_4 : Int32) (x2_4 : Int32) (x3_4 : Int32), D_X6_unserved_4 Q M u x1_4 x2_4 x3_4 = some r → Zw p l e { frames := 1, cells := 0, slots := 0, locals := 80 * (1) } s m args below meth c G b 4 (MQ below (zQ G b FQ) args s 0 0 (fun q : Nat => b ≤ q)) 0 0 4 [some (.ref (Q)), some (.int x1_4), some (.int x2_4), some (.int x3_4)] [] (L, M, N) := by
    intro u
    induction u with
    | zero => intro x1_4 x2_4 x3_4 h; cases (show none = some r from h)
    | succ u_4 ih_4 =>
      have J_28 : ∀ (x1_28 : Int32) (x2_28 : Int32) (x3_28 : Int32) (y0_28 : Int32) (y1_28 : Int32), D_X6_unserved_28 Q M (D_X6_unserved_4 Q M u_4) x1_28 x3_28 y0_28 y1_28 = some r → Zw p l e { frames := 1, cells := 0, slots := 0, locals := 80 * (1) } s m args below meth c G b 4 (MQ below (zQ G b FQ) args s 0 0 (fun q : Nat => b ≤ q)) 0 0 28 [some (.ref (Q)), some (.int x1_28), some (.int x2_28), some (.int x3_28)] [.int y1_28, .int y0_28] (L, M, N) := by
        intro x1_28 x2_28 x3_28 y0_28 y1_28 h
        unfold D_X6_unserved_28 at h
        refine a_ior X dX6_unserved_28 ?_
        refine a_istore_n X dX6_unserved_29 (by decide) ?_
        refine a_iinc (v := x3_28 + 1) X dX6_unserved_30 (by decide) rfl zi_1 ?_
        refine a_goto (tgt := 4) X dX6_unserved_33 (by decide) ?_
        exact Zw.to2 (ih_4 _ _ _ h) rfl rfl rfl
      intro x1_4 x2_4 x3_4 h
      rw [D_X6_unserved_4] at h
      refine a_iload_n X dX6_unserved_4 rfl ?_
      refine a_iload_n X dX6_unserved_5 rfl ?_
      refine a_icmp_ge (tgt := 36) X dX6_unserved_6 (by decide) (fun h_6 => ?_) (fun h_6 => ?_)
      · replace h := (if_pos h_6).symm.trans h
        refine a_iload_n X dX6_unserved_36 rfl ?_
        refine a_iret X hr dX6_unserved_37 ⟨by decide, by decide⟩ ?_
        subst hF
        rw [← Option.some.inj h]
        exact ⟨rfl, rfl⟩
      · replace h := (if_neg h_6).symm.trans h
        refine a_iload_n X dX6_unserved_9 rfl ?_
        refine a_aload_n X dX6_unserved_10 rfl ?_
        refine a_getr X lf6_9 (by first | exact q_o | assumption) rfl (by omega) dX6_unserved_11 ?_
        refine a_iload_n X dX6_unserved_14 rfl ?_
        refine a_callSNv X dX6_unserved_15 miX7_cell lm6_82 (c_cell (by first | exact q_times | assumption) (by decide)) rfl rfl (Nat.le_of_ble_eq_true rfl) ⟨by decide, by decide, by decide, by decide⟩ ?_
        refine a_if_ne (tgt := 27) X dX6_unserved_18 (by decide) (fun h_18 => ?_) (fun h_18 => ?_)
        · replace h := (if_neg h_18).symm.trans h
          refine a_iconst (v := 0) X dX6_unserved_27 (by decide) ?_
          exact Zw.to2 (J_28 _ _ _ _ _ h) rfl rfl rfl
        · replace h := (if_pos h_18).symm.trans h
          refine a_iconst (v := 1) X dX6_unserved_21 (by decide) ?_
          refine a_iload_n X dX6_unserved_22 rfl ?_
          refine a_ishl X dX6_unserved_23 ?_
          refine a_goto (tgt := 28) X dX6_unserved_24 (by decide) ?_
          exact Zw.to2 (J_28 _ _ _ _ _ h) rfl rfl rfl
  have H_4 : ∀ (x1_4 : Int32) (x2_4 : Int32) (x3_4 : Int32), D_X6_unserved_4 Q M zFu x1_4 x2_4 x3_4 = some r → Zw p l e { frames := 1, cells := 0, slots := 0, locals := 80 * (1) } s m args below meth c G b 4 (MQ below (zQ G b FQ) args s 0 0 (fun q : Nat => b ≤ q)) 0 0 4 [some (.ref (Q)), some (.int x1_4), some (.int x2_4), some (.int x3_4)] [] (L, M, N) := L_4 zFu
  unfold D_X6_unserved at h
  refine a_iconst (v := 0) X dX6_unserved_0 (by decide) ?_
  refine a_istore_n X dX6_unserved_1 (by decide) ?_
  refine a_iconst (v := 0) X dX6_unserved_2 (by decide) ?_
  refine a_istore_n X dX6_unserved_3 (by decide) ?_
  exact Zw.to2 (H_4 _ _ _ h) rfl rfl rfl
noncomputable def D_X7_status (P : Nat) (M : zMt)  : Option (Int32) :=
  some ((M P 0))
set_option maxRecDepth 100000 in
set_option maxHeartbeats 4000000 in
theorem t_X7_status {l : Launch} {G : zG} {b : Nat} {L : List zC} {M : zMt} {N : zNt} {P : Nat}  (hP : LX7 L P) {r : Int32} (h : D_X7_status P M = some r) : zM l G b yX7_status cX7_status 1 (some .int) 0 0 0 [.ref P] (L, M, N) (fun r2 z => r2 = some (.int r) ∧ z = (L, M, N)) := by
  refine zM.of miX7_status (Nat.le_of_ble_eq_true rfl) ?_
  intro p e s m args below meth c X hr hname
  generalize hF : ((fun r2 z => r2 = some (.int r) ∧ z = (L, M, N)) : Option Value → zS → Prop) = FQ
  change Zw p l e { frames := 0, cells := 0, slots := 0, locals := 80 * (0) } s m args below meth c G b 1 (MQ below (zQ G b FQ) args s 0 0 (fun q : Nat => b ≤ q)) 0 0 0 [some (.ref P)] [] (L, M, N)
  have p_lt := hP.1
  have p_o := hP.2.1
  unfold D_X7_status at h
  refine a_aload_n X dX7_status_0 rfl ?_
  refine a_geti X lf7_88 (by first | exact p_o | assumption) rfl dX7_status_1 ?_
  refine a_iret X hr dX7_status_4 ⟨by decide, by decide⟩ ?_
  subst hF
  rw [← Option.some.inj h]
  exact ⟨rfl, rfl⟩
noncomputable def D_X7_append_3 (P : Nat) : Nat → Int32 → Int32 → zMt → Option (zMt)
  | 0, _, _, _ => none
  | n + 1, x1_3, x2_3, M_3 =>
    if x2_3 < 0 then
      some (M_3)
    else
      zLt (zwr M_3 (P + 1) 700 (M_3 P 1) (((Int32.toUInt32 x1_3 >>> (Int32.toUInt32 x2_3 &&& Int32.toUInt32 31)).toInt32) &&& (255 : Int32))) fun M_22 =>
      zLt (zu M_22 P 1 ((M_22 P 1) + (1 : Int32))) fun M_32 =>
      (D_X7_append_3 P n) x1_3 (x2_3 + (-8)) M_32
noncomputable def D_X7_append (P : Nat) (v0 : Int32) (M : zMt) : Option (zMt) :=
  D_X7_append_3 P zFu v0 (24 : Int32) M
set_option maxRecDepth 100000 in
set_option maxHeartbeats 4000000 in
theorem t_X7_append {l : Launch} {G : zG} {b : Nat} {L : List zC} {M : zMt} {N : zNt} {P : Nat} {v0 : Int32} (hP : LX7 L P) {r : zMt} (h : D_X7_append P v0 M = some r) : zM l G b yX7_append cX7_append 3 none 1 0 0 [.ref P, .int v0] (L, M, N) (fun r2 z => r2 = none ∧ z = (L, r, N)) := by
  refine zM.of miX7_append (Nat.le_of_ble_eq_true rfl) ?_
  intro p e s m args below meth c X hr hname
  generalize hF : ((fun r2 z => r2 = none ∧ z = (L, r, N)) : Option Value → zS → Prop) = FQ
  change Zw p l e { frames := 1, cells := 0, slots := 0, locals := 80 * (1) } s m args below meth c G b 3 (MQ below (zQ G b FQ) args s 0 0 (fun q : Nat => b ≤ q)) 0 0 0 [some (.ref P), some (.int v0), none] [] (L, M, N)
  have p_lt := hP.1
  have p_o := hP.2.1
  have p_tape := hP.2.2.1
  have L_3 : ∀ u : Nat, ∀ (x1_3 : Int32) (x2_3 : Int32) (M_3 : zMt), D_X7_append_3 P u x1_3 x2_3 M_3 = some r → Zw p l e { frames := 1, cells := 0, slots := 0, locals := 80 * (1) } s m args below meth c G b 3 (MQ below (zQ G b FQ) args s 0 0 (fun q : Nat => b ≤ q)) 0 0 3 [some (.ref (P)), some (.int x1_3), some (.int x2_3)] [] (L, M_3, N) := by
    intro u
    induction u with
    | zero => intro x1_3 x2_3 M_3 h; cases (show none = some r from h)
    | succ u_3 ih_3 =>
      intro x1_3 x2_3 M_3 h
      rw [D_X7_append_3] at h
      refine a_iload_n X dX7_append_3 rfl ?_
      refine a_if_lt (tgt := 41) X dX7_append_4 (by decide) (fun h_4 => ?_) (fun h_4 => ?_)
      · replace h := (if_pos h_4).symm.trans h
        refine a_vret X hr dX7_append_41 ⟨by decide, by decide⟩ ?_
        subst hF
        rw [← Option.some.inj h]
        exact ⟨rfl, rfl⟩
      · replace h := (if_neg h_4).symm.trans h
        refine a_aload_n X dX7_append_7 rfl ?_
        refine a_getr X lf7_9 (by first | exact p_o | assumption) rfl (by omega) dX7_append_8 ?_
        refine a_aload_n X dX7_append_11 rfl ?_
        refine a_geti X lf7_91 (by first | exact p_o | assumption) rfl dX7_append_12 ?_
        refine a_iload_n X dX7_append_15 rfl ?_
        refine a_iload_n X dX7_append_16 rfl ?_
        refine a_iushr X dX7_append_17 ?_
        refine a_sipush (v := 255) X dX7_append_18 (by decide) ?_
        refine a_iand X dX7_append_21 ?_
        obtain ⟨M_22, f_22, h⟩ := zLtx h
        refine a_callSu X dX7_append_22 miX7_put lm7_98 (zMu (c_put (by first | exact p_tape | assumption) (by decide)) f_22) rfl rfl (Nat.le_of_ble_eq_true rfl) ⟨by decide, by decide, by decide, by decide⟩ ?_
        refine a_aload_n X dX7_append_25 rfl ?_
        refine a_dup X dX7_append_26 rfl ?_
        refine a_geti X lf7_91 (by first | exact p_o | assumption) rfl dX7_append_27 ?_
        refine a_iconst (v := 1) X dX7_append_30 (by decide) ?_
        refine a_iadd X dX7_append_31 ?_
        obtain ⟨M_32, f_32, h⟩ := zLtx h
        refine d_puti X lf7_91 (by first | exact p_o | assumption) rfl dX7_append_32 f_32 ?_
        refine a_iinc (v := x2_3 + (-8)) X dX7_append_35 (by decide) rfl (by rw [show Int32.ofInt (-8) = (-8 : Int32) by decide]) ?_
        refine a_goto (tgt := 3) X dX7_append_38 (by decide) ?_
        exact Zw.to2 (ih_3 _ _ _ h) rfl rfl rfl
  have H_3 : ∀ (x1_3 : Int32) (x2_3 : Int32) (M_3 : zMt), D_X7_append_3 P zFu x1_3 x2_3 M_3 = some r → Zw p l e { frames := 1, cells := 0, slots := 0, locals := 80 * (1) } s m args below meth c G b 3 (MQ below (zQ G b FQ) args s 0 0 (fun q : Nat => b ≤ q)) 0 0 3 [some (.ref (P)), some (.int x1_3), some (.int x2_3)] [] (L, M_3, N) := L_3 zFu
  unfold D_X7_append at h
  refine a_bipush (v := 24) X dX7_append_0 (by decide) ?_
  refine a_istore_n X dX7_append_2 (by decide) ?_
  exact Zw.to2 (H_3 _ _ _ h) rfl rfl rfl
noncomputable def D_X7_feed (P : Nat) (v0 : Int32) (v1 : Int32) (v2 : Int32) (v3 : Int32) (v4 : Int32) (M : zMt) : Option (Int32 × zMt) :=
  if ((M P 1) + (20 : Int32)) ≤ (700 : Int32) then
    zB (D_X7_append P v0 M) fun e_17 =>
    zB (D_X7_append P v1 e_17) fun e_22 =>
    zB (D_X7_append P v2 e_22) fun e_27 =>
    zB (D_X7_append P v3 e_27) fun e_33 =>
    zB (D_X7_append P v4 e_33) fun e_39 =>
    some ((e_39 P 1), e_39)
  else
    some ((-1 : Int32), M)
set_option maxRecDepth 100000 in
set_option maxHeartbeats 4000000 in
theorem t_X7_feed {l : Launch} {G : zG} {b : Nat} {L : List zC} {M : zMt} {N : zNt} {P : Nat} {v0 : Int32} {v1 : Int32} {v2 : Int32} {v3 : Int32} {v4 : Int32} (hP : LX7 L P) {r : Int32 × zMt} (h : D_X7_feed P v0 v1 v2 v3 v4 M = some r) : zM l G b yX7_feed cX7_feed 6 (some .int) 2 0 0 [.ref P, .int v0, .int v1, .int v2, .int v3, .int v4] (L, M, N) (fun r2 z => r2 = some (.int r.1) ∧ z = (L, r.2, N)) := by
  refine zM.of miX7_feed (Nat.le_of_ble_eq_true rfl) ?_
  intro p e s m args below meth c X hr hname
  generalize hF : ((fun r2 z => r2 = some (.int r.1) ∧ z = (L, r.2, N)) : Option Value → zS → Prop) = FQ
  change Zw p l e { frames := 2, cells := 0, slots := 0, locals := 80 * (2) } s m args below meth c G b 6 (MQ below (zQ G b FQ) args s 0 0 (fun q : Nat => b ≤ q)) 0 0 0 [some (.ref P), some (.int v0), some (.int v1), some (.int v2), some (.int v3), some (.int v4)] [] (L, M, N)
  have p_lt := hP.1
  have p_o := hP.2.1
  unfold D_X7_feed at h
  refine a_aload_n X dX7_feed_0 rfl ?_
  refine a_geti X lf7_91 (by first | exact p_o | assumption) rfl dX7_feed_1 ?_
  refine a_bipush (v := 20) X dX7_feed_4 (by decide) ?_
  refine a_iadd X dX7_feed_6 ?_
  refine a_sipush (v := 700) X dX7_feed_7 (by decide) ?_
  refine a_icmp_le (tgt := 15) X dX7_feed_10 (by decide) (fun h_10 => ?_) (fun h_10 => ?_)
  · replace h := (if_pos h_10).symm.trans h
    refine a_aload_n X dX7_feed_15 rfl ?_
    refine a_iload_n X dX7_feed_16 rfl ?_
    obtain ⟨e_17, f_17, h⟩ := zBx h
    refine a_callVu X dX7_feed_17 miX7_append lm7_94 (t_X7_append (by first | exact hP | assumption) f_17) (by first | exact p_o | assumption) rfl rfl rfl (Nat.le_of_ble_eq_true rfl) ⟨by decide, by decide, by decide, by decide⟩ ?_
    refine a_aload_n X dX7_feed_20 rfl ?_
    refine a_iload_n X dX7_feed_21 rfl ?_
    obtain ⟨e_22, f_22, h⟩ := zBx h
    refine a_callVu X dX7_feed_22 miX7_append lm7_94 (t_X7_append (by first | exact hP | assumption) f_22) (by first | exact p_o | assumption) rfl rfl rfl (Nat.le_of_ble_eq_true rfl) ⟨by decide, by decide, by decide, by decide⟩ ?_
    refine a_aload_n X dX7_feed_25 rfl ?_
    refine a_iload_n X dX7_feed_26 rfl ?_
    obtain ⟨e_27, f_27, h⟩ := zBx h
    refine a_callVu X dX7_feed_27 miX7_append lm7_94 (t_X7_append (by first | exact hP | assumption) f_27) (by first | exact p_o | assumption) rfl rfl rfl (Nat.le_of_ble_eq_true rfl) ⟨by decide, by decide, by decide, by decide⟩ ?_
    refine a_aload_n X dX7_feed_30 rfl ?_
    refine a_iload X dX7_feed_31 rfl ?_
    obtain ⟨e_33, f_33, h⟩ := zBx h
    refine a_callVu X dX7_feed_33 miX7_append lm7_94 (t_X7_append (by first | exact hP | assumption) f_33) (by first | exact p_o | assumption) rfl rfl rfl (Nat.le_of_ble_eq_true rfl) ⟨by decide, by decide, by decide, by decide⟩ ?_
    refine a_aload_n X dX7_feed_36 rfl ?_
    refine a_iload X dX7_feed_37 rfl ?_
    obtain ⟨e_39, f_39, h⟩ := zBx h
    refine a_callVu X dX7_feed_39 miX7_append lm7_94 (t_X7_append (by first | exact hP | assumption) f_39) (by first | exact p_o | assumption) rfl rfl rfl (Nat.le_of_ble_eq_true rfl) ⟨by decide, by decide, by decide, by decide⟩ ?_
    refine a_aload_n X dX7_feed_42 rfl ?_
    refine a_geti X lf7_91 (by first | exact p_o | assumption) rfl dX7_feed_43 ?_
    refine a_iret X hr dX7_feed_46 ⟨by decide, by decide⟩ ?_
    subst hF
    rw [← Option.some.inj h]
    exact ⟨rfl, rfl⟩
  · replace h := (if_neg h_10).symm.trans h
    refine a_iconst (v := -1) X dX7_feed_13 (by decide) ?_
    refine a_iret X hr dX7_feed_14 ⟨by decide, by decide⟩ ?_
    subst hF
    rw [← Option.some.inj h]
    exact ⟨rfl, rfl⟩
noncomputable def D_X7_refuse (P : Nat) (v0 : Int32) (M : zMt) : Option (Int32 × zMt) :=
  zLt (zu M P 0 v0) fun M_2 =>
  some ((-1 : Int32), M_2)
set_option maxRecDepth 100000 in
set_option maxHeartbeats 4000000 in
theorem t_X7_refuse {l : Launch} {G : zG} {b : Nat} {L : List zC} {M : zMt} {N : zNt} {P : Nat} {v0 : Int32} (hP : LX7 L P) {r : Int32 × zMt} (h : D_X7_refuse P v0 M = some r) : zM l G b yX7_refuse cX7_refuse 2 (some .int) 0 0 0 [.ref P, .int v0] (L, M, N) (fun r2 z => r2 = some (.int r.1) ∧ z = (L, r.2, N)) := by
  refine zM.of miX7_refuse (Nat.le_of_ble_eq_true rfl) ?_
  intro p e s m args below meth c X hr hname
  generalize hF : ((fun r2 z => r2 = some (.int r.1) ∧ z = (L, r.2, N)) : Option Value → zS → Prop) = FQ
  change Zw p l e { frames := 0, cells := 0, slots := 0, locals := 80 * (0) } s m args below meth c G b 2 (MQ below (zQ G b FQ) args s 0 0 (fun q : Nat => b ≤ q)) 0 0 0 [some (.ref P), some (.int v0)] [] (L, M, N)
  have p_lt := hP.1
  have p_o := hP.2.1
  unfold D_X7_refuse at h
  refine a_aload_n X dX7_refuse_0 rfl ?_
  refine a_iload_n X dX7_refuse_1 rfl ?_
  obtain ⟨M_2, f_2, h⟩ := zLtx h
  refine d_puti X lf7_88 (by first | exact p_o | assumption) rfl dX7_refuse_2 f_2 ?_
  refine a_iconst (v := -1) X dX7_refuse_5 (by decide) ?_
  refine a_iret X hr dX7_refuse_6 ⟨by decide, by decide⟩ ?_
  subst hF
  rw [← Option.some.inj h]
  exact ⟨rfl, rfl⟩
noncomputable def D_X7_answer (P : Nat) (v0 : Int32) (M : zMt) : Option (Int32 × zMt) :=
  zLt (zu M P 0 (0 : Int32)) fun M_2 =>
  some (v0, M_2)
set_option maxRecDepth 100000 in
set_option maxHeartbeats 4000000 in
theorem t_X7_answer {l : Launch} {G : zG} {b : Nat} {L : List zC} {M : zMt} {N : zNt} {P : Nat} {v0 : Int32} (hP : LX7 L P) {r : Int32 × zMt} (h : D_X7_answer P v0 M = some r) : zM l G b yX7_answer cX7_answer 2 (some .int) 0 0 0 [.ref P, .int v0] (L, M, N) (fun r2 z => r2 = some (.int r.1) ∧ z = (L, r.2, N)) := by
  refine zM.of miX7_answer (Nat.le_of_ble_eq_true rfl) ?_
  intro p e s m args below meth c X hr hname
  generalize hF : ((fun r2 z => r2 = some (.int r.1) ∧ z = (L, r.2, N)) : Option Value → zS → Prop) = FQ
  change Zw p l e { frames := 0, cells := 0, slots := 0, locals := 80 * (0) } s m args below meth c G b 2 (MQ below (zQ G b FQ) args s 0 0 (fun q : Nat => b ≤ q)) 0 0 0 [some (.ref P), some (.int v0)] [] (L, M, N)
  have p_lt := hP.1
  have p_o := hP.2.1
  unfold D_X7_answer at h
  refine a_aload_n X dX7_answer_0 rfl ?_
  refine a_iconst (v := 0) X dX7_answer_1 (by decide) ?_
  obtain ⟨M_2, f_2, h⟩ := zLtx h
  refine d_puti X lf7_88 (by first | exact p_o | assumption) rfl dX7_answer_2 f_2 ?_
  refine a_iload_n X dX7_answer_5 rfl ?_
  refine a_iret X hr dX7_answer_6 ⟨by decide, by decide⟩ ?_
  subst hF
  rw [← Option.some.inj h]
  exact ⟨rfl, rfl⟩
noncomputable def D_X7_changed (P : Nat) (v0 : Int32) (M : zMt) : Option (Int32 × zMt) :=
  zB (D_X2_gather (P + 91) (P + 17) M) fun e_8 =>
  zLt (zu e_8 P 3 (0 : Int32)) fun M_13 =>
  zB (D_X7_answer P v0 M_13) fun e_18 =>
  some (e_18.1, e_18.2)
set_option maxRecDepth 100000 in
set_option maxHeartbeats 4000000 in
theorem t_X7_changed {l : Launch} {G : zG} {b : Nat} {L : List zC} {M : zMt} {N : zNt} {P : Nat} {v0 : Int32} (hP : LX7 L P) {r : Int32 × zMt} (h : D_X7_changed P v0 M = some r) : zM l G b yX7_changed cX7_changed 2 (some .int) 3 0 0 [.ref P, .int v0] (L, M, N) (fun r2 z => r2 = some (.int r.1) ∧ z = (L, r.2, N)) := by
  refine zM.of miX7_changed (Nat.le_of_ble_eq_true rfl) ?_
  intro p e s m args below meth c X hr hname
  generalize hF : ((fun r2 z => r2 = some (.int r.1) ∧ z = (L, r.2, N)) : Option Value → zS → Prop) = FQ
  change Zw p l e { frames := 3, cells := 0, slots := 0, locals := 80 * (3) } s m args below meth c G b 2 (MQ below (zQ G b FQ) args s 0 0 (fun q : Nat => b ≤ q)) 0 0 0 [some (.ref P), some (.int v0)] [] (L, M, N)
  have p_lt := hP.1
  have p_o := hP.2.1
  have p_list := hP.2.2.2.2.2.1
  have p_list_lt := p_list.1
  have p_list_o := p_list.2.1
  have p_pool := hP.2.2.2.2.2.2.2.1
  have p_pool_lt := p_pool.1
  have p_pool_o := p_pool.2.1
  unfold D_X7_changed at h
  refine a_aload_n X dX7_changed_0 rfl ?_
  refine a_getr X lf7_40 (by first | exact p_o | assumption) rfl (by omega) dX7_changed_1 ?_
  refine a_aload_n X dX7_changed_4 rfl ?_
  refine a_getr X lf7_26 (by first | exact p_o | assumption) rfl (by omega) dX7_changed_5 ?_
  obtain ⟨e_8, f_8, h⟩ := zBx h
  refine a_callVu X dX7_changed_8 miX2_gather lm7_80 (t_X2_gather (by first | exact p_pool | assumption) (by first | exact p_list | assumption) f_8) (by first | exact p_pool_o | assumption) rfl rfl rfl (Nat.le_of_ble_eq_true rfl) ⟨by decide, by decide, by decide, by decide⟩ ?_
  refine a_aload_n X dX7_changed_11 rfl ?_
  refine a_iconst (v := 0) X dX7_changed_12 (by decide) ?_
  obtain ⟨M_13, f_13, h⟩ := zLtx h
  refine d_putz X (by first | exact Or.inl rfl | exact Or.inr rfl | assumption) lf7_368 (by first | exact p_o | assumption) rfl dX7_changed_13 f_13 ?_
  refine a_aload_n X dX7_changed_16 rfl ?_
  refine a_iload_n X dX7_changed_17 rfl ?_
  obtain ⟨e_18, f_18, h⟩ := zBx h
  refine a_callVv X dX7_changed_18 miX7_answer lm7_134 (t_X7_answer (by first | exact hP | assumption) f_18) (by first | exact p_o | assumption) rfl rfl rfl (Nat.le_of_ble_eq_true rfl) ⟨by decide, by decide, by decide, by decide⟩ ?_
  refine a_iret X hr dX7_changed_21 ⟨by decide, by decide⟩ ?_
  subst hF
  rw [← Option.some.inj h]
  exact ⟨rfl, rfl⟩
noncomputable def D_X7_load_12 (P : Nat) (M_12 : zMt) (N_12 : zNt) : Option (Int32 × zMt × zNt) :=
  zB (D_X7_refuse P (1 : Int32) M_12) fun e_14 =>
  some (e_14.1, e_14.2, N_12)
noncomputable def D_X7_load (P : Nat) (v0 : Int32) (M : zMt) (N : zNt) : Option (Int32 × zMt × zNt) :=
  if v0 < 0 then
    D_X7_load_12 P M N
  else
    if v0 ≤ (M P 1) then
      zB (D_X3_read (P + 3) (P + 1) 700 v0 M N) fun e_27 =>
      zLt (zu e_27.2.1 P 1 (0 : Int32)) fun M_33 =>
      if e_27.1 = 0 then
        zB (D_X7_refuse P (9 : Int32) M_33) fun e_43 =>
        some (e_43.1, e_43.2, e_27.2.2)
      else
        zB (D_X4_take (P + 17) (P + 4) M_33) fun e_58 =>
        zB (D_X1_forget (P + 25) e_58) fun e_65 =>
        zB (D_X7_changed P (e_65 (P + 17) 1) e_65) fun e_76 =>
        some (e_76.1, e_76.2, e_27.2.2)
    else
      D_X7_load_12 P M N
set_option maxRecDepth 100000 in
set_option maxHeartbeats 4000000 in
theorem t_X7_load {l : Launch} {G : zG} {b : Nat} {L : List zC} {M : zMt} {N : zNt} {P : Nat} {v0 : Int32} (hP : LX7 L P) {r : Int32 × zMt × zNt} (h : D_X7_load P v0 M N = some r) : zM l G b yX7_load cX7_load 3 (some .int) 10 0 0 [.ref P, .int v0] (L, M, N) (fun r2 z => r2 = some (.int r.1) ∧ z = (L, r.2.1, r.2.2)) := by
  refine zM.of miX7_load (Nat.le_of_ble_eq_true rfl) ?_
  intro p e s m args below meth c X hr hname
  generalize hF : ((fun r2 z => r2 = some (.int r.1) ∧ z = (L, r.2.1, r.2.2)) : Option Value → zS → Prop) = FQ
  change Zw p l e { frames := 10, cells := 0, slots := 0, locals := 80 * (10) } s m args below meth c G b 3 (MQ below (zQ G b FQ) args s 0 0 (fun q : Nat => b ≤ q)) 0 0 0 [some (.ref P), some (.int v0), none] [] (L, M, N)
  have p_lt := hP.1
  have p_o := hP.2.1
  have p_tape := hP.2.2.1
  have p_reader := hP.2.2.2.2.1
  have p_reader_lt := p_reader.1
  have p_reader_o := p_reader.2.1
  have p_reader_draft := p_reader.2.2.1
  have p_list := hP.2.2.2.2.2.1
  have p_list_lt := p_list.1
  have p_list_o := p_list.2.1
  have p_past := hP.2.2.2.2.2.2.1
  have p_past_lt := p_past.1
  have p_past_o := p_past.2.1
  have J_12 : ∀ (x1_12 : Int32) (x2_12 : Option Value) (M_12 : zMt) (N_12 : zNt), D_X7_load_12 P M_12 N_12 = some r → Zw p l e { frames := 10, cells := 0, slots := 0, locals := 80 * (10) } s m args below meth c G b 3 (MQ below (zQ G b FQ) args s 0 0 (fun q : Nat => b ≤ q)) 0 0 12 [some (.ref (P)), some (.int x1_12), x2_12] [] (L, M_12, N_12) := by
    intro x1_12 x2_12 M_12 N_12 h
    unfold D_X7_load_12 at h
    refine a_aload_n X dX7_load_12 rfl ?_
    refine a_iconst (v := 1) X dX7_load_13 (by decide) ?_
    obtain ⟨e_14, f_14, h⟩ := zBx h
    refine a_callVv X dX7_load_14 miX7_refuse lm7_102 (t_X7_refuse (by first | exact hP | assumption) f_14) (by first | exact p_o | assumption) rfl rfl rfl (Nat.le_of_ble_eq_true rfl) ⟨by decide, by decide, by decide, by decide⟩ ?_
    refine a_iret X hr dX7_load_17 ⟨by decide, by decide⟩ ?_
    subst hF
    rw [← Option.some.inj h]
    exact ⟨rfl, rfl⟩
  unfold D_X7_load at h
  refine a_iload_n X dX7_load_0 rfl ?_
  refine a_if_lt (tgt := 12) X dX7_load_1 (by decide) (fun h_1 => ?_) (fun h_1 => ?_)
  · replace h := (if_pos h_1).symm.trans h
    exact Zw.to2 (J_12 _ _ _ _ h) rfl rfl rfl
  · replace h := (if_neg h_1).symm.trans h
    refine a_iload_n X dX7_load_4 rfl ?_
    refine a_aload_n X dX7_load_5 rfl ?_
    refine a_geti X lf7_91 (by first | exact p_o | assumption) rfl dX7_load_6 ?_
    refine a_icmp_le (tgt := 18) X dX7_load_9 (by decide) (fun h_9 => ?_) (fun h_9 => ?_)
    · replace h := (if_pos h_9).symm.trans h
      refine a_aload_n X dX7_load_18 rfl ?_
      refine a_getr X lf7_19 (by first | exact p_o | assumption) rfl (by omega) dX7_load_19 ?_
      refine a_aload_n X dX7_load_22 rfl ?_
      refine a_getr X lf7_9 (by first | exact p_o | assumption) rfl (by omega) dX7_load_23 ?_
      refine a_iload_n X dX7_load_26 rfl ?_
      obtain ⟨e_27, f_27, h⟩ := zBx h
      refine a_callVx X dX7_load_27 miX3_read lm7_106 (t_X3_read (by first | exact p_reader | assumption) (by first | exact p_tape | assumption) (by decide) (by omega) f_27) (by first | exact p_reader_o | assumption) rfl rfl rfl (Nat.le_of_ble_eq_true rfl) ⟨by decide, by decide, by decide, by decide⟩ (fun r_27 S_27 q_27 => ?_)
      obtain ⟨rfl, rfl, b_27⟩ := q_27
      refine a_istore_n X dX7_load_30 (by decide) ?_
      refine a_aload_n X dX7_load_31 rfl ?_
      refine a_iconst (v := 0) X dX7_load_32 (by decide) ?_
      obtain ⟨M_33, f_33, h⟩ := zLtx h
      refine d_puti X lf7_91 (by first | exact p_o | assumption) rfl dX7_load_33 f_33 ?_
      refine a_iload_n X dX7_load_36 rfl ?_
      refine a_if_ne (tgt := 47) X dX7_load_37 (by decide) (fun h_37 => ?_) (fun h_37 => ?_)
      · replace h := (if_neg h_37).symm.trans h
        refine a_aload_n X dX7_load_47 rfl ?_
        refine a_getr X lf7_26 (by first | exact p_o | assumption) rfl (by omega) dX7_load_48 ?_
        refine a_aload_n X dX7_load_51 rfl ?_
        refine a_getr X lf7_19 (by first | exact p_o | assumption) rfl (by omega) dX7_load_52 ?_
        refine a_getr X lf7_110 (by first | exact p_reader_o | assumption) rfl (by omega) dX7_load_55 ?_
        obtain ⟨e_58, f_58, h⟩ := zBx h
        refine a_callVu X dX7_load_58 miX4_take lm7_113 (t_X4_take (by first | exact p_list | assumption) (by first | exact p_reader_draft | assumption) (by omega) f_58) (by first | exact p_list_o | assumption) rfl rfl rfl (Nat.le_of_ble_eq_true rfl) ⟨by decide, by decide, by decide, by decide⟩ ?_
        refine a_aload_n X dX7_load_61 rfl ?_
        refine a_getr X lf7_33 (by first | exact p_o | assumption) rfl (by omega) dX7_load_62 ?_
        obtain ⟨e_65, f_65, h⟩ := zBx h
        refine a_callVu X dX7_load_65 miX1_forget lm7_116 (t_X1_forget (by first | exact p_past | assumption) f_65) (by first | exact p_past_o | assumption) rfl rfl rfl (Nat.le_of_ble_eq_true rfl) ⟨by decide, by decide, by decide, by decide⟩ ?_
        refine a_aload_n X dX7_load_68 rfl ?_
        refine a_aload_n X dX7_load_69 rfl ?_
        refine a_getr X lf7_26 (by first | exact p_o | assumption) rfl (by omega) dX7_load_70 ?_
        refine a_geti X lf7_119 (by first | exact p_list_o | assumption) rfl dX7_load_73 ?_
        obtain ⟨e_76, f_76, h⟩ := zBx h
        refine a_callVv X dX7_load_76 miX7_changed lm7_122 (t_X7_changed (by first | exact hP | assumption) f_76) (by first | exact p_o | assumption) rfl rfl rfl (Nat.le_of_ble_eq_true rfl) ⟨by decide, by decide, by decide, by decide⟩ ?_
        refine a_iret X hr dX7_load_79 ⟨by decide, by decide⟩ ?_
        subst hF
        rw [← Option.some.inj h]
        exact ⟨rfl, rfl⟩
      · replace h := (if_pos h_37).symm.trans h
        refine a_aload_n X dX7_load_40 rfl ?_
        refine a_bipush (v := 9) X dX7_load_41 (by decide) ?_
        obtain ⟨e_43, f_43, h⟩ := zBx h
        refine a_callVv X dX7_load_43 miX7_refuse lm7_102 (t_X7_refuse (by first | exact hP | assumption) f_43) (by first | exact p_o | assumption) rfl rfl rfl (Nat.le_of_ble_eq_true rfl) ⟨by decide, by decide, by decide, by decide⟩ ?_
        refine a_iret X hr dX7_load_46 ⟨by decide, by decide⟩ ?_
        subst hF
        rw [← Option.some.inj h]
        exact ⟨rfl, rfl⟩
    · replace h := (if_neg h_9).symm.trans h
      exact Zw.to2 (J_12 _ _ _ _ h) rfl rfl rfl
noncomputable def D_X7_fault_28 (P : Nat) (M : zMt) (y0_28 : Int32) : Option (Int32) :=
  some (y0_28)
noncomputable def D_X7_fault (P : Nat) (M : zMt) (v0 : Int32) : Option (Int32) :=
  if v0 = 0 then
    some ((M (P + 3) 1))
  else
    if v0 = (1 : Int32) then
      D_X7_fault_28 P M (M (P + 3) 2)
    else
      D_X7_fault_28 P M (-1 : Int32)
set_option maxRecDepth 100000 in
set_option maxHeartbeats 4000000 in
theorem t_X7_fault {l : Launch} {G : zG} {b : Nat} {L : List zC} {M : zMt} {N : zNt} {P : Nat} {v0 : Int32} (hP : LX7 L P) {r : Int32} (h : D_X7_fault P M v0 = some r) : zM l G b yX7_fault cX7_fault 2 (some .int) 0 0 0 [.ref P, .int v0] (L, M, N) (fun r2 z => r2 = some (.int r) ∧ z = (L, M, N)) := by
  refine zM.of miX7_fault (Nat.le_of_ble_eq_true rfl) ?_
  intro p e s m args below meth c X hr hname
  generalize hF : ((fun r2 z => r2 = some (.int r) ∧ z = (L, M, N)) : Option Value → zS → Prop) = FQ
  change Zw p l e { frames := 0, cells := 0, slots := 0, locals := 80 * (0) } s m args below meth c G b 2 (MQ below (zQ G b FQ) args s 0 0 (fun q : Nat => b ≤ q)) 0 0 0 [some (.ref P), some (.int v0)] [] (L, M, N)
  have p_lt := hP.1
  have p_o := hP.2.1
  have p_reader := hP.2.2.2.2.1
  have p_reader_lt := p_reader.1
  have p_reader_o := p_reader.2.1
  have J_28 : ∀ (x1_28 : Int32) (y0_28 : Int32), D_X7_fault_28 P M y0_28 = some r → Zw p l e { frames := 0, cells := 0, slots := 0, locals := 80 * (0) } s m args below meth c G b 2 (MQ below (zQ G b FQ) args s 0 0 (fun q : Nat => b ≤ q)) 0 0 28 [some (.ref (P)), some (.int x1_28)] [.int y0_28] (L, M, N) := by
    intro x1_28 y0_28 h
    unfold D_X7_fault_28 at h
    refine a_iret X hr dX7_fault_28 ⟨by decide, by decide⟩ ?_
    subst hF
    rw [← Option.some.inj h]
    exact ⟨rfl, rfl⟩
  unfold D_X7_fault at h
  refine a_iload_n X dX7_fault_0 rfl ?_
  refine a_if_ne (tgt := 12) X dX7_fault_1 (by decide) (fun h_1 => ?_) (fun h_1 => ?_)
  · replace h := (if_neg h_1).symm.trans h
    refine a_iload_n X dX7_fault_12 rfl ?_
    refine a_iconst (v := 1) X dX7_fault_13 (by decide) ?_
    refine a_icmp_ne (tgt := 27) X dX7_fault_14 (by decide) (fun h_14 => ?_) (fun h_14 => ?_)
    · replace h := (if_neg h_14).symm.trans h
      refine a_iconst (v := -1) X dX7_fault_27 (by decide) ?_
      exact Zw.to2 (J_28 _ _ h) rfl rfl rfl
    · replace h := (if_pos h_14).symm.trans h
      refine a_aload_n X dX7_fault_17 rfl ?_
      refine a_getr X lf7_19 (by first | exact p_o | assumption) rfl (by omega) dX7_fault_18 ?_
      refine a_geti X lf7_128 (by first | exact p_reader_o | assumption) rfl dX7_fault_21 ?_
      refine a_goto (tgt := 28) X dX7_fault_24 (by decide) ?_
      exact Zw.to2 (J_28 _ _ h) rfl rfl rfl
  · replace h := (if_pos h_1).symm.trans h
    refine a_aload_n X dX7_fault_4 rfl ?_
    refine a_getr X lf7_19 (by first | exact p_o | assumption) rfl (by omega) dX7_fault_5 ?_
    refine a_geti X lf7_125 (by first | exact p_reader_o | assumption) rfl dX7_fault_8 ?_
    refine a_iret X hr dX7_fault_11 ⟨by decide, by decide⟩ ?_
    subst hF
    rw [← Option.some.inj h]
    exact ⟨rfl, rfl⟩
noncomputable def D_X7_many (P : Nat) (v0 : Int32) (M : zMt) : Option (Int32 × zMt) :=
  if Int32.toInt v0 = 0 then
    zB (D_X7_answer P (M (P + 17) 0) M) fun e_68 =>
    some (e_68.1, e_68.2)
  else
  if Int32.toInt v0 = 1 then
    zB (D_X7_answer P (M (P + 17) 1) M) fun e_80 =>
    some (e_80.1, e_80.2)
  else
  if Int32.toInt v0 = 2 then
    zB (D_X7_answer P (M (P + 17) 2) M) fun e_92 =>
    some (e_92.1, e_92.2)
  else
  if Int32.toInt v0 = 3 then
    zB (D_X7_answer P (M (P + 91) 1) M) fun e_104 =>
    some (e_104.1, e_104.2)
  else
  if Int32.toInt v0 = 4 then
    zB (D_X7_answer P (M (P + 17) 3) M) fun e_116 =>
    some (e_116.1, e_116.2)
  else
  if Int32.toInt v0 = 5 then
    zB (D_X7_answer P (M (P + 17) 4) M) fun e_128 =>
    some (e_128.1, e_128.2)
  else
  if Int32.toInt v0 = 6 then
    zB (D_X7_answer P (M (P + 17) 5) M) fun e_140 =>
    some (e_140.1, e_140.2)
  else
  if Int32.toInt v0 = 7 then
    zB (D_X7_answer P (M (P + 17) 6) M) fun e_152 =>
    some (e_152.1, e_152.2)
  else
  if Int32.toInt v0 = 8 then
    zB (D_X7_answer P (M (P + 25) 0) M) fun e_164 =>
    some (e_164.1, e_164.2)
  else
  if Int32.toInt v0 = 9 then
    zB (D_X7_answer P (zsum (M (P + 18)) 5) M) fun e_179 =>
    some (e_179.1, e_179.2)
  else
  if Int32.toInt v0 = 10 then
    zB (D_X7_answer P (zsum (M (P + 20)) 10) M) fun e_194 =>
    some (e_194.1, e_194.2)
  else
    zB (D_X7_refuse P (1 : Int32) M) fun e_200 =>
    some (e_200.1, e_200.2)
set_option maxRecDepth 100000 in
set_option maxHeartbeats 4000000 in
theorem t_X7_many {l : Launch} {G : zG} {b : Nat} {L : List zC} {M : zMt} {N : zNt} {P : Nat} {v0 : Int32} (hP : LX7 L P) {r : Int32 × zMt} (h : D_X7_many P v0 M = some r) : zM l G b yX7_many cX7_many 2 (some .int) 1 0 0 [.ref P, .int v0] (L, M, N) (fun r2 z => r2 = some (.int r.1) ∧ z = (L, r.2, N)) := by
  refine zM.of miX7_many (Nat.le_of_ble_eq_true rfl) ?_
  intro p e s m args below meth c X hr hname
  generalize hF : ((fun r2 z => r2 = some (.int r.1) ∧ z = (L, r.2, N)) : Option Value → zS → Prop) = FQ
  change Zw p l e { frames := 1, cells := 0, slots := 0, locals := 80 * (1) } s m args below meth c G b 2 (MQ below (zQ G b FQ) args s 0 0 (fun q : Nat => b ≤ q)) 0 0 0 [some (.ref P), some (.int v0)] [] (L, M, N)
  have p_lt := hP.1
  have p_o := hP.2.1
  have p_list := hP.2.2.2.2.2.1
  have p_list_lt := p_list.1
  have p_list_o := p_list.2.1
  have p_list_quota := p_list.2.2.1
  have p_list_guest := p_list.2.2.2.2.1
  have p_past := hP.2.2.2.2.2.2.1
  have p_past_lt := p_past.1
  have p_past_o := p_past.2.1
  have p_pool := hP.2.2.2.2.2.2.2.1
  have p_pool_lt := p_pool.1
  have p_pool_o := p_pool.2.1
  unfold D_X7_many at h
  refine a_iload_n X dX7_many_0 rfl ?_
  refine a_tsw (tg := [60, 72, 84, 96, 108, 120, 132, 144, 156, 168, 183]) (td := 198) X dX7_many_1 (by decide +kernel) (by decide) (by decide) (fun k_1 t_1 ht_1 hx_1 => ?_) (fun hx_1 => ?_)
  · match k_1, ht_1, hx_1 with
    | 0, ht_1, hx_1 =>
      cases ht_1
      replace h := (if_pos (by omega)).symm.trans h
      refine a_aload_n X dX7_many_60 rfl ?_
      refine a_aload_n X dX7_many_61 rfl ?_
      refine a_getr X lf7_26 (by first | exact p_o | assumption) rfl (by omega) dX7_many_62 ?_
      refine a_geti X lf7_131 (by first | exact p_list_o | assumption) rfl dX7_many_65 ?_
      obtain ⟨e_68, f_68, h⟩ := zBx h
      refine a_callVv X dX7_many_68 miX7_answer lm7_134 (t_X7_answer (by first | exact hP | assumption) f_68) (by first | exact p_o | assumption) rfl rfl rfl (Nat.le_of_ble_eq_true rfl) ⟨by decide, by decide, by decide, by decide⟩ ?_
      refine a_iret X hr dX7_many_71 ⟨by decide, by decide⟩ ?_
      subst hF
      rw [← Option.some.inj h]
      exact ⟨rfl, rfl⟩
    | 1, ht_1, hx_1 =>
      cases ht_1
      replace h := (if_neg (by omega)).symm.trans h
      replace h := (if_pos (by omega)).symm.trans h
      refine a_aload_n X dX7_many_72 rfl ?_
      refine a_aload_n X dX7_many_73 rfl ?_
      refine a_getr X lf7_26 (by first | exact p_o | assumption) rfl (by omega) dX7_many_74 ?_
      refine a_geti X lf7_119 (by first | exact p_list_o | assumption) rfl dX7_many_77 ?_
      obtain ⟨e_80, f_80, h⟩ := zBx h
      refine a_callVv X dX7_many_80 miX7_answer lm7_134 (t_X7_answer (by first | exact hP | assumption) f_80) (by first | exact p_o | assumption) rfl rfl rfl (Nat.le_of_ble_eq_true rfl) ⟨by decide, by decide, by decide, by decide⟩ ?_
      refine a_iret X hr dX7_many_83 ⟨by decide, by decide⟩ ?_
      subst hF
      rw [← Option.some.inj h]
      exact ⟨rfl, rfl⟩
    | 2, ht_1, hx_1 =>
      cases ht_1
      replace h := (if_neg (by omega)).symm.trans h
      replace h := (if_neg (by omega)).symm.trans h
      replace h := (if_pos (by omega)).symm.trans h
      refine a_aload_n X dX7_many_84 rfl ?_
      refine a_aload_n X dX7_many_85 rfl ?_
      refine a_getr X lf7_26 (by first | exact p_o | assumption) rfl (by omega) dX7_many_86 ?_
      refine a_geti X lf7_137 (by first | exact p_list_o | assumption) rfl dX7_many_89 ?_
      obtain ⟨e_92, f_92, h⟩ := zBx h
      refine a_callVv X dX7_many_92 miX7_answer lm7_134 (t_X7_answer (by first | exact hP | assumption) f_92) (by first | exact p_o | assumption) rfl rfl rfl (Nat.le_of_ble_eq_true rfl) ⟨by decide, by decide, by decide, by decide⟩ ?_
      refine a_iret X hr dX7_many_95 ⟨by decide, by decide⟩ ?_
      subst hF
      rw [← Option.some.inj h]
      exact ⟨rfl, rfl⟩
    | 3, ht_1, hx_1 =>
      cases ht_1
      replace h := (if_neg (by omega)).symm.trans h
      replace h := (if_neg (by omega)).symm.trans h
      replace h := (if_neg (by omega)).symm.trans h
      replace h := (if_pos (by omega)).symm.trans h
      refine a_aload_n X dX7_many_96 rfl ?_
      refine a_aload_n X dX7_many_97 rfl ?_
      refine a_getr X lf7_40 (by first | exact p_o | assumption) rfl (by omega) dX7_many_98 ?_
      refine a_geti X lf7_140 (by first | exact p_pool_o | assumption) rfl dX7_many_101 ?_
      obtain ⟨e_104, f_104, h⟩ := zBx h
      refine a_callVv X dX7_many_104 miX7_answer lm7_134 (t_X7_answer (by first | exact hP | assumption) f_104) (by first | exact p_o | assumption) rfl rfl rfl (Nat.le_of_ble_eq_true rfl) ⟨by decide, by decide, by decide, by decide⟩ ?_
      refine a_iret X hr dX7_many_107 ⟨by decide, by decide⟩ ?_
      subst hF
      rw [← Option.some.inj h]
      exact ⟨rfl, rfl⟩
    | 4, ht_1, hx_1 =>
      cases ht_1
      replace h := (if_neg (by omega)).symm.trans h
      replace h := (if_neg (by omega)).symm.trans h
      replace h := (if_neg (by omega)).symm.trans h
      replace h := (if_neg (by omega)).symm.trans h
      replace h := (if_pos (by omega)).symm.trans h
      refine a_aload_n X dX7_many_108 rfl ?_
      refine a_aload_n X dX7_many_109 rfl ?_
      refine a_getr X lf7_26 (by first | exact p_o | assumption) rfl (by omega) dX7_many_110 ?_
      refine a_geti X lf7_143 (by first | exact p_list_o | assumption) rfl dX7_many_113 ?_
      obtain ⟨e_116, f_116, h⟩ := zBx h
      refine a_callVv X dX7_many_116 miX7_answer lm7_134 (t_X7_answer (by first | exact hP | assumption) f_116) (by first | exact p_o | assumption) rfl rfl rfl (Nat.le_of_ble_eq_true rfl) ⟨by decide, by decide, by decide, by decide⟩ ?_
      refine a_iret X hr dX7_many_119 ⟨by decide, by decide⟩ ?_
      subst hF
      rw [← Option.some.inj h]
      exact ⟨rfl, rfl⟩
    | 5, ht_1, hx_1 =>
      cases ht_1
      replace h := (if_neg (by omega)).symm.trans h
      replace h := (if_neg (by omega)).symm.trans h
      replace h := (if_neg (by omega)).symm.trans h
      replace h := (if_neg (by omega)).symm.trans h
      replace h := (if_neg (by omega)).symm.trans h
      replace h := (if_pos (by omega)).symm.trans h
      refine a_aload_n X dX7_many_120 rfl ?_
      refine a_aload_n X dX7_many_121 rfl ?_
      refine a_getr X lf7_26 (by first | exact p_o | assumption) rfl (by omega) dX7_many_122 ?_
      refine a_geti X lf7_146 (by first | exact p_list_o | assumption) rfl dX7_many_125 ?_
      obtain ⟨e_128, f_128, h⟩ := zBx h
      refine a_callVv X dX7_many_128 miX7_answer lm7_134 (t_X7_answer (by first | exact hP | assumption) f_128) (by first | exact p_o | assumption) rfl rfl rfl (Nat.le_of_ble_eq_true rfl) ⟨by decide, by decide, by decide, by decide⟩ ?_
      refine a_iret X hr dX7_many_131 ⟨by decide, by decide⟩ ?_
      subst hF
      rw [← Option.some.inj h]
      exact ⟨rfl, rfl⟩
    | 6, ht_1, hx_1 =>
      cases ht_1
      replace h := (if_neg (by omega)).symm.trans h
      replace h := (if_neg (by omega)).symm.trans h
      replace h := (if_neg (by omega)).symm.trans h
      replace h := (if_neg (by omega)).symm.trans h
      replace h := (if_neg (by omega)).symm.trans h
      replace h := (if_neg (by omega)).symm.trans h
      replace h := (if_pos (by omega)).symm.trans h
      refine a_aload_n X dX7_many_132 rfl ?_
      refine a_aload_n X dX7_many_133 rfl ?_
      refine a_getr X lf7_26 (by first | exact p_o | assumption) rfl (by omega) dX7_many_134 ?_
      refine a_geti X lf7_149 (by first | exact p_list_o | assumption) rfl dX7_many_137 ?_
      obtain ⟨e_140, f_140, h⟩ := zBx h
      refine a_callVv X dX7_many_140 miX7_answer lm7_134 (t_X7_answer (by first | exact hP | assumption) f_140) (by first | exact p_o | assumption) rfl rfl rfl (Nat.le_of_ble_eq_true rfl) ⟨by decide, by decide, by decide, by decide⟩ ?_
      refine a_iret X hr dX7_many_143 ⟨by decide, by decide⟩ ?_
      subst hF
      rw [← Option.some.inj h]
      exact ⟨rfl, rfl⟩
    | 7, ht_1, hx_1 =>
      cases ht_1
      replace h := (if_neg (by omega)).symm.trans h
      replace h := (if_neg (by omega)).symm.trans h
      replace h := (if_neg (by omega)).symm.trans h
      replace h := (if_neg (by omega)).symm.trans h
      replace h := (if_neg (by omega)).symm.trans h
      replace h := (if_neg (by omega)).symm.trans h
      replace h := (if_neg (by omega)).symm.trans h
      replace h := (if_pos (by omega)).symm.trans h
      refine a_aload_n X dX7_many_144 rfl ?_
      refine a_aload_n X dX7_many_145 rfl ?_
      refine a_getr X lf7_26 (by first | exact p_o | assumption) rfl (by omega) dX7_many_146 ?_
      refine a_geti X lf7_152 (by first | exact p_list_o | assumption) rfl dX7_many_149 ?_
      obtain ⟨e_152, f_152, h⟩ := zBx h
      refine a_callVv X dX7_many_152 miX7_answer lm7_134 (t_X7_answer (by first | exact hP | assumption) f_152) (by first | exact p_o | assumption) rfl rfl rfl (Nat.le_of_ble_eq_true rfl) ⟨by decide, by decide, by decide, by decide⟩ ?_
      refine a_iret X hr dX7_many_155 ⟨by decide, by decide⟩ ?_
      subst hF
      rw [← Option.some.inj h]
      exact ⟨rfl, rfl⟩
    | 8, ht_1, hx_1 =>
      cases ht_1
      replace h := (if_neg (by omega)).symm.trans h
      replace h := (if_neg (by omega)).symm.trans h
      replace h := (if_neg (by omega)).symm.trans h
      replace h := (if_neg (by omega)).symm.trans h
      replace h := (if_neg (by omega)).symm.trans h
      replace h := (if_neg (by omega)).symm.trans h
      replace h := (if_neg (by omega)).symm.trans h
      replace h := (if_neg (by omega)).symm.trans h
      replace h := (if_pos (by omega)).symm.trans h
      refine a_aload_n X dX7_many_156 rfl ?_
      refine a_aload_n X dX7_many_157 rfl ?_
      refine a_getr X lf7_33 (by first | exact p_o | assumption) rfl (by omega) dX7_many_158 ?_
      refine a_geti X lf7_155 (by first | exact p_past_o | assumption) rfl dX7_many_161 ?_
      obtain ⟨e_164, f_164, h⟩ := zBx h
      refine a_callVv X dX7_many_164 miX7_answer lm7_134 (t_X7_answer (by first | exact hP | assumption) f_164) (by first | exact p_o | assumption) rfl rfl rfl (Nat.le_of_ble_eq_true rfl) ⟨by decide, by decide, by decide, by decide⟩ ?_
      refine a_iret X hr dX7_many_167 ⟨by decide, by decide⟩ ?_
      subst hF
      rw [← Option.some.inj h]
      exact ⟨rfl, rfl⟩
    | 9, ht_1, hx_1 =>
      cases ht_1
      replace h := (if_neg (by omega)).symm.trans h
      replace h := (if_neg (by omega)).symm.trans h
      replace h := (if_neg (by omega)).symm.trans h
      replace h := (if_neg (by omega)).symm.trans h
      replace h := (if_neg (by omega)).symm.trans h
      replace h := (if_neg (by omega)).symm.trans h
      replace h := (if_neg (by omega)).symm.trans h
      replace h := (if_neg (by omega)).symm.trans h
      replace h := (if_neg (by omega)).symm.trans h
      replace h := (if_pos (by omega)).symm.trans h
      refine a_aload_n X dX7_many_168 rfl ?_
      refine a_aload_n X dX7_many_169 rfl ?_
      refine a_getr X lf7_26 (by first | exact p_o | assumption) rfl (by omega) dX7_many_170 ?_
      refine a_getr X lf7_158 (by first | exact p_list_o | assumption) rfl (by omega) dX7_many_173 ?_
      refine a_callSv X dX7_many_176 miX7_sum lm7_161 (c_sum (by first | exact p_list_quota | assumption) (by decide)) rfl rfl (Nat.le_of_ble_eq_true rfl) ⟨by decide, by decide, by decide, by decide⟩ ?_
      obtain ⟨e_179, f_179, h⟩ := zBx h
      refine a_callVv X dX7_many_179 miX7_answer lm7_134 (t_X7_answer (by first | exact hP | assumption) f_179) (by first | exact p_o | assumption) rfl rfl rfl (Nat.le_of_ble_eq_true rfl) ⟨by decide, by decide, by decide, by decide⟩ ?_
      refine a_iret X hr dX7_many_182 ⟨by decide, by decide⟩ ?_
      subst hF
      rw [← Option.some.inj h]
      exact ⟨rfl, rfl⟩
    | 10, ht_1, hx_1 =>
      cases ht_1
      replace h := (if_neg (by omega)).symm.trans h
      replace h := (if_neg (by omega)).symm.trans h
      replace h := (if_neg (by omega)).symm.trans h
      replace h := (if_neg (by omega)).symm.trans h
      replace h := (if_neg (by omega)).symm.trans h
      replace h := (if_neg (by omega)).symm.trans h
      replace h := (if_neg (by omega)).symm.trans h
      replace h := (if_neg (by omega)).symm.trans h
      replace h := (if_neg (by omega)).symm.trans h
      replace h := (if_neg (by omega)).symm.trans h
      replace h := (if_pos (by omega)).symm.trans h
      refine a_aload_n X dX7_many_183 rfl ?_
      refine a_aload_n X dX7_many_184 rfl ?_
      refine a_getr X lf7_26 (by first | exact p_o | assumption) rfl (by omega) dX7_many_185 ?_
      refine a_getr X lf7_165 (by first | exact p_list_o | assumption) rfl (by omega) dX7_many_188 ?_
      refine a_callSv X dX7_many_191 miX7_sum lm7_161 (c_sum (by first | exact p_list_guest | assumption) (by decide)) rfl rfl (Nat.le_of_ble_eq_true rfl) ⟨by decide, by decide, by decide, by decide⟩ ?_
      obtain ⟨e_194, f_194, h⟩ := zBx h
      refine a_callVv X dX7_many_194 miX7_answer lm7_134 (t_X7_answer (by first | exact hP | assumption) f_194) (by first | exact p_o | assumption) rfl rfl rfl (Nat.le_of_ble_eq_true rfl) ⟨by decide, by decide, by decide, by decide⟩ ?_
      refine a_iret X hr dX7_many_197 ⟨by decide, by decide⟩ ?_
      subst hF
      rw [← Option.some.inj h]
      exact ⟨rfl, rfl⟩
  · skip
    replace h := (if_neg (by omega)).symm.trans h
    replace h := (if_neg (by omega)).symm.trans h
    replace h := (if_neg (by omega)).symm.trans h
    replace h := (if_neg (by omega)).symm.trans h
    replace h := (if_neg (by omega)).symm.trans h
    replace h := (if_neg (by omega)).symm.trans h
    replace h := (if_neg (by omega)).symm.trans h
    replace h := (if_neg (by omega)).symm.trans h
    replace h := (if_neg (by omega)).symm.trans h
    replace h := (if_neg (by omega)).symm.trans h
    replace h := (if_neg (by omega)).symm.trans h
    refine a_aload_n X dX7_many_198 rfl ?_
    refine a_iconst (v := 1) X dX7_many_199 (by decide) ?_
    obtain ⟨e_200, f_200, h⟩ := zBx h
    refine a_callVv X dX7_many_200 miX7_refuse lm7_102 (t_X7_refuse (by first | exact hP | assumption) f_200) (by first | exact p_o | assumption) rfl rfl rfl (Nat.le_of_ble_eq_true rfl) ⟨by decide, by decide, by decide, by decide⟩ ?_
    refine a_iret X hr dX7_many_203 ⟨by decide, by decide⟩ ?_
    subst hF
    rw [← Option.some.inj h]
    exact ⟨rfl, rfl⟩
noncomputable def D_X7_isHunter_20 (P : Nat) (M : zMt) (y0_20 : Int32) : Option (Int32) :=
  some (y0_20)
noncomputable def D_X7_isHunter_19 (P : Nat) (M : zMt)  : Option (Int32) :=
  D_X7_isHunter_20 P M (0 : Int32)
noncomputable def D_X7_isHunter (P : Nat) (M : zMt) (v0 : Int32) : Option (Int32) :=
  if v0 < 0 then
    D_X7_isHunter_19 P M
  else
    if (M (P + 17) 1) ≤ v0 then
      D_X7_isHunter_19 P M
    else
      D_X7_isHunter_20 P M (1 : Int32)
set_option maxRecDepth 100000 in
set_option maxHeartbeats 4000000 in
theorem t_X7_isHunter {l : Launch} {G : zG} {b : Nat} {L : List zC} {M : zMt} {N : zNt} {P : Nat} {v0 : Int32} (hP : LX7 L P) {r : Int32} (h : D_X7_isHunter P M v0 = some r) : zM l G b yX7_isHunter cX7_isHunter 2 (some .boolean) 0 0 0 [.ref P, .int v0] (L, M, N) (fun r2 z => r2 = some (.int r) ∧ z = (L, M, N) ∧ (r = 0 ∨ r = 1)) := by
  refine zM.of miX7_isHunter (Nat.le_of_ble_eq_true rfl) ?_
  intro p e s m args below meth c X hr hname
  generalize hF : ((fun r2 z => r2 = some (.int r) ∧ z = (L, M, N) ∧ (r = 0 ∨ r = 1)) : Option Value → zS → Prop) = FQ
  change Zw p l e { frames := 0, cells := 0, slots := 0, locals := 80 * (0) } s m args below meth c G b 2 (MQ below (zQ G b FQ) args s 0 0 (fun q : Nat => b ≤ q)) 0 0 0 [some (.ref P), some (.int v0)] [] (L, M, N)
  have p_lt := hP.1
  have p_o := hP.2.1
  have p_list := hP.2.2.2.2.2.1
  have p_list_lt := p_list.1
  have p_list_o := p_list.2.1
  have J_20 : ∀ (x1_20 : Int32) (y0_20 : Int32), (y0_20 = 0 ∨ y0_20 = 1) → D_X7_isHunter_20 P M y0_20 = some r → Zw p l e { frames := 0, cells := 0, slots := 0, locals := 80 * (0) } s m args below meth c G b 2 (MQ below (zQ G b FQ) args s 0 0 (fun q : Nat => b ≤ q)) 0 0 20 [some (.ref (P)), some (.int x1_20)] [.int y0_20] (L, M, N) := by
    intro x1_20 y0_20 fb_y0_20 h
    unfold D_X7_isHunter_20 at h
    refine a_zret X (by first | exact Or.inl rfl | exact Or.inr rfl | assumption) hr dX7_isHunter_20 ⟨by decide, by decide⟩ ?_
    subst hF
    rw [← Option.some.inj h]
    exact ⟨rfl, rfl, (by first | exact Or.inl rfl | exact Or.inr rfl | assumption)⟩
  have J_19 : ∀ (x1_19 : Int32), D_X7_isHunter_19 P M = some r → Zw p l e { frames := 0, cells := 0, slots := 0, locals := 80 * (0) } s m args below meth c G b 2 (MQ below (zQ G b FQ) args s 0 0 (fun q : Nat => b ≤ q)) 0 0 19 [some (.ref (P)), some (.int x1_19)] [] (L, M, N) := by
    intro x1_19 h
    unfold D_X7_isHunter_19 at h
    refine a_iconst (v := 0) X dX7_isHunter_19 (by decide) ?_
    exact Zw.to2 (J_20 _ _ (by first | exact Or.inl rfl | exact Or.inr rfl | assumption) h) rfl rfl rfl
  unfold D_X7_isHunter at h
  refine a_iload_n X dX7_isHunter_0 rfl ?_
  refine a_if_lt (tgt := 19) X dX7_isHunter_1 (by decide) (fun h_1 => ?_) (fun h_1 => ?_)
  · replace h := (if_pos h_1).symm.trans h
    exact Zw.to2 (J_19 _ h) rfl rfl rfl
  · replace h := (if_neg h_1).symm.trans h
    refine a_iload_n X dX7_isHunter_4 rfl ?_
    refine a_aload_n X dX7_isHunter_5 rfl ?_
    refine a_getr X lf7_26 (by first | exact p_o | assumption) rfl (by omega) dX7_isHunter_6 ?_
    refine a_geti X lf7_119 (by first | exact p_list_o | assumption) rfl dX7_isHunter_9 ?_
    refine a_icmp_ge (tgt := 19) X dX7_isHunter_12 (by decide) (fun h_12 => ?_) (fun h_12 => ?_)
    · replace h := (if_pos h_12).symm.trans h
      exact Zw.to2 (J_19 _ h) rfl rfl rfl
    · replace h := (if_neg h_12).symm.trans h
      refine a_iconst (v := 1) X dX7_isHunter_15 (by decide) ?_
      refine a_goto (tgt := 20) X dX7_isHunter_16 (by decide) ?_
      exact Zw.to2 (J_20 _ _ (by first | exact Or.inl rfl | exact Or.inr rfl | assumption) h) rfl rfl rfl
noncomputable def D_X7_hunter_9 (P : Nat) (M_9 : zMt) : Option (Int32 × zMt) :=
  zB (D_X7_refuse P (1 : Int32) M_9) fun e_11 =>
  some (e_11.1, e_11.2)
noncomputable def D_X7_hunter (P : Nat) (v0 : Int32) (v1 : Int32) (M : zMt) : Option (Int32 × zMt) :=
  if v1 < 0 then
    D_X7_hunter_9 P M
  else
    if v1 ≤ (4 : Int32) then
      zB (D_X7_isHunter P M v0) fun e_17 =>
      if e_17 = 0 then
        zB (D_X7_refuse P (2 : Int32) M) fun e_25 =>
        some (e_25.1, e_25.2)
      else
        if Int32.toInt v1 = 0 then
          zB (D_X7_answer P (zrd 0 (M (P + 19)) 10 v0) M) fun e_72 =>
          some (e_72.1, e_72.2)
        else
        if Int32.toInt v1 = 1 then
          zB (D_X7_answer P (zrd 0 (M (P + 20)) 10 v0) M) fun e_88 =>
          some (e_88.1, e_88.2)
        else
        if Int32.toInt v1 = 2 then
          zB (D_X7_answer P (zrd 0 (M (P + 21)) 10 v0) M) fun e_104 =>
          some (e_104.1, e_104.2)
        else
        if Int32.toInt v1 = 3 then
          zB (D_X7_answer P (zrd 0 (M (P + 95)) 10 v0) M) fun e_120 =>
          some (e_120.1, e_120.2)
        else
          zB (D_X7_answer P (zrd 0 (M (P + 24)) 10 v0) M) fun e_136 =>
          some (e_136.1, e_136.2)
    else
      D_X7_hunter_9 P M
set_option maxRecDepth 100000 in
set_option maxHeartbeats 4000000 in
theorem t_X7_hunter {l : Launch} {G : zG} {b : Nat} {L : List zC} {M : zMt} {N : zNt} {P : Nat} {v0 : Int32} {v1 : Int32} (hP : LX7 L P) {r : Int32 × zMt} (h : D_X7_hunter P v0 v1 M = some r) : zM l G b yX7_hunter cX7_hunter 3 (some .int) 1 0 0 [.ref P, .int v0, .int v1] (L, M, N) (fun r2 z => r2 = some (.int r.1) ∧ z = (L, r.2, N)) := by
  refine zM.of miX7_hunter (Nat.le_of_ble_eq_true rfl) ?_
  intro p e s m args below meth c X hr hname
  generalize hF : ((fun r2 z => r2 = some (.int r.1) ∧ z = (L, r.2, N)) : Option Value → zS → Prop) = FQ
  change Zw p l e { frames := 1, cells := 0, slots := 0, locals := 80 * (1) } s m args below meth c G b 3 (MQ below (zQ G b FQ) args s 0 0 (fun q : Nat => b ≤ q)) 0 0 0 [some (.ref P), some (.int v0), some (.int v1)] [] (L, M, N)
  have p_lt := hP.1
  have p_o := hP.2.1
  have p_list := hP.2.2.2.2.2.1
  have p_list_lt := p_list.1
  have p_list_o := p_list.2.1
  have p_list_score := p_list.2.2.2.1
  have p_list_guest := p_list.2.2.2.2.1
  have p_list_party := p_list.2.2.2.2.2.1
  have p_list_has := p_list.2.2.2.2.2.2.2.2
  have p_pool := hP.2.2.2.2.2.2.2.1
  have p_pool_lt := p_pool.1
  have p_pool_o := p_pool.2.1
  have p_pool_applicantOf := p_pool.2.2.2.2.2.1
  have J_9 : ∀ (x1_9 : Int32) (x2_9 : Int32) (M_9 : zMt), D_X7_hunter_9 P M_9 = some r → Zw p l e { frames := 1, cells := 0, slots := 0, locals := 80 * (1) } s m args below meth c G b 3 (MQ below (zQ G b FQ) args s 0 0 (fun q : Nat => b ≤ q)) 0 0 9 [some (.ref (P)), some (.int x1_9), some (.int x2_9)] [] (L, M_9, N) := by
    intro x1_9 x2_9 M_9 h
    unfold D_X7_hunter_9 at h
    refine a_aload_n X dX7_hunter_9 rfl ?_
    refine a_iconst (v := 1) X dX7_hunter_10 (by decide) ?_
    obtain ⟨e_11, f_11, h⟩ := zBx h
    refine a_callVv X dX7_hunter_11 miX7_refuse lm7_102 (t_X7_refuse (by first | exact hP | assumption) f_11) (by first | exact p_o | assumption) rfl rfl rfl (Nat.le_of_ble_eq_true rfl) ⟨by decide, by decide, by decide, by decide⟩ ?_
    refine a_iret X hr dX7_hunter_14 ⟨by decide, by decide⟩ ?_
    subst hF
    rw [← Option.some.inj h]
    exact ⟨rfl, rfl⟩
  unfold D_X7_hunter at h
  refine a_iload_n X dX7_hunter_0 rfl ?_
  refine a_if_lt (tgt := 9) X dX7_hunter_1 (by decide) (fun h_1 => ?_) (fun h_1 => ?_)
  · replace h := (if_pos h_1).symm.trans h
    exact Zw.to2 (J_9 _ _ _ h) rfl rfl rfl
  · replace h := (if_neg h_1).symm.trans h
    refine a_iload_n X dX7_hunter_4 rfl ?_
    refine a_iconst (v := 4) X dX7_hunter_5 (by decide) ?_
    refine a_icmp_le (tgt := 15) X dX7_hunter_6 (by decide) (fun h_6 => ?_) (fun h_6 => ?_)
    · replace h := (if_pos h_6).symm.trans h
      refine a_aload_n X dX7_hunter_15 rfl ?_
      refine a_iload_n X dX7_hunter_16 rfl ?_
      obtain ⟨e_17, f_17, h⟩ := zBx h
      refine a_callVx X dX7_hunter_17 miX7_isHunter lm7_168 (t_X7_isHunter (by first | exact hP | assumption) f_17) (by first | exact p_o | assumption) rfl rfl rfl (Nat.le_of_ble_eq_true rfl) ⟨by decide, by decide, by decide, by decide⟩ (fun r_17 S_17 q_17 => ?_)
      obtain ⟨rfl, rfl, b_17⟩ := q_17
      refine a_if_ne (tgt := 29) X dX7_hunter_20 (by decide) (fun h_20 => ?_) (fun h_20 => ?_)
      · replace h := (if_neg h_20).symm.trans h
        refine a_iload_n X dX7_hunter_29 rfl ?_
        refine a_tsw (tg := [60, 76, 92, 108]) (td := 124) X dX7_hunter_30 (by decide +kernel) (by decide) (by decide) (fun k_30 t_30 ht_30 hx_30 => ?_) (fun hx_30 => ?_)
        · match k_30, ht_30, hx_30 with
          | 0, ht_30, hx_30 =>
            cases ht_30
            replace h := (if_pos (by omega)).symm.trans h
            refine a_aload_n X dX7_hunter_60 rfl ?_
            refine a_aload_n X dX7_hunter_61 rfl ?_
            refine a_getr X lf7_26 (by first | exact p_o | assumption) rfl (by omega) dX7_hunter_62 ?_
            refine a_getr X lf7_172 (by first | exact p_list_o | assumption) rfl (by omega) dX7_hunter_65 ?_
            refine a_iload_n X dX7_hunter_68 rfl ?_
            refine a_callSv X dX7_hunter_69 miX7_cell lm7_175 (c_cell (by first | exact p_list_score | assumption) (by decide)) rfl rfl (Nat.le_of_ble_eq_true rfl) ⟨by decide, by decide, by decide, by decide⟩ ?_
            obtain ⟨e_72, f_72, h⟩ := zBx h
            refine a_callVv X dX7_hunter_72 miX7_answer lm7_134 (t_X7_answer (by first | exact hP | assumption) f_72) (by first | exact p_o | assumption) rfl rfl rfl (Nat.le_of_ble_eq_true rfl) ⟨by decide, by decide, by decide, by decide⟩ ?_
            refine a_iret X hr dX7_hunter_75 ⟨by decide, by decide⟩ ?_
            subst hF
            rw [← Option.some.inj h]
            exact ⟨rfl, rfl⟩
          | 1, ht_30, hx_30 =>
            cases ht_30
            replace h := (if_neg (by omega)).symm.trans h
            replace h := (if_pos (by omega)).symm.trans h
            refine a_aload_n X dX7_hunter_76 rfl ?_
            refine a_aload_n X dX7_hunter_77 rfl ?_
            refine a_getr X lf7_26 (by first | exact p_o | assumption) rfl (by omega) dX7_hunter_78 ?_
            refine a_getr X lf7_165 (by first | exact p_list_o | assumption) rfl (by omega) dX7_hunter_81 ?_
            refine a_iload_n X dX7_hunter_84 rfl ?_
            refine a_callSv X dX7_hunter_85 miX7_cell lm7_175 (c_cell (by first | exact p_list_guest | assumption) (by decide)) rfl rfl (Nat.le_of_ble_eq_true rfl) ⟨by decide, by decide, by decide, by decide⟩ ?_
            obtain ⟨e_88, f_88, h⟩ := zBx h
            refine a_callVv X dX7_hunter_88 miX7_answer lm7_134 (t_X7_answer (by first | exact hP | assumption) f_88) (by first | exact p_o | assumption) rfl rfl rfl (Nat.le_of_ble_eq_true rfl) ⟨by decide, by decide, by decide, by decide⟩ ?_
            refine a_iret X hr dX7_hunter_91 ⟨by decide, by decide⟩ ?_
            subst hF
            rw [← Option.some.inj h]
            exact ⟨rfl, rfl⟩
          | 2, ht_30, hx_30 =>
            cases ht_30
            replace h := (if_neg (by omega)).symm.trans h
            replace h := (if_neg (by omega)).symm.trans h
            replace h := (if_pos (by omega)).symm.trans h
            refine a_aload_n X dX7_hunter_92 rfl ?_
            refine a_aload_n X dX7_hunter_93 rfl ?_
            refine a_getr X lf7_26 (by first | exact p_o | assumption) rfl (by omega) dX7_hunter_94 ?_
            refine a_getr X lf7_179 (by first | exact p_list_o | assumption) rfl (by omega) dX7_hunter_97 ?_
            refine a_iload_n X dX7_hunter_100 rfl ?_
            refine a_callSv X dX7_hunter_101 miX7_cell lm7_175 (c_cell (by first | exact p_list_party | assumption) (by decide)) rfl rfl (Nat.le_of_ble_eq_true rfl) ⟨by decide, by decide, by decide, by decide⟩ ?_
            obtain ⟨e_104, f_104, h⟩ := zBx h
            refine a_callVv X dX7_hunter_104 miX7_answer lm7_134 (t_X7_answer (by first | exact hP | assumption) f_104) (by first | exact p_o | assumption) rfl rfl rfl (Nat.le_of_ble_eq_true rfl) ⟨by decide, by decide, by decide, by decide⟩ ?_
            refine a_iret X hr dX7_hunter_107 ⟨by decide, by decide⟩ ?_
            subst hF
            rw [← Option.some.inj h]
            exact ⟨rfl, rfl⟩
          | 3, ht_30, hx_30 =>
            cases ht_30
            replace h := (if_neg (by omega)).symm.trans h
            replace h := (if_neg (by omega)).symm.trans h
            replace h := (if_neg (by omega)).symm.trans h
            replace h := (if_pos (by omega)).symm.trans h
            refine a_aload_n X dX7_hunter_108 rfl ?_
            refine a_aload_n X dX7_hunter_109 rfl ?_
            refine a_getr X lf7_40 (by first | exact p_o | assumption) rfl (by omega) dX7_hunter_110 ?_
            refine a_getr X lf7_182 (by first | exact p_pool_o | assumption) rfl (by omega) dX7_hunter_113 ?_
            refine a_iload_n X dX7_hunter_116 rfl ?_
            refine a_callSv X dX7_hunter_117 miX7_cell lm7_175 (c_cell (by first | exact p_pool_applicantOf | assumption) (by decide)) rfl rfl (Nat.le_of_ble_eq_true rfl) ⟨by decide, by decide, by decide, by decide⟩ ?_
            obtain ⟨e_120, f_120, h⟩ := zBx h
            refine a_callVv X dX7_hunter_120 miX7_answer lm7_134 (t_X7_answer (by first | exact hP | assumption) f_120) (by first | exact p_o | assumption) rfl rfl rfl (Nat.le_of_ble_eq_true rfl) ⟨by decide, by decide, by decide, by decide⟩ ?_
            refine a_iret X hr dX7_hunter_123 ⟨by decide, by decide⟩ ?_
            subst hF
            rw [← Option.some.inj h]
            exact ⟨rfl, rfl⟩
        · skip
          replace h := (if_neg (by omega)).symm.trans h
          replace h := (if_neg (by omega)).symm.trans h
          replace h := (if_neg (by omega)).symm.trans h
          replace h := (if_neg (by omega)).symm.trans h
          refine a_aload_n X dX7_hunter_124 rfl ?_
          refine a_aload_n X dX7_hunter_125 rfl ?_
          refine a_getr X lf7_26 (by first | exact p_o | assumption) rfl (by omega) dX7_hunter_126 ?_
          refine a_getr X lf7_185 (by first | exact p_list_o | assumption) rfl (by omega) dX7_hunter_129 ?_
          refine a_iload_n X dX7_hunter_132 rfl ?_
          refine a_callSv X dX7_hunter_133 miX7_cell lm7_175 (c_cell (by first | exact p_list_has | assumption) (by decide)) rfl rfl (Nat.le_of_ble_eq_true rfl) ⟨by decide, by decide, by decide, by decide⟩ ?_
          obtain ⟨e_136, f_136, h⟩ := zBx h
          refine a_callVv X dX7_hunter_136 miX7_answer lm7_134 (t_X7_answer (by first | exact hP | assumption) f_136) (by first | exact p_o | assumption) rfl rfl rfl (Nat.le_of_ble_eq_true rfl) ⟨by decide, by decide, by decide, by decide⟩ ?_
          refine a_iret X hr dX7_hunter_139 ⟨by decide, by decide⟩ ?_
          subst hF
          rw [← Option.some.inj h]
          exact ⟨rfl, rfl⟩
      · replace h := (if_pos h_20).symm.trans h
        refine a_aload_n X dX7_hunter_23 rfl ?_
        refine a_iconst (v := 2) X dX7_hunter_24 (by decide) ?_
        obtain ⟨e_25, f_25, h⟩ := zBx h
        refine a_callVv X dX7_hunter_25 miX7_refuse lm7_102 (t_X7_refuse (by first | exact hP | assumption) f_25) (by first | exact p_o | assumption) rfl rfl rfl (Nat.le_of_ble_eq_true rfl) ⟨by decide, by decide, by decide, by decide⟩ ?_
        refine a_iret X hr dX7_hunter_28 ⟨by decide, by decide⟩ ?_
        subst hF
        rw [← Option.some.inj h]
        exact ⟨rfl, rfl⟩
    · replace h := (if_neg h_6).symm.trans h
      exact Zw.to2 (J_9 _ _ _ h) rfl rfl rfl
noncomputable def D_X7_isUnit_20 (P : Nat) (M : zMt) (y0_20 : Int32) : Option (Int32) :=
  some (y0_20)
noncomputable def D_X7_isUnit_19 (P : Nat) (M : zMt)  : Option (Int32) :=
  D_X7_isUnit_20 P M (0 : Int32)
noncomputable def D_X7_isUnit (P : Nat) (M : zMt) (v0 : Int32) : Option (Int32) :=
  if v0 < 0 then
    D_X7_isUnit_19 P M
  else
    if (M (P + 17) 0) ≤ v0 then
      D_X7_isUnit_19 P M
    else
      D_X7_isUnit_20 P M (1 : Int32)
set_option maxRecDepth 100000 in
set_option maxHeartbeats 4000000 in
theorem t_X7_isUnit {l : Launch} {G : zG} {b : Nat} {L : List zC} {M : zMt} {N : zNt} {P : Nat} {v0 : Int32} (hP : LX7 L P) {r : Int32} (h : D_X7_isUnit P M v0 = some r) : zM l G b yX7_isUnit cX7_isUnit 2 (some .boolean) 0 0 0 [.ref P, .int v0] (L, M, N) (fun r2 z => r2 = some (.int r) ∧ z = (L, M, N) ∧ (r = 0 ∨ r = 1)) := by
  refine zM.of miX7_isUnit (Nat.le_of_ble_eq_true rfl) ?_
  intro p e s m args below meth c X hr hname
  generalize hF : ((fun r2 z => r2 = some (.int r) ∧ z = (L, M, N) ∧ (r = 0 ∨ r = 1)) : Option Value → zS → Prop) = FQ
  change Zw p l e { frames := 0, cells := 0, slots := 0, locals := 80 * (0) } s m args below meth c G b 2 (MQ below (zQ G b FQ) args s 0 0 (fun q : Nat => b ≤ q)) 0 0 0 [some (.ref P), some (.int v0)] [] (L, M, N)
  have p_lt := hP.1
  have p_o := hP.2.1
  have p_list := hP.2.2.2.2.2.1
  have p_list_lt := p_list.1
  have p_list_o := p_list.2.1
  have J_20 : ∀ (x1_20 : Int32) (y0_20 : Int32), (y0_20 = 0 ∨ y0_20 = 1) → D_X7_isUnit_20 P M y0_20 = some r → Zw p l e { frames := 0, cells := 0, slots := 0, locals := 80 * (0) } s m args below meth c G b 2 (MQ below (zQ G b FQ) args s 0 0 (fun q : Nat => b ≤ q)) 0 0 20 [some (.ref (P)), some (.int x1_20)] [.int y0_20] (L, M, N) := by
    intro x1_20 y0_20 fb_y0_20 h
    unfold D_X7_isUnit_20 at h
    refine a_zret X (by first | exact Or.inl rfl | exact Or.inr rfl | assumption) hr dX7_isUnit_20 ⟨by decide, by decide⟩ ?_
    subst hF
    rw [← Option.some.inj h]
    exact ⟨rfl, rfl, (by first | exact Or.inl rfl | exact Or.inr rfl | assumption)⟩
  have J_19 : ∀ (x1_19 : Int32), D_X7_isUnit_19 P M = some r → Zw p l e { frames := 0, cells := 0, slots := 0, locals := 80 * (0) } s m args below meth c G b 2 (MQ below (zQ G b FQ) args s 0 0 (fun q : Nat => b ≤ q)) 0 0 19 [some (.ref (P)), some (.int x1_19)] [] (L, M, N) := by
    intro x1_19 h
    unfold D_X7_isUnit_19 at h
    refine a_iconst (v := 0) X dX7_isUnit_19 (by decide) ?_
    exact Zw.to2 (J_20 _ _ (by first | exact Or.inl rfl | exact Or.inr rfl | assumption) h) rfl rfl rfl
  unfold D_X7_isUnit at h
  refine a_iload_n X dX7_isUnit_0 rfl ?_
  refine a_if_lt (tgt := 19) X dX7_isUnit_1 (by decide) (fun h_1 => ?_) (fun h_1 => ?_)
  · replace h := (if_pos h_1).symm.trans h
    exact Zw.to2 (J_19 _ h) rfl rfl rfl
  · replace h := (if_neg h_1).symm.trans h
    refine a_iload_n X dX7_isUnit_4 rfl ?_
    refine a_aload_n X dX7_isUnit_5 rfl ?_
    refine a_getr X lf7_26 (by first | exact p_o | assumption) rfl (by omega) dX7_isUnit_6 ?_
    refine a_geti X lf7_131 (by first | exact p_list_o | assumption) rfl dX7_isUnit_9 ?_
    refine a_icmp_ge (tgt := 19) X dX7_isUnit_12 (by decide) (fun h_12 => ?_) (fun h_12 => ?_)
    · replace h := (if_pos h_12).symm.trans h
      exact Zw.to2 (J_19 _ h) rfl rfl rfl
    · replace h := (if_neg h_12).symm.trans h
      refine a_iconst (v := 1) X dX7_isUnit_15 (by decide) ?_
      refine a_goto (tgt := 20) X dX7_isUnit_16 (by decide) ?_
      exact Zw.to2 (J_20 _ _ (by first | exact Or.inl rfl | exact Or.inr rfl | assumption) h) rfl rfl rfl
noncomputable def D_X7_unit_9 (P : Nat) (M_9 : zMt) : Option (Int32 × zMt) :=
  zB (D_X7_refuse P (1 : Int32) M_9) fun e_11 =>
  some (e_11.1, e_11.2)
noncomputable def D_X7_unit (P : Nat) (v0 : Int32) (v1 : Int32) (M : zMt) : Option (Int32 × zMt) :=
  if v1 < 0 then
    D_X7_unit_9 P M
  else
    if v1 ≤ (5 : Int32) then
      zB (D_X7_isUnit P M v0) fun e_17 =>
      if e_17 = 0 then
        zB (D_X7_refuse P (2 : Int32) M) fun e_25 =>
        some (e_25.1, e_25.2)
      else
        if Int32.toInt v1 = 0 then
          zB (D_X7_answer P (zrd 0 (M (P + 18)) 5 v0) M) fun e_76 =>
          some (e_76.1, e_76.2)
        else
        if Int32.toInt v1 = 1 then
          zB (D_X7_answer P (zrd 0 (M (P + 93)) 5 v0) M) fun e_92 =>
          some (e_92.1, e_92.2)
        else
        if Int32.toInt v1 = 2 then
          zB (D_X7_answer P (zrd 0 (M (P + 94)) 5 v0) M) fun e_108 =>
          some (e_108.1, e_108.2)
        else
        if Int32.toInt v1 = 3 then
          zB (D_X2_firstApplicants (P + 91) M v0) fun e_118 =>
          zB (D_X7_answer P e_118 M) fun e_121 =>
          some (e_121.1, e_121.2)
        else
        if Int32.toInt v1 = 4 then
          zB (D_X2_firstHunters (P + 91) M v0) fun e_131 =>
          zB (D_X7_answer P e_131 M) fun e_134 =>
          some (e_134.1, e_134.2)
        else
          zB (D_X2_askers (P + 91) M v0) fun e_144 =>
          zB (D_X7_answer P e_144 M) fun e_147 =>
          some (e_147.1, e_147.2)
    else
      D_X7_unit_9 P M
set_option maxRecDepth 100000 in
set_option maxHeartbeats 4000000 in
theorem t_X7_unit {l : Launch} {G : zG} {b : Nat} {L : List zC} {M : zMt} {N : zNt} {P : Nat} {v0 : Int32} {v1 : Int32} (hP : LX7 L P) {r : Int32 × zMt} (h : D_X7_unit P v0 v1 M = some r) : zM l G b yX7_unit cX7_unit 3 (some .int) 4 0 0 [.ref P, .int v0, .int v1] (L, M, N) (fun r2 z => r2 = some (.int r.1) ∧ z = (L, r.2, N)) := by
  refine zM.of miX7_unit (Nat.le_of_ble_eq_true rfl) ?_
  intro p e s m args below meth c X hr hname
  generalize hF : ((fun r2 z => r2 = some (.int r.1) ∧ z = (L, r.2, N)) : Option Value → zS → Prop) = FQ
  change Zw p l e { frames := 4, cells := 0, slots := 0, locals := 80 * (4) } s m args below meth c G b 3 (MQ below (zQ G b FQ) args s 0 0 (fun q : Nat => b ≤ q)) 0 0 0 [some (.ref P), some (.int v0), some (.int v1)] [] (L, M, N)
  have p_lt := hP.1
  have p_o := hP.2.1
  have p_list := hP.2.2.2.2.2.1
  have p_list_lt := p_list.1
  have p_list_o := p_list.2.1
  have p_list_quota := p_list.2.2.1
  have p_pool := hP.2.2.2.2.2.2.2.1
  have p_pool_lt := p_pool.1
  have p_pool_o := p_pool.2.1
  have p_pool_preferred := p_pool.2.2.2.1
  have p_pool_forGuests := p_pool.2.2.2.2.1
  have J_9 : ∀ (x1_9 : Int32) (x2_9 : Int32) (M_9 : zMt), D_X7_unit_9 P M_9 = some r → Zw p l e { frames := 4, cells := 0, slots := 0, locals := 80 * (4) } s m args below meth c G b 3 (MQ below (zQ G b FQ) args s 0 0 (fun q : Nat => b ≤ q)) 0 0 9 [some (.ref (P)), some (.int x1_9), some (.int x2_9)] [] (L, M_9, N) := by
    intro x1_9 x2_9 M_9 h
    unfold D_X7_unit_9 at h
    refine a_aload_n X dX7_unit_9 rfl ?_
    refine a_iconst (v := 1) X dX7_unit_10 (by decide) ?_
    obtain ⟨e_11, f_11, h⟩ := zBx h
    refine a_callVv X dX7_unit_11 miX7_refuse lm7_102 (t_X7_refuse (by first | exact hP | assumption) f_11) (by first | exact p_o | assumption) rfl rfl rfl (Nat.le_of_ble_eq_true rfl) ⟨by decide, by decide, by decide, by decide⟩ ?_
    refine a_iret X hr dX7_unit_14 ⟨by decide, by decide⟩ ?_
    subst hF
    rw [← Option.some.inj h]
    exact ⟨rfl, rfl⟩
  unfold D_X7_unit at h
  refine a_iload_n X dX7_unit_0 rfl ?_
  refine a_if_lt (tgt := 9) X dX7_unit_1 (by decide) (fun h_1 => ?_) (fun h_1 => ?_)
  · replace h := (if_pos h_1).symm.trans h
    exact Zw.to2 (J_9 _ _ _ h) rfl rfl rfl
  · replace h := (if_neg h_1).symm.trans h
    refine a_iload_n X dX7_unit_4 rfl ?_
    refine a_iconst (v := 5) X dX7_unit_5 (by decide) ?_
    refine a_icmp_le (tgt := 15) X dX7_unit_6 (by decide) (fun h_6 => ?_) (fun h_6 => ?_)
    · replace h := (if_pos h_6).symm.trans h
      refine a_aload_n X dX7_unit_15 rfl ?_
      refine a_iload_n X dX7_unit_16 rfl ?_
      obtain ⟨e_17, f_17, h⟩ := zBx h
      refine a_callVx X dX7_unit_17 miX7_isUnit lm7_188 (t_X7_isUnit (by first | exact hP | assumption) f_17) (by first | exact p_o | assumption) rfl rfl rfl (Nat.le_of_ble_eq_true rfl) ⟨by decide, by decide, by decide, by decide⟩ (fun r_17 S_17 q_17 => ?_)
      obtain ⟨rfl, rfl, b_17⟩ := q_17
      refine a_if_ne (tgt := 29) X dX7_unit_20 (by decide) (fun h_20 => ?_) (fun h_20 => ?_)
      · replace h := (if_neg h_20).symm.trans h
        refine a_iload_n X dX7_unit_29 rfl ?_
        refine a_tsw (tg := [64, 80, 96, 112, 125]) (td := 138) X dX7_unit_30 (by decide +kernel) (by decide) (by decide) (fun k_30 t_30 ht_30 hx_30 => ?_) (fun hx_30 => ?_)
        · match k_30, ht_30, hx_30 with
          | 0, ht_30, hx_30 =>
            cases ht_30
            replace h := (if_pos (by omega)).symm.trans h
            refine a_aload_n X dX7_unit_64 rfl ?_
            refine a_aload_n X dX7_unit_65 rfl ?_
            refine a_getr X lf7_26 (by first | exact p_o | assumption) rfl (by omega) dX7_unit_66 ?_
            refine a_getr X lf7_158 (by first | exact p_list_o | assumption) rfl (by omega) dX7_unit_69 ?_
            refine a_iload_n X dX7_unit_72 rfl ?_
            refine a_callSv X dX7_unit_73 miX7_cell lm7_175 (c_cell (by first | exact p_list_quota | assumption) (by decide)) rfl rfl (Nat.le_of_ble_eq_true rfl) ⟨by decide, by decide, by decide, by decide⟩ ?_
            obtain ⟨e_76, f_76, h⟩ := zBx h
            refine a_callVv X dX7_unit_76 miX7_answer lm7_134 (t_X7_answer (by first | exact hP | assumption) f_76) (by first | exact p_o | assumption) rfl rfl rfl (Nat.le_of_ble_eq_true rfl) ⟨by decide, by decide, by decide, by decide⟩ ?_
            refine a_iret X hr dX7_unit_79 ⟨by decide, by decide⟩ ?_
            subst hF
            rw [← Option.some.inj h]
            exact ⟨rfl, rfl⟩
          | 1, ht_30, hx_30 =>
            cases ht_30
            replace h := (if_neg (by omega)).symm.trans h
            replace h := (if_pos (by omega)).symm.trans h
            refine a_aload_n X dX7_unit_80 rfl ?_
            refine a_aload_n X dX7_unit_81 rfl ?_
            refine a_getr X lf7_40 (by first | exact p_o | assumption) rfl (by omega) dX7_unit_82 ?_
            refine a_getr X lf7_191 (by first | exact p_pool_o | assumption) rfl (by omega) dX7_unit_85 ?_
            refine a_iload_n X dX7_unit_88 rfl ?_
            refine a_callSv X dX7_unit_89 miX7_cell lm7_175 (c_cell (by first | exact p_pool_preferred | assumption) (by decide)) rfl rfl (Nat.le_of_ble_eq_true rfl) ⟨by decide, by decide, by decide, by decide⟩ ?_
            obtain ⟨e_92, f_92, h⟩ := zBx h
            refine a_callVv X dX7_unit_92 miX7_answer lm7_134 (t_X7_answer (by first | exact hP | assumption) f_92) (by first | exact p_o | assumption) rfl rfl rfl (Nat.le_of_ble_eq_true rfl) ⟨by decide, by decide, by decide, by decide⟩ ?_
            refine a_iret X hr dX7_unit_95 ⟨by decide, by decide⟩ ?_
            subst hF
            rw [← Option.some.inj h]
            exact ⟨rfl, rfl⟩
          | 2, ht_30, hx_30 =>
            cases ht_30
            replace h := (if_neg (by omega)).symm.trans h
            replace h := (if_neg (by omega)).symm.trans h
            replace h := (if_pos (by omega)).symm.trans h
            refine a_aload_n X dX7_unit_96 rfl ?_
            refine a_aload_n X dX7_unit_97 rfl ?_
            refine a_getr X lf7_40 (by first | exact p_o | assumption) rfl (by omega) dX7_unit_98 ?_
            refine a_getr X lf7_194 (by first | exact p_pool_o | assumption) rfl (by omega) dX7_unit_101 ?_
            refine a_iload_n X dX7_unit_104 rfl ?_
            refine a_callSv X dX7_unit_105 miX7_cell lm7_175 (c_cell (by first | exact p_pool_forGuests | assumption) (by decide)) rfl rfl (Nat.le_of_ble_eq_true rfl) ⟨by decide, by decide, by decide, by decide⟩ ?_
            obtain ⟨e_108, f_108, h⟩ := zBx h
            refine a_callVv X dX7_unit_108 miX7_answer lm7_134 (t_X7_answer (by first | exact hP | assumption) f_108) (by first | exact p_o | assumption) rfl rfl rfl (Nat.le_of_ble_eq_true rfl) ⟨by decide, by decide, by decide, by decide⟩ ?_
            refine a_iret X hr dX7_unit_111 ⟨by decide, by decide⟩ ?_
            subst hF
            rw [← Option.some.inj h]
            exact ⟨rfl, rfl⟩
          | 3, ht_30, hx_30 =>
            cases ht_30
            replace h := (if_neg (by omega)).symm.trans h
            replace h := (if_neg (by omega)).symm.trans h
            replace h := (if_neg (by omega)).symm.trans h
            replace h := (if_pos (by omega)).symm.trans h
            refine a_aload_n X dX7_unit_112 rfl ?_
            refine a_aload_n X dX7_unit_113 rfl ?_
            refine a_getr X lf7_40 (by first | exact p_o | assumption) rfl (by omega) dX7_unit_114 ?_
            refine a_iload_n X dX7_unit_117 rfl ?_
            obtain ⟨e_118, f_118, h⟩ := zBx h
            refine a_callVv X dX7_unit_118 miX2_firstApplicants lm7_197 (t_X2_firstApplicants (by first | exact p_pool | assumption) f_118) (by first | exact p_pool_o | assumption) rfl rfl rfl (Nat.le_of_ble_eq_true rfl) ⟨by decide, by decide, by decide, by decide⟩ ?_
            obtain ⟨e_121, f_121, h⟩ := zBx h
            refine a_callVv X dX7_unit_121 miX7_answer lm7_134 (t_X7_answer (by first | exact hP | assumption) f_121) (by first | exact p_o | assumption) rfl rfl rfl (Nat.le_of_ble_eq_true rfl) ⟨by decide, by decide, by decide, by decide⟩ ?_
            refine a_iret X hr dX7_unit_124 ⟨by decide, by decide⟩ ?_
            subst hF
            rw [← Option.some.inj h]
            exact ⟨rfl, rfl⟩
          | 4, ht_30, hx_30 =>
            cases ht_30
            replace h := (if_neg (by omega)).symm.trans h
            replace h := (if_neg (by omega)).symm.trans h
            replace h := (if_neg (by omega)).symm.trans h
            replace h := (if_neg (by omega)).symm.trans h
            replace h := (if_pos (by omega)).symm.trans h
            refine a_aload_n X dX7_unit_125 rfl ?_
            refine a_aload_n X dX7_unit_126 rfl ?_
            refine a_getr X lf7_40 (by first | exact p_o | assumption) rfl (by omega) dX7_unit_127 ?_
            refine a_iload_n X dX7_unit_130 rfl ?_
            obtain ⟨e_131, f_131, h⟩ := zBx h
            refine a_callVv X dX7_unit_131 miX2_firstHunters lm7_200 (t_X2_firstHunters (by first | exact p_pool | assumption) f_131) (by first | exact p_pool_o | assumption) rfl rfl rfl (Nat.le_of_ble_eq_true rfl) ⟨by decide, by decide, by decide, by decide⟩ ?_
            obtain ⟨e_134, f_134, h⟩ := zBx h
            refine a_callVv X dX7_unit_134 miX7_answer lm7_134 (t_X7_answer (by first | exact hP | assumption) f_134) (by first | exact p_o | assumption) rfl rfl rfl (Nat.le_of_ble_eq_true rfl) ⟨by decide, by decide, by decide, by decide⟩ ?_
            refine a_iret X hr dX7_unit_137 ⟨by decide, by decide⟩ ?_
            subst hF
            rw [← Option.some.inj h]
            exact ⟨rfl, rfl⟩
        · skip
          replace h := (if_neg (by omega)).symm.trans h
          replace h := (if_neg (by omega)).symm.trans h
          replace h := (if_neg (by omega)).symm.trans h
          replace h := (if_neg (by omega)).symm.trans h
          replace h := (if_neg (by omega)).symm.trans h
          refine a_aload_n X dX7_unit_138 rfl ?_
          refine a_aload_n X dX7_unit_139 rfl ?_
          refine a_getr X lf7_40 (by first | exact p_o | assumption) rfl (by omega) dX7_unit_140 ?_
          refine a_iload_n X dX7_unit_143 rfl ?_
          obtain ⟨e_144, f_144, h⟩ := zBx h
          refine a_callVv X dX7_unit_144 miX2_askers lm7_203 (t_X2_askers (by first | exact p_pool | assumption) f_144) (by first | exact p_pool_o | assumption) rfl rfl rfl (Nat.le_of_ble_eq_true rfl) ⟨by decide, by decide, by decide, by decide⟩ ?_
          obtain ⟨e_147, f_147, h⟩ := zBx h
          refine a_callVv X dX7_unit_147 miX7_answer lm7_134 (t_X7_answer (by first | exact hP | assumption) f_147) (by first | exact p_o | assumption) rfl rfl rfl (Nat.le_of_ble_eq_true rfl) ⟨by decide, by decide, by decide, by decide⟩ ?_
          refine a_iret X hr dX7_unit_150 ⟨by decide, by decide⟩ ?_
          subst hF
          rw [← Option.some.inj h]
          exact ⟨rfl, rfl⟩
      · replace h := (if_pos h_20).symm.trans h
        refine a_aload_n X dX7_unit_23 rfl ?_
        refine a_iconst (v := 2) X dX7_unit_24 (by decide) ?_
        obtain ⟨e_25, f_25, h⟩ := zBx h
        refine a_callVv X dX7_unit_25 miX7_refuse lm7_102 (t_X7_refuse (by first | exact hP | assumption) f_25) (by first | exact p_o | assumption) rfl rfl rfl (Nat.le_of_ble_eq_true rfl) ⟨by decide, by decide, by decide, by decide⟩ ?_
        refine a_iret X hr dX7_unit_28 ⟨by decide, by decide⟩ ?_
        subst hF
        rw [← Option.some.inj h]
        exact ⟨rfl, rfl⟩
    · replace h := (if_neg h_6).symm.trans h
      exact Zw.to2 (J_9 _ _ _ h) rfl rfl rfl
noncomputable def D_X7_isApplicant_20 (P : Nat) (M : zMt) (y0_20 : Int32) : Option (Int32) :=
  some (y0_20)
noncomputable def D_X7_isApplicant_19 (P : Nat) (M : zMt)  : Option (Int32) :=
  D_X7_isApplicant_20 P M (0 : Int32)
noncomputable def D_X7_isApplicant (P : Nat) (M : zMt) (v0 : Int32) : Option (Int32) :=
  if v0 < 0 then
    D_X7_isApplicant_19 P M
  else
    if (M (P + 91) 1) ≤ v0 then
      D_X7_isApplicant_19 P M
    else
      D_X7_isApplicant_20 P M (1 : Int32)
set_option maxRecDepth 100000 in
set_option maxHeartbeats 4000000 in
theorem t_X7_isApplicant {l : Launch} {G : zG} {b : Nat} {L : List zC} {M : zMt} {N : zNt} {P : Nat} {v0 : Int32} (hP : LX7 L P) {r : Int32} (h : D_X7_isApplicant P M v0 = some r) : zM l G b yX7_isApplicant cX7_isApplicant 2 (some .boolean) 0 0 0 [.ref P, .int v0] (L, M, N) (fun r2 z => r2 = some (.int r) ∧ z = (L, M, N) ∧ (r = 0 ∨ r = 1)) := by
  refine zM.of miX7_isApplicant (Nat.le_of_ble_eq_true rfl) ?_
  intro p e s m args below meth c X hr hname
  generalize hF : ((fun r2 z => r2 = some (.int r) ∧ z = (L, M, N) ∧ (r = 0 ∨ r = 1)) : Option Value → zS → Prop) = FQ
  change Zw p l e { frames := 0, cells := 0, slots := 0, locals := 80 * (0) } s m args below meth c G b 2 (MQ below (zQ G b FQ) args s 0 0 (fun q : Nat => b ≤ q)) 0 0 0 [some (.ref P), some (.int v0)] [] (L, M, N)
  have p_lt := hP.1
  have p_o := hP.2.1
  have p_pool := hP.2.2.2.2.2.2.2.1
  have p_pool_lt := p_pool.1
  have p_pool_o := p_pool.2.1
  have J_20 : ∀ (x1_20 : Int32) (y0_20 : Int32), (y0_20 = 0 ∨ y0_20 = 1) → D_X7_isApplicant_20 P M y0_20 = some r → Zw p l e { frames := 0, cells := 0, slots := 0, locals := 80 * (0) } s m args below meth c G b 2 (MQ below (zQ G b FQ) args s 0 0 (fun q : Nat => b ≤ q)) 0 0 20 [some (.ref (P)), some (.int x1_20)] [.int y0_20] (L, M, N) := by
    intro x1_20 y0_20 fb_y0_20 h
    unfold D_X7_isApplicant_20 at h
    refine a_zret X (by first | exact Or.inl rfl | exact Or.inr rfl | assumption) hr dX7_isApplicant_20 ⟨by decide, by decide⟩ ?_
    subst hF
    rw [← Option.some.inj h]
    exact ⟨rfl, rfl, (by first | exact Or.inl rfl | exact Or.inr rfl | assumption)⟩
  have J_19 : ∀ (x1_19 : Int32), D_X7_isApplicant_19 P M = some r → Zw p l e { frames := 0, cells := 0, slots := 0, locals := 80 * (0) } s m args below meth c G b 2 (MQ below (zQ G b FQ) args s 0 0 (fun q : Nat => b ≤ q)) 0 0 19 [some (.ref (P)), some (.int x1_19)] [] (L, M, N) := by
    intro x1_19 h
    unfold D_X7_isApplicant_19 at h
    refine a_iconst (v := 0) X dX7_isApplicant_19 (by decide) ?_
    exact Zw.to2 (J_20 _ _ (by first | exact Or.inl rfl | exact Or.inr rfl | assumption) h) rfl rfl rfl
  unfold D_X7_isApplicant at h
  refine a_iload_n X dX7_isApplicant_0 rfl ?_
  refine a_if_lt (tgt := 19) X dX7_isApplicant_1 (by decide) (fun h_1 => ?_) (fun h_1 => ?_)
  · replace h := (if_pos h_1).symm.trans h
    exact Zw.to2 (J_19 _ h) rfl rfl rfl
  · replace h := (if_neg h_1).symm.trans h
    refine a_iload_n X dX7_isApplicant_4 rfl ?_
    refine a_aload_n X dX7_isApplicant_5 rfl ?_
    refine a_getr X lf7_40 (by first | exact p_o | assumption) rfl (by omega) dX7_isApplicant_6 ?_
    refine a_geti X lf7_140 (by first | exact p_pool_o | assumption) rfl dX7_isApplicant_9 ?_
    refine a_icmp_ge (tgt := 19) X dX7_isApplicant_12 (by decide) (fun h_12 => ?_) (fun h_12 => ?_)
    · replace h := (if_pos h_12).symm.trans h
      exact Zw.to2 (J_19 _ h) rfl rfl rfl
    · replace h := (if_neg h_12).symm.trans h
      refine a_iconst (v := 1) X dX7_isApplicant_15 (by decide) ?_
      refine a_goto (tgt := 20) X dX7_isApplicant_16 (by decide) ?_
      exact Zw.to2 (J_20 _ _ (by first | exact Or.inl rfl | exact Or.inr rfl | assumption) h) rfl rfl rfl
noncomputable def D_X7_applicant_10 (P : Nat) (M_10 : zMt) : Option (Int32 × zMt) :=
  zB (D_X7_refuse P (1 : Int32) M_10) fun e_12 =>
  some (e_12.1, e_12.2)
noncomputable def D_X7_applicant (P : Nat) (v0 : Int32) (v1 : Int32) (M : zMt) : Option (Int32 × zMt) :=
  if v1 < 0 then
    D_X7_applicant_10 P M
  else
    if v1 ≤ (6 : Int32) then
      zB (D_X7_isApplicant P M v0) fun e_18 =>
      if e_18 = 0 then
        zB (D_X7_refuse P (2 : Int32) M) fun e_26 =>
        some (e_26.1, e_26.2)
      else
        if Int32.toInt v1 = 0 then
          zB (D_X7_answer P (zrd 0 (M (P + 96)) 10 v0) M) fun e_80 =>
          some (e_80.1, e_80.2)
        else
        if Int32.toInt v1 = 1 then
          zB (D_X7_answer P (zrd 0 (M (P + 97)) 10 v0) M) fun e_96 =>
          some (e_96.1, e_96.2)
        else
        if Int32.toInt v1 = 2 then
          zB (D_X7_answer P (zrd 0 (M (P + 98)) 10 v0) M) fun e_112 =>
          some (e_112.1, e_112.2)
        else
        if Int32.toInt v1 = 3 then
          zB (D_X7_answer P (zrd 0 (M (P + 99)) 10 v0) M) fun e_128 =>
          some (e_128.1, e_128.2)
        else
        if Int32.toInt v1 = 4 then
          zB (D_X7_answer P (zrd 0 (M (P + 102)) 10 v0) M) fun e_144 =>
          some (e_144.1, e_144.2)
        else
        if Int32.toInt v1 = 5 then
          zB (D_X7_answer P (zrd 0 (M (P + 100)) 10 v0) M) fun e_160 =>
          some (e_160.1, e_160.2)
        else
          zB (D_X7_answer P (zrd 0 (M (P + 101)) 10 v0) M) fun e_176 =>
          some (e_176.1, e_176.2)
    else
      D_X7_applicant_10 P M
set_option maxRecDepth 100000 in
set_option maxHeartbeats 4000000 in
theorem t_X7_applicant {l : Launch} {G : zG} {b : Nat} {L : List zC} {M : zMt} {N : zNt} {P : Nat} {v0 : Int32} {v1 : Int32} (hP : LX7 L P) {r : Int32 × zMt} (h : D_X7_applicant P v0 v1 M = some r) : zM l G b yX7_applicant cX7_applicant 3 (some .int) 1 0 0 [.ref P, .int v0, .int v1] (L, M, N) (fun r2 z => r2 = some (.int r.1) ∧ z = (L, r.2, N)) := by
  refine zM.of miX7_applicant (Nat.le_of_ble_eq_true rfl) ?_
  intro p e s m args below meth c X hr hname
  generalize hF : ((fun r2 z => r2 = some (.int r.1) ∧ z = (L, r.2, N)) : Option Value → zS → Prop) = FQ
  change Zw p l e { frames := 1, cells := 0, slots := 0, locals := 80 * (1) } s m args below meth c G b 3 (MQ below (zQ G b FQ) args s 0 0 (fun q : Nat => b ≤ q)) 0 0 0 [some (.ref P), some (.int v0), some (.int v1)] [] (L, M, N)
  have p_lt := hP.1
  have p_o := hP.2.1
  have p_pool := hP.2.2.2.2.2.2.2.1
  have p_pool_lt := p_pool.1
  have p_pool_o := p_pool.2.1
  have p_pool_size := p_pool.2.2.2.2.2.2.1
  have p_pool_guestCount := p_pool.2.2.2.2.2.2.2.1
  have p_pool_score := p_pool.2.2.2.2.2.2.2.2.1
  have p_pool_tickets := p_pool.2.2.2.2.2.2.2.2.2.1
  have p_pool_bits := p_pool.2.2.2.2.2.2.2.2.2.2.1
  have p_pool_party := p_pool.2.2.2.2.2.2.2.2.2.2.2.1
  have p_pool_wishCount := p_pool.2.2.2.2.2.2.2.2.2.2.2.2.1
  have J_10 : ∀ (x1_10 : Int32) (x2_10 : Int32) (M_10 : zMt), D_X7_applicant_10 P M_10 = some r → Zw p l e { frames := 1, cells := 0, slots := 0, locals := 80 * (1) } s m args below meth c G b 3 (MQ below (zQ G b FQ) args s 0 0 (fun q : Nat => b ≤ q)) 0 0 10 [some (.ref (P)), some (.int x1_10), some (.int x2_10)] [] (L, M_10, N) := by
    intro x1_10 x2_10 M_10 h
    unfold D_X7_applicant_10 at h
    refine a_aload_n X dX7_applicant_10 rfl ?_
    refine a_iconst (v := 1) X dX7_applicant_11 (by decide) ?_
    obtain ⟨e_12, f_12, h⟩ := zBx h
    refine a_callVv X dX7_applicant_12 miX7_refuse lm7_102 (t_X7_refuse (by first | exact hP | assumption) f_12) (by first | exact p_o | assumption) rfl rfl rfl (Nat.le_of_ble_eq_true rfl) ⟨by decide, by decide, by decide, by decide⟩ ?_
    refine a_iret X hr dX7_applicant_15 ⟨by decide, by decide⟩ ?_
    subst hF
    rw [← Option.some.inj h]
    exact ⟨rfl, rfl⟩
  unfold D_X7_applicant at h
  refine a_iload_n X dX7_applicant_0 rfl ?_
  refine a_if_lt (tgt := 10) X dX7_applicant_1 (by decide) (fun h_1 => ?_) (fun h_1 => ?_)
  · replace h := (if_pos h_1).symm.trans h
    exact Zw.to2 (J_10 _ _ _ h) rfl rfl rfl
  · replace h := (if_neg h_1).symm.trans h
    refine a_iload_n X dX7_applicant_4 rfl ?_
    refine a_bipush (v := 6) X dX7_applicant_5 (by decide) ?_
    refine a_icmp_le (tgt := 16) X dX7_applicant_7 (by decide) (fun h_7 => ?_) (fun h_7 => ?_)
    · replace h := (if_pos h_7).symm.trans h
      refine a_aload_n X dX7_applicant_16 rfl ?_
      refine a_iload_n X dX7_applicant_17 rfl ?_
      obtain ⟨e_18, f_18, h⟩ := zBx h
      refine a_callVx X dX7_applicant_18 miX7_isApplicant lm7_206 (t_X7_isApplicant (by first | exact hP | assumption) f_18) (by first | exact p_o | assumption) rfl rfl rfl (Nat.le_of_ble_eq_true rfl) ⟨by decide, by decide, by decide, by decide⟩ (fun r_18 S_18 q_18 => ?_)
      obtain ⟨rfl, rfl, b_18⟩ := q_18
      refine a_if_ne (tgt := 30) X dX7_applicant_21 (by decide) (fun h_21 => ?_) (fun h_21 => ?_)
      · replace h := (if_neg h_21).symm.trans h
        refine a_iload_n X dX7_applicant_30 rfl ?_
        refine a_tsw (tg := [68, 84, 100, 116, 132, 148]) (td := 164) X dX7_applicant_31 (by decide +kernel) (by decide) (by decide) (fun k_31 t_31 ht_31 hx_31 => ?_) (fun hx_31 => ?_)
        · match k_31, ht_31, hx_31 with
          | 0, ht_31, hx_31 =>
            cases ht_31
            replace h := (if_pos (by omega)).symm.trans h
            refine a_aload_n X dX7_applicant_68 rfl ?_
            refine a_aload_n X dX7_applicant_69 rfl ?_
            refine a_getr X lf7_40 (by first | exact p_o | assumption) rfl (by omega) dX7_applicant_70 ?_
            refine a_getr X lf7_209 (by first | exact p_pool_o | assumption) rfl (by omega) dX7_applicant_73 ?_
            refine a_iload_n X dX7_applicant_76 rfl ?_
            refine a_callSv X dX7_applicant_77 miX7_cell lm7_175 (c_cell (by first | exact p_pool_size | assumption) (by decide)) rfl rfl (Nat.le_of_ble_eq_true rfl) ⟨by decide, by decide, by decide, by decide⟩ ?_
            obtain ⟨e_80, f_80, h⟩ := zBx h
            refine a_callVv X dX7_applicant_80 miX7_answer lm7_134 (t_X7_answer (by first | exact hP | assumption) f_80) (by first | exact p_o | assumption) rfl rfl rfl (Nat.le_of_ble_eq_true rfl) ⟨by decide, by decide, by decide, by decide⟩ ?_
            refine a_iret X hr dX7_applicant_83 ⟨by decide, by decide⟩ ?_
            subst hF
            rw [← Option.some.inj h]
            exact ⟨rfl, rfl⟩
          | 1, ht_31, hx_31 =>
            cases ht_31
            replace h := (if_neg (by omega)).symm.trans h
            replace h := (if_pos (by omega)).symm.trans h
            refine a_aload_n X dX7_applicant_84 rfl ?_
            refine a_aload_n X dX7_applicant_85 rfl ?_
            refine a_getr X lf7_40 (by first | exact p_o | assumption) rfl (by omega) dX7_applicant_86 ?_
            refine a_getr X lf7_212 (by first | exact p_pool_o | assumption) rfl (by omega) dX7_applicant_89 ?_
            refine a_iload_n X dX7_applicant_92 rfl ?_
            refine a_callSv X dX7_applicant_93 miX7_cell lm7_175 (c_cell (by first | exact p_pool_guestCount | assumption) (by decide)) rfl rfl (Nat.le_of_ble_eq_true rfl) ⟨by decide, by decide, by decide, by decide⟩ ?_
            obtain ⟨e_96, f_96, h⟩ := zBx h
            refine a_callVv X dX7_applicant_96 miX7_answer lm7_134 (t_X7_answer (by first | exact hP | assumption) f_96) (by first | exact p_o | assumption) rfl rfl rfl (Nat.le_of_ble_eq_true rfl) ⟨by decide, by decide, by decide, by decide⟩ ?_
            refine a_iret X hr dX7_applicant_99 ⟨by decide, by decide⟩ ?_
            subst hF
            rw [← Option.some.inj h]
            exact ⟨rfl, rfl⟩
          | 2, ht_31, hx_31 =>
            cases ht_31
            replace h := (if_neg (by omega)).symm.trans h
            replace h := (if_neg (by omega)).symm.trans h
            replace h := (if_pos (by omega)).symm.trans h
            refine a_aload_n X dX7_applicant_100 rfl ?_
            refine a_aload_n X dX7_applicant_101 rfl ?_
            refine a_getr X lf7_40 (by first | exact p_o | assumption) rfl (by omega) dX7_applicant_102 ?_
            refine a_getr X lf7_215 (by first | exact p_pool_o | assumption) rfl (by omega) dX7_applicant_105 ?_
            refine a_iload_n X dX7_applicant_108 rfl ?_
            refine a_callSv X dX7_applicant_109 miX7_cell lm7_175 (c_cell (by first | exact p_pool_score | assumption) (by decide)) rfl rfl (Nat.le_of_ble_eq_true rfl) ⟨by decide, by decide, by decide, by decide⟩ ?_
            obtain ⟨e_112, f_112, h⟩ := zBx h
            refine a_callVv X dX7_applicant_112 miX7_answer lm7_134 (t_X7_answer (by first | exact hP | assumption) f_112) (by first | exact p_o | assumption) rfl rfl rfl (Nat.le_of_ble_eq_true rfl) ⟨by decide, by decide, by decide, by decide⟩ ?_
            refine a_iret X hr dX7_applicant_115 ⟨by decide, by decide⟩ ?_
            subst hF
            rw [← Option.some.inj h]
            exact ⟨rfl, rfl⟩
          | 3, ht_31, hx_31 =>
            cases ht_31
            replace h := (if_neg (by omega)).symm.trans h
            replace h := (if_neg (by omega)).symm.trans h
            replace h := (if_neg (by omega)).symm.trans h
            replace h := (if_pos (by omega)).symm.trans h
            refine a_aload_n X dX7_applicant_116 rfl ?_
            refine a_aload_n X dX7_applicant_117 rfl ?_
            refine a_getr X lf7_40 (by first | exact p_o | assumption) rfl (by omega) dX7_applicant_118 ?_
            refine a_getr X lf7_216 (by first | exact p_pool_o | assumption) rfl (by omega) dX7_applicant_121 ?_
            refine a_iload_n X dX7_applicant_124 rfl ?_
            refine a_callSv X dX7_applicant_125 miX7_cell lm7_175 (c_cell (by first | exact p_pool_tickets | assumption) (by decide)) rfl rfl (Nat.le_of_ble_eq_true rfl) ⟨by decide, by decide, by decide, by decide⟩ ?_
            obtain ⟨e_128, f_128, h⟩ := zBx h
            refine a_callVv X dX7_applicant_128 miX7_answer lm7_134 (t_X7_answer (by first | exact hP | assumption) f_128) (by first | exact p_o | assumption) rfl rfl rfl (Nat.le_of_ble_eq_true rfl) ⟨by decide, by decide, by decide, by decide⟩ ?_
            refine a_iret X hr dX7_applicant_131 ⟨by decide, by decide⟩ ?_
            subst hF
            rw [← Option.some.inj h]
            exact ⟨rfl, rfl⟩
          | 4, ht_31, hx_31 =>
            cases ht_31
            replace h := (if_neg (by omega)).symm.trans h
            replace h := (if_neg (by omega)).symm.trans h
            replace h := (if_neg (by omega)).symm.trans h
            replace h := (if_neg (by omega)).symm.trans h
            replace h := (if_pos (by omega)).symm.trans h
            refine a_aload_n X dX7_applicant_132 rfl ?_
            refine a_aload_n X dX7_applicant_133 rfl ?_
            refine a_getr X lf7_40 (by first | exact p_o | assumption) rfl (by omega) dX7_applicant_134 ?_
            refine a_getr X lf7_219 (by first | exact p_pool_o | assumption) rfl (by omega) dX7_applicant_137 ?_
            refine a_iload_n X dX7_applicant_140 rfl ?_
            refine a_callSv X dX7_applicant_141 miX7_cell lm7_175 (c_cell (by first | exact p_pool_wishCount | assumption) (by decide)) rfl rfl (Nat.le_of_ble_eq_true rfl) ⟨by decide, by decide, by decide, by decide⟩ ?_
            obtain ⟨e_144, f_144, h⟩ := zBx h
            refine a_callVv X dX7_applicant_144 miX7_answer lm7_134 (t_X7_answer (by first | exact hP | assumption) f_144) (by first | exact p_o | assumption) rfl rfl rfl (Nat.le_of_ble_eq_true rfl) ⟨by decide, by decide, by decide, by decide⟩ ?_
            refine a_iret X hr dX7_applicant_147 ⟨by decide, by decide⟩ ?_
            subst hF
            rw [← Option.some.inj h]
            exact ⟨rfl, rfl⟩
          | 5, ht_31, hx_31 =>
            cases ht_31
            replace h := (if_neg (by omega)).symm.trans h
            replace h := (if_neg (by omega)).symm.trans h
            replace h := (if_neg (by omega)).symm.trans h
            replace h := (if_neg (by omega)).symm.trans h
            replace h := (if_neg (by omega)).symm.trans h
            replace h := (if_pos (by omega)).symm.trans h
            refine a_aload_n X dX7_applicant_148 rfl ?_
            refine a_aload_n X dX7_applicant_149 rfl ?_
            refine a_getr X lf7_40 (by first | exact p_o | assumption) rfl (by omega) dX7_applicant_150 ?_
            refine a_getr X lf7_222 (by first | exact p_pool_o | assumption) rfl (by omega) dX7_applicant_153 ?_
            refine a_iload_n X dX7_applicant_156 rfl ?_
            refine a_callSv X dX7_applicant_157 miX7_cell lm7_175 (c_cell (by first | exact p_pool_bits | assumption) (by decide)) rfl rfl (Nat.le_of_ble_eq_true rfl) ⟨by decide, by decide, by decide, by decide⟩ ?_
            obtain ⟨e_160, f_160, h⟩ := zBx h
            refine a_callVv X dX7_applicant_160 miX7_answer lm7_134 (t_X7_answer (by first | exact hP | assumption) f_160) (by first | exact p_o | assumption) rfl rfl rfl (Nat.le_of_ble_eq_true rfl) ⟨by decide, by decide, by decide, by decide⟩ ?_
            refine a_iret X hr dX7_applicant_163 ⟨by decide, by decide⟩ ?_
            subst hF
            rw [← Option.some.inj h]
            exact ⟨rfl, rfl⟩
        · skip
          replace h := (if_neg (by omega)).symm.trans h
          replace h := (if_neg (by omega)).symm.trans h
          replace h := (if_neg (by omega)).symm.trans h
          replace h := (if_neg (by omega)).symm.trans h
          replace h := (if_neg (by omega)).symm.trans h
          replace h := (if_neg (by omega)).symm.trans h
          refine a_aload_n X dX7_applicant_164 rfl ?_
          refine a_aload_n X dX7_applicant_165 rfl ?_
          refine a_getr X lf7_40 (by first | exact p_o | assumption) rfl (by omega) dX7_applicant_166 ?_
          refine a_getr X lf7_225 (by first | exact p_pool_o | assumption) rfl (by omega) dX7_applicant_169 ?_
          refine a_iload_n X dX7_applicant_172 rfl ?_
          refine a_callSv X dX7_applicant_173 miX7_cell lm7_175 (c_cell (by first | exact p_pool_party | assumption) (by decide)) rfl rfl (Nat.le_of_ble_eq_true rfl) ⟨by decide, by decide, by decide, by decide⟩ ?_
          obtain ⟨e_176, f_176, h⟩ := zBx h
          refine a_callVv X dX7_applicant_176 miX7_answer lm7_134 (t_X7_answer (by first | exact hP | assumption) f_176) (by first | exact p_o | assumption) rfl rfl rfl (Nat.le_of_ble_eq_true rfl) ⟨by decide, by decide, by decide, by decide⟩ ?_
          refine a_iret X hr dX7_applicant_179 ⟨by decide, by decide⟩ ?_
          subst hF
          rw [← Option.some.inj h]
          exact ⟨rfl, rfl⟩
      · replace h := (if_pos h_21).symm.trans h
        refine a_aload_n X dX7_applicant_24 rfl ?_
        refine a_iconst (v := 2) X dX7_applicant_25 (by decide) ?_
        obtain ⟨e_26, f_26, h⟩ := zBx h
        refine a_callVv X dX7_applicant_26 miX7_refuse lm7_102 (t_X7_refuse (by first | exact hP | assumption) f_26) (by first | exact p_o | assumption) rfl rfl rfl (Nat.le_of_ble_eq_true rfl) ⟨by decide, by decide, by decide, by decide⟩ ?_
        refine a_iret X hr dX7_applicant_29 ⟨by decide, by decide⟩ ?_
        subst hF
        rw [← Option.some.inj h]
        exact ⟨rfl, rfl⟩
    · replace h := (if_neg h_7).symm.trans h
      exact Zw.to2 (J_10 _ _ _ h) rfl rfl rfl
noncomputable def D_X7_choice (P : Nat) (v0 : Int32) (v1 : Int32) (M : zMt) : Option (Int32 × zMt) :=
  if 0 ≤ v1 then
    zB (D_X7_isApplicant P M v0) fun e_12 =>
    if e_12 = 0 then
      zB (D_X7_refuse P (2 : Int32) M) fun e_20 =>
      some (e_20.1, e_20.2)
    else
      if v1 < (zrd 0 (M (P + 102)) 10 v0) then
        zB (D_X2_wish (P + 91) M v0 v1) fun e_52 =>
        zB (D_X7_answer P e_52 M) fun e_55 =>
        some (e_55.1, e_55.2)
      else
        zB (D_X7_refuse P (5 : Int32) M) fun e_41 =>
        some (e_41.1, e_41.2)
  else
    zB (D_X7_refuse P (1 : Int32) M) fun e_6 =>
    some (e_6.1, e_6.2)
set_option maxRecDepth 100000 in
set_option maxHeartbeats 4000000 in
theorem t_X7_choice {l : Launch} {G : zG} {b : Nat} {L : List zC} {M : zMt} {N : zNt} {P : Nat} {v0 : Int32} {v1 : Int32} (hP : LX7 L P) {r : Int32 × zMt} (h : D_X7_choice P v0 v1 M = some r) : zM l G b yX7_choice cX7_choice 3 (some .int) 2 0 0 [.ref P, .int v0, .int v1] (L, M, N) (fun r2 z => r2 = some (.int r.1) ∧ z = (L, r.2, N)) := by
  refine zM.of miX7_choice (Nat.le_of_ble_eq_true rfl) ?_
  intro p e s m args below meth c X hr hname
  generalize hF : ((fun r2 z => r2 = some (.int r.1) ∧ z = (L, r.2, N)) : Option Value → zS → Prop) = FQ
  change Zw p l e { frames := 2, cells := 0, slots := 0, locals := 80 * (2) } s m args below meth c G b 3 (MQ below (zQ G b FQ) args s 0 0 (fun q : Nat => b ≤ q)) 0 0 0 [some (.ref P), some (.int v0), some (.int v1)] [] (L, M, N)
  have p_lt := hP.1
  have p_o := hP.2.1
  have p_pool := hP.2.2.2.2.2.2.2.1
  have p_pool_lt := p_pool.1
  have p_pool_o := p_pool.2.1
  have p_pool_wishCount := p_pool.2.2.2.2.2.2.2.2.2.2.2.2.1
  unfold D_X7_choice at h
  refine a_iload_n X dX7_choice_0 rfl ?_
  refine a_if_ge (tgt := 10) X dX7_choice_1 (by decide) (fun h_1 => ?_) (fun h_1 => ?_)
  · replace h := (if_pos h_1).symm.trans h
    refine a_aload_n X dX7_choice_10 rfl ?_
    refine a_iload_n X dX7_choice_11 rfl ?_
    obtain ⟨e_12, f_12, h⟩ := zBx h
    refine a_callVx X dX7_choice_12 miX7_isApplicant lm7_206 (t_X7_isApplicant (by first | exact hP | assumption) f_12) (by first | exact p_o | assumption) rfl rfl rfl (Nat.le_of_ble_eq_true rfl) ⟨by decide, by decide, by decide, by decide⟩ (fun r_12 S_12 q_12 => ?_)
    obtain ⟨rfl, rfl, b_12⟩ := q_12
    refine a_if_ne (tgt := 24) X dX7_choice_15 (by decide) (fun h_15 => ?_) (fun h_15 => ?_)
    · replace h := (if_neg h_15).symm.trans h
      refine a_iload_n X dX7_choice_24 rfl ?_
      refine a_aload_n X dX7_choice_25 rfl ?_
      refine a_getr X lf7_40 (by first | exact p_o | assumption) rfl (by omega) dX7_choice_26 ?_
      refine a_getr X lf7_219 (by first | exact p_pool_o | assumption) rfl (by omega) dX7_choice_29 ?_
      refine a_iload_n X dX7_choice_32 rfl ?_
      refine a_callSv X dX7_choice_33 miX7_cell lm7_175 (c_cell (by first | exact p_pool_wishCount | assumption) (by decide)) rfl rfl (Nat.le_of_ble_eq_true rfl) ⟨by decide, by decide, by decide, by decide⟩ ?_
      refine a_icmp_lt (tgt := 45) X dX7_choice_36 (by decide) (fun h_36 => ?_) (fun h_36 => ?_)
      · replace h := (if_pos h_36).symm.trans h
        refine a_aload_n X dX7_choice_45 rfl ?_
        refine a_aload_n X dX7_choice_46 rfl ?_
        refine a_getr X lf7_40 (by first | exact p_o | assumption) rfl (by omega) dX7_choice_47 ?_
        refine a_iload_n X dX7_choice_50 rfl ?_
        refine a_iload_n X dX7_choice_51 rfl ?_
        obtain ⟨e_52, f_52, h⟩ := zBx h
        refine a_callVv X dX7_choice_52 miX2_wish lm7_226 (t_X2_wish (by first | exact p_pool | assumption) f_52) (by first | exact p_pool_o | assumption) rfl rfl rfl (Nat.le_of_ble_eq_true rfl) ⟨by decide, by decide, by decide, by decide⟩ ?_
        obtain ⟨e_55, f_55, h⟩ := zBx h
        refine a_callVv X dX7_choice_55 miX7_answer lm7_134 (t_X7_answer (by first | exact hP | assumption) f_55) (by first | exact p_o | assumption) rfl rfl rfl (Nat.le_of_ble_eq_true rfl) ⟨by decide, by decide, by decide, by decide⟩ ?_
        refine a_iret X hr dX7_choice_58 ⟨by decide, by decide⟩ ?_
        subst hF
        rw [← Option.some.inj h]
        exact ⟨rfl, rfl⟩
      · replace h := (if_neg h_36).symm.trans h
        refine a_aload_n X dX7_choice_39 rfl ?_
        refine a_iconst (v := 5) X dX7_choice_40 (by decide) ?_
        obtain ⟨e_41, f_41, h⟩ := zBx h
        refine a_callVv X dX7_choice_41 miX7_refuse lm7_102 (t_X7_refuse (by first | exact hP | assumption) f_41) (by first | exact p_o | assumption) rfl rfl rfl (Nat.le_of_ble_eq_true rfl) ⟨by decide, by decide, by decide, by decide⟩ ?_
        refine a_iret X hr dX7_choice_44 ⟨by decide, by decide⟩ ?_
        subst hF
        rw [← Option.some.inj h]
        exact ⟨rfl, rfl⟩
    · replace h := (if_pos h_15).symm.trans h
      refine a_aload_n X dX7_choice_18 rfl ?_
      refine a_iconst (v := 2) X dX7_choice_19 (by decide) ?_
      obtain ⟨e_20, f_20, h⟩ := zBx h
      refine a_callVv X dX7_choice_20 miX7_refuse lm7_102 (t_X7_refuse (by first | exact hP | assumption) f_20) (by first | exact p_o | assumption) rfl rfl rfl (Nat.le_of_ble_eq_true rfl) ⟨by decide, by decide, by decide, by decide⟩ ?_
      refine a_iret X hr dX7_choice_23 ⟨by decide, by decide⟩ ?_
      subst hF
      rw [← Option.some.inj h]
      exact ⟨rfl, rfl⟩
  · replace h := (if_neg h_1).symm.trans h
    refine a_aload_n X dX7_choice_4 rfl ?_
    refine a_iconst (v := 1) X dX7_choice_5 (by decide) ?_
    obtain ⟨e_6, f_6, h⟩ := zBx h
    refine a_callVv X dX7_choice_6 miX7_refuse lm7_102 (t_X7_refuse (by first | exact hP | assumption) f_6) (by first | exact p_o | assumption) rfl rfl rfl (Nat.le_of_ble_eq_true rfl) ⟨by decide, by decide, by decide, by decide⟩ ?_
    refine a_iret X hr dX7_choice_9 ⟨by decide, by decide⟩ ?_
    subst hF
    rw [← Option.some.inj h]
    exact ⟨rfl, rfl⟩
noncomputable def D_X7_commonDivisor_34  (x2_34 : Int32) : Option (Int32) :=
  some (x2_34)
noncomputable def D_X7_commonDivisor_7  : Nat → Int32 → Int32 → Int32 → Option (Int32)
  | 0, _, _, _ => none
  | n + 1, x2_7, x3_7, x4_7 =>
    if (100 : Int32) ≤ x4_7 then
      D_X7_commonDivisor_34 x2_7
    else
      if x3_7 = 0 then
        D_X7_commonDivisor_34 x2_7
      else
        zZ x3_7 <|
        (D_X7_commonDivisor_7 n) x3_7 (x2_7 - x2_7 / x3_7 * x3_7) (x4_7 + 1)
noncomputable def D_X7_commonDivisor  (v0 : Int32) (v1 : Int32) : Option (Int32) :=
  D_X7_commonDivisor_7 zFu v0 v1 (0 : Int32)
set_option maxRecDepth 100000 in
set_option maxHeartbeats 4000000 in
theorem t_X7_commonDivisor {l : Launch} {G : zG} {b : Nat} {L : List zC} {M : zMt} {N : zNt}  {v0 : Int32} {v1 : Int32}  {r : Int32} (h : D_X7_commonDivisor v0 v1 = some r) : zM l G b yX7_commonDivisor cX7_commonDivisor 6 (some .int) 0 0 0 [.int v0, .int v1] (L, M, N) (fun r2 z => r2 = some (.int r) ∧ z = (L, M, N)) := by
  refine zM.of miX7_commonDivisor (Nat.le_of_ble_eq_true rfl) ?_
  intro p e s m args below meth c X hr hname
  generalize hF : ((fun r2 z => r2 = some (.int r) ∧ z = (L, M, N)) : Option Value → zS → Prop) = FQ
  change Zw p l e { frames := 0, cells := 0, slots := 0, locals := 80 * (0) } s m args below meth c G b 6 (MQ below (zQ G b FQ) args s 0 0 (fun q : Nat => b ≤ q)) 0 0 0 [some (.int v0), some (.int v1), none, none, none, none] [] (L, M, N)
  have J_34 : ∀ (x0_34 : Int32) (x1_34 : Int32) (x2_34 : Int32) (x3_34 : Int32) (x4_34 : Int32) (x5_34 : Option Value), D_X7_commonDivisor_34 x2_34 = some r → Zw p l e { frames := 0, cells := 0, slots := 0, locals := 80 * (0) } s m args below meth c G b 6 (MQ below (zQ G b FQ) args s 0 0 (fun q : Nat => b ≤ q)) 0 0 34 [some (.int x0_34), some (.int x1_34), some (.int x2_34), some (.int x3_34), some (.int x4_34), x5_34] [] (L, M, N) := by
    intro x0_34 x1_34 x2_34 x3_34 x4_34 x5_34 h
    unfold D_X7_commonDivisor_34 at h
    refine a_iload_n X dX7_commonDivisor_34 rfl ?_
    refine a_iret X hr dX7_commonDivisor_35 ⟨by decide, by decide⟩ ?_
    subst hF
    rw [← Option.some.inj h]
    exact ⟨rfl, rfl⟩
  have L_7 : ∀ u : Nat, ∀ (x0_7 : Int32) (x1_7 : Int32) (x2_7 : Int32) (x3_7 : Int32) (x4_7 : Int32) (x5_7 : Option Value), D_X7_commonDivisor_7 u x2_7 x3_7 x4_7 = some r → Zw p l e { frames := 0, cells := 0, slots := 0, locals := 80 * (0) } s m args below meth c G b 6 (MQ below (zQ G b FQ) args s 0 0 (fun q : Nat => b ≤ q)) 0 0 7 [some (.int x0_7), some (.int x1_7), some (.int x2_7), some (.int x3_7), some (.int x4_7), x5_7] [] (L, M, N) := by
    intro u
    induction u with
    | zero => intro x0_7 x1_7 x2_7 x3_7 x4_7 x5_7 h; cases (show none = some r from h)
    | succ u_7 ih_7 =>
      intro x0_7 x1_7 x2_7 x3_7 x4_7 x5_7 h
      rw [D_X7_commonDivisor_7] at h
      refine a_iload X dX7_commonDivisor_7 rfl ?_
      refine a_bipush (v := 100) X dX7_commonDivisor_9 (by decide) ?_
      refine a_icmp_ge (tgt := 34) X dX7_commonDivisor_11 (by decide) (fun h_11 => ?_) (fun h_11 => ?_)
      · replace h := (if_pos h_11).symm.trans h
        exact Zw.to2 (J_34 _ _ _ _ _ _ h) rfl rfl rfl
      · replace h := (if_neg h_11).symm.trans h
        refine a_iload_n X dX7_commonDivisor_14 rfl ?_
        refine a_if_eq (tgt := 34) X dX7_commonDivisor_15 (by decide) (fun h_15 => ?_) (fun h_15 => ?_)
        · replace h := (if_pos h_15).symm.trans h
          exact Zw.to2 (J_34 _ _ _ _ _ _ h) rfl rfl rfl
        · replace h := (if_neg h_15).symm.trans h
          refine a_iload_n X dX7_commonDivisor_18 rfl ?_
          refine a_iload_n X dX7_commonDivisor_19 rfl ?_
          obtain ⟨z_20, h⟩ := zZx h
          refine a_irem X dX7_commonDivisor_20 (z_20) ?_
          refine a_istore X dX7_commonDivisor_21 (by decide) ?_
          refine a_iload_n X dX7_commonDivisor_23 rfl ?_
          refine a_istore_n X dX7_commonDivisor_24 (by decide) ?_
          refine a_iload X dX7_commonDivisor_25 rfl ?_
          refine a_istore_n X dX7_commonDivisor_27 (by decide) ?_
          refine a_iinc (v := x4_7 + 1) X dX7_commonDivisor_28 (by decide) rfl zi_1 ?_
          refine a_goto (tgt := 7) X dX7_commonDivisor_31 (by decide) ?_
          exact Zw.to2 (ih_7 _ _ _ _ _ _ h) rfl rfl rfl
  have H_7 : ∀ (x0_7 : Int32) (x1_7 : Int32) (x2_7 : Int32) (x3_7 : Int32) (x4_7 : Int32) (x5_7 : Option Value), D_X7_commonDivisor_7 zFu x2_7 x3_7 x4_7 = some r → Zw p l e { frames := 0, cells := 0, slots := 0, locals := 80 * (0) } s m args below meth c G b 6 (MQ below (zQ G b FQ) args s 0 0 (fun q : Nat => b ≤ q)) 0 0 7 [some (.int x0_7), some (.int x1_7), some (.int x2_7), some (.int x3_7), some (.int x4_7), x5_7] [] (L, M, N) := L_7 zFu
  unfold D_X7_commonDivisor at h
  refine a_iload_n X dX7_commonDivisor_0 rfl ?_
  refine a_istore_n X dX7_commonDivisor_1 (by decide) ?_
  refine a_iload_n X dX7_commonDivisor_2 rfl ?_
  refine a_istore_n X dX7_commonDivisor_3 (by decide) ?_
  refine a_iconst (v := 0) X dX7_commonDivisor_4 (by decide) ?_
  refine a_istore X dX7_commonDivisor_5 (by decide) ?_
  exact Zw.to2 (H_7 _ _ _ _ _ _ h) rfl rfl rfl
noncomputable def D_X7_lowest_30  (y0_30 : Int32) : Option (Int32) :=
  some (y0_30)
noncomputable def D_X7_lowest_15  (x3_15 : Int32) (y0_15 : Int32) : Option (Int32) :=
  if x3_15 = 0 then
    D_X7_lowest_30 y0_15
  else
    zZ x3_15 <|
    D_X7_lowest_30 (y0_15 / x3_15)
noncomputable def D_X7_lowest  (v0 : Int32) (v1 : Int32) (v2 : Int32) : Option (Int32) :=
  zB (D_X7_commonDivisor v0 v1) fun e_2 =>
  if v2 = 0 then
    D_X7_lowest_15 e_2 v0
  else
    D_X7_lowest_15 e_2 v1
set_option maxRecDepth 100000 in
set_option maxHeartbeats 4000000 in
theorem t_X7_lowest {l : Launch} {G : zG} {b : Nat} {L : List zC} {M : zMt} {N : zNt}  {v0 : Int32} {v1 : Int32} {v2 : Int32}  {r : Int32} (h : D_X7_lowest v0 v1 v2 = some r) : zM l G b yX7_lowest cX7_lowest 5 (some .int) 1 0 0 [.int v0, .int v1, .int v2] (L, M, N) (fun r2 z => r2 = some (.int r) ∧ z = (L, M, N)) := by
  refine zM.of miX7_lowest (Nat.le_of_ble_eq_true rfl) ?_
  intro p e s m args below meth c X hr hname
  generalize hF : ((fun r2 z => r2 = some (.int r) ∧ z = (L, M, N)) : Option Value → zS → Prop) = FQ
  change Zw p l e { frames := 1, cells := 0, slots := 0, locals := 80 * (1) } s m args below meth c G b 5 (MQ below (zQ G b FQ) args s 0 0 (fun q : Nat => b ≤ q)) 0 0 0 [some (.int v0), some (.int v1), some (.int v2), none, none] [] (L, M, N)
  have J_30 : ∀ (x0_30 : Int32) (x1_30 : Int32) (x2_30 : Int32) (x3_30 : Int32) (x4_30 : Int32) (y0_30 : Int32), D_X7_lowest_30 y0_30 = some r → Zw p l e { frames := 1, cells := 0, slots := 0, locals := 80 * (1) } s m args below meth c G b 5 (MQ below (zQ G b FQ) args s 0 0 (fun q : Nat => b ≤ q)) 0 0 30 [some (.int x0_30), some (.int x1_30), some (.int x2_30), some (.int x3_30), some (.int x4_30)] [.int y0_30] (L, M, N) := by
    intro x0_30 x1_30 x2_30 x3_30 x4_30 y0_30 h
    unfold D_X7_lowest_30 at h
    refine a_iret X hr dX7_lowest_30 ⟨by decide, by decide⟩ ?_
    subst hF
    rw [← Option.some.inj h]
    exact ⟨rfl, rfl⟩
  have J_15 : ∀ (x0_15 : Int32) (x1_15 : Int32) (x2_15 : Int32) (x3_15 : Int32) (x4_15 : Option Value) (y0_15 : Int32), D_X7_lowest_15 x3_15 y0_15 = some r → Zw p l e { frames := 1, cells := 0, slots := 0, locals := 80 * (1) } s m args below meth c G b 5 (MQ below (zQ G b FQ) args s 0 0 (fun q : Nat => b ≤ q)) 0 0 15 [some (.int x0_15), some (.int x1_15), some (.int x2_15), some (.int x3_15), x4_15] [.int y0_15] (L, M, N) := by
    intro x0_15 x1_15 x2_15 x3_15 x4_15 y0_15 h
    unfold D_X7_lowest_15 at h
    refine a_istore X dX7_lowest_15 (by decide) ?_
    refine a_iload_n X dX7_lowest_17 rfl ?_
    refine a_if_ne (tgt := 26) X dX7_lowest_18 (by decide) (fun h_18 => ?_) (fun h_18 => ?_)
    · replace h := (if_neg h_18).symm.trans h
      refine a_iload X dX7_lowest_26 rfl ?_
      refine a_iload_n X dX7_lowest_28 rfl ?_
      obtain ⟨z_29, h⟩ := zZx h
      refine a_idiv X dX7_lowest_29 (z_29) ?_
      exact Zw.to2 (J_30 _ _ _ _ _ _ h) rfl rfl rfl
    · replace h := (if_pos h_18).symm.trans h
      refine a_iload X dX7_lowest_21 rfl ?_
      refine a_goto (tgt := 30) X dX7_lowest_23 (by decide) ?_
      exact Zw.to2 (J_30 _ _ _ _ _ _ h) rfl rfl rfl
  unfold D_X7_lowest at h
  refine a_iload_n X dX7_lowest_0 rfl ?_
  refine a_iload_n X dX7_lowest_1 rfl ?_
  obtain ⟨e_2, f_2, h⟩ := zBx h
  refine a_callSv X dX7_lowest_2 miX7_commonDivisor lm7_416 (t_X7_commonDivisor f_2) rfl rfl (Nat.le_of_ble_eq_true rfl) ⟨by decide, by decide, by decide, by decide⟩ ?_
  refine a_istore_n X dX7_lowest_5 (by decide) ?_
  refine a_iload_n X dX7_lowest_6 rfl ?_
  refine a_if_ne (tgt := 14) X dX7_lowest_7 (by decide) (fun h_7 => ?_) (fun h_7 => ?_)
  · replace h := (if_neg h_7).symm.trans h
    refine a_iload_n X dX7_lowest_14 rfl ?_
    exact Zw.to2 (J_15 _ _ _ _ _ _ h) rfl rfl rfl
  · replace h := (if_pos h_7).symm.trans h
    refine a_iload_n X dX7_lowest_10 rfl ?_
    refine a_goto (tgt := 15) X dX7_lowest_11 (by decide) ?_
    exact Zw.to2 (J_15 _ _ _ _ _ _ h) rfl rfl rfl
noncomputable def D_X7_demand_9 (P : Nat) (M_9 : zMt) : Option (Int32 × zMt) :=
  zB (D_X7_refuse P (1 : Int32) M_9) fun e_11 =>
  some (e_11.1, e_11.2)
noncomputable def D_X7_demand (P : Nat) (v0 : Int32) (v1 : Int32) (M : zMt) : Option (Int32 × zMt) :=
  if v1 < 0 then
    D_X7_demand_9 P M
  else
    if v1 ≤ (1 : Int32) then
      zB (D_X7_isUnit P M v0) fun e_17 =>
      if e_17 = 0 then
        zB (D_X7_refuse P (2 : Int32) M) fun e_25 =>
        some (e_25.1, e_25.2)
      else
        if (zrd 0 (M (P + 18)) 5 v0) = 0 then
          zB (D_X7_refuse P (5 : Int32) M) fun e_45 =>
          some (e_45.1, e_45.2)
        else
          zB (D_X2_firstHunters (P + 91) M v0) fun e_55 =>
          zB (D_X7_lowest e_55 (zrd 0 (M (P + 18)) 5 v0) v1) fun e_70 =>
          zB (D_X7_answer P e_70 M) fun e_73 =>
          some (e_73.1, e_73.2)
    else
      D_X7_demand_9 P M
set_option maxRecDepth 100000 in
set_option maxHeartbeats 4000000 in
theorem t_X7_demand {l : Launch} {G : zG} {b : Nat} {L : List zC} {M : zMt} {N : zNt} {P : Nat} {v0 : Int32} {v1 : Int32} (hP : LX7 L P) {r : Int32 × zMt} (h : D_X7_demand P v0 v1 M = some r) : zM l G b yX7_demand cX7_demand 3 (some .int) 4 0 0 [.ref P, .int v0, .int v1] (L, M, N) (fun r2 z => r2 = some (.int r.1) ∧ z = (L, r.2, N)) := by
  refine zM.of miX7_demand (Nat.le_of_ble_eq_true rfl) ?_
  intro p e s m args below meth c X hr hname
  generalize hF : ((fun r2 z => r2 = some (.int r.1) ∧ z = (L, r.2, N)) : Option Value → zS → Prop) = FQ
  change Zw p l e { frames := 4, cells := 0, slots := 0, locals := 80 * (4) } s m args below meth c G b 3 (MQ below (zQ G b FQ) args s 0 0 (fun q : Nat => b ≤ q)) 0 0 0 [some (.ref P), some (.int v0), some (.int v1)] [] (L, M, N)
  have p_lt := hP.1
  have p_o := hP.2.1
  have p_list := hP.2.2.2.2.2.1
  have p_list_lt := p_list.1
  have p_list_o := p_list.2.1
  have p_list_quota := p_list.2.2.1
  have p_pool := hP.2.2.2.2.2.2.2.1
  have p_pool_lt := p_pool.1
  have p_pool_o := p_pool.2.1
  have J_9 : ∀ (x1_9 : Int32) (x2_9 : Int32) (M_9 : zMt), D_X7_demand_9 P M_9 = some r → Zw p l e { frames := 4, cells := 0, slots := 0, locals := 80 * (4) } s m args below meth c G b 3 (MQ below (zQ G b FQ) args s 0 0 (fun q : Nat => b ≤ q)) 0 0 9 [some (.ref (P)), some (.int x1_9), some (.int x2_9)] [] (L, M_9, N) := by
    intro x1_9 x2_9 M_9 h
    unfold D_X7_demand_9 at h
    refine a_aload_n X dX7_demand_9 rfl ?_
    refine a_iconst (v := 1) X dX7_demand_10 (by decide) ?_
    obtain ⟨e_11, f_11, h⟩ := zBx h
    refine a_callVv X dX7_demand_11 miX7_refuse lm7_102 (t_X7_refuse (by first | exact hP | assumption) f_11) (by first | exact p_o | assumption) rfl rfl rfl (Nat.le_of_ble_eq_true rfl) ⟨by decide, by decide, by decide, by decide⟩ ?_
    refine a_iret X hr dX7_demand_14 ⟨by decide, by decide⟩ ?_
    subst hF
    rw [← Option.some.inj h]
    exact ⟨rfl, rfl⟩
  unfold D_X7_demand at h
  refine a_iload_n X dX7_demand_0 rfl ?_
  refine a_if_lt (tgt := 9) X dX7_demand_1 (by decide) (fun h_1 => ?_) (fun h_1 => ?_)
  · replace h := (if_pos h_1).symm.trans h
    exact Zw.to2 (J_9 _ _ _ h) rfl rfl rfl
  · replace h := (if_neg h_1).symm.trans h
    refine a_iload_n X dX7_demand_4 rfl ?_
    refine a_iconst (v := 1) X dX7_demand_5 (by decide) ?_
    refine a_icmp_le (tgt := 15) X dX7_demand_6 (by decide) (fun h_6 => ?_) (fun h_6 => ?_)
    · replace h := (if_pos h_6).symm.trans h
      refine a_aload_n X dX7_demand_15 rfl ?_
      refine a_iload_n X dX7_demand_16 rfl ?_
      obtain ⟨e_17, f_17, h⟩ := zBx h
      refine a_callVx X dX7_demand_17 miX7_isUnit lm7_188 (t_X7_isUnit (by first | exact hP | assumption) f_17) (by first | exact p_o | assumption) rfl rfl rfl (Nat.le_of_ble_eq_true rfl) ⟨by decide, by decide, by decide, by decide⟩ (fun r_17 S_17 q_17 => ?_)
      obtain ⟨rfl, rfl, b_17⟩ := q_17
      refine a_if_ne (tgt := 29) X dX7_demand_20 (by decide) (fun h_20 => ?_) (fun h_20 => ?_)
      · replace h := (if_neg h_20).symm.trans h
        refine a_aload_n X dX7_demand_29 rfl ?_
        refine a_getr X lf7_26 (by first | exact p_o | assumption) rfl (by omega) dX7_demand_30 ?_
        refine a_getr X lf7_158 (by first | exact p_list_o | assumption) rfl (by omega) dX7_demand_33 ?_
        refine a_iload_n X dX7_demand_36 rfl ?_
        refine a_callSv X dX7_demand_37 miX7_cell lm7_175 (c_cell (by first | exact p_list_quota | assumption) (by decide)) rfl rfl (Nat.le_of_ble_eq_true rfl) ⟨by decide, by decide, by decide, by decide⟩ ?_
        refine a_if_ne (tgt := 49) X dX7_demand_40 (by decide) (fun h_40 => ?_) (fun h_40 => ?_)
        · replace h := (if_neg h_40).symm.trans h
          refine a_aload_n X dX7_demand_49 rfl ?_
          refine a_aload_n X dX7_demand_50 rfl ?_
          refine a_getr X lf7_40 (by first | exact p_o | assumption) rfl (by omega) dX7_demand_51 ?_
          refine a_iload_n X dX7_demand_54 rfl ?_
          obtain ⟨e_55, f_55, h⟩ := zBx h
          refine a_callVv X dX7_demand_55 miX2_firstHunters lm7_200 (t_X2_firstHunters (by first | exact p_pool | assumption) f_55) (by first | exact p_pool_o | assumption) rfl rfl rfl (Nat.le_of_ble_eq_true rfl) ⟨by decide, by decide, by decide, by decide⟩ ?_
          refine a_aload_n X dX7_demand_58 rfl ?_
          refine a_getr X lf7_26 (by first | exact p_o | assumption) rfl (by omega) dX7_demand_59 ?_
          refine a_getr X lf7_158 (by first | exact p_list_o | assumption) rfl (by omega) dX7_demand_62 ?_
          refine a_iload_n X dX7_demand_65 rfl ?_
          refine a_callSv X dX7_demand_66 miX7_cell lm7_175 (c_cell (by first | exact p_list_quota | assumption) (by decide)) rfl rfl (Nat.le_of_ble_eq_true rfl) ⟨by decide, by decide, by decide, by decide⟩ ?_
          refine a_iload_n X dX7_demand_69 rfl ?_
          obtain ⟨e_70, f_70, h⟩ := zBx h
          refine a_callSv X dX7_demand_70 miX7_lowest lm7_230 (t_X7_lowest f_70) rfl rfl (Nat.le_of_ble_eq_true rfl) ⟨by decide, by decide, by decide, by decide⟩ ?_
          obtain ⟨e_73, f_73, h⟩ := zBx h
          refine a_callVv X dX7_demand_73 miX7_answer lm7_134 (t_X7_answer (by first | exact hP | assumption) f_73) (by first | exact p_o | assumption) rfl rfl rfl (Nat.le_of_ble_eq_true rfl) ⟨by decide, by decide, by decide, by decide⟩ ?_
          refine a_iret X hr dX7_demand_76 ⟨by decide, by decide⟩ ?_
          subst hF
          rw [← Option.some.inj h]
          exact ⟨rfl, rfl⟩
        · replace h := (if_pos h_40).symm.trans h
          refine a_aload_n X dX7_demand_43 rfl ?_
          refine a_iconst (v := 5) X dX7_demand_44 (by decide) ?_
          obtain ⟨e_45, f_45, h⟩ := zBx h
          refine a_callVv X dX7_demand_45 miX7_refuse lm7_102 (t_X7_refuse (by first | exact hP | assumption) f_45) (by first | exact p_o | assumption) rfl rfl rfl (Nat.le_of_ble_eq_true rfl) ⟨by decide, by decide, by decide, by decide⟩ ?_
          refine a_iret X hr dX7_demand_48 ⟨by decide, by decide⟩ ?_
          subst hF
          rw [← Option.some.inj h]
          exact ⟨rfl, rfl⟩
      · replace h := (if_pos h_20).symm.trans h
        refine a_aload_n X dX7_demand_23 rfl ?_
        refine a_iconst (v := 2) X dX7_demand_24 (by decide) ?_
        obtain ⟨e_25, f_25, h⟩ := zBx h
        refine a_callVv X dX7_demand_25 miX7_refuse lm7_102 (t_X7_refuse (by first | exact hP | assumption) f_25) (by first | exact p_o | assumption) rfl rfl rfl (Nat.le_of_ble_eq_true rfl) ⟨by decide, by decide, by decide, by decide⟩ ?_
        refine a_iret X hr dX7_demand_28 ⟨by decide, by decide⟩ ?_
        subst hF
        rw [← Option.some.inj h]
        exact ⟨rfl, rfl⟩
    · replace h := (if_neg h_6).symm.trans h
      exact Zw.to2 (J_9 _ _ _ h) rfl rfl rfl
noncomputable def D_X7_share_9 (P : Nat) (M_9 : zMt) : Option (Int32 × zMt) :=
  zB (D_X7_refuse P (1 : Int32) M_9) fun e_11 =>
  some (e_11.1, e_11.2)
noncomputable def D_X7_share (P : Nat) (v0 : Int32) (v1 : Int32) (M : zMt) : Option (Int32 × zMt) :=
  if v1 < 0 then
    D_X7_share_9 P M
  else
    if v1 ≤ (1 : Int32) then
      zB (D_X7_isApplicant P M v0) fun e_17 =>
      if e_17 = 0 then
        zB (D_X7_refuse P (2 : Int32) M) fun e_25 =>
        some (e_25.1, e_25.2)
      else
        zB (D_X7_lowest (zrd 0 (M (P + 99)) 10 v0) (M (P + 91) 2) v1) fun e_49 =>
        zB (D_X7_answer P e_49 M) fun e_52 =>
        some (e_52.1, e_52.2)
    else
      D_X7_share_9 P M
set_option maxRecDepth 100000 in
set_option maxHeartbeats 4000000 in
theorem t_X7_share {l : Launch} {G : zG} {b : Nat} {L : List zC} {M : zMt} {N : zNt} {P : Nat} {v0 : Int32} {v1 : Int32} (hP : LX7 L P) {r : Int32 × zMt} (h : D_X7_share P v0 v1 M = some r) : zM l G b yX7_share cX7_share 3 (some .int) 2 0 0 [.ref P, .int v0, .int v1] (L, M, N) (fun r2 z => r2 = some (.int r.1) ∧ z = (L, r.2, N)) := by
  refine zM.of miX7_share (Nat.le_of_ble_eq_true rfl) ?_
  intro p e s m args below meth c X hr hname
  generalize hF : ((fun r2 z => r2 = some (.int r.1) ∧ z = (L, r.2, N)) : Option Value → zS → Prop) = FQ
  change Zw p l e { frames := 2, cells := 0, slots := 0, locals := 80 * (2) } s m args below meth c G b 3 (MQ below (zQ G b FQ) args s 0 0 (fun q : Nat => b ≤ q)) 0 0 0 [some (.ref P), some (.int v0), some (.int v1)] [] (L, M, N)
  have p_lt := hP.1
  have p_o := hP.2.1
  have p_pool := hP.2.2.2.2.2.2.2.1
  have p_pool_lt := p_pool.1
  have p_pool_o := p_pool.2.1
  have p_pool_tickets := p_pool.2.2.2.2.2.2.2.2.2.1
  have J_9 : ∀ (x1_9 : Int32) (x2_9 : Int32) (M_9 : zMt), D_X7_share_9 P M_9 = some r → Zw p l e { frames := 2, cells := 0, slots := 0, locals := 80 * (2) } s m args below meth c G b 3 (MQ below (zQ G b FQ) args s 0 0 (fun q : Nat => b ≤ q)) 0 0 9 [some (.ref (P)), some (.int x1_9), some (.int x2_9)] [] (L, M_9, N) := by
    intro x1_9 x2_9 M_9 h
    unfold D_X7_share_9 at h
    refine a_aload_n X dX7_share_9 rfl ?_
    refine a_iconst (v := 1) X dX7_share_10 (by decide) ?_
    obtain ⟨e_11, f_11, h⟩ := zBx h
    refine a_callVv X dX7_share_11 miX7_refuse lm7_102 (t_X7_refuse (by first | exact hP | assumption) f_11) (by first | exact p_o | assumption) rfl rfl rfl (Nat.le_of_ble_eq_true rfl) ⟨by decide, by decide, by decide, by decide⟩ ?_
    refine a_iret X hr dX7_share_14 ⟨by decide, by decide⟩ ?_
    subst hF
    rw [← Option.some.inj h]
    exact ⟨rfl, rfl⟩
  unfold D_X7_share at h
  refine a_iload_n X dX7_share_0 rfl ?_
  refine a_if_lt (tgt := 9) X dX7_share_1 (by decide) (fun h_1 => ?_) (fun h_1 => ?_)
  · replace h := (if_pos h_1).symm.trans h
    exact Zw.to2 (J_9 _ _ _ h) rfl rfl rfl
  · replace h := (if_neg h_1).symm.trans h
    refine a_iload_n X dX7_share_4 rfl ?_
    refine a_iconst (v := 1) X dX7_share_5 (by decide) ?_
    refine a_icmp_le (tgt := 15) X dX7_share_6 (by decide) (fun h_6 => ?_) (fun h_6 => ?_)
    · replace h := (if_pos h_6).symm.trans h
      refine a_aload_n X dX7_share_15 rfl ?_
      refine a_iload_n X dX7_share_16 rfl ?_
      obtain ⟨e_17, f_17, h⟩ := zBx h
      refine a_callVx X dX7_share_17 miX7_isApplicant lm7_206 (t_X7_isApplicant (by first | exact hP | assumption) f_17) (by first | exact p_o | assumption) rfl rfl rfl (Nat.le_of_ble_eq_true rfl) ⟨by decide, by decide, by decide, by decide⟩ (fun r_17 S_17 q_17 => ?_)
      obtain ⟨rfl, rfl, b_17⟩ := q_17
      refine a_if_ne (tgt := 29) X dX7_share_20 (by decide) (fun h_20 => ?_) (fun h_20 => ?_)
      · replace h := (if_neg h_20).symm.trans h
        refine a_aload_n X dX7_share_29 rfl ?_
        refine a_aload_n X dX7_share_30 rfl ?_
        refine a_getr X lf7_40 (by first | exact p_o | assumption) rfl (by omega) dX7_share_31 ?_
        refine a_getr X lf7_216 (by first | exact p_pool_o | assumption) rfl (by omega) dX7_share_34 ?_
        refine a_iload_n X dX7_share_37 rfl ?_
        refine a_callSv X dX7_share_38 miX7_cell lm7_175 (c_cell (by first | exact p_pool_tickets | assumption) (by decide)) rfl rfl (Nat.le_of_ble_eq_true rfl) ⟨by decide, by decide, by decide, by decide⟩ ?_
        refine a_aload_n X dX7_share_41 rfl ?_
        refine a_getr X lf7_40 (by first | exact p_o | assumption) rfl (by omega) dX7_share_42 ?_
        refine a_geti X lf7_234 (by first | exact p_pool_o | assumption) rfl dX7_share_45 ?_
        refine a_iload_n X dX7_share_48 rfl ?_
        obtain ⟨e_49, f_49, h⟩ := zBx h
        refine a_callSv X dX7_share_49 miX7_lowest lm7_230 (t_X7_lowest f_49) rfl rfl (Nat.le_of_ble_eq_true rfl) ⟨by decide, by decide, by decide, by decide⟩ ?_
        obtain ⟨e_52, f_52, h⟩ := zBx h
        refine a_callVv X dX7_share_52 miX7_answer lm7_134 (t_X7_answer (by first | exact hP | assumption) f_52) (by first | exact p_o | assumption) rfl rfl rfl (Nat.le_of_ble_eq_true rfl) ⟨by decide, by decide, by decide, by decide⟩ ?_
        refine a_iret X hr dX7_share_55 ⟨by decide, by decide⟩ ?_
        subst hF
        rw [← Option.some.inj h]
        exact ⟨rfl, rfl⟩
      · replace h := (if_pos h_20).symm.trans h
        refine a_aload_n X dX7_share_23 rfl ?_
        refine a_iconst (v := 2) X dX7_share_24 (by decide) ?_
        obtain ⟨e_25, f_25, h⟩ := zBx h
        refine a_callVv X dX7_share_25 miX7_refuse lm7_102 (t_X7_refuse (by first | exact hP | assumption) f_25) (by first | exact p_o | assumption) rfl rfl rfl (Nat.le_of_ble_eq_true rfl) ⟨by decide, by decide, by decide, by decide⟩ ?_
        refine a_iret X hr dX7_share_28 ⟨by decide, by decide⟩ ?_
        subst hF
        rw [← Option.some.inj h]
        exact ⟨rfl, rfl⟩
    · replace h := (if_neg h_6).symm.trans h
      exact Zw.to2 (J_9 _ _ _ h) rfl rfl rfl
noncomputable def D_X7_isSeed_16  (y0_16 : Int32) : Option (Int32) :=
  some (y0_16)
noncomputable def D_X7_isSeed_15   : Option (Int32) :=
  D_X7_isSeed_16 (0 : Int32)
noncomputable def D_X7_isSeed  (v0 : Int32) : Option (Int32) :=
  if v0 < 0 then
    D_X7_isSeed_15
  else
    if (999999999 : Int32) < v0 then
      D_X7_isSeed_15
    else
      D_X7_isSeed_16 (1 : Int32)
set_option maxRecDepth 100000 in
set_option maxHeartbeats 4000000 in
theorem t_X7_isSeed {l : Launch} {G : zG} {b : Nat} {L : List zC} {M : zMt} {N : zNt}  {v0 : Int32}  {r : Int32} (h : D_X7_isSeed v0 = some r) : zM l G b yX7_isSeed cX7_isSeed 1 (some .boolean) 0 0 0 [.int v0] (L, M, N) (fun r2 z => r2 = some (.int r) ∧ z = (L, M, N) ∧ (r = 0 ∨ r = 1)) := by
  refine zM.of miX7_isSeed (Nat.le_of_ble_eq_true rfl) ?_
  intro p e s m args below meth c X hr hname
  generalize hF : ((fun r2 z => r2 = some (.int r) ∧ z = (L, M, N) ∧ (r = 0 ∨ r = 1)) : Option Value → zS → Prop) = FQ
  change Zw p l e { frames := 0, cells := 0, slots := 0, locals := 80 * (0) } s m args below meth c G b 1 (MQ below (zQ G b FQ) args s 0 0 (fun q : Nat => b ≤ q)) 0 0 0 [some (.int v0)] [] (L, M, N)
  have J_16 : ∀ (x0_16 : Int32) (y0_16 : Int32), (y0_16 = 0 ∨ y0_16 = 1) → D_X7_isSeed_16 y0_16 = some r → Zw p l e { frames := 0, cells := 0, slots := 0, locals := 80 * (0) } s m args below meth c G b 1 (MQ below (zQ G b FQ) args s 0 0 (fun q : Nat => b ≤ q)) 0 0 16 [some (.int x0_16)] [.int y0_16] (L, M, N) := by
    intro x0_16 y0_16 fb_y0_16 h
    unfold D_X7_isSeed_16 at h
    refine a_zret X (by first | exact Or.inl rfl | exact Or.inr rfl | assumption) hr dX7_isSeed_16 ⟨by decide, by decide⟩ ?_
    subst hF
    rw [← Option.some.inj h]
    exact ⟨rfl, rfl, (by first | exact Or.inl rfl | exact Or.inr rfl | assumption)⟩
  have J_15 : ∀ (x0_15 : Int32), D_X7_isSeed_15 = some r → Zw p l e { frames := 0, cells := 0, slots := 0, locals := 80 * (0) } s m args below meth c G b 1 (MQ below (zQ G b FQ) args s 0 0 (fun q : Nat => b ≤ q)) 0 0 15 [some (.int x0_15)] [] (L, M, N) := by
    intro x0_15 h
    unfold D_X7_isSeed_15 at h
    refine a_iconst (v := 0) X dX7_isSeed_15 (by decide) ?_
    exact Zw.to2 (J_16 _ _ (by first | exact Or.inl rfl | exact Or.inr rfl | assumption) h) rfl rfl rfl
  unfold D_X7_isSeed at h
  refine a_iload_n X dX7_isSeed_0 rfl ?_
  refine a_if_lt (tgt := 15) X dX7_isSeed_1 (by decide) (fun h_1 => ?_) (fun h_1 => ?_)
  · replace h := (if_pos h_1).symm.trans h
    exact Zw.to2 (J_15 _ h) rfl rfl rfl
  · replace h := (if_neg h_1).symm.trans h
    refine a_iload_n X dX7_isSeed_4 rfl ?_
    refine a_ldcw X dX7_isSeed_5 lk7_395 ?_
    refine a_icmp_gt (tgt := 15) X dX7_isSeed_8 (by decide) (fun h_8 => ?_) (fun h_8 => ?_)
    · replace h := (if_pos h_8).symm.trans h
      exact Zw.to2 (J_15 _ h) rfl rfl rfl
    · replace h := (if_neg h_8).symm.trans h
      refine a_iconst (v := 1) X dX7_isSeed_11 (by decide) ?_
      refine a_goto (tgt := 16) X dX7_isSeed_12 (by decide) ?_
      exact Zw.to2 (J_16 _ _ (by first | exact Or.inl rfl | exact Or.inr rfl | assumption) h) rfl rfl rfl
noncomputable def D_X7_order_11 (P : Nat) (M_11 : zMt) : Option (Int32 × zMt) :=
  zB (D_X7_refuse P (1 : Int32) M_11) fun e_13 =>
  some (e_13.1, e_13.2)
noncomputable def D_X7_order (P : Nat) (v0 : Int32) (v1 : Int32) (M : zMt) : Option (Int32 × zMt) :=
  zB (D_X7_isSeed v0) fun e_1 =>
  if e_1 = 0 then
    D_X7_order_11 P M
  else
    if 0 ≤ v1 then
      if v1 < (M (P + 91) 1) then
        zB (D_X5_lineUp (P + 104) (P + 91) v0 M) fun e_43 =>
        zB (D_X7_answer P (zrd 0 (e_43 (P + 105)) 10 v1) e_43) fun e_58 =>
        some (e_58.1, e_58.2)
      else
        zB (D_X7_refuse P (5 : Int32) M) fun e_30 =>
        some (e_30.1, e_30.2)
    else
      D_X7_order_11 P M
set_option maxRecDepth 100000 in
set_option maxHeartbeats 4000000 in
theorem t_X7_order {l : Launch} {G : zG} {b : Nat} {L : List zC} {M : zMt} {N : zNt} {P : Nat} {v0 : Int32} {v1 : Int32} (hP : LX7 L P) {r : Int32 × zMt} (h : D_X7_order P v0 v1 M = some r) : zM l G b yX7_order cX7_order 3 (some .int) 3 0 0 [.ref P, .int v0, .int v1] (L, M, N) (fun r2 z => r2 = some (.int r.1) ∧ z = (L, r.2, N)) := by
  refine zM.of miX7_order (Nat.le_of_ble_eq_true rfl) ?_
  intro p e s m args below meth c X hr hname
  generalize hF : ((fun r2 z => r2 = some (.int r.1) ∧ z = (L, r.2, N)) : Option Value → zS → Prop) = FQ
  change Zw p l e { frames := 3, cells := 0, slots := 0, locals := 80 * (3) } s m args below meth c G b 3 (MQ below (zQ G b FQ) args s 0 0 (fun q : Nat => b ≤ q)) 0 0 0 [some (.ref P), some (.int v0), some (.int v1)] [] (L, M, N)
  have p_lt := hP.1
  have p_o := hP.2.1
  have p_pool := hP.2.2.2.2.2.2.2.1
  have p_pool_lt := p_pool.1
  have p_pool_o := p_pool.2.1
  have p_result := hP.2.2.2.2.2.2.2.2.1
  have p_result_lt := p_result.1
  have p_result_o := p_result.2.1
  have p_result_line := p_result.2.2.1
  have J_11 : ∀ (x1_11 : Int32) (x2_11 : Int32) (M_11 : zMt), D_X7_order_11 P M_11 = some r → Zw p l e { frames := 3, cells := 0, slots := 0, locals := 80 * (3) } s m args below meth c G b 3 (MQ below (zQ G b FQ) args s 0 0 (fun q : Nat => b ≤ q)) 0 0 11 [some (.ref (P)), some (.int x1_11), some (.int x2_11)] [] (L, M_11, N) := by
    intro x1_11 x2_11 M_11 h
    unfold D_X7_order_11 at h
    refine a_aload_n X dX7_order_11 rfl ?_
    refine a_iconst (v := 1) X dX7_order_12 (by decide) ?_
    obtain ⟨e_13, f_13, h⟩ := zBx h
    refine a_callVv X dX7_order_13 miX7_refuse lm7_102 (t_X7_refuse (by first | exact hP | assumption) f_13) (by first | exact p_o | assumption) rfl rfl rfl (Nat.le_of_ble_eq_true rfl) ⟨by decide, by decide, by decide, by decide⟩ ?_
    refine a_iret X hr dX7_order_16 ⟨by decide, by decide⟩ ?_
    subst hF
    rw [← Option.some.inj h]
    exact ⟨rfl, rfl⟩
  unfold D_X7_order at h
  refine a_iload_n X dX7_order_0 rfl ?_
  obtain ⟨e_1, f_1, h⟩ := zBx h
  refine a_callSx X dX7_order_1 miX7_isSeed lm7_237 (t_X7_isSeed f_1) rfl rfl (Nat.le_of_ble_eq_true rfl) ⟨by decide, by decide, by decide, by decide⟩ (fun r_1 S_1 q_1 => ?_)
  obtain ⟨rfl, rfl, b_1⟩ := q_1
  refine a_if_eq (tgt := 11) X dX7_order_4 (by decide) (fun h_4 => ?_) (fun h_4 => ?_)
  · replace h := (if_pos h_4).symm.trans h
    exact Zw.to2 (J_11 _ _ _ h) rfl rfl rfl
  · replace h := (if_neg h_4).symm.trans h
    refine a_iload_n X dX7_order_7 rfl ?_
    refine a_if_ge (tgt := 17) X dX7_order_8 (by decide) (fun h_8 => ?_) (fun h_8 => ?_)
    · replace h := (if_pos h_8).symm.trans h
      refine a_iload_n X dX7_order_17 rfl ?_
      refine a_aload_n X dX7_order_18 rfl ?_
      refine a_getr X lf7_40 (by first | exact p_o | assumption) rfl (by omega) dX7_order_19 ?_
      refine a_geti X lf7_140 (by first | exact p_pool_o | assumption) rfl dX7_order_22 ?_
      refine a_icmp_lt (tgt := 34) X dX7_order_25 (by decide) (fun h_25 => ?_) (fun h_25 => ?_)
      · replace h := (if_pos h_25).symm.trans h
        refine a_aload_n X dX7_order_34 rfl ?_
        refine a_getr X lf7_47 (by first | exact p_o | assumption) rfl (by omega) dX7_order_35 ?_
        refine a_aload_n X dX7_order_38 rfl ?_
        refine a_getr X lf7_40 (by first | exact p_o | assumption) rfl (by omega) dX7_order_39 ?_
        refine a_iload_n X dX7_order_42 rfl ?_
        obtain ⟨e_43, f_43, h⟩ := zBx h
        refine a_callVu X dX7_order_43 miX5_lineUp lm7_240 (t_X5_lineUp (by first | exact p_result | assumption) (by first | exact p_pool | assumption) f_43) (by first | exact p_result_o | assumption) rfl rfl rfl (Nat.le_of_ble_eq_true rfl) ⟨by decide, by decide, by decide, by decide⟩ ?_
        refine a_aload_n X dX7_order_46 rfl ?_
        refine a_aload_n X dX7_order_47 rfl ?_
        refine a_getr X lf7_47 (by first | exact p_o | assumption) rfl (by omega) dX7_order_48 ?_
        refine a_getr X lf7_244 (by first | exact p_result_o | assumption) rfl (by omega) dX7_order_51 ?_
        refine a_iload_n X dX7_order_54 rfl ?_
        refine a_callSv X dX7_order_55 miX7_cell lm7_175 (c_cell (by first | exact p_result_line | assumption) (by decide)) rfl rfl (Nat.le_of_ble_eq_true rfl) ⟨by decide, by decide, by decide, by decide⟩ ?_
        obtain ⟨e_58, f_58, h⟩ := zBx h
        refine a_callVv X dX7_order_58 miX7_answer lm7_134 (t_X7_answer (by first | exact hP | assumption) f_58) (by first | exact p_o | assumption) rfl rfl rfl (Nat.le_of_ble_eq_true rfl) ⟨by decide, by decide, by decide, by decide⟩ ?_
        refine a_iret X hr dX7_order_61 ⟨by decide, by decide⟩ ?_
        subst hF
        rw [← Option.some.inj h]
        exact ⟨rfl, rfl⟩
      · replace h := (if_neg h_25).symm.trans h
        refine a_aload_n X dX7_order_28 rfl ?_
        refine a_iconst (v := 5) X dX7_order_29 (by decide) ?_
        obtain ⟨e_30, f_30, h⟩ := zBx h
        refine a_callVv X dX7_order_30 miX7_refuse lm7_102 (t_X7_refuse (by first | exact hP | assumption) f_30) (by first | exact p_o | assumption) rfl rfl rfl (Nat.le_of_ble_eq_true rfl) ⟨by decide, by decide, by decide, by decide⟩ ?_
        refine a_iret X hr dX7_order_33 ⟨by decide, by decide⟩ ?_
        subst hF
        rw [← Option.some.inj h]
        exact ⟨rfl, rfl⟩
    · replace h := (if_neg h_8).symm.trans h
      exact Zw.to2 (J_11 _ _ _ h) rfl rfl rfl
noncomputable def D_X7_drawn_69 (P : Nat) (y0_69 : Int32) (M_69 : zMt) : Option (Int32 × zMt) :=
  some (y0_69, M_69)
noncomputable def D_X7_drawn (P : Nat) (v0 : Int32) (v1 : Int32) (M : zMt) : Option (Int32 × zMt) :=
  zB (D_X7_isSeed v0) fun e_1 =>
  if e_1 = 0 then
    zB (D_X7_refuse P (1 : Int32) M) fun e_9 =>
    some (e_9.1, e_9.2)
  else
    zB (D_X7_isApplicant P M v1) fun e_15 =>
    if e_15 = 0 then
      zB (D_X7_refuse P (2 : Int32) M) fun e_23 =>
      some (e_23.1, e_23.2)
    else
      zB (D_X5_bySeed (P + 104) (P + 91) v0 M) fun e_36 =>
      if (zrd 0 (e_36 (P + 106)) 10 v1) = (-1 : Int32) then
        zB (D_X7_refuse P (5 : Int32) e_36) fun e_58 =>
        D_X7_drawn_69 P e_58.1 e_58.2
      else
        zB (D_X7_answer P (zrd 0 (e_36 (P + 106)) 10 v1) e_36) fun e_66 =>
        D_X7_drawn_69 P e_66.1 e_66.2
set_option maxRecDepth 100000 in
set_option maxHeartbeats 4000000 in
theorem t_X7_drawn {l : Launch} {G : zG} {b : Nat} {L : List zC} {M : zMt} {N : zNt} {P : Nat} {v0 : Int32} {v1 : Int32} (hP : LX7 L P) {r : Int32 × zMt} (h : D_X7_drawn P v0 v1 M = some r) : zM l G b yX7_drawn cX7_drawn 4 (some .int) 5 0 0 [.ref P, .int v0, .int v1] (L, M, N) (fun r2 z => r2 = some (.int r.1) ∧ z = (L, r.2, N)) := by
  refine zM.of miX7_drawn (Nat.le_of_ble_eq_true rfl) ?_
  intro p e s m args below meth c X hr hname
  generalize hF : ((fun r2 z => r2 = some (.int r.1) ∧ z = (L, r.2, N)) : Option Value → zS → Prop) = FQ
  change Zw p l e { frames := 5, cells := 0, slots := 0, locals := 80 * (5) } s m args below meth c G b 4 (MQ below (zQ G b FQ) args s 0 0 (fun q : Nat => b ≤ q)) 0 0 0 [some (.ref P), some (.int v0), some (.int v1), none] [] (L, M, N)
  have p_lt := hP.1
  have p_o := hP.2.1
  have p_pool := hP.2.2.2.2.2.2.2.1
  have p_pool_lt := p_pool.1
  have p_pool_o := p_pool.2.1
  have p_result := hP.2.2.2.2.2.2.2.2.1
  have p_result_lt := p_result.1
  have p_result_o := p_result.2.1
  have p_result_unitOf := p_result.2.2.2.1
  have J_69 : ∀ (x1_69 : Int32) (x2_69 : Int32) (x3_69 : Int32) (y0_69 : Int32) (M_69 : zMt), D_X7_drawn_69 P y0_69 M_69 = some r → Zw p l e { frames := 5, cells := 0, slots := 0, locals := 80 * (5) } s m args below meth c G b 4 (MQ below (zQ G b FQ) args s 0 0 (fun q : Nat => b ≤ q)) 0 0 69 [some (.ref (P)), some (.int x1_69), some (.int x2_69), some (.int x3_69)] [.int y0_69] (L, M_69, N) := by
    intro x1_69 x2_69 x3_69 y0_69 M_69 h
    unfold D_X7_drawn_69 at h
    refine a_iret X hr dX7_drawn_69 ⟨by decide, by decide⟩ ?_
    subst hF
    rw [← Option.some.inj h]
    exact ⟨rfl, rfl⟩
  unfold D_X7_drawn at h
  refine a_iload_n X dX7_drawn_0 rfl ?_
  obtain ⟨e_1, f_1, h⟩ := zBx h
  refine a_callSx X dX7_drawn_1 miX7_isSeed lm7_237 (t_X7_isSeed f_1) rfl rfl (Nat.le_of_ble_eq_true rfl) ⟨by decide, by decide, by decide, by decide⟩ (fun r_1 S_1 q_1 => ?_)
  obtain ⟨rfl, rfl, b_1⟩ := q_1
  refine a_if_ne (tgt := 13) X dX7_drawn_4 (by decide) (fun h_4 => ?_) (fun h_4 => ?_)
  · replace h := (if_neg h_4).symm.trans h
    refine a_aload_n X dX7_drawn_13 rfl ?_
    refine a_iload_n X dX7_drawn_14 rfl ?_
    obtain ⟨e_15, f_15, h⟩ := zBx h
    refine a_callVx X dX7_drawn_15 miX7_isApplicant lm7_206 (t_X7_isApplicant (by first | exact hP | assumption) f_15) (by first | exact p_o | assumption) rfl rfl rfl (Nat.le_of_ble_eq_true rfl) ⟨by decide, by decide, by decide, by decide⟩ (fun r_15 S_15 q_15 => ?_)
    obtain ⟨rfl, rfl, b_15⟩ := q_15
    refine a_if_ne (tgt := 27) X dX7_drawn_18 (by decide) (fun h_18 => ?_) (fun h_18 => ?_)
    · replace h := (if_neg h_18).symm.trans h
      refine a_aload_n X dX7_drawn_27 rfl ?_
      refine a_getr X lf7_47 (by first | exact p_o | assumption) rfl (by omega) dX7_drawn_28 ?_
      refine a_aload_n X dX7_drawn_31 rfl ?_
      refine a_getr X lf7_40 (by first | exact p_o | assumption) rfl (by omega) dX7_drawn_32 ?_
      refine a_iload_n X dX7_drawn_35 rfl ?_
      obtain ⟨e_36, f_36, h⟩ := zBx h
      refine a_callVu X dX7_drawn_36 miX5_bySeed lm7_247 (t_X5_bySeed (by first | exact p_result | assumption) (by first | exact p_pool | assumption) f_36) (by first | exact p_result_o | assumption) rfl rfl rfl (Nat.le_of_ble_eq_true rfl) ⟨by decide, by decide, by decide, by decide⟩ ?_
      refine a_aload_n X dX7_drawn_39 rfl ?_
      refine a_getr X lf7_47 (by first | exact p_o | assumption) rfl (by omega) dX7_drawn_40 ?_
      refine a_getr X lf7_250 (by first | exact p_result_o | assumption) rfl (by omega) dX7_drawn_43 ?_
      refine a_iload_n X dX7_drawn_46 rfl ?_
      refine a_callSv X dX7_drawn_47 miX7_cell lm7_175 (c_cell (by first | exact p_result_unitOf | assumption) (by decide)) rfl rfl (Nat.le_of_ble_eq_true rfl) ⟨by decide, by decide, by decide, by decide⟩ ?_
      refine a_istore_n X dX7_drawn_50 (by decide) ?_
      refine a_iload_n X dX7_drawn_51 rfl ?_
      refine a_iconst (v := -1) X dX7_drawn_52 (by decide) ?_
      refine a_icmp_ne (tgt := 64) X dX7_drawn_53 (by decide) (fun h_53 => ?_) (fun h_53 => ?_)
      · replace h := (if_neg h_53).symm.trans h
        refine a_aload_n X dX7_drawn_64 rfl ?_
        refine a_iload_n X dX7_drawn_65 rfl ?_
        obtain ⟨e_66, f_66, h⟩ := zBx h
        refine a_callVv X dX7_drawn_66 miX7_answer lm7_134 (t_X7_answer (by first | exact hP | assumption) f_66) (by first | exact p_o | assumption) rfl rfl rfl (Nat.le_of_ble_eq_true rfl) ⟨by decide, by decide, by decide, by decide⟩ ?_
        exact Zw.to2 (J_69 _ _ _ _ _ h) rfl rfl rfl
      · replace h := (if_pos h_53).symm.trans h
        refine a_aload_n X dX7_drawn_56 rfl ?_
        refine a_iconst (v := 5) X dX7_drawn_57 (by decide) ?_
        obtain ⟨e_58, f_58, h⟩ := zBx h
        refine a_callVv X dX7_drawn_58 miX7_refuse lm7_102 (t_X7_refuse (by first | exact hP | assumption) f_58) (by first | exact p_o | assumption) rfl rfl rfl (Nat.le_of_ble_eq_true rfl) ⟨by decide, by decide, by decide, by decide⟩ ?_
        refine a_goto (tgt := 69) X dX7_drawn_61 (by decide) ?_
        exact Zw.to2 (J_69 _ _ _ _ _ h) rfl rfl rfl
    · replace h := (if_pos h_18).symm.trans h
      refine a_aload_n X dX7_drawn_21 rfl ?_
      refine a_iconst (v := 2) X dX7_drawn_22 (by decide) ?_
      obtain ⟨e_23, f_23, h⟩ := zBx h
      refine a_callVv X dX7_drawn_23 miX7_refuse lm7_102 (t_X7_refuse (by first | exact hP | assumption) f_23) (by first | exact p_o | assumption) rfl rfl rfl (Nat.le_of_ble_eq_true rfl) ⟨by decide, by decide, by decide, by decide⟩ ?_
      refine a_iret X hr dX7_drawn_26 ⟨by decide, by decide⟩ ?_
      subst hF
      rw [← Option.some.inj h]
      exact ⟨rfl, rfl⟩
  · replace h := (if_pos h_4).symm.trans h
    refine a_aload_n X dX7_drawn_7 rfl ?_
    refine a_iconst (v := 1) X dX7_drawn_8 (by decide) ?_
    obtain ⟨e_9, f_9, h⟩ := zBx h
    refine a_callVv X dX7_drawn_9 miX7_refuse lm7_102 (t_X7_refuse (by first | exact hP | assumption) f_9) (by first | exact p_o | assumption) rfl rfl rfl (Nat.le_of_ble_eq_true rfl) ⟨by decide, by decide, by decide, by decide⟩ ?_
    refine a_iret X hr dX7_drawn_12 ⟨by decide, by decide⟩ ?_
    subst hF
    rw [← Option.some.inj h]
    exact ⟨rfl, rfl⟩
noncomputable def D_X7_round_77 (P : Nat) (y0_77 : Int32) (M_77 : zMt) : Option (Int32 × zMt) :=
  some (y0_77, M_77)
noncomputable def D_X7_round (P : Nat) (v0 : Int32) (v1 : Int32) (M : zMt) : Option (Int32 × zMt) :=
  zB (D_X7_isSeed v0) fun e_1 =>
  if e_1 = 0 then
    zB (D_X7_refuse P (1 : Int32) M) fun e_9 =>
    some (e_9.1, e_9.2)
  else
    zB (D_X7_isApplicant P M v1) fun e_15 =>
    if e_15 = 0 then
      zB (D_X7_refuse P (2 : Int32) M) fun e_23 =>
      some (e_23.1, e_23.2)
    else
      zB (D_X5_bySeed (P + 104) (P + 91) v0 M) fun e_36 =>
      if (zrd 0 (e_36 (P + 106)) 10 v1) = (-1 : Int32) then
        zB (D_X7_refuse P (5 : Int32) e_36) fun e_56 =>
        D_X7_round_77 P e_56.1 e_56.2
      else
        zB (D_X7_answer P (zrd 0 (e_36 (P + 107)) 10 v1) e_36) fun e_74 =>
        D_X7_round_77 P e_74.1 e_74.2
set_option maxRecDepth 100000 in
set_option maxHeartbeats 4000000 in
theorem t_X7_round {l : Launch} {G : zG} {b : Nat} {L : List zC} {M : zMt} {N : zNt} {P : Nat} {v0 : Int32} {v1 : Int32} (hP : LX7 L P) {r : Int32 × zMt} (h : D_X7_round P v0 v1 M = some r) : zM l G b yX7_round cX7_round 3 (some .int) 5 0 0 [.ref P, .int v0, .int v1] (L, M, N) (fun r2 z => r2 = some (.int r.1) ∧ z = (L, r.2, N)) := by
  refine zM.of miX7_round (Nat.le_of_ble_eq_true rfl) ?_
  intro p e s m args below meth c X hr hname
  generalize hF : ((fun r2 z => r2 = some (.int r.1) ∧ z = (L, r.2, N)) : Option Value → zS → Prop) = FQ
  change Zw p l e { frames := 5, cells := 0, slots := 0, locals := 80 * (5) } s m args below meth c G b 3 (MQ below (zQ G b FQ) args s 0 0 (fun q : Nat => b ≤ q)) 0 0 0 [some (.ref P), some (.int v0), some (.int v1)] [] (L, M, N)
  have p_lt := hP.1
  have p_o := hP.2.1
  have p_pool := hP.2.2.2.2.2.2.2.1
  have p_pool_lt := p_pool.1
  have p_pool_o := p_pool.2.1
  have p_result := hP.2.2.2.2.2.2.2.2.1
  have p_result_lt := p_result.1
  have p_result_o := p_result.2.1
  have p_result_unitOf := p_result.2.2.2.1
  have p_result_roundOf := p_result.2.2.2.2.1
  have J_77 : ∀ (x1_77 : Int32) (x2_77 : Int32) (y0_77 : Int32) (M_77 : zMt), D_X7_round_77 P y0_77 M_77 = some r → Zw p l e { frames := 5, cells := 0, slots := 0, locals := 80 * (5) } s m args below meth c G b 3 (MQ below (zQ G b FQ) args s 0 0 (fun q : Nat => b ≤ q)) 0 0 77 [some (.ref (P)), some (.int x1_77), some (.int x2_77)] [.int y0_77] (L, M_77, N) := by
    intro x1_77 x2_77 y0_77 M_77 h
    unfold D_X7_round_77 at h
    refine a_iret X hr dX7_round_77 ⟨by decide, by decide⟩ ?_
    subst hF
    rw [← Option.some.inj h]
    exact ⟨rfl, rfl⟩
  unfold D_X7_round at h
  refine a_iload_n X dX7_round_0 rfl ?_
  obtain ⟨e_1, f_1, h⟩ := zBx h
  refine a_callSx X dX7_round_1 miX7_isSeed lm7_237 (t_X7_isSeed f_1) rfl rfl (Nat.le_of_ble_eq_true rfl) ⟨by decide, by decide, by decide, by decide⟩ (fun r_1 S_1 q_1 => ?_)
  obtain ⟨rfl, rfl, b_1⟩ := q_1
  refine a_if_ne (tgt := 13) X dX7_round_4 (by decide) (fun h_4 => ?_) (fun h_4 => ?_)
  · replace h := (if_neg h_4).symm.trans h
    refine a_aload_n X dX7_round_13 rfl ?_
    refine a_iload_n X dX7_round_14 rfl ?_
    obtain ⟨e_15, f_15, h⟩ := zBx h
    refine a_callVx X dX7_round_15 miX7_isApplicant lm7_206 (t_X7_isApplicant (by first | exact hP | assumption) f_15) (by first | exact p_o | assumption) rfl rfl rfl (Nat.le_of_ble_eq_true rfl) ⟨by decide, by decide, by decide, by decide⟩ (fun r_15 S_15 q_15 => ?_)
    obtain ⟨rfl, rfl, b_15⟩ := q_15
    refine a_if_ne (tgt := 27) X dX7_round_18 (by decide) (fun h_18 => ?_) (fun h_18 => ?_)
    · replace h := (if_neg h_18).symm.trans h
      refine a_aload_n X dX7_round_27 rfl ?_
      refine a_getr X lf7_47 (by first | exact p_o | assumption) rfl (by omega) dX7_round_28 ?_
      refine a_aload_n X dX7_round_31 rfl ?_
      refine a_getr X lf7_40 (by first | exact p_o | assumption) rfl (by omega) dX7_round_32 ?_
      refine a_iload_n X dX7_round_35 rfl ?_
      obtain ⟨e_36, f_36, h⟩ := zBx h
      refine a_callVu X dX7_round_36 miX5_bySeed lm7_247 (t_X5_bySeed (by first | exact p_result | assumption) (by first | exact p_pool | assumption) f_36) (by first | exact p_result_o | assumption) rfl rfl rfl (Nat.le_of_ble_eq_true rfl) ⟨by decide, by decide, by decide, by decide⟩ ?_
      refine a_aload_n X dX7_round_39 rfl ?_
      refine a_getr X lf7_47 (by first | exact p_o | assumption) rfl (by omega) dX7_round_40 ?_
      refine a_getr X lf7_250 (by first | exact p_result_o | assumption) rfl (by omega) dX7_round_43 ?_
      refine a_iload_n X dX7_round_46 rfl ?_
      refine a_callSv X dX7_round_47 miX7_cell lm7_175 (c_cell (by first | exact p_result_unitOf | assumption) (by decide)) rfl rfl (Nat.le_of_ble_eq_true rfl) ⟨by decide, by decide, by decide, by decide⟩ ?_
      refine a_iconst (v := -1) X dX7_round_50 (by decide) ?_
      refine a_icmp_ne (tgt := 62) X dX7_round_51 (by decide) (fun h_51 => ?_) (fun h_51 => ?_)
      · replace h := (if_neg h_51).symm.trans h
        refine a_aload_n X dX7_round_62 rfl ?_
        refine a_aload_n X dX7_round_63 rfl ?_
        refine a_getr X lf7_47 (by first | exact p_o | assumption) rfl (by omega) dX7_round_64 ?_
        refine a_getr X lf7_253 (by first | exact p_result_o | assumption) rfl (by omega) dX7_round_67 ?_
        refine a_iload_n X dX7_round_70 rfl ?_
        refine a_callSv X dX7_round_71 miX7_cell lm7_175 (c_cell (by first | exact p_result_roundOf | assumption) (by decide)) rfl rfl (Nat.le_of_ble_eq_true rfl) ⟨by decide, by decide, by decide, by decide⟩ ?_
        obtain ⟨e_74, f_74, h⟩ := zBx h
        refine a_callVv X dX7_round_74 miX7_answer lm7_134 (t_X7_answer (by first | exact hP | assumption) f_74) (by first | exact p_o | assumption) rfl rfl rfl (Nat.le_of_ble_eq_true rfl) ⟨by decide, by decide, by decide, by decide⟩ ?_
        exact Zw.to2 (J_77 _ _ _ _ h) rfl rfl rfl
      · replace h := (if_pos h_51).symm.trans h
        refine a_aload_n X dX7_round_54 rfl ?_
        refine a_iconst (v := 5) X dX7_round_55 (by decide) ?_
        obtain ⟨e_56, f_56, h⟩ := zBx h
        refine a_callVv X dX7_round_56 miX7_refuse lm7_102 (t_X7_refuse (by first | exact hP | assumption) f_56) (by first | exact p_o | assumption) rfl rfl rfl (Nat.le_of_ble_eq_true rfl) ⟨by decide, by decide, by decide, by decide⟩ ?_
        refine a_goto (tgt := 77) X dX7_round_59 (by decide) ?_
        exact Zw.to2 (J_77 _ _ _ _ h) rfl rfl rfl
    · replace h := (if_pos h_18).symm.trans h
      refine a_aload_n X dX7_round_21 rfl ?_
      refine a_iconst (v := 2) X dX7_round_22 (by decide) ?_
      obtain ⟨e_23, f_23, h⟩ := zBx h
      refine a_callVv X dX7_round_23 miX7_refuse lm7_102 (t_X7_refuse (by first | exact hP | assumption) f_23) (by first | exact p_o | assumption) rfl rfl rfl (Nat.le_of_ble_eq_true rfl) ⟨by decide, by decide, by decide, by decide⟩ ?_
      refine a_iret X hr dX7_round_26 ⟨by decide, by decide⟩ ?_
      subst hF
      rw [← Option.some.inj h]
      exact ⟨rfl, rfl⟩
  · replace h := (if_pos h_4).symm.trans h
    refine a_aload_n X dX7_round_7 rfl ?_
    refine a_iconst (v := 1) X dX7_round_8 (by decide) ?_
    obtain ⟨e_9, f_9, h⟩ := zBx h
    refine a_callVv X dX7_round_9 miX7_refuse lm7_102 (t_X7_refuse (by first | exact hP | assumption) f_9) (by first | exact p_o | assumption) rfl rfl rfl (Nat.le_of_ble_eq_true rfl) ⟨by decide, by decide, by decide, by decide⟩ ?_
    refine a_iret X hr dX7_round_12 ⟨by decide, by decide⟩ ?_
    subst hF
    rw [← Option.some.inj h]
    exact ⟨rfl, rfl⟩
noncomputable def D_X7_left_159 (P : Nat) (y0_159 : Int32) (M_159 : zMt) : Option (Int32 × zMt) :=
  some (y0_159, M_159)
noncomputable def D_X7_left_16 (P : Nat) (M_16 : zMt) : Option (Int32 × zMt) :=
  zB (D_X7_refuse P (1 : Int32) M_16) fun e_18 =>
  some (e_18.1, e_18.2)
noncomputable def D_X7_left (P : Nat) (v0 : Int32) (v1 : Int32) (v2 : Int32) (M : zMt) : Option (Int32 × zMt) :=
  zB (D_X7_isSeed v0) fun e_1 =>
  if e_1 = 0 then
    D_X7_left_16 P M
  else
    if v2 < 0 then
      D_X7_left_16 P M
    else
      if v2 ≤ (3 : Int32) then
        zB (D_X7_isUnit P M v1) fun e_24 =>
        if e_24 = 0 then
          zB (D_X7_refuse P (2 : Int32) M) fun e_32 =>
          some (e_32.1, e_32.2)
        else
          zB (D_X5_bySeed (P + 104) (P + 91) v0 M) fun e_45 =>
          if Int32.toInt v2 = 0 then
            zB (D_X7_answer P (zrd 0 (e_45 (P + 108)) 5 v1) e_45) fun e_88 =>
            some (e_88.1, e_88.2)
          else
          if Int32.toInt v2 = 1 then
            zB (D_X7_answer P (zrd 0 (e_45 (P + 109)) 5 v1) e_45) fun e_104 =>
            some (e_104.1, e_104.2)
          else
          if Int32.toInt v2 = 2 then
            zB (D_X5_holders (P + 104) (P + 91) e_45 v1) fun e_118 =>
            zB (D_X7_answer P e_118 e_45) fun e_121 =>
            some (e_121.1, e_121.2)
          else
            zB (D_X5_fewestPoints (P + 104) (P + 91) e_45 v1) fun e_134 =>
            if e_134 = (-1 : Int32) then
              zB (D_X7_refuse P (5 : Int32) e_45) fun e_147 =>
              D_X7_left_159 P e_147.1 e_147.2
            else
              zB (D_X7_answer P e_134 e_45) fun e_156 =>
              D_X7_left_159 P e_156.1 e_156.2
      else
        D_X7_left_16 P M
set_option maxRecDepth 100000 in
set_option maxHeartbeats 4000000 in
theorem t_X7_left {l : Launch} {G : zG} {b : Nat} {L : List zC} {M : zMt} {N : zNt} {P : Nat} {v0 : Int32} {v1 : Int32} {v2 : Int32} (hP : LX7 L P) {r : Int32 × zMt} (h : D_X7_left P v0 v1 v2 M = some r) : zM l G b yX7_left cX7_left 5 (some .int) 5 0 0 [.ref P, .int v0, .int v1, .int v2] (L, M, N) (fun r2 z => r2 = some (.int r.1) ∧ z = (L, r.2, N)) := by
  refine zM.of miX7_left (Nat.le_of_ble_eq_true rfl) ?_
  intro p e s m args below meth c X hr hname
  generalize hF : ((fun r2 z => r2 = some (.int r.1) ∧ z = (L, r.2, N)) : Option Value → zS → Prop) = FQ
  change Zw p l e { frames := 5, cells := 0, slots := 0, locals := 80 * (5) } s m args below meth c G b 5 (MQ below (zQ G b FQ) args s 0 0 (fun q : Nat => b ≤ q)) 0 0 0 [some (.ref P), some (.int v0), some (.int v1), some (.int v2), none] [] (L, M, N)
  have p_lt := hP.1
  have p_o := hP.2.1
  have p_pool := hP.2.2.2.2.2.2.2.1
  have p_pool_lt := p_pool.1
  have p_pool_o := p_pool.2.1
  have p_result := hP.2.2.2.2.2.2.2.2.1
  have p_result_lt := p_result.1
  have p_result_o := p_result.2.1
  have p_result_leftTags := p_result.2.2.2.2.2.1
  have p_result_leftGuests := p_result.2.2.2.2.2.2.1
  have J_159 : ∀ (x1_159 : Int32) (x2_159 : Int32) (x3_159 : Int32) (x4_159 : Int32) (y0_159 : Int32) (M_159 : zMt), D_X7_left_159 P y0_159 M_159 = some r → Zw p l e { frames := 5, cells := 0, slots := 0, locals := 80 * (5) } s m args below meth c G b 5 (MQ below (zQ G b FQ) args s 0 0 (fun q : Nat => b ≤ q)) 0 0 159 [some (.ref (P)), some (.int x1_159), some (.int x2_159), some (.int x3_159), some (.int x4_159)] [.int y0_159] (L, M_159, N) := by
    intro x1_159 x2_159 x3_159 x4_159 y0_159 M_159 h
    unfold D_X7_left_159 at h
    refine a_iret X hr dX7_left_159 ⟨by decide, by decide⟩ ?_
    subst hF
    rw [← Option.some.inj h]
    exact ⟨rfl, rfl⟩
  have J_16 : ∀ (x1_16 : Int32) (x2_16 : Int32) (x3_16 : Int32) (x4_16 : Option Value) (M_16 : zMt), D_X7_left_16 P M_16 = some r → Zw p l e { frames := 5, cells := 0, slots := 0, locals := 80 * (5) } s m args below meth c G b 5 (MQ below (zQ G b FQ) args s 0 0 (fun q : Nat => b ≤ q)) 0 0 16 [some (.ref (P)), some (.int x1_16), some (.int x2_16), some (.int x3_16), x4_16] [] (L, M_16, N) := by
    intro x1_16 x2_16 x3_16 x4_16 M_16 h
    unfold D_X7_left_16 at h
    refine a_aload_n X dX7_left_16 rfl ?_
    refine a_iconst (v := 1) X dX7_left_17 (by decide) ?_
    obtain ⟨e_18, f_18, h⟩ := zBx h
    refine a_callVv X dX7_left_18 miX7_refuse lm7_102 (t_X7_refuse (by first | exact hP | assumption) f_18) (by first | exact p_o | assumption) rfl rfl rfl (Nat.le_of_ble_eq_true rfl) ⟨by decide, by decide, by decide, by decide⟩ ?_
    refine a_iret X hr dX7_left_21 ⟨by decide, by decide⟩ ?_
    subst hF
    rw [← Option.some.inj h]
    exact ⟨rfl, rfl⟩
  unfold D_X7_left at h
  refine a_iload_n X dX7_left_0 rfl ?_
  obtain ⟨e_1, f_1, h⟩ := zBx h
  refine a_callSx X dX7_left_1 miX7_isSeed lm7_237 (t_X7_isSeed f_1) rfl rfl (Nat.le_of_ble_eq_true rfl) ⟨by decide, by decide, by decide, by decide⟩ (fun r_1 S_1 q_1 => ?_)
  obtain ⟨rfl, rfl, b_1⟩ := q_1
  refine a_if_eq (tgt := 16) X dX7_left_4 (by decide) (fun h_4 => ?_) (fun h_4 => ?_)
  · replace h := (if_pos h_4).symm.trans h
    exact Zw.to2 (J_16 _ _ _ _ _ h) rfl rfl rfl
  · replace h := (if_neg h_4).symm.trans h
    refine a_iload_n X dX7_left_7 rfl ?_
    refine a_if_lt (tgt := 16) X dX7_left_8 (by decide) (fun h_8 => ?_) (fun h_8 => ?_)
    · replace h := (if_pos h_8).symm.trans h
      exact Zw.to2 (J_16 _ _ _ _ _ h) rfl rfl rfl
    · replace h := (if_neg h_8).symm.trans h
      refine a_iload_n X dX7_left_11 rfl ?_
      refine a_iconst (v := 3) X dX7_left_12 (by decide) ?_
      refine a_icmp_le (tgt := 22) X dX7_left_13 (by decide) (fun h_13 => ?_) (fun h_13 => ?_)
      · replace h := (if_pos h_13).symm.trans h
        refine a_aload_n X dX7_left_22 rfl ?_
        refine a_iload_n X dX7_left_23 rfl ?_
        obtain ⟨e_24, f_24, h⟩ := zBx h
        refine a_callVx X dX7_left_24 miX7_isUnit lm7_188 (t_X7_isUnit (by first | exact hP | assumption) f_24) (by first | exact p_o | assumption) rfl rfl rfl (Nat.le_of_ble_eq_true rfl) ⟨by decide, by decide, by decide, by decide⟩ (fun r_24 S_24 q_24 => ?_)
        obtain ⟨rfl, rfl, b_24⟩ := q_24
        refine a_if_ne (tgt := 36) X dX7_left_27 (by decide) (fun h_27 => ?_) (fun h_27 => ?_)
        · replace h := (if_neg h_27).symm.trans h
          refine a_aload_n X dX7_left_36 rfl ?_
          refine a_getr X lf7_47 (by first | exact p_o | assumption) rfl (by omega) dX7_left_37 ?_
          refine a_aload_n X dX7_left_40 rfl ?_
          refine a_getr X lf7_40 (by first | exact p_o | assumption) rfl (by omega) dX7_left_41 ?_
          refine a_iload_n X dX7_left_44 rfl ?_
          obtain ⟨e_45, f_45, h⟩ := zBx h
          refine a_callVu X dX7_left_45 miX5_bySeed lm7_247 (t_X5_bySeed (by first | exact p_result | assumption) (by first | exact p_pool | assumption) f_45) (by first | exact p_result_o | assumption) rfl rfl rfl (Nat.le_of_ble_eq_true rfl) ⟨by decide, by decide, by decide, by decide⟩ ?_
          refine a_iload_n X dX7_left_48 rfl ?_
          refine a_tsw (tg := [76, 92, 108]) (td := 125) X dX7_left_49 (by decide +kernel) (by decide) (by decide) (fun k_49 t_49 ht_49 hx_49 => ?_) (fun hx_49 => ?_)
          · match k_49, ht_49, hx_49 with
            | 0, ht_49, hx_49 =>
              cases ht_49
              replace h := (if_pos (by omega)).symm.trans h
              refine a_aload_n X dX7_left_76 rfl ?_
              refine a_aload_n X dX7_left_77 rfl ?_
              refine a_getr X lf7_47 (by first | exact p_o | assumption) rfl (by omega) dX7_left_78 ?_
              refine a_getr X lf7_256 (by first | exact p_result_o | assumption) rfl (by omega) dX7_left_81 ?_
              refine a_iload_n X dX7_left_84 rfl ?_
              refine a_callSv X dX7_left_85 miX7_cell lm7_175 (c_cell (by first | exact p_result_leftTags | assumption) (by decide)) rfl rfl (Nat.le_of_ble_eq_true rfl) ⟨by decide, by decide, by decide, by decide⟩ ?_
              obtain ⟨e_88, f_88, h⟩ := zBx h
              refine a_callVv X dX7_left_88 miX7_answer lm7_134 (t_X7_answer (by first | exact hP | assumption) f_88) (by first | exact p_o | assumption) rfl rfl rfl (Nat.le_of_ble_eq_true rfl) ⟨by decide, by decide, by decide, by decide⟩ ?_
              refine a_iret X hr dX7_left_91 ⟨by decide, by decide⟩ ?_
              subst hF
              rw [← Option.some.inj h]
              exact ⟨rfl, rfl⟩
            | 1, ht_49, hx_49 =>
              cases ht_49
              replace h := (if_neg (by omega)).symm.trans h
              replace h := (if_pos (by omega)).symm.trans h
              refine a_aload_n X dX7_left_92 rfl ?_
              refine a_aload_n X dX7_left_93 rfl ?_
              refine a_getr X lf7_47 (by first | exact p_o | assumption) rfl (by omega) dX7_left_94 ?_
              refine a_getr X lf7_259 (by first | exact p_result_o | assumption) rfl (by omega) dX7_left_97 ?_
              refine a_iload_n X dX7_left_100 rfl ?_
              refine a_callSv X dX7_left_101 miX7_cell lm7_175 (c_cell (by first | exact p_result_leftGuests | assumption) (by decide)) rfl rfl (Nat.le_of_ble_eq_true rfl) ⟨by decide, by decide, by decide, by decide⟩ ?_
              obtain ⟨e_104, f_104, h⟩ := zBx h
              refine a_callVv X dX7_left_104 miX7_answer lm7_134 (t_X7_answer (by first | exact hP | assumption) f_104) (by first | exact p_o | assumption) rfl rfl rfl (Nat.le_of_ble_eq_true rfl) ⟨by decide, by decide, by decide, by decide⟩ ?_
              refine a_iret X hr dX7_left_107 ⟨by decide, by decide⟩ ?_
              subst hF
              rw [← Option.some.inj h]
              exact ⟨rfl, rfl⟩
            | 2, ht_49, hx_49 =>
              cases ht_49
              replace h := (if_neg (by omega)).symm.trans h
              replace h := (if_neg (by omega)).symm.trans h
              replace h := (if_pos (by omega)).symm.trans h
              refine a_aload_n X dX7_left_108 rfl ?_
              refine a_aload_n X dX7_left_109 rfl ?_
              refine a_getr X lf7_47 (by first | exact p_o | assumption) rfl (by omega) dX7_left_110 ?_
              refine a_aload_n X dX7_left_113 rfl ?_
              refine a_getr X lf7_40 (by first | exact p_o | assumption) rfl (by omega) dX7_left_114 ?_
              refine a_iload_n X dX7_left_117 rfl ?_
              obtain ⟨e_118, f_118, h⟩ := zBx h
              refine a_callVv X dX7_left_118 miX5_holders lm7_262 (t_X5_holders (by first | exact p_result | assumption) (by first | exact p_pool | assumption) f_118) (by first | exact p_result_o | assumption) rfl rfl rfl (Nat.le_of_ble_eq_true rfl) ⟨by decide, by decide, by decide, by decide⟩ ?_
              obtain ⟨e_121, f_121, h⟩ := zBx h
              refine a_callVv X dX7_left_121 miX7_answer lm7_134 (t_X7_answer (by first | exact hP | assumption) f_121) (by first | exact p_o | assumption) rfl rfl rfl (Nat.le_of_ble_eq_true rfl) ⟨by decide, by decide, by decide, by decide⟩ ?_
              refine a_iret X hr dX7_left_124 ⟨by decide, by decide⟩ ?_
              subst hF
              rw [← Option.some.inj h]
              exact ⟨rfl, rfl⟩
          · skip
            replace h := (if_neg (by omega)).symm.trans h
            replace h := (if_neg (by omega)).symm.trans h
            replace h := (if_neg (by omega)).symm.trans h
            refine a_aload_n X dX7_left_125 rfl ?_
            refine a_getr X lf7_47 (by first | exact p_o | assumption) rfl (by omega) dX7_left_126 ?_
            refine a_aload_n X dX7_left_129 rfl ?_
            refine a_getr X lf7_40 (by first | exact p_o | assumption) rfl (by omega) dX7_left_130 ?_
            refine a_iload_n X dX7_left_133 rfl ?_
            obtain ⟨e_134, f_134, h⟩ := zBx h
            refine a_callVv X dX7_left_134 miX5_fewestPoints lm7_266 (t_X5_fewestPoints (by first | exact p_result | assumption) (by first | exact p_pool | assumption) f_134) (by first | exact p_result_o | assumption) rfl rfl rfl (Nat.le_of_ble_eq_true rfl) ⟨by decide, by decide, by decide, by decide⟩ ?_
            refine a_istore X dX7_left_137 (by decide) ?_
            refine a_iload X dX7_left_139 rfl ?_
            refine a_iconst (v := -1) X dX7_left_141 (by decide) ?_
            refine a_icmp_ne (tgt := 153) X dX7_left_142 (by decide) (fun h_142 => ?_) (fun h_142 => ?_)
            · replace h := (if_neg h_142).symm.trans h
              refine a_aload_n X dX7_left_153 rfl ?_
              refine a_iload X dX7_left_154 rfl ?_
              obtain ⟨e_156, f_156, h⟩ := zBx h
              refine a_callVv X dX7_left_156 miX7_answer lm7_134 (t_X7_answer (by first | exact hP | assumption) f_156) (by first | exact p_o | assumption) rfl rfl rfl (Nat.le_of_ble_eq_true rfl) ⟨by decide, by decide, by decide, by decide⟩ ?_
              exact Zw.to2 (J_159 _ _ _ _ _ _ h) rfl rfl rfl
            · replace h := (if_pos h_142).symm.trans h
              refine a_aload_n X dX7_left_145 rfl ?_
              refine a_iconst (v := 5) X dX7_left_146 (by decide) ?_
              obtain ⟨e_147, f_147, h⟩ := zBx h
              refine a_callVv X dX7_left_147 miX7_refuse lm7_102 (t_X7_refuse (by first | exact hP | assumption) f_147) (by first | exact p_o | assumption) rfl rfl rfl (Nat.le_of_ble_eq_true rfl) ⟨by decide, by decide, by decide, by decide⟩ ?_
              refine a_goto (tgt := 159) X dX7_left_150 (by decide) ?_
              exact Zw.to2 (J_159 _ _ _ _ _ _ h) rfl rfl rfl
        · replace h := (if_pos h_27).symm.trans h
          refine a_aload_n X dX7_left_30 rfl ?_
          refine a_iconst (v := 2) X dX7_left_31 (by decide) ?_
          obtain ⟨e_32, f_32, h⟩ := zBx h
          refine a_callVv X dX7_left_32 miX7_refuse lm7_102 (t_X7_refuse (by first | exact hP | assumption) f_32) (by first | exact p_o | assumption) rfl rfl rfl (Nat.le_of_ble_eq_true rfl) ⟨by decide, by decide, by decide, by decide⟩ ?_
          refine a_iret X hr dX7_left_35 ⟨by decide, by decide⟩ ?_
          subst hF
          rw [← Option.some.inj h]
          exact ⟨rfl, rfl⟩
      · replace h := (if_neg h_13).symm.trans h
        exact Zw.to2 (J_16 _ _ _ _ _ h) rfl rfl rfl
noncomputable def D_X7_winners_69 (P : Nat) (k29 : Int32 → Int32 → zMt → Option (Int32 × zMt)) (x2_69 : Int32) (x3_69 : Int32) (M_69 : zMt) : Option (Int32 × zMt) :=
  k29 x2_69 (x3_69 + 1) M_69
noncomputable def D_X7_winners_29 (P : Nat) : Nat → Int32 → Int32 → zMt → Option (Int32 × zMt)
  | 0, _, _, _ => none
  | n + 1, x2_29, x3_29, M_29 =>
    if (M_29 (P + 91) 1) ≤ x3_29 then
      zB (D_X7_answer P x2_29 M_29) fun e_77 =>
      some (e_77.1, e_77.2)
    else
      if (zrd 0 (M_29 (P + 106)) 10 x3_29) = (-1 : Int32) then
        D_X7_winners_69 P (D_X7_winners_29 P n) x2_29 x3_29 M_29
      else
        D_X7_winners_69 P (D_X7_winners_29 P n) (x2_29 ||| (zrd 0 (M_29 (P + 100)) 10 x3_29)) x3_29 M_29
noncomputable def D_X7_winners (P : Nat) (v0 : Int32) (M : zMt) : Option (Int32 × zMt) :=
  zB (D_X7_isSeed v0) fun e_1 =>
  if e_1 = 0 then
    zB (D_X7_refuse P (1 : Int32) M) fun e_9 =>
    some (e_9.1, e_9.2)
  else
    zB (D_X5_bySeed (P + 104) (P + 91) v0 M) fun e_22 =>
    D_X7_winners_29 P zFu (0 : Int32) (0 : Int32) e_22
set_option maxRecDepth 100000 in
set_option maxHeartbeats 4000000 in
theorem t_X7_winners {l : Launch} {G : zG} {b : Nat} {L : List zC} {M : zMt} {N : zNt} {P : Nat} {v0 : Int32} (hP : LX7 L P) {r : Int32 × zMt} (h : D_X7_winners P v0 M = some r) : zM l G b yX7_winners cX7_winners 4 (some .int) 5 0 0 [.ref P, .int v0] (L, M, N) (fun r2 z => r2 = some (.int r.1) ∧ z = (L, r.2, N)) := by
  refine zM.of miX7_winners (Nat.le_of_ble_eq_true rfl) ?_
  intro p e s m args below meth c X hr hname
  generalize hF : ((fun r2 z => r2 = some (.int r.1) ∧ z = (L, r.2, N)) : Option Value → zS → Prop) = FQ
  change Zw p l e { frames := 5, cells := 0, slots := 0, locals := 80 * (5) } s m args below meth c G b 4 (MQ below (zQ G b FQ) args s 0 0 (fun q : Nat => b ≤ q)) 0 0 0 [some (.ref P), some (.int v0), none, none] [] (L, M, N)
  have p_lt := hP.1
  have p_o := hP.2.1
  have p_pool := hP.2.2.2.2.2.2.2.1
  have p_pool_lt := p_pool.1
  have p_pool_o := p_pool.2.1
  have p_pool_bits := p_pool.2.2.2.2.2.2.2.2.2.2.1
  have p_result := hP.2.2.2.2.2.2.2.2.1
  have p_result_lt := p_result.1
  have p_result_o := p_result.2.1
  have p_result_unitOf := p_result.2.2.2.1
  have L_29 : ∀ u : Nat, ∀ (x1_29 : Int32) (x2_29 : Int32) (x3_29 : Int32) (M_29 : zMt), D_X7_winners_29 P u x2_29 x3_29 M_29 = some r → Zw p l e { frames := 5, cells := 0, slots := 0, locals := 80 * (5) } s m args below meth c G b 4 (MQ below (zQ G b FQ) args s 0 0 (fun q : Nat => b ≤ q)) 0 0 29 [some (.ref (P)), some (.int x1_29), some (.int x2_29), some (.int x3_29)] [] (L, M_29, N) := by
    intro u
    induction u with
    | zero => intro x1_29 x2_29 x3_29 M_29 h; cases (show none = some r from h)
    | succ u_29 ih_29 =>
      have J_69 : ∀ (x1_69 : Int32) (x2_69 : Int32) (x3_69 : Int32) (M_69 : zMt), D_X7_winners_69 P (D_X7_winners_29 P u_29) x2_69 x3_69 M_69 = some r → Zw p l e { frames := 5, cells := 0, slots := 0, locals := 80 * (5) } s m args below meth c G b 4 (MQ below (zQ G b FQ) args s 0 0 (fun q : Nat => b ≤ q)) 0 0 69 [some (.ref (P)), some (.int x1_69), some (.int x2_69), some (.int x3_69)] [] (L, M_69, N) := by
        intro x1_69 x2_69 x3_69 M_69 h
        unfold D_X7_winners_69 at h
        refine a_iinc (v := x3_69 + 1) X dX7_winners_69 (by decide) rfl zi_1 ?_
        refine a_goto (tgt := 29) X dX7_winners_72 (by decide) ?_
        exact Zw.to2 (ih_29 _ _ _ _ h) rfl rfl rfl
      intro x1_29 x2_29 x3_29 M_29 h
      rw [D_X7_winners_29] at h
      refine a_iload_n X dX7_winners_29 rfl ?_
      refine a_aload_n X dX7_winners_30 rfl ?_
      refine a_getr X lf7_40 (by first | exact p_o | assumption) rfl (by omega) dX7_winners_31 ?_
      refine a_geti X lf7_140 (by first | exact p_pool_o | assumption) rfl dX7_winners_34 ?_
      refine a_icmp_ge (tgt := 75) X dX7_winners_37 (by decide) (fun h_37 => ?_) (fun h_37 => ?_)
      · replace h := (if_pos h_37).symm.trans h
        refine a_aload_n X dX7_winners_75 rfl ?_
        refine a_iload_n X dX7_winners_76 rfl ?_
        obtain ⟨e_77, f_77, h⟩ := zBx h
        refine a_callVv X dX7_winners_77 miX7_answer lm7_134 (t_X7_answer (by first | exact hP | assumption) f_77) (by first | exact p_o | assumption) rfl rfl rfl (Nat.le_of_ble_eq_true rfl) ⟨by decide, by decide, by decide, by decide⟩ ?_
        refine a_iret X hr dX7_winners_80 ⟨by decide, by decide⟩ ?_
        subst hF
        rw [← Option.some.inj h]
        exact ⟨rfl, rfl⟩
      · replace h := (if_neg h_37).symm.trans h
        refine a_aload_n X dX7_winners_40 rfl ?_
        refine a_getr X lf7_47 (by first | exact p_o | assumption) rfl (by omega) dX7_winners_41 ?_
        refine a_getr X lf7_250 (by first | exact p_result_o | assumption) rfl (by omega) dX7_winners_44 ?_
        refine a_iload_n X dX7_winners_47 rfl ?_
        refine a_callSv X dX7_winners_48 miX7_cell lm7_175 (c_cell (by first | exact p_result_unitOf | assumption) (by decide)) rfl rfl (Nat.le_of_ble_eq_true rfl) ⟨by decide, by decide, by decide, by decide⟩ ?_
        refine a_iconst (v := -1) X dX7_winners_51 (by decide) ?_
        refine a_icmp_eq (tgt := 69) X dX7_winners_52 (by decide) (fun h_52 => ?_) (fun h_52 => ?_)
        · replace h := (if_pos h_52).symm.trans h
          exact Zw.to2 (J_69 _ _ _ _ h) rfl rfl rfl
        · replace h := (if_neg h_52).symm.trans h
          refine a_iload_n X dX7_winners_55 rfl ?_
          refine a_aload_n X dX7_winners_56 rfl ?_
          refine a_getr X lf7_40 (by first | exact p_o | assumption) rfl (by omega) dX7_winners_57 ?_
          refine a_getr X lf7_222 (by first | exact p_pool_o | assumption) rfl (by omega) dX7_winners_60 ?_
          refine a_iload_n X dX7_winners_63 rfl ?_
          refine a_callSv X dX7_winners_64 miX7_cell lm7_175 (c_cell (by first | exact p_pool_bits | assumption) (by decide)) rfl rfl (Nat.le_of_ble_eq_true rfl) ⟨by decide, by decide, by decide, by decide⟩ ?_
          refine a_ior X dX7_winners_67 ?_
          refine a_istore_n X dX7_winners_68 (by decide) ?_
          exact Zw.to2 (J_69 _ _ _ _ h) rfl rfl rfl
  have H_29 : ∀ (x1_29 : Int32) (x2_29 : Int32) (x3_29 : Int32) (M_29 : zMt), D_X7_winners_29 P zFu x2_29 x3_29 M_29 = some r → Zw p l e { frames := 5, cells := 0, slots := 0, locals := 80 * (5) } s m args below meth c G b 4 (MQ below (zQ G b FQ) args s 0 0 (fun q : Nat => b ≤ q)) 0 0 29 [some (.ref (P)), some (.int x1_29), some (.int x2_29), some (.int x3_29)] [] (L, M_29, N) := L_29 zFu
  unfold D_X7_winners at h
  refine a_iload_n X dX7_winners_0 rfl ?_
  obtain ⟨e_1, f_1, h⟩ := zBx h
  refine a_callSx X dX7_winners_1 miX7_isSeed lm7_237 (t_X7_isSeed f_1) rfl rfl (Nat.le_of_ble_eq_true rfl) ⟨by decide, by decide, by decide, by decide⟩ (fun r_1 S_1 q_1 => ?_)
  obtain ⟨rfl, rfl, b_1⟩ := q_1
  refine a_if_ne (tgt := 13) X dX7_winners_4 (by decide) (fun h_4 => ?_) (fun h_4 => ?_)
  · replace h := (if_neg h_4).symm.trans h
    refine a_aload_n X dX7_winners_13 rfl ?_
    refine a_getr X lf7_47 (by first | exact p_o | assumption) rfl (by omega) dX7_winners_14 ?_
    refine a_aload_n X dX7_winners_17 rfl ?_
    refine a_getr X lf7_40 (by first | exact p_o | assumption) rfl (by omega) dX7_winners_18 ?_
    refine a_iload_n X dX7_winners_21 rfl ?_
    obtain ⟨e_22, f_22, h⟩ := zBx h
    refine a_callVu X dX7_winners_22 miX5_bySeed lm7_247 (t_X5_bySeed (by first | exact p_result | assumption) (by first | exact p_pool | assumption) f_22) (by first | exact p_result_o | assumption) rfl rfl rfl (Nat.le_of_ble_eq_true rfl) ⟨by decide, by decide, by decide, by decide⟩ ?_
    refine a_iconst (v := 0) X dX7_winners_25 (by decide) ?_
    refine a_istore_n X dX7_winners_26 (by decide) ?_
    refine a_iconst (v := 0) X dX7_winners_27 (by decide) ?_
    refine a_istore_n X dX7_winners_28 (by decide) ?_
    exact Zw.to2 (H_29 _ _ _ _ h) rfl rfl rfl
  · replace h := (if_pos h_4).symm.trans h
    refine a_aload_n X dX7_winners_7 rfl ?_
    refine a_iconst (v := 1) X dX7_winners_8 (by decide) ?_
    obtain ⟨e_9, f_9, h⟩ := zBx h
    refine a_callVv X dX7_winners_9 miX7_refuse lm7_102 (t_X7_refuse (by first | exact hP | assumption) f_9) (by first | exact p_o | assumption) rfl rfl rfl (Nat.le_of_ble_eq_true rfl) ⟨by decide, by decide, by decide, by decide⟩ ?_
    refine a_iret X hr dX7_winners_12 ⟨by decide, by decide⟩ ?_
    subst hF
    rw [← Option.some.inj h]
    exact ⟨rfl, rfl⟩
noncomputable def D_X7_waits_137 (P : Nat) (y0_137 : Int32) (M_137 : zMt) : Option (Int32 × zMt) :=
  some (y0_137, M_137)
noncomputable def D_X7_waits_112 (P : Nat) (k50 : Int32 → Int32 → Int32 → Int32 → zMt → Option (Int32 × zMt)) (x2_112 : Int32) (x3_112 : Int32) (x4_112 : Int32) (x5_112 : Int32) (M_112 : zMt) : Option (Int32 × zMt) :=
  k50 x2_112 x3_112 x4_112 (x5_112 + 1) M_112
noncomputable def D_X7_waits_50 (P : Nat) : Nat → Int32 → Int32 → Int32 → Int32 → zMt → Option (Int32 × zMt)
  | 0, _, _, _, _, _ => none
  | n + 1, x2_50, x3_50, x4_50, x5_50, M_50 =>
    if (M_50 (P + 91) 1) ≤ x5_50 then
      if x3_50 = (-1 : Int32) then
        zB (D_X7_answer P x4_50 M_50) fun e_126 =>
        D_X7_waits_137 P e_126.1 e_126.2
      else
        zB (D_X7_refuse P (5 : Int32) M_50) fun e_134 =>
        D_X7_waits_137 P e_134.1 e_134.2
    else
      zB (D_X5_isWaiting (P + 104) (P + 91) M_50 (zrd 0 (M_50 (P + 105)) 10 x5_50) x2_50) fun e_87 =>
      if e_87 = 0 then
        D_X7_waits_112 P (D_X7_waits_50 P n) x2_50 x3_50 x4_50 x5_50 M_50
      else
        if x4_50 = x3_50 then
          zB (D_X7_answer P (zrd 0 (M_50 (P + 105)) 10 x5_50) M_50) fun e_105 =>
          some (e_105.1, e_105.2)
        else
          D_X7_waits_112 P (D_X7_waits_50 P n) x2_50 x3_50 (x4_50 + 1) x5_50 M_50
noncomputable def D_X7_waits_12 (P : Nat) (M_12 : zMt) : Option (Int32 × zMt) :=
  zB (D_X7_refuse P (1 : Int32) M_12) fun e_14 =>
  some (e_14.1, e_14.2)
noncomputable def D_X7_waits (P : Nat) (v0 : Int32) (v1 : Int32) (v2 : Int32) (M : zMt) : Option (Int32 × zMt) :=
  zB (D_X7_isSeed v0) fun e_1 =>
  if e_1 = 0 then
    D_X7_waits_12 P M
  else
    if (-1 : Int32) ≤ v2 then
      zB (D_X7_isUnit P M v1) fun e_20 =>
      if e_20 = 0 then
        zB (D_X7_refuse P (2 : Int32) M) fun e_28 =>
        some (e_28.1, e_28.2)
      else
        zB (D_X5_bySeed (P + 104) (P + 91) v0 M) fun e_41 =>
        D_X7_waits_50 P zFu v1 v2 (0 : Int32) (0 : Int32) e_41
    else
      D_X7_waits_12 P M
set_option maxRecDepth 100000 in
set_option maxHeartbeats 4000000 in
theorem t_X7_waits {l : Launch} {G : zG} {b : Nat} {L : List zC} {M : zMt} {N : zNt} {P : Nat} {v0 : Int32} {v1 : Int32} {v2 : Int32} (hP : LX7 L P) {r : Int32 × zMt} (h : D_X7_waits P v0 v1 v2 M = some r) : zM l G b yX7_waits cX7_waits 7 (some .int) 5 0 0 [.ref P, .int v0, .int v1, .int v2] (L, M, N) (fun r2 z => r2 = some (.int r.1) ∧ z = (L, r.2, N)) := by
  refine zM.of miX7_waits (Nat.le_of_ble_eq_true rfl) ?_
  intro p e s m args below meth c X hr hname
  generalize hF : ((fun r2 z => r2 = some (.int r.1) ∧ z = (L, r.2, N)) : Option Value → zS → Prop) = FQ
  change Zw p l e { frames := 5, cells := 0, slots := 0, locals := 80 * (5) } s m args below meth c G b 7 (MQ below (zQ G b FQ) args s 0 0 (fun q : Nat => b ≤ q)) 0 0 0 [some (.ref P), some (.int v0), some (.int v1), some (.int v2), none, none, none] [] (L, M, N)
  have p_lt := hP.1
  have p_o := hP.2.1
  have p_pool := hP.2.2.2.2.2.2.2.1
  have p_pool_lt := p_pool.1
  have p_pool_o := p_pool.2.1
  have p_result := hP.2.2.2.2.2.2.2.2.1
  have p_result_lt := p_result.1
  have p_result_o := p_result.2.1
  have p_result_line := p_result.2.2.1
  have J_137 : ∀ (x1_137 : Int32) (x2_137 : Int32) (x3_137 : Int32) (x4_137 : Int32) (x5_137 : Int32) (x6_137 : Option Value) (y0_137 : Int32) (M_137 : zMt), D_X7_waits_137 P y0_137 M_137 = some r → Zw p l e { frames := 5, cells := 0, slots := 0, locals := 80 * (5) } s m args below meth c G b 7 (MQ below (zQ G b FQ) args s 0 0 (fun q : Nat => b ≤ q)) 0 0 137 [some (.ref (P)), some (.int x1_137), some (.int x2_137), some (.int x3_137), some (.int x4_137), some (.int x5_137), x6_137] [.int y0_137] (L, M_137, N) := by
    intro x1_137 x2_137 x3_137 x4_137 x5_137 x6_137 y0_137 M_137 h
    unfold D_X7_waits_137 at h
    refine a_iret X hr dX7_waits_137 ⟨by decide, by decide⟩ ?_
    subst hF
    rw [← Option.some.inj h]
    exact ⟨rfl, rfl⟩
  have L_50 : ∀ u : Nat, ∀ (x1_50 : Int32) (x2_50 : Int32) (x3_50 : Int32) (x4_50 : Int32) (x5_50 : Int32) (x6_50 : Option Value) (M_50 : zMt), D_X7_waits_50 P u x2_50 x3_50 x4_50 x5_50 M_50 = some r → Zw p l e { frames := 5, cells := 0, slots := 0, locals := 80 * (5) } s m args below meth c G b 7 (MQ below (zQ G b FQ) args s 0 0 (fun q : Nat => b ≤ q)) 0 0 50 [some (.ref (P)), some (.int x1_50), some (.int x2_50), some (.int x3_50), some (.int x4_50), some (.int x5_50), x6_50] [] (L, M_50, N) := by
    intro u
    induction u with
    | zero => intro x1_50 x2_50 x3_50 x4_50 x5_50 x6_50 M_50 h; cases (show none = some r from h)
    | succ u_50 ih_50 =>
      have J_112 : ∀ (x1_112 : Int32) (x2_112 : Int32) (x3_112 : Int32) (x4_112 : Int32) (x5_112 : Int32) (x6_112 : Int32) (M_112 : zMt), D_X7_waits_112 P (D_X7_waits_50 P u_50) x2_112 x3_112 x4_112 x5_112 M_112 = some r → Zw p l e { frames := 5, cells := 0, slots := 0, locals := 80 * (5) } s m args below meth c G b 7 (MQ below (zQ G b FQ) args s 0 0 (fun q : Nat => b ≤ q)) 0 0 112 [some (.ref (P)), some (.int x1_112), some (.int x2_112), some (.int x3_112), some (.int x4_112), some (.int x5_112), some (.int x6_112)] [] (L, M_112, N) := by
        intro x1_112 x2_112 x3_112 x4_112 x5_112 x6_112 M_112 h
        unfold D_X7_waits_112 at h
        refine a_iinc (v := x5_112 + 1) X dX7_waits_112 (by decide) rfl zi_1 ?_
        refine a_goto (tgt := 50) X dX7_waits_115 (by decide) ?_
        exact Zw.to2 (ih_50 _ _ _ _ _ _ _ h) rfl rfl rfl
      intro x1_50 x2_50 x3_50 x4_50 x5_50 x6_50 M_50 h
      rw [D_X7_waits_50] at h
      refine a_iload X dX7_waits_50 rfl ?_
      refine a_aload_n X dX7_waits_52 rfl ?_
      refine a_getr X lf7_40 (by first | exact p_o | assumption) rfl (by omega) dX7_waits_53 ?_
      refine a_geti X lf7_140 (by first | exact p_pool_o | assumption) rfl dX7_waits_56 ?_
      refine a_icmp_ge (tgt := 118) X dX7_waits_59 (by decide) (fun h_59 => ?_) (fun h_59 => ?_)
      · replace h := (if_pos h_59).symm.trans h
        refine a_iload_n X dX7_waits_118 rfl ?_
        refine a_iconst (v := -1) X dX7_waits_119 (by decide) ?_
        refine a_icmp_ne (tgt := 132) X dX7_waits_120 (by decide) (fun h_120 => ?_) (fun h_120 => ?_)
        · replace h := (if_neg h_120).symm.trans h
          refine a_aload_n X dX7_waits_132 rfl ?_
          refine a_iconst (v := 5) X dX7_waits_133 (by decide) ?_
          obtain ⟨e_134, f_134, h⟩ := zBx h
          refine a_callVv X dX7_waits_134 miX7_refuse lm7_102 (t_X7_refuse (by first | exact hP | assumption) f_134) (by first | exact p_o | assumption) rfl rfl rfl (Nat.le_of_ble_eq_true rfl) ⟨by decide, by decide, by decide, by decide⟩ ?_
          exact Zw.to2 (J_137 _ _ _ _ _ _ _ _ h) rfl rfl rfl
        · replace h := (if_pos h_120).symm.trans h
          refine a_aload_n X dX7_waits_123 rfl ?_
          refine a_iload X dX7_waits_124 rfl ?_
          obtain ⟨e_126, f_126, h⟩ := zBx h
          refine a_callVv X dX7_waits_126 miX7_answer lm7_134 (t_X7_answer (by first | exact hP | assumption) f_126) (by first | exact p_o | assumption) rfl rfl rfl (Nat.le_of_ble_eq_true rfl) ⟨by decide, by decide, by decide, by decide⟩ ?_
          refine a_goto (tgt := 137) X dX7_waits_129 (by decide) ?_
          exact Zw.to2 (J_137 _ _ _ _ _ _ _ _ h) rfl rfl rfl
      · replace h := (if_neg h_59).symm.trans h
        refine a_aload_n X dX7_waits_62 rfl ?_
        refine a_getr X lf7_47 (by first | exact p_o | assumption) rfl (by omega) dX7_waits_63 ?_
        refine a_getr X lf7_244 (by first | exact p_result_o | assumption) rfl (by omega) dX7_waits_66 ?_
        refine a_iload X dX7_waits_69 rfl ?_
        refine a_callSv X dX7_waits_71 miX7_cell lm7_175 (c_cell (by first | exact p_result_line | assumption) (by decide)) rfl rfl (Nat.le_of_ble_eq_true rfl) ⟨by decide, by decide, by decide, by decide⟩ ?_
        refine a_istore X dX7_waits_74 (by decide) ?_
        refine a_aload_n X dX7_waits_76 rfl ?_
        refine a_getr X lf7_47 (by first | exact p_o | assumption) rfl (by omega) dX7_waits_77 ?_
        refine a_aload_n X dX7_waits_80 rfl ?_
        refine a_getr X lf7_40 (by first | exact p_o | assumption) rfl (by omega) dX7_waits_81 ?_
        refine a_iload X dX7_waits_84 rfl ?_
        refine a_iload_n X dX7_waits_86 rfl ?_
        obtain ⟨e_87, f_87, h⟩ := zBx h
        refine a_callVx X dX7_waits_87 miX5_isWaiting lm7_269 (t_X5_isWaiting (by first | exact p_result | assumption) (by first | exact p_pool | assumption) f_87) (by first | exact p_result_o | assumption) rfl rfl rfl (Nat.le_of_ble_eq_true rfl) ⟨by decide, by decide, by decide, by decide⟩ (fun r_87 S_87 q_87 => ?_)
        obtain ⟨rfl, rfl, b_87⟩ := q_87
        refine a_if_ne (tgt := 96) X dX7_waits_90 (by decide) (fun h_90 => ?_) (fun h_90 => ?_)
        · replace h := (if_neg h_90).symm.trans h
          refine a_iload X dX7_waits_96 rfl ?_
          refine a_iload_n X dX7_waits_98 rfl ?_
          refine a_icmp_ne (tgt := 109) X dX7_waits_99 (by decide) (fun h_99 => ?_) (fun h_99 => ?_)
          · replace h := (if_neg h_99).symm.trans h
            refine a_iinc (v := x4_50 + 1) X dX7_waits_109 (by decide) rfl zi_1 ?_
            exact Zw.to2 (J_112 _ _ _ _ _ _ _ h) rfl rfl rfl
          · replace h := (if_pos h_99).symm.trans h
            refine a_aload_n X dX7_waits_102 rfl ?_
            refine a_iload X dX7_waits_103 rfl ?_
            obtain ⟨e_105, f_105, h⟩ := zBx h
            refine a_callVv X dX7_waits_105 miX7_answer lm7_134 (t_X7_answer (by first | exact hP | assumption) f_105) (by first | exact p_o | assumption) rfl rfl rfl (Nat.le_of_ble_eq_true rfl) ⟨by decide, by decide, by decide, by decide⟩ ?_
            refine a_iret X hr dX7_waits_108 ⟨by decide, by decide⟩ ?_
            subst hF
            rw [← Option.some.inj h]
            exact ⟨rfl, rfl⟩
        · replace h := (if_pos h_90).symm.trans h
          refine a_goto (tgt := 112) X dX7_waits_93 (by decide) ?_
          exact Zw.to2 (J_112 _ _ _ _ _ _ _ h) rfl rfl rfl
  have H_50 : ∀ (x1_50 : Int32) (x2_50 : Int32) (x3_50 : Int32) (x4_50 : Int32) (x5_50 : Int32) (x6_50 : Option Value) (M_50 : zMt), D_X7_waits_50 P zFu x2_50 x3_50 x4_50 x5_50 M_50 = some r → Zw p l e { frames := 5, cells := 0, slots := 0, locals := 80 * (5) } s m args below meth c G b 7 (MQ below (zQ G b FQ) args s 0 0 (fun q : Nat => b ≤ q)) 0 0 50 [some (.ref (P)), some (.int x1_50), some (.int x2_50), some (.int x3_50), some (.int x4_50), some (.int x5_50), x6_50] [] (L, M_50, N) := L_50 zFu
  have J_12 : ∀ (x1_12 : Int32) (x2_12 : Int32) (x3_12 : Int32) (x4_12 : Option Value) (x5_12 : Option Value) (x6_12 : Option Value) (M_12 : zMt), D_X7_waits_12 P M_12 = some r → Zw p l e { frames := 5, cells := 0, slots := 0, locals := 80 * (5) } s m args below meth c G b 7 (MQ below (zQ G b FQ) args s 0 0 (fun q : Nat => b ≤ q)) 0 0 12 [some (.ref (P)), some (.int x1_12), some (.int x2_12), some (.int x3_12), x4_12, x5_12, x6_12] [] (L, M_12, N) := by
    intro x1_12 x2_12 x3_12 x4_12 x5_12 x6_12 M_12 h
    unfold D_X7_waits_12 at h
    refine a_aload_n X dX7_waits_12 rfl ?_
    refine a_iconst (v := 1) X dX7_waits_13 (by decide) ?_
    obtain ⟨e_14, f_14, h⟩ := zBx h
    refine a_callVv X dX7_waits_14 miX7_refuse lm7_102 (t_X7_refuse (by first | exact hP | assumption) f_14) (by first | exact p_o | assumption) rfl rfl rfl (Nat.le_of_ble_eq_true rfl) ⟨by decide, by decide, by decide, by decide⟩ ?_
    refine a_iret X hr dX7_waits_17 ⟨by decide, by decide⟩ ?_
    subst hF
    rw [← Option.some.inj h]
    exact ⟨rfl, rfl⟩
  unfold D_X7_waits at h
  refine a_iload_n X dX7_waits_0 rfl ?_
  obtain ⟨e_1, f_1, h⟩ := zBx h
  refine a_callSx X dX7_waits_1 miX7_isSeed lm7_237 (t_X7_isSeed f_1) rfl rfl (Nat.le_of_ble_eq_true rfl) ⟨by decide, by decide, by decide, by decide⟩ (fun r_1 S_1 q_1 => ?_)
  obtain ⟨rfl, rfl, b_1⟩ := q_1
  refine a_if_eq (tgt := 12) X dX7_waits_4 (by decide) (fun h_4 => ?_) (fun h_4 => ?_)
  · replace h := (if_pos h_4).symm.trans h
    exact Zw.to2 (J_12 _ _ _ _ _ _ _ h) rfl rfl rfl
  · replace h := (if_neg h_4).symm.trans h
    refine a_iload_n X dX7_waits_7 rfl ?_
    refine a_iconst (v := -1) X dX7_waits_8 (by decide) ?_
    refine a_icmp_ge (tgt := 18) X dX7_waits_9 (by decide) (fun h_9 => ?_) (fun h_9 => ?_)
    · replace h := (if_pos h_9).symm.trans h
      refine a_aload_n X dX7_waits_18 rfl ?_
      refine a_iload_n X dX7_waits_19 rfl ?_
      obtain ⟨e_20, f_20, h⟩ := zBx h
      refine a_callVx X dX7_waits_20 miX7_isUnit lm7_188 (t_X7_isUnit (by first | exact hP | assumption) f_20) (by first | exact p_o | assumption) rfl rfl rfl (Nat.le_of_ble_eq_true rfl) ⟨by decide, by decide, by decide, by decide⟩ (fun r_20 S_20 q_20 => ?_)
      obtain ⟨rfl, rfl, b_20⟩ := q_20
      refine a_if_ne (tgt := 32) X dX7_waits_23 (by decide) (fun h_23 => ?_) (fun h_23 => ?_)
      · replace h := (if_neg h_23).symm.trans h
        refine a_aload_n X dX7_waits_32 rfl ?_
        refine a_getr X lf7_47 (by first | exact p_o | assumption) rfl (by omega) dX7_waits_33 ?_
        refine a_aload_n X dX7_waits_36 rfl ?_
        refine a_getr X lf7_40 (by first | exact p_o | assumption) rfl (by omega) dX7_waits_37 ?_
        refine a_iload_n X dX7_waits_40 rfl ?_
        obtain ⟨e_41, f_41, h⟩ := zBx h
        refine a_callVu X dX7_waits_41 miX5_bySeed lm7_247 (t_X5_bySeed (by first | exact p_result | assumption) (by first | exact p_pool | assumption) f_41) (by first | exact p_result_o | assumption) rfl rfl rfl (Nat.le_of_ble_eq_true rfl) ⟨by decide, by decide, by decide, by decide⟩ ?_
        refine a_iconst (v := 0) X dX7_waits_44 (by decide) ?_
        refine a_istore X dX7_waits_45 (by decide) ?_
        refine a_iconst (v := 0) X dX7_waits_47 (by decide) ?_
        refine a_istore X dX7_waits_48 (by decide) ?_
        exact Zw.to2 (H_50 _ _ _ _ _ _ _ h) rfl rfl rfl
      · replace h := (if_pos h_23).symm.trans h
        refine a_aload_n X dX7_waits_26 rfl ?_
        refine a_iconst (v := 2) X dX7_waits_27 (by decide) ?_
        obtain ⟨e_28, f_28, h⟩ := zBx h
        refine a_callVv X dX7_waits_28 miX7_refuse lm7_102 (t_X7_refuse (by first | exact hP | assumption) f_28) (by first | exact p_o | assumption) rfl rfl rfl (Nat.le_of_ble_eq_true rfl) ⟨by decide, by decide, by decide, by decide⟩ ?_
        refine a_iret X hr dX7_waits_31 ⟨by decide, by decide⟩ ?_
        subst hF
        rw [← Option.some.inj h]
        exact ⟨rfl, rfl⟩
    · replace h := (if_neg h_9).symm.trans h
      exact Zw.to2 (J_12 _ _ _ _ _ _ _ h) rfl rfl rfl
noncomputable def D_X7_next_148 (P : Nat) (k82 : Int32 → Int32 → Int32 → Int32 → zMt → Option (Int32 × zMt)) (x2_148 : Int32) (x4_148 : Int32) (x5_148 : Int32) (x6_148 : Int32) (M_148 : zMt) : Option (Int32 × zMt) :=
  k82 x2_148 x4_148 x5_148 (x6_148 + 1) M_148
noncomputable def D_X7_next_82 (P : Nat) : Nat → Int32 → Int32 → Int32 → Int32 → zMt → Option (Int32 × zMt)
  | 0, _, _, _, _, _ => none
  | n + 1, x2_82, x4_82, x5_82, x6_82, M_82 =>
    if (M_82 (P + 91) 1) ≤ x6_82 then
      zB (D_X7_refuse P (5 : Int32) M_82) fun e_156 =>
      some (e_156.1, e_156.2)
    else
      zB (D_X5_isWaiting (P + 104) (P + 91) M_82 (zrd 0 (M_82 (P + 105)) 10 x6_82) x2_82) fun e_119 =>
      if e_119 = 0 then
        D_X7_next_148 P (D_X7_next_82 P n) x2_82 x4_82 x5_82 x6_82 M_82
      else
        zB (D_X2_fits (P + 91) M_82 (zrd 0 (M_82 (P + 105)) 10 x6_82) x4_82 x5_82) fun e_135 =>
        if e_135 = 0 then
          D_X7_next_148 P (D_X7_next_82 P n) x2_82 x4_82 x5_82 x6_82 M_82
        else
          zB (D_X7_answer P (zrd 0 (M_82 (P + 105)) 10 x6_82) M_82) fun e_144 =>
          some (e_144.1, e_144.2)
noncomputable def D_X7_next_17 (P : Nat) (M_17 : zMt) : Option (Int32 × zMt) :=
  zB (D_X7_refuse P (1 : Int32) M_17) fun e_19 =>
  some (e_19.1, e_19.2)
noncomputable def D_X7_next (P : Nat) (v0 : Int32) (v1 : Int32) (v2 : Int32) (M : zMt) : Option (Int32 × zMt) :=
  zB (D_X7_isSeed v0) fun e_1 =>
  if e_1 = 0 then
    D_X7_next_17 P M
  else
    if v2 < 0 then
      D_X7_next_17 P M
    else
      if v2 ≤ (20 : Int32) then
        zB (D_X7_isUnit P M v1) fun e_25 =>
        if e_25 = 0 then
          zB (D_X7_refuse P (2 : Int32) M) fun e_33 =>
          some (e_33.1, e_33.2)
        else
          zB (D_X5_bySeed (P + 104) (P + 91) v0 M) fun e_46 =>
          D_X7_next_82 P zFu v1 ((zrd 0 (e_46 (P + 108)) 5 v1) + v2) ((zrd 0 (e_46 (P + 109)) 5 v1) + v2) (0 : Int32) e_46
      else
        D_X7_next_17 P M
set_option maxRecDepth 100000 in
set_option maxHeartbeats 4000000 in
theorem t_X7_next {l : Launch} {G : zG} {b : Nat} {L : List zC} {M : zMt} {N : zNt} {P : Nat} {v0 : Int32} {v1 : Int32} {v2 : Int32} (hP : LX7 L P) {r : Int32 × zMt} (h : D_X7_next P v0 v1 v2 M = some r) : zM l G b yX7_next cX7_next 8 (some .int) 5 0 0 [.ref P, .int v0, .int v1, .int v2] (L, M, N) (fun r2 z => r2 = some (.int r.1) ∧ z = (L, r.2, N)) := by
  refine zM.of miX7_next (Nat.le_of_ble_eq_true rfl) ?_
  intro p e s m args below meth c X hr hname
  generalize hF : ((fun r2 z => r2 = some (.int r.1) ∧ z = (L, r.2, N)) : Option Value → zS → Prop) = FQ
  change Zw p l e { frames := 5, cells := 0, slots := 0, locals := 80 * (5) } s m args below meth c G b 8 (MQ below (zQ G b FQ) args s 0 0 (fun q : Nat => b ≤ q)) 0 0 0 [some (.ref P), some (.int v0), some (.int v1), some (.int v2), none, none, none, none] [] (L, M, N)
  have p_lt := hP.1
  have p_o := hP.2.1
  have p_pool := hP.2.2.2.2.2.2.2.1
  have p_pool_lt := p_pool.1
  have p_pool_o := p_pool.2.1
  have p_result := hP.2.2.2.2.2.2.2.2.1
  have p_result_lt := p_result.1
  have p_result_o := p_result.2.1
  have p_result_line := p_result.2.2.1
  have p_result_leftTags := p_result.2.2.2.2.2.1
  have p_result_leftGuests := p_result.2.2.2.2.2.2.1
  have L_82 : ∀ u : Nat, ∀ (x1_82 : Int32) (x2_82 : Int32) (x3_82 : Int32) (x4_82 : Int32) (x5_82 : Int32) (x6_82 : Int32) (x7_82 : Option Value) (M_82 : zMt), D_X7_next_82 P u x2_82 x4_82 x5_82 x6_82 M_82 = some r → Zw p l e { frames := 5, cells := 0, slots := 0, locals := 80 * (5) } s m args below meth c G b 8 (MQ below (zQ G b FQ) args s 0 0 (fun q : Nat => b ≤ q)) 0 0 82 [some (.ref (P)), some (.int x1_82), some (.int x2_82), some (.int x3_82), some (.int x4_82), some (.int x5_82), some (.int x6_82), x7_82] [] (L, M_82, N) := by
    intro u
    induction u with
    | zero => intro x1_82 x2_82 x3_82 x4_82 x5_82 x6_82 x7_82 M_82 h; cases (show none = some r from h)
    | succ u_82 ih_82 =>
      have J_148 : ∀ (x1_148 : Int32) (x2_148 : Int32) (x3_148 : Int32) (x4_148 : Int32) (x5_148 : Int32) (x6_148 : Int32) (x7_148 : Int32) (M_148 : zMt), D_X7_next_148 P (D_X7_next_82 P u_82) x2_148 x4_148 x5_148 x6_148 M_148 = some r → Zw p l e { frames := 5, cells := 0, slots := 0, locals := 80 * (5) } s m args below meth c G b 8 (MQ below (zQ G b FQ) args s 0 0 (fun q : Nat => b ≤ q)) 0 0 148 [some (.ref (P)), some (.int x1_148), some (.int x2_148), some (.int x3_148), some (.int x4_148), some (.int x5_148), some (.int x6_148), some (.int x7_148)] [] (L, M_148, N) := by
        intro x1_148 x2_148 x3_148 x4_148 x5_148 x6_148 x7_148 M_148 h
        unfold D_X7_next_148 at h
        refine a_iinc (v := x6_148 + 1) X dX7_next_148 (by decide) rfl zi_1 ?_
        refine a_goto (tgt := 82) X dX7_next_151 (by decide) ?_
        exact Zw.to2 (ih_82 _ _ _ _ _ _ _ _ h) rfl rfl rfl
      intro x1_82 x2_82 x3_82 x4_82 x5_82 x6_82 x7_82 M_82 h
      rw [D_X7_next_82] at h
      refine a_iload X dX7_next_82 rfl ?_
      refine a_aload_n X dX7_next_84 rfl ?_
      refine a_getr X lf7_40 (by first | exact p_o | assumption) rfl (by omega) dX7_next_85 ?_
      refine a_geti X lf7_140 (by first | exact p_pool_o | assumption) rfl dX7_next_88 ?_
      refine a_icmp_ge (tgt := 154) X dX7_next_91 (by decide) (fun h_91 => ?_) (fun h_91 => ?_)
      · replace h := (if_pos h_91).symm.trans h
        refine a_aload_n X dX7_next_154 rfl ?_
        refine a_iconst (v := 5) X dX7_next_155 (by decide) ?_
        obtain ⟨e_156, f_156, h⟩ := zBx h
        refine a_callVv X dX7_next_156 miX7_refuse lm7_102 (t_X7_refuse (by first | exact hP | assumption) f_156) (by first | exact p_o | assumption) rfl rfl rfl (Nat.le_of_ble_eq_true rfl) ⟨by decide, by decide, by decide, by decide⟩ ?_
        refine a_iret X hr dX7_next_159 ⟨by decide, by decide⟩ ?_
        subst hF
        rw [← Option.some.inj h]
        exact ⟨rfl, rfl⟩
      · replace h := (if_neg h_91).symm.trans h
        refine a_aload_n X dX7_next_94 rfl ?_
        refine a_getr X lf7_47 (by first | exact p_o | assumption) rfl (by omega) dX7_next_95 ?_
        refine a_getr X lf7_244 (by first | exact p_result_o | assumption) rfl (by omega) dX7_next_98 ?_
        refine a_iload X dX7_next_101 rfl ?_
        refine a_callSv X dX7_next_103 miX7_cell lm7_175 (c_cell (by first | exact p_result_line | assumption) (by decide)) rfl rfl (Nat.le_of_ble_eq_true rfl) ⟨by decide, by decide, by decide, by decide⟩ ?_
        refine a_istore X dX7_next_106 (by decide) ?_
        refine a_aload_n X dX7_next_108 rfl ?_
        refine a_getr X lf7_47 (by first | exact p_o | assumption) rfl (by omega) dX7_next_109 ?_
        refine a_aload_n X dX7_next_112 rfl ?_
        refine a_getr X lf7_40 (by first | exact p_o | assumption) rfl (by omega) dX7_next_113 ?_
        refine a_iload X dX7_next_116 rfl ?_
        refine a_iload_n X dX7_next_118 rfl ?_
        obtain ⟨e_119, f_119, h⟩ := zBx h
        refine a_callVx X dX7_next_119 miX5_isWaiting lm7_269 (t_X5_isWaiting (by first | exact p_result | assumption) (by first | exact p_pool | assumption) f_119) (by first | exact p_result_o | assumption) rfl rfl rfl (Nat.le_of_ble_eq_true rfl) ⟨by decide, by decide, by decide, by decide⟩ (fun r_119 S_119 q_119 => ?_)
        obtain ⟨rfl, rfl, b_119⟩ := q_119
        refine a_if_eq (tgt := 148) X dX7_next_122 (by decide) (fun h_122 => ?_) (fun h_122 => ?_)
        · replace h := (if_pos h_122).symm.trans h
          exact Zw.to2 (J_148 _ _ _ _ _ _ _ _ h) rfl rfl rfl
        · replace h := (if_neg h_122).symm.trans h
          refine a_aload_n X dX7_next_125 rfl ?_
          refine a_getr X lf7_40 (by first | exact p_o | assumption) rfl (by omega) dX7_next_126 ?_
          refine a_iload X dX7_next_129 rfl ?_
          refine a_iload X dX7_next_131 rfl ?_
          refine a_iload X dX7_next_133 rfl ?_
          obtain ⟨e_135, f_135, h⟩ := zBx h
          refine a_callVx X dX7_next_135 miX2_fits lm7_273 (t_X2_fits (by first | exact p_pool | assumption) f_135) (by first | exact p_pool_o | assumption) rfl rfl rfl (Nat.le_of_ble_eq_true rfl) ⟨by decide, by decide, by decide, by decide⟩ (fun r_135 S_135 q_135 => ?_)
          obtain ⟨rfl, rfl, b_135⟩ := q_135
          refine a_if_eq (tgt := 148) X dX7_next_138 (by decide) (fun h_138 => ?_) (fun h_138 => ?_)
          · replace h := (if_pos h_138).symm.trans h
            exact Zw.to2 (J_148 _ _ _ _ _ _ _ _ h) rfl rfl rfl
          · replace h := (if_neg h_138).symm.trans h
            refine a_aload_n X dX7_next_141 rfl ?_
            refine a_iload X dX7_next_142 rfl ?_
            obtain ⟨e_144, f_144, h⟩ := zBx h
            refine a_callVv X dX7_next_144 miX7_answer lm7_134 (t_X7_answer (by first | exact hP | assumption) f_144) (by first | exact p_o | assumption) rfl rfl rfl (Nat.le_of_ble_eq_true rfl) ⟨by decide, by decide, by decide, by decide⟩ ?_
            refine a_iret X hr dX7_next_147 ⟨by decide, by decide⟩ ?_
            subst hF
            rw [← Option.some.inj h]
            exact ⟨rfl, rfl⟩
  have H_82 : ∀ (x1_82 : Int32) (x2_82 : Int32) (x3_82 : Int32) (x4_82 : Int32) (x5_82 : Int32) (x6_82 : Int32) (x7_82 : Option Value) (M_82 : zMt), D_X7_next_82 P zFu x2_82 x4_82 x5_82 x6_82 M_82 = some r → Zw p l e { frames := 5, cells := 0, slots := 0, locals := 80 * (5) } s m args below meth c G b 8 (MQ below (zQ G b FQ) args s 0 0 (fun q : Nat => b ≤ q)) 0 0 82 [some (.ref (P)), some (.int x1_82), some (.int x2_82), some (.int x3_82), some (.int x4_82), some (.int x5_82), some (.int x6_82), x7_82] [] (L, M_82, N) := L_82 zFu
  have J_17 : ∀ (x1_17 : Int32) (x2_17 : Int32) (x3_17 : Int32) (x4_17 : Option Value) (x5_17 : Option Value) (x6_17 : Option Value) (x7_17 : Option Value) (M_17 : zMt), D_X7_next_17 P M_17 = some r → Zw p l e { frames := 5, cells := 0, slots := 0, locals := 80 * (5) } s m args below meth c G b 8 (MQ below (zQ G b FQ) args s 0 0 (fun q : Nat => b ≤ q)) 0 0 17 [some (.ref (P)), some (.int x1_17), some (.int x2_17), some (.int x3_17), x4_17, x5_17, x6_17, x7_17] [] (L, M_17, N) := by
    intro x1_17 x2_17 x3_17 x4_17 x5_17 x6_17 x7_17 M_17 h
    unfold D_X7_next_17 at h
    refine a_aload_n X dX7_next_17 rfl ?_
    refine a_iconst (v := 1) X dX7_next_18 (by decide) ?_
    obtain ⟨e_19, f_19, h⟩ := zBx h
    refine a_callVv X dX7_next_19 miX7_refuse lm7_102 (t_X7_refuse (by first | exact hP | assumption) f_19) (by first | exact p_o | assumption) rfl rfl rfl (Nat.le_of_ble_eq_true rfl) ⟨by decide, by decide, by decide, by decide⟩ ?_
    refine a_iret X hr dX7_next_22 ⟨by decide, by decide⟩ ?_
    subst hF
    rw [← Option.some.inj h]
    exact ⟨rfl, rfl⟩
  unfold D_X7_next at h
  refine a_iload_n X dX7_next_0 rfl ?_
  obtain ⟨e_1, f_1, h⟩ := zBx h
  refine a_callSx X dX7_next_1 miX7_isSeed lm7_237 (t_X7_isSeed f_1) rfl rfl (Nat.le_of_ble_eq_true rfl) ⟨by decide, by decide, by decide, by decide⟩ (fun r_1 S_1 q_1 => ?_)
  obtain ⟨rfl, rfl, b_1⟩ := q_1
  refine a_if_eq (tgt := 17) X dX7_next_4 (by decide) (fun h_4 => ?_) (fun h_4 => ?_)
  · replace h := (if_pos h_4).symm.trans h
    exact Zw.to2 (J_17 _ _ _ _ _ _ _ _ h) rfl rfl rfl
  · replace h := (if_neg h_4).symm.trans h
    refine a_iload_n X dX7_next_7 rfl ?_
    refine a_if_lt (tgt := 17) X dX7_next_8 (by decide) (fun h_8 => ?_) (fun h_8 => ?_)
    · replace h := (if_pos h_8).symm.trans h
      exact Zw.to2 (J_17 _ _ _ _ _ _ _ _ h) rfl rfl rfl
    · replace h := (if_neg h_8).symm.trans h
      refine a_iload_n X dX7_next_11 rfl ?_
      refine a_bipush (v := 20) X dX7_next_12 (by decide) ?_
      refine a_icmp_le (tgt := 23) X dX7_next_14 (by decide) (fun h_14 => ?_) (fun h_14 => ?_)
      · replace h := (if_pos h_14).symm.trans h
        refine a_aload_n X dX7_next_23 rfl ?_
        refine a_iload_n X dX7_next_24 rfl ?_
        obtain ⟨e_25, f_25, h⟩ := zBx h
        refine a_callVx X dX7_next_25 miX7_isUnit lm7_188 (t_X7_isUnit (by first | exact hP | assumption) f_25) (by first | exact p_o | assumption) rfl rfl rfl (Nat.le_of_ble_eq_true rfl) ⟨by decide, by decide, by decide, by decide⟩ (fun r_25 S_25 q_25 => ?_)
        obtain ⟨rfl, rfl, b_25⟩ := q_25
        refine a_if_ne (tgt := 37) X dX7_next_28 (by decide) (fun h_28 => ?_) (fun h_28 => ?_)
        · replace h := (if_neg h_28).symm.trans h
          refine a_aload_n X dX7_next_37 rfl ?_
          refine a_getr X lf7_47 (by first | exact p_o | assumption) rfl (by omega) dX7_next_38 ?_
          refine a_aload_n X dX7_next_41 rfl ?_
          refine a_getr X lf7_40 (by first | exact p_o | assumption) rfl (by omega) dX7_next_42 ?_
          refine a_iload_n X dX7_next_45 rfl ?_
          obtain ⟨e_46, f_46, h⟩ := zBx h
          refine a_callVu X dX7_next_46 miX5_bySeed lm7_247 (t_X5_bySeed (by first | exact p_result | assumption) (by first | exact p_pool | assumption) f_46) (by first | exact p_result_o | assumption) rfl rfl rfl (Nat.le_of_ble_eq_true rfl) ⟨by decide, by decide, by decide, by decide⟩ ?_
          refine a_aload_n X dX7_next_49 rfl ?_
          refine a_getr X lf7_47 (by first | exact p_o | assumption) rfl (by omega) dX7_next_50 ?_
          refine a_getr X lf7_256 (by first | exact p_result_o | assumption) rfl (by omega) dX7_next_53 ?_
          refine a_iload_n X dX7_next_56 rfl ?_
          refine a_callSv X dX7_next_57 miX7_cell lm7_175 (c_cell (by first | exact p_result_leftTags | assumption) (by decide)) rfl rfl (Nat.le_of_ble_eq_true rfl) ⟨by decide, by decide, by decide, by decide⟩ ?_
          refine a_iload_n X dX7_next_60 rfl ?_
          refine a_iadd X dX7_next_61 ?_
          refine a_istore X dX7_next_62 (by decide) ?_
          refine a_aload_n X dX7_next_64 rfl ?_
          refine a_getr X lf7_47 (by first | exact p_o | assumption) rfl (by omega) dX7_next_65 ?_
          refine a_getr X lf7_259 (by first | exact p_result_o | assumption) rfl (by omega) dX7_next_68 ?_
          refine a_iload_n X dX7_next_71 rfl ?_
          refine a_callSv X dX7_next_72 miX7_cell lm7_175 (c_cell (by first | exact p_result_leftGuests | assumption) (by decide)) rfl rfl (Nat.le_of_ble_eq_true rfl) ⟨by decide, by decide, by decide, by decide⟩ ?_
          refine a_iload_n X dX7_next_75 rfl ?_
          refine a_iadd X dX7_next_76 ?_
          refine a_istore X dX7_next_77 (by decide) ?_
          refine a_iconst (v := 0) X dX7_next_79 (by decide) ?_
          refine a_istore X dX7_next_80 (by decide) ?_
          exact Zw.to2 (H_82 _ _ _ _ _ _ _ _ h) rfl rfl rfl
        · replace h := (if_pos h_28).symm.trans h
          refine a_aload_n X dX7_next_31 rfl ?_
          refine a_iconst (v := 2) X dX7_next_32 (by decide) ?_
          obtain ⟨e_33, f_33, h⟩ := zBx h
          refine a_callVv X dX7_next_33 miX7_refuse lm7_102 (t_X7_refuse (by first | exact hP | assumption) f_33) (by first | exact p_o | assumption) rfl rfl rfl (Nat.le_of_ble_eq_true rfl) ⟨by decide, by decide, by decide, by decide⟩ ?_
          refine a_iret X hr dX7_next_36 ⟨by decide, by decide⟩ ?_
          subst hF
          rw [← Option.some.inj h]
          exact ⟨rfl, rfl⟩
      · replace h := (if_neg h_14).symm.trans h
        exact Zw.to2 (J_17 _ _ _ _ _ _ _ _ h) rfl rfl rfl
