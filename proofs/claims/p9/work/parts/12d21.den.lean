noncomputable def D_X8_draw_24 (P : Nat) : Nat → Int32 → zMt → zNt → Option (Int32 × zMt × zNt)
  | 0, _, _, _ => none
  | n + 1, x2_24, M_24, N_24 =>
    if (M_24 P 8) ≤ x2_24 then
      zI (71 : Int32) 82 <|
      zI (71 : Int32) 82 <|
      zLt (zu M_24 (P + 1) (71 : Int32).toNatClampNeg ((M_24 (P + 1) (71 : Int32).toNatClampNeg) + (1 : Int32))) fun M_62 =>
      zB (D_X8_givenTags P M_62) fun e_65 =>
      zB (D_X8_gives P e_65 M_62) fun e_68 =>
      some (e_68.1, e_68.2, N_24)
    else
      zB (D_X8_unitNow P M_24 x2_24) fun e_42 =>
      zI ((72 : Int32) + x2_24) 82 <|
      zLt (zu M_24 (P + 1) ((72 : Int32) + x2_24).toNatClampNeg e_42) fun M_45 =>
      (D_X8_draw_24 P n) (x2_24 + 1) M_45 N_24
noncomputable def D_X8_draw (P : Nat) (v0 : Int32) (M : zMt) (N : zNt) : Option (Int32 × zMt × zNt) :=
  zB (D_X8_isSeed v0) fun e_1 =>
  if e_1 = 0 then
    zB (D_X8_refuse P (1 : Int32) M) fun e_9 =>
    some (e_9.1, e_9.2, N)
  else
    zB (D_X8_keeps P M) fun e_14 =>
    zB (D_X8_goesYear P v0 e_14 N) fun e_19 =>
    D_X8_draw_24 P zFu (0 : Int32) e_19.1 e_19.2
set_option maxRecDepth 100000 in
set_option maxHeartbeats 4000000 in
theorem t_X8_draw {l : Launch} {G : zG} {b : Nat} {L : List zC} {M : zMt} {N : zNt} {P : Nat} {v0 : Int32} (hP : LX8 L P) {r : Int32 × zMt × zNt} (h : D_X8_draw P v0 M N = some r) : zM l G b yX8_draw cX8_draw 3 (some .int) 6 0 0 [.ref P, .int v0] (L, M, N) (fun r2 z => r2 = some (.int r.1) ∧ z = (L, r.2.1, r.2.2)) := by
  refine zM.of miX8_draw (Nat.le_of_ble_eq_true rfl) ?_
  intro p e s m args below meth c X hr hname
  generalize hF : ((fun r2 z => r2 = some (.int r.1) ∧ z = (L, r.2.1, r.2.2)) : Option Value → zS → Prop) = FQ
  change Zw p l e { frames := 6, cells := 0, slots := 0, locals := 80 * (6) } s m args below meth c G b 3 (MQ below (zQ G b FQ) args s 0 0 (fun q : Nat => b ≤ q)) 0 0 0 [some (.ref P), some (.int v0), none] [] (L, M, N)
  obtain ⟨p_lt, p_o, p_s, p_read, p_aside, p_kept, p_guest, p_readGuest, p_tape, p_unitName, p_hunterName, p_partyName, p_bits, p_partyOf, p_choiceAt, p_sizes, p_guestMany, p_pointsOf, p_ticketsOf, p_ord, p_given, p_roundOf, p_tags, p_guestTags, p_places, p_sumAt, p_sumFirst, p_sumRound, p_sumBoth, p_sumTags, p_isEnd, p_newPoints, p_inRow, p_out⟩ := id hP
  have L_24 : ∀ u : Nat, ∀ (x1_24 : Int32) (x2_24 : Int32) (M_24 : zMt) (N_24 : zNt), D_X8_draw_24 P u x2_24 M_24 N_24 = some r → Zw p l e { frames := 6, cells := 0, slots := 0, locals := 80 * (6) } s m args below meth c G b 3 (MQ below (zQ G b FQ) args s 0 0 (fun q : Nat => b ≤ q)) 0 0 24 [some (.ref (P)), some (.int x1_24), some (.int x2_24)] [] (L, M_24, N_24) := by
    intro u
    induction u with
    | zero => intro x1_24 x2_24 M_24 N_24 h; cases (show none = some r from h)
    | succ u_24 ih_24 =>
      intro x1_24 x2_24 M_24 N_24 h
      rw [D_X8_draw_24] at h
      refine a_iload_n X dX8_draw_24 rfl ?_
      refine a_aload_n X dX8_draw_25 rfl ?_
      refine a_geti X lf8_132 (by assumption) rfl dX8_draw_26 ?_
      refine a_icmp_ge (tgt := 52) X dX8_draw_29 (by decide) (fun h_29 => ?_) (fun h_29 => ?_)
      · replace h := (if_pos h_29).symm.trans h
        refine a_aload_n X dX8_draw_52 rfl ?_
        refine a_getr X lf8_7 (by assumption) rfl (by omega) dX8_draw_53 ?_
        refine a_bipush (v := 71) X dX8_draw_56 (by decide) ?_
        refine a_dup2 X dX8_draw_58 rfl rfl ?_
        obtain ⟨g_59, h⟩ := zIx h
        refine a_iaload X (by assumption) g_59 dX8_draw_59 ?_
        refine a_iconst (v := 1) X dX8_draw_60 (by decide) ?_
        refine a_iadd X dX8_draw_61 ?_
        obtain ⟨g_62, h⟩ := zIx h
        obtain ⟨M_62, f_62, h⟩ := zLtx h
        refine d_iastore X (by assumption) g_62 dX8_draw_62 f_62 ?_
        refine a_aload_n X dX8_draw_63 rfl ?_
        refine a_aload_n X dX8_draw_64 rfl ?_
        obtain ⟨e_65, f_65, h⟩ := zBx h
        refine a_callVv X dX8_draw_65 miX8_givenTags lm8_421 (t_X8_givenTags (by assumption) f_65) (by assumption) rfl rfl rfl (Nat.le_of_ble_eq_true rfl) ⟨by decide, by decide, by decide, by decide⟩ ?_
        obtain ⟨e_68, f_68, h⟩ := zBx h
        refine a_callVv X dX8_draw_68 miX8_gives lm8_272 (t_X8_gives (by assumption) f_68) (by assumption) rfl rfl rfl (Nat.le_of_ble_eq_true rfl) ⟨by decide, by decide, by decide, by decide⟩ ?_
        refine a_iret X hr dX8_draw_71 ⟨by decide, by decide⟩ ?_
        subst hF
        rw [← Option.some.inj h]
        exact ⟨rfl, rfl⟩
      · replace h := (if_neg h_29).symm.trans h
        refine a_aload_n X dX8_draw_32 rfl ?_
        refine a_getr X lf8_7 (by assumption) rfl (by omega) dX8_draw_33 ?_
        refine a_bipush (v := 72) X dX8_draw_36 (by decide) ?_
        refine a_iload_n X dX8_draw_38 rfl ?_
        refine a_iadd X dX8_draw_39 ?_
        refine a_aload_n X dX8_draw_40 rfl ?_
        refine a_iload_n X dX8_draw_41 rfl ?_
        obtain ⟨e_42, f_42, h⟩ := zBx h
        refine a_callVv X dX8_draw_42 miX8_unitNow lm8_477 (t_X8_unitNow (by assumption) f_42) (by assumption) rfl rfl rfl (Nat.le_of_ble_eq_true rfl) ⟨by decide, by decide, by decide, by decide⟩ ?_
        obtain ⟨g_45, h⟩ := zIx h
        obtain ⟨M_45, f_45, h⟩ := zLtx h
        refine d_iastore X (by assumption) g_45 dX8_draw_45 f_45 ?_
        refine a_iinc (v := x2_24 + 1) X dX8_draw_46 (by decide) rfl zi_1 ?_
        refine a_goto (tgt := 24) X dX8_draw_49 (by decide) ?_
        exact Zw.to2 (ih_24 _ _ _ _ h) rfl rfl rfl
  have H_24 : ∀ (x1_24 : Int32) (x2_24 : Int32) (M_24 : zMt) (N_24 : zNt), D_X8_draw_24 P zFu x2_24 M_24 N_24 = some r → Zw p l e { frames := 6, cells := 0, slots := 0, locals := 80 * (6) } s m args below meth c G b 3 (MQ below (zQ G b FQ) args s 0 0 (fun q : Nat => b ≤ q)) 0 0 24 [some (.ref (P)), some (.int x1_24), some (.int x2_24)] [] (L, M_24, N_24) := L_24 zFu
  unfold D_X8_draw at h
  refine a_iload_n X dX8_draw_0 rfl ?_
  obtain ⟨e_1, f_1, h⟩ := zBx h
  refine a_callSx X dX8_draw_1 miX8_isSeed lm8_358 (t_X8_isSeed f_1) rfl rfl (Nat.le_of_ble_eq_true rfl) ⟨by decide, by decide, by decide, by decide⟩ (fun r_1 S_1 q_1 => ?_)
  obtain ⟨rfl, rfl, b_1⟩ := q_1
  refine a_if_ne (tgt := 13) X dX8_draw_4 (by decide) (fun h_4 => ?_) (fun h_4 => ?_)
  · replace h := (if_neg h_4).symm.trans h
    refine a_aload_n X dX8_draw_13 rfl ?_
    obtain ⟨e_14, f_14, h⟩ := zBx h
    refine a_callVu X dX8_draw_14 miX8_keeps lm8_480 (t_X8_keeps (by assumption) f_14) (by assumption) rfl rfl rfl (Nat.le_of_ble_eq_true rfl) ⟨by decide, by decide, by decide, by decide⟩ ?_
    refine a_aload_n X dX8_draw_17 rfl ?_
    refine a_iload_n X dX8_draw_18 rfl ?_
    obtain ⟨e_19, f_19, h⟩ := zBx h
    refine a_callVu X dX8_draw_19 miX8_goesYear lm8_474 (t_X8_goesYear (by assumption) f_19) (by assumption) rfl rfl rfl (Nat.le_of_ble_eq_true rfl) ⟨by decide, by decide, by decide, by decide⟩ ?_
    refine a_iconst (v := 0) X dX8_draw_22 (by decide) ?_
    refine a_istore_n X dX8_draw_23 (by decide) ?_
    exact Zw.to2 (H_24 _ _ _ _ h) rfl rfl rfl
  · replace h := (if_pos h_4).symm.trans h
    refine a_aload_n X dX8_draw_7 rfl ?_
    refine a_iconst (v := 1) X dX8_draw_8 (by decide) ?_
    obtain ⟨e_9, f_9, h⟩ := zBx h
    refine a_callVv X dX8_draw_9 miX8_refuse lm8_263 (t_X8_refuse (by assumption) f_9) (by assumption) rfl rfl rfl (Nat.le_of_ble_eq_true rfl) ⟨by decide, by decide, by decide, by decide⟩ ?_
    refine a_iret X hr dX8_draw_12 ⟨by decide, by decide⟩ ?_
    subst hF
    rw [← Option.some.inj h]
    exact ⟨rfl, rfl⟩
noncomputable def D_X8_becomes (P : Nat) (v0 : Int32) (v1 : Int32) (M : zMt) : Option (Int32 × zMt) :=
  zI v0 82 <|
  if (M (P + 1) v0.toNatClampNeg) = v1 then
    zB (D_X8_refuse P (4 : Int32) M) fun e_12 =>
    some (e_12.1, e_12.2)
  else
    zB (D_X8_keeps P M) fun e_17 =>
    zI v0 82 <|
    zI v0 82 <|
    zLt (zu e_17 (P + 1) v0.toNatClampNeg v1) fun M_33 =>
    zB (D_X8_gives P (e_17 (P + 1) v0.toNatClampNeg) M_33) fun e_36 =>
    some (e_36.1, e_36.2)
set_option maxRecDepth 100000 in
set_option maxHeartbeats 4000000 in
theorem t_X8_becomes {l : Launch} {G : zG} {b : Nat} {L : List zC} {M : zMt} {N : zNt} {P : Nat} {v0 : Int32} {v1 : Int32} (hP : LX8 L P) {r : Int32 × zMt} (h : D_X8_becomes P v0 v1 M = some r) : zM l G b yX8_becomes cX8_becomes 4 (some .int) 1 0 0 [.ref P, .int v0, .int v1] (L, M, N) (fun r2 z => r2 = some (.int r.1) ∧ z = (L, r.2, N)) := by
  refine zM.of miX8_becomes (Nat.le_of_ble_eq_true rfl) ?_
  intro p e s m args below meth c X hr hname
  generalize hF : ((fun r2 z => r2 = some (.int r.1) ∧ z = (L, r.2, N)) : Option Value → zS → Prop) = FQ
  change Zw p l e { frames := 1, cells := 0, slots := 0, locals := 80 * (1) } s m args below meth c G b 4 (MQ below (zQ G b FQ) args s 0 0 (fun q : Nat => b ≤ q)) 0 0 0 [some (.ref P), some (.int v0), some (.int v1), none] [] (L, M, N)
  obtain ⟨p_lt, p_o, p_s, p_read, p_aside, p_kept, p_guest, p_readGuest, p_tape, p_unitName, p_hunterName, p_partyName, p_bits, p_partyOf, p_choiceAt, p_sizes, p_guestMany, p_pointsOf, p_ticketsOf, p_ord, p_given, p_roundOf, p_tags, p_guestTags, p_places, p_sumAt, p_sumFirst, p_sumRound, p_sumBoth, p_sumTags, p_isEnd, p_newPoints, p_inRow, p_out⟩ := id hP
  unfold D_X8_becomes at h
  refine a_aload_n X dX8_becomes_0 rfl ?_
  refine a_getr X lf8_7 (by assumption) rfl (by omega) dX8_becomes_1 ?_
  refine a_iload_n X dX8_becomes_4 rfl ?_
  obtain ⟨g_5, h⟩ := zIx h
  refine a_iaload X (by assumption) g_5 dX8_becomes_5 ?_
  refine a_iload_n X dX8_becomes_6 rfl ?_
  refine a_icmp_ne (tgt := 16) X dX8_becomes_7 (by decide) (fun h_7 => ?_) (fun h_7 => ?_)
  · replace h := (if_neg h_7).symm.trans h
    refine a_aload_n X dX8_becomes_16 rfl ?_
    obtain ⟨e_17, f_17, h⟩ := zBx h
    refine a_callVu X dX8_becomes_17 miX8_keeps lm8_480 (t_X8_keeps (by assumption) f_17) (by assumption) rfl rfl rfl (Nat.le_of_ble_eq_true rfl) ⟨by decide, by decide, by decide, by decide⟩ ?_
    refine a_aload_n X dX8_becomes_20 rfl ?_
    refine a_getr X lf8_7 (by assumption) rfl (by omega) dX8_becomes_21 ?_
    refine a_iload_n X dX8_becomes_24 rfl ?_
    obtain ⟨g_25, h⟩ := zIx h
    refine a_iaload X (by assumption) g_25 dX8_becomes_25 ?_
    refine a_istore_n X dX8_becomes_26 (by decide) ?_
    refine a_aload_n X dX8_becomes_27 rfl ?_
    refine a_getr X lf8_7 (by assumption) rfl (by omega) dX8_becomes_28 ?_
    refine a_iload_n X dX8_becomes_31 rfl ?_
    refine a_iload_n X dX8_becomes_32 rfl ?_
    obtain ⟨g_33, h⟩ := zIx h
    obtain ⟨M_33, f_33, h⟩ := zLtx h
    refine d_iastore X (by assumption) g_33 dX8_becomes_33 f_33 ?_
    refine a_aload_n X dX8_becomes_34 rfl ?_
    refine a_iload_n X dX8_becomes_35 rfl ?_
    obtain ⟨e_36, f_36, h⟩ := zBx h
    refine a_callVv X dX8_becomes_36 miX8_gives lm8_272 (t_X8_gives (by assumption) f_36) (by assumption) rfl rfl rfl (Nat.le_of_ble_eq_true rfl) ⟨by decide, by decide, by decide, by decide⟩ ?_
    refine a_iret X hr dX8_becomes_39 ⟨by decide, by decide⟩ ?_
    subst hF
    rw [← Option.some.inj h]
    exact ⟨rfl, rfl⟩
  · replace h := (if_pos h_7).symm.trans h
    refine a_aload_n X dX8_becomes_10 rfl ?_
    refine a_iconst (v := 4) X dX8_becomes_11 (by decide) ?_
    obtain ⟨e_12, f_12, h⟩ := zBx h
    refine a_callVv X dX8_becomes_12 miX8_refuse lm8_263 (t_X8_refuse (by assumption) f_12) (by assumption) rfl rfl rfl (Nat.le_of_ble_eq_true rfl) ⟨by decide, by decide, by decide, by decide⟩ ?_
    refine a_iret X hr dX8_becomes_15 ⟨by decide, by decide⟩ ?_
    subst hF
    rw [← Option.some.inj h]
    exact ⟨rfl, rfl⟩
noncomputable def D_X8_points_42 (P : Nat) (y0_42 : Int32) (M_42 : zMt) : Option (Int32 × zMt) :=
  some (y0_42, M_42)
noncomputable def D_X8_points (P : Nat) (v0 : Int32) (v1 : Int32) (M : zMt) : Option (Int32 × zMt) :=
  zB (D_X8_isFrom (Int32.toInt64 v1) (0 : Int64) (20 : Int64)) fun e_6 =>
  if e_6 = 0 then
    zB (D_X8_refuse P (1 : Int32) M) fun e_14 =>
    some (e_14.1, e_14.2)
  else
    zB (D_X8_isHunter P M v0) fun e_20 =>
    if e_20 = 0 then
      zB (D_X8_refuse P (2 : Int32) M) fun e_39 =>
      D_X8_points_42 P e_39.1 e_39.2
    else
      zB (D_X8_becomes P ((0 : Int32) + v0) v1 M) fun e_31 =>
      D_X8_points_42 P e_31.1 e_31.2
set_option maxRecDepth 100000 in
set_option maxHeartbeats 4000000 in
theorem t_X8_points {l : Launch} {G : zG} {b : Nat} {L : List zC} {M : zMt} {N : zNt} {P : Nat} {v0 : Int32} {v1 : Int32} (hP : LX8 L P) {r : Int32 × zMt} (h : D_X8_points P v0 v1 M = some r) : zM l G b yX8_points cX8_points 3 (some .int) 2 0 0 [.ref P, .int v0, .int v1] (L, M, N) (fun r2 z => r2 = some (.int r.1) ∧ z = (L, r.2, N)) := by
  refine zM.of miX8_points (Nat.le_of_ble_eq_true rfl) ?_
  intro p e s m args below meth c X hr hname
  generalize hF : ((fun r2 z => r2 = some (.int r.1) ∧ z = (L, r.2, N)) : Option Value → zS → Prop) = FQ
  change Zw p l e { frames := 2, cells := 0, slots := 0, locals := 80 * (2) } s m args below meth c G b 3 (MQ below (zQ G b FQ) args s 0 0 (fun q : Nat => b ≤ q)) 0 0 0 [some (.ref P), some (.int v0), some (.int v1)] [] (L, M, N)
  obtain ⟨p_lt, p_o, p_s, p_read, p_aside, p_kept, p_guest, p_readGuest, p_tape, p_unitName, p_hunterName, p_partyName, p_bits, p_partyOf, p_choiceAt, p_sizes, p_guestMany, p_pointsOf, p_ticketsOf, p_ord, p_given, p_roundOf, p_tags, p_guestTags, p_places, p_sumAt, p_sumFirst, p_sumRound, p_sumBoth, p_sumTags, p_isEnd, p_newPoints, p_inRow, p_out⟩ := id hP
  have J_42 : ∀ (x1_42 : Int32) (x2_42 : Int32) (y0_42 : Int32) (M_42 : zMt), D_X8_points_42 P y0_42 M_42 = some r → Zw p l e { frames := 2, cells := 0, slots := 0, locals := 80 * (2) } s m args below meth c G b 3 (MQ below (zQ G b FQ) args s 0 0 (fun q : Nat => b ≤ q)) 0 0 42 [some (.ref (P)), some (.int x1_42), some (.int x2_42)] [.int y0_42] (L, M_42, N) := by
    intro x1_42 x2_42 y0_42 M_42 h
    unfold D_X8_points_42 at h
    refine a_iret X hr dX8_points_42 ⟨by decide, by decide⟩ ?_
    subst hF
    rw [← Option.some.inj h]
    exact ⟨rfl, rfl⟩
  unfold D_X8_points at h
  refine a_iload_n X dX8_points_0 rfl ?_
  refine a_i2l X dX8_points_1 ?_
  refine a_lconst (v := 0) X dX8_points_2 (by decide) ?_
  refine a_ldc2 X dX8_points_3 lk8_377 ?_
  obtain ⟨e_6, f_6, h⟩ := zBx h
  refine a_callSx X dX8_points_6 miX8_isFrom lm8_128 (t_X8_isFrom f_6) rfl rfl (Nat.le_of_ble_eq_true rfl) ⟨by decide, by decide, by decide, by decide⟩ (fun r_6 S_6 q_6 => ?_)
  obtain ⟨rfl, rfl, b_6⟩ := q_6
  refine a_if_ne (tgt := 18) X dX8_points_9 (by decide) (fun h_9 => ?_) (fun h_9 => ?_)
  · replace h := (if_neg h_9).symm.trans h
    refine a_aload_n X dX8_points_18 rfl ?_
    refine a_iload_n X dX8_points_19 rfl ?_
    obtain ⟨e_20, f_20, h⟩ := zBx h
    refine a_callVx X dX8_points_20 miX8_isHunter lm8_293 (t_X8_isHunter (by assumption) f_20) (by assumption) rfl rfl rfl (Nat.le_of_ble_eq_true rfl) ⟨by decide, by decide, by decide, by decide⟩ (fun r_20 S_20 q_20 => ?_)
    obtain ⟨rfl, rfl, b_20⟩ := q_20
    refine a_if_eq (tgt := 37) X dX8_points_23 (by decide) (fun h_23 => ?_) (fun h_23 => ?_)
    · replace h := (if_pos h_23).symm.trans h
      refine a_aload_n X dX8_points_37 rfl ?_
      refine a_iconst (v := 2) X dX8_points_38 (by decide) ?_
      obtain ⟨e_39, f_39, h⟩ := zBx h
      refine a_callVv X dX8_points_39 miX8_refuse lm8_263 (t_X8_refuse (by assumption) f_39) (by assumption) rfl rfl rfl (Nat.le_of_ble_eq_true rfl) ⟨by decide, by decide, by decide, by decide⟩ ?_
      exact Zw.to2 (J_42 _ _ _ _ h) rfl rfl rfl
    · replace h := (if_neg h_23).symm.trans h
      refine a_aload_n X dX8_points_26 rfl ?_
      refine a_iconst (v := 0) X dX8_points_27 (by decide) ?_
      refine a_iload_n X dX8_points_28 rfl ?_
      refine a_iadd X dX8_points_29 ?_
      refine a_iload_n X dX8_points_30 rfl ?_
      obtain ⟨e_31, f_31, h⟩ := zBx h
      refine a_callVv X dX8_points_31 miX8_becomes lm8_483 (t_X8_becomes (by assumption) f_31) (by assumption) rfl rfl rfl (Nat.le_of_ble_eq_true rfl) ⟨by decide, by decide, by decide, by decide⟩ ?_
      refine a_goto (tgt := 42) X dX8_points_34 (by decide) ?_
      exact Zw.to2 (J_42 _ _ _ _ h) rfl rfl rfl
  · replace h := (if_pos h_9).symm.trans h
    refine a_aload_n X dX8_points_12 rfl ?_
    refine a_iconst (v := 1) X dX8_points_13 (by decide) ?_
    obtain ⟨e_14, f_14, h⟩ := zBx h
    refine a_callVv X dX8_points_14 miX8_refuse lm8_263 (t_X8_refuse (by assumption) f_14) (by assumption) rfl rfl rfl (Nat.le_of_ble_eq_true rfl) ⟨by decide, by decide, by decide, by decide⟩ ?_
    refine a_iret X hr dX8_points_17 ⟨by decide, by decide⟩ ?_
    subst hF
    rw [← Option.some.inj h]
    exact ⟨rfl, rfl⟩
noncomputable def D_X8_quota_43 (P : Nat) (y0_43 : Int32) (M_43 : zMt) : Option (Int32 × zMt) :=
  some (y0_43, M_43)
noncomputable def D_X8_quota (P : Nat) (v0 : Int32) (v1 : Int32) (M : zMt) : Option (Int32 × zMt) :=
  zB (D_X8_isFrom (Int32.toInt64 v1) (0 : Int64) (20 : Int64)) fun e_6 =>
  if e_6 = 0 then
    zB (D_X8_refuse P (1 : Int32) M) fun e_14 =>
    some (e_14.1, e_14.2)
  else
    zB (D_X8_isUnit P M v0) fun e_20 =>
    if e_20 = 0 then
      zB (D_X8_refuse P (2 : Int32) M) fun e_40 =>
      D_X8_quota_43 P e_40.1 e_40.2
    else
      zB (D_X8_becomes P ((62 : Int32) + v0) v1 M) fun e_32 =>
      D_X8_quota_43 P e_32.1 e_32.2
set_option maxRecDepth 100000 in
set_option maxHeartbeats 4000000 in
theorem t_X8_quota {l : Launch} {G : zG} {b : Nat} {L : List zC} {M : zMt} {N : zNt} {P : Nat} {v0 : Int32} {v1 : Int32} (hP : LX8 L P) {r : Int32 × zMt} (h : D_X8_quota P v0 v1 M = some r) : zM l G b yX8_quota cX8_quota 3 (some .int) 2 0 0 [.ref P, .int v0, .int v1] (L, M, N) (fun r2 z => r2 = some (.int r.1) ∧ z = (L, r.2, N)) := by
  refine zM.of miX8_quota (Nat.le_of_ble_eq_true rfl) ?_
  intro p e s m args below meth c X hr hname
  generalize hF : ((fun r2 z => r2 = some (.int r.1) ∧ z = (L, r.2, N)) : Option Value → zS → Prop) = FQ
  change Zw p l e { frames := 2, cells := 0, slots := 0, locals := 80 * (2) } s m args below meth c G b 3 (MQ below (zQ G b FQ) args s 0 0 (fun q : Nat => b ≤ q)) 0 0 0 [some (.ref P), some (.int v0), some (.int v1)] [] (L, M, N)
  obtain ⟨p_lt, p_o, p_s, p_read, p_aside, p_kept, p_guest, p_readGuest, p_tape, p_unitName, p_hunterName, p_partyName, p_bits, p_partyOf, p_choiceAt, p_sizes, p_guestMany, p_pointsOf, p_ticketsOf, p_ord, p_given, p_roundOf, p_tags, p_guestTags, p_places, p_sumAt, p_sumFirst, p_sumRound, p_sumBoth, p_sumTags, p_isEnd, p_newPoints, p_inRow, p_out⟩ := id hP
  have J_43 : ∀ (x1_43 : Int32) (x2_43 : Int32) (y0_43 : Int32) (M_43 : zMt), D_X8_quota_43 P y0_43 M_43 = some r → Zw p l e { frames := 2, cells := 0, slots := 0, locals := 80 * (2) } s m args below meth c G b 3 (MQ below (zQ G b FQ) args s 0 0 (fun q : Nat => b ≤ q)) 0 0 43 [some (.ref (P)), some (.int x1_43), some (.int x2_43)] [.int y0_43] (L, M_43, N) := by
    intro x1_43 x2_43 y0_43 M_43 h
    unfold D_X8_quota_43 at h
    refine a_iret X hr dX8_quota_43 ⟨by decide, by decide⟩ ?_
    subst hF
    rw [← Option.some.inj h]
    exact ⟨rfl, rfl⟩
  unfold D_X8_quota at h
  refine a_iload_n X dX8_quota_0 rfl ?_
  refine a_i2l X dX8_quota_1 ?_
  refine a_lconst (v := 0) X dX8_quota_2 (by decide) ?_
  refine a_ldc2 X dX8_quota_3 lk8_377 ?_
  obtain ⟨e_6, f_6, h⟩ := zBx h
  refine a_callSx X dX8_quota_6 miX8_isFrom lm8_128 (t_X8_isFrom f_6) rfl rfl (Nat.le_of_ble_eq_true rfl) ⟨by decide, by decide, by decide, by decide⟩ (fun r_6 S_6 q_6 => ?_)
  obtain ⟨rfl, rfl, b_6⟩ := q_6
  refine a_if_ne (tgt := 18) X dX8_quota_9 (by decide) (fun h_9 => ?_) (fun h_9 => ?_)
  · replace h := (if_neg h_9).symm.trans h
    refine a_aload_n X dX8_quota_18 rfl ?_
    refine a_iload_n X dX8_quota_19 rfl ?_
    obtain ⟨e_20, f_20, h⟩ := zBx h
    refine a_callVx X dX8_quota_20 miX8_isUnit lm8_301 (t_X8_isUnit (by assumption) f_20) (by assumption) rfl rfl rfl (Nat.le_of_ble_eq_true rfl) ⟨by decide, by decide, by decide, by decide⟩ (fun r_20 S_20 q_20 => ?_)
    obtain ⟨rfl, rfl, b_20⟩ := q_20
    refine a_if_eq (tgt := 38) X dX8_quota_23 (by decide) (fun h_23 => ?_) (fun h_23 => ?_)
    · replace h := (if_pos h_23).symm.trans h
      refine a_aload_n X dX8_quota_38 rfl ?_
      refine a_iconst (v := 2) X dX8_quota_39 (by decide) ?_
      obtain ⟨e_40, f_40, h⟩ := zBx h
      refine a_callVv X dX8_quota_40 miX8_refuse lm8_263 (t_X8_refuse (by assumption) f_40) (by assumption) rfl rfl rfl (Nat.le_of_ble_eq_true rfl) ⟨by decide, by decide, by decide, by decide⟩ ?_
      exact Zw.to2 (J_43 _ _ _ _ h) rfl rfl rfl
    · replace h := (if_neg h_23).symm.trans h
      refine a_aload_n X dX8_quota_26 rfl ?_
      refine a_bipush (v := 62) X dX8_quota_27 (by decide) ?_
      refine a_iload_n X dX8_quota_29 rfl ?_
      refine a_iadd X dX8_quota_30 ?_
      refine a_iload_n X dX8_quota_31 rfl ?_
      obtain ⟨e_32, f_32, h⟩ := zBx h
      refine a_callVv X dX8_quota_32 miX8_becomes lm8_483 (t_X8_becomes (by assumption) f_32) (by assumption) rfl rfl rfl (Nat.le_of_ble_eq_true rfl) ⟨by decide, by decide, by decide, by decide⟩ ?_
      refine a_goto (tgt := 43) X dX8_quota_35 (by decide) ?_
      exact Zw.to2 (J_43 _ _ _ _ h) rfl rfl rfl
  · replace h := (if_pos h_9).symm.trans h
    refine a_aload_n X dX8_quota_12 rfl ?_
    refine a_iconst (v := 1) X dX8_quota_13 (by decide) ?_
    obtain ⟨e_14, f_14, h⟩ := zBx h
    refine a_callVv X dX8_quota_14 miX8_refuse lm8_263 (t_X8_refuse (by assumption) f_14) (by assumption) rfl rfl rfl (Nat.le_of_ble_eq_true rfl) ⟨by decide, by decide, by decide, by decide⟩ ?_
    refine a_iret X hr dX8_quota_17 ⟨by decide, by decide⟩ ?_
    subst hF
    rw [← Option.some.inj h]
    exact ⟨rfl, rfl⟩
noncomputable def D_X8_choose_185 (P : Nat) (x1_185 : Int32) (x2_185 : Int32) (x3_185 : Int32) (x4_185 : Int32) (x7_185 : Int32) (M_185 : zMt) : Option (Int32 × zMt) :=
  zB (D_X8_choiceMany P M_185 x1_185) fun e_187 =>
  zB (D_X8_keeps P M_185) fun e_193 =>
  zI x7_185 82 <|
  zLt (zu e_193 (P + 1) x7_185.toNatClampNeg x2_185) fun M_203 =>
  zI (x7_185 + (1 : Int32)) 82 <|
  zLt (zu M_203 (P + 1) (x7_185 + (1 : Int32)).toNatClampNeg x3_185) fun M_213 =>
  zI (x7_185 + (2 : Int32)) 82 <|
  zLt (zu M_213 (P + 1) (x7_185 + (2 : Int32)).toNatClampNeg x4_185) fun M_224 =>
  zB (D_X8_gives P e_187 M_224) fun e_228 =>
  some (e_228.1, e_228.2)
noncomputable def D_X8_choose_127 (P : Nat) (M_127 : zMt) : Option (Int32 × zMt) :=
  zB (D_X8_refuse P (2 : Int32) M_127) fun e_129 =>
  some (e_129.1, e_129.2)
noncomputable def D_X8_choose_88 (P : Nat) (M_88 : zMt) : Option (Int32 × zMt) :=
  zB (D_X8_refuse P (1 : Int32) M_88) fun e_90 =>
  some (e_90.1, e_90.2)
noncomputable def D_X8_choose_60 (P : Nat) (x1_60 : Int32) (x2_60 : Int32) (x3_60 : Int32) (x4_60 : Int32) (x5_60 : Int32) (y0_60 : Int32) (M_60 : zMt) : Option (Int32 × zMt) :=
  if x2_60 < (-1 : Int32) then
    D_X8_choose_88 P M_60
  else
    if x3_60 < (-1 : Int32) then
      D_X8_choose_88 P M_60
    else
      if x4_60 < (-1 : Int32) then
        D_X8_choose_88 P M_60
      else
        if x5_60 = 0 then
          if y0_60 = 0 then
            zB (D_X8_isApplicant P x1_60 M_60) fun e_96 =>
            if e_96.1 = 0 then
              D_X8_choose_127 P e_96.2
            else
              if (e_96.2 P 7) ≤ x2_60 then
                D_X8_choose_127 P e_96.2
              else
                if (e_96.2 P 7) ≤ x3_60 then
                  D_X8_choose_127 P e_96.2
                else
                  if x4_60 < (e_96.2 P 7) then
                    zI x1_60 10 <|
                    zI (e_96.2 (P + 13) x1_60.toNatClampNeg) 82 <|
                    if (e_96.2 (P + 1) (e_96.2 (P + 13) x1_60.toNatClampNeg).toNatClampNeg) = x2_60 then
                      zI ((e_96.2 (P + 13) x1_60.toNatClampNeg) + (1 : Int32)) 82 <|
                      if (e_96.2 (P + 1) ((e_96.2 (P + 13) x1_60.toNatClampNeg) + (1 : Int32)).toNatClampNeg) = x3_60 then
                        zI ((e_96.2 (P + 13) x1_60.toNatClampNeg) + (2 : Int32)) 82 <|
                        if (e_96.2 (P + 1) ((e_96.2 (P + 13) x1_60.toNatClampNeg) + (2 : Int32)).toNatClampNeg) = x4_60 then
                          zB (D_X8_refuse P (4 : Int32) e_96.2) fun e_181 =>
                          some (e_181.1, e_181.2)
                        else
                          D_X8_choose_185 P x1_60 x2_60 x3_60 x4_60 (e_96.2 (P + 13) x1_60.toNatClampNeg) e_96.2
                      else
                        D_X8_choose_185 P x1_60 x2_60 x3_60 x4_60 (e_96.2 (P + 13) x1_60.toNatClampNeg) e_96.2
                    else
                      D_X8_choose_185 P x1_60 x2_60 x3_60 x4_60 (e_96.2 (P + 13) x1_60.toNatClampNeg) e_96.2
                  else
                    D_X8_choose_127 P e_96.2
          else
            D_X8_choose_88 P M_60
        else
          D_X8_choose_88 P M_60
noncomputable def D_X8_choose_59 (P : Nat) (x1_59 : Int32) (x2_59 : Int32) (x3_59 : Int32) (x4_59 : Int32) (x5_59 : Int32) (M_59 : zMt) : Option (Int32 × zMt) :=
  D_X8_choose_60 P x1_59 x2_59 x3_59 x4_59 x5_59 (0 : Int32) M_59
noncomputable def D_X8_choose_55 (P : Nat) (x1_55 : Int32) (x2_55 : Int32) (x3_55 : Int32) (x4_55 : Int32) (x5_55 : Int32) (M_55 : zMt) : Option (Int32 × zMt) :=
  D_X8_choose_60 P x1_55 x2_55 x3_55 x4_55 x5_55 (1 : Int32) M_55
noncomputable def D_X8_choose_44 (P : Nat) (x1_44 : Int32) (x2_44 : Int32) (x3_44 : Int32) (x4_44 : Int32) (x5_44 : Int32) (M_44 : zMt) : Option (Int32 × zMt) :=
  if x3_44 = (-1 : Int32) then
    D_X8_choose_59 P x1_44 x2_44 x3_44 x4_44 x5_44 M_44
  else
    if x3_44 = x4_44 then
      D_X8_choose_55 P x1_44 x2_44 x3_44 x4_44 x5_44 M_44
    else
      D_X8_choose_59 P x1_44 x2_44 x3_44 x4_44 x5_44 M_44
noncomputable def D_X8_choose_26 (P : Nat) (x1_26 : Int32) (x2_26 : Int32) (x3_26 : Int32) (x4_26 : Int32) (y0_26 : Int32) (M_26 : zMt) : Option (Int32 × zMt) :=
  if x2_26 = (-1 : Int32) then
    D_X8_choose_44 P x1_26 x2_26 x3_26 x4_26 y0_26 M_26
  else
    if x2_26 = x3_26 then
      D_X8_choose_55 P x1_26 x2_26 x3_26 x4_26 y0_26 M_26
    else
      if x2_26 = x4_26 then
        D_X8_choose_55 P x1_26 x2_26 x3_26 x4_26 y0_26 M_26
      else
        D_X8_choose_44 P x1_26 x2_26 x3_26 x4_26 y0_26 M_26
noncomputable def D_X8_choose_25 (P : Nat) (x1_25 : Int32) (x2_25 : Int32) (x3_25 : Int32) (x4_25 : Int32) (M_25 : zMt) : Option (Int32 × zMt) :=
  D_X8_choose_26 P x1_25 x2_25 x3_25 x4_25 (0 : Int32) M_25
noncomputable def D_X8_choose_21 (P : Nat) (x1_21 : Int32) (x2_21 : Int32) (x3_21 : Int32) (x4_21 : Int32) (M_21 : zMt) : Option (Int32 × zMt) :=
  D_X8_choose_26 P x1_21 x2_21 x3_21 x4_21 (1 : Int32) M_21
noncomputable def D_X8_choose_10 (P : Nat) (x1_10 : Int32) (x2_10 : Int32) (x3_10 : Int32) (x4_10 : Int32) (M_10 : zMt) : Option (Int32 × zMt) :=
  if x3_10 = (-1 : Int32) then
    if x4_10 = (-1 : Int32) then
      D_X8_choose_25 P x1_10 x2_10 x3_10 x4_10 M_10
    else
      D_X8_choose_21 P x1_10 x2_10 x3_10 x4_10 M_10
  else
    D_X8_choose_25 P x1_10 x2_10 x3_10 x4_10 M_10
noncomputable def D_X8_choose (P : Nat) (v0 : Int32) (v1 : Int32) (v2 : Int32) (v3 : Int32) (M : zMt) : Option (Int32 × zMt) :=
  if v1 = (-1 : Int32) then
    if v2 = (-1 : Int32) then
      D_X8_choose_10 P v0 v1 v2 v3 M
    else
      D_X8_choose_21 P v0 v1 v2 v3 M
  else
    D_X8_choose_10 P v0 v1 v2 v3 M
set_option maxRecDepth 100000 in
set_option maxHeartbeats 4000000 in
theorem t_X8_choose {l : Launch} {G : zG} {b : Nat} {L : List zC} {M : zMt} {N : zNt} {P : Nat} {v0 : Int32} {v1 : Int32} {v2 : Int32} {v3 : Int32} (hP : LX8 L P) {r : Int32 × zMt} (h : D_X8_choose P v0 v1 v2 v3 M = some r) : zM l G b yX8_choose cX8_choose 9 (some .int) 4 0 0 [.ref P, .int v0, .int v1, .int v2, .int v3] (L, M, N) (fun r2 z => r2 = some (.int r.1) ∧ z = (L, r.2, N)) := by
  refine zM.of miX8_choose (Nat.le_of_ble_eq_true rfl) ?_
  intro p e s m args below meth c X hr hname
  generalize hF : ((fun r2 z => r2 = some (.int r.1) ∧ z = (L, r.2, N)) : Option Value → zS → Prop) = FQ
  change Zw p l e { frames := 4, cells := 0, slots := 0, locals := 80 * (4) } s m args below meth c G b 9 (MQ below (zQ G b FQ) args s 0 0 (fun q : Nat => b ≤ q)) 0 0 0 [some (.ref P), some (.int v0), some (.int v1), some (.int v2), some (.int v3), none, none, none, none] [] (L, M, N)
  obtain ⟨p_lt, p_o, p_s, p_read, p_aside, p_kept, p_guest, p_readGuest, p_tape, p_unitName, p_hunterName, p_partyName, p_bits, p_partyOf, p_choiceAt, p_sizes, p_guestMany, p_pointsOf, p_ticketsOf, p_ord, p_given, p_roundOf, p_tags, p_guestTags, p_places, p_sumAt, p_sumFirst, p_sumRound, p_sumBoth, p_sumTags, p_isEnd, p_newPoints, p_inRow, p_out⟩ := id hP
  have J_185 : ∀ (x1_185 : Int32) (x2_185 : Int32) (x3_185 : Int32) (x4_185 : Int32) (x5_185 : Int32) (x6_185 : Int32) (x7_185 : Int32) (x8_185 : Option Value) (M_185 : zMt), D_X8_choose_185 P x1_185 x2_185 x3_185 x4_185 x7_185 M_185 = some r → Zw p l e { frames := 4, cells := 0, slots := 0, locals := 80 * (4) } s m args below meth c G b 9 (MQ below (zQ G b FQ) args s 0 0 (fun q : Nat => b ≤ q)) 0 0 185 [some (.ref (P)), some (.int x1_185), some (.int x2_185), some (.int x3_185), some (.int x4_185), some (.int x5_185), some (.int x6_185), some (.int x7_185), x8_185] [] (L, M_185, N) := by
    intro x1_185 x2_185 x3_185 x4_185 x5_185 x6_185 x7_185 x8_185 M_185 h
    unfold D_X8_choose_185 at h
    refine a_aload_n X dX8_choose_185 rfl ?_
    refine a_iload_n X dX8_choose_186 rfl ?_
    obtain ⟨e_187, f_187, h⟩ := zBx h
    refine a_callVv X dX8_choose_187 miX8_choiceMany lm8_288 (t_X8_choiceMany (by assumption) f_187) (by assumption) rfl rfl rfl (Nat.le_of_ble_eq_true rfl) ⟨by decide, by decide, by decide, by decide⟩ ?_
    refine a_istore X dX8_choose_190 (by decide) ?_
    refine a_aload_n X dX8_choose_192 rfl ?_
    obtain ⟨e_193, f_193, h⟩ := zBx h
    refine a_callVu X dX8_choose_193 miX8_keeps lm8_480 (t_X8_keeps (by assumption) f_193) (by assumption) rfl rfl rfl (Nat.le_of_ble_eq_true rfl) ⟨by decide, by decide, by decide, by decide⟩ ?_
    refine a_aload_n X dX8_choose_196 rfl ?_
    refine a_getr X lf8_7 (by assumption) rfl (by omega) dX8_choose_197 ?_
    refine a_iload X dX8_choose_200 rfl ?_
    refine a_iload_n X dX8_choose_202 rfl ?_
    obtain ⟨g_203, h⟩ := zIx h
    obtain ⟨M_203, f_203, h⟩ := zLtx h
    refine d_iastore X (by assumption) g_203 dX8_choose_203 f_203 ?_
    refine a_aload_n X dX8_choose_204 rfl ?_
    refine a_getr X lf8_7 (by assumption) rfl (by omega) dX8_choose_205 ?_
    refine a_iload X dX8_choose_208 rfl ?_
    refine a_iconst (v := 1) X dX8_choose_210 (by decide) ?_
    refine a_iadd X dX8_choose_211 ?_
    refine a_iload_n X dX8_choose_212 rfl ?_
    obtain ⟨g_213, h⟩ := zIx h
    obtain ⟨M_213, f_213, h⟩ := zLtx h
    refine d_iastore X (by assumption) g_213 dX8_choose_213 f_213 ?_
    refine a_aload_n X dX8_choose_214 rfl ?_
    refine a_getr X lf8_7 (by assumption) rfl (by omega) dX8_choose_215 ?_
    refine a_iload X dX8_choose_218 rfl ?_
    refine a_iconst (v := 2) X dX8_choose_220 (by decide) ?_
    refine a_iadd X dX8_choose_221 ?_
    refine a_iload X dX8_choose_222 rfl ?_
    obtain ⟨g_224, h⟩ := zIx h
    obtain ⟨M_224, f_224, h⟩ := zLtx h
    refine d_iastore X (by assumption) g_224 dX8_choose_224 f_224 ?_
    refine a_aload_n X dX8_choose_225 rfl ?_
    refine a_iload X dX8_choose_226 rfl ?_
    obtain ⟨e_228, f_228, h⟩ := zBx h
    refine a_callVv X dX8_choose_228 miX8_gives lm8_272 (t_X8_gives (by assumption) f_228) (by assumption) rfl rfl rfl (Nat.le_of_ble_eq_true rfl) ⟨by decide, by decide, by decide, by decide⟩ ?_
    refine a_iret X hr dX8_choose_231 ⟨by decide, by decide⟩ ?_
    subst hF
    rw [← Option.some.inj h]
    exact ⟨rfl, rfl⟩
  have J_127 : ∀ (x1_127 : Int32) (x2_127 : Int32) (x3_127 : Int32) (x4_127 : Int32) (x5_127 : Int32) (x6_127 : Int32) (x7_127 : Option Value) (x8_127 : Option Value) (M_127 : zMt), D_X8_choose_127 P M_127 = some r → Zw p l e { frames := 4, cells := 0, slots := 0, locals := 80 * (4) } s m args below meth c G b 9 (MQ below (zQ G b FQ) args s 0 0 (fun q : Nat => b ≤ q)) 0 0 127 [some (.ref (P)), some (.int x1_127), some (.int x2_127), some (.int x3_127), some (.int x4_127), some (.int x5_127), some (.int x6_127), x7_127, x8_127] [] (L, M_127, N) := by
    intro x1_127 x2_127 x3_127 x4_127 x5_127 x6_127 x7_127 x8_127 M_127 h
    unfold D_X8_choose_127 at h
    refine a_aload_n X dX8_choose_127 rfl ?_
    refine a_iconst (v := 2) X dX8_choose_128 (by decide) ?_
    obtain ⟨e_129, f_129, h⟩ := zBx h
    refine a_callVv X dX8_choose_129 miX8_refuse lm8_263 (t_X8_refuse (by assumption) f_129) (by assumption) rfl rfl rfl (Nat.le_of_ble_eq_true rfl) ⟨by decide, by decide, by decide, by decide⟩ ?_
    refine a_iret X hr dX8_choose_132 ⟨by decide, by decide⟩ ?_
    subst hF
    rw [← Option.some.inj h]
    exact ⟨rfl, rfl⟩
  have J_88 : ∀ (x1_88 : Int32) (x2_88 : Int32) (x3_88 : Int32) (x4_88 : Int32) (x5_88 : Int32) (x6_88 : Int32) (x7_88 : Option Value) (x8_88 : Option Value) (M_88 : zMt), D_X8_choose_88 P M_88 = some r → Zw p l e { frames := 4, cells := 0, slots := 0, locals := 80 * (4) } s m args below meth c G b 9 (MQ below (zQ G b FQ) args s 0 0 (fun q : Nat => b ≤ q)) 0 0 88 [some (.ref (P)), some (.int x1_88), some (.int x2_88), some (.int x3_88), some (.int x4_88), some (.int x5_88), some (.int x6_88), x7_88, x8_88] [] (L, M_88, N) := by
    intro x1_88 x2_88 x3_88 x4_88 x5_88 x6_88 x7_88 x8_88 M_88 h
    unfold D_X8_choose_88 at h
    refine a_aload_n X dX8_choose_88 rfl ?_
    refine a_iconst (v := 1) X dX8_choose_89 (by decide) ?_
    obtain ⟨e_90, f_90, h⟩ := zBx h
    refine a_callVv X dX8_choose_90 miX8_refuse lm8_263 (t_X8_refuse (by assumption) f_90) (by assumption) rfl rfl rfl (Nat.le_of_ble_eq_true rfl) ⟨by decide, by decide, by decide, by decide⟩ ?_
    refine a_iret X hr dX8_choose_93 ⟨by decide, by decide⟩ ?_
    subst hF
    rw [← Option.some.inj h]
    exact ⟨rfl, rfl⟩
  have J_60 : ∀ (x1_60 : Int32) (x2_60 : Int32) (x3_60 : Int32) (x4_60 : Int32) (x5_60 : Int32) (x6_60 : Option Value) (x7_60 : Option Value) (x8_60 : Option Value) (y0_60 : Int32) (M_60 : zMt), (x5_60 = 0 ∨ x5_60 = 1) → (y0_60 = 0 ∨ y0_60 = 1) → D_X8_choose_60 P x1_60 x2_60 x3_60 x4_60 x5_60 y0_60 M_60 = some r → Zw p l e { frames := 4, cells := 0, slots := 0, locals := 80 * (4) } s m args below meth c G b 9 (MQ below (zQ G b FQ) args s 0 0 (fun q : Nat => b ≤ q)) 0 0 60 [some (.ref (P)), some (.int x1_60), some (.int x2_60), some (.int x3_60), some (.int x4_60), some (.int x5_60), x6_60, x7_60, x8_60] [.int y0_60] (L, M_60, N) := by
    intro x1_60 x2_60 x3_60 x4_60 x5_60 x6_60 x7_60 x8_60 y0_60 M_60 fb_x5_60 fb_y0_60 h
    unfold D_X8_choose_60 at h
    refine a_istore X dX8_choose_60 (by decide) ?_
    refine a_iload_n X dX8_choose_62 rfl ?_
    refine a_iconst (v := -1) X dX8_choose_63 (by decide) ?_
    refine a_icmp_lt (tgt := 88) X dX8_choose_64 (by decide) (fun h_64 => ?_) (fun h_64 => ?_)
    · replace h := (if_pos h_64).symm.trans h
      exact Zw.to2 (J_88 _ _ _ _ _ _ _ _ _ h) rfl rfl rfl
    · replace h := (if_neg h_64).symm.trans h
      refine a_iload_n X dX8_choose_67 rfl ?_
      refine a_iconst (v := -1) X dX8_choose_68 (by decide) ?_
      refine a_icmp_lt (tgt := 88) X dX8_choose_69 (by decide) (fun h_69 => ?_) (fun h_69 => ?_)
      · replace h := (if_pos h_69).symm.trans h
        exact Zw.to2 (J_88 _ _ _ _ _ _ _ _ _ h) rfl rfl rfl
      · replace h := (if_neg h_69).symm.trans h
        refine a_iload X dX8_choose_72 rfl ?_
        refine a_iconst (v := -1) X dX8_choose_74 (by decide) ?_
        refine a_icmp_lt (tgt := 88) X dX8_choose_75 (by decide) (fun h_75 => ?_) (fun h_75 => ?_)
        · replace h := (if_pos h_75).symm.trans h
          exact Zw.to2 (J_88 _ _ _ _ _ _ _ _ _ h) rfl rfl rfl
        · replace h := (if_neg h_75).symm.trans h
          refine a_iload X dX8_choose_78 rfl ?_
          refine a_if_ne (tgt := 88) X dX8_choose_80 (by decide) (fun h_80 => ?_) (fun h_80 => ?_)
          · replace h := (if_neg h_80).symm.trans h
            exact Zw.to2 (J_88 _ _ _ _ _ _ _ _ _ h) rfl rfl rfl
          · replace h := (if_pos h_80).symm.trans h
            refine a_iload X dX8_choose_83 rfl ?_
            refine a_if_eq (tgt := 94) X dX8_choose_85 (by decide) (fun h_85 => ?_) (fun h_85 => ?_)
            · replace h := (if_pos h_85).symm.trans h
              refine a_aload_n X dX8_choose_94 rfl ?_
              refine a_iload_n X dX8_choose_95 rfl ?_
              obtain ⟨e_96, f_96, h⟩ := zBx h
              refine a_callVx X dX8_choose_96 miX8_isApplicant lm8_315 (t_X8_isApplicant (by assumption) f_96) (by assumption) rfl rfl rfl (Nat.le_of_ble_eq_true rfl) ⟨by decide, by decide, by decide, by decide⟩ (fun r_96 S_96 q_96 => ?_)
              obtain ⟨rfl, rfl, b_96⟩ := q_96
              refine a_if_eq (tgt := 127) X dX8_choose_99 (by decide) (fun h_99 => ?_) (fun h_99 => ?_)
              · replace h := (if_pos h_99).symm.trans h
                exact Zw.to2 (J_127 _ _ _ _ _ _ _ _ _ h) rfl rfl rfl
              · replace h := (if_neg h_99).symm.trans h
                refine a_iload_n X dX8_choose_102 rfl ?_
                refine a_aload_n X dX8_choose_103 rfl ?_
                refine a_geti X lf8_125 (by assumption) rfl dX8_choose_104 ?_
                refine a_icmp_ge (tgt := 127) X dX8_choose_107 (by decide) (fun h_107 => ?_) (fun h_107 => ?_)
                · replace h := (if_pos h_107).symm.trans h
                  exact Zw.to2 (J_127 _ _ _ _ _ _ _ _ _ h) rfl rfl rfl
                · replace h := (if_neg h_107).symm.trans h
                  refine a_iload_n X dX8_choose_110 rfl ?_
                  refine a_aload_n X dX8_choose_111 rfl ?_
                  refine a_geti X lf8_125 (by assumption) rfl dX8_choose_112 ?_
                  refine a_icmp_ge (tgt := 127) X dX8_choose_115 (by decide) (fun h_115 => ?_) (fun h_115 => ?_)
                  · replace h := (if_pos h_115).symm.trans h
                    exact Zw.to2 (J_127 _ _ _ _ _ _ _ _ _ h) rfl rfl rfl
                  · replace h := (if_neg h_115).symm.trans h
                    refine a_iload X dX8_choose_118 rfl ?_
                    refine a_aload_n X dX8_choose_120 rfl ?_
                    refine a_geti X lf8_125 (by assumption) rfl dX8_choose_121 ?_
                    refine a_icmp_lt (tgt := 133) X dX8_choose_124 (by decide) (fun h_124 => ?_) (fun h_124 => ?_)
                    · replace h := (if_pos h_124).symm.trans h
                      refine a_aload_n X dX8_choose_133 rfl ?_
                      refine a_getr X lf8_55 (by assumption) rfl (by omega) dX8_choose_134 ?_
                      refine a_iload_n X dX8_choose_137 rfl ?_
                      obtain ⟨g_138, h⟩ := zIx h
                      refine a_iaload X (by assumption) g_138 dX8_choose_138 ?_
                      refine a_istore X dX8_choose_139 (by decide) ?_
                      refine a_aload_n X dX8_choose_141 rfl ?_
                      refine a_getr X lf8_7 (by assumption) rfl (by omega) dX8_choose_142 ?_
                      refine a_iload X dX8_choose_145 rfl ?_
                      obtain ⟨g_147, h⟩ := zIx h
                      refine a_iaload X (by assumption) g_147 dX8_choose_147 ?_
                      refine a_iload_n X dX8_choose_148 rfl ?_
                      refine a_icmp_ne (tgt := 185) X dX8_choose_149 (by decide) (fun h_149 => ?_) (fun h_149 => ?_)
                      · replace h := (if_neg h_149).symm.trans h
                        exact Zw.to2 (J_185 _ _ _ _ _ _ _ _ _ h) rfl rfl rfl
                      · replace h := (if_pos h_149).symm.trans h
                        refine a_aload_n X dX8_choose_152 rfl ?_
                        refine a_getr X lf8_7 (by assumption) rfl (by omega) dX8_choose_153 ?_
                        refine a_iload X dX8_choose_156 rfl ?_
                        refine a_iconst (v := 1) X dX8_choose_158 (by decide) ?_
                        refine a_iadd X dX8_choose_159 ?_
                        obtain ⟨g_160, h⟩ := zIx h
                        refine a_iaload X (by assumption) g_160 dX8_choose_160 ?_
                        refine a_iload_n X dX8_choose_161 rfl ?_
                        refine a_icmp_ne (tgt := 185) X dX8_choose_162 (by decide) (fun h_162 => ?_) (fun h_162 => ?_)
                        · replace h := (if_neg h_162).symm.trans h
                          exact Zw.to2 (J_185 _ _ _ _ _ _ _ _ _ h) rfl rfl rfl
                        · replace h := (if_pos h_162).symm.trans h
                          refine a_aload_n X dX8_choose_165 rfl ?_
                          refine a_getr X lf8_7 (by assumption) rfl (by omega) dX8_choose_166 ?_
                          refine a_iload X dX8_choose_169 rfl ?_
                          refine a_iconst (v := 2) X dX8_choose_171 (by decide) ?_
                          refine a_iadd X dX8_choose_172 ?_
                          obtain ⟨g_173, h⟩ := zIx h
                          refine a_iaload X (by assumption) g_173 dX8_choose_173 ?_
                          refine a_iload X dX8_choose_174 rfl ?_
                          refine a_icmp_ne (tgt := 185) X dX8_choose_176 (by decide) (fun h_176 => ?_) (fun h_176 => ?_)
                          · replace h := (if_neg h_176).symm.trans h
                            exact Zw.to2 (J_185 _ _ _ _ _ _ _ _ _ h) rfl rfl rfl
                          · replace h := (if_pos h_176).symm.trans h
                            refine a_aload_n X dX8_choose_179 rfl ?_
                            refine a_iconst (v := 4) X dX8_choose_180 (by decide) ?_
                            obtain ⟨e_181, f_181, h⟩ := zBx h
                            refine a_callVv X dX8_choose_181 miX8_refuse lm8_263 (t_X8_refuse (by assumption) f_181) (by assumption) rfl rfl rfl (Nat.le_of_ble_eq_true rfl) ⟨by decide, by decide, by decide, by decide⟩ ?_
                            refine a_iret X hr dX8_choose_184 ⟨by decide, by decide⟩ ?_
                            subst hF
                            rw [← Option.some.inj h]
                            exact ⟨rfl, rfl⟩
                    · replace h := (if_neg h_124).symm.trans h
                      exact Zw.to2 (J_127 _ _ _ _ _ _ _ _ _ h) rfl rfl rfl
            · replace h := (if_neg h_85).symm.trans h
              exact Zw.to2 (J_88 _ _ _ _ _ _ _ _ _ h) rfl rfl rfl
  have J_59 : ∀ (x1_59 : Int32) (x2_59 : Int32) (x3_59 : Int32) (x4_59 : Int32) (x5_59 : Int32) (x6_59 : Option Value) (x7_59 : Option Value) (x8_59 : Option Value) (M_59 : zMt), (x5_59 = 0 ∨ x5_59 = 1) → D_X8_choose_59 P x1_59 x2_59 x3_59 x4_59 x5_59 M_59 = some r → Zw p l e { frames := 4, cells := 0, slots := 0, locals := 80 * (4) } s m args below meth c G b 9 (MQ below (zQ G b FQ) args s 0 0 (fun q : Nat => b ≤ q)) 0 0 59 [some (.ref (P)), some (.int x1_59), some (.int x2_59), some (.int x3_59), some (.int x4_59), some (.int x5_59), x6_59, x7_59, x8_59] [] (L, M_59, N) := by
    intro x1_59 x2_59 x3_59 x4_59 x5_59 x6_59 x7_59 x8_59 M_59 fb_x5_59 h
    unfold D_X8_choose_59 at h
    refine a_iconst (v := 0) X dX8_choose_59 (by decide) ?_
    exact Zw.to2 (J_60 _ _ _ _ _ _ _ _ _ _ (by first | exact Or.inl rfl | exact Or.inr rfl | assumption) (by first | exact Or.inl rfl | exact Or.inr rfl | assumption) h) rfl rfl rfl
  have J_55 : ∀ (x1_55 : Int32) (x2_55 : Int32) (x3_55 : Int32) (x4_55 : Int32) (x5_55 : Int32) (x6_55 : Option Value) (x7_55 : Option Value) (x8_55 : Option Value) (M_55 : zMt), (x5_55 = 0 ∨ x5_55 = 1) → D_X8_choose_55 P x1_55 x2_55 x3_55 x4_55 x5_55 M_55 = some r → Zw p l e { frames := 4, cells := 0, slots := 0, locals := 80 * (4) } s m args below meth c G b 9 (MQ below (zQ G b FQ) args s 0 0 (fun q : Nat => b ≤ q)) 0 0 55 [some (.ref (P)), some (.int x1_55), some (.int x2_55), some (.int x3_55), some (.int x4_55), some (.int x5_55), x6_55, x7_55, x8_55] [] (L, M_55, N) := by
    intro x1_55 x2_55 x3_55 x4_55 x5_55 x6_55 x7_55 x8_55 M_55 fb_x5_55 h
    unfold D_X8_choose_55 at h
    refine a_iconst (v := 1) X dX8_choose_55 (by decide) ?_
    refine a_goto (tgt := 60) X dX8_choose_56 (by decide) ?_
    exact Zw.to2 (J_60 _ _ _ _ _ _ _ _ _ _ (by first | exact Or.inl rfl | exact Or.inr rfl | assumption) (by first | exact Or.inl rfl | exact Or.inr rfl | assumption) h) rfl rfl rfl
  have J_44 : ∀ (x1_44 : Int32) (x2_44 : Int32) (x3_44 : Int32) (x4_44 : Int32) (x5_44 : Int32) (x6_44 : Option Value) (x7_44 : Option Value) (x8_44 : Option Value) (M_44 : zMt), (x5_44 = 0 ∨ x5_44 = 1) → D_X8_choose_44 P x1_44 x2_44 x3_44 x4_44 x5_44 M_44 = some r → Zw p l e { frames := 4, cells := 0, slots := 0, locals := 80 * (4) } s m args below meth c G b 9 (MQ below (zQ G b FQ) args s 0 0 (fun q : Nat => b ≤ q)) 0 0 44 [some (.ref (P)), some (.int x1_44), some (.int x2_44), some (.int x3_44), some (.int x4_44), some (.int x5_44), x6_44, x7_44, x8_44] [] (L, M_44, N) := by
    intro x1_44 x2_44 x3_44 x4_44 x5_44 x6_44 x7_44 x8_44 M_44 fb_x5_44 h
    unfold D_X8_choose_44 at h
    refine a_iload_n X dX8_choose_44 rfl ?_
    refine a_iconst (v := -1) X dX8_choose_45 (by decide) ?_
    refine a_icmp_eq (tgt := 59) X dX8_choose_46 (by decide) (fun h_46 => ?_) (fun h_46 => ?_)
    · replace h := (if_pos h_46).symm.trans h
      exact Zw.to2 (J_59 _ _ _ _ _ _ _ _ _ (by first | exact Or.inl rfl | exact Or.inr rfl | assumption) h) rfl rfl rfl
    · replace h := (if_neg h_46).symm.trans h
      refine a_iload_n X dX8_choose_49 rfl ?_
      refine a_iload X dX8_choose_50 rfl ?_
      refine a_icmp_ne (tgt := 59) X dX8_choose_52 (by decide) (fun h_52 => ?_) (fun h_52 => ?_)
      · replace h := (if_neg h_52).symm.trans h
        exact Zw.to2 (J_59 _ _ _ _ _ _ _ _ _ (by first | exact Or.inl rfl | exact Or.inr rfl | assumption) h) rfl rfl rfl
      · replace h := (if_pos h_52).symm.trans h
        exact Zw.to2 (J_55 _ _ _ _ _ _ _ _ _ (by first | exact Or.inl rfl | exact Or.inr rfl | assumption) h) rfl rfl rfl
  have J_26 : ∀ (x1_26 : Int32) (x2_26 : Int32) (x3_26 : Int32) (x4_26 : Int32) (x5_26 : Option Value) (x6_26 : Option Value) (x7_26 : Option Value) (x8_26 : Option Value) (y0_26 : Int32) (M_26 : zMt), (y0_26 = 0 ∨ y0_26 = 1) → D_X8_choose_26 P x1_26 x2_26 x3_26 x4_26 y0_26 M_26 = some r → Zw p l e { frames := 4, cells := 0, slots := 0, locals := 80 * (4) } s m args below meth c G b 9 (MQ below (zQ G b FQ) args s 0 0 (fun q : Nat => b ≤ q)) 0 0 26 [some (.ref (P)), some (.int x1_26), some (.int x2_26), some (.int x3_26), some (.int x4_26), x5_26, x6_26, x7_26, x8_26] [.int y0_26] (L, M_26, N) := by
    intro x1_26 x2_26 x3_26 x4_26 x5_26 x6_26 x7_26 x8_26 y0_26 M_26 fb_y0_26 h
    unfold D_X8_choose_26 at h
    refine a_istore X dX8_choose_26 (by decide) ?_
    refine a_iload_n X dX8_choose_28 rfl ?_
    refine a_iconst (v := -1) X dX8_choose_29 (by decide) ?_
    refine a_icmp_eq (tgt := 44) X dX8_choose_30 (by decide) (fun h_30 => ?_) (fun h_30 => ?_)
    · replace h := (if_pos h_30).symm.trans h
      exact Zw.to2 (J_44 _ _ _ _ _ _ _ _ _ (by first | exact Or.inl rfl | exact Or.inr rfl | assumption) h) rfl rfl rfl
    · replace h := (if_neg h_30).symm.trans h
      refine a_iload_n X dX8_choose_33 rfl ?_
      refine a_iload_n X dX8_choose_34 rfl ?_
      refine a_icmp_eq (tgt := 55) X dX8_choose_35 (by decide) (fun h_35 => ?_) (fun h_35 => ?_)
      · replace h := (if_pos h_35).symm.trans h
        exact Zw.to2 (J_55 _ _ _ _ _ _ _ _ _ (by first | exact Or.inl rfl | exact Or.inr rfl | assumption) h) rfl rfl rfl
      · replace h := (if_neg h_35).symm.trans h
        refine a_iload_n X dX8_choose_38 rfl ?_
        refine a_iload X dX8_choose_39 rfl ?_
        refine a_icmp_eq (tgt := 55) X dX8_choose_41 (by decide) (fun h_41 => ?_) (fun h_41 => ?_)
        · replace h := (if_pos h_41).symm.trans h
          exact Zw.to2 (J_55 _ _ _ _ _ _ _ _ _ (by first | exact Or.inl rfl | exact Or.inr rfl | assumption) h) rfl rfl rfl
        · replace h := (if_neg h_41).symm.trans h
          exact Zw.to2 (J_44 _ _ _ _ _ _ _ _ _ (by first | exact Or.inl rfl | exact Or.inr rfl | assumption) h) rfl rfl rfl
  have J_25 : ∀ (x1_25 : Int32) (x2_25 : Int32) (x3_25 : Int32) (x4_25 : Int32) (x5_25 : Option Value) (x6_25 : Option Value) (x7_25 : Option Value) (x8_25 : Option Value) (M_25 : zMt), D_X8_choose_25 P x1_25 x2_25 x3_25 x4_25 M_25 = some r → Zw p l e { frames := 4, cells := 0, slots := 0, locals := 80 * (4) } s m args below meth c G b 9 (MQ below (zQ G b FQ) args s 0 0 (fun q : Nat => b ≤ q)) 0 0 25 [some (.ref (P)), some (.int x1_25), some (.int x2_25), some (.int x3_25), some (.int x4_25), x5_25, x6_25, x7_25, x8_25] [] (L, M_25, N) := by
    intro x1_25 x2_25 x3_25 x4_25 x5_25 x6_25 x7_25 x8_25 M_25 h
    unfold D_X8_choose_25 at h
    refine a_iconst (v := 0) X dX8_choose_25 (by decide) ?_
    exact Zw.to2 (J_26 _ _ _ _ _ _ _ _ _ _ (by first | exact Or.inl rfl | exact Or.inr rfl | assumption) h) rfl rfl rfl
  have J_21 : ∀ (x1_21 : Int32) (x2_21 : Int32) (x3_21 : Int32) (x4_21 : Int32) (x5_21 : Option Value) (x6_21 : Option Value) (x7_21 : Option Value) (x8_21 : Option Value) (M_21 : zMt), D_X8_choose_21 P x1_21 x2_21 x3_21 x4_21 M_21 = some r → Zw p l e { frames := 4, cells := 0, slots := 0, locals := 80 * (4) } s m args below meth c G b 9 (MQ below (zQ G b FQ) args s 0 0 (fun q : Nat => b ≤ q)) 0 0 21 [some (.ref (P)), some (.int x1_21), some (.int x2_21), some (.int x3_21), some (.int x4_21), x5_21, x6_21, x7_21, x8_21] [] (L, M_21, N) := by
    intro x1_21 x2_21 x3_21 x4_21 x5_21 x6_21 x7_21 x8_21 M_21 h
    unfold D_X8_choose_21 at h
    refine a_iconst (v := 1) X dX8_choose_21 (by decide) ?_
    refine a_goto (tgt := 26) X dX8_choose_22 (by decide) ?_
    exact Zw.to2 (J_26 _ _ _ _ _ _ _ _ _ _ (by first | exact Or.inl rfl | exact Or.inr rfl | assumption) h) rfl rfl rfl
  have J_10 : ∀ (x1_10 : Int32) (x2_10 : Int32) (x3_10 : Int32) (x4_10 : Int32) (x5_10 : Option Value) (x6_10 : Option Value) (x7_10 : Option Value) (x8_10 : Option Value) (M_10 : zMt), D_X8_choose_10 P x1_10 x2_10 x3_10 x4_10 M_10 = some r → Zw p l e { frames := 4, cells := 0, slots := 0, locals := 80 * (4) } s m args below meth c G b 9 (MQ below (zQ G b FQ) args s 0 0 (fun q : Nat => b ≤ q)) 0 0 10 [some (.ref (P)), some (.int x1_10), some (.int x2_10), some (.int x3_10), some (.int x4_10), x5_10, x6_10, x7_10, x8_10] [] (L, M_10, N) := by
    intro x1_10 x2_10 x3_10 x4_10 x5_10 x6_10 x7_10 x8_10 M_10 h
    unfold D_X8_choose_10 at h
    refine a_iload_n X dX8_choose_10 rfl ?_
    refine a_iconst (v := -1) X dX8_choose_11 (by decide) ?_
    refine a_icmp_ne (tgt := 25) X dX8_choose_12 (by decide) (fun h_12 => ?_) (fun h_12 => ?_)
    · replace h := (if_neg h_12).symm.trans h
      exact Zw.to2 (J_25 _ _ _ _ _ _ _ _ _ h) rfl rfl rfl
    · replace h := (if_pos h_12).symm.trans h
      refine a_iload X dX8_choose_15 rfl ?_
      refine a_iconst (v := -1) X dX8_choose_17 (by decide) ?_
      refine a_icmp_eq (tgt := 25) X dX8_choose_18 (by decide) (fun h_18 => ?_) (fun h_18 => ?_)
      · replace h := (if_pos h_18).symm.trans h
        exact Zw.to2 (J_25 _ _ _ _ _ _ _ _ _ h) rfl rfl rfl
      · replace h := (if_neg h_18).symm.trans h
        exact Zw.to2 (J_21 _ _ _ _ _ _ _ _ _ h) rfl rfl rfl
  unfold D_X8_choose at h
  refine a_iload_n X dX8_choose_0 rfl ?_
  refine a_iconst (v := -1) X dX8_choose_1 (by decide) ?_
  refine a_icmp_ne (tgt := 10) X dX8_choose_2 (by decide) (fun h_2 => ?_) (fun h_2 => ?_)
  · replace h := (if_neg h_2).symm.trans h
    exact Zw.to2 (J_10 _ _ _ _ _ _ _ _ _ h) rfl rfl rfl
  · replace h := (if_pos h_2).symm.trans h
    refine a_iload_n X dX8_choose_5 rfl ?_
    refine a_iconst (v := -1) X dX8_choose_6 (by decide) ?_
    refine a_icmp_ne (tgt := 21) X dX8_choose_7 (by decide) (fun h_7 => ?_) (fun h_7 => ?_)
    · replace h := (if_neg h_7).symm.trans h
      exact Zw.to2 (J_21 _ _ _ _ _ _ _ _ _ h) rfl rfl rfl
    · replace h := (if_pos h_7).symm.trans h
      exact Zw.to2 (J_10 _ _ _ _ _ _ _ _ _ h) rfl rfl rfl
noncomputable def D_X8_law_27 (P : Nat) (y0_27 : Int32) (M_27 : zMt) : Option (Int32 × zMt) :=
  some (y0_27, M_27)
noncomputable def D_X8_law (P : Nat) (v0 : Int32) (M : zMt) : Option (Int32 × zMt) :=
  zB (D_X8_isFrom (Int32.toInt64 v0) (0 : Int64) (2 : Int64)) fun e_6 =>
  if e_6 = 0 then
    zB (D_X8_refuse P (1 : Int32) M) fun e_24 =>
    D_X8_law_27 P e_24.1 e_24.2
  else
    zB (D_X8_becomes P (67 : Int32) v0 M) fun e_16 =>
    D_X8_law_27 P e_16.1 e_16.2
set_option maxRecDepth 100000 in
set_option maxHeartbeats 4000000 in
theorem t_X8_law {l : Launch} {G : zG} {b : Nat} {L : List zC} {M : zMt} {N : zNt} {P : Nat} {v0 : Int32} (hP : LX8 L P) {r : Int32 × zMt} (h : D_X8_law P v0 M = some r) : zM l G b yX8_law cX8_law 2 (some .int) 2 0 0 [.ref P, .int v0] (L, M, N) (fun r2 z => r2 = some (.int r.1) ∧ z = (L, r.2, N)) := by
  refine zM.of miX8_law (Nat.le_of_ble_eq_true rfl) ?_
  intro p e s m args below meth c X hr hname
  generalize hF : ((fun r2 z => r2 = some (.int r.1) ∧ z = (L, r.2, N)) : Option Value → zS → Prop) = FQ
  change Zw p l e { frames := 2, cells := 0, slots := 0, locals := 80 * (2) } s m args below meth c G b 2 (MQ below (zQ G b FQ) args s 0 0 (fun q : Nat => b ≤ q)) 0 0 0 [some (.ref P), some (.int v0)] [] (L, M, N)
  obtain ⟨p_lt, p_o, p_s, p_read, p_aside, p_kept, p_guest, p_readGuest, p_tape, p_unitName, p_hunterName, p_partyName, p_bits, p_partyOf, p_choiceAt, p_sizes, p_guestMany, p_pointsOf, p_ticketsOf, p_ord, p_given, p_roundOf, p_tags, p_guestTags, p_places, p_sumAt, p_sumFirst, p_sumRound, p_sumBoth, p_sumTags, p_isEnd, p_newPoints, p_inRow, p_out⟩ := id hP
  have J_27 : ∀ (x1_27 : Int32) (y0_27 : Int32) (M_27 : zMt), D_X8_law_27 P y0_27 M_27 = some r → Zw p l e { frames := 2, cells := 0, slots := 0, locals := 80 * (2) } s m args below meth c G b 2 (MQ below (zQ G b FQ) args s 0 0 (fun q : Nat => b ≤ q)) 0 0 27 [some (.ref (P)), some (.int x1_27)] [.int y0_27] (L, M_27, N) := by
    intro x1_27 y0_27 M_27 h
    unfold D_X8_law_27 at h
    refine a_iret X hr dX8_law_27 ⟨by decide, by decide⟩ ?_
    subst hF
    rw [← Option.some.inj h]
    exact ⟨rfl, rfl⟩
  unfold D_X8_law at h
  refine a_iload_n X dX8_law_0 rfl ?_
  refine a_i2l X dX8_law_1 ?_
  refine a_lconst (v := 0) X dX8_law_2 (by decide) ?_
  refine a_ldc2 X dX8_law_3 lk8_427 ?_
  obtain ⟨e_6, f_6, h⟩ := zBx h
  refine a_callSx X dX8_law_6 miX8_isFrom lm8_128 (t_X8_isFrom f_6) rfl rfl (Nat.le_of_ble_eq_true rfl) ⟨by decide, by decide, by decide, by decide⟩ (fun r_6 S_6 q_6 => ?_)
  obtain ⟨rfl, rfl, b_6⟩ := q_6
  refine a_if_eq (tgt := 22) X dX8_law_9 (by decide) (fun h_9 => ?_) (fun h_9 => ?_)
  · replace h := (if_pos h_9).symm.trans h
    refine a_aload_n X dX8_law_22 rfl ?_
    refine a_iconst (v := 1) X dX8_law_23 (by decide) ?_
    obtain ⟨e_24, f_24, h⟩ := zBx h
    refine a_callVv X dX8_law_24 miX8_refuse lm8_263 (t_X8_refuse (by assumption) f_24) (by assumption) rfl rfl rfl (Nat.le_of_ble_eq_true rfl) ⟨by decide, by decide, by decide, by decide⟩ ?_
    exact Zw.to2 (J_27 _ _ _ h) rfl rfl rfl
  · replace h := (if_neg h_9).symm.trans h
    refine a_aload_n X dX8_law_12 rfl ?_
    refine a_bipush (v := 67) X dX8_law_13 (by decide) ?_
    refine a_iload_n X dX8_law_15 rfl ?_
    obtain ⟨e_16, f_16, h⟩ := zBx h
    refine a_callVv X dX8_law_16 miX8_becomes lm8_483 (t_X8_becomes (by assumption) f_16) (by assumption) rfl rfl rfl (Nat.le_of_ble_eq_true rfl) ⟨by decide, by decide, by decide, by decide⟩ ?_
    refine a_goto (tgt := 27) X dX8_law_19 (by decide) ?_
    exact Zw.to2 (J_27 _ _ _ h) rfl rfl rfl
noncomputable def D_X8_prefer_27 (P : Nat) (y0_27 : Int32) (M_27 : zMt) : Option (Int32 × zMt) :=
  some (y0_27, M_27)
noncomputable def D_X8_prefer (P : Nat) (v0 : Int32) (M : zMt) : Option (Int32 × zMt) :=
  zB (D_X8_isFrom (Int32.toInt64 v0) (0 : Int64) (100 : Int64)) fun e_6 =>
  if e_6 = 0 then
    zB (D_X8_refuse P (1 : Int32) M) fun e_24 =>
    D_X8_prefer_27 P e_24.1 e_24.2
  else
    zB (D_X8_becomes P (68 : Int32) v0 M) fun e_16 =>
    D_X8_prefer_27 P e_16.1 e_16.2
set_option maxRecDepth 100000 in
set_option maxHeartbeats 4000000 in
theorem t_X8_prefer {l : Launch} {G : zG} {b : Nat} {L : List zC} {M : zMt} {N : zNt} {P : Nat} {v0 : Int32} (hP : LX8 L P) {r : Int32 × zMt} (h : D_X8_prefer P v0 M = some r) : zM l G b yX8_prefer cX8_prefer 2 (some .int) 2 0 0 [.ref P, .int v0] (L, M, N) (fun r2 z => r2 = some (.int r.1) ∧ z = (L, r.2, N)) := by
  refine zM.of miX8_prefer (Nat.le_of_ble_eq_true rfl) ?_
  intro p e s m args below meth c X hr hname
  generalize hF : ((fun r2 z => r2 = some (.int r.1) ∧ z = (L, r.2, N)) : Option Value → zS → Prop) = FQ
  change Zw p l e { frames := 2, cells := 0, slots := 0, locals := 80 * (2) } s m args below meth c G b 2 (MQ below (zQ G b FQ) args s 0 0 (fun q : Nat => b ≤ q)) 0 0 0 [some (.ref P), some (.int v0)] [] (L, M, N)
  obtain ⟨p_lt, p_o, p_s, p_read, p_aside, p_kept, p_guest, p_readGuest, p_tape, p_unitName, p_hunterName, p_partyName, p_bits, p_partyOf, p_choiceAt, p_sizes, p_guestMany, p_pointsOf, p_ticketsOf, p_ord, p_given, p_roundOf, p_tags, p_guestTags, p_places, p_sumAt, p_sumFirst, p_sumRound, p_sumBoth, p_sumTags, p_isEnd, p_newPoints, p_inRow, p_out⟩ := id hP
  have J_27 : ∀ (x1_27 : Int32) (y0_27 : Int32) (M_27 : zMt), D_X8_prefer_27 P y0_27 M_27 = some r → Zw p l e { frames := 2, cells := 0, slots := 0, locals := 80 * (2) } s m args below meth c G b 2 (MQ below (zQ G b FQ) args s 0 0 (fun q : Nat => b ≤ q)) 0 0 27 [some (.ref (P)), some (.int x1_27)] [.int y0_27] (L, M_27, N) := by
    intro x1_27 y0_27 M_27 h
    unfold D_X8_prefer_27 at h
    refine a_iret X hr dX8_prefer_27 ⟨by decide, by decide⟩ ?_
    subst hF
    rw [← Option.some.inj h]
    exact ⟨rfl, rfl⟩
  unfold D_X8_prefer at h
  refine a_iload_n X dX8_prefer_0 rfl ?_
  refine a_i2l X dX8_prefer_1 ?_
  refine a_lconst (v := 0) X dX8_prefer_2 (by decide) ?_
  refine a_ldc2 X dX8_prefer_3 lk8_486 ?_
  obtain ⟨e_6, f_6, h⟩ := zBx h
  refine a_callSx X dX8_prefer_6 miX8_isFrom lm8_128 (t_X8_isFrom f_6) rfl rfl (Nat.le_of_ble_eq_true rfl) ⟨by decide, by decide, by decide, by decide⟩ (fun r_6 S_6 q_6 => ?_)
  obtain ⟨rfl, rfl, b_6⟩ := q_6
  refine a_if_eq (tgt := 22) X dX8_prefer_9 (by decide) (fun h_9 => ?_) (fun h_9 => ?_)
  · replace h := (if_pos h_9).symm.trans h
    refine a_aload_n X dX8_prefer_22 rfl ?_
    refine a_iconst (v := 1) X dX8_prefer_23 (by decide) ?_
    obtain ⟨e_24, f_24, h⟩ := zBx h
    refine a_callVv X dX8_prefer_24 miX8_refuse lm8_263 (t_X8_refuse (by assumption) f_24) (by assumption) rfl rfl rfl (Nat.le_of_ble_eq_true rfl) ⟨by decide, by decide, by decide, by decide⟩ ?_
    exact Zw.to2 (J_27 _ _ _ h) rfl rfl rfl
  · replace h := (if_neg h_9).symm.trans h
    refine a_aload_n X dX8_prefer_12 rfl ?_
    refine a_bipush (v := 68) X dX8_prefer_13 (by decide) ?_
    refine a_iload_n X dX8_prefer_15 rfl ?_
    obtain ⟨e_16, f_16, h⟩ := zBx h
    refine a_callVv X dX8_prefer_16 miX8_becomes lm8_483 (t_X8_becomes (by assumption) f_16) (by assumption) rfl rfl rfl (Nat.le_of_ble_eq_true rfl) ⟨by decide, by decide, by decide, by decide⟩ ?_
    refine a_goto (tgt := 27) X dX8_prefer_19 (by decide) ?_
    exact Zw.to2 (J_27 _ _ _ h) rfl rfl rfl
noncomputable def D_X8_guests_27 (P : Nat) (y0_27 : Int32) (M_27 : zMt) : Option (Int32 × zMt) :=
  some (y0_27, M_27)
noncomputable def D_X8_guests (P : Nat) (v0 : Int32) (M : zMt) : Option (Int32 × zMt) :=
  zB (D_X8_isFrom (Int32.toInt64 v0) (0 : Int64) (100 : Int64)) fun e_6 =>
  if e_6 = 0 then
    zB (D_X8_refuse P (1 : Int32) M) fun e_24 =>
    D_X8_guests_27 P e_24.1 e_24.2
  else
    zB (D_X8_becomes P (69 : Int32) v0 M) fun e_16 =>
    D_X8_guests_27 P e_16.1 e_16.2
set_option maxRecDepth 100000 in
set_option maxHeartbeats 4000000 in
theorem t_X8_guests {l : Launch} {G : zG} {b : Nat} {L : List zC} {M : zMt} {N : zNt} {P : Nat} {v0 : Int32} (hP : LX8 L P) {r : Int32 × zMt} (h : D_X8_guests P v0 M = some r) : zM l G b yX8_guests cX8_guests 2 (some .int) 2 0 0 [.ref P, .int v0] (L, M, N) (fun r2 z => r2 = some (.int r.1) ∧ z = (L, r.2, N)) := by
  refine zM.of miX8_guests (Nat.le_of_ble_eq_true rfl) ?_
  intro p e s m args below meth c X hr hname
  generalize hF : ((fun r2 z => r2 = some (.int r.1) ∧ z = (L, r.2, N)) : Option Value → zS → Prop) = FQ
  change Zw p l e { frames := 2, cells := 0, slots := 0, locals := 80 * (2) } s m args below meth c G b 2 (MQ below (zQ G b FQ) args s 0 0 (fun q : Nat => b ≤ q)) 0 0 0 [some (.ref P), some (.int v0)] [] (L, M, N)
  obtain ⟨p_lt, p_o, p_s, p_read, p_aside, p_kept, p_guest, p_readGuest, p_tape, p_unitName, p_hunterName, p_partyName, p_bits, p_partyOf, p_choiceAt, p_sizes, p_guestMany, p_pointsOf, p_ticketsOf, p_ord, p_given, p_roundOf, p_tags, p_guestTags, p_places, p_sumAt, p_sumFirst, p_sumRound, p_sumBoth, p_sumTags, p_isEnd, p_newPoints, p_inRow, p_out⟩ := id hP
  have J_27 : ∀ (x1_27 : Int32) (y0_27 : Int32) (M_27 : zMt), D_X8_guests_27 P y0_27 M_27 = some r → Zw p l e { frames := 2, cells := 0, slots := 0, locals := 80 * (2) } s m args below meth c G b 2 (MQ below (zQ G b FQ) args s 0 0 (fun q : Nat => b ≤ q)) 0 0 27 [some (.ref (P)), some (.int x1_27)] [.int y0_27] (L, M_27, N) := by
    intro x1_27 y0_27 M_27 h
    unfold D_X8_guests_27 at h
    refine a_iret X hr dX8_guests_27 ⟨by decide, by decide⟩ ?_
    subst hF
    rw [← Option.some.inj h]
    exact ⟨rfl, rfl⟩
  unfold D_X8_guests at h
  refine a_iload_n X dX8_guests_0 rfl ?_
  refine a_i2l X dX8_guests_1 ?_
  refine a_lconst (v := 0) X dX8_guests_2 (by decide) ?_
  refine a_ldc2 X dX8_guests_3 lk8_486 ?_
  obtain ⟨e_6, f_6, h⟩ := zBx h
  refine a_callSx X dX8_guests_6 miX8_isFrom lm8_128 (t_X8_isFrom f_6) rfl rfl (Nat.le_of_ble_eq_true rfl) ⟨by decide, by decide, by decide, by decide⟩ (fun r_6 S_6 q_6 => ?_)
  obtain ⟨rfl, rfl, b_6⟩ := q_6
  refine a_if_eq (tgt := 22) X dX8_guests_9 (by decide) (fun h_9 => ?_) (fun h_9 => ?_)
  · replace h := (if_pos h_9).symm.trans h
    refine a_aload_n X dX8_guests_22 rfl ?_
    refine a_iconst (v := 1) X dX8_guests_23 (by decide) ?_
    obtain ⟨e_24, f_24, h⟩ := zBx h
    refine a_callVv X dX8_guests_24 miX8_refuse lm8_263 (t_X8_refuse (by assumption) f_24) (by assumption) rfl rfl rfl (Nat.le_of_ble_eq_true rfl) ⟨by decide, by decide, by decide, by decide⟩ ?_
    exact Zw.to2 (J_27 _ _ _ h) rfl rfl rfl
  · replace h := (if_neg h_9).symm.trans h
    refine a_aload_n X dX8_guests_12 rfl ?_
    refine a_bipush (v := 69) X dX8_guests_13 (by decide) ?_
    refine a_iload_n X dX8_guests_15 rfl ?_
    obtain ⟨e_16, f_16, h⟩ := zBx h
    refine a_callVv X dX8_guests_16 miX8_becomes lm8_483 (t_X8_becomes (by assumption) f_16) (by assumption) rfl rfl rfl (Nat.le_of_ble_eq_true rfl) ⟨by decide, by decide, by decide, by decide⟩ ?_
    refine a_goto (tgt := 27) X dX8_guests_19 (by decide) ?_
    exact Zw.to2 (J_27 _ _ _ h) rfl rfl rfl
noncomputable def D_X8_split (P : Nat) (v0 : Int32) (M : zMt) : Option (Int32 × zMt) :=
  zB (D_X8_isParty P M v0) fun e_2 =>
  if e_2 = 0 then
    zB (D_X8_refuse P (2 : Int32) M) fun e_10 =>
    some (e_10.1, e_10.2)
  else
    zB (D_X8_keeps P M) fun e_15 =>
    zB (D_X8_splits P v0 e_15) fun e_20 =>
    zB (D_X8_laysApplicants P e_20) fun e_24 =>
    zB (D_X8_gives P (e_24 P 33) e_24) fun e_32 =>
    some (e_32.1, e_32.2)
set_option maxRecDepth 100000 in
set_option maxHeartbeats 4000000 in
theorem t_X8_split {l : Launch} {G : zG} {b : Nat} {L : List zC} {M : zMt} {N : zNt} {P : Nat} {v0 : Int32} (hP : LX8 L P) {r : Int32 × zMt} (h : D_X8_split P v0 M = some r) : zM l G b yX8_split cX8_split 2 (some .int) 3 0 0 [.ref P, .int v0] (L, M, N) (fun r2 z => r2 = some (.int r.1) ∧ z = (L, r.2, N)) := by
  refine zM.of miX8_split (Nat.le_of_ble_eq_true rfl) ?_
  intro p e s m args below meth c X hr hname
  generalize hF : ((fun r2 z => r2 = some (.int r.1) ∧ z = (L, r.2, N)) : Option Value → zS → Prop) = FQ
  change Zw p l e { frames := 3, cells := 0, slots := 0, locals := 80 * (3) } s m args below meth c G b 2 (MQ below (zQ G b FQ) args s 0 0 (fun q : Nat => b ≤ q)) 0 0 0 [some (.ref P), some (.int v0)] [] (L, M, N)
  obtain ⟨p_lt, p_o, p_s, p_read, p_aside, p_kept, p_guest, p_readGuest, p_tape, p_unitName, p_hunterName, p_partyName, p_bits, p_partyOf, p_choiceAt, p_sizes, p_guestMany, p_pointsOf, p_ticketsOf, p_ord, p_given, p_roundOf, p_tags, p_guestTags, p_places, p_sumAt, p_sumFirst, p_sumRound, p_sumBoth, p_sumTags, p_isEnd, p_newPoints, p_inRow, p_out⟩ := id hP
  unfold D_X8_split at h
  refine a_aload_n X dX8_split_0 rfl ?_
  refine a_iload_n X dX8_split_1 rfl ?_
  obtain ⟨e_2, f_2, h⟩ := zBx h
  refine a_callVx X dX8_split_2 miX8_isParty lm8_463 (t_X8_isParty (by assumption) f_2) (by assumption) rfl rfl rfl (Nat.le_of_ble_eq_true rfl) ⟨by decide, by decide, by decide, by decide⟩ (fun r_2 S_2 q_2 => ?_)
  obtain ⟨rfl, rfl, b_2⟩ := q_2
  refine a_if_ne (tgt := 14) X dX8_split_5 (by decide) (fun h_5 => ?_) (fun h_5 => ?_)
  · replace h := (if_neg h_5).symm.trans h
    refine a_aload_n X dX8_split_14 rfl ?_
    obtain ⟨e_15, f_15, h⟩ := zBx h
    refine a_callVu X dX8_split_15 miX8_keeps lm8_480 (t_X8_keeps (by assumption) f_15) (by assumption) rfl rfl rfl (Nat.le_of_ble_eq_true rfl) ⟨by decide, by decide, by decide, by decide⟩ ?_
    refine a_aload_n X dX8_split_18 rfl ?_
    refine a_iload_n X dX8_split_19 rfl ?_
    obtain ⟨e_20, f_20, h⟩ := zBx h
    refine a_callVu X dX8_split_20 miX8_splits lm8_466 (t_X8_splits (by assumption) f_20) (by assumption) rfl rfl rfl (Nat.le_of_ble_eq_true rfl) ⟨by decide, by decide, by decide, by decide⟩ ?_
    refine a_aload_n X dX8_split_23 rfl ?_
    obtain ⟨e_24, f_24, h⟩ := zBx h
    refine a_callVu X dX8_split_24 miX8_laysApplicants lm8_281 (t_X8_laysApplicants (by assumption) f_24) (by assumption) rfl rfl rfl (Nat.le_of_ble_eq_true rfl) ⟨by decide, by decide, by decide, by decide⟩ ?_
    refine a_aload_n X dX8_split_27 rfl ?_
    refine a_aload_n X dX8_split_28 rfl ?_
    refine a_geti X lf8_275 (by assumption) rfl dX8_split_29 ?_
    obtain ⟨e_32, f_32, h⟩ := zBx h
    refine a_callVv X dX8_split_32 miX8_gives lm8_272 (t_X8_gives (by assumption) f_32) (by assumption) rfl rfl rfl (Nat.le_of_ble_eq_true rfl) ⟨by decide, by decide, by decide, by decide⟩ ?_
    refine a_iret X hr dX8_split_35 ⟨by decide, by decide⟩ ?_
    subst hF
    rw [← Option.some.inj h]
    exact ⟨rfl, rfl⟩
  · replace h := (if_pos h_5).symm.trans h
    refine a_aload_n X dX8_split_8 rfl ?_
    refine a_iconst (v := 2) X dX8_split_9 (by decide) ?_
    obtain ⟨e_10, f_10, h⟩ := zBx h
    refine a_callVv X dX8_split_10 miX8_refuse lm8_263 (t_X8_refuse (by assumption) f_10) (by assumption) rfl rfl rfl (Nat.le_of_ble_eq_true rfl) ⟨by decide, by decide, by decide, by decide⟩ ?_
    refine a_iret X hr dX8_split_13 ⟨by decide, by decide⟩ ?_
    subst hF
    rw [← Option.some.inj h]
    exact ⟨rfl, rfl⟩
noncomputable def D_X8_prints (P : Nat) (v0 : Int32) (M : zMt) : Option (zMt) :=
  zI (M P 64) 64 <|
  zLt (zu M (P + 32) (M P 64).toNatClampNeg v0) fun M_9 =>
  zLt (zu M_9 P 64 ((M_9 P 64) + (1 : Int32))) fun M_17 =>
  some (M_17)
set_option maxRecDepth 100000 in
set_option maxHeartbeats 4000000 in
theorem t_X8_prints {l : Launch} {G : zG} {b : Nat} {L : List zC} {M : zMt} {N : zNt} {P : Nat} {v0 : Int32} (hP : LX8 L P) {r : zMt} (h : D_X8_prints P v0 M = some r) : zM l G b yX8_prints cX8_prints 2 none 0 0 0 [.ref P, .int v0] (L, M, N) (fun r2 z => r2 = none ∧ z = (L, r, N)) := by
  refine zM.of miX8_prints (Nat.le_of_ble_eq_true rfl) ?_
  intro p e s m args below meth c X hr hname
  generalize hF : ((fun r2 z => r2 = none ∧ z = (L, r, N)) : Option Value → zS → Prop) = FQ
  change Zw p l e { frames := 0, cells := 0, slots := 0, locals := 80 * (0) } s m args below meth c G b 2 (MQ below (zQ G b FQ) args s 0 0 (fun q : Nat => b ≤ q)) 0 0 0 [some (.ref P), some (.int v0)] [] (L, M, N)
  obtain ⟨p_lt, p_o, p_s, p_read, p_aside, p_kept, p_guest, p_readGuest, p_tape, p_unitName, p_hunterName, p_partyName, p_bits, p_partyOf, p_choiceAt, p_sizes, p_guestMany, p_pointsOf, p_ticketsOf, p_ord, p_given, p_roundOf, p_tags, p_guestTags, p_places, p_sumAt, p_sumFirst, p_sumRound, p_sumBoth, p_sumTags, p_isEnd, p_newPoints, p_inRow, p_out⟩ := id hP
  unfold D_X8_prints at h
  refine a_aload_n X dX8_prints_0 rfl ?_
  refine a_getr X lf8_112 (by assumption) rfl (by omega) dX8_prints_1 ?_
  refine a_aload_n X dX8_prints_4 rfl ?_
  refine a_geti X lf8_488 (by assumption) rfl dX8_prints_5 ?_
  refine a_iload_n X dX8_prints_8 rfl ?_
  obtain ⟨g_9, h⟩ := zIx h
  obtain ⟨M_9, f_9, h⟩ := zLtx h
  refine d_iastore X (by assumption) g_9 dX8_prints_9 f_9 ?_
  refine a_aload_n X dX8_prints_10 rfl ?_
  refine a_dup X dX8_prints_11 rfl ?_
  refine a_geti X lf8_488 (by assumption) rfl dX8_prints_12 ?_
  refine a_iconst (v := 1) X dX8_prints_15 (by decide) ?_
  refine a_iadd X dX8_prints_16 ?_
  obtain ⟨M_17, f_17, h⟩ := zLtx h
  refine d_puti X lf8_488 (by assumption) rfl dX8_prints_17 f_17 ?_
  refine a_vret X hr dX8_prints_20 ⟨by decide, by decide⟩ ?_
  subst hF
  rw [← Option.some.inj h]
  exact ⟨rfl, rfl⟩
noncomputable def D_X8_print_98 (P : Nat) (k25 : Int32 → zMt → zNt → Option (Int32 × zMt × zNt)) (x2_98 : Int32) (M_98 : zMt) (N_98 : zNt) : Option (Int32 × zMt × zNt) :=
  zB (D_X8_prints P (59 : Int32) M_98) fun e_101 =>
  k25 (x2_98 + 1) e_101 N_98
noncomputable def D_X8_print_79 (P : Nat) (k25 : Int32 → zMt → zNt → Option (Int32 × zMt × zNt)) (x2_79 : Int32) (x3_79 : Int32) (y1_79 : Int32) (M_79 : zMt) (N_79 : zNt) : Option (Int32 × zMt × zNt) :=
  zB (D_X8_prints P y1_79 M_79) fun e_79 =>
  zI x3_79 10 <|
  if (e_79 (P + 20) x3_79.toNatClampNeg) = (1 : Int32) then
    zB (D_X8_prints P (33 : Int32) e_79) fun e_95 =>
    D_X8_print_98 P k25 x2_79 e_95 N_79
  else
    D_X8_print_98 P k25 x2_79 e_79 N_79
noncomputable def D_X8_print_25 (P : Nat) : Nat → Int32 → zMt → zNt → Option (Int32 × zMt × zNt)
  | 0, _, _, _ => none
  | n + 1, x2_25, M_25, N_25 =>
    if (M_25 P 33) ≤ x2_25 then
      zB (D_X8_gives P (M_25 P 64) M_25) fun e_115 =>
      some (e_115.1, e_115.2, N_25)
    else
      zI x2_25 10 <|
      zB (D_X8_prints P ((48 : Int32) + (M_25 (P + 18) x2_25.toNatClampNeg)) M_25) fun e_45 =>
      zB (D_X8_prints P (61 : Int32) e_45) fun e_51 =>
      zI (M_25 (P + 18) x2_25.toNatClampNeg) 10 <|
      if (e_51 (P + 19) (M_25 (P + 18) x2_25.toNatClampNeg).toNatClampNeg) = (-1 : Int32) then
        D_X8_print_79 P (D_X8_print_25 P n) x2_25 (M_25 (P + 18) x2_25.toNatClampNeg) (45 : Int32) e_51 N_25
      else
        zI (M_25 (P + 18) x2_25.toNatClampNeg) 10 <|
        D_X8_print_79 P (D_X8_print_25 P n) x2_25 (M_25 (P + 18) x2_25.toNatClampNeg) ((48 : Int32) + (e_51 (P + 19) (M_25 (P + 18) x2_25.toNatClampNeg).toNatClampNeg)) e_51 N_25
noncomputable def D_X8_print (P : Nat) (v0 : Int32) (M : zMt) (N : zNt) : Option (Int32 × zMt × zNt) :=
  zB (D_X8_isSeed v0) fun e_1 =>
  if e_1 = 0 then
    zB (D_X8_refuse P (1 : Int32) M) fun e_9 =>
    some (e_9.1, e_9.2, N)
  else
    zB (D_X8_laysResult P v0 M N) fun e_15 =>
    zLt (zu e_15.1 P 64 (0 : Int32)) fun M_20 =>
    D_X8_print_25 P zFu (0 : Int32) M_20 e_15.2
set_option maxRecDepth 100000 in
set_option maxHeartbeats 4000000 in
theorem t_X8_print {l : Launch} {G : zG} {b : Nat} {L : List zC} {M : zMt} {N : zNt} {P : Nat} {v0 : Int32} (hP : LX8 L P) {r : Int32 × zMt × zNt} (h : D_X8_print P v0 M N = some r) : zM l G b yX8_print cX8_print 4 (some .int) 5 0 0 [.ref P, .int v0] (L, M, N) (fun r2 z => r2 = some (.int r.1) ∧ z = (L, r.2.1, r.2.2)) := by
  refine zM.of miX8_print (Nat.le_of_ble_eq_true rfl) ?_
  intro p e s m args below meth c X hr hname
  generalize hF : ((fun r2 z => r2 = some (.int r.1) ∧ z = (L, r.2.1, r.2.2)) : Option Value → zS → Prop) = FQ
  change Zw p l e { frames := 5, cells := 0, slots := 0, locals := 80 * (5) } s m args below meth c G b 4 (MQ below (zQ G b FQ) args s 0 0 (fun q : Nat => b ≤ q)) 0 0 0 [some (.ref P), some (.int v0), none, none] [] (L, M, N)
  obtain ⟨p_lt, p_o, p_s, p_read, p_aside, p_kept, p_guest, p_readGuest, p_tape, p_unitName, p_hunterName, p_partyName, p_bits, p_partyOf, p_choiceAt, p_sizes, p_guestMany, p_pointsOf, p_ticketsOf, p_ord, p_given, p_roundOf, p_tags, p_guestTags, p_places, p_sumAt, p_sumFirst, p_sumRound, p_sumBoth, p_sumTags, p_isEnd, p_newPoints, p_inRow, p_out⟩ := id hP
  have L_25 : ∀ u : Nat, ∀ (x1_25 : Int32) (x2_25 : Int32) (x3_25 : Option Value) (M_25 : zMt) (N_25 : zNt), D_X8_print_25 P u x2_25 M_25 N_25 = some r → Zw p l e { frames := 5, cells := 0, slots := 0, locals := 80 * (5) } s m args below meth c G b 4 (MQ below (zQ G b FQ) args s 0 0 (fun q : Nat => b ≤ q)) 0 0 25 [some (.ref (P)), some (.int x1_25), some (.int x2_25), x3_25] [] (L, M_25, N_25) := by
    intro u
    induction u with
    | zero => intro x1_25 x2_25 x3_25 M_25 N_25 h; cases (show none = some r from h)
    | succ u_25 ih_25 =>
      have J_98 : ∀ (x1_98 : Int32) (x2_98 : Int32) (x3_98 : Int32) (M_98 : zMt) (N_98 : zNt), D_X8_print_98 P (D_X8_print_25 P u_25) x2_98 M_98 N_98 = some r → Zw p l e { frames := 5, cells := 0, slots := 0, locals := 80 * (5) } s m args below meth c G b 4 (MQ below (zQ G b FQ) args s 0 0 (fun q : Nat => b ≤ q)) 0 0 98 [some (.ref (P)), some (.int x1_98), some (.int x2_98), some (.int x3_98)] [] (L, M_98, N_98) := by
        intro x1_98 x2_98 x3_98 M_98 N_98 h
        unfold D_X8_print_98 at h
        refine a_aload_n X dX8_print_98 rfl ?_
        refine a_bipush (v := 59) X dX8_print_99 (by decide) ?_
        obtain ⟨e_101, f_101, h⟩ := zBx h
        refine a_callVu X dX8_print_101 miX8_prints lm8_491 (t_X8_prints (by assumption) f_101) (by assumption) rfl rfl rfl (Nat.le_of_ble_eq_true rfl) ⟨by decide, by decide, by decide, by decide⟩ ?_
        refine a_iinc (v := x2_98 + 1) X dX8_print_104 (by decide) rfl zi_1 ?_
        refine a_goto (tgt := 25) X dX8_print_107 (by decide) ?_
        exact Zw.to2 (ih_25 _ _ _ _ _ h) rfl rfl rfl
      have J_79 : ∀ (x1_79 : Int32) (x2_79 : Int32) (x3_79 : Int32) (y1_79 : Int32) (M_79 : zMt) (N_79 : zNt), D_X8_print_79 P (D_X8_print_25 P u_25) x2_79 x3_79 y1_79 M_79 N_79 = some r → Zw p l e { frames := 5, cells := 0, slots := 0, locals := 80 * (5) } s m args below meth c G b 4 (MQ below (zQ G b FQ) args s 0 0 (fun q : Nat => b ≤ q)) 0 0 79 [some (.ref (P)), some (.int x1_79), some (.int x2_79), some (.int x3_79)] [.int y1_79, .ref (P)] (L, M_79, N_79) := by
        intro x1_79 x2_79 x3_79 y1_79 M_79 N_79 h
        unfold D_X8_print_79 at h
        obtain ⟨e_79, f_79, h⟩ := zBx h
        refine a_callVu X dX8_print_79 miX8_prints lm8_491 (t_X8_prints (by assumption) f_79) (by assumption) rfl rfl rfl (Nat.le_of_ble_eq_true rfl) ⟨by decide, by decide, by decide, by decide⟩ ?_
        refine a_aload_n X dX8_print_82 rfl ?_
        refine a_getr X lf8_76 (by assumption) rfl (by omega) dX8_print_83 ?_
        refine a_iload_n X dX8_print_86 rfl ?_
        obtain ⟨g_87, h⟩ := zIx h
        refine a_iaload X (by assumption) g_87 dX8_print_87 ?_
        refine a_iconst (v := 1) X dX8_print_88 (by decide) ?_
        refine a_icmp_ne (tgt := 98) X dX8_print_89 (by decide) (fun h_89 => ?_) (fun h_89 => ?_)
        · replace h := (if_neg h_89).symm.trans h
          exact Zw.to2 (J_98 _ _ _ _ _ h) rfl rfl rfl
        · replace h := (if_pos h_89).symm.trans h
          refine a_aload_n X dX8_print_92 rfl ?_
          refine a_bipush (v := 33) X dX8_print_93 (by decide) ?_
          obtain ⟨e_95, f_95, h⟩ := zBx h
          refine a_callVu X dX8_print_95 miX8_prints lm8_491 (t_X8_prints (by assumption) f_95) (by assumption) rfl rfl rfl (Nat.le_of_ble_eq_true rfl) ⟨by decide, by decide, by decide, by decide⟩ ?_
          exact Zw.to2 (J_98 _ _ _ _ _ h) rfl rfl rfl
      intro x1_25 x2_25 x3_25 M_25 N_25 h
      rw [D_X8_print_25] at h
      refine a_iload_n X dX8_print_25 rfl ?_
      refine a_aload_n X dX8_print_26 rfl ?_
      refine a_geti X lf8_275 (by assumption) rfl dX8_print_27 ?_
      refine a_icmp_ge (tgt := 110) X dX8_print_30 (by decide) (fun h_30 => ?_) (fun h_30 => ?_)
      · replace h := (if_pos h_30).symm.trans h
        refine a_aload_n X dX8_print_110 rfl ?_
        refine a_aload_n X dX8_print_111 rfl ?_
        refine a_geti X lf8_488 (by assumption) rfl dX8_print_112 ?_
        obtain ⟨e_115, f_115, h⟩ := zBx h
        refine a_callVv X dX8_print_115 miX8_gives lm8_272 (t_X8_gives (by assumption) f_115) (by assumption) rfl rfl rfl (Nat.le_of_ble_eq_true rfl) ⟨by decide, by decide, by decide, by decide⟩ ?_
        refine a_iret X hr dX8_print_118 ⟨by decide, by decide⟩ ?_
        subst hF
        rw [← Option.some.inj h]
        exact ⟨rfl, rfl⟩
      · replace h := (if_neg h_30).symm.trans h
        refine a_aload_n X dX8_print_33 rfl ?_
        refine a_getr X lf8_70 (by assumption) rfl (by omega) dX8_print_34 ?_
        refine a_iload_n X dX8_print_37 rfl ?_
        obtain ⟨g_38, h⟩ := zIx h
        refine a_iaload X (by assumption) g_38 dX8_print_38 ?_
        refine a_istore_n X dX8_print_39 (by decide) ?_
        refine a_aload_n X dX8_print_40 rfl ?_
        refine a_bipush (v := 48) X dX8_print_41 (by decide) ?_
        refine a_iload_n X dX8_print_43 rfl ?_
        refine a_iadd X dX8_print_44 ?_
        obtain ⟨e_45, f_45, h⟩ := zBx h
        refine a_callVu X dX8_print_45 miX8_prints lm8_491 (t_X8_prints (by assumption) f_45) (by assumption) rfl rfl rfl (Nat.le_of_ble_eq_true rfl) ⟨by decide, by decide, by decide, by decide⟩ ?_
        refine a_aload_n X dX8_print_48 rfl ?_
        refine a_bipush (v := 61) X dX8_print_49 (by decide) ?_
        obtain ⟨e_51, f_51, h⟩ := zBx h
        refine a_callVu X dX8_print_51 miX8_prints lm8_491 (t_X8_prints (by assumption) f_51) (by assumption) rfl rfl rfl (Nat.le_of_ble_eq_true rfl) ⟨by decide, by decide, by decide, by decide⟩ ?_
        refine a_aload_n X dX8_print_54 rfl ?_
        refine a_aload_n X dX8_print_55 rfl ?_
        refine a_getr X lf8_73 (by assumption) rfl (by omega) dX8_print_56 ?_
        refine a_iload_n X dX8_print_59 rfl ?_
        obtain ⟨g_60, h⟩ := zIx h
        refine a_iaload X (by assumption) g_60 dX8_print_60 ?_
        refine a_iconst (v := -1) X dX8_print_61 (by decide) ?_
        refine a_icmp_ne (tgt := 70) X dX8_print_62 (by decide) (fun h_62 => ?_) (fun h_62 => ?_)
        · replace h := (if_neg h_62).symm.trans h
          refine a_bipush (v := 48) X dX8_print_70 (by decide) ?_
          refine a_aload_n X dX8_print_72 rfl ?_
          refine a_getr X lf8_73 (by assumption) rfl (by omega) dX8_print_73 ?_
          refine a_iload_n X dX8_print_76 rfl ?_
          obtain ⟨g_77, h⟩ := zIx h
          refine a_iaload X (by assumption) g_77 dX8_print_77 ?_
          refine a_iadd X dX8_print_78 ?_
          exact Zw.to2 (J_79 _ _ _ _ _ _ h) rfl rfl rfl
        · replace h := (if_pos h_62).symm.trans h
          refine a_bipush (v := 45) X dX8_print_65 (by decide) ?_
          refine a_goto (tgt := 79) X dX8_print_67 (by decide) ?_
          exact Zw.to2 (J_79 _ _ _ _ _ _ h) rfl rfl rfl
  have H_25 : ∀ (x1_25 : Int32) (x2_25 : Int32) (x3_25 : Option Value) (M_25 : zMt) (N_25 : zNt), D_X8_print_25 P zFu x2_25 M_25 N_25 = some r → Zw p l e { frames := 5, cells := 0, slots := 0, locals := 80 * (5) } s m args below meth c G b 4 (MQ below (zQ G b FQ) args s 0 0 (fun q : Nat => b ≤ q)) 0 0 25 [some (.ref (P)), some (.int x1_25), some (.int x2_25), x3_25] [] (L, M_25, N_25) := L_25 zFu
  unfold D_X8_print at h
  refine a_iload_n X dX8_print_0 rfl ?_
  obtain ⟨e_1, f_1, h⟩ := zBx h
  refine a_callSx X dX8_print_1 miX8_isSeed lm8_358 (t_X8_isSeed f_1) rfl rfl (Nat.le_of_ble_eq_true rfl) ⟨by decide, by decide, by decide, by decide⟩ (fun r_1 S_1 q_1 => ?_)
  obtain ⟨rfl, rfl, b_1⟩ := q_1
  refine a_if_ne (tgt := 13) X dX8_print_4 (by decide) (fun h_4 => ?_) (fun h_4 => ?_)
  · replace h := (if_neg h_4).symm.trans h
    refine a_aload_n X dX8_print_13 rfl ?_
    refine a_iload_n X dX8_print_14 rfl ?_
    obtain ⟨e_15, f_15, h⟩ := zBx h
    refine a_callVu X dX8_print_15 miX8_laysResult lm8_361 (t_X8_laysResult (by assumption) f_15) (by assumption) rfl rfl rfl (Nat.le_of_ble_eq_true rfl) ⟨by decide, by decide, by decide, by decide⟩ ?_
    refine a_aload_n X dX8_print_18 rfl ?_
    refine a_iconst (v := 0) X dX8_print_19 (by decide) ?_
    obtain ⟨M_20, f_20, h⟩ := zLtx h
    refine d_puti X lf8_488 (by assumption) rfl dX8_print_20 f_20 ?_
    refine a_iconst (v := 0) X dX8_print_23 (by decide) ?_
    refine a_istore_n X dX8_print_24 (by decide) ?_
    exact Zw.to2 (H_25 _ _ _ _ _ h) rfl rfl rfl
  · replace h := (if_pos h_4).symm.trans h
    refine a_aload_n X dX8_print_7 rfl ?_
    refine a_iconst (v := 1) X dX8_print_8 (by decide) ?_
    obtain ⟨e_9, f_9, h⟩ := zBx h
    refine a_callVv X dX8_print_9 miX8_refuse lm8_263 (t_X8_refuse (by assumption) f_9) (by assumption) rfl rfl rfl (Nat.le_of_ble_eq_true rfl) ⟨by decide, by decide, by decide, by decide⟩ ?_
    refine a_iret X hr dX8_print_12 ⟨by decide, by decide⟩ ?_
    subst hF
    rw [← Option.some.inj h]
    exact ⟨rfl, rfl⟩
noncomputable def D_X8_out_36 (P : Nat) (y0_36 : Int32) (M_36 : zMt) : Option (Int32 × zMt) :=
  some (y0_36, M_36)
noncomputable def D_X8_out (P : Nat) (v0 : Int32) (M : zMt) : Option (Int32 × zMt) :=
  if 0 ≤ v0 then
    if (M P 64) ≤ v0 then
      zB (D_X8_refuse P (5 : Int32) M) fun e_33 =>
      D_X8_out_36 P e_33.1 e_33.2
    else
      zI v0 64 <|
      zB (D_X8_gives P (M (P + 32) v0.toNatClampNeg) M) fun e_25 =>
      D_X8_out_36 P e_25.1 e_25.2
  else
    zB (D_X8_refuse P (1 : Int32) M) fun e_6 =>
    some (e_6.1, e_6.2)
set_option maxRecDepth 100000 in
set_option maxHeartbeats 4000000 in
theorem t_X8_out {l : Launch} {G : zG} {b : Nat} {L : List zC} {M : zMt} {N : zNt} {P : Nat} {v0 : Int32} (hP : LX8 L P) {r : Int32 × zMt} (h : D_X8_out P v0 M = some r) : zM l G b yX8_out cX8_out 2 (some .int) 1 0 0 [.ref P, .int v0] (L, M, N) (fun r2 z => r2 = some (.int r.1) ∧ z = (L, r.2, N)) := by
  refine zM.of miX8_out (Nat.le_of_ble_eq_true rfl) ?_
  intro p e s m args below meth c X hr hname
  generalize hF : ((fun r2 z => r2 = some (.int r.1) ∧ z = (L, r.2, N)) : Option Value → zS → Prop) = FQ
  change Zw p l e { frames := 1, cells := 0, slots := 0, locals := 80 * (1) } s m args below meth c G b 2 (MQ below (zQ G b FQ) args s 0 0 (fun q : Nat => b ≤ q)) 0 0 0 [some (.ref P), some (.int v0)] [] (L, M, N)
  obtain ⟨p_lt, p_o, p_s, p_read, p_aside, p_kept, p_guest, p_readGuest, p_tape, p_unitName, p_hunterName, p_partyName, p_bits, p_partyOf, p_choiceAt, p_sizes, p_guestMany, p_pointsOf, p_ticketsOf, p_ord, p_given, p_roundOf, p_tags, p_guestTags, p_places, p_sumAt, p_sumFirst, p_sumRound, p_sumBoth, p_sumTags, p_isEnd, p_newPoints, p_inRow, p_out⟩ := id hP
  have J_36 : ∀ (x1_36 : Int32) (y0_36 : Int32) (M_36 : zMt), D_X8_out_36 P y0_36 M_36 = some r → Zw p l e { frames := 1, cells := 0, slots := 0, locals := 80 * (1) } s m args below meth c G b 2 (MQ below (zQ G b FQ) args s 0 0 (fun q : Nat => b ≤ q)) 0 0 36 [some (.ref (P)), some (.int x1_36)] [.int y0_36] (L, M_36, N) := by
    intro x1_36 y0_36 M_36 h
    unfold D_X8_out_36 at h
    refine a_iret X hr dX8_out_36 ⟨by decide, by decide⟩ ?_
    subst hF
    rw [← Option.some.inj h]
    exact ⟨rfl, rfl⟩
  unfold D_X8_out at h
  refine a_iload_n X dX8_out_0 rfl ?_
  refine a_if_ge (tgt := 10) X dX8_out_1 (by decide) (fun h_1 => ?_) (fun h_1 => ?_)
  · replace h := (if_pos h_1).symm.trans h
    refine a_iload_n X dX8_out_10 rfl ?_
    refine a_aload_n X dX8_out_11 rfl ?_
    refine a_geti X lf8_488 (by assumption) rfl dX8_out_12 ?_
    refine a_icmp_ge (tgt := 31) X dX8_out_15 (by decide) (fun h_15 => ?_) (fun h_15 => ?_)
    · replace h := (if_pos h_15).symm.trans h
      refine a_aload_n X dX8_out_31 rfl ?_
      refine a_iconst (v := 5) X dX8_out_32 (by decide) ?_
      obtain ⟨e_33, f_33, h⟩ := zBx h
      refine a_callVv X dX8_out_33 miX8_refuse lm8_263 (t_X8_refuse (by assumption) f_33) (by assumption) rfl rfl rfl (Nat.le_of_ble_eq_true rfl) ⟨by decide, by decide, by decide, by decide⟩ ?_
      exact Zw.to2 (J_36 _ _ _ h) rfl rfl rfl
    · replace h := (if_neg h_15).symm.trans h
      refine a_aload_n X dX8_out_18 rfl ?_
      refine a_aload_n X dX8_out_19 rfl ?_
      refine a_getr X lf8_112 (by assumption) rfl (by omega) dX8_out_20 ?_
      refine a_iload_n X dX8_out_23 rfl ?_
      obtain ⟨g_24, h⟩ := zIx h
      refine a_iaload X (by assumption) g_24 dX8_out_24 ?_
      obtain ⟨e_25, f_25, h⟩ := zBx h
      refine a_callVv X dX8_out_25 miX8_gives lm8_272 (t_X8_gives (by assumption) f_25) (by assumption) rfl rfl rfl (Nat.le_of_ble_eq_true rfl) ⟨by decide, by decide, by decide, by decide⟩ ?_
      refine a_goto (tgt := 36) X dX8_out_28 (by decide) ?_
      exact Zw.to2 (J_36 _ _ _ h) rfl rfl rfl
  · replace h := (if_neg h_1).symm.trans h
    refine a_aload_n X dX8_out_4 rfl ?_
    refine a_iconst (v := 1) X dX8_out_5 (by decide) ?_
    obtain ⟨e_6, f_6, h⟩ := zBx h
    refine a_callVv X dX8_out_6 miX8_refuse lm8_263 (t_X8_refuse (by assumption) f_6) (by assumption) rfl rfl rfl (Nat.le_of_ble_eq_true rfl) ⟨by decide, by decide, by decide, by decide⟩ ?_
    refine a_iret X hr dX8_out_9 ⟨by decide, by decide⟩ ?_
    subst hF
    rw [← Option.some.inj h]
    exact ⟨rfl, rfl⟩
