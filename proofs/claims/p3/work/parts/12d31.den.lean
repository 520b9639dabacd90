noncomputable def D_X8_prefer_27 (P : Nat) (y0_27 : Int32) (M_27 : zMt) : Option (Int32 × zMt) :=
  some (y0_27, M_27)
noncomputable def D_X8_prefer (P : Nat) (v0 : Int32) (M : zMt) : Option (Int32 × zMt) :=
  zB (D_X8_isFrom (Int32.toInt64 v0) (0 : Int64) (100 : Int64)) fun e_6 =>
  if e_6 = 0 then
    zB (D_X8_refuse P (1 : Int32) M) fun e_24 =>
    D_X8_prefer_27 P e_24.1 e_24.2
  else
    zB (D_X8_becomes P (68 : Int32) v0 M) fun e_16 =>
    D_X8_prefer_27 P e_16.1 e_16.2
set_option maxRecDepth 100000 in
set_option maxHeartbeats 4000000 in
theorem t_X8_prefer {l : Launch} {G : zG} {b : Nat} {L : List zC} {M : zMt} {N : zNt} {P : Nat} (hP : LX8 L P) {v0 : Int32} {r : Int32 × zMt} (h : D_X8_prefer P v0 M = some r) : zM l G b yX8_prefer cX8_prefer 2 (some .int) 2 0 0 [.ref P, .int v0] (L, M, N) (fun r2 z => r2 = some (.int r.1) ∧ z = (L, r.2, N)) := by
  refine zM.of miX8_prefer (Nat.le_of_ble_eq_true rfl) ?_
  intro p e s m args below meth c X hr hname
  generalize hF : ((fun r2 z => r2 = some (.int r.1) ∧ z = (L, r.2, N)) : Option Value → zS → Prop) = FQ
  change Zw p l e { frames := 2, cells := 0, slots := 0, locals := 80 * (2) } s m args below meth c G b 2 (MQ below (zQ G b FQ) args s 0 0 (fun q : Nat => b ≤ q)) 0 0 0 [some (.ref P), some (.int v0)] [] (L, M, N)
  obtain ⟨p_lt, p_o, p_s, p_read, p_aside, p_kept, p_guest, p_readGuest, p_tape, p_unitName, p_hunterName, p_partyName, p_bits, p_partyOf, p_choiceAt, p_sizes, p_guestMany, p_pointsOf, p_ticketsOf, p_ord, p_given, p_roundOf, p_tags, p_guestTags, p_places, p_sumAt, p_sumFirst, p_sumRound, p_sumBoth, p_sumTags, p_isEnd, p_newPoints, p_inRow, p_out⟩ := id hP
  have J_27 : ∀ (x1_27 : Int32) (y0_27 : Int32) (M_27 : zMt), D_X8_prefer_27 P y0_27 M_27 = some r → Zw p l e { frames := 2, cells := 0, slots := 0, locals := 80 * (2) } s m args below meth c G b 2 (MQ below (zQ G b FQ) args s 0 0 (fun q : Nat => b ≤ q)) 0 0 27 [some (.ref (P)), some (.int x1_27)] [.int y0_27] (L, M_27, N) := by
    intro x1_27 y0_27 M_27 h
    unfold D_X8_prefer_27 at h
    refine a_iret X hr dX8_prefer_27 ⟨by decide, by decide⟩ ?_
    subst hF
    rw [← Option.some.inj h]
    exact ⟨rfl, rfl⟩
  unfold D_X8_prefer at h
  refine a_iload_n X dX8_prefer_0 rfl ?_
  refine a_i2l X dX8_prefer_1 ?_
  refine a_lconst (v := 0) X dX8_prefer_2 (by decide) ?_
  refine a_ldc2 X dX8_prefer_3 lk8_486 ?_
  obtain ⟨e_6, f_6, h⟩ := zBx h
  refine a_callSx X dX8_prefer_6 miX8_isFrom lm8_128 (t_X8_isFrom f_6) rfl rfl (Nat.le_of_ble_eq_true rfl) ⟨by decide, by decide, by decide, by decide⟩ (fun r_6 S_6 q_6 => ?_)
  obtain ⟨rfl, rfl, b_6⟩ := q_6
  refine a_if_eq (tgt := 22) X dX8_prefer_9 (by decide) (fun h_9 => ?_) (fun h_9 => ?_)
  · replace h := (if_pos h_9).symm.trans h
    refine a_aload_n X dX8_prefer_22 rfl ?_
    refine a_iconst (v := 1) X dX8_prefer_23 (by decide) ?_
    obtain ⟨e_24, f_24, h⟩ := zBx h
    refine a_callVv X dX8_prefer_24 miX8_refuse lm8_263 (t_X8_refuse (by assumption) f_24) (by assumption) rfl rfl rfl (Nat.le_of_ble_eq_true rfl) ⟨by decide, by decide, by decide, by decide⟩ ?_
    exact Zw.to2 (J_27 _ _ _ h) rfl rfl rfl
  · replace h := (if_neg h_9).symm.trans h
    refine a_aload_n X dX8_prefer_12 rfl ?_
    refine a_bipush (v := 68) X dX8_prefer_13 (by decide) ?_
    refine a_iload_n X dX8_prefer_15 rfl ?_
    obtain ⟨e_16, f_16, h⟩ := zBx h
    refine a_callVv X dX8_prefer_16 miX8_becomes lm8_483 (t_X8_becomes (by assumption) f_16) (by assumption) rfl rfl rfl (Nat.le_of_ble_eq_true rfl) ⟨by decide, by decide, by decide, by decide⟩ ?_
    refine a_goto (tgt := 27) X dX8_prefer_19 (by decide) ?_
    exact Zw.to2 (J_27 _ _ _ h) rfl rfl rfl
noncomputable def D_X8_guests_27 (P : Nat) (y0_27 : Int32) (M_27 : zMt) : Option (Int32 × zMt) :=
  some (y0_27, M_27)
noncomputable def D_X8_guests (P : Nat) (v0 : Int32) (M : zMt) : Option (Int32 × zMt) :=
  zB (D_X8_isFrom (Int32.toInt64 v0) (0 : Int64) (100 : Int64)) fun e_6 =>
  if e_6 = 0 then
    zB (D_X8_refuse P (1 : Int32) M) fun e_24 =>
    D_X8_guests_27 P e_24.1 e_24.2
  else
    zB (D_X8_becomes P (69 : Int32) v0 M) fun e_16 =>
    D_X8_guests_27 P e_16.1 e_16.2
set_option maxRecDepth 100000 in
set_option maxHeartbeats 4000000 in
theorem t_X8_guests {l : Launch} {G : zG} {b : Nat} {L : List zC} {M : zMt} {N : zNt} {P : Nat} (hP : LX8 L P) {v0 : Int32} {r : Int32 × zMt} (h : D_X8_guests P v0 M = some r) : zM l G b yX8_guests cX8_guests 2 (some .int) 2 0 0 [.ref P, .int v0] (L, M, N) (fun r2 z => r2 = some (.int r.1) ∧ z = (L, r.2, N)) := by
  refine zM.of miX8_guests (Nat.le_of_ble_eq_true rfl) ?_
  intro p e s m args below meth c X hr hname
  generalize hF : ((fun r2 z => r2 = some (.int r.1) ∧ z = (L, r.2, N)) : Option Value → zS → Prop) = FQ
  change Zw p l e { frames := 2, cells := 0, slots := 0, locals := 80 * (2) } s m args below meth c G b 2 (MQ below (zQ G b FQ) args s 0 0 (fun q : Nat => b ≤ q)) 0 0 0 [some (.ref P), some (.int v0)] [] (L, M, N)
  obtain ⟨p_lt, p_o, p_s, p_read, p_aside, p_kept, p_guest, p_readGuest, p_tape, p_unitName, p_hunterName, p_partyName, p_bits, p_partyOf, p_choiceAt, p_sizes, p_guestMany, p_pointsOf, p_ticketsOf, p_ord, p_given, p_roundOf, p_tags, p_guestTags, p_places, p_sumAt, p_sumFirst, p_sumRound, p_sumBoth, p_sumTags, p_isEnd, p_newPoints, p_inRow, p_out⟩ := id hP
  have J_27 : ∀ (x1_27 : Int32) (y0_27 : Int32) (M_27 : zMt), D_X8_guests_27 P y0_27 M_27 = some r → Zw p l e { frames := 2, cells := 0, slots := 0, locals := 80 * (2) } s m args below meth c G b 2 (MQ below (zQ G b FQ) args s 0 0 (fun q : Nat => b ≤ q)) 0 0 27 [some (.ref (P)), some (.int x1_27)] [.int y0_27] (L, M_27, N) := by
    intro x1_27 y0_27 M_27 h
    unfold D_X8_guests_27 at h
    refine a_iret X hr dX8_guests_27 ⟨by decide, by decide⟩ ?_
    subst hF
    rw [← Option.some.inj h]
    exact ⟨rfl, rfl⟩
  unfold D_X8_guests at h
  refine a_iload_n X dX8_guests_0 rfl ?_
  refine a_i2l X dX8_guests_1 ?_
  refine a_lconst (v := 0) X dX8_guests_2 (by decide) ?_
  refine a_ldc2 X dX8_guests_3 lk8_486 ?_
  obtain ⟨e_6, f_6, h⟩ := zBx h
  refine a_callSx X dX8_guests_6 miX8_isFrom lm8_128 (t_X8_isFrom f_6) rfl rfl (Nat.le_of_ble_eq_true rfl) ⟨by decide, by decide, by decide, by decide⟩ (fun r_6 S_6 q_6 => ?_)
  obtain ⟨rfl, rfl, b_6⟩ := q_6
  refine a_if_eq (tgt := 22) X dX8_guests_9 (by decide) (fun h_9 => ?_) (fun h_9 => ?_)
  · replace h := (if_pos h_9).symm.trans h
    refine a_aload_n X dX8_guests_22 rfl ?_
    refine a_iconst (v := 1) X dX8_guests_23 (by decide) ?_
    obtain ⟨e_24, f_24, h⟩ := zBx h
    refine a_callVv X dX8_guests_24 miX8_refuse lm8_263 (t_X8_refuse (by assumption) f_24) (by assumption) rfl rfl rfl (Nat.le_of_ble_eq_true rfl) ⟨by decide, by decide, by decide, by decide⟩ ?_
    exact Zw.to2 (J_27 _ _ _ h) rfl rfl rfl
  · replace h := (if_neg h_9).symm.trans h
    refine a_aload_n X dX8_guests_12 rfl ?_
    refine a_bipush (v := 69) X dX8_guests_13 (by decide) ?_
    refine a_iload_n X dX8_guests_15 rfl ?_
    obtain ⟨e_16, f_16, h⟩ := zBx h
    refine a_callVv X dX8_guests_16 miX8_becomes lm8_483 (t_X8_becomes (by assumption) f_16) (by assumption) rfl rfl rfl (Nat.le_of_ble_eq_true rfl) ⟨by decide, by decide, by decide, by decide⟩ ?_
    refine a_goto (tgt := 27) X dX8_guests_19 (by decide) ?_
    exact Zw.to2 (J_27 _ _ _ h) rfl rfl rfl
noncomputable def D_X8_split (P : Nat) (v0 : Int32) (M : zMt) : Option (Int32 × zMt) :=
  zB (D_X8_isParty P M v0) fun e_2 =>
  if e_2 = 0 then
    zB (D_X8_refuse P (2 : Int32) M) fun e_10 =>
    some (e_10.1, e_10.2)
  else
    zB (D_X8_keeps P M) fun e_15 =>
    zB (D_X8_splits P v0 e_15) fun e_20 =>
    zB (D_X8_laysApplicants P e_20) fun e_24 =>
    zB (D_X8_gives P (e_24 P 33) e_24) fun e_32 =>
    some (e_32.1, e_32.2)
set_option maxRecDepth 100000 in
set_option maxHeartbeats 4000000 in
theorem t_X8_split {l : Launch} {G : zG} {b : Nat} {L : List zC} {M : zMt} {N : zNt} {P : Nat} (hP : LX8 L P) {v0 : Int32} {r : Int32 × zMt} (h : D_X8_split P v0 M = some r) : zM l G b yX8_split cX8_split 2 (some .int) 3 0 0 [.ref P, .int v0] (L, M, N) (fun r2 z => r2 = some (.int r.1) ∧ z = (L, r.2, N)) := by
  refine zM.of miX8_split (Nat.le_of_ble_eq_true rfl) ?_
  intro p e s m args below meth c X hr hname
  generalize hF : ((fun r2 z => r2 = some (.int r.1) ∧ z = (L, r.2, N)) : Option Value → zS → Prop) = FQ
  change Zw p l e { frames := 3, cells := 0, slots := 0, locals := 80 * (3) } s m args below meth c G b 2 (MQ below (zQ G b FQ) args s 0 0 (fun q : Nat => b ≤ q)) 0 0 0 [some (.ref P), some (.int v0)] [] (L, M, N)
  obtain ⟨p_lt, p_o, p_s, p_read, p_aside, p_kept, p_guest, p_readGuest, p_tape, p_unitName, p_hunterName, p_partyName, p_bits, p_partyOf, p_choiceAt, p_sizes, p_guestMany, p_pointsOf, p_ticketsOf, p_ord, p_given, p_roundOf, p_tags, p_guestTags, p_places, p_sumAt, p_sumFirst, p_sumRound, p_sumBoth, p_sumTags, p_isEnd, p_newPoints, p_inRow, p_out⟩ := id hP
  unfold D_X8_split at h
  refine a_aload_n X dX8_split_0 rfl ?_
  refine a_iload_n X dX8_split_1 rfl ?_
  obtain ⟨e_2, f_2, h⟩ := zBx h
  refine a_callVx X dX8_split_2 miX8_isParty lm8_463 (t_X8_isParty (by assumption) f_2) (by assumption) rfl rfl rfl (Nat.le_of_ble_eq_true rfl) ⟨by decide, by decide, by decide, by decide⟩ (fun r_2 S_2 q_2 => ?_)
  obtain ⟨rfl, rfl, b_2⟩ := q_2
  refine a_if_ne (tgt := 14) X dX8_split_5 (by decide) (fun h_5 => ?_) (fun h_5 => ?_)
  · replace h := (if_neg h_5).symm.trans h
    refine a_aload_n X dX8_split_14 rfl ?_
    obtain ⟨e_15, f_15, h⟩ := zBx h
    refine a_callVu X dX8_split_15 miX8_keeps lm8_480 (t_X8_keeps (by assumption) f_15) (by assumption) rfl rfl rfl (Nat.le_of_ble_eq_true rfl) ⟨by decide, by decide, by decide, by decide⟩ ?_
    refine a_aload_n X dX8_split_18 rfl ?_
    refine a_iload_n X dX8_split_19 rfl ?_
    obtain ⟨e_20, f_20, h⟩ := zBx h
    refine a_callVu X dX8_split_20 miX8_splits lm8_466 (t_X8_splits (by assumption) f_20) (by assumption) rfl rfl rfl (Nat.le_of_ble_eq_true rfl) ⟨by decide, by decide, by decide, by decide⟩ ?_
    refine a_aload_n X dX8_split_23 rfl ?_
    obtain ⟨e_24, f_24, h⟩ := zBx h
    refine a_callVu X dX8_split_24 miX8_laysApplicants lm8_281 (t_X8_laysApplicants (by assumption) f_24) (by assumption) rfl rfl rfl (Nat.le_of_ble_eq_true rfl) ⟨by decide, by decide, by decide, by decide⟩ ?_
    refine a_aload_n X dX8_split_27 rfl ?_
    refine a_aload_n X dX8_split_28 rfl ?_
    refine a_geti X lf8_275 (by assumption) rfl dX8_split_29 ?_
    obtain ⟨e_32, f_32, h⟩ := zBx h
    refine a_callVv X dX8_split_32 miX8_gives lm8_272 (t_X8_gives (by assumption) f_32) (by assumption) rfl rfl rfl (Nat.le_of_ble_eq_true rfl) ⟨by decide, by decide, by decide, by decide⟩ ?_
    refine a_iret X hr dX8_split_35 ⟨by decide, by decide⟩ ?_
    subst hF
    rw [← Option.some.inj h]
    exact ⟨rfl, rfl⟩
  · replace h := (if_pos h_5).symm.trans h
    refine a_aload_n X dX8_split_8 rfl ?_
    refine a_iconst (v := 2) X dX8_split_9 (by decide) ?_
    obtain ⟨e_10, f_10, h⟩ := zBx h
    refine a_callVv X dX8_split_10 miX8_refuse lm8_263 (t_X8_refuse (by assumption) f_10) (by assumption) rfl rfl rfl (Nat.le_of_ble_eq_true rfl) ⟨by decide, by decide, by decide, by decide⟩ ?_
    refine a_iret X hr dX8_split_13 ⟨by decide, by decide⟩ ?_
    subst hF
    rw [← Option.some.inj h]
    exact ⟨rfl, rfl⟩
noncomputable def D_X8_prints (P : Nat) (v0 : Int32) (M : zMt) : Option (zMt) :=
  zI (M P 64) 64 <|
  zLt (zu M (P + 32) (M P 64).toNatClampNeg v0) fun M_9 =>
  zLt (zu M_9 P 64 ((M_9 P 64) + (1 : Int32))) fun M_17 =>
  some (M_17)
set_option maxRecDepth 100000 in
set_option maxHeartbeats 4000000 in
theorem t_X8_prints {l : Launch} {G : zG} {b : Nat} {L : List zC} {M : zMt} {N : zNt} {P : Nat} (hP : LX8 L P) {v0 : Int32} {r : zMt} (h : D_X8_prints P v0 M = some r) : zM l G b yX8_prints cX8_prints 2 none 0 0 0 [.ref P, .int v0] (L, M, N) (fun r2 z => r2 = none ∧ z = (L, r, N)) := by
  refine zM.of miX8_prints (Nat.le_of_ble_eq_true rfl) ?_
  intro p e s m args below meth c X hr hname
  generalize hF : ((fun r2 z => r2 = none ∧ z = (L, r, N)) : Option Value → zS → Prop) = FQ
  change Zw p l e { frames := 0, cells := 0, slots := 0, locals := 80 * (0) } s m args below meth c G b 2 (MQ below (zQ G b FQ) args s 0 0 (fun q : Nat => b ≤ q)) 0 0 0 [some (.ref P), some (.int v0)] [] (L, M, N)
  obtain ⟨p_lt, p_o, p_s, p_read, p_aside, p_kept, p_guest, p_readGuest, p_tape, p_unitName, p_hunterName, p_partyName, p_bits, p_partyOf, p_choiceAt, p_sizes, p_guestMany, p_pointsOf, p_ticketsOf, p_ord, p_given, p_roundOf, p_tags, p_guestTags, p_places, p_sumAt, p_sumFirst, p_sumRound, p_sumBoth, p_sumTags, p_isEnd, p_newPoints, p_inRow, p_out⟩ := id hP
  unfold D_X8_prints at h
  refine a_aload_n X dX8_prints_0 rfl ?_
  refine a_getr X lf8_112 (by assumption) rfl (by omega) dX8_prints_1 ?_
  refine a_aload_n X dX8_prints_4 rfl ?_
  refine a_geti X lf8_488 (by assumption) rfl dX8_prints_5 ?_
  refine a_iload_n X dX8_prints_8 rfl ?_
  obtain ⟨g_9, h⟩ := zIx h
  obtain ⟨M_9, f_9, h⟩ := zLtx h
  refine d_iastore X (by assumption) g_9 dX8_prints_9 f_9 ?_
  refine a_aload_n X dX8_prints_10 rfl ?_
  refine a_dup X dX8_prints_11 rfl ?_
  refine a_geti X lf8_488 (by assumption) rfl dX8_prints_12 ?_
  refine a_iconst (v := 1) X dX8_prints_15 (by decide) ?_
  refine a_iadd X dX8_prints_16 ?_
  obtain ⟨M_17, f_17, h⟩ := zLtx h
  refine d_puti X lf8_488 (by assumption) rfl dX8_prints_17 f_17 ?_
  refine a_vret X hr dX8_prints_20 ⟨by decide, by decide⟩ ?_
  subst hF
  rw [← Option.some.inj h]
  exact ⟨rfl, rfl⟩
noncomputable def D_X8_print_98 (P : Nat) (k25 : Int32 → zMt → zNt → Option (Int32 × zMt × zNt)) (x2_98 : Int32) (M_98 : zMt) (N_98 : zNt) : Option (Int32 × zMt × zNt) :=
  zB (D_X8_prints P (59 : Int32) M_98) fun e_101 =>
  k25 (x2_98 + 1) e_101 N_98
noncomputable def D_X8_print_79 (P : Nat) (k25 : Int32 → zMt → zNt → Option (Int32 × zMt × zNt)) (x2_79 : Int32) (x3_79 : Int32) (y1_79 : Int32) (M_79 : zMt) (N_79 : zNt) : Option (Int32 × zMt × zNt) :=
  zB (D_X8_prints P y1_79 M_79) fun e_79 =>
  zI x3_79 10 <|
  if (e_79 (P + 20) x3_79.toNatClampNeg) = (1 : Int32) then
    zB (D_X8_prints P (33 : Int32) e_79) fun e_95 =>
    D_X8_print_98 P k25 x2_79 e_95 N_79
  else
    D_X8_print_98 P k25 x2_79 e_79 N_79
noncomputable def D_X8_print_25 (P : Nat) : Nat → Int32 → zMt → zNt → Option (Int32 × zMt × zNt)
  | 0, _, _, _ => none
  | n + 1, x2_25, M_25, N_25 =>
    if (M_25 P 33) ≤ x2_25 then
      zB (D_X8_gives P (M_25 P 64) M_25) fun e_115 =>
      some (e_115.1, e_115.2, N_25)
    else
      zI x2_25 10 <|
      zB (D_X8_prints P ((48 : Int32) + (M_25 (P + 18) x2_25.toNatClampNeg)) M_25) fun e_45 =>
      zB (D_X8_prints P (61 : Int32) e_45) fun e_51 =>
      zI (M_25 (P + 18) x2_25.toNatClampNeg) 10 <|
      if (e_51 (P + 19) (M_25 (P + 18) x2_25.toNatClampNeg).toNatClampNeg) = (-1 : Int32) then
        D_X8_print_79 P (D_X8_print_25 P n) x2_25 (M_25 (P + 18) x2_25.toNatClampNeg) (45 : Int32) e_51 N_25
      else
        zI (M_25 (P + 18) x2_25.toNatClampNeg) 10 <|
        D_X8_print_79 P (D_X8_print_25 P n) x2_25 (M_25 (P + 18) x2_25.toNatClampNeg) ((48 : Int32) + (e_51 (P + 19) (M_25 (P + 18) x2_25.toNatClampNeg).toNatClampNeg)) e_51 N_25
noncomputable def D_X8_print (P : Nat) (v0 : Int32) (M : zMt) (N : zNt) : Option (Int32 × zMt × zNt) :=
  zB (D_X8_isSeed v0) fun e_1 =>
  if e_1 = 0 then
    zB (D_X8_refuse P (1 : Int32) M) fun e_9 =>
    some (e_9.1, e_9.2, N)
  else
    zB (D_X8_laysResult P v0 M N) fun e_15 =>
    zLt (zu e_15.1 P 64 (0 : Int32)) fun M_20 =>
    D_X8_print_25 P zFu (0 : Int32) M_20 e_15.2
set_option maxRecDepth 100000 in
set_option maxHeartbeats 4000000 in
theorem t_X8_print {l : Launch} {G : zG} {b : Nat} {L : List zC} {M : zMt} {N : zNt} {P : Nat} (hP : LX8 L P) {v0 : Int32} {r : Int32 × zMt × zNt} (h : D_X8_print P v0 M N = some r) : zM l G b yX8_print cX8_print 4 (some .int) 5 0 0 [.ref P, .int v0] (L, M, N) (fun r2 z => r2 = some (.int r.1) ∧ z = (L, r.2.1, r.2.2)) := by
  refine zM.of miX8_print (Nat.le_of_ble_eq_true rfl) ?_
  intro p e s m args below meth c X hr hname
  generalize hF : ((fun r2 z => r2 = some (.int r.1) ∧ z = (L, r.2.1, r.2.2)) : Option Value → zS → Prop) = FQ
  change Zw p l e { frames := 5, cells := 0, slots := 0, locals := 80 * (5) } s m args below meth c G b 4 (MQ below (zQ G b FQ) args s 0 0 (fun q : Nat => b ≤ q)) 0 0 0 [some (.ref P), some (.int v0), none, none] [] (L, M, N)
  obtain ⟨p_lt, p_o, p_s, p_read, p_aside, p_kept, p_guest, p_readGuest, p_tape, p_unitName, p_hunterName, p_partyName, p_bits, p_partyOf, p_choiceAt, p_sizes, p_guestMany, p_pointsOf, p_ticketsOf, p_ord, p_given, p_roundOf, p_tags, p_guestTags, p_places, p_sumAt, p_sumFirst, p_sumRound, p_sumBoth, p_sumTags, p_isEnd, p_newPoints, p_inRow, p_out⟩ := id hP
  have L_25 : ∀ u : Nat, ∀ (x1_25 : Int32) (x2_25 : Int32) (x3_25 : Option Value) (M_25 : zMt) (N_25 : zNt), D_X8_print_25 P u x2_25 M_25 N_25 = some r → Zw p l e { frames := 5, cells := 0, slots := 0, locals := 80 * (5) } s m args below meth c G b 4 (MQ below (zQ G b FQ) args s 0 0 (fun q : Nat => b ≤ q)) 0 0 25 [some (.ref (P)), some (.int x1_25), some (.int x2_25), x3_25] [] (L, M_25, N_25) := by
    intro u
    induction u with
    | zero => intro x1_25 x2_25 x3_25 M_25 N_25 h; cases (show none = some r from h)
    | succ u_25 ih_25 =>
      have J_98 : ∀ (x1_98 : Int32) (x2_98 : Int32) (x3_98 : Int32) (M_98 : zMt) (N_98 : zNt), D_X8_print_98 P (D_X8_print_25 P u_25) x2_98 M_98 N_98 = some r → Zw p l e { frames := 5, cells := 0, slots := 0, locals := 80 * (5) } s m args below meth c G b 4 (MQ below (zQ G b FQ) args s 0 0 (fun q : Nat => b ≤ q)) 0 0 98 [some (.ref (P)), some (.int x1_98), some (.int x2_98), some (.int x3_98)] [] (L, M_98, N_98) := by
        intro x1_98 x2_98 x3_98 M_98 N_98 h
        unfold D_X8_print_98 at h
        refine a_aload_n X dX8_print_98 rfl ?_
        refine a_bipush (v := 59) X dX8_print_99 (by decide) ?_
        obtain ⟨e_101, f_101, h⟩ := zBx h
        refine a_callVu X dX8_print_101 miX8_prints lm8_491 (t_X8_prints (by assumption) f_101) (by assumption) rfl rfl rfl (Nat.le_of_ble_eq_true rfl) ⟨by decide, by decide, by decide, by decide⟩ ?_
        refine a_iinc (v := x2_98 + 1) X dX8_print_104 (by decide) rfl zi_1 ?_
        refine a_goto (tgt := 25) X dX8_print_107 (by decide) ?_
        exact Zw.to2 (ih_25 _ _ _ _ _ h) rfl rfl rfl
      have J_79 : ∀ (x1_79 : Int32) (x2_79 : Int32) (x3_79 : Int32) (y1_79 : Int32) (M_79 : zMt) (N_79 : zNt), D_X8_print_79 P (D_X8_print_25 P u_25) x2_79 x3_79 y1_79 M_79 N_79 = some r → Zw p l e { frames := 5, cells := 0, slots := 0, locals := 80 * (5) } s m args below meth c G b 4 (MQ below (zQ G b FQ) args s 0 0 (fun q : Nat => b ≤ q)) 0 0 79 [some (.ref (P)), some (.int x1_79), some (.int x2_79), some (.int x3_79)] [.int y1_79, .ref (P)] (L, M_79, N_79) := by
        intro x1_79 x2_79 x3_79 y1_79 M_79 N_79 h
        unfold D_X8_print_79 at h
        obtain ⟨e_79, f_79, h⟩ := zBx h
        refine a_callVu X dX8_print_79 miX8_prints lm8_491 (t_X8_prints (by assumption) f_79) (by assumption) rfl rfl rfl (Nat.le_of_ble_eq_true rfl) ⟨by decide, by decide, by decide, by decide⟩ ?_
        refine a_aload_n X dX8_print_82 rfl ?_
        refine a_getr X lf8_76 (by assumption) rfl (by omega) dX8_print_83 ?_
        refine a_iload_n X dX8_print_86 rfl ?_
        obtain ⟨g_87, h⟩ := zIx h
        refine a_iaload X (by assumption) g_87 dX8_print_87 ?_
        refine a_iconst (v := 1) X dX8_print_88 (by decide) ?_
        refine a_icmp_ne (tgt := 98) X dX8_print_89 (by decide) (fun h_89 => ?_) (fun h_89 => ?_)
        · replace h := (if_neg h_89).symm.trans h
          exact Zw.to2 (J_98 _ _ _ _ _ h) rfl rfl rfl
        · replace h := (if_pos h_89).symm.trans h
          refine a_aload_n X dX8_print_92 rfl ?_
          refine a_bipush (v := 33) X dX8_print_93 (by decide) ?_
          obtain ⟨e_95, f_95, h⟩ := zBx h
          refine a_callVu X dX8_print_95 miX8_prints lm8_491 (t_X8_prints (by assumption) f_95) (by assumption) rfl rfl rfl (Nat.le_of_ble_eq_true rfl) ⟨by decide, by decide, by decide, by decide⟩ ?_
          exact Zw.to2 (J_98 _ _ _ _ _ h) rfl rfl rfl
      intro x1_25 x2_25 x3_25 M_25 N_25 h
      rw [D_X8_print_25] at h
      refine a_iload_n X dX8_print_25 rfl ?_
      refine a_aload_n X dX8_print_26 rfl ?_
      refine a_geti X lf8_275 (by assumption) rfl dX8_print_27 ?_
      refine a_icmp_ge (tgt := 110) X dX8_print_30 (by decide) (fun h_30 => ?_) (fun h_30 => ?_)
      · replace h := (if_pos h_30).symm.trans h
        refine a_aload_n X dX8_print_110 rfl ?_
        refine a_aload_n X dX8_print_111 rfl ?_
        refine a_geti X lf8_488 (by assumption) rfl dX8_print_112 ?_
        obtain ⟨e_115, f_115, h⟩ := zBx h
        refine a_callVv X dX8_print_115 miX8_gives lm8_272 (t_X8_gives (by assumption) f_115) (by assumption) rfl rfl rfl (Nat.le_of_ble_eq_true rfl) ⟨by decide, by decide, by decide, by decide⟩ ?_
        refine a_iret X hr dX8_print_118 ⟨by decide, by decide⟩ ?_
        subst hF
        rw [← Option.some.inj h]
        exact ⟨rfl, rfl⟩
      · replace h := (if_neg h_30).symm.trans h
        refine a_aload_n X dX8_print_33 rfl ?_
        refine a_getr X lf8_70 (by assumption) rfl (by omega) dX8_print_34 ?_
        refine a_iload_n X dX8_print_37 rfl ?_
        obtain ⟨g_38, h⟩ := zIx h
        refine a_iaload X (by assumption) g_38 dX8_print_38 ?_
        refine a_istore_n X dX8_print_39 (by decide) ?_
        refine a_aload_n X dX8_print_40 rfl ?_
        refine a_bipush (v := 48) X dX8_print_41 (by decide) ?_
        refine a_iload_n X dX8_print_43 rfl ?_
        refine a_iadd X dX8_print_44 ?_
        obtain ⟨e_45, f_45, h⟩ := zBx h
        refine a_callVu X dX8_print_45 miX8_prints lm8_491 (t_X8_prints (by assumption) f_45) (by assumption) rfl rfl rfl (Nat.le_of_ble_eq_true rfl) ⟨by decide, by decide, by decide, by decide⟩ ?_
        refine a_aload_n X dX8_print_48 rfl ?_
        refine a_bipush (v := 61) X dX8_print_49 (by decide) ?_
        obtain ⟨e_51, f_51, h⟩ := zBx h
        refine a_callVu X dX8_print_51 miX8_prints lm8_491 (t_X8_prints (by assumption) f_51) (by assumption) rfl rfl rfl (Nat.le_of_ble_eq_true rfl) ⟨by decide, by decide, by decide, by decide⟩ ?_
        refine a_aload_n X dX8_print_54 rfl ?_
        refine a_aload_n X dX8_print_55 rfl ?_
        refine a_getr X lf8_73 (by assumption) rfl (by omega) dX8_print_56 ?_
        refine a_iload_n X dX8_print_59 rfl ?_
        obtain ⟨g_60, h⟩ := zIx h
        refine a_iaload X (by assumption) g_60 dX8_print_60 ?_
        refine a_iconst (v := -1) X dX8_print_61 (by decide) ?_
        refine a_icmp_ne (tgt := 70) X dX8_print_62 (by decide) (fun h_62 => ?_) (fun h_62 => ?_)
        · replace h := (if_neg h_62).symm.trans h
          refine a_bipush (v := 48) X dX8_print_70 (by decide) ?_
          refine a_aload_n X dX8_print_72 rfl ?_
          refine a_getr X lf8_73 (by assumption) rfl (by omega) dX8_print_73 ?_
          refine a_iload_n X dX8_print_76 rfl ?_
          obtain ⟨g_77, h⟩ := zIx h
          refine a_iaload X (by assumption) g_77 dX8_print_77 ?_
          refine a_iadd X dX8_print_78 ?_
          exact Zw.to2 (J_79 _ _ _ _ _ _ h) rfl rfl rfl
        · replace h := (if_pos h_62).symm.trans h
          refine a_bipush (v := 45) X dX8_print_65 (by decide) ?_
          refine a_goto (tgt := 79) X dX8_print_67 (by decide) ?_
          exact Zw.to2 (J_79 _ _ _ _ _ _ h) rfl rfl rfl
  have H_25 : ∀ (x1_25 : Int32) (x2_25 : Int32) (x3_25 : Option Value) (M_25 : zMt) (N_25 : zNt), D_X8_print_25 P zFu x2_25 M_25 N_25 = some r → Zw p l e { frames := 5, cells := 0, slots := 0, locals := 80 * (5) } s m args below meth c G b 4 (MQ below (zQ G b FQ) args s 0 0 (fun q : Nat => b ≤ q)) 0 0 25 [some (.ref (P)), some (.int x1_25), some (.int x2_25), x3_25] [] (L, M_25, N_25) := L_25 zFu
  unfold D_X8_print at h
  refine a_iload_n X dX8_print_0 rfl ?_
  obtain ⟨e_1, f_1, h⟩ := zBx h
  refine a_callSx X dX8_print_1 miX8_isSeed lm8_358 (t_X8_isSeed f_1) rfl rfl (Nat.le_of_ble_eq_true rfl) ⟨by decide, by decide, by decide, by decide⟩ (fun r_1 S_1 q_1 => ?_)
  obtain ⟨rfl, rfl, b_1⟩ := q_1
  refine a_if_ne (tgt := 13) X dX8_print_4 (by decide) (fun h_4 => ?_) (fun h_4 => ?_)
  · replace h := (if_neg h_4).symm.trans h
    refine a_aload_n X dX8_print_13 rfl ?_
    refine a_iload_n X dX8_print_14 rfl ?_
    obtain ⟨e_15, f_15, h⟩ := zBx h
    refine a_callVu X dX8_print_15 miX8_laysResult lm8_361 (t_X8_laysResult (by assumption) f_15) (by assumption) rfl rfl rfl (Nat.le_of_ble_eq_true rfl) ⟨by decide, by decide, by decide, by decide⟩ ?_
    refine a_aload_n X dX8_print_18 rfl ?_
    refine a_iconst (v := 0) X dX8_print_19 (by decide) ?_
    obtain ⟨M_20, f_20, h⟩ := zLtx h
    refine d_puti X lf8_488 (by assumption) rfl dX8_print_20 f_20 ?_
    refine a_iconst (v := 0) X dX8_print_23 (by decide) ?_
    refine a_istore_n X dX8_print_24 (by decide) ?_
    exact Zw.to2 (H_25 _ _ _ _ _ h) rfl rfl rfl
  · replace h := (if_pos h_4).symm.trans h
    refine a_aload_n X dX8_print_7 rfl ?_
    refine a_iconst (v := 1) X dX8_print_8 (by decide) ?_
    obtain ⟨e_9, f_9, h⟩ := zBx h
    refine a_callVv X dX8_print_9 miX8_refuse lm8_263 (t_X8_refuse (by assumption) f_9) (by assumption) rfl rfl rfl (Nat.le_of_ble_eq_true rfl) ⟨by decide, by decide, by decide, by decide⟩ ?_
    refine a_iret X hr dX8_print_12 ⟨by decide, by decide⟩ ?_
    subst hF
    rw [← Option.some.inj h]
    exact ⟨rfl, rfl⟩
noncomputable def D_X8_out_36 (P : Nat) (y0_36 : Int32) (M_36 : zMt) : Option (Int32 × zMt) :=
  some (y0_36, M_36)
noncomputable def D_X8_out (P : Nat) (v0 : Int32) (M : zMt) : Option (Int32 × zMt) :=
  if 0 ≤ v0 then
    if (M P 64) ≤ v0 then
      zB (D_X8_refuse P (5 : Int32) M) fun e_33 =>
      D_X8_out_36 P e_33.1 e_33.2
    else
      zI v0 64 <|
      zB (D_X8_gives P (M (P + 32) v0.toNatClampNeg) M) fun e_25 =>
      D_X8_out_36 P e_25.1 e_25.2
  else
    zB (D_X8_refuse P (1 : Int32) M) fun e_6 =>
    some (e_6.1, e_6.2)
set_option maxRecDepth 100000 in
set_option maxHeartbeats 4000000 in
theorem t_X8_out {l : Launch} {G : zG} {b : Nat} {L : List zC} {M : zMt} {N : zNt} {P : Nat} (hP : LX8 L P) {v0 : Int32} {r : Int32 × zMt} (h : D_X8_out P v0 M = some r) : zM l G b yX8_out cX8_out 2 (some .int) 1 0 0 [.ref P, .int v0] (L, M, N) (fun r2 z => r2 = some (.int r.1) ∧ z = (L, r.2, N)) := by
  refine zM.of miX8_out (Nat.le_of_ble_eq_true rfl) ?_
  intro p e s m args below meth c X hr hname
  generalize hF : ((fun r2 z => r2 = some (.int r.1) ∧ z = (L, r.2, N)) : Option Value → zS → Prop) = FQ
  change Zw p l e { frames := 1, cells := 0, slots := 0, locals := 80 * (1) } s m args below meth c G b 2 (MQ below (zQ G b FQ) args s 0 0 (fun q : Nat => b ≤ q)) 0 0 0 [some (.ref P), some (.int v0)] [] (L, M, N)
  obtain ⟨p_lt, p_o, p_s, p_read, p_aside, p_kept, p_guest, p_readGuest, p_tape, p_unitName, p_hunterName, p_partyName, p_bits, p_partyOf, p_choiceAt, p_sizes, p_guestMany, p_pointsOf, p_ticketsOf, p_ord, p_given, p_roundOf, p_tags, p_guestTags, p_places, p_sumAt, p_sumFirst, p_sumRound, p_sumBoth, p_sumTags, p_isEnd, p_newPoints, p_inRow, p_out⟩ := id hP
  have J_36 : ∀ (x1_36 : Int32) (y0_36 : Int32) (M_36 : zMt), D_X8_out_36 P y0_36 M_36 = some r → Zw p l e { frames := 1, cells := 0, slots := 0, locals := 80 * (1) } s m args below meth c G b 2 (MQ below (zQ G b FQ) args s 0 0 (fun q : Nat => b ≤ q)) 0 0 36 [some (.ref (P)), some (.int x1_36)] [.int y0_36] (L, M_36, N) := by
    intro x1_36 y0_36 M_36 h
    unfold D_X8_out_36 at h
    refine a_iret X hr dX8_out_36 ⟨by decide, by decide⟩ ?_
    subst hF
    rw [← Option.some.inj h]
    exact ⟨rfl, rfl⟩
  unfold D_X8_out at h
  refine a_iload_n X dX8_out_0 rfl ?_
  refine a_if_ge (tgt := 10) X dX8_out_1 (by decide) (fun h_1 => ?_) (fun h_1 => ?_)
  · replace h := (if_pos h_1).symm.trans h
    refine a_iload_n X dX8_out_10 rfl ?_
    refine a_aload_n X dX8_out_11 rfl ?_
    refine a_geti X lf8_488 (by assumption) rfl dX8_out_12 ?_
    refine a_icmp_ge (tgt := 31) X dX8_out_15 (by decide) (fun h_15 => ?_) (fun h_15 => ?_)
    · replace h := (if_pos h_15).symm.trans h
      refine a_aload_n X dX8_out_31 rfl ?_
      refine a_iconst (v := 5) X dX8_out_32 (by decide) ?_
      obtain ⟨e_33, f_33, h⟩ := zBx h
      refine a_callVv X dX8_out_33 miX8_refuse lm8_263 (t_X8_refuse (by assumption) f_33) (by assumption) rfl rfl rfl (Nat.le_of_ble_eq_true rfl) ⟨by decide, by decide, by decide, by decide⟩ ?_
      exact Zw.to2 (J_36 _ _ _ h) rfl rfl rfl
    · replace h := (if_neg h_15).symm.trans h
      refine a_aload_n X dX8_out_18 rfl ?_
      refine a_aload_n X dX8_out_19 rfl ?_
      refine a_getr X lf8_112 (by assumption) rfl (by omega) dX8_out_20 ?_
      refine a_iload_n X dX8_out_23 rfl ?_
      obtain ⟨g_24, h⟩ := zIx h
      refine a_iaload X (by assumption) g_24 dX8_out_24 ?_
      obtain ⟨e_25, f_25, h⟩ := zBx h
      refine a_callVv X dX8_out_25 miX8_gives lm8_272 (t_X8_gives (by assumption) f_25) (by assumption) rfl rfl rfl (Nat.le_of_ble_eq_true rfl) ⟨by decide, by decide, by decide, by decide⟩ ?_
      refine a_goto (tgt := 36) X dX8_out_28 (by decide) ?_
      exact Zw.to2 (J_36 _ _ _ h) rfl rfl rfl
  · replace h := (if_neg h_1).symm.trans h
    refine a_aload_n X dX8_out_4 rfl ?_
    refine a_iconst (v := 1) X dX8_out_5 (by decide) ?_
    obtain ⟨e_6, f_6, h⟩ := zBx h
    refine a_callVv X dX8_out_6 miX8_refuse lm8_263 (t_X8_refuse (by assumption) f_6) (by assumption) rfl rfl rfl (Nat.le_of_ble_eq_true rfl) ⟨by decide, by decide, by decide, by decide⟩ ?_
    refine a_iret X hr dX8_out_9 ⟨by decide, by decide⟩ ?_
    subst hF
    rw [← Option.some.inj h]
    exact ⟨rfl, rfl⟩
