noncomputable def D_X7_feed (P : Nat) (v0 : Int32) (v1 : Int32) (v2 : Int32) (v3 : Int32) (v4 : Int32) (M : zMt) : Option (Int32 × zMt) :=
  if ((M P 1) + (20 : Int32)) ≤ (700 : Int32) then
    zB (D_X7_append P v0 M) fun e_17 =>
    zB (D_X7_append P v1 e_17) fun e_22 =>
    zB (D_X7_append P v2 e_22) fun e_27 =>
    zB (D_X7_append P v3 e_27) fun e_33 =>
    zB (D_X7_append P v4 e_33) fun e_39 =>
    some ((e_39 P 1), e_39)
  else
    some ((-1 : Int32), M)
set_option maxRecDepth 100000 in
set_option maxHeartbeats 4000000 in
theorem t_X7_feed {l : Launch} {G : zG} {b : Nat} {L : List zC} {M : zMt} {N : zNt} {P : Nat} (hP : LX7 L P) {v0 : Int32} {v1 : Int32} {v2 : Int32} {v3 : Int32} {v4 : Int32} {r : Int32 × zMt} (h : D_X7_feed P v0 v1 v2 v3 v4 M = some r) : zM l G b yX7_feed cX7_feed 6 (some .int) 2 0 0 [.ref P, .int v0, .int v1, .int v2, .int v3, .int v4] (L, M, N) (fun r2 z => r2 = some (.int r.1) ∧ z = (L, r.2, N)) := by
  refine zM.of miX7_feed (Nat.le_of_ble_eq_true rfl) ?_
  intro p e s m args below meth c X hr hname
  generalize hF : ((fun r2 z => r2 = some (.int r.1) ∧ z = (L, r.2, N)) : Option Value → zS → Prop) = FQ
  change Zw p l e { frames := 2, cells := 0, slots := 0, locals := 80 * (2) } s m args below meth c G b 6 (MQ below (zQ G b FQ) args s 0 0 (fun q : Nat => b ≤ q)) 0 0 0 [some (.ref P), some (.int v0), some (.int v1), some (.int v2), some (.int v3), some (.int v4)] [] (L, M, N)
  obtain ⟨p_lt, p_o, p_tape, p_out, p_reader, p_list, p_past, p_pool, p_result, p_odds, p_paper, p_trial, p_trialPool, p_trialResult, p_trialOdds⟩ := id hP
  obtain ⟨p_reader_lt, p_reader_o, p_reader_draft, p_reader_text, p_reader_unitNames, p_reader_hunterNames, p_reader_partyNames, p_reader_asked⟩ := id p_reader
  obtain ⟨p_list_lt, p_list_o, p_list_quota, p_list_score, p_list_guest, p_list_party, p_list_wishCount, p_list_wishes, p_list_has⟩ := id p_list
  obtain ⟨p_past_lt, p_past_o, p_past_stood, p_past_stood0, p_past_stood1, p_past_stood2, p_past_stood3, p_past_stood4, p_past_stood5, p_past_stood6, p_past_stood7⟩ := id p_past
  obtain ⟨p_pool_lt, p_pool_o, p_pool_quota, p_pool_preferred, p_pool_forGuests, p_pool_applicantOf, p_pool_size, p_pool_guestCount, p_pool_score, p_pool_tickets, p_pool_bits, p_pool_party, p_pool_wishCount, p_pool_wishes⟩ := id p_pool
  obtain ⟨p_result_lt, p_result_o, p_result_line, p_result_unitOf, p_result_roundOf, p_result_leftTags, p_result_leftGuests, p_result_leftPreferred, p_result_ranked⟩ := id p_result
  obtain ⟨p_odds_lt, p_odds_o, p_odds_sets, p_odds_seen, p_odds_atUnit, p_odds_early, p_odds_result⟩ := id p_odds
  obtain ⟨p_paper_lt, p_paper_o, p_paper_times, p_paper_firstWish, p_paper_dry, p_paper_list, p_paper_pool, p_paper_result⟩ := id p_paper
  obtain ⟨p_trial_lt, p_trial_o, p_trial_quota, p_trial_score, p_trial_guest, p_trial_party, p_trial_wishCount, p_trial_wishes, p_trial_has⟩ := id p_trial
  obtain ⟨p_trialPool_lt, p_trialPool_o, p_trialPool_quota, p_trialPool_preferred, p_trialPool_forGuests, p_trialPool_applicantOf, p_trialPool_size, p_trialPool_guestCount, p_trialPool_score, p_trialPool_tickets, p_trialPool_bits, p_trialPool_party, p_trialPool_wishCount, p_trialPool_wishes⟩ := id p_trialPool
  obtain ⟨p_trialResult_lt, p_trialResult_o, p_trialResult_line, p_trialResult_unitOf, p_trialResult_roundOf, p_trialResult_leftTags, p_trialResult_leftGuests, p_trialResult_leftPreferred, p_trialResult_ranked⟩ := id p_trialResult
  obtain ⟨p_trialOdds_lt, p_trialOdds_o, p_trialOdds_sets, p_trialOdds_seen, p_trialOdds_atUnit, p_trialOdds_early, p_trialOdds_result⟩ := id p_trialOdds
  unfold D_X7_feed at h
  refine a_aload_n X dX7_feed_0 rfl ?_
  refine a_geti X lf7_91 (by assumption) rfl dX7_feed_1 ?_
  refine a_bipush (v := 20) X dX7_feed_4 (by decide) ?_
  refine a_iadd X dX7_feed_6 ?_
  refine a_sipush (v := 700) X dX7_feed_7 (by decide) ?_
  refine a_icmp_le (tgt := 15) X dX7_feed_10 (by decide) (fun h_10 => ?_) (fun h_10 => ?_)
  · replace h := (if_pos h_10).symm.trans h
    refine a_aload_n X dX7_feed_15 rfl ?_
    refine a_iload_n X dX7_feed_16 rfl ?_
    obtain ⟨e_17, f_17, h⟩ := zBx h
    refine a_callVu X dX7_feed_17 miX7_append lm7_94 (t_X7_append (by assumption) f_17) (by assumption) rfl rfl rfl (Nat.le_of_ble_eq_true rfl) ⟨by decide, by decide, by decide, by decide⟩ ?_
    refine a_aload_n X dX7_feed_20 rfl ?_
    refine a_iload_n X dX7_feed_21 rfl ?_
    obtain ⟨e_22, f_22, h⟩ := zBx h
    refine a_callVu X dX7_feed_22 miX7_append lm7_94 (t_X7_append (by assumption) f_22) (by assumption) rfl rfl rfl (Nat.le_of_ble_eq_true rfl) ⟨by decide, by decide, by decide, by decide⟩ ?_
    refine a_aload_n X dX7_feed_25 rfl ?_
    refine a_iload_n X dX7_feed_26 rfl ?_
    obtain ⟨e_27, f_27, h⟩ := zBx h
    refine a_callVu X dX7_feed_27 miX7_append lm7_94 (t_X7_append (by assumption) f_27) (by assumption) rfl rfl rfl (Nat.le_of_ble_eq_true rfl) ⟨by decide, by decide, by decide, by decide⟩ ?_
    refine a_aload_n X dX7_feed_30 rfl ?_
    refine a_iload X dX7_feed_31 rfl ?_
    obtain ⟨e_33, f_33, h⟩ := zBx h
    refine a_callVu X dX7_feed_33 miX7_append lm7_94 (t_X7_append (by assumption) f_33) (by assumption) rfl rfl rfl (Nat.le_of_ble_eq_true rfl) ⟨by decide, by decide, by decide, by decide⟩ ?_
    refine a_aload_n X dX7_feed_36 rfl ?_
    refine a_iload X dX7_feed_37 rfl ?_
    obtain ⟨e_39, f_39, h⟩ := zBx h
    refine a_callVu X dX7_feed_39 miX7_append lm7_94 (t_X7_append (by assumption) f_39) (by assumption) rfl rfl rfl (Nat.le_of_ble_eq_true rfl) ⟨by decide, by decide, by decide, by decide⟩ ?_
    refine a_aload_n X dX7_feed_42 rfl ?_
    refine a_geti X lf7_91 (by assumption) rfl dX7_feed_43 ?_
    refine a_iret X hr dX7_feed_46 ⟨by decide, by decide⟩ ?_
    subst hF
    rw [← Option.some.inj h]
    exact ⟨rfl, rfl⟩
  · replace h := (if_neg h_10).symm.trans h
    refine a_iconst (v := -1) X dX7_feed_13 (by decide) ?_
    refine a_iret X hr dX7_feed_14 ⟨by decide, by decide⟩ ?_
    subst hF
    rw [← Option.some.inj h]
    exact ⟨rfl, rfl⟩
noncomputable def D_X7_refuse (P : Nat) (v0 : Int32) (M : zMt) : Option (Int32 × zMt) :=
  zLt (zu M P 0 v0) fun M_2 =>
  some ((-1 : Int32), M_2)
set_option maxRecDepth 100000 in
set_option maxHeartbeats 4000000 in
theorem t_X7_refuse {l : Launch} {G : zG} {b : Nat} {L : List zC} {M : zMt} {N : zNt} {P : Nat} (hP : LX7 L P) {v0 : Int32} {r : Int32 × zMt} (h : D_X7_refuse P v0 M = some r) : zM l G b yX7_refuse cX7_refuse 2 (some .int) 0 0 0 [.ref P, .int v0] (L, M, N) (fun r2 z => r2 = some (.int r.1) ∧ z = (L, r.2, N)) := by
  refine zM.of miX7_refuse (Nat.le_of_ble_eq_true rfl) ?_
  intro p e s m args below meth c X hr hname
  generalize hF : ((fun r2 z => r2 = some (.int r.1) ∧ z = (L, r.2, N)) : Option Value → zS → Prop) = FQ
  change Zw p l e { frames := 0, cells := 0, slots := 0, locals := 80 * (0) } s m args below meth c G b 2 (MQ below (zQ G b FQ) args s 0 0 (fun q : Nat => b ≤ q)) 0 0 0 [some (.ref P), some (.int v0)] [] (L, M, N)
  obtain ⟨p_lt, p_o, p_tape, p_out, p_reader, p_list, p_past, p_pool, p_result, p_odds, p_paper, p_trial, p_trialPool, p_trialResult, p_trialOdds⟩ := id hP
  obtain ⟨p_reader_lt, p_reader_o, p_reader_draft, p_reader_text, p_reader_unitNames, p_reader_hunterNames, p_reader_partyNames, p_reader_asked⟩ := id p_reader
  obtain ⟨p_list_lt, p_list_o, p_list_quota, p_list_score, p_list_guest, p_list_party, p_list_wishCount, p_list_wishes, p_list_has⟩ := id p_list
  obtain ⟨p_past_lt, p_past_o, p_past_stood, p_past_stood0, p_past_stood1, p_past_stood2, p_past_stood3, p_past_stood4, p_past_stood5, p_past_stood6, p_past_stood7⟩ := id p_past
  obtain ⟨p_pool_lt, p_pool_o, p_pool_quota, p_pool_preferred, p_pool_forGuests, p_pool_applicantOf, p_pool_size, p_pool_guestCount, p_pool_score, p_pool_tickets, p_pool_bits, p_pool_party, p_pool_wishCount, p_pool_wishes⟩ := id p_pool
  obtain ⟨p_result_lt, p_result_o, p_result_line, p_result_unitOf, p_result_roundOf, p_result_leftTags, p_result_leftGuests, p_result_leftPreferred, p_result_ranked⟩ := id p_result
  obtain ⟨p_odds_lt, p_odds_o, p_odds_sets, p_odds_seen, p_odds_atUnit, p_odds_early, p_odds_result⟩ := id p_odds
  obtain ⟨p_paper_lt, p_paper_o, p_paper_times, p_paper_firstWish, p_paper_dry, p_paper_list, p_paper_pool, p_paper_result⟩ := id p_paper
  obtain ⟨p_trial_lt, p_trial_o, p_trial_quota, p_trial_score, p_trial_guest, p_trial_party, p_trial_wishCount, p_trial_wishes, p_trial_has⟩ := id p_trial
  obtain ⟨p_trialPool_lt, p_trialPool_o, p_trialPool_quota, p_trialPool_preferred, p_trialPool_forGuests, p_trialPool_applicantOf, p_trialPool_size, p_trialPool_guestCount, p_trialPool_score, p_trialPool_tickets, p_trialPool_bits, p_trialPool_party, p_trialPool_wishCount, p_trialPool_wishes⟩ := id p_trialPool
  obtain ⟨p_trialResult_lt, p_trialResult_o, p_trialResult_line, p_trialResult_unitOf, p_trialResult_roundOf, p_trialResult_leftTags, p_trialResult_leftGuests, p_trialResult_leftPreferred, p_trialResult_ranked⟩ := id p_trialResult
  obtain ⟨p_trialOdds_lt, p_trialOdds_o, p_trialOdds_sets, p_trialOdds_seen, p_trialOdds_atUnit, p_trialOdds_early, p_trialOdds_result⟩ := id p_trialOdds
  unfold D_X7_refuse at h
  refine a_aload_n X dX7_refuse_0 rfl ?_
  refine a_iload_n X dX7_refuse_1 rfl ?_
  obtain ⟨M_2, f_2, h⟩ := zLtx h
  refine d_puti X lf7_88 (by assumption) rfl dX7_refuse_2 f_2 ?_
  refine a_iconst (v := -1) X dX7_refuse_5 (by decide) ?_
  refine a_iret X hr dX7_refuse_6 ⟨by decide, by decide⟩ ?_
  subst hF
  rw [← Option.some.inj h]
  exact ⟨rfl, rfl⟩
noncomputable def D_X7_answer (P : Nat) (v0 : Int32) (M : zMt) : Option (Int32 × zMt) :=
  zLt (zu M P 0 (0 : Int32)) fun M_2 =>
  some (v0, M_2)
set_option maxRecDepth 100000 in
set_option maxHeartbeats 4000000 in
theorem t_X7_answer {l : Launch} {G : zG} {b : Nat} {L : List zC} {M : zMt} {N : zNt} {P : Nat} (hP : LX7 L P) {v0 : Int32} {r : Int32 × zMt} (h : D_X7_answer P v0 M = some r) : zM l G b yX7_answer cX7_answer 2 (some .int) 0 0 0 [.ref P, .int v0] (L, M, N) (fun r2 z => r2 = some (.int r.1) ∧ z = (L, r.2, N)) := by
  refine zM.of miX7_answer (Nat.le_of_ble_eq_true rfl) ?_
  intro p e s m args below meth c X hr hname
  generalize hF : ((fun r2 z => r2 = some (.int r.1) ∧ z = (L, r.2, N)) : Option Value → zS → Prop) = FQ
  change Zw p l e { frames := 0, cells := 0, slots := 0, locals := 80 * (0) } s m args below meth c G b 2 (MQ below (zQ G b FQ) args s 0 0 (fun q : Nat => b ≤ q)) 0 0 0 [some (.ref P), some (.int v0)] [] (L, M, N)
  obtain ⟨p_lt, p_o, p_tape, p_out, p_reader, p_list, p_past, p_pool, p_result, p_odds, p_paper, p_trial, p_trialPool, p_trialResult, p_trialOdds⟩ := id hP
  obtain ⟨p_reader_lt, p_reader_o, p_reader_draft, p_reader_text, p_reader_unitNames, p_reader_hunterNames, p_reader_partyNames, p_reader_asked⟩ := id p_reader
  obtain ⟨p_list_lt, p_list_o, p_list_quota, p_list_score, p_list_guest, p_list_party, p_list_wishCount, p_list_wishes, p_list_has⟩ := id p_list
  obtain ⟨p_past_lt, p_past_o, p_past_stood, p_past_stood0, p_past_stood1, p_past_stood2, p_past_stood3, p_past_stood4, p_past_stood5, p_past_stood6, p_past_stood7⟩ := id p_past
  obtain ⟨p_pool_lt, p_pool_o, p_pool_quota, p_pool_preferred, p_pool_forGuests, p_pool_applicantOf, p_pool_size, p_pool_guestCount, p_pool_score, p_pool_tickets, p_pool_bits, p_pool_party, p_pool_wishCount, p_pool_wishes⟩ := id p_pool
  obtain ⟨p_result_lt, p_result_o, p_result_line, p_result_unitOf, p_result_roundOf, p_result_leftTags, p_result_leftGuests, p_result_leftPreferred, p_result_ranked⟩ := id p_result
  obtain ⟨p_odds_lt, p_odds_o, p_odds_sets, p_odds_seen, p_odds_atUnit, p_odds_early, p_odds_result⟩ := id p_odds
  obtain ⟨p_paper_lt, p_paper_o, p_paper_times, p_paper_firstWish, p_paper_dry, p_paper_list, p_paper_pool, p_paper_result⟩ := id p_paper
  obtain ⟨p_trial_lt, p_trial_o, p_trial_quota, p_trial_score, p_trial_guest, p_trial_party, p_trial_wishCount, p_trial_wishes, p_trial_has⟩ := id p_trial
  obtain ⟨p_trialPool_lt, p_trialPool_o, p_trialPool_quota, p_trialPool_preferred, p_trialPool_forGuests, p_trialPool_applicantOf, p_trialPool_size, p_trialPool_guestCount, p_trialPool_score, p_trialPool_tickets, p_trialPool_bits, p_trialPool_party, p_trialPool_wishCount, p_trialPool_wishes⟩ := id p_trialPool
  obtain ⟨p_trialResult_lt, p_trialResult_o, p_trialResult_line, p_trialResult_unitOf, p_trialResult_roundOf, p_trialResult_leftTags, p_trialResult_leftGuests, p_trialResult_leftPreferred, p_trialResult_ranked⟩ := id p_trialResult
  obtain ⟨p_trialOdds_lt, p_trialOdds_o, p_trialOdds_sets, p_trialOdds_seen, p_trialOdds_atUnit, p_trialOdds_early, p_trialOdds_result⟩ := id p_trialOdds
  unfold D_X7_answer at h
  refine a_aload_n X dX7_answer_0 rfl ?_
  refine a_iconst (v := 0) X dX7_answer_1 (by decide) ?_
  obtain ⟨M_2, f_2, h⟩ := zLtx h
  refine d_puti X lf7_88 (by assumption) rfl dX7_answer_2 f_2 ?_
  refine a_iload_n X dX7_answer_5 rfl ?_
  refine a_iret X hr dX7_answer_6 ⟨by decide, by decide⟩ ?_
  subst hF
  rw [← Option.some.inj h]
  exact ⟨rfl, rfl⟩
noncomputable def D_X7_changed (P : Nat) (v0 : Int32) (M : zMt) : Option (Int32 × zMt) :=
  zB (D_X2_gather (P + 91) (P + 17) M) fun e_8 =>
  zLt (zu e_8 P 3 (0 : Int32)) fun M_13 =>
  zB (D_X7_answer P v0 M_13) fun e_18 =>
  some (e_18.1, e_18.2)
set_option maxRecDepth 100000 in
set_option maxHeartbeats 4000000 in
theorem t_X7_changed {l : Launch} {G : zG} {b : Nat} {L : List zC} {M : zMt} {N : zNt} {P : Nat} (hP : LX7 L P) {v0 : Int32} {r : Int32 × zMt} (h : D_X7_changed P v0 M = some r) : zM l G b yX7_changed cX7_changed 2 (some .int) 3 0 0 [.ref P, .int v0] (L, M, N) (fun r2 z => r2 = some (.int r.1) ∧ z = (L, r.2, N)) := by
  refine zM.of miX7_changed (Nat.le_of_ble_eq_true rfl) ?_
  intro p e s m args below meth c X hr hname
  generalize hF : ((fun r2 z => r2 = some (.int r.1) ∧ z = (L, r.2, N)) : Option Value → zS → Prop) = FQ
  change Zw p l e { frames := 3, cells := 0, slots := 0, locals := 80 * (3) } s m args below meth c G b 2 (MQ below (zQ G b FQ) args s 0 0 (fun q : Nat => b ≤ q)) 0 0 0 [some (.ref P), some (.int v0)] [] (L, M, N)
  obtain ⟨p_lt, p_o, p_tape, p_out, p_reader, p_list, p_past, p_pool, p_result, p_odds, p_paper, p_trial, p_trialPool, p_trialResult, p_trialOdds⟩ := id hP
  obtain ⟨p_reader_lt, p_reader_o, p_reader_draft, p_reader_text, p_reader_unitNames, p_reader_hunterNames, p_reader_partyNames, p_reader_asked⟩ := id p_reader
  obtain ⟨p_list_lt, p_list_o, p_list_quota, p_list_score, p_list_guest, p_list_party, p_list_wishCount, p_list_wishes, p_list_has⟩ := id p_list
  obtain ⟨p_past_lt, p_past_o, p_past_stood, p_past_stood0, p_past_stood1, p_past_stood2, p_past_stood3, p_past_stood4, p_past_stood5, p_past_stood6, p_past_stood7⟩ := id p_past
  obtain ⟨p_pool_lt, p_pool_o, p_pool_quota, p_pool_preferred, p_pool_forGuests, p_pool_applicantOf, p_pool_size, p_pool_guestCount, p_pool_score, p_pool_tickets, p_pool_bits, p_pool_party, p_pool_wishCount, p_pool_wishes⟩ := id p_pool
  obtain ⟨p_result_lt, p_result_o, p_result_line, p_result_unitOf, p_result_roundOf, p_result_leftTags, p_result_leftGuests, p_result_leftPreferred, p_result_ranked⟩ := id p_result
  obtain ⟨p_odds_lt, p_odds_o, p_odds_sets, p_odds_seen, p_odds_atUnit, p_odds_early, p_odds_result⟩ := id p_odds
  obtain ⟨p_paper_lt, p_paper_o, p_paper_times, p_paper_firstWish, p_paper_dry, p_paper_list, p_paper_pool, p_paper_result⟩ := id p_paper
  obtain ⟨p_trial_lt, p_trial_o, p_trial_quota, p_trial_score, p_trial_guest, p_trial_party, p_trial_wishCount, p_trial_wishes, p_trial_has⟩ := id p_trial
  obtain ⟨p_trialPool_lt, p_trialPool_o, p_trialPool_quota, p_trialPool_preferred, p_trialPool_forGuests, p_trialPool_applicantOf, p_trialPool_size, p_trialPool_guestCount, p_trialPool_score, p_trialPool_tickets, p_trialPool_bits, p_trialPool_party, p_trialPool_wishCount, p_trialPool_wishes⟩ := id p_trialPool
  obtain ⟨p_trialResult_lt, p_trialResult_o, p_trialResult_line, p_trialResult_unitOf, p_trialResult_roundOf, p_trialResult_leftTags, p_trialResult_leftGuests, p_trialResult_leftPreferred, p_trialResult_ranked⟩ := id p_trialResult
  obtain ⟨p_trialOdds_lt, p_trialOdds_o, p_trialOdds_sets, p_trialOdds_seen, p_trialOdds_atUnit, p_trialOdds_early, p_trialOdds_result⟩ := id p_trialOdds
  unfold D_X7_changed at h
  refine a_aload_n X dX7_changed_0 rfl ?_
  refine a_getr X lf7_40 (by assumption) rfl (by omega) dX7_changed_1 ?_
  refine a_aload_n X dX7_changed_4 rfl ?_
  refine a_getr X lf7_26 (by assumption) rfl (by omega) dX7_changed_5 ?_
  obtain ⟨e_8, f_8, h⟩ := zBx h
  refine a_callVu X dX7_changed_8 miX2_gather lm7_80 (t_X2_gather (by assumption) (by assumption) f_8) (by assumption) rfl rfl rfl (Nat.le_of_ble_eq_true rfl) ⟨by decide, by decide, by decide, by decide⟩ ?_
  refine a_aload_n X dX7_changed_11 rfl ?_
  refine a_iconst (v := 0) X dX7_changed_12 (by decide) ?_
  obtain ⟨M_13, f_13, h⟩ := zLtx h
  refine d_putz X (by first | exact Or.inl rfl | exact Or.inr rfl | assumption) lf7_368 (by assumption) rfl dX7_changed_13 f_13 ?_
  refine a_aload_n X dX7_changed_16 rfl ?_
  refine a_iload_n X dX7_changed_17 rfl ?_
  obtain ⟨e_18, f_18, h⟩ := zBx h
  refine a_callVv X dX7_changed_18 miX7_answer lm7_134 (t_X7_answer (by assumption) f_18) (by assumption) rfl rfl rfl (Nat.le_of_ble_eq_true rfl) ⟨by decide, by decide, by decide, by decide⟩ ?_
  refine a_iret X hr dX7_changed_21 ⟨by decide, by decide⟩ ?_
  subst hF
  rw [← Option.some.inj h]
  exact ⟨rfl, rfl⟩
noncomputable def D_X7_load_12 (P : Nat) (M_12 : zMt) (N_12 : zNt) : Option (Int32 × zMt × zNt) :=
  zB (D_X7_refuse P (1 : Int32) M_12) fun e_14 =>
  some (e_14.1, e_14.2, N_12)
noncomputable def D_X7_load (P : Nat) (v0 : Int32) (M : zMt) (N : zNt) : Option (Int32 × zMt × zNt) :=
  if v0 < 0 then
    D_X7_load_12 P M N
  else
    if v0 ≤ (M P 1) then
      zB (D_X3_read (P + 3) (P + 1) 700 v0 M N) fun e_27 =>
      zLt (zu e_27.2.1 P 1 (0 : Int32)) fun M_33 =>
      if e_27.1 = 0 then
        zB (D_X7_refuse P (9 : Int32) M_33) fun e_43 =>
        some (e_43.1, e_43.2, e_27.2.2)
      else
        zB (D_X4_take (P + 17) (P + 4) M_33) fun e_58 =>
        zB (D_X1_forget (P + 25) e_58) fun e_65 =>
        zB (D_X7_changed P (e_65 (P + 17) 1) e_65) fun e_76 =>
        some (e_76.1, e_76.2, e_27.2.2)
    else
      D_X7_load_12 P M N
set_option maxRecDepth 100000 in
set_option maxHeartbeats 4000000 in
theorem t_X7_load {l : Launch} {G : zG} {b : Nat} {L : List zC} {M : zMt} {N : zNt} {P : Nat} (hP : LX7 L P) {v0 : Int32} {r : Int32 × zMt × zNt} (h : D_X7_load P v0 M N = some r) : zM l G b yX7_load cX7_load 3 (some .int) 10 0 0 [.ref P, .int v0] (L, M, N) (fun r2 z => r2 = some (.int r.1) ∧ z = (L, r.2.1, r.2.2)) := by
  refine zM.of miX7_load (Nat.le_of_ble_eq_true rfl) ?_
  intro p e s m args below meth c X hr hname
  generalize hF : ((fun r2 z => r2 = some (.int r.1) ∧ z = (L, r.2.1, r.2.2)) : Option Value → zS → Prop) = FQ
  change Zw p l e { frames := 10, cells := 0, slots := 0, locals := 80 * (10) } s m args below meth c G b 3 (MQ below (zQ G b FQ) args s 0 0 (fun q : Nat => b ≤ q)) 0 0 0 [some (.ref P), some (.int v0), none] [] (L, M, N)
  obtain ⟨p_lt, p_o, p_tape, p_out, p_reader, p_list, p_past, p_pool, p_result, p_odds, p_paper, p_trial, p_trialPool, p_trialResult, p_trialOdds⟩ := id hP
  obtain ⟨p_reader_lt, p_reader_o, p_reader_draft, p_reader_text, p_reader_unitNames, p_reader_hunterNames, p_reader_partyNames, p_reader_asked⟩ := id p_reader
  obtain ⟨p_list_lt, p_list_o, p_list_quota, p_list_score, p_list_guest, p_list_party, p_list_wishCount, p_list_wishes, p_list_has⟩ := id p_list
  obtain ⟨p_past_lt, p_past_o, p_past_stood, p_past_stood0, p_past_stood1, p_past_stood2, p_past_stood3, p_past_stood4, p_past_stood5, p_past_stood6, p_past_stood7⟩ := id p_past
  obtain ⟨p_pool_lt, p_pool_o, p_pool_quota, p_pool_preferred, p_pool_forGuests, p_pool_applicantOf, p_pool_size, p_pool_guestCount, p_pool_score, p_pool_tickets, p_pool_bits, p_pool_party, p_pool_wishCount, p_pool_wishes⟩ := id p_pool
  obtain ⟨p_result_lt, p_result_o, p_result_line, p_result_unitOf, p_result_roundOf, p_result_leftTags, p_result_leftGuests, p_result_leftPreferred, p_result_ranked⟩ := id p_result
  obtain ⟨p_odds_lt, p_odds_o, p_odds_sets, p_odds_seen, p_odds_atUnit, p_odds_early, p_odds_result⟩ := id p_odds
  obtain ⟨p_paper_lt, p_paper_o, p_paper_times, p_paper_firstWish, p_paper_dry, p_paper_list, p_paper_pool, p_paper_result⟩ := id p_paper
  obtain ⟨p_trial_lt, p_trial_o, p_trial_quota, p_trial_score, p_trial_guest, p_trial_party, p_trial_wishCount, p_trial_wishes, p_trial_has⟩ := id p_trial
  obtain ⟨p_trialPool_lt, p_trialPool_o, p_trialPool_quota, p_trialPool_preferred, p_trialPool_forGuests, p_trialPool_applicantOf, p_trialPool_size, p_trialPool_guestCount, p_trialPool_score, p_trialPool_tickets, p_trialPool_bits, p_trialPool_party, p_trialPool_wishCount, p_trialPool_wishes⟩ := id p_trialPool
  obtain ⟨p_trialResult_lt, p_trialResult_o, p_trialResult_line, p_trialResult_unitOf, p_trialResult_roundOf, p_trialResult_leftTags, p_trialResult_leftGuests, p_trialResult_leftPreferred, p_trialResult_ranked⟩ := id p_trialResult
  obtain ⟨p_trialOdds_lt, p_trialOdds_o, p_trialOdds_sets, p_trialOdds_seen, p_trialOdds_atUnit, p_trialOdds_early, p_trialOdds_result⟩ := id p_trialOdds
  have J_12 : ∀ (x1_12 : Int32) (x2_12 : Option Value) (M_12 : zMt) (N_12 : zNt), D_X7_load_12 P M_12 N_12 = some r → Zw p l e { frames := 10, cells := 0, slots := 0, locals := 80 * (10) } s m args below meth c G b 3 (MQ below (zQ G b FQ) args s 0 0 (fun q : Nat => b ≤ q)) 0 0 12 [some (.ref (P)), some (.int x1_12), x2_12] [] (L, M_12, N_12) := by
    intro x1_12 x2_12 M_12 N_12 h
    unfold D_X7_load_12 at h
    refine a_aload_n X dX7_load_12 rfl ?_
    refine a_iconst (v := 1) X dX7_load_13 (by decide) ?_
    obtain ⟨e_14, f_14, h⟩ := zBx h
    refine a_callVv X dX7_load_14 miX7_refuse lm7_102 (t_X7_refuse (by assumption) f_14) (by assumption) rfl rfl rfl (Nat.le_of_ble_eq_true rfl) ⟨by decide, by decide, by decide, by decide⟩ ?_
    refine a_iret X hr dX7_load_17 ⟨by decide, by decide⟩ ?_
    subst hF
    rw [← Option.some.inj h]
    exact ⟨rfl, rfl⟩
  unfold D_X7_load at h
  refine a_iload_n X dX7_load_0 rfl ?_
  refine a_if_lt (tgt := 12) X dX7_load_1 (by decide) (fun h_1 => ?_) (fun h_1 => ?_)
  · replace h := (if_pos h_1).symm.trans h
    exact Zw.to2 (J_12 _ _ _ _ h) rfl rfl rfl
  · replace h := (if_neg h_1).symm.trans h
    refine a_iload_n X dX7_load_4 rfl ?_
    refine a_aload_n X dX7_load_5 rfl ?_
    refine a_geti X lf7_91 (by assumption) rfl dX7_load_6 ?_
    refine a_icmp_le (tgt := 18) X dX7_load_9 (by decide) (fun h_9 => ?_) (fun h_9 => ?_)
    · replace h := (if_pos h_9).symm.trans h
      refine a_aload_n X dX7_load_18 rfl ?_
      refine a_getr X lf7_19 (by assumption) rfl (by omega) dX7_load_19 ?_
      refine a_aload_n X dX7_load_22 rfl ?_
      refine a_getr X lf7_9 (by assumption) rfl (by omega) dX7_load_23 ?_
      refine a_iload_n X dX7_load_26 rfl ?_
      obtain ⟨e_27, f_27, h⟩ := zBx h
      refine a_callVx X dX7_load_27 miX3_read lm7_106 (t_X3_read (by assumption) (by assumption) (by first | decide | assumption) (by omega) f_27) (by assumption) rfl rfl rfl (Nat.le_of_ble_eq_true rfl) ⟨by decide, by decide, by decide, by decide⟩ (fun r_27 S_27 q_27 => ?_)
      obtain ⟨rfl, rfl, b_27⟩ := q_27
      refine a_istore_n X dX7_load_30 (by decide) ?_
      refine a_aload_n X dX7_load_31 rfl ?_
      refine a_iconst (v := 0) X dX7_load_32 (by decide) ?_
      obtain ⟨M_33, f_33, h⟩ := zLtx h
      refine d_puti X lf7_91 (by assumption) rfl dX7_load_33 f_33 ?_
      refine a_iload_n X dX7_load_36 rfl ?_
      refine a_if_ne (tgt := 47) X dX7_load_37 (by decide) (fun h_37 => ?_) (fun h_37 => ?_)
      · replace h := (if_neg h_37).symm.trans h
        refine a_aload_n X dX7_load_47 rfl ?_
        refine a_getr X lf7_26 (by assumption) rfl (by omega) dX7_load_48 ?_
        refine a_aload_n X dX7_load_51 rfl ?_
        refine a_getr X lf7_19 (by assumption) rfl (by omega) dX7_load_52 ?_
        refine a_getr X lf7_110 (by assumption) rfl (by omega) dX7_load_55 ?_
        obtain ⟨e_58, f_58, h⟩ := zBx h
        refine a_callVu X dX7_load_58 miX4_take lm7_113 (t_X4_take (by assumption) (by assumption) (by omega) f_58) (by assumption) rfl rfl rfl (Nat.le_of_ble_eq_true rfl) ⟨by decide, by decide, by decide, by decide⟩ ?_
        refine a_aload_n X dX7_load_61 rfl ?_
        refine a_getr X lf7_33 (by assumption) rfl (by omega) dX7_load_62 ?_
        obtain ⟨e_65, f_65, h⟩ := zBx h
        refine a_callVu X dX7_load_65 miX1_forget lm7_116 (t_X1_forget (by assumption) f_65) (by assumption) rfl rfl rfl (Nat.le_of_ble_eq_true rfl) ⟨by decide, by decide, by decide, by decide⟩ ?_
        refine a_aload_n X dX7_load_68 rfl ?_
        refine a_aload_n X dX7_load_69 rfl ?_
        refine a_getr X lf7_26 (by assumption) rfl (by omega) dX7_load_70 ?_
        refine a_geti X lf7_119 (by assumption) rfl dX7_load_73 ?_
        obtain ⟨e_76, f_76, h⟩ := zBx h
        refine a_callVv X dX7_load_76 miX7_changed lm7_122 (t_X7_changed (by assumption) f_76) (by assumption) rfl rfl rfl (Nat.le_of_ble_eq_true rfl) ⟨by decide, by decide, by decide, by decide⟩ ?_
        refine a_iret X hr dX7_load_79 ⟨by decide, by decide⟩ ?_
        subst hF
        rw [← Option.some.inj h]
        exact ⟨rfl, rfl⟩
      · replace h := (if_pos h_37).symm.trans h
        refine a_aload_n X dX7_load_40 rfl ?_
        refine a_bipush (v := 9) X dX7_load_41 (by decide) ?_
        obtain ⟨e_43, f_43, h⟩ := zBx h
        refine a_callVv X dX7_load_43 miX7_refuse lm7_102 (t_X7_refuse (by assumption) f_43) (by assumption) rfl rfl rfl (Nat.le_of_ble_eq_true rfl) ⟨by decide, by decide, by decide, by decide⟩ ?_
        refine a_iret X hr dX7_load_46 ⟨by decide, by decide⟩ ?_
        subst hF
        rw [← Option.some.inj h]
        exact ⟨rfl, rfl⟩
    · replace h := (if_neg h_9).symm.trans h
      exact Zw.to2 (J_12 _ _ _ _ h) rfl rfl rfl
noncomputable def D_X7_fault_28 (P : Nat) (M : zMt) (y0_28 : Int32) : Option (Int32) :=
  some (y0_28)
noncomputable def D_X7_fault (P : Nat) (M : zMt) (v0 : Int32) : Option (Int32) :=
  if v0 = 0 then
    some ((M (P + 3) 1))
  else
    if v0 = (1 : Int32) then
      D_X7_fault_28 P M (M (P + 3) 2)
    else
      D_X7_fault_28 P M (-1 : Int32)
set_option maxRecDepth 100000 in
set_option maxHeartbeats 4000000 in
theorem t_X7_fault {l : Launch} {G : zG} {b : Nat} {L : List zC} {M : zMt} {N : zNt} {P : Nat} (hP : LX7 L P) {v0 : Int32} {r : Int32} (h : D_X7_fault P M v0 = some r) : zM l G b yX7_fault cX7_fault 2 (some .int) 0 0 0 [.ref P, .int v0] (L, M, N) (fun r2 z => r2 = some (.int r) ∧ z = (L, M, N)) := by
  refine zM.of miX7_fault (Nat.le_of_ble_eq_true rfl) ?_
  intro p e s m args below meth c X hr hname
  generalize hF : ((fun r2 z => r2 = some (.int r) ∧ z = (L, M, N)) : Option Value → zS → Prop) = FQ
  change Zw p l e { frames := 0, cells := 0, slots := 0, locals := 80 * (0) } s m args below meth c G b 2 (MQ below (zQ G b FQ) args s 0 0 (fun q : Nat => b ≤ q)) 0 0 0 [some (.ref P), some (.int v0)] [] (L, M, N)
  obtain ⟨p_lt, p_o, p_tape, p_out, p_reader, p_list, p_past, p_pool, p_result, p_odds, p_paper, p_trial, p_trialPool, p_trialResult, p_trialOdds⟩ := id hP
  obtain ⟨p_reader_lt, p_reader_o, p_reader_draft, p_reader_text, p_reader_unitNames, p_reader_hunterNames, p_reader_partyNames, p_reader_asked⟩ := id p_reader
  obtain ⟨p_list_lt, p_list_o, p_list_quota, p_list_score, p_list_guest, p_list_party, p_list_wishCount, p_list_wishes, p_list_has⟩ := id p_list
  obtain ⟨p_past_lt, p_past_o, p_past_stood, p_past_stood0, p_past_stood1, p_past_stood2, p_past_stood3, p_past_stood4, p_past_stood5, p_past_stood6, p_past_stood7⟩ := id p_past
  obtain ⟨p_pool_lt, p_pool_o, p_pool_quota, p_pool_preferred, p_pool_forGuests, p_pool_applicantOf, p_pool_size, p_pool_guestCount, p_pool_score, p_pool_tickets, p_pool_bits, p_pool_party, p_pool_wishCount, p_pool_wishes⟩ := id p_pool
  obtain ⟨p_result_lt, p_result_o, p_result_line, p_result_unitOf, p_result_roundOf, p_result_leftTags, p_result_leftGuests, p_result_leftPreferred, p_result_ranked⟩ := id p_result
  obtain ⟨p_odds_lt, p_odds_o, p_odds_sets, p_odds_seen, p_odds_atUnit, p_odds_early, p_odds_result⟩ := id p_odds
  obtain ⟨p_paper_lt, p_paper_o, p_paper_times, p_paper_firstWish, p_paper_dry, p_paper_list, p_paper_pool, p_paper_result⟩ := id p_paper
  obtain ⟨p_trial_lt, p_trial_o, p_trial_quota, p_trial_score, p_trial_guest, p_trial_party, p_trial_wishCount, p_trial_wishes, p_trial_has⟩ := id p_trial
  obtain ⟨p_trialPool_lt, p_trialPool_o, p_trialPool_quota, p_trialPool_preferred, p_trialPool_forGuests, p_trialPool_applicantOf, p_trialPool_size, p_trialPool_guestCount, p_trialPool_score, p_trialPool_tickets, p_trialPool_bits, p_trialPool_party, p_trialPool_wishCount, p_trialPool_wishes⟩ := id p_trialPool
  obtain ⟨p_trialResult_lt, p_trialResult_o, p_trialResult_line, p_trialResult_unitOf, p_trialResult_roundOf, p_trialResult_leftTags, p_trialResult_leftGuests, p_trialResult_leftPreferred, p_trialResult_ranked⟩ := id p_trialResult
  obtain ⟨p_trialOdds_lt, p_trialOdds_o, p_trialOdds_sets, p_trialOdds_seen, p_trialOdds_atUnit, p_trialOdds_early, p_trialOdds_result⟩ := id p_trialOdds
  have J_28 : ∀ (x1_28 : Int32) (y0_28 : Int32), D_X7_fault_28 P M y0_28 = some r → Zw p l e { frames := 0, cells := 0, slots := 0, locals := 80 * (0) } s m args below meth c G b 2 (MQ below (zQ G b FQ) args s 0 0 (fun q : Nat => b ≤ q)) 0 0 28 [some (.ref (P)), some (.int x1_28)] [.int y0_28] (L, M, N) := by
    intro x1_28 y0_28 h
    unfold D_X7_fault_28 at h
    refine a_iret X hr dX7_fault_28 ⟨by decide, by decide⟩ ?_
    subst hF
    rw [← Option.some.inj h]
    exact ⟨rfl, rfl⟩
  unfold D_X7_fault at h
  refine a_iload_n X dX7_fault_0 rfl ?_
  refine a_if_ne (tgt := 12) X dX7_fault_1 (by decide) (fun h_1 => ?_) (fun h_1 => ?_)
  · replace h := (if_neg h_1).symm.trans h
    refine a_iload_n X dX7_fault_12 rfl ?_
    refine a_iconst (v := 1) X dX7_fault_13 (by decide) ?_
    refine a_icmp_ne (tgt := 27) X dX7_fault_14 (by decide) (fun h_14 => ?_) (fun h_14 => ?_)
    · replace h := (if_neg h_14).symm.trans h
      refine a_iconst (v := -1) X dX7_fault_27 (by decide) ?_
      exact Zw.to2 (J_28 _ _ h) rfl rfl rfl
    · replace h := (if_pos h_14).symm.trans h
      refine a_aload_n X dX7_fault_17 rfl ?_
      refine a_getr X lf7_19 (by assumption) rfl (by omega) dX7_fault_18 ?_
      refine a_geti X lf7_128 (by assumption) rfl dX7_fault_21 ?_
      refine a_goto (tgt := 28) X dX7_fault_24 (by decide) ?_
      exact Zw.to2 (J_28 _ _ h) rfl rfl rfl
  · replace h := (if_pos h_1).symm.trans h
    refine a_aload_n X dX7_fault_4 rfl ?_
    refine a_getr X lf7_19 (by assumption) rfl (by omega) dX7_fault_5 ?_
    refine a_geti X lf7_125 (by assumption) rfl dX7_fault_8 ?_
    refine a_iret X hr dX7_fault_11 ⟨by decide, by decide⟩ ?_
    subst hF
    rw [← Option.some.inj h]
    exact ⟨rfl, rfl⟩
noncomputable def D_X7_many (P : Nat) (v0 : Int32) (M : zMt) : Option (Int32 × zMt) :=
  if Int32.toInt v0 = 0 then
    zB (D_X7_answer P (M (P + 17) 0) M) fun e_68 =>
    some (e_68.1, e_68.2)
  else
  if Int32.toInt v0 = 1 then
    zB (D_X7_answer P (M (P + 17) 1) M) fun e_80 =>
    some (e_80.1, e_80.2)
  else
  if Int32.toInt v0 = 2 then
    zB (D_X7_answer P (M (P + 17) 2) M) fun e_92 =>
    some (e_92.1, e_92.2)
  else
  if Int32.toInt v0 = 3 then
    zB (D_X7_answer P (M (P + 91) 1) M) fun e_104 =>
    some (e_104.1, e_104.2)
  else
  if Int32.toInt v0 = 4 then
    zB (D_X7_answer P (M (P + 17) 3) M) fun e_116 =>
    some (e_116.1, e_116.2)
  else
  if Int32.toInt v0 = 5 then
    zB (D_X7_answer P (M (P + 17) 4) M) fun e_128 =>
    some (e_128.1, e_128.2)
  else
  if Int32.toInt v0 = 6 then
    zB (D_X7_answer P (M (P + 17) 5) M) fun e_140 =>
    some (e_140.1, e_140.2)
  else
  if Int32.toInt v0 = 7 then
    zB (D_X7_answer P (M (P + 17) 6) M) fun e_152 =>
    some (e_152.1, e_152.2)
  else
  if Int32.toInt v0 = 8 then
    zB (D_X7_answer P (M (P + 25) 0) M) fun e_164 =>
    some (e_164.1, e_164.2)
  else
  if Int32.toInt v0 = 9 then
    zB (D_X7_answer P (zsum (M (P + 18)) 5) M) fun e_179 =>
    some (e_179.1, e_179.2)
  else
  if Int32.toInt v0 = 10 then
    zB (D_X7_answer P (zsum (M (P + 20)) 10) M) fun e_194 =>
    some (e_194.1, e_194.2)
  else
    zB (D_X7_refuse P (1 : Int32) M) fun e_200 =>
    some (e_200.1, e_200.2)
set_option maxRecDepth 100000 in
set_option maxHeartbeats 4000000 in
theorem t_X7_many {l : Launch} {G : zG} {b : Nat} {L : List zC} {M : zMt} {N : zNt} {P : Nat} (hP : LX7 L P) {v0 : Int32} {r : Int32 × zMt} (h : D_X7_many P v0 M = some r) : zM l G b yX7_many cX7_many 2 (some .int) 1 0 0 [.ref P, .int v0] (L, M, N) (fun r2 z => r2 = some (.int r.1) ∧ z = (L, r.2, N)) := by
  refine zM.of miX7_many (Nat.le_of_ble_eq_true rfl) ?_
  intro p e s m args below meth c X hr hname
  generalize hF : ((fun r2 z => r2 = some (.int r.1) ∧ z = (L, r.2, N)) : Option Value → zS → Prop) = FQ
  change Zw p l e { frames := 1, cells := 0, slots := 0, locals := 80 * (1) } s m args below meth c G b 2 (MQ below (zQ G b FQ) args s 0 0 (fun q : Nat => b ≤ q)) 0 0 0 [some (.ref P), some (.int v0)] [] (L, M, N)
  obtain ⟨p_lt, p_o, p_tape, p_out, p_reader, p_list, p_past, p_pool, p_result, p_odds, p_paper, p_trial, p_trialPool, p_trialResult, p_trialOdds⟩ := id hP
  obtain ⟨p_reader_lt, p_reader_o, p_reader_draft, p_reader_text, p_reader_unitNames, p_reader_hunterNames, p_reader_partyNames, p_reader_asked⟩ := id p_reader
  obtain ⟨p_list_lt, p_list_o, p_list_quota, p_list_score, p_list_guest, p_list_party, p_list_wishCount, p_list_wishes, p_list_has⟩ := id p_list
  obtain ⟨p_past_lt, p_past_o, p_past_stood, p_past_stood0, p_past_stood1, p_past_stood2, p_past_stood3, p_past_stood4, p_past_stood5, p_past_stood6, p_past_stood7⟩ := id p_past
  obtain ⟨p_pool_lt, p_pool_o, p_pool_quota, p_pool_preferred, p_pool_forGuests, p_pool_applicantOf, p_pool_size, p_pool_guestCount, p_pool_score, p_pool_tickets, p_pool_bits, p_pool_party, p_pool_wishCount, p_pool_wishes⟩ := id p_pool
  obtain ⟨p_result_lt, p_result_o, p_result_line, p_result_unitOf, p_result_roundOf, p_result_leftTags, p_result_leftGuests, p_result_leftPreferred, p_result_ranked⟩ := id p_result
  obtain ⟨p_odds_lt, p_odds_o, p_odds_sets, p_odds_seen, p_odds_atUnit, p_odds_early, p_odds_result⟩ := id p_odds
  obtain ⟨p_paper_lt, p_paper_o, p_paper_times, p_paper_firstWish, p_paper_dry, p_paper_list, p_paper_pool, p_paper_result⟩ := id p_paper
  obtain ⟨p_trial_lt, p_trial_o, p_trial_quota, p_trial_score, p_trial_guest, p_trial_party, p_trial_wishCount, p_trial_wishes, p_trial_has⟩ := id p_trial
  obtain ⟨p_trialPool_lt, p_trialPool_o, p_trialPool_quota, p_trialPool_preferred, p_trialPool_forGuests, p_trialPool_applicantOf, p_trialPool_size, p_trialPool_guestCount, p_trialPool_score, p_trialPool_tickets, p_trialPool_bits, p_trialPool_party, p_trialPool_wishCount, p_trialPool_wishes⟩ := id p_trialPool
  obtain ⟨p_trialResult_lt, p_trialResult_o, p_trialResult_line, p_trialResult_unitOf, p_trialResult_roundOf, p_trialResult_leftTags, p_trialResult_leftGuests, p_trialResult_leftPreferred, p_trialResult_ranked⟩ := id p_trialResult
  obtain ⟨p_trialOdds_lt, p_trialOdds_o, p_trialOdds_sets, p_trialOdds_seen, p_trialOdds_atUnit, p_trialOdds_early, p_trialOdds_result⟩ := id p_trialOdds
  unfold D_X7_many at h
  refine a_iload_n X dX7_many_0 rfl ?_
  refine a_tsw (tg := [60, 72, 84, 96, 108, 120, 132, 144, 156, 168, 183]) (td := 198) X dX7_many_1 (by decide +kernel) (by decide) (by decide) (fun k_1 t_1 ht_1 hx_1 => ?_) (fun hx_1 => ?_)
  · match k_1, ht_1, hx_1 with
    | 0, ht_1, hx_1 =>
      cases ht_1
      replace h := (if_pos (by omega)).symm.trans h
      refine a_aload_n X dX7_many_60 rfl ?_
      refine a_aload_n X dX7_many_61 rfl ?_
      refine a_getr X lf7_26 (by assumption) rfl (by omega) dX7_many_62 ?_
      refine a_geti X lf7_131 (by assumption) rfl dX7_many_65 ?_
      obtain ⟨e_68, f_68, h⟩ := zBx h
      refine a_callVv X dX7_many_68 miX7_answer lm7_134 (t_X7_answer (by assumption) f_68) (by assumption) rfl rfl rfl (Nat.le_of_ble_eq_true rfl) ⟨by decide, by decide, by decide, by decide⟩ ?_
      refine a_iret X hr dX7_many_71 ⟨by decide, by decide⟩ ?_
      subst hF
      rw [← Option.some.inj h]
      exact ⟨rfl, rfl⟩
    | 1, ht_1, hx_1 =>
      cases ht_1
      replace h := (if_neg (by omega)).symm.trans h
      replace h := (if_pos (by omega)).symm.trans h
      refine a_aload_n X dX7_many_72 rfl ?_
      refine a_aload_n X dX7_many_73 rfl ?_
      refine a_getr X lf7_26 (by assumption) rfl (by omega) dX7_many_74 ?_
      refine a_geti X lf7_119 (by assumption) rfl dX7_many_77 ?_
      obtain ⟨e_80, f_80, h⟩ := zBx h
      refine a_callVv X dX7_many_80 miX7_answer lm7_134 (t_X7_answer (by assumption) f_80) (by assumption) rfl rfl rfl (Nat.le_of_ble_eq_true rfl) ⟨by decide, by decide, by decide, by decide⟩ ?_
      refine a_iret X hr dX7_many_83 ⟨by decide, by decide⟩ ?_
      subst hF
      rw [← Option.some.inj h]
      exact ⟨rfl, rfl⟩
    | 2, ht_1, hx_1 =>
      cases ht_1
      replace h := (if_neg (by omega)).symm.trans h
      replace h := (if_neg (by omega)).symm.trans h
      replace h := (if_pos (by omega)).symm.trans h
      refine a_aload_n X dX7_many_84 rfl ?_
      refine a_aload_n X dX7_many_85 rfl ?_
      refine a_getr X lf7_26 (by assumption) rfl (by omega) dX7_many_86 ?_
      refine a_geti X lf7_137 (by assumption) rfl dX7_many_89 ?_
      obtain ⟨e_92, f_92, h⟩ := zBx h
      refine a_callVv X dX7_many_92 miX7_answer lm7_134 (t_X7_answer (by assumption) f_92) (by assumption) rfl rfl rfl (Nat.le_of_ble_eq_true rfl) ⟨by decide, by decide, by decide, by decide⟩ ?_
      refine a_iret X hr dX7_many_95 ⟨by decide, by decide⟩ ?_
      subst hF
      rw [← Option.some.inj h]
      exact ⟨rfl, rfl⟩
    | 3, ht_1, hx_1 =>
      cases ht_1
      replace h := (if_neg (by omega)).symm.trans h
      replace h := (if_neg (by omega)).symm.trans h
      replace h := (if_neg (by omega)).symm.trans h
      replace h := (if_pos (by omega)).symm.trans h
      refine a_aload_n X dX7_many_96 rfl ?_
      refine a_aload_n X dX7_many_97 rfl ?_
      refine a_getr X lf7_40 (by assumption) rfl (by omega) dX7_many_98 ?_
      refine a_geti X lf7_140 (by assumption) rfl dX7_many_101 ?_
      obtain ⟨e_104, f_104, h⟩ := zBx h
      refine a_callVv X dX7_many_104 miX7_answer lm7_134 (t_X7_answer (by assumption) f_104) (by assumption) rfl rfl rfl (Nat.le_of_ble_eq_true rfl) ⟨by decide, by decide, by decide, by decide⟩ ?_
      refine a_iret X hr dX7_many_107 ⟨by decide, by decide⟩ ?_
      subst hF
      rw [← Option.some.inj h]
      exact ⟨rfl, rfl⟩
    | 4, ht_1, hx_1 =>
      cases ht_1
      replace h := (if_neg (by omega)).symm.trans h
      replace h := (if_neg (by omega)).symm.trans h
      replace h := (if_neg (by omega)).symm.trans h
      replace h := (if_neg (by omega)).symm.trans h
      replace h := (if_pos (by omega)).symm.trans h
      refine a_aload_n X dX7_many_108 rfl ?_
      refine a_aload_n X dX7_many_109 rfl ?_
      refine a_getr X lf7_26 (by assumption) rfl (by omega) dX7_many_110 ?_
      refine a_geti X lf7_143 (by assumption) rfl dX7_many_113 ?_
      obtain ⟨e_116, f_116, h⟩ := zBx h
      refine a_callVv X dX7_many_116 miX7_answer lm7_134 (t_X7_answer (by assumption) f_116) (by assumption) rfl rfl rfl (Nat.le_of_ble_eq_true rfl) ⟨by decide, by decide, by decide, by decide⟩ ?_
      refine a_iret X hr dX7_many_119 ⟨by decide, by decide⟩ ?_
      subst hF
      rw [← Option.some.inj h]
      exact ⟨rfl, rfl⟩
    | 5, ht_1, hx_1 =>
      cases ht_1
      replace h := (if_neg (by omega)).symm.trans h
      replace h := (if_neg (by omega)).symm.trans h
      replace h := (if_neg (by omega)).symm.trans h
      replace h := (if_neg (by omega)).symm.trans h
      replace h := (if_neg (by omega)).symm.trans h
      replace h := (if_pos (by omega)).symm.trans h
      refine a_aload_n X dX7_many_120 rfl ?_
      refine a_aload_n X dX7_many_121 rfl ?_
      refine a_getr X lf7_26 (by assumption) rfl (by omega) dX7_many_122 ?_
      refine a_geti X lf7_146 (by assumption) rfl dX7_many_125 ?_
      obtain ⟨e_128, f_128, h⟩ := zBx h
      refine a_callVv X dX7_many_128 miX7_answer lm7_134 (t_X7_answer (by assumption) f_128) (by assumption) rfl rfl rfl (Nat.le_of_ble_eq_true rfl) ⟨by decide, by decide, by decide, by decide⟩ ?_
      refine a_iret X hr dX7_many_131 ⟨by decide, by decide⟩ ?_
      subst hF
      rw [← Option.some.inj h]
      exact ⟨rfl, rfl⟩
    | 6, ht_1, hx_1 =>
      cases ht_1
      replace h := (if_neg (by omega)).symm.trans h
      replace h := (if_neg (by omega)).symm.trans h
      replace h := (if_neg (by omega)).symm.trans h
      replace h := (if_neg (by omega)).symm.trans h
      replace h := (if_neg (by omega)).symm.trans h
      replace h := (if_neg (by omega)).symm.trans h
      replace h := (if_pos (by omega)).symm.trans h
      refine a_aload_n X dX7_many_132 rfl ?_
      refine a_aload_n X dX7_many_133 rfl ?_
      refine a_getr X lf7_26 (by assumption) rfl (by omega) dX7_many_134 ?_
      refine a_geti X lf7_149 (by assumption) rfl dX7_many_137 ?_
      obtain ⟨e_140, f_140, h⟩ := zBx h
      refine a_callVv X dX7_many_140 miX7_answer lm7_134 (t_X7_answer (by assumption) f_140) (by assumption) rfl rfl rfl (Nat.le_of_ble_eq_true rfl) ⟨by decide, by decide, by decide, by decide⟩ ?_
      refine a_iret X hr dX7_many_143 ⟨by decide, by decide⟩ ?_
      subst hF
      rw [← Option.some.inj h]
      exact ⟨rfl, rfl⟩
    | 7, ht_1, hx_1 =>
      cases ht_1
      replace h := (if_neg (by omega)).symm.trans h
      replace h := (if_neg (by omega)).symm.trans h
      replace h := (if_neg (by omega)).symm.trans h
      replace h := (if_neg (by omega)).symm.trans h
      replace h := (if_neg (by omega)).symm.trans h
      replace h := (if_neg (by omega)).symm.trans h
      replace h := (if_neg (by omega)).symm.trans h
      replace h := (if_pos (by omega)).symm.trans h
      refine a_aload_n X dX7_many_144 rfl ?_
      refine a_aload_n X dX7_many_145 rfl ?_
      refine a_getr X lf7_26 (by assumption) rfl (by omega) dX7_many_146 ?_
      refine a_geti X lf7_152 (by assumption) rfl dX7_many_149 ?_
      obtain ⟨e_152, f_152, h⟩ := zBx h
      refine a_callVv X dX7_many_152 miX7_answer lm7_134 (t_X7_answer (by assumption) f_152) (by assumption) rfl rfl rfl (Nat.le_of_ble_eq_true rfl) ⟨by decide, by decide, by decide, by decide⟩ ?_
      refine a_iret X hr dX7_many_155 ⟨by decide, by decide⟩ ?_
      subst hF
      rw [← Option.some.inj h]
      exact ⟨rfl, rfl⟩
    | 8, ht_1, hx_1 =>
      cases ht_1
      replace h := (if_neg (by omega)).symm.trans h
      replace h := (if_neg (by omega)).symm.trans h
      replace h := (if_neg (by omega)).symm.trans h
      replace h := (if_neg (by omega)).symm.trans h
      replace h := (if_neg (by omega)).symm.trans h
      replace h := (if_neg (by omega)).symm.trans h
      replace h := (if_neg (by omega)).symm.trans h
      replace h := (if_neg (by omega)).symm.trans h
      replace h := (if_pos (by omega)).symm.trans h
      refine a_aload_n X dX7_many_156 rfl ?_
      refine a_aload_n X dX7_many_157 rfl ?_
      refine a_getr X lf7_33 (by assumption) rfl (by omega) dX7_many_158 ?_
      refine a_geti X lf7_155 (by assumption) rfl dX7_many_161 ?_
      obtain ⟨e_164, f_164, h⟩ := zBx h
      refine a_callVv X dX7_many_164 miX7_answer lm7_134 (t_X7_answer (by assumption) f_164) (by assumption) rfl rfl rfl (Nat.le_of_ble_eq_true rfl) ⟨by decide, by decide, by decide, by decide⟩ ?_
      refine a_iret X hr dX7_many_167 ⟨by decide, by decide⟩ ?_
      subst hF
      rw [← Option.some.inj h]
      exact ⟨rfl, rfl⟩
    | 9, ht_1, hx_1 =>
      cases ht_1
      replace h := (if_neg (by omega)).symm.trans h
      replace h := (if_neg (by omega)).symm.trans h
      replace h := (if_neg (by omega)).symm.trans h
      replace h := (if_neg (by omega)).symm.trans h
      replace h := (if_neg (by omega)).symm.trans h
      replace h := (if_neg (by omega)).symm.trans h
      replace h := (if_neg (by omega)).symm.trans h
      replace h := (if_neg (by omega)).symm.trans h
      replace h := (if_neg (by omega)).symm.trans h
      replace h := (if_pos (by omega)).symm.trans h
      refine a_aload_n X dX7_many_168 rfl ?_
      refine a_aload_n X dX7_many_169 rfl ?_
      refine a_getr X lf7_26 (by assumption) rfl (by omega) dX7_many_170 ?_
      refine a_getr X lf7_158 (by assumption) rfl (by omega) dX7_many_173 ?_
      refine a_callSv X dX7_many_176 miX7_sum lm7_161 (c_sum (by assumption) (by first | decide | assumption)) rfl rfl (Nat.le_of_ble_eq_true rfl) ⟨by decide, by decide, by decide, by decide⟩ ?_
      obtain ⟨e_179, f_179, h⟩ := zBx h
      refine a_callVv X dX7_many_179 miX7_answer lm7_134 (t_X7_answer (by assumption) f_179) (by assumption) rfl rfl rfl (Nat.le_of_ble_eq_true rfl) ⟨by decide, by decide, by decide, by decide⟩ ?_
      refine a_iret X hr dX7_many_182 ⟨by decide, by decide⟩ ?_
      subst hF
      rw [← Option.some.inj h]
      exact ⟨rfl, rfl⟩
    | 10, ht_1, hx_1 =>
      cases ht_1
      replace h := (if_neg (by omega)).symm.trans h
      replace h := (if_neg (by omega)).symm.trans h
      replace h := (if_neg (by omega)).symm.trans h
      replace h := (if_neg (by omega)).symm.trans h
      replace h := (if_neg (by omega)).symm.trans h
      replace h := (if_neg (by omega)).symm.trans h
      replace h := (if_neg (by omega)).symm.trans h
      replace h := (if_neg (by omega)).symm.trans h
      replace h := (if_neg (by omega)).symm.trans h
      replace h := (if_neg (by omega)).symm.trans h
      replace h := (if_pos (by omega)).symm.trans h
      refine a_aload_n X dX7_many_183 rfl ?_
      refine a_aload_n X dX7_many_184 rfl ?_
      refine a_getr X lf7_26 (by assumption) rfl (by omega) dX7_many_185 ?_
      refine a_getr X lf7_165 (by assumption) rfl (by omega) dX7_many_188 ?_
      refine a_callSv X dX7_many_191 miX7_sum lm7_161 (c_sum (by assumption) (by first | decide | assumption)) rfl rfl (Nat.le_of_ble_eq_true rfl) ⟨by decide, by decide, by decide, by decide⟩ ?_
      obtain ⟨e_194, f_194, h⟩ := zBx h
      refine a_callVv X dX7_many_194 miX7_answer lm7_134 (t_X7_answer (by assumption) f_194) (by assumption) rfl rfl rfl (Nat.le_of_ble_eq_true rfl) ⟨by decide, by decide, by decide, by decide⟩ ?_
      refine a_iret X hr dX7_many_197 ⟨by decide, by decide⟩ ?_
      subst hF
      rw [← Option.some.inj h]
      exact ⟨rfl, rfl⟩
  · skip
    replace h := (if_neg (by omega)).symm.trans h
    replace h := (if_neg (by omega)).symm.trans h
    replace h := (if_neg (by omega)).symm.trans h
    replace h := (if_neg (by omega)).symm.trans h
    replace h := (if_neg (by omega)).symm.trans h
    replace h := (if_neg (by omega)).symm.trans h
    replace h := (if_neg (by omega)).symm.trans h
    replace h := (if_neg (by omega)).symm.trans h
    replace h := (if_neg (by omega)).symm.trans h
    replace h := (if_neg (by omega)).symm.trans h
    replace h := (if_neg (by omega)).symm.trans h
    refine a_aload_n X dX7_many_198 rfl ?_
    refine a_iconst (v := 1) X dX7_many_199 (by decide) ?_
    obtain ⟨e_200, f_200, h⟩ := zBx h
    refine a_callVv X dX7_many_200 miX7_refuse lm7_102 (t_X7_refuse (by assumption) f_200) (by assumption) rfl rfl rfl (Nat.le_of_ble_eq_true rfl) ⟨by decide, by decide, by decide, by decide⟩ ?_
    refine a_iret X hr dX7_many_203 ⟨by decide, by decide⟩ ?_
    subst hF
    rw [← Option.some.inj h]
    exact ⟨rfl, rfl⟩
noncomputable def D_X7_isHunter_20 (P : Nat) (M : zMt) (y0_20 : Int32) : Option (Int32) :=
  some (y0_20)
noncomputable def D_X7_isHunter_19 (P : Nat) (M : zMt)  : Option (Int32) :=
  D_X7_isHunter_20 P M (0 : Int32)
noncomputable def D_X7_isHunter (P : Nat) (M : zMt) (v0 : Int32) : Option (Int32) :=
  if v0 < 0 then
    D_X7_isHunter_19 P M
  else
    if (M (P + 17) 1) ≤ v0 then
      D_X7_isHunter_19 P M
    else
      D_X7_isHunter_20 P M (1 : Int32)
set_option maxRecDepth 100000 in
set_option maxHeartbeats 4000000 in
theorem t_X7_isHunter {l : Launch} {G : zG} {b : Nat} {L : List zC} {M : zMt} {N : zNt} {P : Nat} (hP : LX7 L P) {v0 : Int32} {r : Int32} (h : D_X7_isHunter P M v0 = some r) : zM l G b yX7_isHunter cX7_isHunter 2 (some .boolean) 0 0 0 [.ref P, .int v0] (L, M, N) (fun r2 z => r2 = some (.int r) ∧ z = (L, M, N) ∧ (r = 0 ∨ r = 1)) := by
  refine zM.of miX7_isHunter (Nat.le_of_ble_eq_true rfl) ?_
  intro p e s m args below meth c X hr hname
  generalize hF : ((fun r2 z => r2 = some (.int r) ∧ z = (L, M, N) ∧ (r = 0 ∨ r = 1)) : Option Value → zS → Prop) = FQ
  change Zw p l e { frames := 0, cells := 0, slots := 0, locals := 80 * (0) } s m args below meth c G b 2 (MQ below (zQ G b FQ) args s 0 0 (fun q : Nat => b ≤ q)) 0 0 0 [some (.ref P), some (.int v0)] [] (L, M, N)
  obtain ⟨p_lt, p_o, p_tape, p_out, p_reader, p_list, p_past, p_pool, p_result, p_odds, p_paper, p_trial, p_trialPool, p_trialResult, p_trialOdds⟩ := id hP
  obtain ⟨p_reader_lt, p_reader_o, p_reader_draft, p_reader_text, p_reader_unitNames, p_reader_hunterNames, p_reader_partyNames, p_reader_asked⟩ := id p_reader
  obtain ⟨p_list_lt, p_list_o, p_list_quota, p_list_score, p_list_guest, p_list_party, p_list_wishCount, p_list_wishes, p_list_has⟩ := id p_list
  obtain ⟨p_past_lt, p_past_o, p_past_stood, p_past_stood0, p_past_stood1, p_past_stood2, p_past_stood3, p_past_stood4, p_past_stood5, p_past_stood6, p_past_stood7⟩ := id p_past
  obtain ⟨p_pool_lt, p_pool_o, p_pool_quota, p_pool_preferred, p_pool_forGuests, p_pool_applicantOf, p_pool_size, p_pool_guestCount, p_pool_score, p_pool_tickets, p_pool_bits, p_pool_party, p_pool_wishCount, p_pool_wishes⟩ := id p_pool
  obtain ⟨p_result_lt, p_result_o, p_result_line, p_result_unitOf, p_result_roundOf, p_result_leftTags, p_result_leftGuests, p_result_leftPreferred, p_result_ranked⟩ := id p_result
  obtain ⟨p_odds_lt, p_odds_o, p_odds_sets, p_odds_seen, p_odds_atUnit, p_odds_early, p_odds_result⟩ := id p_odds
  obtain ⟨p_paper_lt, p_paper_o, p_paper_times, p_paper_firstWish, p_paper_dry, p_paper_list, p_paper_pool, p_paper_result⟩ := id p_paper
  obtain ⟨p_trial_lt, p_trial_o, p_trial_quota, p_trial_score, p_trial_guest, p_trial_party, p_trial_wishCount, p_trial_wishes, p_trial_has⟩ := id p_trial
  obtain ⟨p_trialPool_lt, p_trialPool_o, p_trialPool_quota, p_trialPool_preferred, p_trialPool_forGuests, p_trialPool_applicantOf, p_trialPool_size, p_trialPool_guestCount, p_trialPool_score, p_trialPool_tickets, p_trialPool_bits, p_trialPool_party, p_trialPool_wishCount, p_trialPool_wishes⟩ := id p_trialPool
  obtain ⟨p_trialResult_lt, p_trialResult_o, p_trialResult_line, p_trialResult_unitOf, p_trialResult_roundOf, p_trialResult_leftTags, p_trialResult_leftGuests, p_trialResult_leftPreferred, p_trialResult_ranked⟩ := id p_trialResult
  obtain ⟨p_trialOdds_lt, p_trialOdds_o, p_trialOdds_sets, p_trialOdds_seen, p_trialOdds_atUnit, p_trialOdds_early, p_trialOdds_result⟩ := id p_trialOdds
  have J_20 : ∀ (x1_20 : Int32) (y0_20 : Int32), (y0_20 = 0 ∨ y0_20 = 1) → D_X7_isHunter_20 P M y0_20 = some r → Zw p l e { frames := 0, cells := 0, slots := 0, locals := 80 * (0) } s m args below meth c G b 2 (MQ below (zQ G b FQ) args s 0 0 (fun q : Nat => b ≤ q)) 0 0 20 [some (.ref (P)), some (.int x1_20)] [.int y0_20] (L, M, N) := by
    intro x1_20 y0_20 fb_y0_20 h
    unfold D_X7_isHunter_20 at h
    refine a_zret X (by first | exact Or.inl rfl | exact Or.inr rfl | assumption) hr dX7_isHunter_20 ⟨by decide, by decide⟩ ?_
    subst hF
    rw [← Option.some.inj h]
    exact ⟨rfl, rfl, (by first | exact Or.inl rfl | exact Or.inr rfl | assumption)⟩
  have J_19 : ∀ (x1_19 : Int32), D_X7_isHunter_19 P M = some r → Zw p l e { frames := 0, cells := 0, slots := 0, locals := 80 * (0) } s m args below meth c G b 2 (MQ below (zQ G b FQ) args s 0 0 (fun q : Nat => b ≤ q)) 0 0 19 [some (.ref (P)), some (.int x1_19)] [] (L, M, N) := by
    intro x1_19 h
    unfold D_X7_isHunter_19 at h
    refine a_iconst (v := 0) X dX7_isHunter_19 (by decide) ?_
    exact Zw.to2 (J_20 _ _ (by first | exact Or.inl rfl | exact Or.inr rfl | assumption) h) rfl rfl rfl
  unfold D_X7_isHunter at h
  refine a_iload_n X dX7_isHunter_0 rfl ?_
  refine a_if_lt (tgt := 19) X dX7_isHunter_1 (by decide) (fun h_1 => ?_) (fun h_1 => ?_)
  · replace h := (if_pos h_1).symm.trans h
    exact Zw.to2 (J_19 _ h) rfl rfl rfl
  · replace h := (if_neg h_1).symm.trans h
    refine a_iload_n X dX7_isHunter_4 rfl ?_
    refine a_aload_n X dX7_isHunter_5 rfl ?_
    refine a_getr X lf7_26 (by assumption) rfl (by omega) dX7_isHunter_6 ?_
    refine a_geti X lf7_119 (by assumption) rfl dX7_isHunter_9 ?_
    refine a_icmp_ge (tgt := 19) X dX7_isHunter_12 (by decide) (fun h_12 => ?_) (fun h_12 => ?_)
    · replace h := (if_pos h_12).symm.trans h
      exact Zw.to2 (J_19 _ h) rfl rfl rfl
    · replace h := (if_neg h_12).symm.trans h
      refine a_iconst (v := 1) X dX7_isHunter_15 (by decide) ?_
      refine a_goto (tgt := 20) X dX7_isHunter_16 (by decide) ?_
      exact Zw.to2 (J_20 _ _ (by first | exact Or.inl rfl | exact Or.inr rfl | assumption) h) rfl rfl rfl
noncomputable def D_X7_hunter_9 (P : Nat) (M_9 : zMt) : Option (Int32 × zMt) :=
  zB (D_X7_refuse P (1 : Int32) M_9) fun e_11 =>
  some (e_11.1, e_11.2)
noncomputable def D_X7_hunter (P : Nat) (v0 : Int32) (v1 : Int32) (M : zMt) : Option (Int32 × zMt) :=
  if v1 < 0 then
    D_X7_hunter_9 P M
  else
    if v1 ≤ (4 : Int32) then
      zB (D_X7_isHunter P M v0) fun e_17 =>
      if e_17 = 0 then
        zB (D_X7_refuse P (2 : Int32) M) fun e_25 =>
        some (e_25.1, e_25.2)
      else
        if Int32.toInt v1 = 0 then
          zB (D_X7_answer P (zrd 0 (M (P + 19)) 10 v0) M) fun e_72 =>
          some (e_72.1, e_72.2)
        else
        if Int32.toInt v1 = 1 then
          zB (D_X7_answer P (zrd 0 (M (P + 20)) 10 v0) M) fun e_88 =>
          some (e_88.1, e_88.2)
        else
        if Int32.toInt v1 = 2 then
          zB (D_X7_answer P (zrd 0 (M (P + 21)) 10 v0) M) fun e_104 =>
          some (e_104.1, e_104.2)
        else
        if Int32.toInt v1 = 3 then
          zB (D_X7_answer P (zrd 0 (M (P + 95)) 10 v0) M) fun e_120 =>
          some (e_120.1, e_120.2)
        else
          zB (D_X7_answer P (zrd 0 (M (P + 24)) 10 v0) M) fun e_136 =>
          some (e_136.1, e_136.2)
    else
      D_X7_hunter_9 P M
set_option maxRecDepth 100000 in
set_option maxHeartbeats 4000000 in
theorem t_X7_hunter {l : Launch} {G : zG} {b : Nat} {L : List zC} {M : zMt} {N : zNt} {P : Nat} (hP : LX7 L P) {v0 : Int32} {v1 : Int32} {r : Int32 × zMt} (h : D_X7_hunter P v0 v1 M = some r) : zM l G b yX7_hunter cX7_hunter 3 (some .int) 1 0 0 [.ref P, .int v0, .int v1] (L, M, N) (fun r2 z => r2 = some (.int r.1) ∧ z = (L, r.2, N)) := by
  refine zM.of miX7_hunter (Nat.le_of_ble_eq_true rfl) ?_
  intro p e s m args below meth c X hr hname
  generalize hF : ((fun r2 z => r2 = some (.int r.1) ∧ z = (L, r.2, N)) : Option Value → zS → Prop) = FQ
  change Zw p l e { frames := 1, cells := 0, slots := 0, locals := 80 * (1) } s m args below meth c G b 3 (MQ below (zQ G b FQ) args s 0 0 (fun q : Nat => b ≤ q)) 0 0 0 [some (.ref P), some (.int v0), some (.int v1)] [] (L, M, N)
  obtain ⟨p_lt, p_o, p_tape, p_out, p_reader, p_list, p_past, p_pool, p_result, p_odds, p_paper, p_trial, p_trialPool, p_trialResult, p_trialOdds⟩ := id hP
  obtain ⟨p_reader_lt, p_reader_o, p_reader_draft, p_reader_text, p_reader_unitNames, p_reader_hunterNames, p_reader_partyNames, p_reader_asked⟩ := id p_reader
  obtain ⟨p_list_lt, p_list_o, p_list_quota, p_list_score, p_list_guest, p_list_party, p_list_wishCount, p_list_wishes, p_list_has⟩ := id p_list
  obtain ⟨p_past_lt, p_past_o, p_past_stood, p_past_stood0, p_past_stood1, p_past_stood2, p_past_stood3, p_past_stood4, p_past_stood5, p_past_stood6, p_past_stood7⟩ := id p_past
  obtain ⟨p_pool_lt, p_pool_o, p_pool_quota, p_pool_preferred, p_pool_forGuests, p_pool_applicantOf, p_pool_size, p_pool_guestCount, p_pool_score, p_pool_tickets, p_pool_bits, p_pool_party, p_pool_wishCount, p_pool_wishes⟩ := id p_pool
  obtain ⟨p_result_lt, p_result_o, p_result_line, p_result_unitOf, p_result_roundOf, p_result_leftTags, p_result_leftGuests, p_result_leftPreferred, p_result_ranked⟩ := id p_result
  obtain ⟨p_odds_lt, p_odds_o, p_odds_sets, p_odds_seen, p_odds_atUnit, p_odds_early, p_odds_result⟩ := id p_odds
  obtain ⟨p_paper_lt, p_paper_o, p_paper_times, p_paper_firstWish, p_paper_dry, p_paper_list, p_paper_pool, p_paper_result⟩ := id p_paper
  obtain ⟨p_trial_lt, p_trial_o, p_trial_quota, p_trial_score, p_trial_guest, p_trial_party, p_trial_wishCount, p_trial_wishes, p_trial_has⟩ := id p_trial
  obtain ⟨p_trialPool_lt, p_trialPool_o, p_trialPool_quota, p_trialPool_preferred, p_trialPool_forGuests, p_trialPool_applicantOf, p_trialPool_size, p_trialPool_guestCount, p_trialPool_score, p_trialPool_tickets, p_trialPool_bits, p_trialPool_party, p_trialPool_wishCount, p_trialPool_wishes⟩ := id p_trialPool
  obtain ⟨p_trialResult_lt, p_trialResult_o, p_trialResult_line, p_trialResult_unitOf, p_trialResult_roundOf, p_trialResult_leftTags, p_trialResult_leftGuests, p_trialResult_leftPreferred, p_trialResult_ranked⟩ := id p_trialResult
  obtain ⟨p_trialOdds_lt, p_trialOdds_o, p_trialOdds_sets, p_trialOdds_seen, p_trialOdds_atUnit, p_trialOdds_early, p_trialOdds_result⟩ := id p_trialOdds
  have J_9 : ∀ (x1_9 : Int32) (x2_9 : Int32) (M_9 : zMt), D_X7_hunter_9 P M_9 = some r → Zw p l e { frames := 1, cells := 0, slots := 0, locals := 80 * (1) } s m args below meth c G b 3 (MQ below (zQ G b FQ) args s 0 0 (fun q : Nat => b ≤ q)) 0 0 9 [some (.ref (P)), some (.int x1_9), some (.int x2_9)] [] (L, M_9, N) := by
    intro x1_9 x2_9 M_9 h
    unfold D_X7_hunter_9 at h
    refine a_aload_n X dX7_hunter_9 rfl ?_
    refine a_iconst (v := 1) X dX7_hunter_10 (by decide) ?_
    obtain ⟨e_11, f_11, h⟩ := zBx h
    refine a_callVv X dX7_hunter_11 miX7_refuse lm7_102 (t_X7_refuse (by assumption) f_11) (by assumption) rfl rfl rfl (Nat.le_of_ble_eq_true rfl) ⟨by decide, by decide, by decide, by decide⟩ ?_
    refine a_iret X hr dX7_hunter_14 ⟨by decide, by decide⟩ ?_
    subst hF
    rw [← Option.some.inj h]
    exact ⟨rfl, rfl⟩
  unfold D_X7_hunter at h
  refine a_iload_n X dX7_hunter_0 rfl ?_
  refine a_if_lt (tgt := 9) X dX7_hunter_1 (by decide) (fun h_1 => ?_) (fun h_1 => ?_)
  · replace h := (if_pos h_1).symm.trans h
    exact Zw.to2 (J_9 _ _ _ h) rfl rfl rfl
  · replace h := (if_neg h_1).symm.trans h
    refine a_iload_n X dX7_hunter_4 rfl ?_
    refine a_iconst (v := 4) X dX7_hunter_5 (by decide) ?_
    refine a_icmp_le (tgt := 15) X dX7_hunter_6 (by decide) (fun h_6 => ?_) (fun h_6 => ?_)
    · replace h := (if_pos h_6).symm.trans h
      refine a_aload_n X dX7_hunter_15 rfl ?_
      refine a_iload_n X dX7_hunter_16 rfl ?_
      obtain ⟨e_17, f_17, h⟩ := zBx h
      refine a_callVx X dX7_hunter_17 miX7_isHunter lm7_168 (t_X7_isHunter (by assumption) f_17) (by assumption) rfl rfl rfl (Nat.le_of_ble_eq_true rfl) ⟨by decide, by decide, by decide, by decide⟩ (fun r_17 S_17 q_17 => ?_)
      obtain ⟨rfl, rfl, b_17⟩ := q_17
      refine a_if_ne (tgt := 29) X dX7_hunter_20 (by decide) (fun h_20 => ?_) (fun h_20 => ?_)
      · replace h := (if_neg h_20).symm.trans h
        refine a_iload_n X dX7_hunter_29 rfl ?_
        refine a_tsw (tg := [60, 76, 92, 108]) (td := 124) X dX7_hunter_30 (by decide +kernel) (by decide) (by decide) (fun k_30 t_30 ht_30 hx_30 => ?_) (fun hx_30 => ?_)
        · match k_30, ht_30, hx_30 with
          | 0, ht_30, hx_30 =>
            cases ht_30
            replace h := (if_pos (by omega)).symm.trans h
            refine a_aload_n X dX7_hunter_60 rfl ?_
            refine a_aload_n X dX7_hunter_61 rfl ?_
            refine a_getr X lf7_26 (by assumption) rfl (by omega) dX7_hunter_62 ?_
            refine a_getr X lf7_172 (by assumption) rfl (by omega) dX7_hunter_65 ?_
            refine a_iload_n X dX7_hunter_68 rfl ?_
            refine a_callSv X dX7_hunter_69 miX7_cell lm7_175 (c_cell (by assumption) (by first | decide | assumption)) rfl rfl (Nat.le_of_ble_eq_true rfl) ⟨by decide, by decide, by decide, by decide⟩ ?_
            obtain ⟨e_72, f_72, h⟩ := zBx h
            refine a_callVv X dX7_hunter_72 miX7_answer lm7_134 (t_X7_answer (by assumption) f_72) (by assumption) rfl rfl rfl (Nat.le_of_ble_eq_true rfl) ⟨by decide, by decide, by decide, by decide⟩ ?_
            refine a_iret X hr dX7_hunter_75 ⟨by decide, by decide⟩ ?_
            subst hF
            rw [← Option.some.inj h]
            exact ⟨rfl, rfl⟩
          | 1, ht_30, hx_30 =>
            cases ht_30
            replace h := (if_neg (by omega)).symm.trans h
            replace h := (if_pos (by omega)).symm.trans h
            refine a_aload_n X dX7_hunter_76 rfl ?_
            refine a_aload_n X dX7_hunter_77 rfl ?_
            refine a_getr X lf7_26 (by assumption) rfl (by omega) dX7_hunter_78 ?_
            refine a_getr X lf7_165 (by assumption) rfl (by omega) dX7_hunter_81 ?_
            refine a_iload_n X dX7_hunter_84 rfl ?_
            refine a_callSv X dX7_hunter_85 miX7_cell lm7_175 (c_cell (by assumption) (by first | decide | assumption)) rfl rfl (Nat.le_of_ble_eq_true rfl) ⟨by decide, by decide, by decide, by decide⟩ ?_
            obtain ⟨e_88, f_88, h⟩ := zBx h
            refine a_callVv X dX7_hunter_88 miX7_answer lm7_134 (t_X7_answer (by assumption) f_88) (by assumption) rfl rfl rfl (Nat.le_of_ble_eq_true rfl) ⟨by decide, by decide, by decide, by decide⟩ ?_
            refine a_iret X hr dX7_hunter_91 ⟨by decide, by decide⟩ ?_
            subst hF
            rw [← Option.some.inj h]
            exact ⟨rfl, rfl⟩
          | 2, ht_30, hx_30 =>
            cases ht_30
            replace h := (if_neg (by omega)).symm.trans h
            replace h := (if_neg (by omega)).symm.trans h
            replace h := (if_pos (by omega)).symm.trans h
            refine a_aload_n X dX7_hunter_92 rfl ?_
            refine a_aload_n X dX7_hunter_93 rfl ?_
            refine a_getr X lf7_26 (by assumption) rfl (by omega) dX7_hunter_94 ?_
            refine a_getr X lf7_179 (by assumption) rfl (by omega) dX7_hunter_97 ?_
            refine a_iload_n X dX7_hunter_100 rfl ?_
            refine a_callSv X dX7_hunter_101 miX7_cell lm7_175 (c_cell (by assumption) (by first | decide | assumption)) rfl rfl (Nat.le_of_ble_eq_true rfl) ⟨by decide, by decide, by decide, by decide⟩ ?_
            obtain ⟨e_104, f_104, h⟩ := zBx h
            refine a_callVv X dX7_hunter_104 miX7_answer lm7_134 (t_X7_answer (by assumption) f_104) (by assumption) rfl rfl rfl (Nat.le_of_ble_eq_true rfl) ⟨by decide, by decide, by decide, by decide⟩ ?_
            refine a_iret X hr dX7_hunter_107 ⟨by decide, by decide⟩ ?_
            subst hF
            rw [← Option.some.inj h]
            exact ⟨rfl, rfl⟩
          | 3, ht_30, hx_30 =>
            cases ht_30
            replace h := (if_neg (by omega)).symm.trans h
            replace h := (if_neg (by omega)).symm.trans h
            replace h := (if_neg (by omega)).symm.trans h
            replace h := (if_pos (by omega)).symm.trans h
            refine a_aload_n X dX7_hunter_108 rfl ?_
            refine a_aload_n X dX7_hunter_109 rfl ?_
            refine a_getr X lf7_40 (by assumption) rfl (by omega) dX7_hunter_110 ?_
            refine a_getr X lf7_182 (by assumption) rfl (by omega) dX7_hunter_113 ?_
            refine a_iload_n X dX7_hunter_116 rfl ?_
            refine a_callSv X dX7_hunter_117 miX7_cell lm7_175 (c_cell (by assumption) (by first | decide | assumption)) rfl rfl (Nat.le_of_ble_eq_true rfl) ⟨by decide, by decide, by decide, by decide⟩ ?_
            obtain ⟨e_120, f_120, h⟩ := zBx h
            refine a_callVv X dX7_hunter_120 miX7_answer lm7_134 (t_X7_answer (by assumption) f_120) (by assumption) rfl rfl rfl (Nat.le_of_ble_eq_true rfl) ⟨by decide, by decide, by decide, by decide⟩ ?_
            refine a_iret X hr dX7_hunter_123 ⟨by decide, by decide⟩ ?_
            subst hF
            rw [← Option.some.inj h]
            exact ⟨rfl, rfl⟩
        · skip
          replace h := (if_neg (by omega)).symm.trans h
          replace h := (if_neg (by omega)).symm.trans h
          replace h := (if_neg (by omega)).symm.trans h
          replace h := (if_neg (by omega)).symm.trans h
          refine a_aload_n X dX7_hunter_124 rfl ?_
          refine a_aload_n X dX7_hunter_125 rfl ?_
          refine a_getr X lf7_26 (by assumption) rfl (by omega) dX7_hunter_126 ?_
          refine a_getr X lf7_185 (by assumption) rfl (by omega) dX7_hunter_129 ?_
          refine a_iload_n X dX7_hunter_132 rfl ?_
          refine a_callSv X dX7_hunter_133 miX7_cell lm7_175 (c_cell (by assumption) (by first | decide | assumption)) rfl rfl (Nat.le_of_ble_eq_true rfl) ⟨by decide, by decide, by decide, by decide⟩ ?_
          obtain ⟨e_136, f_136, h⟩ := zBx h
          refine a_callVv X dX7_hunter_136 miX7_answer lm7_134 (t_X7_answer (by assumption) f_136) (by assumption) rfl rfl rfl (Nat.le_of_ble_eq_true rfl) ⟨by decide, by decide, by decide, by decide⟩ ?_
          refine a_iret X hr dX7_hunter_139 ⟨by decide, by decide⟩ ?_
          subst hF
          rw [← Option.some.inj h]
          exact ⟨rfl, rfl⟩
      · replace h := (if_pos h_20).symm.trans h
        refine a_aload_n X dX7_hunter_23 rfl ?_
        refine a_iconst (v := 2) X dX7_hunter_24 (by decide) ?_
        obtain ⟨e_25, f_25, h⟩ := zBx h
        refine a_callVv X dX7_hunter_25 miX7_refuse lm7_102 (t_X7_refuse (by assumption) f_25) (by assumption) rfl rfl rfl (Nat.le_of_ble_eq_true rfl) ⟨by decide, by decide, by decide, by decide⟩ ?_
        refine a_iret X hr dX7_hunter_28 ⟨by decide, by decide⟩ ?_
        subst hF
        rw [← Option.some.inj h]
        exact ⟨rfl, rfl⟩
    · replace h := (if_neg h_6).symm.trans h
      exact Zw.to2 (J_9 _ _ _ h) rfl rfl rfl
