noncomputable def D_X7_law_9 (P : Nat) (M_9 : zMt) : Option (Int32 × zMt) :=
  zB (D_X7_refuse P (1 : Int32) M_9) fun e_11 =>
  some (e_11.1, e_11.2)
noncomputable def D_X7_law (P : Nat) (v0 : Int32) (M : zMt) : Option (Int32 × zMt) :=
  if v0 < 0 then
    D_X7_law_9 P M
  else
    if v0 ≤ (2 : Int32) then
      if (M (P + 17) 3) = v0 then
        zB (D_X7_refuse P (4 : Int32) M) fun e_30 =>
        some (e_30.1, e_30.2)
      else
        zB (D_X1_keep (P + 25) (P + 17) M) fun e_42 =>
        zLt (zu e_42 (P + 17) 3 v0) fun M_50 =>
        zB (D_X7_changed P (M (P + 17) 3) M_50) fun e_55 =>
        some (e_55.1, e_55.2)
    else
      D_X7_law_9 P M
set_option maxRecDepth 100000 in
set_option maxHeartbeats 4000000 in
theorem t_X7_law {l : Launch} {G : zG} {b : Nat} {L : List zC} {M : zMt} {N : zNt} {P : Nat} {v0 : Int32} (hP : LX7 L P) {r : Int32 × zMt} (h : D_X7_law P v0 M = some r) : zM l G b yX7_law cX7_law 3 (some .int) 4 0 0 [.ref P, .int v0] (L, M, N) (fun r2 z => r2 = some (.int r.1) ∧ z = (L, r.2, N)) := by
  refine zM.of miX7_law (Nat.le_of_ble_eq_true rfl) ?_
  intro p e s m args below meth c X hr hname
  generalize hF : ((fun r2 z => r2 = some (.int r.1) ∧ z = (L, r.2, N)) : Option Value → zS → Prop) = FQ
  change Zw p l e { frames := 4, cells := 0, slots := 0, locals := 80 * (4) } s m args below meth c G b 3 (MQ below (zQ G b FQ) args s 0 0 (fun q : Nat => b ≤ q)) 0 0 0 [some (.ref P), some (.int v0), none] [] (L, M, N)
  obtain ⟨p_lt, p_o, p_tape, p_out, p_reader, p_list, p_past, p_pool, p_result, p_odds, p_paper, p_trial, p_trialPool, p_trialResult, p_trialOdds⟩ := id hP
  obtain ⟨p_reader_lt, p_reader_o, p_reader_draft, p_reader_text, p_reader_unitNames, p_reader_hunterNames, p_reader_partyNames, p_reader_asked⟩ := id p_reader
  obtain ⟨p_list_lt, p_list_o, p_list_quota, p_list_score, p_list_guest, p_list_party, p_list_wishCount, p_list_wishes, p_list_has⟩ := id p_list
  obtain ⟨p_past_lt, p_past_o, p_past_stood, p_past_stood0, p_past_stood1, p_past_stood2, p_past_stood3, p_past_stood4, p_past_stood5, p_past_stood6, p_past_stood7⟩ := id p_past
  obtain ⟨p_pool_lt, p_pool_o, p_pool_quota, p_pool_preferred, p_pool_forGuests, p_pool_applicantOf, p_pool_size, p_pool_guestCount, p_pool_score, p_pool_tickets, p_pool_bits, p_pool_party, p_pool_wishCount, p_pool_wishes⟩ := id p_pool
  obtain ⟨p_result_lt, p_result_o, p_result_line, p_result_unitOf, p_result_roundOf, p_result_leftTags, p_result_leftGuests, p_result_leftPreferred, p_result_ranked⟩ := id p_result
  obtain ⟨p_odds_lt, p_odds_o, p_odds_sets, p_odds_seen, p_odds_atUnit, p_odds_early, p_odds_result⟩ := id p_odds
  obtain ⟨p_paper_lt, p_paper_o, p_paper_times, p_paper_firstWish, p_paper_dry, p_paper_list, p_paper_pool, p_paper_result⟩ := id p_paper
  obtain ⟨p_trial_lt, p_trial_o, p_trial_quota, p_trial_score, p_trial_guest, p_trial_party, p_trial_wishCount, p_trial_wishes, p_trial_has⟩ := id p_trial
  obtain ⟨p_trialPool_lt, p_trialPool_o, p_trialPool_quota, p_trialPool_preferred, p_trialPool_forGuests, p_trialPool_applicantOf, p_trialPool_size, p_trialPool_guestCount, p_trialPool_score, p_trialPool_tickets, p_trialPool_bits, p_trialPool_party, p_trialPool_wishCount, p_trialPool_wishes⟩ := id p_trialPool
  obtain ⟨p_trialResult_lt, p_trialResult_o, p_trialResult_line, p_trialResult_unitOf, p_trialResult_roundOf, p_trialResult_leftTags, p_trialResult_leftGuests, p_trialResult_leftPreferred, p_trialResult_ranked⟩ := id p_trialResult
  obtain ⟨p_trialOdds_lt, p_trialOdds_o, p_trialOdds_sets, p_trialOdds_seen, p_trialOdds_atUnit, p_trialOdds_early, p_trialOdds_result⟩ := id p_trialOdds
  have J_9 : ∀ (x1_9 : Int32) (x2_9 : Option Value) (M_9 : zMt), D_X7_law_9 P M_9 = some r → Zw p l e { frames := 4, cells := 0, slots := 0, locals := 80 * (4) } s m args below meth c G b 3 (MQ below (zQ G b FQ) args s 0 0 (fun q : Nat => b ≤ q)) 0 0 9 [some (.ref (P)), some (.int x1_9), x2_9] [] (L, M_9, N) := by
    intro x1_9 x2_9 M_9 h
    unfold D_X7_law_9 at h
    refine a_aload_n X dX7_law_9 rfl ?_
    refine a_iconst (v := 1) X dX7_law_10 (by decide) ?_
    obtain ⟨e_11, f_11, h⟩ := zBx h
    refine a_callVv X dX7_law_11 miX7_refuse lm7_102 (t_X7_refuse (by assumption) f_11) (by assumption) rfl rfl rfl (Nat.le_of_ble_eq_true rfl) ⟨by decide, by decide, by decide, by decide⟩ ?_
    refine a_iret X hr dX7_law_14 ⟨by decide, by decide⟩ ?_
    subst hF
    rw [← Option.some.inj h]
    exact ⟨rfl, rfl⟩
  unfold D_X7_law at h
  refine a_iload_n X dX7_law_0 rfl ?_
  refine a_if_lt (tgt := 9) X dX7_law_1 (by decide) (fun h_1 => ?_) (fun h_1 => ?_)
  · replace h := (if_pos h_1).symm.trans h
    exact Zw.to2 (J_9 _ _ _ h) rfl rfl rfl
  · replace h := (if_neg h_1).symm.trans h
    refine a_iload_n X dX7_law_4 rfl ?_
    refine a_iconst (v := 2) X dX7_law_5 (by decide) ?_
    refine a_icmp_le (tgt := 15) X dX7_law_6 (by decide) (fun h_6 => ?_) (fun h_6 => ?_)
    · replace h := (if_pos h_6).symm.trans h
      refine a_aload_n X dX7_law_15 rfl ?_
      refine a_getr X lf7_26 (by assumption) rfl (by omega) dX7_law_16 ?_
      refine a_geti X lf7_143 (by assumption) rfl dX7_law_19 ?_
      refine a_istore_n X dX7_law_22 (by decide) ?_
      refine a_iload_n X dX7_law_23 rfl ?_
      refine a_iload_n X dX7_law_24 rfl ?_
      refine a_icmp_ne (tgt := 34) X dX7_law_25 (by decide) (fun h_25 => ?_) (fun h_25 => ?_)
      · replace h := (if_neg h_25).symm.trans h
        refine a_aload_n X dX7_law_34 rfl ?_
        refine a_getr X lf7_33 (by assumption) rfl (by omega) dX7_law_35 ?_
        refine a_aload_n X dX7_law_38 rfl ?_
        refine a_getr X lf7_26 (by assumption) rfl (by omega) dX7_law_39 ?_
        obtain ⟨e_42, f_42, h⟩ := zBx h
        refine a_callVu X dX7_law_42 miX1_keep lm7_396 (t_X1_keep (by assumption) (by assumption) (by omega) f_42) (by assumption) rfl rfl rfl (Nat.le_of_ble_eq_true rfl) ⟨by decide, by decide, by decide, by decide⟩ ?_
        refine a_aload_n X dX7_law_45 rfl ?_
        refine a_getr X lf7_26 (by assumption) rfl (by omega) dX7_law_46 ?_
        refine a_iload_n X dX7_law_49 rfl ?_
        obtain ⟨M_50, f_50, h⟩ := zLtx h
        refine d_puti X lf7_143 (by assumption) rfl dX7_law_50 f_50 ?_
        refine a_aload_n X dX7_law_53 rfl ?_
        refine a_iload_n X dX7_law_54 rfl ?_
        obtain ⟨e_55, f_55, h⟩ := zBx h
        refine a_callVv X dX7_law_55 miX7_changed lm7_122 (t_X7_changed (by assumption) f_55) (by assumption) rfl rfl rfl (Nat.le_of_ble_eq_true rfl) ⟨by decide, by decide, by decide, by decide⟩ ?_
        refine a_iret X hr dX7_law_58 ⟨by decide, by decide⟩ ?_
        subst hF
        rw [← Option.some.inj h]
        exact ⟨rfl, rfl⟩
      · replace h := (if_pos h_25).symm.trans h
        refine a_aload_n X dX7_law_28 rfl ?_
        refine a_iconst (v := 4) X dX7_law_29 (by decide) ?_
        obtain ⟨e_30, f_30, h⟩ := zBx h
        refine a_callVv X dX7_law_30 miX7_refuse lm7_102 (t_X7_refuse (by assumption) f_30) (by assumption) rfl rfl rfl (Nat.le_of_ble_eq_true rfl) ⟨by decide, by decide, by decide, by decide⟩ ?_
        refine a_iret X hr dX7_law_33 ⟨by decide, by decide⟩ ?_
        subst hF
        rw [← Option.some.inj h]
        exact ⟨rfl, rfl⟩
    · replace h := (if_neg h_6).symm.trans h
      exact Zw.to2 (J_9 _ _ _ h) rfl rfl rfl
noncomputable def D_X7_prefer_10 (P : Nat) (M_10 : zMt) : Option (Int32 × zMt) :=
  zB (D_X7_refuse P (1 : Int32) M_10) fun e_12 =>
  some (e_12.1, e_12.2)
noncomputable def D_X7_prefer (P : Nat) (v0 : Int32) (M : zMt) : Option (Int32 × zMt) :=
  if v0 < 0 then
    D_X7_prefer_10 P M
  else
    if v0 ≤ (100 : Int32) then
      if (M (P + 17) 4) = v0 then
        zB (D_X7_refuse P (4 : Int32) M) fun e_31 =>
        some (e_31.1, e_31.2)
      else
        zB (D_X1_keep (P + 25) (P + 17) M) fun e_43 =>
        zLt (zu e_43 (P + 17) 4 v0) fun M_51 =>
        zB (D_X7_changed P (M (P + 17) 4) M_51) fun e_56 =>
        some (e_56.1, e_56.2)
    else
      D_X7_prefer_10 P M
set_option maxRecDepth 100000 in
set_option maxHeartbeats 4000000 in
theorem t_X7_prefer {l : Launch} {G : zG} {b : Nat} {L : List zC} {M : zMt} {N : zNt} {P : Nat} {v0 : Int32} (hP : LX7 L P) {r : Int32 × zMt} (h : D_X7_prefer P v0 M = some r) : zM l G b yX7_prefer cX7_prefer 3 (some .int) 4 0 0 [.ref P, .int v0] (L, M, N) (fun r2 z => r2 = some (.int r.1) ∧ z = (L, r.2, N)) := by
  refine zM.of miX7_prefer (Nat.le_of_ble_eq_true rfl) ?_
  intro p e s m args below meth c X hr hname
  generalize hF : ((fun r2 z => r2 = some (.int r.1) ∧ z = (L, r.2, N)) : Option Value → zS → Prop) = FQ
  change Zw p l e { frames := 4, cells := 0, slots := 0, locals := 80 * (4) } s m args below meth c G b 3 (MQ below (zQ G b FQ) args s 0 0 (fun q : Nat => b ≤ q)) 0 0 0 [some (.ref P), some (.int v0), none] [] (L, M, N)
  obtain ⟨p_lt, p_o, p_tape, p_out, p_reader, p_list, p_past, p_pool, p_result, p_odds, p_paper, p_trial, p_trialPool, p_trialResult, p_trialOdds⟩ := id hP
  obtain ⟨p_reader_lt, p_reader_o, p_reader_draft, p_reader_text, p_reader_unitNames, p_reader_hunterNames, p_reader_partyNames, p_reader_asked⟩ := id p_reader
  obtain ⟨p_list_lt, p_list_o, p_list_quota, p_list_score, p_list_guest, p_list_party, p_list_wishCount, p_list_wishes, p_list_has⟩ := id p_list
  obtain ⟨p_past_lt, p_past_o, p_past_stood, p_past_stood0, p_past_stood1, p_past_stood2, p_past_stood3, p_past_stood4, p_past_stood5, p_past_stood6, p_past_stood7⟩ := id p_past
  obtain ⟨p_pool_lt, p_pool_o, p_pool_quota, p_pool_preferred, p_pool_forGuests, p_pool_applicantOf, p_pool_size, p_pool_guestCount, p_pool_score, p_pool_tickets, p_pool_bits, p_pool_party, p_pool_wishCount, p_pool_wishes⟩ := id p_pool
  obtain ⟨p_result_lt, p_result_o, p_result_line, p_result_unitOf, p_result_roundOf, p_result_leftTags, p_result_leftGuests, p_result_leftPreferred, p_result_ranked⟩ := id p_result
  obtain ⟨p_odds_lt, p_odds_o, p_odds_sets, p_odds_seen, p_odds_atUnit, p_odds_early, p_odds_result⟩ := id p_odds
  obtain ⟨p_paper_lt, p_paper_o, p_paper_times, p_paper_firstWish, p_paper_dry, p_paper_list, p_paper_pool, p_paper_result⟩ := id p_paper
  obtain ⟨p_trial_lt, p_trial_o, p_trial_quota, p_trial_score, p_trial_guest, p_trial_party, p_trial_wishCount, p_trial_wishes, p_trial_has⟩ := id p_trial
  obtain ⟨p_trialPool_lt, p_trialPool_o, p_trialPool_quota, p_trialPool_preferred, p_trialPool_forGuests, p_trialPool_applicantOf, p_trialPool_size, p_trialPool_guestCount, p_trialPool_score, p_trialPool_tickets, p_trialPool_bits, p_trialPool_party, p_trialPool_wishCount, p_trialPool_wishes⟩ := id p_trialPool
  obtain ⟨p_trialResult_lt, p_trialResult_o, p_trialResult_line, p_trialResult_unitOf, p_trialResult_roundOf, p_trialResult_leftTags, p_trialResult_leftGuests, p_trialResult_leftPreferred, p_trialResult_ranked⟩ := id p_trialResult
  obtain ⟨p_trialOdds_lt, p_trialOdds_o, p_trialOdds_sets, p_trialOdds_seen, p_trialOdds_atUnit, p_trialOdds_early, p_trialOdds_result⟩ := id p_trialOdds
  have J_10 : ∀ (x1_10 : Int32) (x2_10 : Option Value) (M_10 : zMt), D_X7_prefer_10 P M_10 = some r → Zw p l e { frames := 4, cells := 0, slots := 0, locals := 80 * (4) } s m args below meth c G b 3 (MQ below (zQ G b FQ) args s 0 0 (fun q : Nat => b ≤ q)) 0 0 10 [some (.ref (P)), some (.int x1_10), x2_10] [] (L, M_10, N) := by
    intro x1_10 x2_10 M_10 h
    unfold D_X7_prefer_10 at h
    refine a_aload_n X dX7_prefer_10 rfl ?_
    refine a_iconst (v := 1) X dX7_prefer_11 (by decide) ?_
    obtain ⟨e_12, f_12, h⟩ := zBx h
    refine a_callVv X dX7_prefer_12 miX7_refuse lm7_102 (t_X7_refuse (by assumption) f_12) (by assumption) rfl rfl rfl (Nat.le_of_ble_eq_true rfl) ⟨by decide, by decide, by decide, by decide⟩ ?_
    refine a_iret X hr dX7_prefer_15 ⟨by decide, by decide⟩ ?_
    subst hF
    rw [← Option.some.inj h]
    exact ⟨rfl, rfl⟩
  unfold D_X7_prefer at h
  refine a_iload_n X dX7_prefer_0 rfl ?_
  refine a_if_lt (tgt := 10) X dX7_prefer_1 (by decide) (fun h_1 => ?_) (fun h_1 => ?_)
  · replace h := (if_pos h_1).symm.trans h
    exact Zw.to2 (J_10 _ _ _ h) rfl rfl rfl
  · replace h := (if_neg h_1).symm.trans h
    refine a_iload_n X dX7_prefer_4 rfl ?_
    refine a_bipush (v := 100) X dX7_prefer_5 (by decide) ?_
    refine a_icmp_le (tgt := 16) X dX7_prefer_7 (by decide) (fun h_7 => ?_) (fun h_7 => ?_)
    · replace h := (if_pos h_7).symm.trans h
      refine a_aload_n X dX7_prefer_16 rfl ?_
      refine a_getr X lf7_26 (by assumption) rfl (by omega) dX7_prefer_17 ?_
      refine a_geti X lf7_146 (by assumption) rfl dX7_prefer_20 ?_
      refine a_istore_n X dX7_prefer_23 (by decide) ?_
      refine a_iload_n X dX7_prefer_24 rfl ?_
      refine a_iload_n X dX7_prefer_25 rfl ?_
      refine a_icmp_ne (tgt := 35) X dX7_prefer_26 (by decide) (fun h_26 => ?_) (fun h_26 => ?_)
      · replace h := (if_neg h_26).symm.trans h
        refine a_aload_n X dX7_prefer_35 rfl ?_
        refine a_getr X lf7_33 (by assumption) rfl (by omega) dX7_prefer_36 ?_
        refine a_aload_n X dX7_prefer_39 rfl ?_
        refine a_getr X lf7_26 (by assumption) rfl (by omega) dX7_prefer_40 ?_
        obtain ⟨e_43, f_43, h⟩ := zBx h
        refine a_callVu X dX7_prefer_43 miX1_keep lm7_396 (t_X1_keep (by assumption) (by assumption) (by omega) f_43) (by assumption) rfl rfl rfl (Nat.le_of_ble_eq_true rfl) ⟨by decide, by decide, by decide, by decide⟩ ?_
        refine a_aload_n X dX7_prefer_46 rfl ?_
        refine a_getr X lf7_26 (by assumption) rfl (by omega) dX7_prefer_47 ?_
        refine a_iload_n X dX7_prefer_50 rfl ?_
        obtain ⟨M_51, f_51, h⟩ := zLtx h
        refine d_puti X lf7_146 (by assumption) rfl dX7_prefer_51 f_51 ?_
        refine a_aload_n X dX7_prefer_54 rfl ?_
        refine a_iload_n X dX7_prefer_55 rfl ?_
        obtain ⟨e_56, f_56, h⟩ := zBx h
        refine a_callVv X dX7_prefer_56 miX7_changed lm7_122 (t_X7_changed (by assumption) f_56) (by assumption) rfl rfl rfl (Nat.le_of_ble_eq_true rfl) ⟨by decide, by decide, by decide, by decide⟩ ?_
        refine a_iret X hr dX7_prefer_59 ⟨by decide, by decide⟩ ?_
        subst hF
        rw [← Option.some.inj h]
        exact ⟨rfl, rfl⟩
      · replace h := (if_pos h_26).symm.trans h
        refine a_aload_n X dX7_prefer_29 rfl ?_
        refine a_iconst (v := 4) X dX7_prefer_30 (by decide) ?_
        obtain ⟨e_31, f_31, h⟩ := zBx h
        refine a_callVv X dX7_prefer_31 miX7_refuse lm7_102 (t_X7_refuse (by assumption) f_31) (by assumption) rfl rfl rfl (Nat.le_of_ble_eq_true rfl) ⟨by decide, by decide, by decide, by decide⟩ ?_
        refine a_iret X hr dX7_prefer_34 ⟨by decide, by decide⟩ ?_
        subst hF
        rw [← Option.some.inj h]
        exact ⟨rfl, rfl⟩
    · replace h := (if_neg h_7).symm.trans h
      exact Zw.to2 (J_10 _ _ _ h) rfl rfl rfl
noncomputable def D_X7_guests_10 (P : Nat) (M_10 : zMt) : Option (Int32 × zMt) :=
  zB (D_X7_refuse P (1 : Int32) M_10) fun e_12 =>
  some (e_12.1, e_12.2)
noncomputable def D_X7_guests (P : Nat) (v0 : Int32) (M : zMt) : Option (Int32 × zMt) :=
  if v0 < 0 then
    D_X7_guests_10 P M
  else
    if v0 ≤ (100 : Int32) then
      if (M (P + 17) 5) = v0 then
        zB (D_X7_refuse P (4 : Int32) M) fun e_31 =>
        some (e_31.1, e_31.2)
      else
        zB (D_X1_keep (P + 25) (P + 17) M) fun e_43 =>
        zLt (zu e_43 (P + 17) 5 v0) fun M_51 =>
        zB (D_X7_changed P (M (P + 17) 5) M_51) fun e_56 =>
        some (e_56.1, e_56.2)
    else
      D_X7_guests_10 P M
set_option maxRecDepth 100000 in
set_option maxHeartbeats 4000000 in
theorem t_X7_guests {l : Launch} {G : zG} {b : Nat} {L : List zC} {M : zMt} {N : zNt} {P : Nat} {v0 : Int32} (hP : LX7 L P) {r : Int32 × zMt} (h : D_X7_guests P v0 M = some r) : zM l G b yX7_guests cX7_guests 3 (some .int) 4 0 0 [.ref P, .int v0] (L, M, N) (fun r2 z => r2 = some (.int r.1) ∧ z = (L, r.2, N)) := by
  refine zM.of miX7_guests (Nat.le_of_ble_eq_true rfl) ?_
  intro p e s m args below meth c X hr hname
  generalize hF : ((fun r2 z => r2 = some (.int r.1) ∧ z = (L, r.2, N)) : Option Value → zS → Prop) = FQ
  change Zw p l e { frames := 4, cells := 0, slots := 0, locals := 80 * (4) } s m args below meth c G b 3 (MQ below (zQ G b FQ) args s 0 0 (fun q : Nat => b ≤ q)) 0 0 0 [some (.ref P), some (.int v0), none] [] (L, M, N)
  obtain ⟨p_lt, p_o, p_tape, p_out, p_reader, p_list, p_past, p_pool, p_result, p_odds, p_paper, p_trial, p_trialPool, p_trialResult, p_trialOdds⟩ := id hP
  obtain ⟨p_reader_lt, p_reader_o, p_reader_draft, p_reader_text, p_reader_unitNames, p_reader_hunterNames, p_reader_partyNames, p_reader_asked⟩ := id p_reader
  obtain ⟨p_list_lt, p_list_o, p_list_quota, p_list_score, p_list_guest, p_list_party, p_list_wishCount, p_list_wishes, p_list_has⟩ := id p_list
  obtain ⟨p_past_lt, p_past_o, p_past_stood, p_past_stood0, p_past_stood1, p_past_stood2, p_past_stood3, p_past_stood4, p_past_stood5, p_past_stood6, p_past_stood7⟩ := id p_past
  obtain ⟨p_pool_lt, p_pool_o, p_pool_quota, p_pool_preferred, p_pool_forGuests, p_pool_applicantOf, p_pool_size, p_pool_guestCount, p_pool_score, p_pool_tickets, p_pool_bits, p_pool_party, p_pool_wishCount, p_pool_wishes⟩ := id p_pool
  obtain ⟨p_result_lt, p_result_o, p_result_line, p_result_unitOf, p_result_roundOf, p_result_leftTags, p_result_leftGuests, p_result_leftPreferred, p_result_ranked⟩ := id p_result
  obtain ⟨p_odds_lt, p_odds_o, p_odds_sets, p_odds_seen, p_odds_atUnit, p_odds_early, p_odds_result⟩ := id p_odds
  obtain ⟨p_paper_lt, p_paper_o, p_paper_times, p_paper_firstWish, p_paper_dry, p_paper_list, p_paper_pool, p_paper_result⟩ := id p_paper
  obtain ⟨p_trial_lt, p_trial_o, p_trial_quota, p_trial_score, p_trial_guest, p_trial_party, p_trial_wishCount, p_trial_wishes, p_trial_has⟩ := id p_trial
  obtain ⟨p_trialPool_lt, p_trialPool_o, p_trialPool_quota, p_trialPool_preferred, p_trialPool_forGuests, p_trialPool_applicantOf, p_trialPool_size, p_trialPool_guestCount, p_trialPool_score, p_trialPool_tickets, p_trialPool_bits, p_trialPool_party, p_trialPool_wishCount, p_trialPool_wishes⟩ := id p_trialPool
  obtain ⟨p_trialResult_lt, p_trialResult_o, p_trialResult_line, p_trialResult_unitOf, p_trialResult_roundOf, p_trialResult_leftTags, p_trialResult_leftGuests, p_trialResult_leftPreferred, p_trialResult_ranked⟩ := id p_trialResult
  obtain ⟨p_trialOdds_lt, p_trialOdds_o, p_trialOdds_sets, p_trialOdds_seen, p_trialOdds_atUnit, p_trialOdds_early, p_trialOdds_result⟩ := id p_trialOdds
  have J_10 : ∀ (x1_10 : Int32) (x2_10 : Option Value) (M_10 : zMt), D_X7_guests_10 P M_10 = some r → Zw p l e { frames := 4, cells := 0, slots := 0, locals := 80 * (4) } s m args below meth c G b 3 (MQ below (zQ G b FQ) args s 0 0 (fun q : Nat => b ≤ q)) 0 0 10 [some (.ref (P)), some (.int x1_10), x2_10] [] (L, M_10, N) := by
    intro x1_10 x2_10 M_10 h
    unfold D_X7_guests_10 at h
    refine a_aload_n X dX7_guests_10 rfl ?_
    refine a_iconst (v := 1) X dX7_guests_11 (by decide) ?_
    obtain ⟨e_12, f_12, h⟩ := zBx h
    refine a_callVv X dX7_guests_12 miX7_refuse lm7_102 (t_X7_refuse (by assumption) f_12) (by assumption) rfl rfl rfl (Nat.le_of_ble_eq_true rfl) ⟨by decide, by decide, by decide, by decide⟩ ?_
    refine a_iret X hr dX7_guests_15 ⟨by decide, by decide⟩ ?_
    subst hF
    rw [← Option.some.inj h]
    exact ⟨rfl, rfl⟩
  unfold D_X7_guests at h
  refine a_iload_n X dX7_guests_0 rfl ?_
  refine a_if_lt (tgt := 10) X dX7_guests_1 (by decide) (fun h_1 => ?_) (fun h_1 => ?_)
  · replace h := (if_pos h_1).symm.trans h
    exact Zw.to2 (J_10 _ _ _ h) rfl rfl rfl
  · replace h := (if_neg h_1).symm.trans h
    refine a_iload_n X dX7_guests_4 rfl ?_
    refine a_bipush (v := 100) X dX7_guests_5 (by decide) ?_
    refine a_icmp_le (tgt := 16) X dX7_guests_7 (by decide) (fun h_7 => ?_) (fun h_7 => ?_)
    · replace h := (if_pos h_7).symm.trans h
      refine a_aload_n X dX7_guests_16 rfl ?_
      refine a_getr X lf7_26 (by assumption) rfl (by omega) dX7_guests_17 ?_
      refine a_geti X lf7_149 (by assumption) rfl dX7_guests_20 ?_
      refine a_istore_n X dX7_guests_23 (by decide) ?_
      refine a_iload_n X dX7_guests_24 rfl ?_
      refine a_iload_n X dX7_guests_25 rfl ?_
      refine a_icmp_ne (tgt := 35) X dX7_guests_26 (by decide) (fun h_26 => ?_) (fun h_26 => ?_)
      · replace h := (if_neg h_26).symm.trans h
        refine a_aload_n X dX7_guests_35 rfl ?_
        refine a_getr X lf7_33 (by assumption) rfl (by omega) dX7_guests_36 ?_
        refine a_aload_n X dX7_guests_39 rfl ?_
        refine a_getr X lf7_26 (by assumption) rfl (by omega) dX7_guests_40 ?_
        obtain ⟨e_43, f_43, h⟩ := zBx h
        refine a_callVu X dX7_guests_43 miX1_keep lm7_396 (t_X1_keep (by assumption) (by assumption) (by omega) f_43) (by assumption) rfl rfl rfl (Nat.le_of_ble_eq_true rfl) ⟨by decide, by decide, by decide, by decide⟩ ?_
        refine a_aload_n X dX7_guests_46 rfl ?_
        refine a_getr X lf7_26 (by assumption) rfl (by omega) dX7_guests_47 ?_
        refine a_iload_n X dX7_guests_50 rfl ?_
        obtain ⟨M_51, f_51, h⟩ := zLtx h
        refine d_puti X lf7_149 (by assumption) rfl dX7_guests_51 f_51 ?_
        refine a_aload_n X dX7_guests_54 rfl ?_
        refine a_iload_n X dX7_guests_55 rfl ?_
        obtain ⟨e_56, f_56, h⟩ := zBx h
        refine a_callVv X dX7_guests_56 miX7_changed lm7_122 (t_X7_changed (by assumption) f_56) (by assumption) rfl rfl rfl (Nat.le_of_ble_eq_true rfl) ⟨by decide, by decide, by decide, by decide⟩ ?_
        refine a_iret X hr dX7_guests_59 ⟨by decide, by decide⟩ ?_
        subst hF
        rw [← Option.some.inj h]
        exact ⟨rfl, rfl⟩
      · replace h := (if_pos h_26).symm.trans h
        refine a_aload_n X dX7_guests_29 rfl ?_
        refine a_iconst (v := 4) X dX7_guests_30 (by decide) ?_
        obtain ⟨e_31, f_31, h⟩ := zBx h
        refine a_callVv X dX7_guests_31 miX7_refuse lm7_102 (t_X7_refuse (by assumption) f_31) (by assumption) rfl rfl rfl (Nat.le_of_ble_eq_true rfl) ⟨by decide, by decide, by decide, by decide⟩ ?_
        refine a_iret X hr dX7_guests_34 ⟨by decide, by decide⟩ ?_
        subst hF
        rw [← Option.some.inj h]
        exact ⟨rfl, rfl⟩
    · replace h := (if_neg h_7).symm.trans h
      exact Zw.to2 (J_10 _ _ _ h) rfl rfl rfl
noncomputable def D_X7_split (P : Nat) (v0 : Int32) (M : zMt) : Option (Int32 × zMt) :=
  zB (D_X7_isParty P M v0) fun e_2 =>
  if e_2 = 0 then
    zB (D_X7_refuse P (2 : Int32) M) fun e_10 =>
    some (e_10.1, e_10.2)
  else
    zB (D_X1_keep (P + 25) (P + 17) M) fun e_22 =>
    zB (D_X4_dissolve (P + 17) v0 e_22) fun e_30 =>
    zB (D_X7_changed P (0 : Int32) e_30) fun e_35 =>
    zB (D_X7_answer P (e_35.2 (P + 91) 1) e_35.2) fun e_47 =>
    some (e_47.1, e_47.2)
set_option maxRecDepth 100000 in
set_option maxHeartbeats 4000000 in
theorem t_X7_split {l : Launch} {G : zG} {b : Nat} {L : List zC} {M : zMt} {N : zNt} {P : Nat} {v0 : Int32} (hP : LX7 L P) {r : Int32 × zMt} (h : D_X7_split P v0 M = some r) : zM l G b yX7_split cX7_split 2 (some .int) 4 0 0 [.ref P, .int v0] (L, M, N) (fun r2 z => r2 = some (.int r.1) ∧ z = (L, r.2, N)) := by
  refine zM.of miX7_split (Nat.le_of_ble_eq_true rfl) ?_
  intro p e s m args below meth c X hr hname
  generalize hF : ((fun r2 z => r2 = some (.int r.1) ∧ z = (L, r.2, N)) : Option Value → zS → Prop) = FQ
  change Zw p l e { frames := 4, cells := 0, slots := 0, locals := 80 * (4) } s m args below meth c G b 2 (MQ below (zQ G b FQ) args s 0 0 (fun q : Nat => b ≤ q)) 0 0 0 [some (.ref P), some (.int v0)] [] (L, M, N)
  obtain ⟨p_lt, p_o, p_tape, p_out, p_reader, p_list, p_past, p_pool, p_result, p_odds, p_paper, p_trial, p_trialPool, p_trialResult, p_trialOdds⟩ := id hP
  obtain ⟨p_reader_lt, p_reader_o, p_reader_draft, p_reader_text, p_reader_unitNames, p_reader_hunterNames, p_reader_partyNames, p_reader_asked⟩ := id p_reader
  obtain ⟨p_list_lt, p_list_o, p_list_quota, p_list_score, p_list_guest, p_list_party, p_list_wishCount, p_list_wishes, p_list_has⟩ := id p_list
  obtain ⟨p_past_lt, p_past_o, p_past_stood, p_past_stood0, p_past_stood1, p_past_stood2, p_past_stood3, p_past_stood4, p_past_stood5, p_past_stood6, p_past_stood7⟩ := id p_past
  obtain ⟨p_pool_lt, p_pool_o, p_pool_quota, p_pool_preferred, p_pool_forGuests, p_pool_applicantOf, p_pool_size, p_pool_guestCount, p_pool_score, p_pool_tickets, p_pool_bits, p_pool_party, p_pool_wishCount, p_pool_wishes⟩ := id p_pool
  obtain ⟨p_result_lt, p_result_o, p_result_line, p_result_unitOf, p_result_roundOf, p_result_leftTags, p_result_leftGuests, p_result_leftPreferred, p_result_ranked⟩ := id p_result
  obtain ⟨p_odds_lt, p_odds_o, p_odds_sets, p_odds_seen, p_odds_atUnit, p_odds_early, p_odds_result⟩ := id p_odds
  obtain ⟨p_paper_lt, p_paper_o, p_paper_times, p_paper_firstWish, p_paper_dry, p_paper_list, p_paper_pool, p_paper_result⟩ := id p_paper
  obtain ⟨p_trial_lt, p_trial_o, p_trial_quota, p_trial_score, p_trial_guest, p_trial_party, p_trial_wishCount, p_trial_wishes, p_trial_has⟩ := id p_trial
  obtain ⟨p_trialPool_lt, p_trialPool_o, p_trialPool_quota, p_trialPool_preferred, p_trialPool_forGuests, p_trialPool_applicantOf, p_trialPool_size, p_trialPool_guestCount, p_trialPool_score, p_trialPool_tickets, p_trialPool_bits, p_trialPool_party, p_trialPool_wishCount, p_trialPool_wishes⟩ := id p_trialPool
  obtain ⟨p_trialResult_lt, p_trialResult_o, p_trialResult_line, p_trialResult_unitOf, p_trialResult_roundOf, p_trialResult_leftTags, p_trialResult_leftGuests, p_trialResult_leftPreferred, p_trialResult_ranked⟩ := id p_trialResult
  obtain ⟨p_trialOdds_lt, p_trialOdds_o, p_trialOdds_sets, p_trialOdds_seen, p_trialOdds_atUnit, p_trialOdds_early, p_trialOdds_result⟩ := id p_trialOdds
  unfold D_X7_split at h
  refine a_aload_n X dX7_split_0 rfl ?_
  refine a_iload_n X dX7_split_1 rfl ?_
  obtain ⟨e_2, f_2, h⟩ := zBx h
  refine a_callVx X dX7_split_2 miX7_isParty lm7_362 (t_X7_isParty (by assumption) f_2) (by assumption) rfl rfl rfl (Nat.le_of_ble_eq_true rfl) ⟨by decide, by decide, by decide, by decide⟩ (fun r_2 S_2 q_2 => ?_)
  obtain ⟨rfl, rfl, b_2⟩ := q_2
  refine a_if_ne (tgt := 14) X dX7_split_5 (by decide) (fun h_5 => ?_) (fun h_5 => ?_)
  · replace h := (if_neg h_5).symm.trans h
    refine a_aload_n X dX7_split_14 rfl ?_
    refine a_getr X lf7_33 (by assumption) rfl (by omega) dX7_split_15 ?_
    refine a_aload_n X dX7_split_18 rfl ?_
    refine a_getr X lf7_26 (by assumption) rfl (by omega) dX7_split_19 ?_
    obtain ⟨e_22, f_22, h⟩ := zBx h
    refine a_callVu X dX7_split_22 miX1_keep lm7_396 (t_X1_keep (by assumption) (by assumption) (by omega) f_22) (by assumption) rfl rfl rfl (Nat.le_of_ble_eq_true rfl) ⟨by decide, by decide, by decide, by decide⟩ ?_
    refine a_aload_n X dX7_split_25 rfl ?_
    refine a_getr X lf7_26 (by assumption) rfl (by omega) dX7_split_26 ?_
    refine a_iload_n X dX7_split_29 rfl ?_
    obtain ⟨e_30, f_30, h⟩ := zBx h
    refine a_callVu X dX7_split_30 miX4_dissolve lm7_365 (t_X4_dissolve (by assumption) f_30) (by assumption) rfl rfl rfl (Nat.le_of_ble_eq_true rfl) ⟨by decide, by decide, by decide, by decide⟩ ?_
    refine a_aload_n X dX7_split_33 rfl ?_
    refine a_iconst (v := 0) X dX7_split_34 (by decide) ?_
    obtain ⟨e_35, f_35, h⟩ := zBx h
    refine a_callVv X dX7_split_35 miX7_changed lm7_122 (t_X7_changed (by assumption) f_35) (by assumption) rfl rfl rfl (Nat.le_of_ble_eq_true rfl) ⟨by decide, by decide, by decide, by decide⟩ ?_
    refine a_pop X dX7_split_38 rfl ?_
    refine a_aload_n X dX7_split_39 rfl ?_
    refine a_aload_n X dX7_split_40 rfl ?_
    refine a_getr X lf7_40 (by assumption) rfl (by omega) dX7_split_41 ?_
    refine a_geti X lf7_140 (by assumption) rfl dX7_split_44 ?_
    obtain ⟨e_47, f_47, h⟩ := zBx h
    refine a_callVv X dX7_split_47 miX7_answer lm7_134 (t_X7_answer (by assumption) f_47) (by assumption) rfl rfl rfl (Nat.le_of_ble_eq_true rfl) ⟨by decide, by decide, by decide, by decide⟩ ?_
    refine a_iret X hr dX7_split_50 ⟨by decide, by decide⟩ ?_
    subst hF
    rw [← Option.some.inj h]
    exact ⟨rfl, rfl⟩
  · replace h := (if_pos h_5).symm.trans h
    refine a_aload_n X dX7_split_8 rfl ?_
    refine a_iconst (v := 2) X dX7_split_9 (by decide) ?_
    obtain ⟨e_10, f_10, h⟩ := zBx h
    refine a_callVv X dX7_split_10 miX7_refuse lm7_102 (t_X7_refuse (by assumption) f_10) (by assumption) rfl rfl rfl (Nat.le_of_ble_eq_true rfl) ⟨by decide, by decide, by decide, by decide⟩ ?_
    refine a_iret X hr dX7_split_13 ⟨by decide, by decide⟩ ?_
    subst hF
    rw [← Option.some.inj h]
    exact ⟨rfl, rfl⟩
noncomputable def D_X7_undo (P : Nat) (M : zMt) : Option (Int32 × zMt) :=
  zB (D_X1_giveBack (P + 25) (P + 17) M) fun e_8 =>
  if e_8.1 = 0 then
    zB (D_X7_refuse P (5 : Int32) e_8.2) fun e_16 =>
    some (e_16.1, e_16.2)
  else
    zB (D_X7_changed P (e_8.2 (P + 25) 0) e_8.2) fun e_28 =>
    some (e_28.1, e_28.2)
set_option maxRecDepth 100000 in
set_option maxHeartbeats 4000000 in
theorem t_X7_undo {l : Launch} {G : zG} {b : Nat} {L : List zC} {M : zMt} {N : zNt} {P : Nat}  (hP : LX7 L P) {r : Int32 × zMt} (h : D_X7_undo P M = some r) : zM l G b yX7_undo cX7_undo 1 (some .int) 4 0 0 [.ref P] (L, M, N) (fun r2 z => r2 = some (.int r.1) ∧ z = (L, r.2, N)) := by
  refine zM.of miX7_undo (Nat.le_of_ble_eq_true rfl) ?_
  intro p e s m args below meth c X hr hname
  generalize hF : ((fun r2 z => r2 = some (.int r.1) ∧ z = (L, r.2, N)) : Option Value → zS → Prop) = FQ
  change Zw p l e { frames := 4, cells := 0, slots := 0, locals := 80 * (4) } s m args below meth c G b 1 (MQ below (zQ G b FQ) args s 0 0 (fun q : Nat => b ≤ q)) 0 0 0 [some (.ref P)] [] (L, M, N)
  obtain ⟨p_lt, p_o, p_tape, p_out, p_reader, p_list, p_past, p_pool, p_result, p_odds, p_paper, p_trial, p_trialPool, p_trialResult, p_trialOdds⟩ := id hP
  obtain ⟨p_reader_lt, p_reader_o, p_reader_draft, p_reader_text, p_reader_unitNames, p_reader_hunterNames, p_reader_partyNames, p_reader_asked⟩ := id p_reader
  obtain ⟨p_list_lt, p_list_o, p_list_quota, p_list_score, p_list_guest, p_list_party, p_list_wishCount, p_list_wishes, p_list_has⟩ := id p_list
  obtain ⟨p_past_lt, p_past_o, p_past_stood, p_past_stood0, p_past_stood1, p_past_stood2, p_past_stood3, p_past_stood4, p_past_stood5, p_past_stood6, p_past_stood7⟩ := id p_past
  obtain ⟨p_pool_lt, p_pool_o, p_pool_quota, p_pool_preferred, p_pool_forGuests, p_pool_applicantOf, p_pool_size, p_pool_guestCount, p_pool_score, p_pool_tickets, p_pool_bits, p_pool_party, p_pool_wishCount, p_pool_wishes⟩ := id p_pool
  obtain ⟨p_result_lt, p_result_o, p_result_line, p_result_unitOf, p_result_roundOf, p_result_leftTags, p_result_leftGuests, p_result_leftPreferred, p_result_ranked⟩ := id p_result
  obtain ⟨p_odds_lt, p_odds_o, p_odds_sets, p_odds_seen, p_odds_atUnit, p_odds_early, p_odds_result⟩ := id p_odds
  obtain ⟨p_paper_lt, p_paper_o, p_paper_times, p_paper_firstWish, p_paper_dry, p_paper_list, p_paper_pool, p_paper_result⟩ := id p_paper
  obtain ⟨p_trial_lt, p_trial_o, p_trial_quota, p_trial_score, p_trial_guest, p_trial_party, p_trial_wishCount, p_trial_wishes, p_trial_has⟩ := id p_trial
  obtain ⟨p_trialPool_lt, p_trialPool_o, p_trialPool_quota, p_trialPool_preferred, p_trialPool_forGuests, p_trialPool_applicantOf, p_trialPool_size, p_trialPool_guestCount, p_trialPool_score, p_trialPool_tickets, p_trialPool_bits, p_trialPool_party, p_trialPool_wishCount, p_trialPool_wishes⟩ := id p_trialPool
  obtain ⟨p_trialResult_lt, p_trialResult_o, p_trialResult_line, p_trialResult_unitOf, p_trialResult_roundOf, p_trialResult_leftTags, p_trialResult_leftGuests, p_trialResult_leftPreferred, p_trialResult_ranked⟩ := id p_trialResult
  obtain ⟨p_trialOdds_lt, p_trialOdds_o, p_trialOdds_sets, p_trialOdds_seen, p_trialOdds_atUnit, p_trialOdds_early, p_trialOdds_result⟩ := id p_trialOdds
  unfold D_X7_undo at h
  refine a_aload_n X dX7_undo_0 rfl ?_
  refine a_getr X lf7_33 (by assumption) rfl (by omega) dX7_undo_1 ?_
  refine a_aload_n X dX7_undo_4 rfl ?_
  refine a_getr X lf7_26 (by assumption) rfl (by omega) dX7_undo_5 ?_
  obtain ⟨e_8, f_8, h⟩ := zBx h
  refine a_callVx X dX7_undo_8 miX1_giveBack lm7_409 (t_X1_giveBack (by assumption) (by assumption) (by omega) f_8) (by assumption) rfl rfl rfl (Nat.le_of_ble_eq_true rfl) ⟨by decide, by decide, by decide, by decide⟩ (fun r_8 S_8 q_8 => ?_)
  obtain ⟨rfl, rfl, b_8⟩ := q_8
  refine a_if_ne (tgt := 20) X dX7_undo_11 (by decide) (fun h_11 => ?_) (fun h_11 => ?_)
  · replace h := (if_neg h_11).symm.trans h
    refine a_aload_n X dX7_undo_20 rfl ?_
    refine a_aload_n X dX7_undo_21 rfl ?_
    refine a_getr X lf7_33 (by assumption) rfl (by omega) dX7_undo_22 ?_
    refine a_geti X lf7_155 (by assumption) rfl dX7_undo_25 ?_
    obtain ⟨e_28, f_28, h⟩ := zBx h
    refine a_callVv X dX7_undo_28 miX7_changed lm7_122 (t_X7_changed (by assumption) f_28) (by assumption) rfl rfl rfl (Nat.le_of_ble_eq_true rfl) ⟨by decide, by decide, by decide, by decide⟩ ?_
    refine a_iret X hr dX7_undo_31 ⟨by decide, by decide⟩ ?_
    subst hF
    rw [← Option.some.inj h]
    exact ⟨rfl, rfl⟩
  · replace h := (if_pos h_11).symm.trans h
    refine a_aload_n X dX7_undo_14 rfl ?_
    refine a_iconst (v := 5) X dX7_undo_15 (by decide) ?_
    obtain ⟨e_16, f_16, h⟩ := zBx h
    refine a_callVv X dX7_undo_16 miX7_refuse lm7_102 (t_X7_refuse (by assumption) f_16) (by assumption) rfl rfl rfl (Nat.le_of_ble_eq_true rfl) ⟨by decide, by decide, by decide, by decide⟩ ?_
    refine a_iret X hr dX7_undo_19 ⟨by decide, by decide⟩ ?_
    subst hF
    rw [← Option.some.inj h]
    exact ⟨rfl, rfl⟩
noncomputable def D_X7_write (P : Nat) (v0 : Int32) (M : zMt) : Option (zMt) :=
  zLt (zwr M (P + 2) 50 (M P 2) v0) fun M_9 =>
  zLt (zu M_9 P 2 ((M_9 P 2) + (1 : Int32))) fun M_19 =>
  some (M_19)
set_option maxRecDepth 100000 in
set_option maxHeartbeats 4000000 in
theorem t_X7_write {l : Launch} {G : zG} {b : Nat} {L : List zC} {M : zMt} {N : zNt} {P : Nat} {v0 : Int32} (hP : LX7 L P) {r : zMt} (h : D_X7_write P v0 M = some r) : zM l G b yX7_write cX7_write 2 none 1 0 0 [.ref P, .int v0] (L, M, N) (fun r2 z => r2 = none ∧ z = (L, r, N)) := by
  refine zM.of miX7_write (Nat.le_of_ble_eq_true rfl) ?_
  intro p e s m args below meth c X hr hname
  generalize hF : ((fun r2 z => r2 = none ∧ z = (L, r, N)) : Option Value → zS → Prop) = FQ
  change Zw p l e { frames := 1, cells := 0, slots := 0, locals := 80 * (1) } s m args below meth c G b 2 (MQ below (zQ G b FQ) args s 0 0 (fun q : Nat => b ≤ q)) 0 0 0 [some (.ref P), some (.int v0)] [] (L, M, N)
  obtain ⟨p_lt, p_o, p_tape, p_out, p_reader, p_list, p_past, p_pool, p_result, p_odds, p_paper, p_trial, p_trialPool, p_trialResult, p_trialOdds⟩ := id hP
  obtain ⟨p_reader_lt, p_reader_o, p_reader_draft, p_reader_text, p_reader_unitNames, p_reader_hunterNames, p_reader_partyNames, p_reader_asked⟩ := id p_reader
  obtain ⟨p_list_lt, p_list_o, p_list_quota, p_list_score, p_list_guest, p_list_party, p_list_wishCount, p_list_wishes, p_list_has⟩ := id p_list
  obtain ⟨p_past_lt, p_past_o, p_past_stood, p_past_stood0, p_past_stood1, p_past_stood2, p_past_stood3, p_past_stood4, p_past_stood5, p_past_stood6, p_past_stood7⟩ := id p_past
  obtain ⟨p_pool_lt, p_pool_o, p_pool_quota, p_pool_preferred, p_pool_forGuests, p_pool_applicantOf, p_pool_size, p_pool_guestCount, p_pool_score, p_pool_tickets, p_pool_bits, p_pool_party, p_pool_wishCount, p_pool_wishes⟩ := id p_pool
  obtain ⟨p_result_lt, p_result_o, p_result_line, p_result_unitOf, p_result_roundOf, p_result_leftTags, p_result_leftGuests, p_result_leftPreferred, p_result_ranked⟩ := id p_result
  obtain ⟨p_odds_lt, p_odds_o, p_odds_sets, p_odds_seen, p_odds_atUnit, p_odds_early, p_odds_result⟩ := id p_odds
  obtain ⟨p_paper_lt, p_paper_o, p_paper_times, p_paper_firstWish, p_paper_dry, p_paper_list, p_paper_pool, p_paper_result⟩ := id p_paper
  obtain ⟨p_trial_lt, p_trial_o, p_trial_quota, p_trial_score, p_trial_guest, p_trial_party, p_trial_wishCount, p_trial_wishes, p_trial_has⟩ := id p_trial
  obtain ⟨p_trialPool_lt, p_trialPool_o, p_trialPool_quota, p_trialPool_preferred, p_trialPool_forGuests, p_trialPool_applicantOf, p_trialPool_size, p_trialPool_guestCount, p_trialPool_score, p_trialPool_tickets, p_trialPool_bits, p_trialPool_party, p_trialPool_wishCount, p_trialPool_wishes⟩ := id p_trialPool
  obtain ⟨p_trialResult_lt, p_trialResult_o, p_trialResult_line, p_trialResult_unitOf, p_trialResult_roundOf, p_trialResult_leftTags, p_trialResult_leftGuests, p_trialResult_leftPreferred, p_trialResult_ranked⟩ := id p_trialResult
  obtain ⟨p_trialOdds_lt, p_trialOdds_o, p_trialOdds_sets, p_trialOdds_seen, p_trialOdds_atUnit, p_trialOdds_early, p_trialOdds_result⟩ := id p_trialOdds
  unfold D_X7_write at h
  refine a_aload_n X dX7_write_0 rfl ?_
  refine a_getr X lf7_13 (by assumption) rfl (by omega) dX7_write_1 ?_
  refine a_aload_n X dX7_write_4 rfl ?_
  refine a_geti X lf7_84 (by assumption) rfl dX7_write_5 ?_
  refine a_iload_n X dX7_write_8 rfl ?_
  obtain ⟨M_9, f_9, h⟩ := zLtx h
  refine a_callSu X dX7_write_9 miX7_put lm7_98 (zMu (c_put (by assumption) (by first | decide | assumption)) f_9) rfl rfl (Nat.le_of_ble_eq_true rfl) ⟨by decide, by decide, by decide, by decide⟩ ?_
  refine a_aload_n X dX7_write_12 rfl ?_
  refine a_dup X dX7_write_13 rfl ?_
  refine a_geti X lf7_84 (by assumption) rfl dX7_write_14 ?_
  refine a_iconst (v := 1) X dX7_write_17 (by decide) ?_
  refine a_iadd X dX7_write_18 ?_
  obtain ⟨M_19, f_19, h⟩ := zLtx h
  refine d_puti X lf7_84 (by assumption) rfl dX7_write_19 f_19 ?_
  refine a_vret X hr dX7_write_22 ⟨by decide, by decide⟩ ?_
  subst hF
  rw [← Option.some.inj h]
  exact ⟨rfl, rfl⟩
noncomputable def D_X7_print_123 (P : Nat) (k32 : Int32 → zMt → Option (Int32 × zMt)) (x2_123 : Int32) (M_123 : zMt) : Option (Int32 × zMt) :=
  zB (D_X7_write P (59 : Int32) M_123) fun e_126 =>
  k32 (x2_123 + 1) e_126
noncomputable def D_X7_print_99 (P : Nat) (k32 : Int32 → zMt → Option (Int32 × zMt)) (x2_99 : Int32) (x3_99 : Int32) (y1_99 : Int32) (M_99 : zMt) : Option (Int32 × zMt) :=
  zB (D_X7_write P y1_99 M_99) fun e_99 =>
  if (zrd 0 (e_99 (P + 107)) 10 x3_99) = (1 : Int32) then
    zB (D_X7_write P (33 : Int32) e_99) fun e_120 =>
    D_X7_print_123 P k32 x2_99 e_120
  else
    D_X7_print_123 P k32 x2_99 e_99
noncomputable def D_X7_print_32 (P : Nat) : Nat → Int32 → zMt → Option (Int32 × zMt)
  | 0, _, _ => none
  | n + 1, x2_32, M_32 =>
    if (M_32 (P + 91) 1) ≤ x2_32 then
      zB (D_X7_answer P (M_32 P 2) M_32) fun e_140 =>
      some (e_140.1, e_140.2)
    else
      zB (D_X7_write P ((48 : Int32) + (zrd 0 (M_32 (P + 105)) 10 x2_32)) M_32) fun e_73 =>
      zB (D_X7_write P (61 : Int32) e_73) fun e_79 =>
      if (zrd 0 (M_32 (P + 106)) 10 (zrd 0 (M_32 (P + 105)) 10 x2_32)) = (-1 : Int32) then
        D_X7_print_99 P (D_X7_print_32 P n) x2_32 (zrd 0 (M_32 (P + 105)) 10 x2_32) (45 : Int32) e_79
      else
        D_X7_print_99 P (D_X7_print_32 P n) x2_32 (zrd 0 (M_32 (P + 105)) 10 x2_32) ((48 : Int32) + (zrd 0 (M_32 (P + 106)) 10 (zrd 0 (M_32 (P + 105)) 10 x2_32))) e_79
noncomputable def D_X7_print (P : Nat) (v0 : Int32) (M : zMt) : Option (Int32 × zMt) :=
  zB (D_X7_isSeed v0) fun e_1 =>
  if e_1 = 0 then
    zB (D_X7_refuse P (1 : Int32) M) fun e_9 =>
    some (e_9.1, e_9.2)
  else
    zB (D_X5_bySeed (P + 104) (P + 91) v0 M) fun e_22 =>
    zLt (zu e_22 P 2 (0 : Int32)) fun M_27 =>
    D_X7_print_32 P zFu (0 : Int32) M_27
set_option maxRecDepth 100000 in
set_option maxHeartbeats 4000000 in
theorem t_X7_print {l : Launch} {G : zG} {b : Nat} {L : List zC} {M : zMt} {N : zNt} {P : Nat} {v0 : Int32} (hP : LX7 L P) {r : Int32 × zMt} (h : D_X7_print P v0 M = some r) : zM l G b yX7_print cX7_print 5 (some .int) 5 0 0 [.ref P, .int v0] (L, M, N) (fun r2 z => r2 = some (.int r.1) ∧ z = (L, r.2, N)) := by
  refine zM.of miX7_print (Nat.le_of_ble_eq_true rfl) ?_
  intro p e s m args below meth c X hr hname
  generalize hF : ((fun r2 z => r2 = some (.int r.1) ∧ z = (L, r.2, N)) : Option Value → zS → Prop) = FQ
  change Zw p l e { frames := 5, cells := 0, slots := 0, locals := 80 * (5) } s m args below meth c G b 5 (MQ below (zQ G b FQ) args s 0 0 (fun q : Nat => b ≤ q)) 0 0 0 [some (.ref P), some (.int v0), none, none, none] [] (L, M, N)
  obtain ⟨p_lt, p_o, p_tape, p_out, p_reader, p_list, p_past, p_pool, p_result, p_odds, p_paper, p_trial, p_trialPool, p_trialResult, p_trialOdds⟩ := id hP
  obtain ⟨p_reader_lt, p_reader_o, p_reader_draft, p_reader_text, p_reader_unitNames, p_reader_hunterNames, p_reader_partyNames, p_reader_asked⟩ := id p_reader
  obtain ⟨p_list_lt, p_list_o, p_list_quota, p_list_score, p_list_guest, p_list_party, p_list_wishCount, p_list_wishes, p_list_has⟩ := id p_list
  obtain ⟨p_past_lt, p_past_o, p_past_stood, p_past_stood0, p_past_stood1, p_past_stood2, p_past_stood3, p_past_stood4, p_past_stood5, p_past_stood6, p_past_stood7⟩ := id p_past
  obtain ⟨p_pool_lt, p_pool_o, p_pool_quota, p_pool_preferred, p_pool_forGuests, p_pool_applicantOf, p_pool_size, p_pool_guestCount, p_pool_score, p_pool_tickets, p_pool_bits, p_pool_party, p_pool_wishCount, p_pool_wishes⟩ := id p_pool
  obtain ⟨p_result_lt, p_result_o, p_result_line, p_result_unitOf, p_result_roundOf, p_result_leftTags, p_result_leftGuests, p_result_leftPreferred, p_result_ranked⟩ := id p_result
  obtain ⟨p_odds_lt, p_odds_o, p_odds_sets, p_odds_seen, p_odds_atUnit, p_odds_early, p_odds_result⟩ := id p_odds
  obtain ⟨p_paper_lt, p_paper_o, p_paper_times, p_paper_firstWish, p_paper_dry, p_paper_list, p_paper_pool, p_paper_result⟩ := id p_paper
  obtain ⟨p_trial_lt, p_trial_o, p_trial_quota, p_trial_score, p_trial_guest, p_trial_party, p_trial_wishCount, p_trial_wishes, p_trial_has⟩ := id p_trial
  obtain ⟨p_trialPool_lt, p_trialPool_o, p_trialPool_quota, p_trialPool_preferred, p_trialPool_forGuests, p_trialPool_applicantOf, p_trialPool_size, p_trialPool_guestCount, p_trialPool_score, p_trialPool_tickets, p_trialPool_bits, p_trialPool_party, p_trialPool_wishCount, p_trialPool_wishes⟩ := id p_trialPool
  obtain ⟨p_trialResult_lt, p_trialResult_o, p_trialResult_line, p_trialResult_unitOf, p_trialResult_roundOf, p_trialResult_leftTags, p_trialResult_leftGuests, p_trialResult_leftPreferred, p_trialResult_ranked⟩ := id p_trialResult
  obtain ⟨p_trialOdds_lt, p_trialOdds_o, p_trialOdds_sets, p_trialOdds_seen, p_trialOdds_atUnit, p_trialOdds_early, p_trialOdds_result⟩ := id p_trialOdds
  have L_32 : ∀ u : Nat, ∀ (x1_32 : Int32) (x2_32 : Int32) (x3_32 : Option Value) (x4_32 : Option Value) (M_32 : zMt), D_X7_print_32 P u x2_32 M_32 = some r → Zw p l e { frames := 5, cells := 0, slots := 0, locals := 80 * (5) } s m args below meth c G b 5 (MQ below (zQ G b FQ) args s 0 0 (fun q : Nat => b ≤ q)) 0 0 32 [some (.ref (P)), some (.int x1_32), some (.int x2_32), x3_32, x4_32] [] (L, M_32, N) := by
    intro u
    induction u with
    | zero => intro x1_32 x2_32 x3_32 x4_32 M_32 h; cases (show none = some r from h)
    | succ u_32 ih_32 =>
      have J_123 : ∀ (x1_123 : Int32) (x2_123 : Int32) (x3_123 : Int32) (x4_123 : Int32) (M_123 : zMt), D_X7_print_123 P (D_X7_print_32 P u_32) x2_123 M_123 = some r → Zw p l e { frames := 5, cells := 0, slots := 0, locals := 80 * (5) } s m args below meth c G b 5 (MQ below (zQ G b FQ) args s 0 0 (fun q : Nat => b ≤ q)) 0 0 123 [some (.ref (P)), some (.int x1_123), some (.int x2_123), some (.int x3_123), some (.int x4_123)] [] (L, M_123, N) := by
        intro x1_123 x2_123 x3_123 x4_123 M_123 h
        unfold D_X7_print_123 at h
        refine a_aload_n X dX7_print_123 rfl ?_
        refine a_bipush (v := 59) X dX7_print_124 (by decide) ?_
        obtain ⟨e_126, f_126, h⟩ := zBx h
        refine a_callVu X dX7_print_126 miX7_write lm7_413 (t_X7_write (by assumption) f_126) (by assumption) rfl rfl rfl (Nat.le_of_ble_eq_true rfl) ⟨by decide, by decide, by decide, by decide⟩ ?_
        refine a_iinc (v := x2_123 + 1) X dX7_print_129 (by decide) rfl zi_1 ?_
        refine a_goto (tgt := 32) X dX7_print_132 (by decide) ?_
        exact Zw.to2 (ih_32 _ _ _ _ _ h) rfl rfl rfl
      have J_99 : ∀ (x1_99 : Int32) (x2_99 : Int32) (x3_99 : Int32) (x4_99 : Int32) (y1_99 : Int32) (M_99 : zMt), D_X7_print_99 P (D_X7_print_32 P u_32) x2_99 x3_99 y1_99 M_99 = some r → Zw p l e { frames := 5, cells := 0, slots := 0, locals := 80 * (5) } s m args below meth c G b 5 (MQ below (zQ G b FQ) args s 0 0 (fun q : Nat => b ≤ q)) 0 0 99 [some (.ref (P)), some (.int x1_99), some (.int x2_99), some (.int x3_99), some (.int x4_99)] [.int y1_99, .ref (P)] (L, M_99, N) := by
        intro x1_99 x2_99 x3_99 x4_99 y1_99 M_99 h
        unfold D_X7_print_99 at h
        obtain ⟨e_99, f_99, h⟩ := zBx h
        refine a_callVu X dX7_print_99 miX7_write lm7_413 (t_X7_write (by assumption) f_99) (by assumption) rfl rfl rfl (Nat.le_of_ble_eq_true rfl) ⟨by decide, by decide, by decide, by decide⟩ ?_
        refine a_aload_n X dX7_print_102 rfl ?_
        refine a_getr X lf7_47 (by assumption) rfl (by omega) dX7_print_103 ?_
        refine a_getr X lf7_253 (by assumption) rfl (by omega) dX7_print_106 ?_
        refine a_iload_n X dX7_print_109 rfl ?_
        refine a_callSv X dX7_print_110 miX7_cell lm7_175 (c_cell (by assumption) (by first | decide | assumption)) rfl rfl (Nat.le_of_ble_eq_true rfl) ⟨by decide, by decide, by decide, by decide⟩ ?_
        refine a_iconst (v := 1) X dX7_print_113 (by decide) ?_
        refine a_icmp_ne (tgt := 123) X dX7_print_114 (by decide) (fun h_114 => ?_) (fun h_114 => ?_)
        · replace h := (if_neg h_114).symm.trans h
          exact Zw.to2 (J_123 _ _ _ _ _ h) rfl rfl rfl
        · replace h := (if_pos h_114).symm.trans h
          refine a_aload_n X dX7_print_117 rfl ?_
          refine a_bipush (v := 33) X dX7_print_118 (by decide) ?_
          obtain ⟨e_120, f_120, h⟩ := zBx h
          refine a_callVu X dX7_print_120 miX7_write lm7_413 (t_X7_write (by assumption) f_120) (by assumption) rfl rfl rfl (Nat.le_of_ble_eq_true rfl) ⟨by decide, by decide, by decide, by decide⟩ ?_
          exact Zw.to2 (J_123 _ _ _ _ _ h) rfl rfl rfl
      intro x1_32 x2_32 x3_32 x4_32 M_32 h
      rw [D_X7_print_32] at h
      refine a_iload_n X dX7_print_32 rfl ?_
      refine a_aload_n X dX7_print_33 rfl ?_
      refine a_getr X lf7_40 (by assumption) rfl (by omega) dX7_print_34 ?_
      refine a_geti X lf7_140 (by assumption) rfl dX7_print_37 ?_
      refine a_icmp_ge (tgt := 135) X dX7_print_40 (by decide) (fun h_40 => ?_) (fun h_40 => ?_)
      · replace h := (if_pos h_40).symm.trans h
        refine a_aload_n X dX7_print_135 rfl ?_
        refine a_aload_n X dX7_print_136 rfl ?_
        refine a_geti X lf7_84 (by assumption) rfl dX7_print_137 ?_
        obtain ⟨e_140, f_140, h⟩ := zBx h
        refine a_callVv X dX7_print_140 miX7_answer lm7_134 (t_X7_answer (by assumption) f_140) (by assumption) rfl rfl rfl (Nat.le_of_ble_eq_true rfl) ⟨by decide, by decide, by decide, by decide⟩ ?_
        refine a_iret X hr dX7_print_143 ⟨by decide, by decide⟩ ?_
        subst hF
        rw [← Option.some.inj h]
        exact ⟨rfl, rfl⟩
      · replace h := (if_neg h_40).symm.trans h
        refine a_aload_n X dX7_print_43 rfl ?_
        refine a_getr X lf7_47 (by assumption) rfl (by omega) dX7_print_44 ?_
        refine a_getr X lf7_244 (by assumption) rfl (by omega) dX7_print_47 ?_
        refine a_iload_n X dX7_print_50 rfl ?_
        refine a_callSv X dX7_print_51 miX7_cell lm7_175 (c_cell (by assumption) (by first | decide | assumption)) rfl rfl (Nat.le_of_ble_eq_true rfl) ⟨by decide, by decide, by decide, by decide⟩ ?_
        refine a_istore_n X dX7_print_54 (by decide) ?_
        refine a_aload_n X dX7_print_55 rfl ?_
        refine a_getr X lf7_47 (by assumption) rfl (by omega) dX7_print_56 ?_
        refine a_getr X lf7_250 (by assumption) rfl (by omega) dX7_print_59 ?_
        refine a_iload_n X dX7_print_62 rfl ?_
        refine a_callSv X dX7_print_63 miX7_cell lm7_175 (c_cell (by assumption) (by first | decide | assumption)) rfl rfl (Nat.le_of_ble_eq_true rfl) ⟨by decide, by decide, by decide, by decide⟩ ?_
        refine a_istore X dX7_print_66 (by decide) ?_
        refine a_aload_n X dX7_print_68 rfl ?_
        refine a_bipush (v := 48) X dX7_print_69 (by decide) ?_
        refine a_iload_n X dX7_print_71 rfl ?_
        refine a_iadd X dX7_print_72 ?_
        obtain ⟨e_73, f_73, h⟩ := zBx h
        refine a_callVu X dX7_print_73 miX7_write lm7_413 (t_X7_write (by assumption) f_73) (by assumption) rfl rfl rfl (Nat.le_of_ble_eq_true rfl) ⟨by decide, by decide, by decide, by decide⟩ ?_
        refine a_aload_n X dX7_print_76 rfl ?_
        refine a_bipush (v := 61) X dX7_print_77 (by decide) ?_
        obtain ⟨e_79, f_79, h⟩ := zBx h
        refine a_callVu X dX7_print_79 miX7_write lm7_413 (t_X7_write (by assumption) f_79) (by assumption) rfl rfl rfl (Nat.le_of_ble_eq_true rfl) ⟨by decide, by decide, by decide, by decide⟩ ?_
        refine a_aload_n X dX7_print_82 rfl ?_
        refine a_iload X dX7_print_83 rfl ?_
        refine a_iconst (v := -1) X dX7_print_85 (by decide) ?_
        refine a_icmp_ne (tgt := 94) X dX7_print_86 (by decide) (fun h_86 => ?_) (fun h_86 => ?_)
        · replace h := (if_neg h_86).symm.trans h
          refine a_bipush (v := 48) X dX7_print_94 (by decide) ?_
          refine a_iload X dX7_print_96 rfl ?_
          refine a_iadd X dX7_print_98 ?_
          exact Zw.to2 (J_99 _ _ _ _ _ _ h) rfl rfl rfl
        · replace h := (if_pos h_86).symm.trans h
          refine a_bipush (v := 45) X dX7_print_89 (by decide) ?_
          refine a_goto (tgt := 99) X dX7_print_91 (by decide) ?_
          exact Zw.to2 (J_99 _ _ _ _ _ _ h) rfl rfl rfl
  have H_32 : ∀ (x1_32 : Int32) (x2_32 : Int32) (x3_32 : Option Value) (x4_32 : Option Value) (M_32 : zMt), D_X7_print_32 P zFu x2_32 M_32 = some r → Zw p l e { frames := 5, cells := 0, slots := 0, locals := 80 * (5) } s m args below meth c G b 5 (MQ below (zQ G b FQ) args s 0 0 (fun q : Nat => b ≤ q)) 0 0 32 [some (.ref (P)), some (.int x1_32), some (.int x2_32), x3_32, x4_32] [] (L, M_32, N) := L_32 zFu
  unfold D_X7_print at h
  refine a_iload_n X dX7_print_0 rfl ?_
  obtain ⟨e_1, f_1, h⟩ := zBx h
  refine a_callSx X dX7_print_1 miX7_isSeed lm7_237 (t_X7_isSeed f_1) rfl rfl (Nat.le_of_ble_eq_true rfl) ⟨by decide, by decide, by decide, by decide⟩ (fun r_1 S_1 q_1 => ?_)
  obtain ⟨rfl, rfl, b_1⟩ := q_1
  refine a_if_ne (tgt := 13) X dX7_print_4 (by decide) (fun h_4 => ?_) (fun h_4 => ?_)
  · replace h := (if_neg h_4).symm.trans h
    refine a_aload_n X dX7_print_13 rfl ?_
    refine a_getr X lf7_47 (by assumption) rfl (by omega) dX7_print_14 ?_
    refine a_aload_n X dX7_print_17 rfl ?_
    refine a_getr X lf7_40 (by assumption) rfl (by omega) dX7_print_18 ?_
    refine a_iload_n X dX7_print_21 rfl ?_
    obtain ⟨e_22, f_22, h⟩ := zBx h
    refine a_callVu X dX7_print_22 miX5_bySeed lm7_247 (t_X5_bySeed (by assumption) (by assumption) f_22) (by assumption) rfl rfl rfl (Nat.le_of_ble_eq_true rfl) ⟨by decide, by decide, by decide, by decide⟩ ?_
    refine a_aload_n X dX7_print_25 rfl ?_
    refine a_iconst (v := 0) X dX7_print_26 (by decide) ?_
    obtain ⟨M_27, f_27, h⟩ := zLtx h
    refine d_puti X lf7_84 (by assumption) rfl dX7_print_27 f_27 ?_
    refine a_iconst (v := 0) X dX7_print_30 (by decide) ?_
    refine a_istore_n X dX7_print_31 (by decide) ?_
    exact Zw.to2 (H_32 _ _ _ _ _ h) rfl rfl rfl
  · replace h := (if_pos h_4).symm.trans h
    refine a_aload_n X dX7_print_7 rfl ?_
    refine a_iconst (v := 1) X dX7_print_8 (by decide) ?_
    obtain ⟨e_9, f_9, h⟩ := zBx h
    refine a_callVv X dX7_print_9 miX7_refuse lm7_102 (t_X7_refuse (by assumption) f_9) (by assumption) rfl rfl rfl (Nat.le_of_ble_eq_true rfl) ⟨by decide, by decide, by decide, by decide⟩ ?_
    refine a_iret X hr dX7_print_12 ⟨by decide, by decide⟩ ?_
    subst hF
    rw [← Option.some.inj h]
    exact ⟨rfl, rfl⟩
noncomputable def D_X7_out_38 (P : Nat) (y0_38 : Int32) (M_38 : zMt) : Option (Int32 × zMt) :=
  some (y0_38, M_38)
noncomputable def D_X7_out (P : Nat) (v0 : Int32) (M : zMt) : Option (Int32 × zMt) :=
  if 0 ≤ v0 then
    if v0 < (M P 2) then
      zB (D_X7_answer P (zrd 0 (M (P + 2)) 50 v0) M) fun e_35 =>
      D_X7_out_38 P e_35.1 e_35.2
    else
      zB (D_X7_refuse P (5 : Int32) M) fun e_20 =>
      D_X7_out_38 P e_20.1 e_20.2
  else
    zB (D_X7_refuse P (1 : Int32) M) fun e_6 =>
    some (e_6.1, e_6.2)
set_option maxRecDepth 100000 in
set_option maxHeartbeats 4000000 in
theorem t_X7_out {l : Launch} {G : zG} {b : Nat} {L : List zC} {M : zMt} {N : zNt} {P : Nat} {v0 : Int32} (hP : LX7 L P) {r : Int32 × zMt} (h : D_X7_out P v0 M = some r) : zM l G b yX7_out cX7_out 2 (some .int) 1 0 0 [.ref P, .int v0] (L, M, N) (fun r2 z => r2 = some (.int r.1) ∧ z = (L, r.2, N)) := by
  refine zM.of miX7_out (Nat.le_of_ble_eq_true rfl) ?_
  intro p e s m args below meth c X hr hname
  generalize hF : ((fun r2 z => r2 = some (.int r.1) ∧ z = (L, r.2, N)) : Option Value → zS → Prop) = FQ
  change Zw p l e { frames := 1, cells := 0, slots := 0, locals := 80 * (1) } s m args below meth c G b 2 (MQ below (zQ G b FQ) args s 0 0 (fun q : Nat => b ≤ q)) 0 0 0 [some (.ref P), some (.int v0)] [] (L, M, N)
  obtain ⟨p_lt, p_o, p_tape, p_out, p_reader, p_list, p_past, p_pool, p_result, p_odds, p_paper, p_trial, p_trialPool, p_trialResult, p_trialOdds⟩ := id hP
  obtain ⟨p_reader_lt, p_reader_o, p_reader_draft, p_reader_text, p_reader_unitNames, p_reader_hunterNames, p_reader_partyNames, p_reader_asked⟩ := id p_reader
  obtain ⟨p_list_lt, p_list_o, p_list_quota, p_list_score, p_list_guest, p_list_party, p_list_wishCount, p_list_wishes, p_list_has⟩ := id p_list
  obtain ⟨p_past_lt, p_past_o, p_past_stood, p_past_stood0, p_past_stood1, p_past_stood2, p_past_stood3, p_past_stood4, p_past_stood5, p_past_stood6, p_past_stood7⟩ := id p_past
  obtain ⟨p_pool_lt, p_pool_o, p_pool_quota, p_pool_preferred, p_pool_forGuests, p_pool_applicantOf, p_pool_size, p_pool_guestCount, p_pool_score, p_pool_tickets, p_pool_bits, p_pool_party, p_pool_wishCount, p_pool_wishes⟩ := id p_pool
  obtain ⟨p_result_lt, p_result_o, p_result_line, p_result_unitOf, p_result_roundOf, p_result_leftTags, p_result_leftGuests, p_result_leftPreferred, p_result_ranked⟩ := id p_result
  obtain ⟨p_odds_lt, p_odds_o, p_odds_sets, p_odds_seen, p_odds_atUnit, p_odds_early, p_odds_result⟩ := id p_odds
  obtain ⟨p_paper_lt, p_paper_o, p_paper_times, p_paper_firstWish, p_paper_dry, p_paper_list, p_paper_pool, p_paper_result⟩ := id p_paper
  obtain ⟨p_trial_lt, p_trial_o, p_trial_quota, p_trial_score, p_trial_guest, p_trial_party, p_trial_wishCount, p_trial_wishes, p_trial_has⟩ := id p_trial
  obtain ⟨p_trialPool_lt, p_trialPool_o, p_trialPool_quota, p_trialPool_preferred, p_trialPool_forGuests, p_trialPool_applicantOf, p_trialPool_size, p_trialPool_guestCount, p_trialPool_score, p_trialPool_tickets, p_trialPool_bits, p_trialPool_party, p_trialPool_wishCount, p_trialPool_wishes⟩ := id p_trialPool
  obtain ⟨p_trialResult_lt, p_trialResult_o, p_trialResult_line, p_trialResult_unitOf, p_trialResult_roundOf, p_trialResult_leftTags, p_trialResult_leftGuests, p_trialResult_leftPreferred, p_trialResult_ranked⟩ := id p_trialResult
  obtain ⟨p_trialOdds_lt, p_trialOdds_o, p_trialOdds_sets, p_trialOdds_seen, p_trialOdds_atUnit, p_trialOdds_early, p_trialOdds_result⟩ := id p_trialOdds
  have J_38 : ∀ (x1_38 : Int32) (y0_38 : Int32) (M_38 : zMt), D_X7_out_38 P y0_38 M_38 = some r → Zw p l e { frames := 1, cells := 0, slots := 0, locals := 80 * (1) } s m args below meth c G b 2 (MQ below (zQ G b FQ) args s 0 0 (fun q : Nat => b ≤ q)) 0 0 38 [some (.ref (P)), some (.int x1_38)] [.int y0_38] (L, M_38, N) := by
    intro x1_38 y0_38 M_38 h
    unfold D_X7_out_38 at h
    refine a_iret X hr dX7_out_38 ⟨by decide, by decide⟩ ?_
    subst hF
    rw [← Option.some.inj h]
    exact ⟨rfl, rfl⟩
  unfold D_X7_out at h
  refine a_iload_n X dX7_out_0 rfl ?_
  refine a_if_ge (tgt := 10) X dX7_out_1 (by decide) (fun h_1 => ?_) (fun h_1 => ?_)
  · replace h := (if_pos h_1).symm.trans h
    refine a_iload_n X dX7_out_10 rfl ?_
    refine a_aload_n X dX7_out_11 rfl ?_
    refine a_geti X lf7_84 (by assumption) rfl dX7_out_12 ?_
    refine a_icmp_lt (tgt := 26) X dX7_out_15 (by decide) (fun h_15 => ?_) (fun h_15 => ?_)
    · replace h := (if_pos h_15).symm.trans h
      refine a_aload_n X dX7_out_26 rfl ?_
      refine a_aload_n X dX7_out_27 rfl ?_
      refine a_getr X lf7_13 (by assumption) rfl (by omega) dX7_out_28 ?_
      refine a_iload_n X dX7_out_31 rfl ?_
      refine a_callSv X dX7_out_32 miX7_cell lm7_175 (c_cell (by assumption) (by first | decide | assumption)) rfl rfl (Nat.le_of_ble_eq_true rfl) ⟨by decide, by decide, by decide, by decide⟩ ?_
      obtain ⟨e_35, f_35, h⟩ := zBx h
      refine a_callVv X dX7_out_35 miX7_answer lm7_134 (t_X7_answer (by assumption) f_35) (by assumption) rfl rfl rfl (Nat.le_of_ble_eq_true rfl) ⟨by decide, by decide, by decide, by decide⟩ ?_
      exact Zw.to2 (J_38 _ _ _ h) rfl rfl rfl
    · replace h := (if_neg h_15).symm.trans h
      refine a_aload_n X dX7_out_18 rfl ?_
      refine a_iconst (v := 5) X dX7_out_19 (by decide) ?_
      obtain ⟨e_20, f_20, h⟩ := zBx h
      refine a_callVv X dX7_out_20 miX7_refuse lm7_102 (t_X7_refuse (by assumption) f_20) (by assumption) rfl rfl rfl (Nat.le_of_ble_eq_true rfl) ⟨by decide, by decide, by decide, by decide⟩ ?_
      refine a_goto (tgt := 38) X dX7_out_23 (by decide) ?_
      exact Zw.to2 (J_38 _ _ _ h) rfl rfl rfl
  · replace h := (if_neg h_1).symm.trans h
    refine a_aload_n X dX7_out_4 rfl ?_
    refine a_iconst (v := 1) X dX7_out_5 (by decide) ?_
    obtain ⟨e_6, f_6, h⟩ := zBx h
    refine a_callVv X dX7_out_6 miX7_refuse lm7_102 (t_X7_refuse (by assumption) f_6) (by assumption) rfl rfl rfl (Nat.le_of_ble_eq_true rfl) ⟨by decide, by decide, by decide, by decide⟩ ?_
    refine a_iret X hr dX7_out_9 ⟨by decide, by decide⟩ ?_
    subst hF
    rw [← Option.some.inj h]
    exact ⟨rfl, rfl⟩
noncomputable def D_X8_status (P : Nat) (M : zMt) : Option (Int32 × zMt) :=
  zLt (zu M P 6 (0 : Int32)) fun M_2 =>
  some ((M_2 P 12), M_2)
set_option maxRecDepth 100000 in
set_option maxHeartbeats 4000000 in
theorem t_X8_status {l : Launch} {G : zG} {b : Nat} {L : List zC} {M : zMt} {N : zNt} {P : Nat}  (hP : LX8 L P) {r : Int32 × zMt} (h : D_X8_status P M = some r) : zM l G b yX8_status cX8_status 1 (some .int) 0 0 0 [.ref P] (L, M, N) (fun r2 z => r2 = some (.int r.1) ∧ z = (L, r.2, N)) := by
  refine zM.of miX8_status (Nat.le_of_ble_eq_true rfl) ?_
  intro p e s m args below meth c X hr hname
  generalize hF : ((fun r2 z => r2 = some (.int r.1) ∧ z = (L, r.2, N)) : Option Value → zS → Prop) = FQ
  change Zw p l e { frames := 0, cells := 0, slots := 0, locals := 80 * (0) } s m args below meth c G b 1 (MQ below (zQ G b FQ) args s 0 0 (fun q : Nat => b ≤ q)) 0 0 0 [some (.ref P)] [] (L, M, N)
  obtain ⟨p_lt, p_o, p_s, p_read, p_aside, p_kept, p_guest, p_readGuest, p_tape, p_unitName, p_hunterName, p_partyName, p_bits, p_partyOf, p_choiceAt, p_sizes, p_guestMany, p_pointsOf, p_ticketsOf, p_ord, p_given, p_roundOf, p_tags, p_guestTags, p_places, p_sumAt, p_sumFirst, p_sumRound, p_sumBoth, p_sumTags, p_isEnd, p_newPoints, p_inRow, p_out⟩ := id hP
  unfold D_X8_status at h
  refine a_aload_n X dX8_status_0 rfl ?_
  refine a_iconst (v := 0) X dX8_status_1 (by decide) ?_
  obtain ⟨M_2, f_2, h⟩ := zLtx h
  refine d_puti X lf8_119 (by assumption) rfl dX8_status_2 f_2 ?_
  refine a_aload_n X dX8_status_5 rfl ?_
  refine a_geti X lf8_122 (by assumption) rfl dX8_status_6 ?_
  refine a_iret X hr dX8_status_9 ⟨by decide, by decide⟩ ?_
  subst hF
  rw [← Option.some.inj h]
  exact ⟨rfl, rfl⟩
noncomputable def D_X8_refuse (P : Nat) (v0 : Int32) (M : zMt) : Option (Int32 × zMt) :=
  zLt (zu M P 6 (0 : Int32)) fun M_2 =>
  zLt (zu M_2 P 12 v0) fun M_7 =>
  some ((-1 : Int32), M_7)
set_option maxRecDepth 100000 in
set_option maxHeartbeats 4000000 in
theorem t_X8_refuse {l : Launch} {G : zG} {b : Nat} {L : List zC} {M : zMt} {N : zNt} {P : Nat} {v0 : Int32} (hP : LX8 L P) {r : Int32 × zMt} (h : D_X8_refuse P v0 M = some r) : zM l G b yX8_refuse cX8_refuse 2 (some .int) 0 0 0 [.ref P, .int v0] (L, M, N) (fun r2 z => r2 = some (.int r.1) ∧ z = (L, r.2, N)) := by
  refine zM.of miX8_refuse (Nat.le_of_ble_eq_true rfl) ?_
  intro p e s m args below meth c X hr hname
  generalize hF : ((fun r2 z => r2 = some (.int r.1) ∧ z = (L, r.2, N)) : Option Value → zS → Prop) = FQ
  change Zw p l e { frames := 0, cells := 0, slots := 0, locals := 80 * (0) } s m args below meth c G b 2 (MQ below (zQ G b FQ) args s 0 0 (fun q : Nat => b ≤ q)) 0 0 0 [some (.ref P), some (.int v0)] [] (L, M, N)
  obtain ⟨p_lt, p_o, p_s, p_read, p_aside, p_kept, p_guest, p_readGuest, p_tape, p_unitName, p_hunterName, p_partyName, p_bits, p_partyOf, p_choiceAt, p_sizes, p_guestMany, p_pointsOf, p_ticketsOf, p_ord, p_given, p_roundOf, p_tags, p_guestTags, p_places, p_sumAt, p_sumFirst, p_sumRound, p_sumBoth, p_sumTags, p_isEnd, p_newPoints, p_inRow, p_out⟩ := id hP
  unfold D_X8_refuse at h
  refine a_aload_n X dX8_refuse_0 rfl ?_
  refine a_iconst (v := 0) X dX8_refuse_1 (by decide) ?_
  obtain ⟨M_2, f_2, h⟩ := zLtx h
  refine d_puti X lf8_119 (by assumption) rfl dX8_refuse_2 f_2 ?_
  refine a_aload_n X dX8_refuse_5 rfl ?_
  refine a_iload_n X dX8_refuse_6 rfl ?_
  obtain ⟨M_7, f_7, h⟩ := zLtx h
  refine d_puti X lf8_122 (by assumption) rfl dX8_refuse_7 f_7 ?_
  refine a_iconst (v := -1) X dX8_refuse_10 (by decide) ?_
  refine a_iret X hr dX8_refuse_11 ⟨by decide, by decide⟩ ?_
  subst hF
  rw [← Option.some.inj h]
  exact ⟨rfl, rfl⟩
noncomputable def D_X8_gives (P : Nat) (v0 : Int32) (M : zMt) : Option (Int32 × zMt) :=
  zLt (zu M P 6 (0 : Int32)) fun M_2 =>
  zLt (zu M_2 P 12 (0 : Int32)) fun M_7 =>
  some (v0, M_7)
set_option maxRecDepth 100000 in
set_option maxHeartbeats 4000000 in
theorem t_X8_gives {l : Launch} {G : zG} {b : Nat} {L : List zC} {M : zMt} {N : zNt} {P : Nat} {v0 : Int32} (hP : LX8 L P) {r : Int32 × zMt} (h : D_X8_gives P v0 M = some r) : zM l G b yX8_gives cX8_gives 2 (some .int) 0 0 0 [.ref P, .int v0] (L, M, N) (fun r2 z => r2 = some (.int r.1) ∧ z = (L, r.2, N)) := by
  refine zM.of miX8_gives (Nat.le_of_ble_eq_true rfl) ?_
  intro p e s m args below meth c X hr hname
  generalize hF : ((fun r2 z => r2 = some (.int r.1) ∧ z = (L, r.2, N)) : Option Value → zS → Prop) = FQ
  change Zw p l e { frames := 0, cells := 0, slots := 0, locals := 80 * (0) } s m args below meth c G b 2 (MQ below (zQ G b FQ) args s 0 0 (fun q : Nat => b ≤ q)) 0 0 0 [some (.ref P), some (.int v0)] [] (L, M, N)
  obtain ⟨p_lt, p_o, p_s, p_read, p_aside, p_kept, p_guest, p_readGuest, p_tape, p_unitName, p_hunterName, p_partyName, p_bits, p_partyOf, p_choiceAt, p_sizes, p_guestMany, p_pointsOf, p_ticketsOf, p_ord, p_given, p_roundOf, p_tags, p_guestTags, p_places, p_sumAt, p_sumFirst, p_sumRound, p_sumBoth, p_sumTags, p_isEnd, p_newPoints, p_inRow, p_out⟩ := id hP
  unfold D_X8_gives at h
  refine a_aload_n X dX8_gives_0 rfl ?_
  refine a_iconst (v := 0) X dX8_gives_1 (by decide) ?_
  obtain ⟨M_2, f_2, h⟩ := zLtx h
  refine d_puti X lf8_119 (by assumption) rfl dX8_gives_2 f_2 ?_
  refine a_aload_n X dX8_gives_5 rfl ?_
  refine a_iconst (v := 0) X dX8_gives_6 (by decide) ?_
  obtain ⟨M_7, f_7, h⟩ := zLtx h
  refine d_puti X lf8_122 (by assumption) rfl dX8_gives_7 f_7 ?_
  refine a_iload_n X dX8_gives_10 rfl ?_
  refine a_iret X hr dX8_gives_11 ⟨by decide, by decide⟩ ?_
  subst hF
  rw [← Option.some.inj h]
  exact ⟨rfl, rfl⟩
noncomputable def D_X8_givesLong (P : Nat) (v0 : Int64) (M : zMt) : Option (Int64 × zMt) :=
  zLt (zu M P 6 (0 : Int32)) fun M_2 =>
  zLt (zu M_2 P 12 (0 : Int32)) fun M_7 =>
  some (v0, M_7)
set_option maxRecDepth 100000 in
set_option maxHeartbeats 4000000 in
theorem t_X8_givesLong {l : Launch} {G : zG} {b : Nat} {L : List zC} {M : zMt} {N : zNt} {P : Nat} {v0 : Int64} (hP : LX8 L P) {r : Int64 × zMt} (h : D_X8_givesLong P v0 M = some r) : zM l G b yX8_givesLong cX8_givesLong 3 (some .long) 0 0 0 [.ref P, .long v0] (L, M, N) (fun r2 z => r2 = some (.long r.1) ∧ z = (L, r.2, N)) := by
  refine zM.of miX8_givesLong (Nat.le_of_ble_eq_true rfl) ?_
  intro p e s m args below meth c X hr hname
  generalize hF : ((fun r2 z => r2 = some (.long r.1) ∧ z = (L, r.2, N)) : Option Value → zS → Prop) = FQ
  change Zw p l e { frames := 0, cells := 0, slots := 0, locals := 80 * (0) } s m args below meth c G b 3 (MQ below (zQ G b FQ) args s 0 0 (fun q : Nat => b ≤ q)) 0 0 0 [some (.ref P), some (.long v0), none] [] (L, M, N)
  obtain ⟨p_lt, p_o, p_s, p_read, p_aside, p_kept, p_guest, p_readGuest, p_tape, p_unitName, p_hunterName, p_partyName, p_bits, p_partyOf, p_choiceAt, p_sizes, p_guestMany, p_pointsOf, p_ticketsOf, p_ord, p_given, p_roundOf, p_tags, p_guestTags, p_places, p_sumAt, p_sumFirst, p_sumRound, p_sumBoth, p_sumTags, p_isEnd, p_newPoints, p_inRow, p_out⟩ := id hP
  unfold D_X8_givesLong at h
  refine a_aload_n X dX8_givesLong_0 rfl ?_
  refine a_iconst (v := 0) X dX8_givesLong_1 (by decide) ?_
  obtain ⟨M_2, f_2, h⟩ := zLtx h
  refine d_puti X lf8_119 (by assumption) rfl dX8_givesLong_2 f_2 ?_
  refine a_aload_n X dX8_givesLong_5 rfl ?_
  refine a_iconst (v := 0) X dX8_givesLong_6 (by decide) ?_
  obtain ⟨M_7, f_7, h⟩ := zLtx h
  refine d_puti X lf8_122 (by assumption) rfl dX8_givesLong_7 f_7 ?_
  refine a_lload_n X dX8_givesLong_10 rfl ?_
  refine a_lret X hr dX8_givesLong_11 ⟨by decide, by decide⟩ ?_
  subst hF
  rw [← Option.some.inj h]
  exact ⟨rfl, rfl⟩
noncomputable def D_X8_isFrom_18  (y0_18 : Int32) : Option (Int32) :=
  some (y0_18)
noncomputable def D_X8_isFrom_17   : Option (Int32) :=
  D_X8_isFrom_18 (0 : Int32)
noncomputable def D_X8_isFrom  (v0 : Int64) (v1 : Int64) (v2 : Int64) : Option (Int32) :=
  if (lg_cmp v0 v1) < 0 then
    D_X8_isFrom_17
  else
    if 0 < (lg_cmp v0 v2) then
      D_X8_isFrom_17
    else
      D_X8_isFrom_18 (1 : Int32)
set_option maxRecDepth 100000 in
set_option maxHeartbeats 4000000 in
theorem t_X8_isFrom {l : Launch} {G : zG} {b : Nat} {L : List zC} {M : zMt} {N : zNt}  {v0 : Int64} {v1 : Int64} {v2 : Int64}  {r : Int32} (h : D_X8_isFrom v0 v1 v2 = some r) : zM l G b yX8_isFrom cX8_isFrom 6 (some .boolean) 0 0 0 [.long v0, .long v1, .long v2] (L, M, N) (fun r2 z => r2 = some (.int r) ∧ z = (L, M, N) ∧ (r = 0 ∨ r = 1)) := by
  refine zM.of miX8_isFrom (Nat.le_of_ble_eq_true rfl) ?_
  intro p e s m args below meth c X hr hname
  generalize hF : ((fun r2 z => r2 = some (.int r) ∧ z = (L, M, N) ∧ (r = 0 ∨ r = 1)) : Option Value → zS → Prop) = FQ
  change Zw p l e { frames := 0, cells := 0, slots := 0, locals := 80 * (0) } s m args below meth c G b 6 (MQ below (zQ G b FQ) args s 0 0 (fun q : Nat => b ≤ q)) 0 0 0 [some (.long v0), none, some (.long v1), none, some (.long v2), none] [] (L, M, N)
  have J_18 : ∀ (x0_18 : Int64) (x2_18 : Int64) (x4_18 : Int64) (y0_18 : Int32), (y0_18 = 0 ∨ y0_18 = 1) → D_X8_isFrom_18 y0_18 = some r → Zw p l e { frames := 0, cells := 0, slots := 0, locals := 80 * (0) } s m args below meth c G b 6 (MQ below (zQ G b FQ) args s 0 0 (fun q : Nat => b ≤ q)) 0 0 18 [some (.long x0_18), none, some (.long x2_18), none, some (.long x4_18), none] [.int y0_18] (L, M, N) := by
    intro x0_18 x2_18 x4_18 y0_18 fb_y0_18 h
    unfold D_X8_isFrom_18 at h
    refine a_zret X (by first | exact Or.inl rfl | exact Or.inr rfl | assumption) hr dX8_isFrom_18 ⟨by decide, by decide⟩ ?_
    subst hF
    rw [← Option.some.inj h]
    exact ⟨rfl, rfl, (by first | exact Or.inl rfl | exact Or.inr rfl | assumption)⟩
  have J_17 : ∀ (x0_17 : Int64) (x2_17 : Int64) (x4_17 : Int64), D_X8_isFrom_17 = some r → Zw p l e { frames := 0, cells := 0, slots := 0, locals := 80 * (0) } s m args below meth c G b 6 (MQ below (zQ G b FQ) args s 0 0 (fun q : Nat => b ≤ q)) 0 0 17 [some (.long x0_17), none, some (.long x2_17), none, some (.long x4_17), none] [] (L, M, N) := by
    intro x0_17 x2_17 x4_17 h
    unfold D_X8_isFrom_17 at h
    refine a_iconst (v := 0) X dX8_isFrom_17 (by decide) ?_
    exact Zw.to2 (J_18 _ _ _ _ (by first | exact Or.inl rfl | exact Or.inr rfl | assumption) h) rfl rfl rfl
  unfold D_X8_isFrom at h
  refine a_lload_n X dX8_isFrom_0 rfl ?_
  refine a_lload_n X dX8_isFrom_1 rfl ?_
  refine a_lcmp X dX8_isFrom_2 ?_
  refine a_if_lt (tgt := 17) X dX8_isFrom_3 (by decide) (fun h_3 => ?_) (fun h_3 => ?_)
  · replace h := (if_pos h_3).symm.trans h
    exact Zw.to2 (J_17 _ _ _ h) rfl rfl rfl
  · replace h := (if_neg h_3).symm.trans h
    refine a_lload_n X dX8_isFrom_6 rfl ?_
    refine a_lload X dX8_isFrom_7 rfl ?_
    refine a_lcmp X dX8_isFrom_9 ?_
    refine a_if_gt (tgt := 17) X dX8_isFrom_10 (by decide) (fun h_10 => ?_) (fun h_10 => ?_)
    · replace h := (if_pos h_10).symm.trans h
      exact Zw.to2 (J_17 _ _ _ h) rfl rfl rfl
    · replace h := (if_neg h_10).symm.trans h
      refine a_iconst (v := 1) X dX8_isFrom_13 (by decide) ?_
      refine a_goto (tgt := 18) X dX8_isFrom_14 (by decide) ?_
      exact Zw.to2 (J_18 _ _ _ _ (by first | exact Or.inl rfl | exact Or.inr rfl | assumption) h) rfl rfl rfl
noncomputable def D_X8_has_14  (y0_14 : Int32) : Option (Int32) :=
  some (y0_14)
noncomputable def D_X8_has  (v0 : Int32) (v1 : Int32) : Option (Int32) :=
  if ((v0 >>> (v1 &&& 31)) &&& (1 : Int32)) = (1 : Int32) then
    D_X8_has_14 (1 : Int32)
  else
    D_X8_has_14 (0 : Int32)
set_option maxRecDepth 100000 in
set_option maxHeartbeats 4000000 in
theorem t_X8_has {l : Launch} {G : zG} {b : Nat} {L : List zC} {M : zMt} {N : zNt}  {v0 : Int32} {v1 : Int32}  {r : Int32} (h : D_X8_has v0 v1 = some r) : zM l G b yX8_has cX8_has 2 (some .boolean) 0 0 0 [.int v0, .int v1] (L, M, N) (fun r2 z => r2 = some (.int r) ∧ z = (L, M, N) ∧ (r = 0 ∨ r = 1)) := by
  refine zM.of miX8_has (Nat.le_of_ble_eq_true rfl) ?_
  intro p e s m args below meth c X hr hname
  generalize hF : ((fun r2 z => r2 = some (.int r) ∧ z = (L, M, N) ∧ (r = 0 ∨ r = 1)) : Option Value → zS → Prop) = FQ
  change Zw p l e { frames := 0, cells := 0, slots := 0, locals := 80 * (0) } s m args below meth c G b 2 (MQ below (zQ G b FQ) args s 0 0 (fun q : Nat => b ≤ q)) 0 0 0 [some (.int v0), some (.int v1)] [] (L, M, N)
  have J_14 : ∀ (x0_14 : Int32) (x1_14 : Int32) (y0_14 : Int32), (y0_14 = 0 ∨ y0_14 = 1) → D_X8_has_14 y0_14 = some r → Zw p l e { frames := 0, cells := 0, slots := 0, locals := 80 * (0) } s m args below meth c G b 2 (MQ below (zQ G b FQ) args s 0 0 (fun q : Nat => b ≤ q)) 0 0 14 [some (.int x0_14), some (.int x1_14)] [.int y0_14] (L, M, N) := by
    intro x0_14 x1_14 y0_14 fb_y0_14 h
    unfold D_X8_has_14 at h
    refine a_zret X (by first | exact Or.inl rfl | exact Or.inr rfl | assumption) hr dX8_has_14 ⟨by decide, by decide⟩ ?_
    subst hF
    rw [← Option.some.inj h]
    exact ⟨rfl, rfl, (by first | exact Or.inl rfl | exact Or.inr rfl | assumption)⟩
  unfold D_X8_has at h
  refine a_iload_n X dX8_has_0 rfl ?_
  refine a_iload_n X dX8_has_1 rfl ?_
  refine a_ishr X dX8_has_2 ?_
  refine a_iconst (v := 1) X dX8_has_3 (by decide) ?_
  refine a_iand X dX8_has_4 ?_
  refine a_iconst (v := 1) X dX8_has_5 (by decide) ?_
  refine a_icmp_ne (tgt := 13) X dX8_has_6 (by decide) (fun h_6 => ?_) (fun h_6 => ?_)
  · replace h := (if_neg h_6).symm.trans h
    refine a_iconst (v := 0) X dX8_has_13 (by decide) ?_
    exact Zw.to2 (J_14 _ _ _ (by first | exact Or.inl rfl | exact Or.inr rfl | assumption) h) rfl rfl rfl
  · replace h := (if_pos h_6).symm.trans h
    refine a_iconst (v := 1) X dX8_has_9 (by decide) ?_
    refine a_goto (tgt := 14) X dX8_has_10 (by decide) ?_
    exact Zw.to2 (J_14 _ _ _ (by first | exact Or.inl rfl | exact Or.inr rfl | assumption) h) rfl rfl rfl
noncomputable def D_X8_common_4  : Nat → Int32 → Int32 → Option (Int32)
  | 0, _, _ => none
  | n + 1, x2_4, x3_4 =>
    if x3_4 = 0 then
      some (x2_4)
    else
      zZ x3_4 <|
      (D_X8_common_4 n) x3_4 (x2_4 - x2_4 / x3_4 * x3_4)
noncomputable def D_X8_common  (v0 : Int32) (v1 : Int32) : Option (Int32) :=
  D_X8_common_4 zFu v0 v1
set_option maxRecDepth 100000 in
set_option maxHeartbeats 4000000 in
theorem t_X8_common {l : Launch} {G : zG} {b : Nat} {L : List zC} {M : zMt} {N : zNt}  {v0 : Int32} {v1 : Int32}  {r : Int32} (h : D_X8_common v0 v1 = some r) : zM l G b yX8_common cX8_common 5 (some .int) 0 0 0 [.int v0, .int v1] (L, M, N) (fun r2 z => r2 = some (.int r) ∧ z = (L, M, N)) := by
  refine zM.of miX8_common (Nat.le_of_ble_eq_true rfl) ?_
  intro p e s m args below meth c X hr hname
  generalize hF : ((fun r2 z => r2 = some (.int r) ∧ z = (L, M, N)) : Option Value → zS → Prop) = FQ
  change Zw p l e { frames := 0, cells := 0, slots := 0, locals := 80 * (0) } s m args below meth c G b 5 (MQ below (zQ G b FQ) args s 0 0 (fun q : Nat => b ≤ q)) 0 0 0 [some (.int v0), some (.int v1), none, none, none] [] (L, M, N)
  have L_4 : ∀ u : Nat, ∀ (x0_4 : Int32) (x1_4 : Int32) (x2_4 : Int32) (x3_4 : Int32) (x4_4 : Option Value), D_X8_common_4 u x2_4 x3_4 = some r → Zw p l e { frames := 0, cells := 0, slots := 0, locals := 80 * (0) } s m args below meth c G b 5 (MQ below (zQ G b FQ) args s 0 0 (fun q : Nat => b ≤ q)) 0 0 4 [some (.int x0_4), some (.int x1_4), some (.int x2_4), some (.int x3_4), x4_4] [] (L, M, N) := by
    intro u
    induction u with
    | zero => intro x0_4 x1_4 x2_4 x3_4 x4_4 h; cases (show none = some r from h)
    | succ u_4 ih_4 =>
      intro x0_4 x1_4 x2_4 x3_4 x4_4 h
      rw [D_X8_common_4] at h
      refine a_iload_n X dX8_common_4 rfl ?_
      refine a_if_eq (tgt := 21) X dX8_common_5 (by decide) (fun h_5 => ?_) (fun h_5 => ?_)
      · replace h := (if_pos h_5).symm.trans h
        refine a_iload_n X dX8_common_21 rfl ?_
        refine a_iret X hr dX8_common_22 ⟨by decide, by decide⟩ ?_
        subst hF
        rw [← Option.some.inj h]
        exact ⟨rfl, rfl⟩
      · replace h := (if_neg h_5).symm.trans h
        refine a_iload_n X dX8_common_8 rfl ?_
        refine a_iload_n X dX8_common_9 rfl ?_
        obtain ⟨z_10, h⟩ := zZx h
        refine a_irem X dX8_common_10 (z_10) ?_
        refine a_istore X dX8_common_11 (by decide) ?_
        refine a_iload_n X dX8_common_13 rfl ?_
        refine a_istore_n X dX8_common_14 (by decide) ?_
        refine a_iload X dX8_common_15 rfl ?_
        refine a_istore_n X dX8_common_17 (by decide) ?_
        refine a_goto (tgt := 4) X dX8_common_18 (by decide) ?_
        exact Zw.to2 (ih_4 _ _ _ _ _ h) rfl rfl rfl
  have H_4 : ∀ (x0_4 : Int32) (x1_4 : Int32) (x2_4 : Int32) (x3_4 : Int32) (x4_4 : Option Value), D_X8_common_4 zFu x2_4 x3_4 = some r → Zw p l e { frames := 0, cells := 0, slots := 0, locals := 80 * (0) } s m args below meth c G b 5 (MQ below (zQ G b FQ) args s 0 0 (fun q : Nat => b ≤ q)) 0 0 4 [some (.int x0_4), some (.int x1_4), some (.int x2_4), some (.int x3_4), x4_4] [] (L, M, N) := L_4 zFu
  unfold D_X8_common at h
  refine a_iload_n X dX8_common_0 rfl ?_
  refine a_istore_n X dX8_common_1 (by decide) ?_
  refine a_iload_n X dX8_common_2 rfl ?_
  refine a_istore_n X dX8_common_3 (by decide) ?_
  exact Zw.to2 (H_4 _ _ _ _ _ h) rfl rfl rfl
noncomputable def D_X8_begins_39 (Q : Nat) (nQ : Nat) : Nat → Int32 → zMt → Option (zMt)
  | 0, _, _ => none
  | n + 1, x1_39, M_39 =>
    if (10 : Int32) ≤ x1_39 then
      zI (69 : Int32) nQ <|
      zLt (zu M_39 Q (69 : Int32).toNatClampNeg (100 : Int32)) fun M_63 =>
      some (M_63)
    else
      zI ((72 : Int32) + x1_39) nQ <|
      zLt (zu M_39 Q ((72 : Int32) + x1_39).toNatClampNeg (-1 : Int32)) fun M_51 =>
      (D_X8_begins_39 Q nQ n) (x1_39 + 1) M_51
noncomputable def D_X8_begins_21 (Q : Nat) (nQ : Nat) : Nat → Int32 → zMt → Option (zMt)
  | 0, _, _ => none
  | n + 1, x1_21, M_21 =>
    if (62 : Int32) ≤ x1_21 then
      D_X8_begins_39 Q nQ zFu (0 : Int32) M_21
    else
      zI x1_21 nQ <|
      zLt (zu M_21 Q x1_21.toNatClampNeg (-1 : Int32)) fun M_30 =>
      (D_X8_begins_21 Q nQ n) (x1_21 + 1) M_30
noncomputable def D_X8_begins_2 (Q : Nat) (nQ : Nat) : Nat → Int32 → zMt → Option (zMt)
  | 0, _, _ => none
  | n + 1, x1_2, M_2 =>
    if (82 : Int32) ≤ x1_2 then
      D_X8_begins_21 Q nQ zFu (10 : Int32) M_2
    else
      zI x1_2 nQ <|
      zLt (zu M_2 Q x1_2.toNatClampNeg (0 : Int32)) fun M_11 =>
      (D_X8_begins_2 Q nQ n) (x1_2 + 1) M_11
noncomputable def D_X8_begins (Q : Nat) (nQ : Nat) (M : zMt) : Option (zMt) :=
  D_X8_begins_2 Q nQ zFu (0 : Int32) M
set_option maxRecDepth 100000 in
set_option maxHeartbeats 4000000 in
theorem t_X8_begins {l : Launch} {G : zG} {b : Nat} {L : List zC} {M : zMt} {N : zNt} {Q : Nat} {nQ : Nat}  (hQ : L[Q]? = some (1, nQ, [])) (lQ : nQ < 2 ^ 31) {r : zMt} (h : D_X8_begins Q nQ M = some r) : zM l G b yX8_begins cX8_begins 2 none 0 0 0 [.ref Q] (L, M, N) (fun r2 z => r2 = none ∧ z = (L, r, N)) := by
  refine zM.of miX8_begins (Nat.le_of_ble_eq_true rfl) ?_
  intro p e s m args below meth c X hr hname
  generalize hF : ((fun r2 z => r2 = none ∧ z = (L, r, N)) : Option Value → zS → Prop) = FQ
  change Zw p l e { frames := 0, cells := 0, slots := 0, locals := 80 * (0) } s m args below meth c G b 2 (MQ below (zQ G b FQ) args s 0 0 (fun q : Nat => b ≤ q)) 0 0 0 [some (.ref Q), none] [] (L, M, N)
  have L_39 : ∀ u : Nat, ∀ (x1_39 : Int32) (M_39 : zMt), D_X8_begins_39 Q nQ u x1_39 M_39 = some r → Zw p l e { frames := 0, cells := 0, slots := 0, locals := 80 * (0) } s m args below meth c G b 2 (MQ below (zQ G b FQ) args s 0 0 (fun q : Nat => b ≤ q)) 0 0 39 [some (.ref (Q)), some (.int x1_39)] [] (L, M_39, N) := by
    intro u
    induction u with
    | zero => intro x1_39 M_39 h; cases (show none = some r from h)
    | succ u_39 ih_39 =>
      intro x1_39 M_39 h
      rw [D_X8_begins_39] at h
      refine a_iload_n X dX8_begins_39 rfl ?_
      refine a_bipush (v := 10) X dX8_begins_40 (by decide) ?_
      refine a_icmp_ge (tgt := 58) X dX8_begins_42 (by decide) (fun h_42 => ?_) (fun h_42 => ?_)
      · replace h := (if_pos h_42).symm.trans h
        refine a_aload_n X dX8_begins_58 rfl ?_
        refine a_bipush (v := 69) X dX8_begins_59 (by decide) ?_
        refine a_bipush (v := 100) X dX8_begins_61 (by decide) ?_
        obtain ⟨g_63, h⟩ := zIx h
        obtain ⟨M_63, f_63, h⟩ := zLtx h
        refine d_iastore X (by assumption) g_63 dX8_begins_63 f_63 ?_
        refine a_vret X hr dX8_begins_64 ⟨by decide, by decide⟩ ?_
        subst hF
        rw [← Option.some.inj h]
        exact ⟨rfl, rfl⟩
      · replace h := (if_neg h_42).symm.trans h
        refine a_aload_n X dX8_begins_45 rfl ?_
        refine a_bipush (v := 72) X dX8_begins_46 (by decide) ?_
        refine a_iload_n X dX8_begins_48 rfl ?_
        refine a_iadd X dX8_begins_49 ?_
        refine a_iconst (v := -1) X dX8_begins_50 (by decide) ?_
        obtain ⟨g_51, h⟩ := zIx h
        obtain ⟨M_51, f_51, h⟩ := zLtx h
        refine d_iastore X (by assumption) g_51 dX8_begins_51 f_51 ?_
        refine a_iinc (v := x1_39 + 1) X dX8_begins_52 (by decide) rfl zi_1 ?_
        refine a_goto (tgt := 39) X dX8_begins_55 (by decide) ?_
        exact Zw.to2 (ih_39 _ _ h) rfl rfl rfl
  have H_39 : ∀ (x1_39 : Int32) (M_39 : zMt), D_X8_begins_39 Q nQ zFu x1_39 M_39 = some r → Zw p l e { frames := 0, cells := 0, slots := 0, locals := 80 * (0) } s m args below meth c G b 2 (MQ below (zQ G b FQ) args s 0 0 (fun q : Nat => b ≤ q)) 0 0 39 [some (.ref (Q)), some (.int x1_39)] [] (L, M_39, N) := L_39 zFu
  have L_21 : ∀ u : Nat, ∀ (x1_21 : Int32) (M_21 : zMt), D_X8_begins_21 Q nQ u x1_21 M_21 = some r → Zw p l e { frames := 0, cells := 0, slots := 0, locals := 80 * (0) } s m args below meth c G b 2 (MQ below (zQ G b FQ) args s 0 0 (fun q : Nat => b ≤ q)) 0 0 21 [some (.ref (Q)), some (.int x1_21)] [] (L, M_21, N) := by
    intro u
    induction u with
    | zero => intro x1_21 M_21 h; cases (show none = some r from h)
    | succ u_21 ih_21 =>
      intro x1_21 M_21 h
      rw [D_X8_begins_21] at h
      refine a_iload_n X dX8_begins_21 rfl ?_
      refine a_bipush (v := 62) X dX8_begins_22 (by decide) ?_
      refine a_icmp_ge (tgt := 37) X dX8_begins_24 (by decide) (fun h_24 => ?_) (fun h_24 => ?_)
      · replace h := (if_pos h_24).symm.trans h
        refine a_iconst (v := 0) X dX8_begins_37 (by decide) ?_
        refine a_istore_n X dX8_begins_38 (by decide) ?_
        exact Zw.to2 (H_39 _ _ h) rfl rfl rfl
      · replace h := (if_neg h_24).symm.trans h
        refine a_aload_n X dX8_begins_27 rfl ?_
        refine a_iload_n X dX8_begins_28 rfl ?_
        refine a_iconst (v := -1) X dX8_begins_29 (by decide) ?_
        obtain ⟨g_30, h⟩ := zIx h
        obtain ⟨M_30, f_30, h⟩ := zLtx h
        refine d_iastore X (by assumption) g_30 dX8_begins_30 f_30 ?_
        refine a_iinc (v := x1_21 + 1) X dX8_begins_31 (by decide) rfl zi_1 ?_
        refine a_goto (tgt := 21) X dX8_begins_34 (by decide) ?_
        exact Zw.to2 (ih_21 _ _ h) rfl rfl rfl
  have H_21 : ∀ (x1_21 : Int32) (M_21 : zMt), D_X8_begins_21 Q nQ zFu x1_21 M_21 = some r → Zw p l e { frames := 0, cells := 0, slots := 0, locals := 80 * (0) } s m args below meth c G b 2 (MQ below (zQ G b FQ) args s 0 0 (fun q : Nat => b ≤ q)) 0 0 21 [some (.ref (Q)), some (.int x1_21)] [] (L, M_21, N) := L_21 zFu
  have L_2 : ∀ u : Nat, ∀ (x1_2 : Int32) (M_2 : zMt), D_X8_begins_2 Q nQ u x1_2 M_2 = some r → Zw p l e { frames := 0, cells := 0, slots := 0, locals := 80 * (0) } s m args below meth c G b 2 (MQ below (zQ G b FQ) args s 0 0 (fun q : Nat => b ≤ q)) 0 0 2 [some (.ref (Q)), some (.int x1_2)] [] (L, M_2, N) := by
    intro u
    induction u with
    | zero => intro x1_2 M_2 h; cases (show none = some r from h)
    | succ u_2 ih_2 =>
      intro x1_2 M_2 h
      rw [D_X8_begins_2] at h
      refine a_iload_n X dX8_begins_2 rfl ?_
      refine a_bipush (v := 82) X dX8_begins_3 (by decide) ?_
      refine a_icmp_ge (tgt := 18) X dX8_begins_5 (by decide) (fun h_5 => ?_) (fun h_5 => ?_)
      · replace h := (if_pos h_5).symm.trans h
        refine a_bipush (v := 10) X dX8_begins_18 (by decide) ?_
        refine a_istore_n X dX8_begins_20 (by decide) ?_
        exact Zw.to2 (H_21 _ _ h) rfl rfl rfl
      · replace h := (if_neg h_5).symm.trans h
        refine a_aload_n X dX8_begins_8 rfl ?_
        refine a_iload_n X dX8_begins_9 rfl ?_
        refine a_iconst (v := 0) X dX8_begins_10 (by decide) ?_
        obtain ⟨g_11, h⟩ := zIx h
        obtain ⟨M_11, f_11, h⟩ := zLtx h
        refine d_iastore X (by assumption) g_11 dX8_begins_11 f_11 ?_
        refine a_iinc (v := x1_2 + 1) X dX8_begins_12 (by decide) rfl zi_1 ?_
        refine a_goto (tgt := 2) X dX8_begins_15 (by decide) ?_
        exact Zw.to2 (ih_2 _ _ h) rfl rfl rfl
  have H_2 : ∀ (x1_2 : Int32) (M_2 : zMt), D_X8_begins_2 Q nQ zFu x1_2 M_2 = some r → Zw p l e { frames := 0, cells := 0, slots := 0, locals := 80 * (0) } s m args below meth c G b 2 (MQ below (zQ G b FQ) args s 0 0 (fun q : Nat => b ≤ q)) 0 0 2 [some (.ref (Q)), some (.int x1_2)] [] (L, M_2, N) := L_2 zFu
  unfold D_X8_begins at h
  refine a_iconst (v := 0) X dX8_begins_0 (by decide) ?_
  refine a_istore_n X dX8_begins_1 (by decide) ?_
  exact Zw.to2 (H_2 _ _ h) rfl rfl rfl
noncomputable def D_X8_isUnit (P : Nat) (M : zMt) (v0 : Int32) : Option (Int32) :=
  zB (D_X8_isFrom (Int32.toInt64 v0) (0 : Int64) (Int32.toInt64 ((M P 7) - (1 : Int32)))) fun e_10 =>
  some (e_10)
set_option maxRecDepth 100000 in
set_option maxHeartbeats 4000000 in
theorem t_X8_isUnit {l : Launch} {G : zG} {b : Nat} {L : List zC} {M : zMt} {N : zNt} {P : Nat} {v0 : Int32} (hP : LX8 L P) {r : Int32} (h : D_X8_isUnit P M v0 = some r) : zM l G b yX8_isUnit cX8_isUnit 2 (some .boolean) 1 0 0 [.ref P, .int v0] (L, M, N) (fun r2 z => r2 = some (.int r) ∧ z = (L, M, N) ∧ (r = 0 ∨ r = 1)) := by
  refine zM.of miX8_isUnit (Nat.le_of_ble_eq_true rfl) ?_
  intro p e s m args below meth c X hr hname
  generalize hF : ((fun r2 z => r2 = some (.int r) ∧ z = (L, M, N) ∧ (r = 0 ∨ r = 1)) : Option Value → zS → Prop) = FQ
  change Zw p l e { frames := 1, cells := 0, slots := 0, locals := 80 * (1) } s m args below meth c G b 2 (MQ below (zQ G b FQ) args s 0 0 (fun q : Nat => b ≤ q)) 0 0 0 [some (.ref P), some (.int v0)] [] (L, M, N)
  obtain ⟨p_lt, p_o, p_s, p_read, p_aside, p_kept, p_guest, p_readGuest, p_tape, p_unitName, p_hunterName, p_partyName, p_bits, p_partyOf, p_choiceAt, p_sizes, p_guestMany, p_pointsOf, p_ticketsOf, p_ord, p_given, p_roundOf, p_tags, p_guestTags, p_places, p_sumAt, p_sumFirst, p_sumRound, p_sumBoth, p_sumTags, p_isEnd, p_newPoints, p_inRow, p_out⟩ := id hP
  unfold D_X8_isUnit at h
  refine a_iload_n X dX8_isUnit_0 rfl ?_
  refine a_i2l X dX8_isUnit_1 ?_
  refine a_lconst (v := 0) X dX8_isUnit_2 (by decide) ?_
  refine a_aload_n X dX8_isUnit_3 rfl ?_
  refine a_geti X lf8_125 (by assumption) rfl dX8_isUnit_4 ?_
  refine a_iconst (v := 1) X dX8_isUnit_7 (by decide) ?_
  refine a_isub X dX8_isUnit_8 ?_
  refine a_i2l X dX8_isUnit_9 ?_
  obtain ⟨e_10, f_10, h⟩ := zBx h
  refine a_callSx X dX8_isUnit_10 miX8_isFrom lm8_128 (t_X8_isFrom f_10) rfl rfl (Nat.le_of_ble_eq_true rfl) ⟨by decide, by decide, by decide, by decide⟩ (fun r_10 S_10 q_10 => ?_)
  obtain ⟨rfl, rfl, b_10⟩ := q_10
  refine a_zret X (by first | exact Or.inl rfl | exact Or.inr rfl | assumption) hr dX8_isUnit_13 ⟨by decide, by decide⟩ ?_
  subst hF
  rw [← Option.some.inj h]
  exact ⟨rfl, rfl, (by first | exact Or.inl rfl | exact Or.inr rfl | assumption)⟩
noncomputable def D_X8_isHunter (P : Nat) (M : zMt) (v0 : Int32) : Option (Int32) :=
  zB (D_X8_isFrom (Int32.toInt64 v0) (0 : Int64) (Int32.toInt64 ((M P 8) - (1 : Int32)))) fun e_10 =>
  some (e_10)
set_option maxRecDepth 100000 in
set_option maxHeartbeats 4000000 in
theorem t_X8_isHunter {l : Launch} {G : zG} {b : Nat} {L : List zC} {M : zMt} {N : zNt} {P : Nat} {v0 : Int32} (hP : LX8 L P) {r : Int32} (h : D_X8_isHunter P M v0 = some r) : zM l G b yX8_isHunter cX8_isHunter 2 (some .boolean) 1 0 0 [.ref P, .int v0] (L, M, N) (fun r2 z => r2 = some (.int r) ∧ z = (L, M, N) ∧ (r = 0 ∨ r = 1)) := by
  refine zM.of miX8_isHunter (Nat.le_of_ble_eq_true rfl) ?_
  intro p e s m args below meth c X hr hname
  generalize hF : ((fun r2 z => r2 = some (.int r) ∧ z = (L, M, N) ∧ (r = 0 ∨ r = 1)) : Option Value → zS → Prop) = FQ
  change Zw p l e { frames := 1, cells := 0, slots := 0, locals := 80 * (1) } s m args below meth c G b 2 (MQ below (zQ G b FQ) args s 0 0 (fun q : Nat => b ≤ q)) 0 0 0 [some (.ref P), some (.int v0)] [] (L, M, N)
  obtain ⟨p_lt, p_o, p_s, p_read, p_aside, p_kept, p_guest, p_readGuest, p_tape, p_unitName, p_hunterName, p_partyName, p_bits, p_partyOf, p_choiceAt, p_sizes, p_guestMany, p_pointsOf, p_ticketsOf, p_ord, p_given, p_roundOf, p_tags, p_guestTags, p_places, p_sumAt, p_sumFirst, p_sumRound, p_sumBoth, p_sumTags, p_isEnd, p_newPoints, p_inRow, p_out⟩ := id hP
  unfold D_X8_isHunter at h
  refine a_iload_n X dX8_isHunter_0 rfl ?_
  refine a_i2l X dX8_isHunter_1 ?_
  refine a_lconst (v := 0) X dX8_isHunter_2 (by decide) ?_
  refine a_aload_n X dX8_isHunter_3 rfl ?_
  refine a_geti X lf8_132 (by assumption) rfl dX8_isHunter_4 ?_
  refine a_iconst (v := 1) X dX8_isHunter_7 (by decide) ?_
  refine a_isub X dX8_isHunter_8 ?_
  refine a_i2l X dX8_isHunter_9 ?_
  obtain ⟨e_10, f_10, h⟩ := zBx h
  refine a_callSx X dX8_isHunter_10 miX8_isFrom lm8_128 (t_X8_isFrom f_10) rfl rfl (Nat.le_of_ble_eq_true rfl) ⟨by decide, by decide, by decide, by decide⟩ (fun r_10 S_10 q_10 => ?_)
  obtain ⟨rfl, rfl, b_10⟩ := q_10
  refine a_zret X (by first | exact Or.inl rfl | exact Or.inr rfl | assumption) hr dX8_isHunter_13 ⟨by decide, by decide⟩ ?_
  subst hF
  rw [← Option.some.inj h]
  exact ⟨rfl, rfl, (by first | exact Or.inl rfl | exact Or.inr rfl | assumption)⟩
noncomputable def D_X8_isParty (P : Nat) (M : zMt) (v0 : Int32) : Option (Int32) :=
  zI (70 : Int32) 82 <|
  zB (D_X8_isFrom (Int32.toInt64 v0) (0 : Int64) (Int32.toInt64 ((M (P + 1) (70 : Int32).toNatClampNeg) - (1 : Int32)))) fun e_13 =>
  some (e_13)
set_option maxRecDepth 100000 in
set_option maxHeartbeats 4000000 in
theorem t_X8_isParty {l : Launch} {G : zG} {b : Nat} {L : List zC} {M : zMt} {N : zNt} {P : Nat} {v0 : Int32} (hP : LX8 L P) {r : Int32} (h : D_X8_isParty P M v0 = some r) : zM l G b yX8_isParty cX8_isParty 2 (some .boolean) 1 0 0 [.ref P, .int v0] (L, M, N) (fun r2 z => r2 = some (.int r) ∧ z = (L, M, N) ∧ (r = 0 ∨ r = 1)) := by
  refine zM.of miX8_isParty (Nat.le_of_ble_eq_true rfl) ?_
  intro p e s m args below meth c X hr hname
  generalize hF : ((fun r2 z => r2 = some (.int r) ∧ z = (L, M, N) ∧ (r = 0 ∨ r = 1)) : Option Value → zS → Prop) = FQ
  change Zw p l e { frames := 1, cells := 0, slots := 0, locals := 80 * (1) } s m args below meth c G b 2 (MQ below (zQ G b FQ) args s 0 0 (fun q : Nat => b ≤ q)) 0 0 0 [some (.ref P), some (.int v0)] [] (L, M, N)
  obtain ⟨p_lt, p_o, p_s, p_read, p_aside, p_kept, p_guest, p_readGuest, p_tape, p_unitName, p_hunterName, p_partyName, p_bits, p_partyOf, p_choiceAt, p_sizes, p_guestMany, p_pointsOf, p_ticketsOf, p_ord, p_given, p_roundOf, p_tags, p_guestTags, p_places, p_sumAt, p_sumFirst, p_sumRound, p_sumBoth, p_sumTags, p_isEnd, p_newPoints, p_inRow, p_out⟩ := id hP
  unfold D_X8_isParty at h
  refine a_iload_n X dX8_isParty_0 rfl ?_
  refine a_i2l X dX8_isParty_1 ?_
  refine a_lconst (v := 0) X dX8_isParty_2 (by decide) ?_
  refine a_aload_n X dX8_isParty_3 rfl ?_
  refine a_getr X lf8_7 (by assumption) rfl (by omega) dX8_isParty_4 ?_
  refine a_bipush (v := 70) X dX8_isParty_7 (by decide) ?_
  obtain ⟨g_9, h⟩ := zIx h
  refine a_iaload X (by assumption) g_9 dX8_isParty_9 ?_
  refine a_iconst (v := 1) X dX8_isParty_10 (by decide) ?_
  refine a_isub X dX8_isParty_11 ?_
  refine a_i2l X dX8_isParty_12 ?_
  obtain ⟨e_13, f_13, h⟩ := zBx h
  refine a_callSx X dX8_isParty_13 miX8_isFrom lm8_128 (t_X8_isFrom f_13) rfl rfl (Nat.le_of_ble_eq_true rfl) ⟨by decide, by decide, by decide, by decide⟩ (fun r_13 S_13 q_13 => ?_)
  obtain ⟨rfl, rfl, b_13⟩ := q_13
  refine a_zret X (by first | exact Or.inl rfl | exact Or.inr rfl | assumption) hr dX8_isParty_16 ⟨by decide, by decide⟩ ?_
  subst hF
  rw [← Option.some.inj h]
  exact ⟨rfl, rfl, (by first | exact Or.inl rfl | exact Or.inr rfl | assumption)⟩
noncomputable def D_X8_isSeed  (v0 : Int32) : Option (Int32) :=
  zB (D_X8_isFrom (Int32.toInt64 v0) (0 : Int64) (999999999 : Int64)) fun e_6 =>
  some (e_6)
set_option maxRecDepth 100000 in
set_option maxHeartbeats 4000000 in
theorem t_X8_isSeed {l : Launch} {G : zG} {b : Nat} {L : List zC} {M : zMt} {N : zNt}  {v0 : Int32}  {r : Int32} (h : D_X8_isSeed v0 = some r) : zM l G b yX8_isSeed cX8_isSeed 1 (some .boolean) 1 0 0 [.int v0] (L, M, N) (fun r2 z => r2 = some (.int r) ∧ z = (L, M, N) ∧ (r = 0 ∨ r = 1)) := by
  refine zM.of miX8_isSeed (Nat.le_of_ble_eq_true rfl) ?_
  intro p e s m args below meth c X hr hname
  generalize hF : ((fun r2 z => r2 = some (.int r) ∧ z = (L, M, N) ∧ (r = 0 ∨ r = 1)) : Option Value → zS → Prop) = FQ
  change Zw p l e { frames := 1, cells := 0, slots := 0, locals := 80 * (1) } s m args below meth c G b 1 (MQ below (zQ G b FQ) args s 0 0 (fun q : Nat => b ≤ q)) 0 0 0 [some (.int v0)] [] (L, M, N)
  unfold D_X8_isSeed at h
  refine a_iload_n X dX8_isSeed_0 rfl ?_
  refine a_i2l X dX8_isSeed_1 ?_
  refine a_lconst (v := 0) X dX8_isSeed_2 (by decide) ?_
  refine a_ldc2 X dX8_isSeed_3 lk8_135 ?_
  obtain ⟨e_6, f_6, h⟩ := zBx h
  refine a_callSx X dX8_isSeed_6 miX8_isFrom lm8_128 (t_X8_isFrom f_6) rfl rfl (Nat.le_of_ble_eq_true rfl) ⟨by decide, by decide, by decide, by decide⟩ (fun r_6 S_6 q_6 => ?_)
  obtain ⟨rfl, rfl, b_6⟩ := q_6
  refine a_zret X (by first | exact Or.inl rfl | exact Or.inr rfl | assumption) hr dX8_isSeed_9 ⟨by decide, by decide⟩ ?_
  subst hF
  rw [← Option.some.inj h]
  exact ⟨rfl, rfl, (by first | exact Or.inl rfl | exact Or.inr rfl | assumption)⟩
