noncomputable def D_X7_prefer_10 (P : Nat) (M_10 : zMt) : Option (Int32 × zMt) :=
  zB (D_X7_refuse P (1 : Int32) M_10) fun e_12 =>
  some (e_12.1, e_12.2)
noncomputable def D_X7_prefer (P : Nat) (v0 : Int32) (M : zMt) : Option (Int32 × zMt) :=
  if v0 < 0 then
    D_X7_prefer_10 P M
  else
    if v0 ≤ (100 : Int32) then
      if (M (P + 17) 4) = v0 then
        zB (D_X7_refuse P (4 : Int32) M) fun e_31 =>
        some (e_31.1, e_31.2)
      else
        zB (D_X1_keep (P + 25) (P + 17) M) fun e_43 =>
        zLt (zu e_43 (P + 17) 4 v0) fun M_51 =>
        zB (D_X7_changed P (M (P + 17) 4) M_51) fun e_56 =>
        some (e_56.1, e_56.2)
    else
      D_X7_prefer_10 P M
set_option maxRecDepth 100000 in
set_option maxHeartbeats 4000000 in
theorem t_X7_prefer {l : Launch} {G : zG} {b : Nat} {L : List zC} {M : zMt} {N : zNt} {P : Nat} {v0 : Int32} (hP : LX7 L P) {r : Int32 × zMt} (h : D_X7_prefer P v0 M = some r) : zM l G b yX7_prefer cX7_prefer 3 (some .int) 4 0 0 [.ref P, .int v0] (L, M, N) (fun r2 z => r2 = some (.int r.1) ∧ z = (L, r.2, N)) := by
  refine zM.of miX7_prefer (Nat.le_of_ble_eq_true rfl) ?_
  intro p e s m args below meth c X hr hname
  generalize hF : ((fun r2 z => r2 = some (.int r.1) ∧ z = (L, r.2, N)) : Option Value → zS → Prop) = FQ
  change Zw p l e { frames := 4, cells := 0, slots := 0, locals := 80 * (4) } s m args below meth c G b 3 (MQ below (zQ G b FQ) args s 0 0 (fun q : Nat => b ≤ q)) 0 0 0 [some (.ref P), some (.int v0), none] [] (L, M, N)
  obtain ⟨p_lt, p_o, p_tape, p_out, p_reader, p_list, p_past, p_pool, p_result, p_odds, p_paper, p_trial, p_trialPool, p_trialResult, p_trialOdds⟩ := id hP
  obtain ⟨p_reader_lt, p_reader_o, p_reader_draft, p_reader_text, p_reader_unitNames, p_reader_hunterNames, p_reader_partyNames, p_reader_asked⟩ := id p_reader
  obtain ⟨p_list_lt, p_list_o, p_list_quota, p_list_score, p_list_guest, p_list_party, p_list_wishCount, p_list_wishes, p_list_has⟩ := id p_list
  obtain ⟨p_past_lt, p_past_o, p_past_stood, p_past_stood0, p_past_stood1, p_past_stood2, p_past_stood3, p_past_stood4, p_past_stood5, p_past_stood6, p_past_stood7⟩ := id p_past
  obtain ⟨p_pool_lt, p_pool_o, p_pool_quota, p_pool_preferred, p_pool_forGuests, p_pool_applicantOf, p_pool_size, p_pool_guestCount, p_pool_score, p_pool_tickets, p_pool_bits, p_pool_party, p_pool_wishCount, p_pool_wishes⟩ := id p_pool
  obtain ⟨p_result_lt, p_result_o, p_result_line, p_result_unitOf, p_result_roundOf, p_result_leftTags, p_result_leftGuests, p_result_leftPreferred, p_result_ranked⟩ := id p_result
  obtain ⟨p_odds_lt, p_odds_o, p_odds_sets, p_odds_seen, p_odds_atUnit, p_odds_early, p_odds_result⟩ := id p_odds
  obtain ⟨p_paper_lt, p_paper_o, p_paper_times, p_paper_firstWish, p_paper_dry, p_paper_list, p_paper_pool, p_paper_result⟩ := id p_paper
  obtain ⟨p_trial_lt, p_trial_o, p_trial_quota, p_trial_score, p_trial_guest, p_trial_party, p_trial_wishCount, p_trial_wishes, p_trial_has⟩ := id p_trial
  obtain ⟨p_trialPool_lt, p_trialPool_o, p_trialPool_quota, p_trialPool_preferred, p_trialPool_forGuests, p_trialPool_applicantOf, p_trialPool_size, p_trialPool_guestCount, p_trialPool_score, p_trialPool_tickets, p_trialPool_bits, p_trialPool_party, p_trialPool_wishCount, p_trialPool_wishes⟩ := id p_trialPool
  obtain ⟨p_trialResult_lt, p_trialResult_o, p_trialResult_line, p_trialResult_unitOf, p_trialResult_roundOf, p_trialResult_leftTags, p_trialResult_leftGuests, p_trialResult_leftPreferred, p_trialResult_ranked⟩ := id p_trialResult
  obtain ⟨p_trialOdds_lt, p_trialOdds_o, p_trialOdds_sets, p_trialOdds_seen, p_trialOdds_atUnit, p_trialOdds_early, p_trialOdds_result⟩ := id p_trialOdds
  have J_10 : ∀ (x1_10 : Int32) (x2_10 : Option Value) (M_10 : zMt), D_X7_prefer_10 P M_10 = some r → Zw p l e { frames := 4, cells := 0, slots := 0, locals := 80 * (4) } s m args below meth c G b 3 (MQ below (zQ G b FQ) args s 0 0 (fun q : Nat => b ≤ q)) 0 0 10 [some (.ref (P)), some (.int x1_10), x2_10] [] (L, M_10, N) := by
    intro x1_10 x2_10 M_10 h
    unfold D_X7_prefer_10 at h
    refine a_aload_n X dX7_prefer_10 rfl ?_
    refine a_iconst (v := 1) X dX7_prefer_11 (by decide) ?_
    obtain ⟨e_12, f_12, h⟩ := zBx h
    refine a_callVv X dX7_prefer_12 miX7_refuse lm7_102 (t_X7_refuse (by assumption) f_12) (by assumption) rfl rfl rfl (Nat.le_of_ble_eq_true rfl) ⟨by decide, by decide, by decide, by decide⟩ ?_
    refine a_iret X hr dX7_prefer_15 ⟨by decide, by decide⟩ ?_
    subst hF
    rw [← Option.some.inj h]
    exact ⟨rfl, rfl⟩
  unfold D_X7_prefer at h
  refine a_iload_n X dX7_prefer_0 rfl ?_
  refine a_if_lt (tgt := 10) X dX7_prefer_1 (by decide) (fun h_1 => ?_) (fun h_1 => ?_)
  · replace h := (if_pos h_1).symm.trans h
    exact Zw.to2 (J_10 _ _ _ h) rfl rfl rfl
  · replace h := (if_neg h_1).symm.trans h
    refine a_iload_n X dX7_prefer_4 rfl ?_
    refine a_bipush (v := 100) X dX7_prefer_5 (by decide) ?_
    refine a_icmp_le (tgt := 16) X dX7_prefer_7 (by decide) (fun h_7 => ?_) (fun h_7 => ?_)
    · replace h := (if_pos h_7).symm.trans h
      refine a_aload_n X dX7_prefer_16 rfl ?_
      refine a_getr X lf7_26 (by assumption) rfl (by omega) dX7_prefer_17 ?_
      refine a_geti X lf7_146 (by assumption) rfl dX7_prefer_20 ?_
      refine a_istore_n X dX7_prefer_23 (by decide) ?_
      refine a_iload_n X dX7_prefer_24 rfl ?_
      refine a_iload_n X dX7_prefer_25 rfl ?_
      refine a_icmp_ne (tgt := 35) X dX7_prefer_26 (by decide) (fun h_26 => ?_) (fun h_26 => ?_)
      · replace h := (if_neg h_26).symm.trans h
        refine a_aload_n X dX7_prefer_35 rfl ?_
        refine a_getr X lf7_33 (by assumption) rfl (by omega) dX7_prefer_36 ?_
        refine a_aload_n X dX7_prefer_39 rfl ?_
        refine a_getr X lf7_26 (by assumption) rfl (by omega) dX7_prefer_40 ?_
        obtain ⟨e_43, f_43, h⟩ := zBx h
        refine a_callVu X dX7_prefer_43 miX1_keep lm7_396 (t_X1_keep (by assumption) (by assumption) (by omega) f_43) (by assumption) rfl rfl rfl (Nat.le_of_ble_eq_true rfl) ⟨by decide, by decide, by decide, by decide⟩ ?_
        refine a_aload_n X dX7_prefer_46 rfl ?_
        refine a_getr X lf7_26 (by assumption) rfl (by omega) dX7_prefer_47 ?_
        refine a_iload_n X dX7_prefer_50 rfl ?_
        obtain ⟨M_51, f_51, h⟩ := zLtx h
        refine d_puti X lf7_146 (by assumption) rfl dX7_prefer_51 f_51 ?_
        refine a_aload_n X dX7_prefer_54 rfl ?_
        refine a_iload_n X dX7_prefer_55 rfl ?_
        obtain ⟨e_56, f_56, h⟩ := zBx h
        refine a_callVv X dX7_prefer_56 miX7_changed lm7_122 (t_X7_changed (by assumption) f_56) (by assumption) rfl rfl rfl (Nat.le_of_ble_eq_true rfl) ⟨by decide, by decide, by decide, by decide⟩ ?_
        refine a_iret X hr dX7_prefer_59 ⟨by decide, by decide⟩ ?_
        subst hF
        rw [← Option.some.inj h]
        exact ⟨rfl, rfl⟩
      · replace h := (if_pos h_26).symm.trans h
        refine a_aload_n X dX7_prefer_29 rfl ?_
        refine a_iconst (v := 4) X dX7_prefer_30 (by decide) ?_
        obtain ⟨e_31, f_31, h⟩ := zBx h
        refine a_callVv X dX7_prefer_31 miX7_refuse lm7_102 (t_X7_refuse (by assumption) f_31) (by assumption) rfl rfl rfl (Nat.le_of_ble_eq_true rfl) ⟨by decide, by decide, by decide, by decide⟩ ?_
        refine a_iret X hr dX7_prefer_34 ⟨by decide, by decide⟩ ?_
        subst hF
        rw [← Option.some.inj h]
        exact ⟨rfl, rfl⟩
    · replace h := (if_neg h_7).symm.trans h
      exact Zw.to2 (J_10 _ _ _ h) rfl rfl rfl
noncomputable def D_X7_guests_10 (P : Nat) (M_10 : zMt) : Option (Int32 × zMt) :=
  zB (D_X7_refuse P (1 : Int32) M_10) fun e_12 =>
  some (e_12.1, e_12.2)
noncomputable def D_X7_guests (P : Nat) (v0 : Int32) (M : zMt) : Option (Int32 × zMt) :=
  if v0 < 0 then
    D_X7_guests_10 P M
  else
    if v0 ≤ (100 : Int32) then
      if (M (P + 17) 5) = v0 then
        zB (D_X7_refuse P (4 : Int32) M) fun e_31 =>
        some (e_31.1, e_31.2)
      else
        zB (D_X1_keep (P + 25) (P + 17) M) fun e_43 =>
        zLt (zu e_43 (P + 17) 5 v0) fun M_51 =>
        zB (D_X7_changed P (M (P + 17) 5) M_51) fun e_56 =>
        some (e_56.1, e_56.2)
    else
      D_X7_guests_10 P M
set_option maxRecDepth 100000 in
set_option maxHeartbeats 4000000 in
theorem t_X7_guests {l : Launch} {G : zG} {b : Nat} {L : List zC} {M : zMt} {N : zNt} {P : Nat} {v0 : Int32} (hP : LX7 L P) {r : Int32 × zMt} (h : D_X7_guests P v0 M = some r) : zM l G b yX7_guests cX7_guests 3 (some .int) 4 0 0 [.ref P, .int v0] (L, M, N) (fun r2 z => r2 = some (.int r.1) ∧ z = (L, r.2, N)) := by
  refine zM.of miX7_guests (Nat.le_of_ble_eq_true rfl) ?_
  intro p e s m args below meth c X hr hname
  generalize hF : ((fun r2 z => r2 = some (.int r.1) ∧ z = (L, r.2, N)) : Option Value → zS → Prop) = FQ
  change Zw p l e { frames := 4, cells := 0, slots := 0, locals := 80 * (4) } s m args below meth c G b 3 (MQ below (zQ G b FQ) args s 0 0 (fun q : Nat => b ≤ q)) 0 0 0 [some (.ref P), some (.int v0), none] [] (L, M, N)
  obtain ⟨p_lt, p_o, p_tape, p_out, p_reader, p_list, p_past, p_pool, p_result, p_odds, p_paper, p_trial, p_trialPool, p_trialResult, p_trialOdds⟩ := id hP
  obtain ⟨p_reader_lt, p_reader_o, p_reader_draft, p_reader_text, p_reader_unitNames, p_reader_hunterNames, p_reader_partyNames, p_reader_asked⟩ := id p_reader
  obtain ⟨p_list_lt, p_list_o, p_list_quota, p_list_score, p_list_guest, p_list_party, p_list_wishCount, p_list_wishes, p_list_has⟩ := id p_list
  obtain ⟨p_past_lt, p_past_o, p_past_stood, p_past_stood0, p_past_stood1, p_past_stood2, p_past_stood3, p_past_stood4, p_past_stood5, p_past_stood6, p_past_stood7⟩ := id p_past
  obtain ⟨p_pool_lt, p_pool_o, p_pool_quota, p_pool_preferred, p_pool_forGuests, p_pool_applicantOf, p_pool_size, p_pool_guestCount, p_pool_score, p_pool_tickets, p_pool_bits, p_pool_party, p_pool_wishCount, p_pool_wishes⟩ := id p_pool
  obtain ⟨p_result_lt, p_result_o, p_result_line, p_result_unitOf, p_result_roundOf, p_result_leftTags, p_result_leftGuests, p_result_leftPreferred, p_result_ranked⟩ := id p_result
  obtain ⟨p_odds_lt, p_odds_o, p_odds_sets, p_odds_seen, p_odds_atUnit, p_odds_early, p_odds_result⟩ := id p_odds
  obtain ⟨p_paper_lt, p_paper_o, p_paper_times, p_paper_firstWish, p_paper_dry, p_paper_list, p_paper_pool, p_paper_result⟩ := id p_paper
  obtain ⟨p_trial_lt, p_trial_o, p_trial_quota, p_trial_score, p_trial_guest, p_trial_party, p_trial_wishCount, p_trial_wishes, p_trial_has⟩ := id p_trial
  obtain ⟨p_trialPool_lt, p_trialPool_o, p_trialPool_quota, p_trialPool_preferred, p_trialPool_forGuests, p_trialPool_applicantOf, p_trialPool_size, p_trialPool_guestCount, p_trialPool_score, p_trialPool_tickets, p_trialPool_bits, p_trialPool_party, p_trialPool_wishCount, p_trialPool_wishes⟩ := id p_trialPool
  obtain ⟨p_trialResult_lt, p_trialResult_o, p_trialResult_line, p_trialResult_unitOf, p_trialResult_roundOf, p_trialResult_leftTags, p_trialResult_leftGuests, p_trialResult_leftPreferred, p_trialResult_ranked⟩ := id p_trialResult
  obtain ⟨p_trialOdds_lt, p_trialOdds_o, p_trialOdds_sets, p_trialOdds_seen, p_trialOdds_atUnit, p_trialOdds_early, p_trialOdds_result⟩ := id p_trialOdds
  have J_10 : ∀ (x1_10 : Int32) (x2_10 : Option Value) (M_10 : zMt), D_X7_guests_10 P M_10 = some r → Zw p l e { frames := 4, cells := 0, slots := 0, locals := 80 * (4) } s m args below meth c G b 3 (MQ below (zQ G b FQ) args s 0 0 (fun q : Nat => b ≤ q)) 0 0 10 [some (.ref (P)), some (.int x1_10), x2_10] [] (L, M_10, N) := by
    intro x1_10 x2_10 M_10 h
    unfold D_X7_guests_10 at h
    refine a_aload_n X dX7_guests_10 rfl ?_
    refine a_iconst (v := 1) X dX7_guests_11 (by decide) ?_
    obtain ⟨e_12, f_12, h⟩ := zBx h
    refine a_callVv X dX7_guests_12 miX7_refuse lm7_102 (t_X7_refuse (by assumption) f_12) (by assumption) rfl rfl rfl (Nat.le_of_ble_eq_true rfl) ⟨by decide, by decide, by decide, by decide⟩ ?_
    refine a_iret X hr dX7_guests_15 ⟨by decide, by decide⟩ ?_
    subst hF
    rw [← Option.some.inj h]
    exact ⟨rfl, rfl⟩
  unfold D_X7_guests at h
  refine a_iload_n X dX7_guests_0 rfl ?_
  refine a_if_lt (tgt := 10) X dX7_guests_1 (by decide) (fun h_1 => ?_) (fun h_1 => ?_)
  · replace h := (if_pos h_1).symm.trans h
    exact Zw.to2 (J_10 _ _ _ h) rfl rfl rfl
  · replace h := (if_neg h_1).symm.trans h
    refine a_iload_n X dX7_guests_4 rfl ?_
    refine a_bipush (v := 100) X dX7_guests_5 (by decide) ?_
    refine a_icmp_le (tgt := 16) X dX7_guests_7 (by decide) (fun h_7 => ?_) (fun h_7 => ?_)
    · replace h := (if_pos h_7).symm.trans h
      refine a_aload_n X dX7_guests_16 rfl ?_
      refine a_getr X lf7_26 (by assumption) rfl (by omega) dX7_guests_17 ?_
      refine a_geti X lf7_149 (by assumption) rfl dX7_guests_20 ?_
      refine a_istore_n X dX7_guests_23 (by decide) ?_
      refine a_iload_n X dX7_guests_24 rfl ?_
      refine a_iload_n X dX7_guests_25 rfl ?_
      refine a_icmp_ne (tgt := 35) X dX7_guests_26 (by decide) (fun h_26 => ?_) (fun h_26 => ?_)
      · replace h := (if_neg h_26).symm.trans h
        refine a_aload_n X dX7_guests_35 rfl ?_
        refine a_getr X lf7_33 (by assumption) rfl (by omega) dX7_guests_36 ?_
        refine a_aload_n X dX7_guests_39 rfl ?_
        refine a_getr X lf7_26 (by assumption) rfl (by omega) dX7_guests_40 ?_
        obtain ⟨e_43, f_43, h⟩ := zBx h
        refine a_callVu X dX7_guests_43 miX1_keep lm7_396 (t_X1_keep (by assumption) (by assumption) (by omega) f_43) (by assumption) rfl rfl rfl (Nat.le_of_ble_eq_true rfl) ⟨by decide, by decide, by decide, by decide⟩ ?_
        refine a_aload_n X dX7_guests_46 rfl ?_
        refine a_getr X lf7_26 (by assumption) rfl (by omega) dX7_guests_47 ?_
        refine a_iload_n X dX7_guests_50 rfl ?_
        obtain ⟨M_51, f_51, h⟩ := zLtx h
        refine d_puti X lf7_149 (by assumption) rfl dX7_guests_51 f_51 ?_
        refine a_aload_n X dX7_guests_54 rfl ?_
        refine a_iload_n X dX7_guests_55 rfl ?_
        obtain ⟨e_56, f_56, h⟩ := zBx h
        refine a_callVv X dX7_guests_56 miX7_changed lm7_122 (t_X7_changed (by assumption) f_56) (by assumption) rfl rfl rfl (Nat.le_of_ble_eq_true rfl) ⟨by decide, by decide, by decide, by decide⟩ ?_
        refine a_iret X hr dX7_guests_59 ⟨by decide, by decide⟩ ?_
        subst hF
        rw [← Option.some.inj h]
        exact ⟨rfl, rfl⟩
      · replace h := (if_pos h_26).symm.trans h
        refine a_aload_n X dX7_guests_29 rfl ?_
        refine a_iconst (v := 4) X dX7_guests_30 (by decide) ?_
        obtain ⟨e_31, f_31, h⟩ := zBx h
        refine a_callVv X dX7_guests_31 miX7_refuse lm7_102 (t_X7_refuse (by assumption) f_31) (by assumption) rfl rfl rfl (Nat.le_of_ble_eq_true rfl) ⟨by decide, by decide, by decide, by decide⟩ ?_
        refine a_iret X hr dX7_guests_34 ⟨by decide, by decide⟩ ?_
        subst hF
        rw [← Option.some.inj h]
        exact ⟨rfl, rfl⟩
    · replace h := (if_neg h_7).symm.trans h
      exact Zw.to2 (J_10 _ _ _ h) rfl rfl rfl
noncomputable def D_X7_split (P : Nat) (v0 : Int32) (M : zMt) : Option (Int32 × zMt) :=
  zB (D_X7_isParty P M v0) fun e_2 =>
  if e_2 = 0 then
    zB (D_X7_refuse P (2 : Int32) M) fun e_10 =>
    some (e_10.1, e_10.2)
  else
    zB (D_X1_keep (P + 25) (P + 17) M) fun e_22 =>
    zB (D_X4_dissolve (P + 17) v0 e_22) fun e_30 =>
    zB (D_X7_changed P (0 : Int32) e_30) fun e_35 =>
    zB (D_X7_answer P (e_35.2 (P + 91) 1) e_35.2) fun e_47 =>
    some (e_47.1, e_47.2)
set_option maxRecDepth 100000 in
set_option maxHeartbeats 4000000 in
theorem t_X7_split {l : Launch} {G : zG} {b : Nat} {L : List zC} {M : zMt} {N : zNt} {P : Nat} {v0 : Int32} (hP : LX7 L P) {r : Int32 × zMt} (h : D_X7_split P v0 M = some r) : zM l G b yX7_split cX7_split 2 (some .int) 4 0 0 [.ref P, .int v0] (L, M, N) (fun r2 z => r2 = some (.int r.1) ∧ z = (L, r.2, N)) := by
  refine zM.of miX7_split (Nat.le_of_ble_eq_true rfl) ?_
  intro p e s m args below meth c X hr hname
  generalize hF : ((fun r2 z => r2 = some (.int r.1) ∧ z = (L, r.2, N)) : Option Value → zS → Prop) = FQ
  change Zw p l e { frames := 4, cells := 0, slots := 0, locals := 80 * (4) } s m args below meth c G b 2 (MQ below (zQ G b FQ) args s 0 0 (fun q : Nat => b ≤ q)) 0 0 0 [some (.ref P), some (.int v0)] [] (L, M, N)
  obtain ⟨p_lt, p_o, p_tape, p_out, p_reader, p_list, p_past, p_pool, p_result, p_odds, p_paper, p_trial, p_trialPool, p_trialResult, p_trialOdds⟩ := id hP
  obtain ⟨p_reader_lt, p_reader_o, p_reader_draft, p_reader_text, p_reader_unitNames, p_reader_hunterNames, p_reader_partyNames, p_reader_asked⟩ := id p_reader
  obtain ⟨p_list_lt, p_list_o, p_list_quota, p_list_score, p_list_guest, p_list_party, p_list_wishCount, p_list_wishes, p_list_has⟩ := id p_list
  obtain ⟨p_past_lt, p_past_o, p_past_stood, p_past_stood0, p_past_stood1, p_past_stood2, p_past_stood3, p_past_stood4, p_past_stood5, p_past_stood6, p_past_stood7⟩ := id p_past
  obtain ⟨p_pool_lt, p_pool_o, p_pool_quota, p_pool_preferred, p_pool_forGuests, p_pool_applicantOf, p_pool_size, p_pool_guestCount, p_pool_score, p_pool_tickets, p_pool_bits, p_pool_party, p_pool_wishCount, p_pool_wishes⟩ := id p_pool
  obtain ⟨p_result_lt, p_result_o, p_result_line, p_result_unitOf, p_result_roundOf, p_result_leftTags, p_result_leftGuests, p_result_leftPreferred, p_result_ranked⟩ := id p_result
  obtain ⟨p_odds_lt, p_odds_o, p_odds_sets, p_odds_seen, p_odds_atUnit, p_odds_early, p_odds_result⟩ := id p_odds
  obtain ⟨p_paper_lt, p_paper_o, p_paper_times, p_paper_firstWish, p_paper_dry, p_paper_list, p_paper_pool, p_paper_result⟩ := id p_paper
  obtain ⟨p_trial_lt, p_trial_o, p_trial_quota, p_trial_score, p_trial_guest, p_trial_party, p_trial_wishCount, p_trial_wishes, p_trial_has⟩ := id p_trial
  obtain ⟨p_trialPool_lt, p_trialPool_o, p_trialPool_quota, p_trialPool_preferred, p_trialPool_forGuests, p_trialPool_applicantOf, p_trialPool_size, p_trialPool_guestCount, p_trialPool_score, p_trialPool_tickets, p_trialPool_bits, p_trialPool_party, p_trialPool_wishCount, p_trialPool_wishes⟩ := id p_trialPool
  obtain ⟨p_trialResult_lt, p_trialResult_o, p_trialResult_line, p_trialResult_unitOf, p_trialResult_roundOf, p_trialResult_leftTags, p_trialResult_leftGuests, p_trialResult_leftPreferred, p_trialResult_ranked⟩ := id p_trialResult
  obtain ⟨p_trialOdds_lt, p_trialOdds_o, p_trialOdds_sets, p_trialOdds_seen, p_trialOdds_atUnit, p_trialOdds_early, p_trialOdds_result⟩ := id p_trialOdds
  unfold D_X7_split at h
  refine a_aload_n X dX7_split_0 rfl ?_
  refine a_iload_n X dX7_split_1 rfl ?_
  obtain ⟨e_2, f_2, h⟩ := zBx h
  refine a_callVx X dX7_split_2 miX7_isParty lm7_362 (t_X7_isParty (by assumption) f_2) (by assumption) rfl rfl rfl (Nat.le_of_ble_eq_true rfl) ⟨by decide, by decide, by decide, by decide⟩ (fun r_2 S_2 q_2 => ?_)
  obtain ⟨rfl, rfl, b_2⟩ := q_2
  refine a_if_ne (tgt := 14) X dX7_split_5 (by decide) (fun h_5 => ?_) (fun h_5 => ?_)
  · replace h := (if_neg h_5).symm.trans h
    refine a_aload_n X dX7_split_14 rfl ?_
    refine a_getr X lf7_33 (by assumption) rfl (by omega) dX7_split_15 ?_
    refine a_aload_n X dX7_split_18 rfl ?_
    refine a_getr X lf7_26 (by assumption) rfl (by omega) dX7_split_19 ?_
    obtain ⟨e_22, f_22, h⟩ := zBx h
    refine a_callVu X dX7_split_22 miX1_keep lm7_396 (t_X1_keep (by assumption) (by assumption) (by omega) f_22) (by assumption) rfl rfl rfl (Nat.le_of_ble_eq_true rfl) ⟨by decide, by decide, by decide, by decide⟩ ?_
    refine a_aload_n X dX7_split_25 rfl ?_
    refine a_getr X lf7_26 (by assumption) rfl (by omega) dX7_split_26 ?_
    refine a_iload_n X dX7_split_29 rfl ?_
    obtain ⟨e_30, f_30, h⟩ := zBx h
    refine a_callVu X dX7_split_30 miX4_dissolve lm7_365 (t_X4_dissolve (by assumption) f_30) (by assumption) rfl rfl rfl (Nat.le_of_ble_eq_true rfl) ⟨by decide, by decide, by decide, by decide⟩ ?_
    refine a_aload_n X dX7_split_33 rfl ?_
    refine a_iconst (v := 0) X dX7_split_34 (by decide) ?_
    obtain ⟨e_35, f_35, h⟩ := zBx h
    refine a_callVv X dX7_split_35 miX7_changed lm7_122 (t_X7_changed (by assumption) f_35) (by assumption) rfl rfl rfl (Nat.le_of_ble_eq_true rfl) ⟨by decide, by decide, by decide, by decide⟩ ?_
    refine a_pop X dX7_split_38 rfl ?_
    refine a_aload_n X dX7_split_39 rfl ?_
    refine a_aload_n X dX7_split_40 rfl ?_
    refine a_getr X lf7_40 (by assumption) rfl (by omega) dX7_split_41 ?_
    refine a_geti X lf7_140 (by assumption) rfl dX7_split_44 ?_
    obtain ⟨e_47, f_47, h⟩ := zBx h
    refine a_callVv X dX7_split_47 miX7_answer lm7_134 (t_X7_answer (by assumption) f_47) (by assumption) rfl rfl rfl (Nat.le_of_ble_eq_true rfl) ⟨by decide, by decide, by decide, by decide⟩ ?_
    refine a_iret X hr dX7_split_50 ⟨by decide, by decide⟩ ?_
    subst hF
    rw [← Option.some.inj h]
    exact ⟨rfl, rfl⟩
  · replace h := (if_pos h_5).symm.trans h
    refine a_aload_n X dX7_split_8 rfl ?_
    refine a_iconst (v := 2) X dX7_split_9 (by decide) ?_
    obtain ⟨e_10, f_10, h⟩ := zBx h
    refine a_callVv X dX7_split_10 miX7_refuse lm7_102 (t_X7_refuse (by assumption) f_10) (by assumption) rfl rfl rfl (Nat.le_of_ble_eq_true rfl) ⟨by decide, by decide, by decide, by decide⟩ ?_
    refine a_iret X hr dX7_split_13 ⟨by decide, by decide⟩ ?_
    subst hF
    rw [← Option.some.inj h]
    exact ⟨rfl, rfl⟩
noncomputable def D_X7_undo (P : Nat) (M : zMt) : Option (Int32 × zMt) :=
  zB (D_X1_giveBack (P + 25) (P + 17) M) fun e_8 =>
  if e_8.1 = 0 then
    zB (D_X7_refuse P (5 : Int32) e_8.2) fun e_16 =>
    some (e_16.1, e_16.2)
  else
    zB (D_X7_changed P (e_8.2 (P + 25) 0) e_8.2) fun e_28 =>
    some (e_28.1, e_28.2)
set_option maxRecDepth 100000 in
set_option maxHeartbeats 4000000 in
theorem t_X7_undo {l : Launch} {G : zG} {b : Nat} {L : List zC} {M : zMt} {N : zNt} {P : Nat}  (hP : LX7 L P) {r : Int32 × zMt} (h : D_X7_undo P M = some r) : zM l G b yX7_undo cX7_undo 1 (some .int) 4 0 0 [.ref P] (L, M, N) (fun r2 z => r2 = some (.int r.1) ∧ z = (L, r.2, N)) := by
  refine zM.of miX7_undo (Nat.le_of_ble_eq_true rfl) ?_
  intro p e s m args below meth c X hr hname
  generalize hF : ((fun r2 z => r2 = some (.int r.1) ∧ z = (L, r.2, N)) : Option Value → zS → Prop) = FQ
  change Zw p l e { frames := 4, cells := 0, slots := 0, locals := 80 * (4) } s m args below meth c G b 1 (MQ below (zQ G b FQ) args s 0 0 (fun q : Nat => b ≤ q)) 0 0 0 [some (.ref P)] [] (L, M, N)
  obtain ⟨p_lt, p_o, p_tape, p_out, p_reader, p_list, p_past, p_pool, p_result, p_odds, p_paper, p_trial, p_trialPool, p_trialResult, p_trialOdds⟩ := id hP
  obtain ⟨p_reader_lt, p_reader_o, p_reader_draft, p_reader_text, p_reader_unitNames, p_reader_hunterNames, p_reader_partyNames, p_reader_asked⟩ := id p_reader
  obtain ⟨p_list_lt, p_list_o, p_list_quota, p_list_score, p_list_guest, p_list_party, p_list_wishCount, p_list_wishes, p_list_has⟩ := id p_list
  obtain ⟨p_past_lt, p_past_o, p_past_stood, p_past_stood0, p_past_stood1, p_past_stood2, p_past_stood3, p_past_stood4, p_past_stood5, p_past_stood6, p_past_stood7⟩ := id p_past
  obtain ⟨p_pool_lt, p_pool_o, p_pool_quota, p_pool_preferred, p_pool_forGuests, p_pool_applicantOf, p_pool_size, p_pool_guestCount, p_pool_score, p_pool_tickets, p_pool_bits, p_pool_party, p_pool_wishCount, p_pool_wishes⟩ := id p_pool
  obtain ⟨p_result_lt, p_result_o, p_result_line, p_result_unitOf, p_result_roundOf, p_result_leftTags, p_result_leftGuests, p_result_leftPreferred, p_result_ranked⟩ := id p_result
  obtain ⟨p_odds_lt, p_odds_o, p_odds_sets, p_odds_seen, p_odds_atUnit, p_odds_early, p_odds_result⟩ := id p_odds
  obtain ⟨p_paper_lt, p_paper_o, p_paper_times, p_paper_firstWish, p_paper_dry, p_paper_list, p_paper_pool, p_paper_result⟩ := id p_paper
  obtain ⟨p_trial_lt, p_trial_o, p_trial_quota, p_trial_score, p_trial_guest, p_trial_party, p_trial_wishCount, p_trial_wishes, p_trial_has⟩ := id p_trial
  obtain ⟨p_trialPool_lt, p_trialPool_o, p_trialPool_quota, p_trialPool_preferred, p_trialPool_forGuests, p_trialPool_applicantOf, p_trialPool_size, p_trialPool_guestCount, p_trialPool_score, p_trialPool_tickets, p_trialPool_bits, p_trialPool_party, p_trialPool_wishCount, p_trialPool_wishes⟩ := id p_trialPool
  obtain ⟨p_trialResult_lt, p_trialResult_o, p_trialResult_line, p_trialResult_unitOf, p_trialResult_roundOf, p_trialResult_leftTags, p_trialResult_leftGuests, p_trialResult_leftPreferred, p_trialResult_ranked⟩ := id p_trialResult
  obtain ⟨p_trialOdds_lt, p_trialOdds_o, p_trialOdds_sets, p_trialOdds_seen, p_trialOdds_atUnit, p_trialOdds_early, p_trialOdds_result⟩ := id p_trialOdds
  unfold D_X7_undo at h
  refine a_aload_n X dX7_undo_0 rfl ?_
  refine a_getr X lf7_33 (by assumption) rfl (by omega) dX7_undo_1 ?_
  refine a_aload_n X dX7_undo_4 rfl ?_
  refine a_getr X lf7_26 (by assumption) rfl (by omega) dX7_undo_5 ?_
  obtain ⟨e_8, f_8, h⟩ := zBx h
  refine a_callVx X dX7_undo_8 miX1_giveBack lm7_409 (t_X1_giveBack (by assumption) (by assumption) (by omega) f_8) (by assumption) rfl rfl rfl (Nat.le_of_ble_eq_true rfl) ⟨by decide, by decide, by decide, by decide⟩ (fun r_8 S_8 q_8 => ?_)
  obtain ⟨rfl, rfl, b_8⟩ := q_8
  refine a_if_ne (tgt := 20) X dX7_undo_11 (by decide) (fun h_11 => ?_) (fun h_11 => ?_)
  · replace h := (if_neg h_11).symm.trans h
    refine a_aload_n X dX7_undo_20 rfl ?_
    refine a_aload_n X dX7_undo_21 rfl ?_
    refine a_getr X lf7_33 (by assumption) rfl (by omega) dX7_undo_22 ?_
    refine a_geti X lf7_155 (by assumption) rfl dX7_undo_25 ?_
    obtain ⟨e_28, f_28, h⟩ := zBx h
    refine a_callVv X dX7_undo_28 miX7_changed lm7_122 (t_X7_changed (by assumption) f_28) (by assumption) rfl rfl rfl (Nat.le_of_ble_eq_true rfl) ⟨by decide, by decide, by decide, by decide⟩ ?_
    refine a_iret X hr dX7_undo_31 ⟨by decide, by decide⟩ ?_
    subst hF
    rw [← Option.some.inj h]
    exact ⟨rfl, rfl⟩
  · replace h := (if_pos h_11).symm.trans h
    refine a_aload_n X dX7_undo_14 rfl ?_
    refine a_iconst (v := 5) X dX7_undo_15 (by decide) ?_
    obtain ⟨e_16, f_16, h⟩ := zBx h
    refine a_callVv X dX7_undo_16 miX7_refuse lm7_102 (t_X7_refuse (by assumption) f_16) (by assumption) rfl rfl rfl (Nat.le_of_ble_eq_true rfl) ⟨by decide, by decide, by decide, by decide⟩ ?_
    refine a_iret X hr dX7_undo_19 ⟨by decide, by decide⟩ ?_
    subst hF
    rw [← Option.some.inj h]
    exact ⟨rfl, rfl⟩
noncomputable def D_X7_write (P : Nat) (v0 : Int32) (M : zMt) : Option (zMt) :=
  zLt (zwr M (P + 2) 50 (M P 2) v0) fun M_9 =>
  zLt (zu M_9 P 2 ((M_9 P 2) + (1 : Int32))) fun M_19 =>
  some (M_19)
set_option maxRecDepth 100000 in
set_option maxHeartbeats 4000000 in
theorem t_X7_write {l : Launch} {G : zG} {b : Nat} {L : List zC} {M : zMt} {N : zNt} {P : Nat} {v0 : Int32} (hP : LX7 L P) {r : zMt} (h : D_X7_write P v0 M = some r) : zM l G b yX7_write cX7_write 2 none 1 0 0 [.ref P, .int v0] (L, M, N) (fun r2 z => r2 = none ∧ z = (L, r, N)) := by
  refine zM.of miX7_write (Nat.le_of_ble_eq_true rfl) ?_
  intro p e s m args below meth c X hr hname
  generalize hF : ((fun r2 z => r2 = none ∧ z = (L, r, N)) : Option Value → zS → Prop) = FQ
  change Zw p l e { frames := 1, cells := 0, slots := 0, locals := 80 * (1) } s m args below meth c G b 2 (MQ below (zQ G b FQ) args s 0 0 (fun q : Nat => b ≤ q)) 0 0 0 [some (.ref P), some (.int v0)] [] (L, M, N)
  obtain ⟨p_lt, p_o, p_tape, p_out, p_reader, p_list, p_past, p_pool, p_result, p_odds, p_paper, p_trial, p_trialPool, p_trialResult, p_trialOdds⟩ := id hP
  obtain ⟨p_reader_lt, p_reader_o, p_reader_draft, p_reader_text, p_reader_unitNames, p_reader_hunterNames, p_reader_partyNames, p_reader_asked⟩ := id p_reader
  obtain ⟨p_list_lt, p_list_o, p_list_quota, p_list_score, p_list_guest, p_list_party, p_list_wishCount, p_list_wishes, p_list_has⟩ := id p_list
  obtain ⟨p_past_lt, p_past_o, p_past_stood, p_past_stood0, p_past_stood1, p_past_stood2, p_past_stood3, p_past_stood4, p_past_stood5, p_past_stood6, p_past_stood7⟩ := id p_past
  obtain ⟨p_pool_lt, p_pool_o, p_pool_quota, p_pool_preferred, p_pool_forGuests, p_pool_applicantOf, p_pool_size, p_pool_guestCount, p_pool_score, p_pool_tickets, p_pool_bits, p_pool_party, p_pool_wishCount, p_pool_wishes⟩ := id p_pool
  obtain ⟨p_result_lt, p_result_o, p_result_line, p_result_unitOf, p_result_roundOf, p_result_leftTags, p_result_leftGuests, p_result_leftPreferred, p_result_ranked⟩ := id p_result
  obtain ⟨p_odds_lt, p_odds_o, p_odds_sets, p_odds_seen, p_odds_atUnit, p_odds_early, p_odds_result⟩ := id p_odds
  obtain ⟨p_paper_lt, p_paper_o, p_paper_times, p_paper_firstWish, p_paper_dry, p_paper_list, p_paper_pool, p_paper_result⟩ := id p_paper
  obtain ⟨p_trial_lt, p_trial_o, p_trial_quota, p_trial_score, p_trial_guest, p_trial_party, p_trial_wishCount, p_trial_wishes, p_trial_has⟩ := id p_trial
  obtain ⟨p_trialPool_lt, p_trialPool_o, p_trialPool_quota, p_trialPool_preferred, p_trialPool_forGuests, p_trialPool_applicantOf, p_trialPool_size, p_trialPool_guestCount, p_trialPool_score, p_trialPool_tickets, p_trialPool_bits, p_trialPool_party, p_trialPool_wishCount, p_trialPool_wishes⟩ := id p_trialPool
  obtain ⟨p_trialResult_lt, p_trialResult_o, p_trialResult_line, p_trialResult_unitOf, p_trialResult_roundOf, p_trialResult_leftTags, p_trialResult_leftGuests, p_trialResult_leftPreferred, p_trialResult_ranked⟩ := id p_trialResult
  obtain ⟨p_trialOdds_lt, p_trialOdds_o, p_trialOdds_sets, p_trialOdds_seen, p_trialOdds_atUnit, p_trialOdds_early, p_trialOdds_result⟩ := id p_trialOdds
  unfold D_X7_write at h
  refine a_aload_n X dX7_write_0 rfl ?_
  refine a_getr X lf7_13 (by assumption) rfl (by omega) dX7_write_1 ?_
  refine a_aload_n X dX7_write_4 rfl ?_
  refine a_geti X lf7_84 (by assumption) rfl dX7_write_5 ?_
  refine a_iload_n X dX7_write_8 rfl ?_
  obtain ⟨M_9, f_9, h⟩ := zLtx h
  refine a_callSu X dX7_write_9 miX7_put lm7_98 (zMu (c_put (by assumption) (by first | decide | assumption)) f_9) rfl rfl (Nat.le_of_ble_eq_true rfl) ⟨by decide, by decide, by decide, by decide⟩ ?_
  refine a_aload_n X dX7_write_12 rfl ?_
  refine a_dup X dX7_write_13 rfl ?_
  refine a_geti X lf7_84 (by assumption) rfl dX7_write_14 ?_
  refine a_iconst (v := 1) X dX7_write_17 (by decide) ?_
  refine a_iadd X dX7_write_18 ?_
  obtain ⟨M_19, f_19, h⟩ := zLtx h
  refine d_puti X lf7_84 (by assumption) rfl dX7_write_19 f_19 ?_
  refine a_vret X hr dX7_write_22 ⟨by decide, by decide⟩ ?_
  subst hF
  rw [← Option.some.inj h]
  exact ⟨rfl, rfl⟩
noncomputable def D_X7_print_123 (P : Nat) (k32 : Int32 → zMt → Option (Int32 × zMt)) (x2_123 : Int32) (M_123 : zMt) : Option (Int32 × zMt) :=
  zB (D_X7_write P (59 : Int32) M_123) fun e_126 =>
  k32 (x2_123 + 1) e_126
noncomputable def D_X7_print_99 (P : Nat) (k32 : Int32 → zMt → Option (Int32 × zMt)) (x2_99 : Int32) (x3_99 : Int32) (y1_99 : Int32) (M_99 : zMt) : Option (Int32 × zMt) :=
  zB (D_X7_write P y1_99 M_99) fun e_99 =>
  if (zrd 0 (e_99 (P + 107)) 10 x3_99) = (1 : Int32) then
    zB (D_X7_write P (33 : Int32) e_99) fun e_120 =>
    D_X7_print_123 P k32 x2_99 e_120
  else
    D_X7_print_123 P k32 x2_99 e_99
noncomputable def D_X7_print_32 (P : Nat) : Nat → Int32 → zMt → Option (Int32 × zMt)
  | 0, _, _ => none
  | n + 1, x2_32, M_32 =>
    if (M_32 (P + 91) 1) ≤ x2_32 then
      zB (D_X7_answer P (M_32 P 2) M_32) fun e_140 =>
      some (e_140.1, e_140.2)
    else
      zB (D_X7_write P ((48 : Int32) + (zrd 0 (M_32 (P + 105)) 10 x2_32)) M_32) fun e_73 =>
      zB (D_X7_write P (61 : Int32) e_73) fun e_79 =>
      if (zrd 0 (M_32 (P + 106)) 10 (zrd 0 (M_32 (P + 105)) 10 x2_32)) = (-1 : Int32) then
        D_X7_print_99 P (D_X7_print_32 P n) x2_32 (zrd 0 (M_32 (P + 105)) 10 x2_32) (45 : Int32) e_79
      else
        D_X7_print_99 P (D_X7_print_32 P n) x2_32 (zrd 0 (M_32 (P + 105)) 10 x2_32) ((48 : Int32) + (zrd 0 (M_32 (P + 106)) 10 (zrd 0 (M_32 (P + 105)) 10 x2_32))) e_79
noncomputable def D_X7_print (P : Nat) (v0 : Int32) (M : zMt) : Option (Int32 × zMt) :=
  zB (D_X7_isSeed v0) fun e_1 =>
  if e_1 = 0 then
    zB (D_X7_refuse P (1 : Int32) M) fun e_9 =>
    some (e_9.1, e_9.2)
  else
    zB (D_X5_bySeed (P + 104) (P + 91) v0 M) fun e_22 =>
    zLt (zu e_22 P 2 (0 : Int32)) fun M_27 =>
    D_X7_print_32 P zFu (0 : Int32) M_27
set_option maxRecDepth 100000 in
set_option maxHeartbeats 4000000 in
theorem t_X7_print {l : Launch} {G : zG} {b : Nat} {L : List zC} {M : zMt} {N : zNt} {P : Nat} {v0 : Int32} (hP : LX7 L P) {r : Int32 × zMt} (h : D_X7_print P v0 M = some r) : zM l G b yX7_print cX7_print 5 (some .int) 5 0 0 [.ref P, .int v0] (L, M, N) (fun r2 z => r2 = some (.int r.1) ∧ z = (L, r.2, N)) := by
  refine zM.of miX7_print (Nat.le_of_ble_eq_true rfl) ?_
  intro p e s m args below meth c X hr hname
  generalize hF : ((fun r2 z => r2 = some (.int r.1) ∧ z = (L, r.2, N)) : Option Value → zS → Prop) = FQ
  change Zw p l e { frames := 5, cells := 0, slots := 0, locals := 80 * (5) } s m args below meth c G b 5 (MQ below (zQ G b FQ) args s 0 0 (fun q : Nat => b ≤ q)) 0 0 0 [some (.ref P), some (.int v0), none, none, none] [] (L, M, N)
  obtain ⟨p_lt, p_o, p_tape, p_out, p_reader, p_list, p_past, p_pool, p_result, p_odds, p_paper, p_trial, p_trialPool, p_trialResult, p_trialOdds⟩ := id hP
  obtain ⟨p_reader_lt, p_reader_o, p_reader_draft, p_reader_text, p_reader_unitNames, p_reader_hunterNames, p_reader_partyNames, p_reader_asked⟩ := id p_reader
  obtain ⟨p_list_lt, p_list_o, p_list_quota, p_list_score, p_list_guest, p_list_party, p_list_wishCount, p_list_wishes, p_list_has⟩ := id p_list
  obtain ⟨p_past_lt, p_past_o, p_past_stood, p_past_stood0, p_past_stood1, p_past_stood2, p_past_stood3, p_past_stood4, p_past_stood5, p_past_stood6, p_past_stood7⟩ := id p_past
  obtain ⟨p_pool_lt, p_pool_o, p_pool_quota, p_pool_preferred, p_pool_forGuests, p_pool_applicantOf, p_pool_size, p_pool_guestCount, p_pool_score, p_pool_tickets, p_pool_bits, p_pool_party, p_pool_wishCount, p_pool_wishes⟩ := id p_pool
  obtain ⟨p_result_lt, p_result_o, p_result_line, p_result_unitOf, p_result_roundOf, p_result_leftTags, p_result_leftGuests, p_result_leftPreferred, p_result_ranked⟩ := id p_result
  obtain ⟨p_odds_lt, p_odds_o, p_odds_sets, p_odds_seen, p_odds_atUnit, p_odds_early, p_odds_result⟩ := id p_odds
  obtain ⟨p_paper_lt, p_paper_o, p_paper_times, p_paper_firstWish, p_paper_dry, p_paper_list, p_paper_pool, p_paper_result⟩ := id p_paper
  obtain ⟨p_trial_lt, p_trial_o, p_trial_quota, p_trial_score, p_trial_guest, p_trial_party, p_trial_wishCount, p_trial_wishes, p_trial_has⟩ := id p_trial
  obtain ⟨p_trialPool_lt, p_trialPool_o, p_trialPool_quota, p_trialPool_preferred, p_trialPool_forGuests, p_trialPool_applicantOf, p_trialPool_size, p_trialPool_guestCount, p_trialPool_score, p_trialPool_tickets, p_trialPool_bits, p_trialPool_party, p_trialPool_wishCount, p_trialPool_wishes⟩ := id p_trialPool
  obtain ⟨p_trialResult_lt, p_trialResult_o, p_trialResult_line, p_trialResult_unitOf, p_trialResult_roundOf, p_trialResult_leftTags, p_trialResult_leftGuests, p_trialResult_leftPreferred, p_trialResult_ranked⟩ := id p_trialResult
  obtain ⟨p_trialOdds_lt, p_trialOdds_o, p_trialOdds_sets, p_trialOdds_seen, p_trialOdds_atUnit, p_trialOdds_early, p_trialOdds_result⟩ := id p_trialOdds
  have L_32 : ∀ u : Nat, ∀ (x1_32 : Int32) (x2_32 : Int32) (x3_32 : Option Value) (x4_32 : Option Value) (M_32 : zMt), D_X7_print_32 P u x2_32 M_32 = some r → Zw p l e { frames := 5, cells := 0, slots := 0, locals := 80 * (5) } s m args below meth c G b 5 (MQ below (zQ G b FQ) args s 0 0 (fun q : Nat => b ≤ q)) 0 0 32 [some (.ref (P)), some (.int x1_32), some (.int x2_32), x3_32, x4_32] [] (L, M_32, N) := by
    intro u
    induction u with
    | zero => intro x1_32 x2_32 x3_32 x4_32 M_32 h; cases (show none = some r from h)
    | succ u_32 ih_32 =>
      have J_123 : ∀ (x1_123 : Int32) (x2_123 : Int32) (x3_123 : Int32) (x4_123 : Int32) (M_123 : zMt), D_X7_print_123 P (D_X7_print_32 P u_32) x2_123 M_123 = some r → Zw p l e { frames := 5, cells := 0, slots := 0, locals := 80 * (5) } s m args below meth c G b 5 (MQ below (zQ G b FQ) args s 0 0 (fun q : Nat => b ≤ q)) 0 0 123 [some (.ref (P)), some (.int x1_123), some (.int x2_123), some (.int x3_123), some (.int x4_123)] [] (L, M_123, N) := by
        intro x1_123 x2_123 x3_123 x4_123 M_123 h
        unfold D_X7_print_123 at h
        refine a_aload_n X dX7_print_123 rfl ?_
        refine a_bipush (v := 59) X dX7_print_124 (by decide) ?_
        obtain ⟨e_126, f_126, h⟩ := zBx h
        refine a_callVu X dX7_print_126 miX7_write lm7_413 (t_X7_write (by assumption) f_126) (by assumption) rfl rfl rfl (Nat.le_of_ble_eq_true rfl) ⟨by decide, by decide, by decide, by decide⟩ ?_
        refine a_iinc (v := x2_123 + 1) X dX7_print_129 (by decide) rfl zi_1 ?_
        refine a_goto (tgt := 32) X dX7_print_132 (by decide) ?_
        exact Zw.to2 (ih_32 _ _ _ _ _ h) rfl rfl rfl
      have J_99 : ∀ (x1_99 : Int32) (x2_99 : Int32) (x3_99 : Int32) (x4_99 : Int32) (y1_99 : Int32) (M_99 : zMt), D_X7_print_99 P (D_X7_print_32 P u_32) x2_99 x3_99 y1_99 M_99 = some r → Zw p l e { frames := 5, cells := 0, slots := 0, locals := 80 * (5) } s m args below meth c G b 5 (MQ below (zQ G b FQ) args s 0 0 (fun q : Nat => b ≤ q)) 0 0 99 [some (.ref (P)), some (.int x1_99), some (.int x2_99), some (.int x3_99), some (.int x4_99)] [.int y1_99, .ref (P)] (L, M_99, N) := by
        intro x1_99 x2_99 x3_99 x4_99 y1_99 M_99 h
        unfold D_X7_print_99 at h
        obtain ⟨e_99, f_99, h⟩ := zBx h
        refine a_callVu X dX7_print_99 miX7_write lm7_413 (t_X7_write (by assumption) f_99) (by assumption) rfl rfl rfl (Nat.le_of_ble_eq_true rfl) ⟨by decide, by decide, by decide, by decide⟩ ?_
        refine a_aload_n X dX7_print_102 rfl ?_
        refine a_getr X lf7_47 (by assumption) rfl (by omega) dX7_print_103 ?_
        refine a_getr X lf7_253 (by assumption) rfl (by omega) dX7_print_106 ?_
        refine a_iload_n X dX7_print_109 rfl ?_
        refine a_callSv X dX7_print_110 miX7_cell lm7_175 (c_cell (by assumption) (by first | decide | assumption)) rfl rfl (Nat.le_of_ble_eq_true rfl) ⟨by decide, by decide, by decide, by decide⟩ ?_
        refine a_iconst (v := 1) X dX7_print_113 (by decide) ?_
        refine a_icmp_ne (tgt := 123) X dX7_print_114 (by decide) (fun h_114 => ?_) (fun h_114 => ?_)
        · replace h := (if_neg h_114).symm.trans h
          exact Zw.to2 (J_123 _ _ _ _ _ h) rfl rfl rfl
        · replace h := (if_pos h_114).symm.trans h
          refine a_aload_n X dX7_print_117 rfl ?_
          refine a_bipush (v := 33) X dX7_print_118 (by decide) ?_
          obtain ⟨e_120, f_120, h⟩ := zBx h
          refine a_callVu X dX7_print_120 miX7_write lm7_413 (t_X7_write (by assumption) f_120) (by assumption) rfl rfl rfl (Nat.le_of_ble_eq_true rfl) ⟨by decide, by decide, by decide, by decide⟩ ?_
          exact Zw.to2 (J_123 _ _ _ _ _ h) rfl rfl rfl
      intro x1_32 x2_32 x3_32 x4_32 M_32 h
      rw [D_X7_print_32] at h
      refine a_iload_n X dX7_print_32 rfl ?_
      refine a_aload_n X dX7_print_33 rfl ?_
      refine a_getr X lf7_40 (by assumption) rfl (by omega) dX7_print_34 ?_
      refine a_geti X lf7_140 (by assumption) rfl dX7_print_37 ?_
      refine a_icmp_ge (tgt := 135) X dX7_print_40 (by decide) (fun h_40 => ?_) (fun h_40 => ?_)
      · replace h := (if_pos h_40).symm.trans h
        refine a_aload_n X dX7_print_135 rfl ?_
        refine a_aload_n X dX7_print_136 rfl ?_
        refine a_geti X lf7_84 (by assumption) rfl dX7_print_137 ?_
        obtain ⟨e_140, f_140, h⟩ := zBx h
        refine a_callVv X dX7_print_140 miX7_answer lm7_134 (t_X7_answer (by assumption) f_140) (by assumption) rfl rfl rfl (Nat.le_of_ble_eq_true rfl) ⟨by decide, by decide, by decide, by decide⟩ ?_
        refine a_iret X hr dX7_print_143 ⟨by decide, by decide⟩ ?_
        subst hF
        rw [← Option.some.inj h]
        exact ⟨rfl, rfl⟩
      · replace h := (if_neg h_40).symm.trans h
        refine a_aload_n X dX7_print_43 rfl ?_
        refine a_getr X lf7_47 (by assumption) rfl (by omega) dX7_print_44 ?_
        refine a_getr X lf7_244 (by assumption) rfl (by omega) dX7_print_47 ?_
        refine a_iload_n X dX7_print_50 rfl ?_
        refine a_callSv X dX7_print_51 miX7_cell lm7_175 (c_cell (by assumption) (by first | decide | assumption)) rfl rfl (Nat.le_of_ble_eq_true rfl) ⟨by decide, by decide, by decide, by decide⟩ ?_
        refine a_istore_n X dX7_print_54 (by decide) ?_
        refine a_aload_n X dX7_print_55 rfl ?_
        refine a_getr X lf7_47 (by assumption) rfl (by omega) dX7_print_56 ?_
        refine a_getr X lf7_250 (by assumption) rfl (by omega) dX7_print_59 ?_
        refine a_iload_n X dX7_print_62 rfl ?_
        refine a_callSv X dX7_print_63 miX7_cell lm7_175 (c_cell (by assumption) (by first | decide | assumption)) rfl rfl (Nat.le_of_ble_eq_true rfl) ⟨by decide, by decide, by decide, by decide⟩ ?_
        refine a_istore X dX7_print_66 (by decide) ?_
        refine a_aload_n X dX7_print_68 rfl ?_
        refine a_bipush (v := 48) X dX7_print_69 (by decide) ?_
        refine a_iload_n X dX7_print_71 rfl ?_
        refine a_iadd X dX7_print_72 ?_
        obtain ⟨e_73, f_73, h⟩ := zBx h
        refine a_callVu X dX7_print_73 miX7_write lm7_413 (t_X7_write (by assumption) f_73) (by assumption) rfl rfl rfl (Nat.le_of_ble_eq_true rfl) ⟨by decide, by decide, by decide, by decide⟩ ?_
        refine a_aload_n X dX7_print_76 rfl ?_
        refine a_bipush (v := 61) X dX7_print_77 (by decide) ?_
        obtain ⟨e_79, f_79, h⟩ := zBx h
        refine a_callVu X dX7_print_79 miX7_write lm7_413 (t_X7_write (by assumption) f_79) (by assumption) rfl rfl rfl (Nat.le_of_ble_eq_true rfl) ⟨by decide, by decide, by decide, by decide⟩ ?_
        refine a_aload_n X dX7_print_82 rfl ?_
        refine a_iload X dX7_print_83 rfl ?_
        refine a_iconst (v := -1) X dX7_print_85 (by decide) ?_
        refine a_icmp_ne (tgt := 94) X dX7_print_86 (by decide) (fun h_86 => ?_) (fun h_86 => ?_)
        · replace h := (if_neg h_86).symm.trans h
          refine a_bipush (v := 48) X dX7_print_94 (by decide) ?_
          refine a_iload X dX7_print_96 rfl ?_
          refine a_iadd X dX7_print_98 ?_
          exact Zw.to2 (J_99 _ _ _ _ _ _ h) rfl rfl rfl
        · replace h := (if_pos h_86).symm.trans h
          refine a_bipush (v := 45) X dX7_print_89 (by decide) ?_
          refine a_goto (tgt := 99) X dX7_print_91 (by decide) ?_
          exact Zw.to2 (J_99 _ _ _ _ _ _ h) rfl rfl rfl
  have H_32 : ∀ (x1_32 : Int32) (x2_32 : Int32) (x3_32 : Option Value) (x4_32 : Option Value) (M_32 : zMt), D_X7_print_32 P zFu x2_32 M_32 = some r → Zw p l e { frames := 5, cells := 0, slots := 0, locals := 80 * (5) } s m args below meth c G b 5 (MQ below (zQ G b FQ) args s 0 0 (fun q : Nat => b ≤ q)) 0 0 32 [some (.ref (P)), some (.int x1_32), some (.int x2_32), x3_32, x4_32] [] (L, M_32, N) := L_32 zFu
  unfold D_X7_print at h
  refine a_iload_n X dX7_print_0 rfl ?_
  obtain ⟨e_1, f_1, h⟩ := zBx h
  refine a_callSx X dX7_print_1 miX7_isSeed lm7_237 (t_X7_isSeed f_1) rfl rfl (Nat.le_of_ble_eq_true rfl) ⟨by decide, by decide, by decide, by decide⟩ (fun r_1 S_1 q_1 => ?_)
  obtain ⟨rfl, rfl, b_1⟩ := q_1
  refine a_if_ne (tgt := 13) X dX7_print_4 (by decide) (fun h_4 => ?_) (fun h_4 => ?_)
  · replace h := (if_neg h_4).symm.trans h
    refine a_aload_n X dX7_print_13 rfl ?_
    refine a_getr X lf7_47 (by assumption) rfl (by omega) dX7_print_14 ?_
    refine a_aload_n X dX7_print_17 rfl ?_
    refine a_getr X lf7_40 (by assumption) rfl (by omega) dX7_print_18 ?_
    refine a_iload_n X dX7_print_21 rfl ?_
    obtain ⟨e_22, f_22, h⟩ := zBx h
    refine a_callVu X dX7_print_22 miX5_bySeed lm7_247 (t_X5_bySeed (by assumption) (by assumption) f_22) (by assumption) rfl rfl rfl (Nat.le_of_ble_eq_true rfl) ⟨by decide, by decide, by decide, by decide⟩ ?_
    refine a_aload_n X dX7_print_25 rfl ?_
    refine a_iconst (v := 0) X dX7_print_26 (by decide) ?_
    obtain ⟨M_27, f_27, h⟩ := zLtx h
    refine d_puti X lf7_84 (by assumption) rfl dX7_print_27 f_27 ?_
    refine a_iconst (v := 0) X dX7_print_30 (by decide) ?_
    refine a_istore_n X dX7_print_31 (by decide) ?_
    exact Zw.to2 (H_32 _ _ _ _ _ h) rfl rfl rfl
  · replace h := (if_pos h_4).symm.trans h
    refine a_aload_n X dX7_print_7 rfl ?_
    refine a_iconst (v := 1) X dX7_print_8 (by decide) ?_
    obtain ⟨e_9, f_9, h⟩ := zBx h
    refine a_callVv X dX7_print_9 miX7_refuse lm7_102 (t_X7_refuse (by assumption) f_9) (by assumption) rfl rfl rfl (Nat.le_of_ble_eq_true rfl) ⟨by decide, by decide, by decide, by decide⟩ ?_
    refine a_iret X hr dX7_print_12 ⟨by decide, by decide⟩ ?_
    subst hF
    rw [← Option.some.inj h]
    exact ⟨rfl, rfl⟩
noncomputable def D_X7_out_38 (P : Nat) (y0_38 : Int32) (M_38 : zMt) : Option (Int32 × zMt) :=
  some (y0_38, M_38)
noncomputable def D_X7_out (P : Nat) (v0 : Int32) (M : zMt) : Option (Int32 × zMt) :=
  if 0 ≤ v0 then
    if v0 < (M P 2) then
      zB (D_X7_answer P (zrd 0 (M (P + 2)) 50 v0) M) fun e_35 =>
      D_X7_out_38 P e_35.1 e_35.2
    else
      zB (D_X7_refuse P (5 : Int32) M) fun e_20 =>
      D_X7_out_38 P e_20.1 e_20.2
  else
    zB (D_X7_refuse P (1 : Int32) M) fun e_6 =>
    some (e_6.1, e_6.2)
set_option maxRecDepth 100000 in
set_option maxHeartbeats 4000000 in
theorem t_X7_out {l : Launch} {G : zG} {b : Nat} {L : List zC} {M : zMt} {N : zNt} {P : Nat} {v0 : Int32} (hP : LX7 L P) {r : Int32 × zMt} (h : D_X7_out P v0 M = some r) : zM l G b yX7_out cX7_out 2 (some .int) 1 0 0 [.ref P, .int v0] (L, M, N) (fun r2 z => r2 = some (.int r.1) ∧ z = (L, r.2, N)) := by
  refine zM.of miX7_out (Nat.le_of_ble_eq_true rfl) ?_
  intro p e s m args below meth c X hr hname
  generalize hF : ((fun r2 z => r2 = some (.int r.1) ∧ z = (L, r.2, N)) : Option Value → zS → Prop) = FQ
  change Zw p l e { frames := 1, cells := 0, slots := 0, locals := 80 * (1) } s m args below meth c G b 2 (MQ below (zQ G b FQ) args s 0 0 (fun q : Nat => b ≤ q)) 0 0 0 [some (.ref P), some (.int v0)] [] (L, M, N)
  obtain ⟨p_lt, p_o, p_tape, p_out, p_reader, p_list, p_past, p_pool, p_result, p_odds, p_paper, p_trial, p_trialPool, p_trialResult, p_trialOdds⟩ := id hP
  obtain ⟨p_reader_lt, p_reader_o, p_reader_draft, p_reader_text, p_reader_unitNames, p_reader_hunterNames, p_reader_partyNames, p_reader_asked⟩ := id p_reader
  obtain ⟨p_list_lt, p_list_o, p_list_quota, p_list_score, p_list_guest, p_list_party, p_list_wishCount, p_list_wishes, p_list_has⟩ := id p_list
  obtain ⟨p_past_lt, p_past_o, p_past_stood, p_past_stood0, p_past_stood1, p_past_stood2, p_past_stood3, p_past_stood4, p_past_stood5, p_past_stood6, p_past_stood7⟩ := id p_past
  obtain ⟨p_pool_lt, p_pool_o, p_pool_quota, p_pool_preferred, p_pool_forGuests, p_pool_applicantOf, p_pool_size, p_pool_guestCount, p_pool_score, p_pool_tickets, p_pool_bits, p_pool_party, p_pool_wishCount, p_pool_wishes⟩ := id p_pool
  obtain ⟨p_result_lt, p_result_o, p_result_line, p_result_unitOf, p_result_roundOf, p_result_leftTags, p_result_leftGuests, p_result_leftPreferred, p_result_ranked⟩ := id p_result
  obtain ⟨p_odds_lt, p_odds_o, p_odds_sets, p_odds_seen, p_odds_atUnit, p_odds_early, p_odds_result⟩ := id p_odds
  obtain ⟨p_paper_lt, p_paper_o, p_paper_times, p_paper_firstWish, p_paper_dry, p_paper_list, p_paper_pool, p_paper_result⟩ := id p_paper
  obtain ⟨p_trial_lt, p_trial_o, p_trial_quota, p_trial_score, p_trial_guest, p_trial_party, p_trial_wishCount, p_trial_wishes, p_trial_has⟩ := id p_trial
  obtain ⟨p_trialPool_lt, p_trialPool_o, p_trialPool_quota, p_trialPool_preferred, p_trialPool_forGuests, p_trialPool_applicantOf, p_trialPool_size, p_trialPool_guestCount, p_trialPool_score, p_trialPool_tickets, p_trialPool_bits, p_trialPool_party, p_trialPool_wishCount, p_trialPool_wishes⟩ := id p_trialPool
  obtain ⟨p_trialResult_lt, p_trialResult_o, p_trialResult_line, p_trialResult_unitOf, p_trialResult_roundOf, p_trialResult_leftTags, p_trialResult_leftGuests, p_trialResult_leftPreferred, p_trialResult_ranked⟩ := id p_trialResult
  obtain ⟨p_trialOdds_lt, p_trialOdds_o, p_trialOdds_sets, p_trialOdds_seen, p_trialOdds_atUnit, p_trialOdds_early, p_trialOdds_result⟩ := id p_trialOdds
  have J_38 : ∀ (x1_38 : Int32) (y0_38 : Int32) (M_38 : zMt), D_X7_out_38 P y0_38 M_38 = some r → Zw p l e { frames := 1, cells := 0, slots := 0, locals := 80 * (1) } s m args below meth c G b 2 (MQ below (zQ G b FQ) args s 0 0 (fun q : Nat => b ≤ q)) 0 0 38 [some (.ref (P)), some (.int x1_38)] [.int y0_38] (L, M_38, N) := by
    intro x1_38 y0_38 M_38 h
    unfold D_X7_out_38 at h
    refine a_iret X hr dX7_out_38 ⟨by decide, by decide⟩ ?_
    subst hF
    rw [← Option.some.inj h]
    exact ⟨rfl, rfl⟩
  unfold D_X7_out at h
  refine a_iload_n X dX7_out_0 rfl ?_
  refine a_if_ge (tgt := 10) X dX7_out_1 (by decide) (fun h_1 => ?_) (fun h_1 => ?_)
  · replace h := (if_pos h_1).symm.trans h
    refine a_iload_n X dX7_out_10 rfl ?_
    refine a_aload_n X dX7_out_11 rfl ?_
    refine a_geti X lf7_84 (by assumption) rfl dX7_out_12 ?_
    refine a_icmp_lt (tgt := 26) X dX7_out_15 (by decide) (fun h_15 => ?_) (fun h_15 => ?_)
    · replace h := (if_pos h_15).symm.trans h
      refine a_aload_n X dX7_out_26 rfl ?_
      refine a_aload_n X dX7_out_27 rfl ?_
      refine a_getr X lf7_13 (by assumption) rfl (by omega) dX7_out_28 ?_
      refine a_iload_n X dX7_out_31 rfl ?_
      refine a_callSv X dX7_out_32 miX7_cell lm7_175 (c_cell (by assumption) (by first | decide | assumption)) rfl rfl (Nat.le_of_ble_eq_true rfl) ⟨by decide, by decide, by decide, by decide⟩ ?_
      obtain ⟨e_35, f_35, h⟩ := zBx h
      refine a_callVv X dX7_out_35 miX7_answer lm7_134 (t_X7_answer (by assumption) f_35) (by assumption) rfl rfl rfl (Nat.le_of_ble_eq_true rfl) ⟨by decide, by decide, by decide, by decide⟩ ?_
      exact Zw.to2 (J_38 _ _ _ h) rfl rfl rfl
    · replace h := (if_neg h_15).symm.trans h
      refine a_aload_n X dX7_out_18 rfl ?_
      refine a_iconst (v := 5) X dX7_out_19 (by decide) ?_
      obtain ⟨e_20, f_20, h⟩ := zBx h
      refine a_callVv X dX7_out_20 miX7_refuse lm7_102 (t_X7_refuse (by assumption) f_20) (by assumption) rfl rfl rfl (Nat.le_of_ble_eq_true rfl) ⟨by decide, by decide, by decide, by decide⟩ ?_
      refine a_goto (tgt := 38) X dX7_out_23 (by decide) ?_
      exact Zw.to2 (J_38 _ _ _ h) rfl rfl rfl
  · replace h := (if_neg h_1).symm.trans h
    refine a_aload_n X dX7_out_4 rfl ?_
    refine a_iconst (v := 1) X dX7_out_5 (by decide) ?_
    obtain ⟨e_6, f_6, h⟩ := zBx h
    refine a_callVv X dX7_out_6 miX7_refuse lm7_102 (t_X7_refuse (by assumption) f_6) (by assumption) rfl rfl rfl (Nat.le_of_ble_eq_true rfl) ⟨by decide, by decide, by decide, by decide⟩ ?_
    refine a_iret X hr dX7_out_9 ⟨by decide, by decide⟩ ?_
    subst hF
    rw [← Option.some.inj h]
    exact ⟨rfl, rfl⟩
noncomputable def D_X8_status (P : Nat) (M : zMt) : Option (Int32 × zMt) :=
  zLt (zu M P 6 (0 : Int32)) fun M_2 =>
  some ((M_2 P 12), M_2)
set_option maxRecDepth 100000 in
set_option maxHeartbeats 4000000 in
theorem t_X8_status {l : Launch} {G : zG} {b : Nat} {L : List zC} {M : zMt} {N : zNt} {P : Nat}  (hP : LX8 L P) {r : Int32 × zMt} (h : D_X8_status P M = some r) : zM l G b yX8_status cX8_status 1 (some .int) 0 0 0 [.ref P] (L, M, N) (fun r2 z => r2 = some (.int r.1) ∧ z = (L, r.2, N)) := by
  refine zM.of miX8_status (Nat.le_of_ble_eq_true rfl) ?_
  intro p e s m args below meth c X hr hname
  generalize hF : ((fun r2 z => r2 = some (.int r.1) ∧ z = (L, r.2, N)) : Option Value → zS → Prop) = FQ
  change Zw p l e { frames := 0, cells := 0, slots := 0, locals := 80 * (0) } s m args below meth c G b 1 (MQ below (zQ G b FQ) args s 0 0 (fun q : Nat => b ≤ q)) 0 0 0 [some (.ref P)] [] (L, M, N)
  obtain ⟨p_lt, p_o, p_s, p_read, p_aside, p_kept, p_guest, p_readGuest, p_tape, p_unitName, p_hunterName, p_partyName, p_bits, p_partyOf, p_choiceAt, p_sizes, p_guestMany, p_pointsOf, p_ticketsOf, p_ord, p_given, p_roundOf, p_tags, p_guestTags, p_places, p_sumAt, p_sumFirst, p_sumRound, p_sumBoth, p_sumTags, p_isEnd, p_newPoints, p_inRow, p_out⟩ := id hP
  unfold D_X8_status at h
  refine a_aload_n X dX8_status_0 rfl ?_
  refine a_iconst (v := 0) X dX8_status_1 (by decide) ?_
  obtain ⟨M_2, f_2, h⟩ := zLtx h
  refine d_puti X lf8_119 (by assumption) rfl dX8_status_2 f_2 ?_
  refine a_aload_n X dX8_status_5 rfl ?_
  refine a_geti X lf8_122 (by assumption) rfl dX8_status_6 ?_
  refine a_iret X hr dX8_status_9 ⟨by decide, by decide⟩ ?_
  subst hF
  rw [← Option.some.inj h]
  exact ⟨rfl, rfl⟩
noncomputable def D_X8_refuse (P : Nat) (v0 : Int32) (M : zMt) : Option (Int32 × zMt) :=
  zLt (zu M P 6 (0 : Int32)) fun M_2 =>
  zLt (zu M_2 P 12 v0) fun M_7 =>
  some ((-1 : Int32), M_7)
set_option maxRecDepth 100000 in
set_option maxHeartbeats 4000000 in
theorem t_X8_refuse {l : Launch} {G : zG} {b : Nat} {L : List zC} {M : zMt} {N : zNt} {P : Nat} {v0 : Int32} (hP : LX8 L P) {r : Int32 × zMt} (h : D_X8_refuse P v0 M = some r) : zM l G b yX8_refuse cX8_refuse 2 (some .int) 0 0 0 [.ref P, .int v0] (L, M, N) (fun r2 z => r2 = some (.int r.1) ∧ z = (L, r.2, N)) := by
  refine zM.of miX8_refuse (Nat.le_of_ble_eq_true rfl) ?_
  intro p e s m args below meth c X hr hname
  generalize hF : ((fun r2 z => r2 = some (.int r.1) ∧ z = (L, r.2, N)) : Option Value → zS → Prop) = FQ
  change Zw p l e { frames := 0, cells := 0, slots := 0, locals := 80 * (0) } s m args below meth c G b 2 (MQ below (zQ G b FQ) args s 0 0 (fun q : Nat => b ≤ q)) 0 0 0 [some (.ref P), some (.int v0)] [] (L, M, N)
  obtain ⟨p_lt, p_o, p_s, p_read, p_aside, p_kept, p_guest, p_readGuest, p_tape, p_unitName, p_hunterName, p_partyName, p_bits, p_partyOf, p_choiceAt, p_sizes, p_guestMany, p_pointsOf, p_ticketsOf, p_ord, p_given, p_roundOf, p_tags, p_guestTags, p_places, p_sumAt, p_sumFirst, p_sumRound, p_sumBoth, p_sumTags, p_isEnd, p_newPoints, p_inRow, p_out⟩ := id hP
  unfold D_X8_refuse at h
  refine a_aload_n X dX8_refuse_0 rfl ?_
  refine a_iconst (v := 0) X dX8_refuse_1 (by decide) ?_
  obtain ⟨M_2, f_2, h⟩ := zLtx h
  refine d_puti X lf8_119 (by assumption) rfl dX8_refuse_2 f_2 ?_
  refine a_aload_n X dX8_refuse_5 rfl ?_
  refine a_iload_n X dX8_refuse_6 rfl ?_
  obtain ⟨M_7, f_7, h⟩ := zLtx h
  refine d_puti X lf8_122 (by assumption) rfl dX8_refuse_7 f_7 ?_
  refine a_iconst (v := -1) X dX8_refuse_10 (by decide) ?_
  refine a_iret X hr dX8_refuse_11 ⟨by decide, by decide⟩ ?_
  subst hF
  rw [← Option.some.inj h]
  exact ⟨rfl, rfl⟩
noncomputable def D_X8_gives (P : Nat) (v0 : Int32) (M : zMt) : Option (Int32 × zMt) :=
  zLt (zu M P 6 (0 : Int32)) fun M_2 =>
  zLt (zu M_2 P 12 (0 : Int32)) fun M_7 =>
  some (v0, M_7)
set_option maxRecDepth 100000 in
set_option maxHeartbeats 4000000 in
theorem t_X8_gives {l : Launch} {G : zG} {b : Nat} {L : List zC} {M : zMt} {N : zNt} {P : Nat} {v0 : Int32} (hP : LX8 L P) {r : Int32 × zMt} (h : D_X8_gives P v0 M = some r) : zM l G b yX8_gives cX8_gives 2 (some .int) 0 0 0 [.ref P, .int v0] (L, M, N) (fun r2 z => r2 = some (.int r.1) ∧ z = (L, r.2, N)) := by
  refine zM.of miX8_gives (Nat.le_of_ble_eq_true rfl) ?_
  intro p e s m args below meth c X hr hname
  generalize hF : ((fun r2 z => r2 = some (.int r.1) ∧ z = (L, r.2, N)) : Option Value → zS → Prop) = FQ
  change Zw p l e { frames := 0, cells := 0, slots := 0, locals := 80 * (0) } s m args below meth c G b 2 (MQ below (zQ G b FQ) args s 0 0 (fun q : Nat => b ≤ q)) 0 0 0 [some (.ref P), some (.int v0)] [] (L, M, N)
  obtain ⟨p_lt, p_o, p_s, p_read, p_aside, p_kept, p_guest, p_readGuest, p_tape, p_unitName, p_hunterName, p_partyName, p_bits, p_partyOf, p_choiceAt, p_sizes, p_guestMany, p_pointsOf, p_ticketsOf, p_ord, p_given, p_roundOf, p_tags, p_guestTags, p_places, p_sumAt, p_sumFirst, p_sumRound, p_sumBoth, p_sumTags, p_isEnd, p_newPoints, p_inRow, p_out⟩ := id hP
  unfold D_X8_gives at h
  refine a_aload_n X dX8_gives_0 rfl ?_
  refine a_iconst (v := 0) X dX8_gives_1 (by decide) ?_
  obtain ⟨M_2, f_2, h⟩ := zLtx h
  refine d_puti X lf8_119 (by assumption) rfl dX8_gives_2 f_2 ?_
  refine a_aload_n X dX8_gives_5 rfl ?_
  refine a_iconst (v := 0) X dX8_gives_6 (by decide) ?_
  obtain ⟨M_7, f_7, h⟩ := zLtx h
  refine d_puti X lf8_122 (by assumption) rfl dX8_gives_7 f_7 ?_
  refine a_iload_n X dX8_gives_10 rfl ?_
  refine a_iret X hr dX8_gives_11 ⟨by decide, by decide⟩ ?_
  subst hF
  rw [← Option.some.inj h]
  exact ⟨rfl, rfl⟩
noncomputable def D_X8_givesLong (P : Nat) (v0 : Int64) (M : zMt) : Option (Int64 × zMt) :=
  zLt (zu M P 6 (0 : Int32)) fun M_2 =>
  zLt (zu M_2 P 12 (0 : Int32)) fun M_7 =>
  some (v0, M_7)
set_option maxRecDepth 100000 in
set_option maxHeartbeats 4000000 in
theorem t_X8_givesLong {l : Launch} {G : zG} {b : Nat} {L : List zC} {M : zMt} {N : zNt} {P : Nat} {v0 : Int64} (hP : LX8 L P) {r : Int64 × zMt} (h : D_X8_givesLong P v0 M = some r) : zM l G b yX8_givesLong cX8_givesLong 3 (some .long) 0 0 0 [.ref P, .long v0] (L, M, N) (fun r2 z => r2 = some (.long r.1) ∧ z = (L, r.2, N)) := by
  refine zM.of miX8_givesLong (Nat.le_of_ble_eq_true rfl) ?_
  intro p e s m args below meth c X hr hname
  generalize hF : ((fun r2 z => r2 = some (.long r.1) ∧ z = (L, r.2, N)) : Option Value → zS → Prop) = FQ
  change Zw p l e { frames := 0, cells := 0, slots := 0, locals := 80 * (0) } s m args below meth c G b 3 (MQ below (zQ G b FQ) args s 0 0 (fun q : Nat => b ≤ q)) 0 0 0 [some (.ref P), some (.long v0), none] [] (L, M, N)
  obtain ⟨p_lt, p_o, p_s, p_read, p_aside, p_kept, p_guest, p_readGuest, p_tape, p_unitName, p_hunterName, p_partyName, p_bits, p_partyOf, p_choiceAt, p_sizes, p_guestMany, p_pointsOf, p_ticketsOf, p_ord, p_given, p_roundOf, p_tags, p_guestTags, p_places, p_sumAt, p_sumFirst, p_sumRound, p_sumBoth, p_sumTags, p_isEnd, p_newPoints, p_inRow, p_out⟩ := id hP
  unfold D_X8_givesLong at h
  refine a_aload_n X dX8_givesLong_0 rfl ?_
  refine a_iconst (v := 0) X dX8_givesLong_1 (by decide) ?_
  obtain ⟨M_2, f_2, h⟩ := zLtx h
  refine d_puti X lf8_119 (by assumption) rfl dX8_givesLong_2 f_2 ?_
  refine a_aload_n X dX8_givesLong_5 rfl ?_
  refine a_iconst (v := 0) X dX8_givesLong_6 (by decide) ?_
  obtain ⟨M_7, f_7, h⟩ := zLtx h
  refine d_puti X lf8_122 (by assumption) rfl dX8_givesLong_7 f_7 ?_
  refine a_lload_n X dX8_givesLong_10 rfl ?_
  refine a_lret X hr dX8_givesLong_11 ⟨by decide, by decide⟩ ?_
  subst hF
  rw [← Option.some.inj h]
  exact ⟨rfl, rfl⟩
noncomputable def D_X8_isFrom_18  (y0_18 : Int32) : Option (Int32) :=
  some (y0_18)
noncomputable def D_X8_isFrom_17   : Option (Int32) :=
  D_X8_isFrom_18 (0 : Int32)
noncomputable def D_X8_isFrom  (v0 : Int64) (v1 : Int64) (v2 : Int64) : Option (Int32) :=
  if (lg_cmp v0 v1) < 0 then
    D_X8_isFrom_17
  else
    if 0 < (lg_cmp v0 v2) then
      D_X8_isFrom_17
    else
      D_X8_isFrom_18 (1 : Int32)
set_option maxRecDepth 100000 in
set_option maxHeartbeats 4000000 in
theorem t_X8_isFrom {l : Launch} {G : zG} {b : Nat} {L : List zC} {M : zMt} {N : zNt}  {v0 : Int64} {v1 : Int64} {v2 : Int64}  {r : Int32} (h : D_X8_isFrom v0 v1 v2 = some r) : zM l G b yX8_isFrom cX8_isFrom 6 (some .boolean) 0 0 0 [.long v0, .long v1, .long v2] (L, M, N) (fun r2 z => r2 = some (.int r) ∧ z = (L, M, N) ∧ (r = 0 ∨ r = 1)) := by
  refine zM.of miX8_isFrom (Nat.le_of_ble_eq_true rfl) ?_
  intro p e s m args below meth c X hr hname
  generalize hF : ((fun r2 z => r2 = some (.int r) ∧ z = (L, M, N) ∧ (r = 0 ∨ r = 1)) : Option Value → zS → Prop) = FQ
  change Zw p l e { frames := 0, cells := 0, slots := 0, locals := 80 * (0) } s m args below meth c G b 6 (MQ below (zQ G b FQ) args s 0 0 (fun q : Nat => b ≤ q)) 0 0 0 [some (.long v0), none, some (.long v1), none, some (.long v2), none] [] (L, M, N)
  have J_18 : ∀ (x0_18 : Int64) (x2_18 : Int64) (x4_18 : Int64) (y0_18 : Int32), (y0_18 = 0 ∨ y0_18 = 1) → D_X8_isFrom_18 y0_18 = some r → Zw p l e { frames := 0, cells := 0, slots := 0, locals := 80 * (0) } s m args below meth c G b 6 (MQ below (zQ G b FQ) args s 0 0 (fun q : Nat => b ≤ q)) 0 0 18 [some (.long x0_18), none, some (.long x2_18), none, some (.long x4_18), none] [.int y0_18] (L, M, N) := by
    intro x0_18 x2_18 x4_18 y0_18 fb_y0_18 h
    unfold D_X8_isFrom_18 at h
    refine a_zret X (by first | exact Or.inl rfl | exact Or.inr rfl | assumption) hr dX8_isFrom_18 ⟨by decide, by decide⟩ ?_
    subst hF
    rw [← Option.some.inj h]
    exact ⟨rfl, rfl, (by first | exact Or.inl rfl | exact Or.inr rfl | assumption)⟩
  have J_17 : ∀ (x0_17 : Int64) (x2_17 : Int64) (x4_17 : Int64), D_X8_isFrom_17 = some r → Zw p l e { frames := 0, cells := 0, slots := 0, locals := 80 * (0) } s m args below meth c G b 6 (MQ below (zQ G b FQ) args s 0 0 (fun q : Nat => b ≤ q)) 0 0 17 [some (.long x0_17), none, some (.long x2_17), none, some (.long x4_17), none] [] (L, M, N) := by
    intro x0_17 x2_17 x4_17 h
    unfold D_X8_isFrom_17 at h
    refine a_iconst (v := 0) X dX8_isFrom_17 (by decide) ?_
    exact Zw.to2 (J_18 _ _ _ _ (by first | exact Or.inl rfl | exact Or.inr rfl | assumption) h) rfl rfl rfl
  unfold D_X8_isFrom at h
  refine a_lload_n X dX8_isFrom_0 rfl ?_
  refine a_lload_n X dX8_isFrom_1 rfl ?_
  refine a_lcmp X dX8_isFrom_2 ?_
  refine a_if_lt (tgt := 17) X dX8_isFrom_3 (by decide) (fun h_3 => ?_) (fun h_3 => ?_)
  · replace h := (if_pos h_3).symm.trans h
    exact Zw.to2 (J_17 _ _ _ h) rfl rfl rfl
  · replace h := (if_neg h_3).symm.trans h
    refine a_lload_n X dX8_isFrom_6 rfl ?_
    refine a_lload X dX8_isFrom_7 rfl ?_
    refine a_lcmp X dX8_isFrom_9 ?_
    refine a_if_gt (tgt := 17) X dX8_isFrom_10 (by decide) (fun h_10 => ?_) (fun h_10 => ?_)
    · replace h := (if_pos h_10).symm.trans h
      exact Zw.to2 (J_17 _ _ _ h) rfl rfl rfl
    · replace h := (if_neg h_10).symm.trans h
      refine a_iconst (v := 1) X dX8_isFrom_13 (by decide) ?_
      refine a_goto (tgt := 18) X dX8_isFrom_14 (by decide) ?_
      exact Zw.to2 (J_18 _ _ _ _ (by first | exact Or.inl rfl | exact Or.inr rfl | assumption) h) rfl rfl rfl
noncomputable def D_X8_has_14  (y0_14 : Int32) : Option (Int32) :=
  some (y0_14)
noncomputable def D_X8_has  (v0 : Int32) (v1 : Int32) : Option (Int32) :=
  if ((v0 >>> (v1 &&& 31)) &&& (1 : Int32)) = (1 : Int32) then
    D_X8_has_14 (1 : Int32)
  else
    D_X8_has_14 (0 : Int32)
set_option maxRecDepth 100000 in
set_option maxHeartbeats 4000000 in
theorem t_X8_has {l : Launch} {G : zG} {b : Nat} {L : List zC} {M : zMt} {N : zNt}  {v0 : Int32} {v1 : Int32}  {r : Int32} (h : D_X8_has v0 v1 = some r) : zM l G b yX8_has cX8_has 2 (some .boolean) 0 0 0 [.int v0, .int v1] (L, M, N) (fun r2 z => r2 = some (.int r) ∧ z = (L, M, N) ∧ (r = 0 ∨ r = 1)) := by
  refine zM.of miX8_has (Nat.le_of_ble_eq_true rfl) ?_
  intro p e s m args below meth c X hr hname
  generalize hF : ((fun r2 z => r2 = some (.int r) ∧ z = (L, M, N) ∧ (r = 0 ∨ r = 1)) : Option Value → zS → Prop) = FQ
  change Zw p l e { frames := 0, cells := 0, slots := 0, locals := 80 * (0) } s m args below meth c G b 2 (MQ below (zQ G b FQ) args s 0 0 (fun q : Nat => b ≤ q)) 0 0 0 [some (.int v0), some (.int v1)] [] (L, M, N)
  have J_14 : ∀ (x0_14 : Int32) (x1_14 : Int32) (y0_14 : Int32), (y0_14 = 0 ∨ y0_14 = 1) → D_X8_has_14 y0_14 = some r → Zw p l e { frames := 0, cells := 0, slots := 0, locals := 80 * (0) } s m args below meth c G b 2 (MQ below (zQ G b FQ) args s 0 0 (fun q : Nat => b ≤ q)) 0 0 14 [some (.int x0_14), some (.int x1_14)] [.int y0_14] (L, M, N) := by
    intro x0_14 x1_14 y0_14 fb_y0_14 h
    unfold D_X8_has_14 at h
    refine a_zret X (by first | exact Or.inl rfl | exact Or.inr rfl | assumption) hr dX8_has_14 ⟨by decide, by decide⟩ ?_
    subst hF
    rw [← Option.some.inj h]
    exact ⟨rfl, rfl, (by first | exact Or.inl rfl | exact Or.inr rfl | assumption)⟩
  unfold D_X8_has at h
  refine a_iload_n X dX8_has_0 rfl ?_
  refine a_iload_n X dX8_has_1 rfl ?_
  refine a_ishr X dX8_has_2 ?_
  refine a_iconst (v := 1) X dX8_has_3 (by decide) ?_
  refine a_iand X dX8_has_4 ?_
  refine a_iconst (v := 1) X dX8_has_5 (by decide) ?_
  refine a_icmp_ne (tgt := 13) X dX8_has_6 (by decide) (fun h_6 => ?_) (fun h_6 => ?_)
  · replace h := (if_neg h_6).symm.trans h
    refine a_iconst (v := 0) X dX8_has_13 (by decide) ?_
    exact Zw.to2 (J_14 _ _ _ (by first | exact Or.inl rfl | exact Or.inr rfl | assumption) h) rfl rfl rfl
  · replace h := (if_pos h_6).symm.trans h
    refine a_iconst (v := 1) X dX8_has_9 (by decide) ?_
    refine a_goto (tgt := 14) X dX8_has_10 (by decide) ?_
    exact Zw.to2 (J_14 _ _ _ (by first | exact Or.inl rfl | exact Or.inr rfl | assumption) h) rfl rfl rfl
noncomputable def D_X8_common_4  : Nat → Int32 → Int32 → Option (Int32)
  | 0, _, _ => none
  | n + 1, x2_4, x3_4 =>
    if x3_4 = 0 then
      some (x2_4)
    else
      zZ x3_4 <|
      (D_X8_common_4 n) x3_4 (x2_4 - x2_4 / x3_4 * x3_4)
noncomputable def D_X8_common  (v0 : Int32) (v1 : Int32) : Option (Int32) :=
  D_X8_common_4 zFu v0 v1
set_option maxRecDepth 100000 in
set_option maxHeartbeats 4000000 in
theorem t_X8_common {l : Launch} {G : zG} {b : Nat} {L : List zC} {M : zMt} {N : zNt}  {v0 : Int32} {v1 : Int32}  {r : Int32} (h : D_X8_common v0 v1 = some r) : zM l G b yX8_common cX8_common 5 (some .int) 0 0 0 [.int v0, .int v1] (L, M, N) (fun r2 z => r2 = some (.int r) ∧ z = (L, M, N)) := by
  refine zM.of miX8_common (Nat.le_of_ble_eq_true rfl) ?_
  intro p e s m args below meth c X hr hname
  generalize hF : ((fun r2 z => r2 = some (.int r) ∧ z = (L, M, N)) : Option Value → zS → Prop) = FQ
  change Zw p l e { frames := 0, cells := 0, slots := 0, locals := 80 * (0) } s m args below meth c G b 5 (MQ below (zQ G b FQ) args s 0 0 (fun q : Nat => b ≤ q)) 0 0 0 [some (.int v0), some (.int v1), none, none, none] [] (L, M, N)
  have L_4 : ∀ u : Nat, ∀ (x0_4 : Int32) (x1_4 : Int32) (x2_4 : Int32) (x3_4 : Int32) (x4_4 : Option Value), D_X8_common_4 u x2_4 x3_4 = some r → Zw p l e { frames := 0, cells := 0, slots := 0, locals := 80 * (0) } s m args below meth c G b 5 (MQ below (zQ G b FQ) args s 0 0 (fun q : Nat => b ≤ q)) 0 0 4 [some (.int x0_4), some (.int x1_4), some (.int x2_4), some (.int x3_4), x4_4] [] (L, M, N) := by
    intro u
    induction u with
    | zero => intro x0_4 x1_4 x2_4 x3_4 x4_4 h; cases (show none = some r from h)
    | succ u_4 ih_4 =>
      intro x0_4 x1_4 x2_4 x3_4 x4_4 h
      rw [D_X8_common_4] at h
      refine a_iload_n X dX8_common_4 rfl ?_
      refine a_if_eq (tgt := 21) X dX8_common_5 (by decide) (fun h_5 => ?_) (fun h_5 => ?_)
      · replace h := (if_pos h_5).symm.trans h
        refine a_iload_n X dX8_common_21 rfl ?_
        refine a_iret X hr dX8_common_22 ⟨by decide, by decide⟩ ?_
        subst hF
        rw [← Option.some.inj h]
        exact ⟨rfl, rfl⟩
      · replace h := (if_neg h_5).symm.trans h
        refine a_iload_n X dX8_common_8 rfl ?_
        refine a_iload_n X dX8_common_9 rfl ?_
        obtain ⟨z_10, h⟩ := zZx h
        refine a_irem X dX8_common_10 (z_10) ?_
        refine a_istore X dX8_common_11 (by decide) ?_
        refine a_iload_n X dX8_common_13 rfl ?_
        refine a_istore_n X dX8_common_14 (by decide) ?_
        refine a_iload X dX8_common_15 rfl ?_
        refine a_istore_n X dX8_common_17 (by decide) ?_
        refine a_goto (tgt := 4) X dX8_common_18 (by decide) ?_
        exact Zw.to2 (ih_4 _ _ _ _ _ h) rfl rfl rfl
  have H_4 : ∀ (x0_4 : Int32) (x1_4 : Int32) (x2_4 : Int32) (x3_4 : Int32) (x4_4 : Option Value), D_X8_common_4 zFu x2_4 x3_4 = some r → Zw p l e { frames := 0, cells := 0, slots := 0, locals := 80 * (0) } s m args below meth c G b 5 (MQ below (zQ G b FQ) args s 0 0 (fun q : Nat => b ≤ q)) 0 0 4 [some (.int x0_4), some (.int x1_4), some (.int x2_4), some (.int x3_4), x4_4] [] (L, M, N) := L_4 zFu
  unfold D_X8_common at h
  refine a_iload_n X dX8_common_0 rfl ?_
  refine a_istore_n X dX8_common_1 (by decide) ?_
  refine a_iload_n X dX8_common_2 rfl ?_
  refine a_istore_n X dX8_common_3 (by decide) ?_
  exact Zw.to2 (H_4 _ _ _ _ _ h) rfl rfl rfl
noncomputable def D_X8_begins_39 (Q : Nat) (nQ : Nat) : Nat → Int32 → zMt → Option (zMt)
  | 0, _, _ => none
  | n + 1, x1_39, M_39 =>
    if (10 : Int32) ≤ x1_39 then
      zI (69 : Int32) nQ <|
      zLt (zu M_39 Q (69 : Int32).toNatClampNeg (100 : Int32)) fun M_63 =>
      some (M_63)
    else
      zI ((72 : Int32) + x1_39) nQ <|
      zLt (zu M_39 Q ((72 : Int32) + x1_39).toNatClampNeg (-1 : Int32)) fun M_51 =>
      (D_X8_begins_39 Q nQ n) (x1_39 + 1) M_51
noncomputable def D_X8_begins_21 (Q : Nat) (nQ : Nat) : Nat → Int32 → zMt → Option (zMt)
  | 0, _, _ => none
  | n + 1, x1_21, M_21 =>
    if (62 : Int32) ≤ x1_21 then
      D_X8_begins_39 Q nQ zFu (0 : Int32) M_21
    else
      zI x1_21 nQ <|
      zLt (zu M_21 Q x1_21.toNatClampNeg (-1 : Int32)) fun M_30 =>
      (D_X8_begins_21 Q nQ n) (x1_21 + 1) M_30
noncomputable def D_X8_begins_2 (Q : Nat) (nQ : Nat) : Nat → Int32 → zMt → Option (zMt)
  | 0, _, _ => none
  | n + 1, x1_2, M_2 =>
    if (82 : Int32) ≤ x1_2 then
      D_X8_begins_21 Q nQ zFu (10 : Int32) M_2
    else
      zI x1_2 nQ <|
      zLt (zu M_2 Q x1_2.toNatClampNeg (0 : Int32)) fun M_11 =>
      (D_X8_begins_2 Q nQ n) (x1_2 + 1) M_11
noncomputable def D_X8_begins (Q : Nat) (nQ : Nat) (M : zMt) : Option (zMt) :=
  D_X8_begins_2 Q nQ zFu (0 : Int32) M
set_option maxRecDepth 100000 in
set_option maxHeartbeats 4000000 in
theorem t_X8_begins {l : Launch} {G : zG} {b : Nat} {L : List zC} {M : zMt} {N : zNt} {Q : Nat} {nQ : Nat}  (hQ : L[Q]? = some (1, nQ, [])) (lQ : nQ < 2 ^ 31) {r : zMt} (h : D_X8_begins Q nQ M = some r) : zM l G b yX8_begins cX8_begins 2 none 0 0 0 [.ref Q] (L, M, N) (fun r2 z => r2 = none ∧ z = (L, r, N)) := by
  refine zM.of miX8_begins (Nat.le_of_ble_eq_true rfl) ?_
  intro p e s m args below meth c X hr hname
  generalize hF : ((fun r2 z => r2 = none ∧ z = (L, r, N)) : Option Value → zS → Prop) = FQ
  change Zw p l e { frames := 0, cells := 0, slots := 0, locals := 80 * (0) } s m args below meth c G b 2 (MQ below (zQ G b FQ) args s 0 0 (fun q : Nat => b ≤ q)) 0 0 0 [some (.ref Q), none] [] (L, M, N)
  have L_39 : ∀ u : Nat, ∀ (x1_39 : Int32) (M_39 : zMt), D_X8_begins_39 Q nQ u x1_39 M_39 = some r → Zw p l e { frames := 0, cells := 0, slots := 0, locals := 80 * (0) } s m args below meth c G b 2 (MQ below (zQ G b FQ) args s 0 0 (fun q : Nat => b ≤ q)) 0 0 39 [some (.ref (Q)), some (.int x1_39)] [] (L, M_39, N) := by
    intro u
    induction u with
    | zero => intro x1_39 M_39 h; cases (show none = some r from h)
    | succ u_39 ih_39 =>
      intro x1_39 M_39 h
      rw [D_X8_begins_39] at h
      refine a_iload_n X dX8_begins_39 rfl ?_
      refine a_bipush (v := 10) X dX8_begins_40 (by decide) ?_
      refine a_icmp_ge (tgt := 58) X dX8_begins_42 (by decide) (fun h_42 => ?_) (fun h_42 => ?_)
      · replace h := (if_pos h_42).symm.trans h
        refine a_aload_n X dX8_begins_58 rfl ?_
        refine a_bipush (v := 69) X dX8_begins_59 (by decide) ?_
        refine a_bipush (v := 100) X dX8_begins_61 (by decide) ?_
        obtain ⟨g_63, h⟩ := zIx h
        obtain ⟨M_63, f_63, h⟩ := zLtx h
        refine d_iastore X (by assumption) g_63 dX8_begins_63 f_63 ?_
        refine a_vret X hr dX8_begins_64 ⟨by decide, by decide⟩ ?_
        subst hF
        rw [← Option.some.inj h]
        exact ⟨rfl, rfl⟩
      · replace h := (if_neg h_42).symm.trans h
        refine a_aload_n X dX8_begins_45 rfl ?_
        refine a_bipush (v := 72) X dX8_begins_46 (by decide) ?_
        refine a_iload_n X dX8_begins_48 rfl ?_
        refine a_iadd X dX8_begins_49 ?_
        refine a_iconst (v := -1) X dX8_begins_50 (by decide) ?_
        obtain ⟨g_51, h⟩ := zIx h
        obtain ⟨M_51, f_51, h⟩ := zLtx h
        refine d_iastore X (by assumption) g_51 dX8_begins_51 f_51 ?_
        refine a_iinc (v := x1_39 + 1) X dX8_begins_52 (by decide) rfl zi_1 ?_
        refine a_goto (tgt := 39) X dX8_begins_55 (by decide) ?_
        exact Zw.to2 (ih_39 _ _ h) rfl rfl rfl
  have H_39 : ∀ (x1_39 : Int32) (M_39 : zMt), D_X8_begins_39 Q nQ zFu x1_39 M_39 = some r → Zw p l e { frames := 0, cells := 0, slots := 0, locals := 80 * (0) } s m args below meth c G b 2 (MQ below (zQ G b FQ) args s 0 0 (fun q : Nat => b ≤ q)) 0 0 39 [some (.ref (Q)), some (.int x1_39)] [] (L, M_39, N) := L_39 zFu
  have L_21 : ∀ u : Nat, ∀ (x1_21 : Int32) (M_21 : zMt), D_X8_begins_21 Q nQ u x1_21 M_21 = some r → Zw p l e { frames := 0, cells := 0, slots := 0, locals := 80 * (0) } s m args below meth c G b 2 (MQ below (zQ G b FQ) args s 0 0 (fun q : Nat => b ≤ q)) 0 0 21 [some (.ref (Q)), some (.int x1_21)] [] (L, M_21, N) := by
    intro u
    induction u with
    | zero => intro x1_21 M_21 h; cases (show none = some r from h)
    | succ u_21 ih_21 =>
      intro x1_21 M_21 h
      rw [D_X8_begins_21] at h
      refine a_iload_n X dX8_begins_21 rfl ?_
      refine a_bipush (v := 62) X dX8_begins_22 (by decide) ?_
      refine a_icmp_ge (tgt := 37) X dX8_begins_24 (by decide) (fun h_24 => ?_) (fun h_24 => ?_)
      · replace h := (if_pos h_24).symm.trans h
        refine a_iconst (v := 0) X dX8_begins_37 (by decide) ?_
        refine a_istore_n X dX8_begins_38 (by decide) ?_
        exact Zw.to2 (H_39 _ _ h) rfl rfl rfl
      · replace h := (if_neg h_24).symm.trans h
        refine a_aload_n X dX8_begins_27 rfl ?_
        refine a_iload_n X dX8_begins_28 rfl ?_
        refine a_iconst (v := -1) X dX8_begins_29 (by decide) ?_
        obtain ⟨g_30, h⟩ := zIx h
        obtain ⟨M_30, f_30, h⟩ := zLtx h
        refine d_iastore X (by assumption) g_30 dX8_begins_30 f_30 ?_
        refine a_iinc (v := x1_21 + 1) X dX8_begins_31 (by decide) rfl zi_1 ?_
        refine a_goto (tgt := 21) X dX8_begins_34 (by decide) ?_
        exact Zw.to2 (ih_21 _ _ h) rfl rfl rfl
  have H_21 : ∀ (x1_21 : Int32) (M_21 : zMt), D_X8_begins_21 Q nQ zFu x1_21 M_21 = some r → Zw p l e { frames := 0, cells := 0, slots := 0, locals := 80 * (0) } s m args below meth c G b 2 (MQ below (zQ G b FQ) args s 0 0 (fun q : Nat => b ≤ q)) 0 0 21 [some (.ref (Q)), some (.int x1_21)] [] (L, M_21, N) := L_21 zFu
  have L_2 : ∀ u : Nat, ∀ (x1_2 : Int32) (M_2 : zMt), D_X8_begins_2 Q nQ u x1_2 M_2 = some r → Zw p l e { frames := 0, cells := 0, slots := 0, locals := 80 * (0) } s m args below meth c G b 2 (MQ below (zQ G b FQ) args s 0 0 (fun q : Nat => b ≤ q)) 0 0 2 [some (.ref (Q)), some (.int x1_2)] [] (L, M_2, N) := by
    intro u
    induction u with
    | zero => intro x1_2 M_2 h; cases (show none = some r from h)
    | succ u_2 ih_2 =>
      intro x1_2 M_2 h
      rw [D_X8_begins_2] at h
      refine a_iload_n X dX8_begins_2 rfl ?_
      refine a_bipush (v := 82) X dX8_begins_3 (by decide) ?_
      refine a_icmp_ge (tgt := 18) X dX8_begins_5 (by decide) (fun h_5 => ?_) (fun h_5 => ?_)
      · replace h := (if_pos h_5).symm.trans h
        refine a_bipush (v := 10) X dX8_begins_18 (by decide) ?_
        refine a_istore_n X dX8_begins_20 (by decide) ?_
        exact Zw.to2 (H_21 _ _ h) rfl rfl rfl
      · replace h := (if_neg h_5).symm.trans h
        refine a_aload_n X dX8_begins_8 rfl ?_
        refine a_iload_n X dX8_begins_9 rfl ?_
        refine a_iconst (v := 0) X dX8_begins_10 (by decide) ?_
        obtain ⟨g_11, h⟩ := zIx h
        obtain ⟨M_11, f_11, h⟩ := zLtx h
        refine d_iastore X (by assumption) g_11 dX8_begins_11 f_11 ?_
        refine a_iinc (v := x1_2 + 1) X dX8_begins_12 (by decide) rfl zi_1 ?_
        refine a_goto (tgt := 2) X dX8_begins_15 (by decide) ?_
        exact Zw.to2 (ih_2 _ _ h) rfl rfl rfl
  have H_2 : ∀ (x1_2 : Int32) (M_2 : zMt), D_X8_begins_2 Q nQ zFu x1_2 M_2 = some r → Zw p l e { frames := 0, cells := 0, slots := 0, locals := 80 * (0) } s m args below meth c G b 2 (MQ below (zQ G b FQ) args s 0 0 (fun q : Nat => b ≤ q)) 0 0 2 [some (.ref (Q)), some (.int x1_2)] [] (L, M_2, N) := L_2 zFu
  unfold D_X8_begins at h
  refine a_iconst (v := 0) X dX8_begins_0 (by decide) ?_
  refine a_istore_n X dX8_begins_1 (by decide) ?_
  exact Zw.to2 (H_2 _ _ h) rfl rfl rfl
noncomputable def D_X8_isUnit (P : Nat) (M : zMt) (v0 : Int32) : Option (Int32) :=
  zB (D_X8_isFrom (Int32.toInt64 v0) (0 : Int64) (Int32.toInt64 ((M P 7) - (1 : Int32)))) fun e_10 =>
  some (e_10)
set_option maxRecDepth 100000 in
set_option maxHeartbeats 4000000 in
theorem t_X8_isUnit {l : Launch} {G : zG} {b : Nat} {L : List zC} {M : zMt} {N : zNt} {P : Nat} {v0 : Int32} (hP : LX8 L P) {r : Int32} (h : D_X8_isUnit P M v0 = some r) : zM l G b yX8_isUnit cX8_isUnit 2 (some .boolean) 1 0 0 [.ref P, .int v0] (L, M, N) (fun r2 z => r2 = some (.int r) ∧ z = (L, M, N) ∧ (r = 0 ∨ r = 1)) := by
  refine zM.of miX8_isUnit (Nat.le_of_ble_eq_true rfl) ?_
  intro p e s m args below meth c X hr hname
  generalize hF : ((fun r2 z => r2 = some (.int r) ∧ z = (L, M, N) ∧ (r = 0 ∨ r = 1)) : Option Value → zS → Prop) = FQ
  change Zw p l e { frames := 1, cells := 0, slots := 0, locals := 80 * (1) } s m args below meth c G b 2 (MQ below (zQ G b FQ) args s 0 0 (fun q : Nat => b ≤ q)) 0 0 0 [some (.ref P), some (.int v0)] [] (L, M, N)
  obtain ⟨p_lt, p_o, p_s, p_read, p_aside, p_kept, p_guest, p_readGuest, p_tape, p_unitName, p_hunterName, p_partyName, p_bits, p_partyOf, p_choiceAt, p_sizes, p_guestMany, p_pointsOf, p_ticketsOf, p_ord, p_given, p_roundOf, p_tags, p_guestTags, p_places, p_sumAt, p_sumFirst, p_sumRound, p_sumBoth, p_sumTags, p_isEnd, p_newPoints, p_inRow, p_out⟩ := id hP
  unfold D_X8_isUnit at h
  refine a_iload_n X dX8_isUnit_0 rfl ?_
  refine a_i2l X dX8_isUnit_1 ?_
  refine a_lconst (v := 0) X dX8_isUnit_2 (by decide) ?_
  refine a_aload_n X dX8_isUnit_3 rfl ?_
  refine a_geti X lf8_125 (by assumption) rfl dX8_isUnit_4 ?_
  refine a_iconst (v := 1) X dX8_isUnit_7 (by decide) ?_
  refine a_isub X dX8_isUnit_8 ?_
  refine a_i2l X dX8_isUnit_9 ?_
  obtain ⟨e_10, f_10, h⟩ := zBx h
  refine a_callSx X dX8_isUnit_10 miX8_isFrom lm8_128 (t_X8_isFrom f_10) rfl rfl (Nat.le_of_ble_eq_true rfl) ⟨by decide, by decide, by decide, by decide⟩ (fun r_10 S_10 q_10 => ?_)
  obtain ⟨rfl, rfl, b_10⟩ := q_10
  refine a_zret X (by first | exact Or.inl rfl | exact Or.inr rfl | assumption) hr dX8_isUnit_13 ⟨by decide, by decide⟩ ?_
  subst hF
  rw [← Option.some.inj h]
  exact ⟨rfl, rfl, (by first | exact Or.inl rfl | exact Or.inr rfl | assumption)⟩
noncomputable def D_X8_isHunter (P : Nat) (M : zMt) (v0 : Int32) : Option (Int32) :=
  zB (D_X8_isFrom (Int32.toInt64 v0) (0 : Int64) (Int32.toInt64 ((M P 8) - (1 : Int32)))) fun e_10 =>
  some (e_10)
set_option maxRecDepth 100000 in
set_option maxHeartbeats 4000000 in
theorem t_X8_isHunter {l : Launch} {G : zG} {b : Nat} {L : List zC} {M : zMt} {N : zNt} {P : Nat} {v0 : Int32} (hP : LX8 L P) {r : Int32} (h : D_X8_isHunter P M v0 = some r) : zM l G b yX8_isHunter cX8_isHunter 2 (some .boolean) 1 0 0 [.ref P, .int v0] (L, M, N) (fun r2 z => r2 = some (.int r) ∧ z = (L, M, N) ∧ (r = 0 ∨ r = 1)) := by
  refine zM.of miX8_isHunter (Nat.le_of_ble_eq_true rfl) ?_
  intro p e s m args below meth c X hr hname
  generalize hF : ((fun r2 z => r2 = some (.int r) ∧ z = (L, M, N) ∧ (r = 0 ∨ r = 1)) : Option Value → zS → Prop) = FQ
  change Zw p l e { frames := 1, cells := 0, slots := 0, locals := 80 * (1) } s m args below meth c G b 2 (MQ below (zQ G b FQ) args s 0 0 (fun q : Nat => b ≤ q)) 0 0 0 [some (.ref P), some (.int v0)] [] (L, M, N)
  obtain ⟨p_lt, p_o, p_s, p_read, p_aside, p_kept, p_guest, p_readGuest, p_tape, p_unitName, p_hunterName, p_partyName, p_bits, p_partyOf, p_choiceAt, p_sizes, p_guestMany, p_pointsOf, p_ticketsOf, p_ord, p_given, p_roundOf, p_tags, p_guestTags, p_places, p_sumAt, p_sumFirst, p_sumRound, p_sumBoth, p_sumTags, p_isEnd, p_newPoints, p_inRow, p_out⟩ := id hP
  unfold D_X8_isHunter at h
  refine a_iload_n X dX8_isHunter_0 rfl ?_
  refine a_i2l X dX8_isHunter_1 ?_
  refine a_lconst (v := 0) X dX8_isHunter_2 (by decide) ?_
  refine a_aload_n X dX8_isHunter_3 rfl ?_
  refine a_geti X lf8_132 (by assumption) rfl dX8_isHunter_4 ?_
  refine a_iconst (v := 1) X dX8_isHunter_7 (by decide) ?_
  refine a_isub X dX8_isHunter_8 ?_
  refine a_i2l X dX8_isHunter_9 ?_
  obtain ⟨e_10, f_10, h⟩ := zBx h
  refine a_callSx X dX8_isHunter_10 miX8_isFrom lm8_128 (t_X8_isFrom f_10) rfl rfl (Nat.le_of_ble_eq_true rfl) ⟨by decide, by decide, by decide, by decide⟩ (fun r_10 S_10 q_10 => ?_)
  obtain ⟨rfl, rfl, b_10⟩ := q_10
  refine a_zret X (by first | exact Or.inl rfl | exact Or.inr rfl | assumption) hr dX8_isHunter_13 ⟨by decide, by decide⟩ ?_
  subst hF
  rw [← Option.some.inj h]
  exact ⟨rfl, rfl, (by first | exact Or.inl rfl | exact Or.inr rfl | assumption)⟩
noncomputable def D_X8_isParty (P : Nat) (M : zMt) (v0 : Int32) : Option (Int32) :=
  zI (70 : Int32) 82 <|
  zB (D_X8_isFrom (Int32.toInt64 v0) (0 : Int64) (Int32.toInt64 ((M (P + 1) (70 : Int32).toNatClampNeg) - (1 : Int32)))) fun e_13 =>
  some (e_13)
set_option maxRecDepth 100000 in
set_option maxHeartbeats 4000000 in
theorem t_X8_isParty {l : Launch} {G : zG} {b : Nat} {L : List zC} {M : zMt} {N : zNt} {P : Nat} {v0 : Int32} (hP : LX8 L P) {r : Int32} (h : D_X8_isParty P M v0 = some r) : zM l G b yX8_isParty cX8_isParty 2 (some .boolean) 1 0 0 [.ref P, .int v0] (L, M, N) (fun r2 z => r2 = some (.int r) ∧ z = (L, M, N) ∧ (r = 0 ∨ r = 1)) := by
  refine zM.of miX8_isParty (Nat.le_of_ble_eq_true rfl) ?_
  intro p e s m args below meth c X hr hname
  generalize hF : ((fun r2 z => r2 = some (.int r) ∧ z = (L, M, N) ∧ (r = 0 ∨ r = 1)) : Option Value → zS → Prop) = FQ
  change Zw p l e { frames := 1, cells := 0, slots := 0, locals := 80 * (1) } s m args below meth c G b 2 (MQ below (zQ G b FQ) args s 0 0 (fun q : Nat => b ≤ q)) 0 0 0 [some (.ref P), some (.int v0)] [] (L, M, N)
  obtain ⟨p_lt, p_o, p_s, p_read, p_aside, p_kept, p_guest, p_readGuest, p_tape, p_unitName, p_hunterName, p_partyName, p_bits, p_partyOf, p_choiceAt, p_sizes, p_guestMany, p_pointsOf, p_ticketsOf, p_ord, p_given, p_roundOf, p_tags, p_guestTags, p_places, p_sumAt, p_sumFirst, p_sumRound, p_sumBoth, p_sumTags, p_isEnd, p_newPoints, p_inRow, p_out⟩ := id hP
  unfold D_X8_isParty at h
  refine a_iload_n X dX8_isParty_0 rfl ?_
  refine a_i2l X dX8_isParty_1 ?_
  refine a_lconst (v := 0) X dX8_isParty_2 (by decide) ?_
  refine a_aload_n X dX8_isParty_3 rfl ?_
  refine a_getr X lf8_7 (by assumption) rfl (by omega) dX8_isParty_4 ?_
  refine a_bipush (v := 70) X dX8_isParty_7 (by decide) ?_
  obtain ⟨g_9, h⟩ := zIx h
  refine a_iaload X (by assumption) g_9 dX8_isParty_9 ?_
  refine a_iconst (v := 1) X dX8_isParty_10 (by decide) ?_
  refine a_isub X dX8_isParty_11 ?_
  refine a_i2l X dX8_isParty_12 ?_
  obtain ⟨e_13, f_13, h⟩ := zBx h
  refine a_callSx X dX8_isParty_13 miX8_isFrom lm8_128 (t_X8_isFrom f_13) rfl rfl (Nat.le_of_ble_eq_true rfl) ⟨by decide, by decide, by decide, by decide⟩ (fun r_13 S_13 q_13 => ?_)
  obtain ⟨rfl, rfl, b_13⟩ := q_13
  refine a_zret X (by first | exact Or.inl rfl | exact Or.inr rfl | assumption) hr dX8_isParty_16 ⟨by decide, by decide⟩ ?_
  subst hF
  rw [← Option.some.inj h]
  exact ⟨rfl, rfl, (by first | exact Or.inl rfl | exact Or.inr rfl | assumption)⟩
noncomputable def D_X8_isSeed  (v0 : Int32) : Option (Int32) :=
  zB (D_X8_isFrom (Int32.toInt64 v0) (0 : Int64) (999999999 : Int64)) fun e_6 =>
  some (e_6)
set_option maxRecDepth 100000 in
set_option maxHeartbeats 4000000 in
theorem t_X8_isSeed {l : Launch} {G : zG} {b : Nat} {L : List zC} {M : zMt} {N : zNt}  {v0 : Int32}  {r : Int32} (h : D_X8_isSeed v0 = some r) : zM l G b yX8_isSeed cX8_isSeed 1 (some .boolean) 1 0 0 [.int v0] (L, M, N) (fun r2 z => r2 = some (.int r) ∧ z = (L, M, N) ∧ (r = 0 ∨ r = 1)) := by
  refine zM.of miX8_isSeed (Nat.le_of_ble_eq_true rfl) ?_
  intro p e s m args below meth c X hr hname
  generalize hF : ((fun r2 z => r2 = some (.int r) ∧ z = (L, M, N) ∧ (r = 0 ∨ r = 1)) : Option Value → zS → Prop) = FQ
  change Zw p l e { frames := 1, cells := 0, slots := 0, locals := 80 * (1) } s m args below meth c G b 1 (MQ below (zQ G b FQ) args s 0 0 (fun q : Nat => b ≤ q)) 0 0 0 [some (.int v0)] [] (L, M, N)
  unfold D_X8_isSeed at h
  refine a_iload_n X dX8_isSeed_0 rfl ?_
  refine a_i2l X dX8_isSeed_1 ?_
  refine a_lconst (v := 0) X dX8_isSeed_2 (by decide) ?_
  refine a_ldc2 X dX8_isSeed_3 lk8_135 ?_
  obtain ⟨e_6, f_6, h⟩ := zBx h
  refine a_callSx X dX8_isSeed_6 miX8_isFrom lm8_128 (t_X8_isFrom f_6) rfl rfl (Nat.le_of_ble_eq_true rfl) ⟨by decide, by decide, by decide, by decide⟩ (fun r_6 S_6 q_6 => ?_)
  obtain ⟨rfl, rfl, b_6⟩ := q_6
  refine a_zret X (by first | exact Or.inl rfl | exact Or.inr rfl | assumption) hr dX8_isSeed_9 ⟨by decide, by decide⟩ ?_
  subst hF
  rw [← Option.some.inj h]
  exact ⟨rfl, rfl, (by first | exact Or.inl rfl | exact Or.inr rfl | assumption)⟩
noncomputable def D_X8_come_3 (P : Nat) : Nat → Int32 → Int32 → zMt → Option (zMt)
  | 0, _, _, _ => none
  | n + 1, x1_3, x2_3, M_3 =>
    if x2_3 < 0 then
      some (M_3)
    else
      zI (M_3 P 11) 700 <|
      zLt (zu M_3 (P + 7) (M_3 P 11).toNatClampNeg (((Int32.toUInt32 x1_3 >>> (Int32.toUInt32 x2_3 &&& Int32.toUInt32 31)).toInt32) &&& (255 : Int32))) fun M_22 =>
      zLt (zu M_22 P 11 ((M_22 P 11) + (1 : Int32))) fun M_30 =>
      (D_X8_come_3 P n) x1_3 (x2_3 + (-8)) M_30
noncomputable def D_X8_come (P : Nat) (v0 : Int32) (M : zMt) : Option (zMt) :=
  D_X8_come_3 P zFu v0 (24 : Int32) M
set_option maxRecDepth 100000 in
set_option maxHeartbeats 4000000 in
theorem t_X8_come {l : Launch} {G : zG} {b : Nat} {L : List zC} {M : zMt} {N : zNt} {P : Nat} {v0 : Int32} (hP : LX8 L P) {r : zMt} (h : D_X8_come P v0 M = some r) : zM l G b yX8_come cX8_come 3 none 0 0 0 [.ref P, .int v0] (L, M, N) (fun r2 z => r2 = none ∧ z = (L, r, N)) := by
  refine zM.of miX8_come (Nat.le_of_ble_eq_true rfl) ?_
  intro p e s m args below meth c X hr hname
  generalize hF : ((fun r2 z => r2 = none ∧ z = (L, r, N)) : Option Value → zS → Prop) = FQ
  change Zw p l e { frames := 0, cells := 0, slots := 0, locals := 80 * (0) } s m args below meth c G b 3 (MQ below (zQ G b FQ) args s 0 0 (fun q : Nat => b ≤ q)) 0 0 0 [some (.ref P), some (.int v0), none] [] (L, M, N)
  obtain ⟨p_lt, p_o, p_s, p_read, p_aside, p_kept, p_guest, p_readGuest, p_tape, p_unitName, p_hunterName, p_partyName, p_bits, p_partyOf, p_choiceAt, p_sizes, p_guestMany, p_pointsOf, p_ticketsOf, p_ord, p_given, p_roundOf, p_tags, p_guestTags, p_places, p_sumAt, p_sumFirst, p_sumRound, p_sumBoth, p_sumTags, p_isEnd, p_newPoints, p_inRow, p_out⟩ := id hP
  have L_3 : ∀ u : Nat, ∀ (x1_3 : Int32) (x2_3 : Int32) (M_3 : zMt), D_X8_come_3 P u x1_3 x2_3 M_3 = some r → Zw p l e { frames := 0, cells := 0, slots := 0, locals := 80 * (0) } s m args below meth c G b 3 (MQ below (zQ G b FQ) args s 0 0 (fun q : Nat => b ≤ q)) 0 0 3 [some (.ref (P)), some (.int x1_3), some (.int x2_3)] [] (L, M_3, N) := by
    intro u
    induction u with
    | zero => intro x1_3 x2_3 M_3 h; cases (show none = some r from h)
    | succ u_3 ih_3 =>
      intro x1_3 x2_3 M_3 h
      rw [D_X8_come_3] at h
      refine a_iload_n X dX8_come_3 rfl ?_
      refine a_if_lt (tgt := 39) X dX8_come_4 (by decide) (fun h_4 => ?_) (fun h_4 => ?_)
      · replace h := (if_pos h_4).symm.trans h
        refine a_vret X hr dX8_come_39 ⟨by decide, by decide⟩ ?_
        subst hF
        rw [← Option.some.inj h]
        exact ⟨rfl, rfl⟩
      · replace h := (if_neg h_4).symm.trans h
        refine a_aload_n X dX8_come_7 rfl ?_
        refine a_getr X lf8_29 (by assumption) rfl (by omega) dX8_come_8 ?_
        refine a_aload_n X dX8_come_11 rfl ?_
        refine a_geti X lf8_137 (by assumption) rfl dX8_come_12 ?_
        refine a_iload_n X dX8_come_15 rfl ?_
        refine a_iload_n X dX8_come_16 rfl ?_
        refine a_iushr X dX8_come_17 ?_
        refine a_sipush (v := 255) X dX8_come_18 (by decide) ?_
        refine a_iand X dX8_come_21 ?_
        obtain ⟨g_22, h⟩ := zIx h
        obtain ⟨M_22, f_22, h⟩ := zLtx h
        refine d_iastore X (by assumption) g_22 dX8_come_22 f_22 ?_
        refine a_aload_n X dX8_come_23 rfl ?_
        refine a_dup X dX8_come_24 rfl ?_
        refine a_geti X lf8_137 (by assumption) rfl dX8_come_25 ?_
        refine a_iconst (v := 1) X dX8_come_28 (by decide) ?_
        refine a_iadd X dX8_come_29 ?_
        obtain ⟨M_30, f_30, h⟩ := zLtx h
        refine d_puti X lf8_137 (by assumption) rfl dX8_come_30 f_30 ?_
        refine a_iinc (v := x2_3 + (-8)) X dX8_come_33 (by decide) rfl (by rw [show Int32.ofInt (-8) = (-8 : Int32) by decide]) ?_
        refine a_goto (tgt := 3) X dX8_come_36 (by decide) ?_
        exact Zw.to2 (ih_3 _ _ _ h) rfl rfl rfl
  have H_3 : ∀ (x1_3 : Int32) (x2_3 : Int32) (M_3 : zMt), D_X8_come_3 P zFu x1_3 x2_3 M_3 = some r → Zw p l e { frames := 0, cells := 0, slots := 0, locals := 80 * (0) } s m args below meth c G b 3 (MQ below (zQ G b FQ) args s 0 0 (fun q : Nat => b ≤ q)) 0 0 3 [some (.ref (P)), some (.int x1_3), some (.int x2_3)] [] (L, M_3, N) := L_3 zFu
  unfold D_X8_come at h
  refine a_bipush (v := 24) X dX8_come_0 (by decide) ?_
  refine a_istore_n X dX8_come_2 (by decide) ?_
  exact Zw.to2 (H_3 _ _ _ h) rfl rfl rfl
noncomputable def D_X8_feed (P : Nat) (v0 : Int32) (v1 : Int32) (v2 : Int32) (v3 : Int32) (v4 : Int32) (M : zMt) : Option (Int32 × zMt) :=
  zLt (zu M P 6 (0 : Int32)) fun M_2 =>
  if ((M_2 P 11) + (20 : Int32)) ≤ (700 : Int32) then
    zB (D_X8_come P v0 M_2) fun e_22 =>
    zB (D_X8_come P v1 e_22) fun e_27 =>
    zB (D_X8_come P v2 e_27) fun e_32 =>
    zB (D_X8_come P v3 e_32) fun e_38 =>
    zB (D_X8_come P v4 e_38) fun e_44 =>
    some ((e_44 P 11), e_44)
  else
    some ((-1 : Int32), M_2)
set_option maxRecDepth 100000 in
set_option maxHeartbeats 4000000 in
theorem t_X8_feed {l : Launch} {G : zG} {b : Nat} {L : List zC} {M : zMt} {N : zNt} {P : Nat} {v0 : Int32} {v1 : Int32} {v2 : Int32} {v3 : Int32} {v4 : Int32} (hP : LX8 L P) {r : Int32 × zMt} (h : D_X8_feed P v0 v1 v2 v3 v4 M = some r) : zM l G b yX8_feed cX8_feed 6 (some .int) 1 0 0 [.ref P, .int v0, .int v1, .int v2, .int v3, .int v4] (L, M, N) (fun r2 z => r2 = some (.int r.1) ∧ z = (L, r.2, N)) := by
  refine zM.of miX8_feed (Nat.le_of_ble_eq_true rfl) ?_
  intro p e s m args below meth c X hr hname
  generalize hF : ((fun r2 z => r2 = some (.int r.1) ∧ z = (L, r.2, N)) : Option Value → zS → Prop) = FQ
  change Zw p l e { frames := 1, cells := 0, slots := 0, locals := 80 * (1) } s m args below meth c G b 6 (MQ below (zQ G b FQ) args s 0 0 (fun q : Nat => b ≤ q)) 0 0 0 [some (.ref P), some (.int v0), some (.int v1), some (.int v2), some (.int v3), some (.int v4)] [] (L, M, N)
  obtain ⟨p_lt, p_o, p_s, p_read, p_aside, p_kept, p_guest, p_readGuest, p_tape, p_unitName, p_hunterName, p_partyName, p_bits, p_partyOf, p_choiceAt, p_sizes, p_guestMany, p_pointsOf, p_ticketsOf, p_ord, p_given, p_roundOf, p_tags, p_guestTags, p_places, p_sumAt, p_sumFirst, p_sumRound, p_sumBoth, p_sumTags, p_isEnd, p_newPoints, p_inRow, p_out⟩ := id hP
  unfold D_X8_feed at h
  refine a_aload_n X dX8_feed_0 rfl ?_
  refine a_iconst (v := 0) X dX8_feed_1 (by decide) ?_
  obtain ⟨M_2, f_2, h⟩ := zLtx h
  refine d_puti X lf8_119 (by assumption) rfl dX8_feed_2 f_2 ?_
  refine a_aload_n X dX8_feed_5 rfl ?_
  refine a_geti X lf8_137 (by assumption) rfl dX8_feed_6 ?_
  refine a_bipush (v := 20) X dX8_feed_9 (by decide) ?_
  refine a_iadd X dX8_feed_11 ?_
  refine a_sipush (v := 700) X dX8_feed_12 (by decide) ?_
  refine a_icmp_le (tgt := 20) X dX8_feed_15 (by decide) (fun h_15 => ?_) (fun h_15 => ?_)
  · replace h := (if_pos h_15).symm.trans h
    refine a_aload_n X dX8_feed_20 rfl ?_
    refine a_iload_n X dX8_feed_21 rfl ?_
    obtain ⟨e_22, f_22, h⟩ := zBx h
    refine a_callVu X dX8_feed_22 miX8_come lm8_140 (t_X8_come (by assumption) f_22) (by assumption) rfl rfl rfl (Nat.le_of_ble_eq_true rfl) ⟨by decide, by decide, by decide, by decide⟩ ?_
    refine a_aload_n X dX8_feed_25 rfl ?_
    refine a_iload_n X dX8_feed_26 rfl ?_
    obtain ⟨e_27, f_27, h⟩ := zBx h
    refine a_callVu X dX8_feed_27 miX8_come lm8_140 (t_X8_come (by assumption) f_27) (by assumption) rfl rfl rfl (Nat.le_of_ble_eq_true rfl) ⟨by decide, by decide, by decide, by decide⟩ ?_
    refine a_aload_n X dX8_feed_30 rfl ?_
    refine a_iload_n X dX8_feed_31 rfl ?_
    obtain ⟨e_32, f_32, h⟩ := zBx h
    refine a_callVu X dX8_feed_32 miX8_come lm8_140 (t_X8_come (by assumption) f_32) (by assumption) rfl rfl rfl (Nat.le_of_ble_eq_true rfl) ⟨by decide, by decide, by decide, by decide⟩ ?_
    refine a_aload_n X dX8_feed_35 rfl ?_
    refine a_iload X dX8_feed_36 rfl ?_
    obtain ⟨e_38, f_38, h⟩ := zBx h
    refine a_callVu X dX8_feed_38 miX8_come lm8_140 (t_X8_come (by assumption) f_38) (by assumption) rfl rfl rfl (Nat.le_of_ble_eq_true rfl) ⟨by decide, by decide, by decide, by decide⟩ ?_
    refine a_aload_n X dX8_feed_41 rfl ?_
    refine a_iload X dX8_feed_42 rfl ?_
    obtain ⟨e_44, f_44, h⟩ := zBx h
    refine a_callVu X dX8_feed_44 miX8_come lm8_140 (t_X8_come (by assumption) f_44) (by assumption) rfl rfl rfl (Nat.le_of_ble_eq_true rfl) ⟨by decide, by decide, by decide, by decide⟩ ?_
    refine a_aload_n X dX8_feed_47 rfl ?_
    refine a_geti X lf8_137 (by assumption) rfl dX8_feed_48 ?_
    refine a_iret X hr dX8_feed_51 ⟨by decide, by decide⟩ ?_
    subst hF
    rw [← Option.some.inj h]
    exact ⟨rfl, rfl⟩
  · replace h := (if_neg h_15).symm.trans h
    refine a_iconst (v := -1) X dX8_feed_18 (by decide) ?_
    refine a_iret X hr dX8_feed_19 ⟨by decide, by decide⟩ ?_
    subst hF
    rw [← Option.some.inj h]
    exact ⟨rfl, rfl⟩
noncomputable def D_X8_byteAt_18 (P : Nat) (M : zMt) (y0_18 : Int32) : Option (Int32) :=
  some (y0_18)
noncomputable def D_X8_byteAt (P : Nat) (M : zMt) (v0 : Int32) : Option (Int32) :=
  if (M P 15) ≤ v0 then
    D_X8_byteAt_18 P M (-1 : Int32)
  else
    zI v0 700 <|
    D_X8_byteAt_18 P M (M (P + 7) v0.toNatClampNeg)
set_option maxRecDepth 100000 in
set_option maxHeartbeats 4000000 in
theorem t_X8_byteAt {l : Launch} {G : zG} {b : Nat} {L : List zC} {M : zMt} {N : zNt} {P : Nat} {v0 : Int32} (hP : LX8 L P) {r : Int32} (h : D_X8_byteAt P M v0 = some r) : zM l G b yX8_byteAt cX8_byteAt 2 (some .int) 0 0 0 [.ref P, .int v0] (L, M, N) (fun r2 z => r2 = some (.int r) ∧ z = (L, M, N)) := by
  refine zM.of miX8_byteAt (Nat.le_of_ble_eq_true rfl) ?_
  intro p e s m args below meth c X hr hname
  generalize hF : ((fun r2 z => r2 = some (.int r) ∧ z = (L, M, N)) : Option Value → zS → Prop) = FQ
  change Zw p l e { frames := 0, cells := 0, slots := 0, locals := 80 * (0) } s m args below meth c G b 2 (MQ below (zQ G b FQ) args s 0 0 (fun q : Nat => b ≤ q)) 0 0 0 [some (.ref P), some (.int v0)] [] (L, M, N)
  obtain ⟨p_lt, p_o, p_s, p_read, p_aside, p_kept, p_guest, p_readGuest, p_tape, p_unitName, p_hunterName, p_partyName, p_bits, p_partyOf, p_choiceAt, p_sizes, p_guestMany, p_pointsOf, p_ticketsOf, p_ord, p_given, p_roundOf, p_tags, p_guestTags, p_places, p_sumAt, p_sumFirst, p_sumRound, p_sumBoth, p_sumTags, p_isEnd, p_newPoints, p_inRow, p_out⟩ := id hP
  have J_18 : ∀ (x1_18 : Int32) (y0_18 : Int32), D_X8_byteAt_18 P M y0_18 = some r → Zw p l e { frames := 0, cells := 0, slots := 0, locals := 80 * (0) } s m args below meth c G b 2 (MQ below (zQ G b FQ) args s 0 0 (fun q : Nat => b ≤ q)) 0 0 18 [some (.ref (P)), some (.int x1_18)] [.int y0_18] (L, M, N) := by
    intro x1_18 y0_18 h
    unfold D_X8_byteAt_18 at h
    refine a_iret X hr dX8_byteAt_18 ⟨by decide, by decide⟩ ?_
    subst hF
    rw [← Option.some.inj h]
    exact ⟨rfl, rfl⟩
  unfold D_X8_byteAt at h
  refine a_iload_n X dX8_byteAt_0 rfl ?_
  refine a_aload_n X dX8_byteAt_1 rfl ?_
  refine a_geti X lf8_144 (by assumption) rfl dX8_byteAt_2 ?_
  refine a_icmp_ge (tgt := 17) X dX8_byteAt_5 (by decide) (fun h_5 => ?_) (fun h_5 => ?_)
  · replace h := (if_pos h_5).symm.trans h
    refine a_iconst (v := -1) X dX8_byteAt_17 (by decide) ?_
    exact Zw.to2 (J_18 _ _ h) rfl rfl rfl
  · replace h := (if_neg h_5).symm.trans h
    refine a_aload_n X dX8_byteAt_8 rfl ?_
    refine a_getr X lf8_29 (by assumption) rfl (by omega) dX8_byteAt_9 ?_
    refine a_iload_n X dX8_byteAt_12 rfl ?_
    obtain ⟨g_13, h⟩ := zIx h
    refine a_iaload X (by assumption) g_13 dX8_byteAt_13 ?_
    refine a_goto (tgt := 18) X dX8_byteAt_14 (by decide) ?_
    exact Zw.to2 (J_18 _ _ h) rfl rfl rfl
noncomputable def D_X8_isLetter_17  (y0_17 : Int32) : Option (Int32) :=
  some (y0_17)
noncomputable def D_X8_isLetter_16   : Option (Int32) :=
  D_X8_isLetter_17 (0 : Int32)
noncomputable def D_X8_isLetter  (v0 : Int32) : Option (Int32) :=
  if v0 < (97 : Int32) then
    D_X8_isLetter_16
  else
    if (122 : Int32) < v0 then
      D_X8_isLetter_16
    else
      D_X8_isLetter_17 (1 : Int32)
set_option maxRecDepth 100000 in
set_option maxHeartbeats 4000000 in
theorem t_X8_isLetter {l : Launch} {G : zG} {b : Nat} {L : List zC} {M : zMt} {N : zNt}  {v0 : Int32}  {r : Int32} (h : D_X8_isLetter v0 = some r) : zM l G b yX8_isLetter cX8_isLetter 1 (some .boolean) 0 0 0 [.int v0] (L, M, N) (fun r2 z => r2 = some (.int r) ∧ z = (L, M, N) ∧ (r = 0 ∨ r = 1)) := by
  refine zM.of miX8_isLetter (Nat.le_of_ble_eq_true rfl) ?_
  intro p e s m args below meth c X hr hname
  generalize hF : ((fun r2 z => r2 = some (.int r) ∧ z = (L, M, N) ∧ (r = 0 ∨ r = 1)) : Option Value → zS → Prop) = FQ
  change Zw p l e { frames := 0, cells := 0, slots := 0, locals := 80 * (0) } s m args below meth c G b 1 (MQ below (zQ G b FQ) args s 0 0 (fun q : Nat => b ≤ q)) 0 0 0 [some (.int v0)] [] (L, M, N)
  have J_17 : ∀ (x0_17 : Int32) (y0_17 : Int32), (y0_17 = 0 ∨ y0_17 = 1) → D_X8_isLetter_17 y0_17 = some r → Zw p l e { frames := 0, cells := 0, slots := 0, locals := 80 * (0) } s m args below meth c G b 1 (MQ below (zQ G b FQ) args s 0 0 (fun q : Nat => b ≤ q)) 0 0 17 [some (.int x0_17)] [.int y0_17] (L, M, N) := by
    intro x0_17 y0_17 fb_y0_17 h
    unfold D_X8_isLetter_17 at h
    refine a_zret X (by first | exact Or.inl rfl | exact Or.inr rfl | assumption) hr dX8_isLetter_17 ⟨by decide, by decide⟩ ?_
    subst hF
    rw [← Option.some.inj h]
    exact ⟨rfl, rfl, (by first | exact Or.inl rfl | exact Or.inr rfl | assumption)⟩
  have J_16 : ∀ (x0_16 : Int32), D_X8_isLetter_16 = some r → Zw p l e { frames := 0, cells := 0, slots := 0, locals := 80 * (0) } s m args below meth c G b 1 (MQ below (zQ G b FQ) args s 0 0 (fun q : Nat => b ≤ q)) 0 0 16 [some (.int x0_16)] [] (L, M, N) := by
    intro x0_16 h
    unfold D_X8_isLetter_16 at h
    refine a_iconst (v := 0) X dX8_isLetter_16 (by decide) ?_
    exact Zw.to2 (J_17 _ _ (by first | exact Or.inl rfl | exact Or.inr rfl | assumption) h) rfl rfl rfl
  unfold D_X8_isLetter at h
  refine a_iload_n X dX8_isLetter_0 rfl ?_
  refine a_bipush (v := 97) X dX8_isLetter_1 (by decide) ?_
  refine a_icmp_lt (tgt := 16) X dX8_isLetter_3 (by decide) (fun h_3 => ?_) (fun h_3 => ?_)
  · replace h := (if_pos h_3).symm.trans h
    exact Zw.to2 (J_16 _ h) rfl rfl rfl
  · replace h := (if_neg h_3).symm.trans h
    refine a_iload_n X dX8_isLetter_6 rfl ?_
    refine a_bipush (v := 122) X dX8_isLetter_7 (by decide) ?_
    refine a_icmp_gt (tgt := 16) X dX8_isLetter_9 (by decide) (fun h_9 => ?_) (fun h_9 => ?_)
    · replace h := (if_pos h_9).symm.trans h
      exact Zw.to2 (J_16 _ h) rfl rfl rfl
    · replace h := (if_neg h_9).symm.trans h
      refine a_iconst (v := 1) X dX8_isLetter_12 (by decide) ?_
      refine a_goto (tgt := 17) X dX8_isLetter_13 (by decide) ?_
      exact Zw.to2 (J_17 _ _ (by first | exact Or.inl rfl | exact Or.inr rfl | assumption) h) rfl rfl rfl
noncomputable def D_X8_isDigit_17  (y0_17 : Int32) : Option (Int32) :=
  some (y0_17)
noncomputable def D_X8_isDigit_16   : Option (Int32) :=
  D_X8_isDigit_17 (0 : Int32)
noncomputable def D_X8_isDigit  (v0 : Int32) : Option (Int32) :=
  if v0 < (48 : Int32) then
    D_X8_isDigit_16
  else
    if (57 : Int32) < v0 then
      D_X8_isDigit_16
    else
      D_X8_isDigit_17 (1 : Int32)
set_option maxRecDepth 100000 in
set_option maxHeartbeats 4000000 in
theorem t_X8_isDigit {l : Launch} {G : zG} {b : Nat} {L : List zC} {M : zMt} {N : zNt}  {v0 : Int32}  {r : Int32} (h : D_X8_isDigit v0 = some r) : zM l G b yX8_isDigit cX8_isDigit 1 (some .boolean) 0 0 0 [.int v0] (L, M, N) (fun r2 z => r2 = some (.int r) ∧ z = (L, M, N) ∧ (r = 0 ∨ r = 1)) := by
  refine zM.of miX8_isDigit (Nat.le_of_ble_eq_true rfl) ?_
  intro p e s m args below meth c X hr hname
  generalize hF : ((fun r2 z => r2 = some (.int r) ∧ z = (L, M, N) ∧ (r = 0 ∨ r = 1)) : Option Value → zS → Prop) = FQ
  change Zw p l e { frames := 0, cells := 0, slots := 0, locals := 80 * (0) } s m args below meth c G b 1 (MQ below (zQ G b FQ) args s 0 0 (fun q : Nat => b ≤ q)) 0 0 0 [some (.int v0)] [] (L, M, N)
  have J_17 : ∀ (x0_17 : Int32) (y0_17 : Int32), (y0_17 = 0 ∨ y0_17 = 1) → D_X8_isDigit_17 y0_17 = some r → Zw p l e { frames := 0, cells := 0, slots := 0, locals := 80 * (0) } s m args below meth c G b 1 (MQ below (zQ G b FQ) args s 0 0 (fun q : Nat => b ≤ q)) 0 0 17 [some (.int x0_17)] [.int y0_17] (L, M, N) := by
    intro x0_17 y0_17 fb_y0_17 h
    unfold D_X8_isDigit_17 at h
    refine a_zret X (by first | exact Or.inl rfl | exact Or.inr rfl | assumption) hr dX8_isDigit_17 ⟨by decide, by decide⟩ ?_
    subst hF
    rw [← Option.some.inj h]
    exact ⟨rfl, rfl, (by first | exact Or.inl rfl | exact Or.inr rfl | assumption)⟩
  have J_16 : ∀ (x0_16 : Int32), D_X8_isDigit_16 = some r → Zw p l e { frames := 0, cells := 0, slots := 0, locals := 80 * (0) } s m args below meth c G b 1 (MQ below (zQ G b FQ) args s 0 0 (fun q : Nat => b ≤ q)) 0 0 16 [some (.int x0_16)] [] (L, M, N) := by
    intro x0_16 h
    unfold D_X8_isDigit_16 at h
    refine a_iconst (v := 0) X dX8_isDigit_16 (by decide) ?_
    exact Zw.to2 (J_17 _ _ (by first | exact Or.inl rfl | exact Or.inr rfl | assumption) h) rfl rfl rfl
  unfold D_X8_isDigit at h
  refine a_iload_n X dX8_isDigit_0 rfl ?_
  refine a_bipush (v := 48) X dX8_isDigit_1 (by decide) ?_
  refine a_icmp_lt (tgt := 16) X dX8_isDigit_3 (by decide) (fun h_3 => ?_) (fun h_3 => ?_)
  · replace h := (if_pos h_3).symm.trans h
    exact Zw.to2 (J_16 _ h) rfl rfl rfl
  · replace h := (if_neg h_3).symm.trans h
    refine a_iload_n X dX8_isDigit_6 rfl ?_
    refine a_bipush (v := 57) X dX8_isDigit_7 (by decide) ?_
    refine a_icmp_gt (tgt := 16) X dX8_isDigit_9 (by decide) (fun h_9 => ?_) (fun h_9 => ?_)
    · replace h := (if_pos h_9).symm.trans h
      exact Zw.to2 (J_16 _ h) rfl rfl rfl
    · replace h := (if_neg h_9).symm.trans h
      refine a_iconst (v := 1) X dX8_isDigit_12 (by decide) ?_
      refine a_goto (tgt := 17) X dX8_isDigit_13 (by decide) ?_
      exact Zw.to2 (J_17 _ _ (by first | exact Or.inl rfl | exact Or.inr rfl | assumption) h) rfl rfl rfl
noncomputable def D_X8_among_62 (P : Nat) (w0 : Nat) (N : zNt) (k7 : Int32 → Int64 → Int32 → Option (Int32)) (x2_62 : Int32) (x3_62 : Int64) (x5_62 : Int32) : Option (Int32) :=
  k7 x2_62 x3_62 (x5_62 + 1)
noncomputable def D_X8_among_7 (P : Nat) (w0 : Nat) (N : zNt) : Nat → Int32 → Int64 → Int32 → Option (Int32)
  | 0, _, _, _ => none
  | n + 1, x2_7, x3_7, x5_7 =>
    if (Int32.ofNat (zLen.getD w0 0)) ≤ x5_7 then
      some ((-1 : Int32))
    else
      zI x5_7 (zLen.getD w0 0) <|
      if (zCh w0 x5_7.toNatClampNeg) = (32 : Int32) then
        if (lg_cmp x3_7 (N P 24)) = 0 then
          some (x2_7)
        else
          D_X8_among_62 P w0 N (D_X8_among_7 P w0 N n) (x2_7 + 1) (0 : Int64) x5_7
      else
        D_X8_among_62 P w0 N (D_X8_among_7 P w0 N n) x2_7 ((x3_7 <<< (Int32.toInt64 (5 : Int32) &&& 63)) ||| ((Int32.toInt64 (zCh w0 x5_7.toNatClampNeg)) - (96 : Int64))) x5_7
noncomputable def D_X8_among (P : Nat) (w0 : Nat) (N : zNt)  : Option (Int32) :=
  D_X8_among_7 P w0 N zFu (0 : Int32) (0 : Int64) (0 : Int32)
set_option maxRecDepth 100000 in
set_option maxHeartbeats 4000000 in
theorem t_X8_among {l : Launch} {G : zG} {b : Nat} {L : List zC} {M : zMt} {N : zNt} {P : Nat} {w0 : Nat}  (hP : LX8 L P) (hw0 : w0 < zLit.length) {r : Int32} (h : D_X8_among P w0 N = some r) : zM l G b yX8_among cX8_among 7 (some .int) 4 0 0 [.ref P, .ref (1000000 + zKa G w0)] (L, M, N) (fun r2 z => r2 = some (.int r) ∧ z = (L, M, N)) := by
  refine zM.of miX8_among (Nat.le_of_ble_eq_true rfl) ?_
  intro p e s m args below meth c X hr hname
  generalize hF : ((fun r2 z => r2 = some (.int r) ∧ z = (L, M, N)) : Option Value → zS → Prop) = FQ
  change Zw p l e { frames := 4, cells := 0, slots := 0, locals := 80 * (4) } s m args below meth c G b 7 (MQ below (zQ G b FQ) args s 0 0 (fun q : Nat => b ≤ q)) 0 0 0 [some (.ref P), some (.ref (1000000 + zKa G w0)), none, none, none, none, none] [] (L, M, N)
  obtain ⟨p_lt, p_o, p_s, p_read, p_aside, p_kept, p_guest, p_readGuest, p_tape, p_unitName, p_hunterName, p_partyName, p_bits, p_partyOf, p_choiceAt, p_sizes, p_guestMany, p_pointsOf, p_ticketsOf, p_ord, p_given, p_roundOf, p_tags, p_guestTags, p_places, p_sumAt, p_sumFirst, p_sumRound, p_sumBoth, p_sumTags, p_isEnd, p_newPoints, p_inRow, p_out⟩ := id hP
  have L_7 : ∀ u : Nat, ∀ (x2_7 : Int32) (x3_7 : Int64) (x5_7 : Int32) (x6_7 : Option Value), D_X8_among_7 P w0 N u x2_7 x3_7 x5_7 = some r → Zw p l e { frames := 4, cells := 0, slots := 0, locals := 80 * (4) } s m args below meth c G b 7 (MQ below (zQ G b FQ) args s 0 0 (fun q : Nat => b ≤ q)) 0 0 7 [some (.ref (P)), some (.ref (1000000 + zKa G w0)), some (.int x2_7), some (.long x3_7), none, some (.int x5_7), x6_7] [] (L, M, N) := by
    intro u
    induction u with
    | zero => intro x2_7 x3_7 x5_7 x6_7 h; cases (show none = some r from h)
    | succ u_7 ih_7 =>
      have J_62 : ∀ (x2_62 : Int32) (x3_62 : Int64) (x5_62 : Int32) (x6_62 : Int32), D_X8_among_62 P w0 N (D_X8_among_7 P w0 N u_7) x2_62 x3_62 x5_62 = some r → Zw p l e { frames := 4, cells := 0, slots := 0, locals := 80 * (4) } s m args below meth c G b 7 (MQ below (zQ G b FQ) args s 0 0 (fun q : Nat => b ≤ q)) 0 0 62 [some (.ref (P)), some (.ref (1000000 + zKa G w0)), some (.int x2_62), some (.long x3_62), none, some (.int x5_62), some (.int x6_62)] [] (L, M, N) := by
        intro x2_62 x3_62 x5_62 x6_62 h
        unfold D_X8_among_62 at h
        refine a_iinc (v := x5_62 + 1) X dX8_among_62 (by decide) rfl zi_1 ?_
        refine a_goto (tgt := 7) X dX8_among_65 (by decide) ?_
        exact Zw.to2 (ih_7 _ _ _ _ h) rfl rfl rfl
      intro x2_7 x3_7 x5_7 x6_7 h
      rw [D_X8_among_7] at h
      refine a_iload X dX8_among_7 rfl ?_
      refine a_aload_n X dX8_among_9 rfl ?_
      refine a_invVs X miJ0_length_8abf5 lm8_185 (by first | assumption | decide) rfl rfl rfl (Nat.le_of_ble_eq_true rfl) ⟨by decide, by decide, by decide, by decide⟩ dX8_among_10 (c_length (by first | assumption | decide)) (fun r_10 S_10 q_10 => ?_)
      obtain ⟨rfl, rfl⟩ := q_10
      refine a_icmp_ge (tgt := 68) X dX8_among_13 (by decide) (fun h_13 => ?_) (fun h_13 => ?_)
      · replace h := (if_pos h_13).symm.trans h
        refine a_iconst (v := -1) X dX8_among_68 (by decide) ?_
        refine a_iret X hr dX8_among_69 ⟨by decide, by decide⟩ ?_
        subst hF
        rw [← Option.some.inj h]
        exact ⟨rfl, rfl⟩
      · replace h := (if_neg h_13).symm.trans h
        refine a_aload_n X dX8_among_16 rfl ?_
        refine a_iload X dX8_among_17 rfl ?_
        obtain ⟨g_19, h⟩ := zIx h
        refine a_invVs X miJ0_charAt_5068e lm8_191 (by first | assumption | decide) rfl rfl rfl (Nat.le_of_ble_eq_true rfl) ⟨by decide, by decide, by decide, by decide⟩ dX8_among_19 (t_charAt (by first | assumption | decide) g_19) (fun r_19 S_19 q_19 => ?_)
        obtain ⟨rfl, rfl⟩ := q_19
        refine a_istore X dX8_among_22 (by decide) ?_
        refine a_iload X dX8_among_24 rfl ?_
        refine a_bipush (v := 32) X dX8_among_26 (by decide) ?_
        refine a_icmp_eq (tgt := 46) X dX8_among_28 (by decide) (fun h_28 => ?_) (fun h_28 => ?_)
        · replace h := (if_pos h_28).symm.trans h
          refine a_lload_n X dX8_among_46 rfl ?_
          refine a_aload_n X dX8_among_47 rfl ?_
          refine a_getl X lf8_167 (by assumption) rfl dX8_among_48 ?_
          refine a_lcmp X dX8_among_51 ?_
          refine a_if_ne (tgt := 57) X dX8_among_52 (by decide) (fun h_52 => ?_) (fun h_52 => ?_)
          · replace h := (if_neg h_52).symm.trans h
            refine a_lconst (v := 0) X dX8_among_57 (by decide) ?_
            refine a_lstore_n X dX8_among_58 (by decide) ?_
            refine a_iinc (v := x2_7 + 1) X dX8_among_59 (by decide) rfl zi_1 ?_
            exact Zw.to2 (J_62 _ _ _ _ h) rfl rfl rfl
          · replace h := (if_pos h_52).symm.trans h
            refine a_iload_n X dX8_among_55 rfl ?_
            refine a_iret X hr dX8_among_56 ⟨by decide, by decide⟩ ?_
            subst hF
            rw [← Option.some.inj h]
            exact ⟨rfl, rfl⟩
        · replace h := (if_neg h_28).symm.trans h
          refine a_lload_n X dX8_among_31 rfl ?_
          refine a_iconst (v := 5) X dX8_among_32 (by decide) ?_
          refine a_lshl X dX8_among_33 ?_
          refine a_iload X dX8_among_34 rfl ?_
          refine a_i2l X dX8_among_36 ?_
          refine a_ldc2 X dX8_among_37 lk8_171 ?_
          refine a_lsub X dX8_among_40 ?_
          refine a_lor X dX8_among_41 ?_
          refine a_lstore_n X dX8_among_42 (by decide) ?_
          refine a_goto (tgt := 62) X dX8_among_43 (by decide) ?_
          exact Zw.to2 (J_62 _ _ _ _ h) rfl rfl rfl
  have H_7 : ∀ (x2_7 : Int32) (x3_7 : Int64) (x5_7 : Int32) (x6_7 : Option Value), D_X8_among_7 P w0 N zFu x2_7 x3_7 x5_7 = some r → Zw p l e { frames := 4, cells := 0, slots := 0, locals := 80 * (4) } s m args below meth c G b 7 (MQ below (zQ G b FQ) args s 0 0 (fun q : Nat => b ≤ q)) 0 0 7 [some (.ref (P)), some (.ref (1000000 + zKa G w0)), some (.int x2_7), some (.long x3_7), none, some (.int x5_7), x6_7] [] (L, M, N) := L_7 zFu
  unfold D_X8_among at h
  refine a_iconst (v := 0) X dX8_among_0 (by decide) ?_
  refine a_istore_n X dX8_among_1 (by decide) ?_
  refine a_lconst (v := 0) X dX8_among_2 (by decide) ?_
  refine a_lstore_n X dX8_among_3 (by decide) ?_
  refine a_iconst (v := 0) X dX8_among_4 (by decide) ?_
  refine a_istore X dX8_among_5 (by decide) ?_
  exact Zw.to2 (H_7 _ _ _ _ h) rfl rfl rfl
noncomputable def D_X8_next_320 (P : Nat) (M_320 : zMt) (N_320 : zNt) : Option (Int32 × zMt × zNt) :=
  some ((1 : Int32), M_320, N_320)
noncomputable def D_X8_next_317 (P : Nat) (y1_317 : Int32) (M_317 : zMt) (N_317 : zNt) : Option (Int32 × zMt × zNt) :=
  zLt (zu M_317 P 18 y1_317) fun M_317 =>
  D_X8_next_320 P M_317 N_317
noncomputable def D_X8_next_289 (P : Nat) (y1_289 : Int32) (M_289 : zMt) (N_289 : zNt) : Option (Int32 × zMt × zNt) :=
  zLt (zu M_289 P 18 y1_289) fun M_289 =>
  D_X8_next_320 P M_289 N_289
noncomputable def D_X8_next_257 (P : Nat) (k207 : zMt → zNt → Option (Int32 × zMt × zNt)) (M_257 : zMt) (N_257 : zNt) : Option (Int32 × zMt × zNt) :=
  zLt (zu M_257 P 17 ((M_257 P 17) + (1 : Int32))) fun M_264 =>
  k207 M_264 N_257
noncomputable def D_X8_next_207 (P : Nat) : Nat → zMt → zNt → Option (Int32 × zMt × zNt)
  | 0, _, _ => none
  | n + 1, M_207, N_207 =>
    zB (D_X8_byteAt P M_207 (M_207 P 17)) fun e_212 =>
    zB (D_X8_isDigit e_212) fun e_215 =>
    if e_215 = 0 then
      if ((M_207 P 17) - (M_207 P 16)) ≤ (3 : Int32) then
        D_X8_next_289 P (3 : Int32) M_207 N_207
      else
        D_X8_next_289 P (1 : Int32) M_207 N_207
    else
      if (3 : Int32) ≤ ((M_207 P 17) - (M_207 P 16)) then
        D_X8_next_257 P (D_X8_next_207 P n) M_207 N_207
      else
        zB (D_X8_byteAt P M_207 (M_207 P 17)) fun e_247 =>
        zLt (zu M_207 P 20 ((((10 : Int32) * (M_207 P 20)) + e_247) - (48 : Int32))) fun M_254 =>
        D_X8_next_257 P (D_X8_next_207 P n) M_254 N_207
noncomputable def D_X8_next_171 (P : Nat) (y1_171 : Int32) (M_171 : zMt) (N_171 : zNt) : Option (Int32 × zMt × zNt) :=
  zLt (zu M_171 P 18 y1_171) fun M_171 =>
  if (M_171 P 18) = (2 : Int32) then
    zB (D_X8_among P 11 N_171) fun e_186 =>
    zLt (zu M_171 P 19 e_186) fun M_189 =>
    D_X8_next_320 P M_189 N_171
  else
    D_X8_next_320 P M_171 N_171
noncomputable def D_X8_next_138 (P : Nat) (k86 : zMt → zNt → Option (Int32 × zMt × zNt)) (M_138 : zMt) (N_138 : zNt) : Option (Int32 × zMt × zNt) :=
  zLt (zu M_138 P 17 ((M_138 P 17) + (1 : Int32))) fun M_145 =>
  k86 M_145 N_138
noncomputable def D_X8_next_86 (P : Nat) : Nat → zMt → zNt → Option (Int32 × zMt × zNt)
  | 0, _, _ => none
  | n + 1, M_86, N_86 =>
    zB (D_X8_byteAt P M_86 (M_86 P 17)) fun e_91 =>
    zB (D_X8_isLetter e_91) fun e_94 =>
    if e_94 = 0 then
      if ((M_86 P 17) - (M_86 P 16)) ≤ (8 : Int32) then
        D_X8_next_171 P (2 : Int32) M_86 N_86
      else
        D_X8_next_171 P (1 : Int32) M_86 N_86
    else
      if (8 : Int32) ≤ ((M_86 P 17) - (M_86 P 16)) then
        D_X8_next_138 P (D_X8_next_86 P n) M_86 N_86
      else
        zB (D_X8_byteAt P M_86 (M_86 P 17)) fun e_126 =>
        zLt (zu N_86 P 24 (((N_86 P 24) <<< (Int32.toInt64 (5 : Int32) &&& 63)) ||| ((Int32.toInt64 e_126) - (96 : Int64)))) fun N_135 =>
        D_X8_next_138 P (D_X8_next_86 P n) M_86 N_135
noncomputable def D_X8_next_26 (P : Nat) (k0 : zMt → zNt → Option (Int32 × zMt × zNt)) (M_26 : zMt) (N_26 : zNt) : Option (Int32 × zMt × zNt) :=
  zLt (zu M_26 P 17 ((M_26 P 17) + (1 : Int32))) fun M_33 =>
  k0 M_33 N_26
noncomputable def D_X8_next_0 (P : Nat) : Nat → zMt → zNt → Option (Int32 × zMt × zNt)
  | 0, _, _ => none
  | n + 1, M_0, N_0 =>
    zB (D_X8_byteAt P M_0 (M_0 P 17)) fun e_5 =>
    if e_5 = (32 : Int32) then
      D_X8_next_26 P (D_X8_next_0 P n) M_0 N_0
    else
      zB (D_X8_byteAt P M_0 (M_0 P 17)) fun e_18 =>
      if e_18 = (10 : Int32) then
        D_X8_next_26 P (D_X8_next_0 P n) M_0 N_0
      else
        zLt (zu M_0 P 16 (M_0 P 17)) fun M_44 =>
        zLt (zu M_44 P 19 (-1 : Int32)) fun M_49 =>
        zB (D_X8_byteAt P M_49 (M_49 P 17)) fun e_57 =>
        if e_57 = (-1 : Int32) then
          zLt (zu M_49 P 18 (0 : Int32)) fun M_68 =>
          D_X8_next_320 P M_68 N_0
        else
          zB (D_X8_isLetter e_57) fun e_75 =>
          if e_75 = 0 then
            zB (D_X8_isDigit e_57) fun e_196 =>
            if e_196 = 0 then
              zLt (zu M_49 P 17 ((M_49 P 17) + (1 : Int32))) fun M_302 =>
              if e_57 = (59 : Int32) then
                D_X8_next_317 P (4 : Int32) M_302 N_0
              else
                D_X8_next_317 P (1 : Int32) M_302 N_0
            else
              zLt (zu M_49 P 20 (0 : Int32)) fun M_204 =>
              D_X8_next_207 P zFu M_204 N_0
          else
            zLt (zu N_0 P 24 (0 : Int64)) fun N_83 =>
            D_X8_next_86 P zFu M_49 N_83
noncomputable def D_X8_next (P : Nat) (M : zMt) (N : zNt) : Option (Int32 × zMt × zNt) :=
  D_X8_next_0 P zFu M N
set_option maxRecDepth 100000 in
set_option maxHeartbeats 4000000 in
theorem t_X8_next {l : Launch} {G : zG} {b : Nat} {L : List zC} {M : zMt} {N : zNt} {P : Nat}  (hP : LX8 L P) {r : Int32 × zMt × zNt} (h : D_X8_next P M N = some r) : zM l G b yX8_next cX8_next 2 (some .boolean) 5 0 0 [.ref P] (L, M, N) (fun r2 z => r2 = some (.int r.1) ∧ z = (L, r.2.1, r.2.2) ∧ (r.1 = 0 ∨ r.1 = 1)) := by
  refine zM.of miX8_next (Nat.le_of_ble_eq_true rfl) ?_
  intro p e s m args below meth c X hr hname
  generalize hF : ((fun r2 z => r2 = some (.int r.1) ∧ z = (L, r.2.1, r.2.2) ∧ (r.1 = 0 ∨ r.1 = 1)) : Option Value → zS → Prop) = FQ
  change Zw p l e { frames := 5, cells := 0, slots := 0, locals := 80 * (5) } s m args below meth c G b 2 (MQ below (zQ G b FQ) args s 0 0 (fun q : Nat => b ≤ q)) 0 0 0 [some (.ref P), none] [] (L, M, N)
  obtain ⟨p_lt, p_o, p_s, p_read, p_aside, p_kept, p_guest, p_readGuest, p_tape, p_unitName, p_hunterName, p_partyName, p_bits, p_partyOf, p_choiceAt, p_sizes, p_guestMany, p_pointsOf, p_ticketsOf, p_ord, p_given, p_roundOf, p_tags, p_guestTags, p_places, p_sumAt, p_sumFirst, p_sumRound, p_sumBoth, p_sumTags, p_isEnd, p_newPoints, p_inRow, p_out⟩ := id hP
  have J_320 : ∀ (x1_320 : Int32) (M_320 : zMt) (N_320 : zNt), D_X8_next_320 P M_320 N_320 = some r → Zw p l e { frames := 5, cells := 0, slots := 0, locals := 80 * (5) } s m args below meth c G b 2 (MQ below (zQ G b FQ) args s 0 0 (fun q : Nat => b ≤ q)) 0 0 320 [some (.ref (P)), some (.int x1_320)] [] (L, M_320, N_320) := by
    intro x1_320 M_320 N_320 h
    unfold D_X8_next_320 at h
    refine a_iconst (v := 1) X dX8_next_320 (by decide) ?_
    refine a_zret X (by first | exact Or.inl rfl | exact Or.inr rfl | assumption) hr dX8_next_321 ⟨by decide, by decide⟩ ?_
    subst hF
    rw [← Option.some.inj h]
    exact ⟨rfl, rfl, (by first | exact Or.inl rfl | exact Or.inr rfl | assumption)⟩
  have J_317 : ∀ (x1_317 : Int32) (y1_317 : Int32) (M_317 : zMt) (N_317 : zNt), D_X8_next_317 P y1_317 M_317 N_317 = some r → Zw p l e { frames := 5, cells := 0, slots := 0, locals := 80 * (5) } s m args below meth c G b 2 (MQ below (zQ G b FQ) args s 0 0 (fun q : Nat => b ≤ q)) 0 0 317 [some (.ref (P)), some (.int x1_317)] [.int y1_317, .ref (P)] (L, M_317, N_317) := by
    intro x1_317 y1_317 M_317 N_317 h
    unfold D_X8_next_317 at h
    obtain ⟨M_317, f_317, h⟩ := zLtx h
    refine d_puti X lf8_160 (by assumption) rfl dX8_next_317 f_317 ?_
    exact Zw.to2 (J_320 _ _ _ h) rfl rfl rfl
  have J_289 : ∀ (x1_289 : Int32) (y1_289 : Int32) (M_289 : zMt) (N_289 : zNt), D_X8_next_289 P y1_289 M_289 N_289 = some r → Zw p l e { frames := 5, cells := 0, slots := 0, locals := 80 * (5) } s m args below meth c G b 2 (MQ below (zQ G b FQ) args s 0 0 (fun q : Nat => b ≤ q)) 0 0 289 [some (.ref (P)), some (.int x1_289)] [.int y1_289, .ref (P)] (L, M_289, N_289) := by
    intro x1_289 y1_289 M_289 N_289 h
    unfold D_X8_next_289 at h
    obtain ⟨M_289, f_289, h⟩ := zLtx h
    refine d_puti X lf8_160 (by assumption) rfl dX8_next_289 f_289 ?_
    refine a_goto (tgt := 320) X dX8_next_292 (by decide) ?_
    exact Zw.to2 (J_320 _ _ _ h) rfl rfl rfl
  have L_207 : ∀ u : Nat, ∀ (x1_207 : Int32) (M_207 : zMt) (N_207 : zNt), D_X8_next_207 P u M_207 N_207 = some r → Zw p l e { frames := 5, cells := 0, slots := 0, locals := 80 * (5) } s m args below meth c G b 2 (MQ below (zQ G b FQ) args s 0 0 (fun q : Nat => b ≤ q)) 0 0 207 [some (.ref (P)), some (.int x1_207)] [] (L, M_207, N_207) := by
    intro u
    induction u with
    | zero => intro x1_207 M_207 N_207 h; cases (show none = some r from h)
    | succ u_207 ih_207 =>
      have J_257 : ∀ (x1_257 : Int32) (M_257 : zMt) (N_257 : zNt), D_X8_next_257 P (D_X8_next_207 P u_207) M_257 N_257 = some r → Zw p l e { frames := 5, cells := 0, slots := 0, locals := 80 * (5) } s m args below meth c G b 2 (MQ below (zQ G b FQ) args s 0 0 (fun q : Nat => b ≤ q)) 0 0 257 [some (.ref (P)), some (.int x1_257)] [] (L, M_257, N_257) := by
        intro x1_257 M_257 N_257 h
        unfold D_X8_next_257 at h
        refine a_aload_n X dX8_next_257 rfl ?_
        refine a_dup X dX8_next_258 rfl ?_
        refine a_geti X lf8_147 (by assumption) rfl dX8_next_259 ?_
        refine a_iconst (v := 1) X dX8_next_262 (by decide) ?_
        refine a_iadd X dX8_next_263 ?_
        obtain ⟨M_264, f_264, h⟩ := zLtx h
        refine d_puti X lf8_147 (by assumption) rfl dX8_next_264 f_264 ?_
        refine a_goto (tgt := 207) X dX8_next_267 (by decide) ?_
        exact Zw.to2 (ih_207 _ _ _ h) rfl rfl rfl
      intro x1_207 M_207 N_207 h
      rw [D_X8_next_207] at h
      refine a_aload_n X dX8_next_207 rfl ?_
      refine a_aload_n X dX8_next_208 rfl ?_
      refine a_geti X lf8_147 (by assumption) rfl dX8_next_209 ?_
      obtain ⟨e_212, f_212, h⟩ := zBx h
      refine a_callVv X dX8_next_212 miX8_byteAt lm8_150 (t_X8_byteAt (by assumption) f_212) (by assumption) rfl rfl rfl (Nat.le_of_ble_eq_true rfl) ⟨by decide, by decide, by decide, by decide⟩ ?_
      obtain ⟨e_215, f_215, h⟩ := zBx h
      refine a_callSx X dX8_next_215 miX8_isDigit lm8_179 (t_X8_isDigit f_215) rfl rfl (Nat.le_of_ble_eq_true rfl) ⟨by decide, by decide, by decide, by decide⟩ (fun r_215 S_215 q_215 => ?_)
      obtain ⟨rfl, rfl, b_215⟩ := q_215
      refine a_if_eq (tgt := 270) X dX8_next_218 (by decide) (fun h_218 => ?_) (fun h_218 => ?_)
      · replace h := (if_pos h_218).symm.trans h
        refine a_aload_n X dX8_next_270 rfl ?_
        refine a_aload_n X dX8_next_271 rfl ?_
        refine a_geti X lf8_147 (by assumption) rfl dX8_next_272 ?_
        refine a_aload_n X dX8_next_275 rfl ?_
        refine a_geti X lf8_154 (by assumption) rfl dX8_next_276 ?_
        refine a_isub X dX8_next_279 ?_
        refine a_iconst (v := 3) X dX8_next_280 (by decide) ?_
        refine a_icmp_le (tgt := 288) X dX8_next_281 (by decide) (fun h_281 => ?_) (fun h_281 => ?_)
        · replace h := (if_pos h_281).symm.trans h
          refine a_iconst (v := 3) X dX8_next_288 (by decide) ?_
          exact Zw.to2 (J_289 _ _ _ _ h) rfl rfl rfl
        · replace h := (if_neg h_281).symm.trans h
          refine a_iconst (v := 1) X dX8_next_284 (by decide) ?_
          refine a_goto (tgt := 289) X dX8_next_285 (by decide) ?_
          exact Zw.to2 (J_289 _ _ _ _ h) rfl rfl rfl
      · replace h := (if_neg h_218).symm.trans h
        refine a_aload_n X dX8_next_221 rfl ?_
        refine a_geti X lf8_147 (by assumption) rfl dX8_next_222 ?_
        refine a_aload_n X dX8_next_225 rfl ?_
        refine a_geti X lf8_154 (by assumption) rfl dX8_next_226 ?_
        refine a_isub X dX8_next_229 ?_
        refine a_iconst (v := 3) X dX8_next_230 (by decide) ?_
        refine a_icmp_ge (tgt := 257) X dX8_next_231 (by decide) (fun h_231 => ?_) (fun h_231 => ?_)
        · replace h := (if_pos h_231).symm.trans h
          exact Zw.to2 (J_257 _ _ _ h) rfl rfl rfl
        · replace h := (if_neg h_231).symm.trans h
          refine a_aload_n X dX8_next_234 rfl ?_
          refine a_bipush (v := 10) X dX8_next_235 (by decide) ?_
          refine a_aload_n X dX8_next_237 rfl ?_
          refine a_geti X lf8_182 (by assumption) rfl dX8_next_238 ?_
          refine a_imul X dX8_next_241 ?_
          refine a_aload_n X dX8_next_242 rfl ?_
          refine a_aload_n X dX8_next_243 rfl ?_
          refine a_geti X lf8_147 (by assumption) rfl dX8_next_244 ?_
          obtain ⟨e_247, f_247, h⟩ := zBx h
          refine a_callVv X dX8_next_247 miX8_byteAt lm8_150 (t_X8_byteAt (by assumption) f_247) (by assumption) rfl rfl rfl (Nat.le_of_ble_eq_true rfl) ⟨by decide, by decide, by decide, by decide⟩ ?_
          refine a_iadd X dX8_next_250 ?_
          refine a_bipush (v := 48) X dX8_next_251 (by decide) ?_
          refine a_isub X dX8_next_253 ?_
          obtain ⟨M_254, f_254, h⟩ := zLtx h
          refine d_puti X lf8_182 (by assumption) rfl dX8_next_254 f_254 ?_
          exact Zw.to2 (J_257 _ _ _ h) rfl rfl rfl
  have H_207 : ∀ (x1_207 : Int32) (M_207 : zMt) (N_207 : zNt), D_X8_next_207 P zFu M_207 N_207 = some r → Zw p l e { frames := 5, cells := 0, slots := 0, locals := 80 * (5) } s m args below meth c G b 2 (MQ below (zQ G b FQ) args s 0 0 (fun q : Nat => b ≤ q)) 0 0 207 [some (.ref (P)), some (.int x1_207)] [] (L, M_207, N_207) := L_207 zFu
  have J_171 : ∀ (x1_171 : Int32) (y1_171 : Int32) (M_171 : zMt) (N_171 : zNt), D_X8_next_171 P y1_171 M_171 N_171 = some r → Zw p l e { frames := 5, cells := 0, slots := 0, locals := 80 * (5) } s m args below meth c G b 2 (MQ below (zQ G b FQ) args s 0 0 (fun q : Nat => b ≤ q)) 0 0 171 [some (.ref (P)), some (.int x1_171)] [.int y1_171, .ref (P)] (L, M_171, N_171) := by
    intro x1_171 y1_171 M_171 N_171 h
    unfold D_X8_next_171 at h
    obtain ⟨M_171, f_171, h⟩ := zLtx h
    refine d_puti X lf8_160 (by assumption) rfl dX8_next_171 f_171 ?_
    refine a_aload_n X dX8_next_174 rfl ?_
    refine a_geti X lf8_160 (by assumption) rfl dX8_next_175 ?_
    refine a_iconst (v := 2) X dX8_next_178 (by decide) ?_
    refine a_icmp_ne (tgt := 320) X dX8_next_179 (by decide) (fun h_179 => ?_) (fun h_179 => ?_)
    · replace h := (if_neg h_179).symm.trans h
      exact Zw.to2 (J_320 _ _ _ h) rfl rfl rfl
    · replace h := (if_pos h_179).symm.trans h
      refine a_aload_n X dX8_next_182 rfl ?_
      refine a_aload_n X dX8_next_183 rfl ?_
      refine a_ldcS (i := 11) (q := ("TagDrawModel", 173, "unit hunter guest party asks law prefer guests ")) X rfl rfl rfl dX8_next_184 ?_
      obtain ⟨e_186, f_186, h⟩ := zBx h
      refine a_callVv X dX8_next_186 miX8_among lm8_175 (t_X8_among (by assumption) (by first | assumption | decide) f_186) (by assumption) rfl rfl rfl (Nat.le_of_ble_eq_true rfl) ⟨by decide, by decide, by decide, by decide⟩ ?_
      obtain ⟨M_189, f_189, h⟩ := zLtx h
      refine d_puti X lf8_157 (by assumption) rfl dX8_next_189 f_189 ?_
      refine a_goto (tgt := 320) X dX8_next_192 (by decide) ?_
      exact Zw.to2 (J_320 _ _ _ h) rfl rfl rfl
  have L_86 : ∀ u : Nat, ∀ (x1_86 : Int32) (M_86 : zMt) (N_86 : zNt), D_X8_next_86 P u M_86 N_86 = some r → Zw p l e { frames := 5, cells := 0, slots := 0, locals := 80 * (5) } s m args below meth c G b 2 (MQ below (zQ G b FQ) args s 0 0 (fun q : Nat => b ≤ q)) 0 0 86 [some (.ref (P)), some (.int x1_86)] [] (L, M_86, N_86) := by
    intro u
    induction u with
    | zero => intro x1_86 M_86 N_86 h; cases (show none = some r from h)
    | succ u_86 ih_86 =>
      have J_138 : ∀ (x1_138 : Int32) (M_138 : zMt) (N_138 : zNt), D_X8_next_138 P (D_X8_next_86 P u_86) M_138 N_138 = some r → Zw p l e { frames := 5, cells := 0, slots := 0, locals := 80 * (5) } s m args below meth c G b 2 (MQ below (zQ G b FQ) args s 0 0 (fun q : Nat => b ≤ q)) 0 0 138 [some (.ref (P)), some (.int x1_138)] [] (L, M_138, N_138) := by
        intro x1_138 M_138 N_138 h
        unfold D_X8_next_138 at h
        refine a_aload_n X dX8_next_138 rfl ?_
        refine a_dup X dX8_next_139 rfl ?_
        refine a_geti X lf8_147 (by assumption) rfl dX8_next_140 ?_
        refine a_iconst (v := 1) X dX8_next_143 (by decide) ?_
        refine a_iadd X dX8_next_144 ?_
        obtain ⟨M_145, f_145, h⟩ := zLtx h
        refine d_puti X lf8_147 (by assumption) rfl dX8_next_145 f_145 ?_
        refine a_goto (tgt := 86) X dX8_next_148 (by decide) ?_
        exact Zw.to2 (ih_86 _ _ _ h) rfl rfl rfl
      intro x1_86 M_86 N_86 h
      rw [D_X8_next_86] at h
      refine a_aload_n X dX8_next_86 rfl ?_
      refine a_aload_n X dX8_next_87 rfl ?_
      refine a_geti X lf8_147 (by assumption) rfl dX8_next_88 ?_
      obtain ⟨e_91, f_91, h⟩ := zBx h
      refine a_callVv X dX8_next_91 miX8_byteAt lm8_150 (t_X8_byteAt (by assumption) f_91) (by assumption) rfl rfl rfl (Nat.le_of_ble_eq_true rfl) ⟨by decide, by decide, by decide, by decide⟩ ?_
      obtain ⟨e_94, f_94, h⟩ := zBx h
      refine a_callSx X dX8_next_94 miX8_isLetter lm8_163 (t_X8_isLetter f_94) rfl rfl (Nat.le_of_ble_eq_true rfl) ⟨by decide, by decide, by decide, by decide⟩ (fun r_94 S_94 q_94 => ?_)
      obtain ⟨rfl, rfl, b_94⟩ := q_94
      refine a_if_eq (tgt := 151) X dX8_next_97 (by decide) (fun h_97 => ?_) (fun h_97 => ?_)
      · replace h := (if_pos h_97).symm.trans h
        refine a_aload_n X dX8_next_151 rfl ?_
        refine a_aload_n X dX8_next_152 rfl ?_
        refine a_geti X lf8_147 (by assumption) rfl dX8_next_153 ?_
        refine a_aload_n X dX8_next_156 rfl ?_
        refine a_geti X lf8_154 (by assumption) rfl dX8_next_157 ?_
        refine a_isub X dX8_next_160 ?_
        refine a_bipush (v := 8) X dX8_next_161 (by decide) ?_
        refine a_icmp_le (tgt := 170) X dX8_next_163 (by decide) (fun h_163 => ?_) (fun h_163 => ?_)
        · replace h := (if_pos h_163).symm.trans h
          refine a_iconst (v := 2) X dX8_next_170 (by decide) ?_
          exact Zw.to2 (J_171 _ _ _ _ h) rfl rfl rfl
        · replace h := (if_neg h_163).symm.trans h
          refine a_iconst (v := 1) X dX8_next_166 (by decide) ?_
          refine a_goto (tgt := 171) X dX8_next_167 (by decide) ?_
          exact Zw.to2 (J_171 _ _ _ _ h) rfl rfl rfl
      · replace h := (if_neg h_97).symm.trans h
        refine a_aload_n X dX8_next_100 rfl ?_
        refine a_geti X lf8_147 (by assumption) rfl dX8_next_101 ?_
        refine a_aload_n X dX8_next_104 rfl ?_
        refine a_geti X lf8_154 (by assumption) rfl dX8_next_105 ?_
        refine a_isub X dX8_next_108 ?_
        refine a_bipush (v := 8) X dX8_next_109 (by decide) ?_
        refine a_icmp_ge (tgt := 138) X dX8_next_111 (by decide) (fun h_111 => ?_) (fun h_111 => ?_)
        · replace h := (if_pos h_111).symm.trans h
          exact Zw.to2 (J_138 _ _ _ h) rfl rfl rfl
        · replace h := (if_neg h_111).symm.trans h
          refine a_aload_n X dX8_next_114 rfl ?_
          refine a_aload_n X dX8_next_115 rfl ?_
          refine a_getl X lf8_167 (by assumption) rfl dX8_next_116 ?_
          refine a_iconst (v := 5) X dX8_next_119 (by decide) ?_
          refine a_lshl X dX8_next_120 ?_
          refine a_aload_n X dX8_next_121 rfl ?_
          refine a_aload_n X dX8_next_122 rfl ?_
          refine a_geti X lf8_147 (by assumption) rfl dX8_next_123 ?_
          obtain ⟨e_126, f_126, h⟩ := zBx h
          refine a_callVv X dX8_next_126 miX8_byteAt lm8_150 (t_X8_byteAt (by assumption) f_126) (by assumption) rfl rfl rfl (Nat.le_of_ble_eq_true rfl) ⟨by decide, by decide, by decide, by decide⟩ ?_
          refine a_i2l X dX8_next_129 ?_
          refine a_ldc2 X dX8_next_130 lk8_171 ?_
          refine a_lsub X dX8_next_133 ?_
          refine a_lor X dX8_next_134 ?_
          obtain ⟨N_135, f_135, h⟩ := zLtx h
          refine d_putl X lf8_167 (by assumption) rfl dX8_next_135 f_135 ?_
          exact Zw.to2 (J_138 _ _ _ h) rfl rfl rfl
  have H_86 : ∀ (x1_86 : Int32) (M_86 : zMt) (N_86 : zNt), D_X8_next_86 P zFu M_86 N_86 = some r → Zw p l e { frames := 5, cells := 0, slots := 0, locals := 80 * (5) } s m args below meth c G b 2 (MQ below (zQ G b FQ) args s 0 0 (fun q : Nat => b ≤ q)) 0 0 86 [some (.ref (P)), some (.int x1_86)] [] (L, M_86, N_86) := L_86 zFu
  have L_0 : ∀ u : Nat, ∀ (x1_0 : Option Value) (M_0 : zMt) (N_0 : zNt), D_X8_next_0 P u M_0 N_0 = some r → Zw p l e { frames := 5, cells := 0, slots := 0, locals := 80 * (5) } s m args below meth c G b 2 (MQ below (zQ G b FQ) args s 0 0 (fun q : Nat => b ≤ q)) 0 0 0 [some (.ref (P)), x1_0] [] (L, M_0, N_0) := by
    intro u
    induction u with
    | zero => intro x1_0 M_0 N_0 h; cases (show none = some r from h)
    | succ u_0 ih_0 =>
      have J_26 : ∀ (x1_26 : Option Value) (M_26 : zMt) (N_26 : zNt), D_X8_next_26 P (D_X8_next_0 P u_0) M_26 N_26 = some r → Zw p l e { frames := 5, cells := 0, slots := 0, locals := 80 * (5) } s m args below meth c G b 2 (MQ below (zQ G b FQ) args s 0 0 (fun q : Nat => b ≤ q)) 0 0 26 [some (.ref (P)), x1_26] [] (L, M_26, N_26) := by
        intro x1_26 M_26 N_26 h
        unfold D_X8_next_26 at h
        refine a_aload_n X dX8_next_26 rfl ?_
        refine a_dup X dX8_next_27 rfl ?_
        refine a_geti X lf8_147 (by assumption) rfl dX8_next_28 ?_
        refine a_iconst (v := 1) X dX8_next_31 (by decide) ?_
        refine a_iadd X dX8_next_32 ?_
        obtain ⟨M_33, f_33, h⟩ := zLtx h
        refine d_puti X lf8_147 (by assumption) rfl dX8_next_33 f_33 ?_
        refine a_goto (tgt := 0) X dX8_next_36 (by decide) ?_
        exact Zw.to2 (ih_0 _ _ _ h) rfl rfl rfl
      intro x1_0 M_0 N_0 h
      rw [D_X8_next_0] at h
      refine a_aload_n X dX8_next_0 rfl ?_
      refine a_aload_n X dX8_next_1 rfl ?_
      refine a_geti X lf8_147 (by assumption) rfl dX8_next_2 ?_
      obtain ⟨e_5, f_5, h⟩ := zBx h
      refine a_callVv X dX8_next_5 miX8_byteAt lm8_150 (t_X8_byteAt (by assumption) f_5) (by assumption) rfl rfl rfl (Nat.le_of_ble_eq_true rfl) ⟨by decide, by decide, by decide, by decide⟩ ?_
      refine a_bipush (v := 32) X dX8_next_8 (by decide) ?_
      refine a_icmp_eq (tgt := 26) X dX8_next_10 (by decide) (fun h_10 => ?_) (fun h_10 => ?_)
      · replace h := (if_pos h_10).symm.trans h
        exact Zw.to2 (J_26 _ _ _ h) rfl rfl rfl
      · replace h := (if_neg h_10).symm.trans h
        refine a_aload_n X dX8_next_13 rfl ?_
        refine a_aload_n X dX8_next_14 rfl ?_
        refine a_geti X lf8_147 (by assumption) rfl dX8_next_15 ?_
        obtain ⟨e_18, f_18, h⟩ := zBx h
        refine a_callVv X dX8_next_18 miX8_byteAt lm8_150 (t_X8_byteAt (by assumption) f_18) (by assumption) rfl rfl rfl (Nat.le_of_ble_eq_true rfl) ⟨by decide, by decide, by decide, by decide⟩ ?_
        refine a_bipush (v := 10) X dX8_next_21 (by decide) ?_
        refine a_icmp_ne (tgt := 39) X dX8_next_23 (by decide) (fun h_23 => ?_) (fun h_23 => ?_)
        · replace h := (if_neg h_23).symm.trans h
          refine a_aload_n X dX8_next_39 rfl ?_
          refine a_aload_n X dX8_next_40 rfl ?_
          refine a_geti X lf8_147 (by assumption) rfl dX8_next_41 ?_
          obtain ⟨M_44, f_44, h⟩ := zLtx h
          refine d_puti X lf8_154 (by assumption) rfl dX8_next_44 f_44 ?_
          refine a_aload_n X dX8_next_47 rfl ?_
          refine a_iconst (v := -1) X dX8_next_48 (by decide) ?_
          obtain ⟨M_49, f_49, h⟩ := zLtx h
          refine d_puti X lf8_157 (by assumption) rfl dX8_next_49 f_49 ?_
          refine a_aload_n X dX8_next_52 rfl ?_
          refine a_aload_n X dX8_next_53 rfl ?_
          refine a_geti X lf8_147 (by assumption) rfl dX8_next_54 ?_
          obtain ⟨e_57, f_57, h⟩ := zBx h
          refine a_callVv X dX8_next_57 miX8_byteAt lm8_150 (t_X8_byteAt (by assumption) f_57) (by assumption) rfl rfl rfl (Nat.le_of_ble_eq_true rfl) ⟨by decide, by decide, by decide, by decide⟩ ?_
          refine a_istore_n X dX8_next_60 (by decide) ?_
          refine a_iload_n X dX8_next_61 rfl ?_
          refine a_iconst (v := -1) X dX8_next_62 (by decide) ?_
          refine a_icmp_ne (tgt := 74) X dX8_next_63 (by decide) (fun h_63 => ?_) (fun h_63 => ?_)
          · replace h := (if_neg h_63).symm.trans h
            refine a_iload_n X dX8_next_74 rfl ?_
            obtain ⟨e_75, f_75, h⟩ := zBx h
            refine a_callSx X dX8_next_75 miX8_isLetter lm8_163 (t_X8_isLetter f_75) rfl rfl (Nat.le_of_ble_eq_true rfl) ⟨by decide, by decide, by decide, by decide⟩ (fun r_75 S_75 q_75 => ?_)
            obtain ⟨rfl, rfl, b_75⟩ := q_75
            refine a_if_eq (tgt := 195) X dX8_next_78 (by decide) (fun h_78 => ?_) (fun h_78 => ?_)
            · replace h := (if_pos h_78).symm.trans h
              refine a_iload_n X dX8_next_195 rfl ?_
              obtain ⟨e_196, f_196, h⟩ := zBx h
              refine a_callSx X dX8_next_196 miX8_isDigit lm8_179 (t_X8_isDigit f_196) rfl rfl (Nat.le_of_ble_eq_true rfl) ⟨by decide, by decide, by decide, by decide⟩ (fun r_196 S_196 q_196 => ?_)
              obtain ⟨rfl, rfl, b_196⟩ := q_196
              refine a_if_eq (tgt := 295) X dX8_next_199 (by decide) (fun h_199 => ?_) (fun h_199 => ?_)
              · replace h := (if_pos h_199).symm.trans h
                refine a_aload_n X dX8_next_295 rfl ?_
                refine a_dup X dX8_next_296 rfl ?_
                refine a_geti X lf8_147 (by assumption) rfl dX8_next_297 ?_
                refine a_iconst (v := 1) X dX8_next_300 (by decide) ?_
                refine a_iadd X dX8_next_301 ?_
                obtain ⟨M_302, f_302, h⟩ := zLtx h
                refine d_puti X lf8_147 (by assumption) rfl dX8_next_302 f_302 ?_
                refine a_aload_n X dX8_next_305 rfl ?_
                refine a_iload_n X dX8_next_306 rfl ?_
                refine a_bipush (v := 59) X dX8_next_307 (by decide) ?_
                refine a_icmp_ne (tgt := 316) X dX8_next_309 (by decide) (fun h_309 => ?_) (fun h_309 => ?_)
                · replace h := (if_neg h_309).symm.trans h
                  refine a_iconst (v := 1) X dX8_next_316 (by decide) ?_
                  exact Zw.to2 (J_317 _ _ _ _ h) rfl rfl rfl
                · replace h := (if_pos h_309).symm.trans h
                  refine a_iconst (v := 4) X dX8_next_312 (by decide) ?_
                  refine a_goto (tgt := 317) X dX8_next_313 (by decide) ?_
                  exact Zw.to2 (J_317 _ _ _ _ h) rfl rfl rfl
              · replace h := (if_neg h_199).symm.trans h
                refine a_aload_n X dX8_next_202 rfl ?_
                refine a_iconst (v := 0) X dX8_next_203 (by decide) ?_
                obtain ⟨M_204, f_204, h⟩ := zLtx h
                refine d_puti X lf8_182 (by assumption) rfl dX8_next_204 f_204 ?_
                exact Zw.to2 (H_207 _ _ _ h) rfl rfl rfl
            · replace h := (if_neg h_78).symm.trans h
              refine a_aload_n X dX8_next_81 rfl ?_
              refine a_lconst (v := 0) X dX8_next_82 (by decide) ?_
              obtain ⟨N_83, f_83, h⟩ := zLtx h
              refine d_putl X lf8_167 (by assumption) rfl dX8_next_83 f_83 ?_
              exact Zw.to2 (H_86 _ _ _ h) rfl rfl rfl
          · replace h := (if_pos h_63).symm.trans h
            refine a_aload_n X dX8_next_66 rfl ?_
            refine a_iconst (v := 0) X dX8_next_67 (by decide) ?_
            obtain ⟨M_68, f_68, h⟩ := zLtx h
            refine d_puti X lf8_160 (by assumption) rfl dX8_next_68 f_68 ?_
            refine a_goto (tgt := 320) X dX8_next_71 (by decide) ?_
            exact Zw.to2 (J_320 _ _ _ h) rfl rfl rfl
        · replace h := (if_pos h_23).symm.trans h
          exact Zw.to2 (J_26 _ _ _ h) rfl rfl rfl
  have H_0 : ∀ (x1_0 : Option Value) (M_0 : zMt) (N_0 : zNt), D_X8_next_0 P zFu M_0 N_0 = some r → Zw p l e { frames := 5, cells := 0, slots := 0, locals := 80 * (5) } s m args below meth c G b 2 (MQ below (zQ G b FQ) args s 0 0 (fun q : Nat => b ≤ q)) 0 0 0 [some (.ref (P)), x1_0] [] (L, M_0, N_0) := L_0 zFu
  unfold D_X8_next at h
  exact Zw.to2 (H_0 _ _ _ h) rfl rfl rfl
noncomputable def D_X8_bad_14 (P : Nat) (y1_14 : Int32) (M_14 : zMt) : Option (Int32 × zMt) :=
  zLt (zu M_14 P 21 y1_14) fun M_14 =>
  zLt (zu M_14 P 22 (M_14 P 16)) fun M_22 =>
  some ((0 : Int32), M_22)
noncomputable def D_X8_bad (P : Nat) (v0 : Int32) (M : zMt) : Option (Int32 × zMt) :=
  if (M P 18) = (1 : Int32) then
    D_X8_bad_14 P (1 : Int32) M
  else
    D_X8_bad_14 P v0 M
set_option maxRecDepth 100000 in
set_option maxHeartbeats 4000000 in
theorem t_X8_bad {l : Launch} {G : zG} {b : Nat} {L : List zC} {M : zMt} {N : zNt} {P : Nat} {v0 : Int32} (hP : LX8 L P) {r : Int32 × zMt} (h : D_X8_bad P v0 M = some r) : zM l G b yX8_bad cX8_bad 2 (some .boolean) 0 0 0 [.ref P, .int v0] (L, M, N) (fun r2 z => r2 = some (.int r.1) ∧ z = (L, r.2, N) ∧ (r.1 = 0 ∨ r.1 = 1)) := by
  refine zM.of miX8_bad (Nat.le_of_ble_eq_true rfl) ?_
  intro p e s m args below meth c X hr hname
  generalize hF : ((fun r2 z => r2 = some (.int r.1) ∧ z = (L, r.2, N) ∧ (r.1 = 0 ∨ r.1 = 1)) : Option Value → zS → Prop) = FQ
  change Zw p l e { frames := 0, cells := 0, slots := 0, locals := 80 * (0) } s m args below meth c G b 2 (MQ below (zQ G b FQ) args s 0 0 (fun q : Nat => b ≤ q)) 0 0 0 [some (.ref P), some (.int v0)] [] (L, M, N)
  obtain ⟨p_lt, p_o, p_s, p_read, p_aside, p_kept, p_guest, p_readGuest, p_tape, p_unitName, p_hunterName, p_partyName, p_bits, p_partyOf, p_choiceAt, p_sizes, p_guestMany, p_pointsOf, p_ticketsOf, p_ord, p_given, p_roundOf, p_tags, p_guestTags, p_places, p_sumAt, p_sumFirst, p_sumRound, p_sumBoth, p_sumTags, p_isEnd, p_newPoints, p_inRow, p_out⟩ := id hP
  have J_14 : ∀ (x1_14 : Int32) (y1_14 : Int32) (M_14 : zMt), D_X8_bad_14 P y1_14 M_14 = some r → Zw p l e { frames := 0, cells := 0, slots := 0, locals := 80 * (0) } s m args below meth c G b 2 (MQ below (zQ G b FQ) args s 0 0 (fun q : Nat => b ≤ q)) 0 0 14 [some (.ref (P)), some (.int x1_14)] [.int y1_14, .ref (P)] (L, M_14, N) := by
    intro x1_14 y1_14 M_14 h
    unfold D_X8_bad_14 at h
    obtain ⟨M_14, f_14, h⟩ := zLtx h
    refine d_puti X lf8_195 (by assumption) rfl dX8_bad_14 f_14 ?_
    refine a_aload_n X dX8_bad_17 rfl ?_
    refine a_aload_n X dX8_bad_18 rfl ?_
    refine a_geti X lf8_154 (by assumption) rfl dX8_bad_19 ?_
    obtain ⟨M_22, f_22, h⟩ := zLtx h
    refine d_puti X lf8_198 (by assumption) rfl dX8_bad_22 f_22 ?_
    refine a_iconst (v := 0) X dX8_bad_25 (by decide) ?_
    refine a_zret X (by first | exact Or.inl rfl | exact Or.inr rfl | assumption) hr dX8_bad_26 ⟨by decide, by decide⟩ ?_
    subst hF
    rw [← Option.some.inj h]
    exact ⟨rfl, rfl, (by first | exact Or.inl rfl | exact Or.inr rfl | assumption)⟩
  unfold D_X8_bad at h
  refine a_aload_n X dX8_bad_0 rfl ?_
  refine a_aload_n X dX8_bad_1 rfl ?_
  refine a_geti X lf8_160 (by assumption) rfl dX8_bad_2 ?_
  refine a_iconst (v := 1) X dX8_bad_5 (by decide) ?_
  refine a_icmp_ne (tgt := 13) X dX8_bad_6 (by decide) (fun h_6 => ?_) (fun h_6 => ?_)
  · replace h := (if_neg h_6).symm.trans h
    refine a_iload_n X dX8_bad_13 rfl ?_
    exact Zw.to2 (J_14 _ _ _ h) rfl rfl rfl
  · replace h := (if_pos h_6).symm.trans h
    refine a_iconst (v := 1) X dX8_bad_9 (by decide) ?_
    refine a_goto (tgt := 14) X dX8_bad_10 (by decide) ?_
    exact Zw.to2 (J_14 _ _ _ h) rfl rfl rfl
noncomputable def D_X8_isName_21 (P : Nat) (M : zMt) (y0_21 : Int32) : Option (Int32) :=
  some (y0_21)
noncomputable def D_X8_isName_20 (P : Nat) (M : zMt)  : Option (Int32) :=
  D_X8_isName_21 P M (0 : Int32)
noncomputable def D_X8_isName (P : Nat) (M : zMt)  : Option (Int32) :=
  if (M P 18) = (2 : Int32) then
    if (M P 19) = (-1 : Int32) then
      D_X8_isName_21 P M (1 : Int32)
    else
      D_X8_isName_20 P M
  else
    D_X8_isName_20 P M
set_option maxRecDepth 100000 in
set_option maxHeartbeats 4000000 in
theorem t_X8_isName {l : Launch} {G : zG} {b : Nat} {L : List zC} {M : zMt} {N : zNt} {P : Nat}  (hP : LX8 L P) {r : Int32} (h : D_X8_isName P M = some r) : zM l G b yX8_isName cX8_isName 1 (some .boolean) 0 0 0 [.ref P] (L, M, N) (fun r2 z => r2 = some (.int r) ∧ z = (L, M, N) ∧ (r = 0 ∨ r = 1)) := by
  refine zM.of miX8_isName (Nat.le_of_ble_eq_true rfl) ?_
  intro p e s m args below meth c X hr hname
  generalize hF : ((fun r2 z => r2 = some (.int r) ∧ z = (L, M, N) ∧ (r = 0 ∨ r = 1)) : Option Value → zS → Prop) = FQ
  change Zw p l e { frames := 0, cells := 0, slots := 0, locals := 80 * (0) } s m args below meth c G b 1 (MQ below (zQ G b FQ) args s 0 0 (fun q : Nat => b ≤ q)) 0 0 0 [some (.ref P)] [] (L, M, N)
  obtain ⟨p_lt, p_o, p_s, p_read, p_aside, p_kept, p_guest, p_readGuest, p_tape, p_unitName, p_hunterName, p_partyName, p_bits, p_partyOf, p_choiceAt, p_sizes, p_guestMany, p_pointsOf, p_ticketsOf, p_ord, p_given, p_roundOf, p_tags, p_guestTags, p_places, p_sumAt, p_sumFirst, p_sumRound, p_sumBoth, p_sumTags, p_isEnd, p_newPoints, p_inRow, p_out⟩ := id hP
  have J_21 : ∀ (y0_21 : Int32), (y0_21 = 0 ∨ y0_21 = 1) → D_X8_isName_21 P M y0_21 = some r → Zw p l e { frames := 0, cells := 0, slots := 0, locals := 80 * (0) } s m args below meth c G b 1 (MQ below (zQ G b FQ) args s 0 0 (fun q : Nat => b ≤ q)) 0 0 21 [some (.ref (P))] [.int y0_21] (L, M, N) := by
    intro y0_21 fb_y0_21 h
    unfold D_X8_isName_21 at h
    refine a_zret X (by first | exact Or.inl rfl | exact Or.inr rfl | assumption) hr dX8_isName_21 ⟨by decide, by decide⟩ ?_
    subst hF
    rw [← Option.some.inj h]
    exact ⟨rfl, rfl, (by first | exact Or.inl rfl | exact Or.inr rfl | assumption)⟩
  have J_20 : D_X8_isName_20 P M = some r → Zw p l e { frames := 0, cells := 0, slots := 0, locals := 80 * (0) } s m args below meth c G b 1 (MQ below (zQ G b FQ) args s 0 0 (fun q : Nat => b ≤ q)) 0 0 20 [some (.ref (P))] [] (L, M, N) := by
    intro h
    unfold D_X8_isName_20 at h
    refine a_iconst (v := 0) X dX8_isName_20 (by decide) ?_
    exact Zw.to2 (J_21 _ (by first | exact Or.inl rfl | exact Or.inr rfl | assumption) h) rfl rfl rfl
  unfold D_X8_isName at h
  refine a_aload_n X dX8_isName_0 rfl ?_
  refine a_geti X lf8_160 (by assumption) rfl dX8_isName_1 ?_
  refine a_iconst (v := 2) X dX8_isName_4 (by decide) ?_
  refine a_icmp_ne (tgt := 20) X dX8_isName_5 (by decide) (fun h_5 => ?_) (fun h_5 => ?_)
  · replace h := (if_neg h_5).symm.trans h
    exact Zw.to2 (J_20 h) rfl rfl rfl
  · replace h := (if_pos h_5).symm.trans h
    refine a_aload_n X dX8_isName_8 rfl ?_
    refine a_geti X lf8_157 (by assumption) rfl dX8_isName_9 ?_
    refine a_iconst (v := -1) X dX8_isName_12 (by decide) ?_
    refine a_icmp_ne (tgt := 20) X dX8_isName_13 (by decide) (fun h_13 => ?_) (fun h_13 => ?_)
    · replace h := (if_neg h_13).symm.trans h
      exact Zw.to2 (J_20 h) rfl rfl rfl
    · replace h := (if_pos h_13).symm.trans h
      refine a_iconst (v := 1) X dX8_isName_16 (by decide) ?_
      refine a_goto (tgt := 21) X dX8_isName_17 (by decide) ?_
      exact Zw.to2 (J_21 _ (by first | exact Or.inl rfl | exact Or.inr rfl | assumption) h) rfl rfl rfl
noncomputable def D_X8_found_3 (Q : Nat) (nQ : Nat) (N : zNt) : Nat → Int32 → Int64 → Int32 → Option (Int32)
  | 0, _, _, _ => none
  | n + 1, x1_3, x2_3, x4_3 =>
    if x1_3 ≤ x4_3 then
      some ((-1 : Int32))
    else
      zI x4_3 nQ <|
      if (lg_cmp (N Q x4_3.toNatClampNeg) x2_3) = 0 then
        some (x4_3)
      else
        (D_X8_found_3 Q nQ N n) x1_3 x2_3 (x4_3 + 1)
noncomputable def D_X8_found (Q : Nat) (nQ : Nat) (N : zNt) (v0 : Int32) (v1 : Int64) : Option (Int32) :=
  D_X8_found_3 Q nQ N zFu v0 v1 (0 : Int32)
set_option maxRecDepth 100000 in
set_option maxHeartbeats 4000000 in
theorem t_X8_found {l : Launch} {G : zG} {b : Nat} {L : List zC} {M : zMt} {N : zNt} {Q : Nat} {nQ : Nat} {v0 : Int32} {v1 : Int64} (hQ : L[Q]? = some (3, nQ, [])) (lQ : nQ < 2 ^ 31) {r : Int32} (h : D_X8_found Q nQ N v0 v1 = some r) : zM l G b yX8_found cX8_found 5 (some .int) 0 0 0 [.ref Q, .int v0, .long v1] (L, M, N) (fun r2 z => r2 = some (.int r) ∧ z = (L, M, N)) := by
  refine zM.of miX8_found (Nat.le_of_ble_eq_true rfl) ?_
  intro p e s m args below meth c X hr hname
  generalize hF : ((fun r2 z => r2 = some (.int r) ∧ z = (L, M, N)) : Option Value → zS → Prop) = FQ
  change Zw p l e { frames := 0, cells := 0, slots := 0, locals := 80 * (0) } s m args below meth c G b 5 (MQ below (zQ G b FQ) args s 0 0 (fun q : Nat => b ≤ q)) 0 0 0 [some (.ref Q), some (.int v0), some (.long v1), none, none] [] (L, M, N)
  have L_3 : ∀ u : Nat, ∀ (x1_3 : Int32) (x2_3 : Int64) (x4_3 : Int32), D_X8_found_3 Q nQ N u x1_3 x2_3 x4_3 = some r → Zw p l e { frames := 0, cells := 0, slots := 0, locals := 80 * (0) } s m args below meth c G b 5 (MQ below (zQ G b FQ) args s 0 0 (fun q : Nat => b ≤ q)) 0 0 3 [some (.ref (Q)), some (.int x1_3), some (.long x2_3), none, some (.int x4_3)] [] (L, M, N) := by
    intro u
    induction u with
    | zero => intro x1_3 x2_3 x4_3 h; cases (show none = some r from h)
    | succ u_3 ih_3 =>
      intro x1_3 x2_3 x4_3 h
      rw [D_X8_found_3] at h
      refine a_iload X dX8_found_3 rfl ?_
      refine a_iload_n X dX8_found_5 rfl ?_
      refine a_icmp_ge (tgt := 27) X dX8_found_6 (by decide) (fun h_6 => ?_) (fun h_6 => ?_)
      · replace h := (if_pos h_6).symm.trans h
        refine a_iconst (v := -1) X dX8_found_27 (by decide) ?_
        refine a_iret X hr dX8_found_28 ⟨by decide, by decide⟩ ?_
        subst hF
        rw [← Option.some.inj h]
        exact ⟨rfl, rfl⟩
      · replace h := (if_neg h_6).symm.trans h
        refine a_aload_n X dX8_found_9 rfl ?_
        refine a_iload X dX8_found_10 rfl ?_
        obtain ⟨g_12, h⟩ := zIx h
        refine a_laload X (by assumption) g_12 dX8_found_12 ?_
        refine a_lload_n X dX8_found_13 rfl ?_
        refine a_lcmp X dX8_found_14 ?_
        refine a_if_ne (tgt := 21) X dX8_found_15 (by decide) (fun h_15 => ?_) (fun h_15 => ?_)
        · replace h := (if_neg h_15).symm.trans h
          refine a_iinc (v := x4_3 + 1) X dX8_found_21 (by decide) rfl zi_1 ?_
          refine a_goto (tgt := 3) X dX8_found_24 (by decide) ?_
          exact Zw.to2 (ih_3 _ _ _ h) rfl rfl rfl
        · replace h := (if_pos h_15).symm.trans h
          refine a_iload X dX8_found_18 rfl ?_
          refine a_iret X hr dX8_found_20 ⟨by decide, by decide⟩ ?_
          subst hF
          rw [← Option.some.inj h]
          exact ⟨rfl, rfl⟩
  have H_3 : ∀ (x1_3 : Int32) (x2_3 : Int64) (x4_3 : Int32), D_X8_found_3 Q nQ N zFu x1_3 x2_3 x4_3 = some r → Zw p l e { frames := 0, cells := 0, slots := 0, locals := 80 * (0) } s m args below meth c G b 5 (MQ below (zQ G b FQ) args s 0 0 (fun q : Nat => b ≤ q)) 0 0 3 [some (.ref (Q)), some (.int x1_3), some (.long x2_3), none, some (.int x4_3)] [] (L, M, N) := L_3 zFu
  unfold D_X8_found at h
  refine a_iconst (v := 0) X dX8_found_0 (by decide) ?_
  refine a_istore X dX8_found_1 (by decide) ?_
  exact Zw.to2 (H_3 _ _ _ h) rfl rfl rfl
noncomputable def D_X8_isTaken_62 (P : Nat) (M : zMt) (N : zNt) (y0_62 : Int32) : Option (Int32) :=
  some (y0_62)
noncomputable def D_X8_isTaken_57 (P : Nat) (M : zMt) (N : zNt)  : Option (Int32) :=
  D_X8_isTaken_62 P M N (1 : Int32)
noncomputable def D_X8_isTaken (P : Nat) (M : zMt) (N : zNt)  : Option (Int32) :=
  zB (D_X8_found (P + 8) 5 N (M P 28) (N P 24)) fun e_12 =>
  if e_12 = (-1 : Int32) then
    zB (D_X8_found (P + 9) 10 N (M P 29) (N P 24)) fun e_31 =>
    if e_31 = (-1 : Int32) then
      zB (D_X8_found (P + 10) 4 N (M P 30) (N P 24)) fun e_50 =>
      if e_50 = (-1 : Int32) then
        D_X8_isTaken_62 P M N (0 : Int32)
      else
        D_X8_isTaken_57 P M N
    else
      D_X8_isTaken_57 P M N
  else
    D_X8_isTaken_57 P M N
set_option maxRecDepth 100000 in
set_option maxHeartbeats 4000000 in
theorem t_X8_isTaken {l : Launch} {G : zG} {b : Nat} {L : List zC} {M : zMt} {N : zNt} {P : Nat}  (hP : LX8 L P) {r : Int32} (h : D_X8_isTaken P M N = some r) : zM l G b yX8_isTaken cX8_isTaken 1 (some .boolean) 1 0 0 [.ref P] (L, M, N) (fun r2 z => r2 = some (.int r) ∧ z = (L, M, N) ∧ (r = 0 ∨ r = 1)) := by
  refine zM.of miX8_isTaken (Nat.le_of_ble_eq_true rfl) ?_
  intro p e s m args below meth c X hr hname
  generalize hF : ((fun r2 z => r2 = some (.int r) ∧ z = (L, M, N) ∧ (r = 0 ∨ r = 1)) : Option Value → zS → Prop) = FQ
  change Zw p l e { frames := 1, cells := 0, slots := 0, locals := 80 * (1) } s m args below meth c G b 1 (MQ below (zQ G b FQ) args s 0 0 (fun q : Nat => b ≤ q)) 0 0 0 [some (.ref P)] [] (L, M, N)
  obtain ⟨p_lt, p_o, p_s, p_read, p_aside, p_kept, p_guest, p_readGuest, p_tape, p_unitName, p_hunterName, p_partyName, p_bits, p_partyOf, p_choiceAt, p_sizes, p_guestMany, p_pointsOf, p_ticketsOf, p_ord, p_given, p_roundOf, p_tags, p_guestTags, p_places, p_sumAt, p_sumFirst, p_sumRound, p_sumBoth, p_sumTags, p_isEnd, p_newPoints, p_inRow, p_out⟩ := id hP
  have J_62 : ∀ (y0_62 : Int32), (y0_62 = 0 ∨ y0_62 = 1) → D_X8_isTaken_62 P M N y0_62 = some r → Zw p l e { frames := 1, cells := 0, slots := 0, locals := 80 * (1) } s m args below meth c G b 1 (MQ below (zQ G b FQ) args s 0 0 (fun q : Nat => b ≤ q)) 0 0 62 [some (.ref (P))] [.int y0_62] (L, M, N) := by
    intro y0_62 fb_y0_62 h
    unfold D_X8_isTaken_62 at h
    refine a_zret X (by first | exact Or.inl rfl | exact Or.inr rfl | assumption) hr dX8_isTaken_62 ⟨by decide, by decide⟩ ?_
    subst hF
    rw [← Option.some.inj h]
    exact ⟨rfl, rfl, (by first | exact Or.inl rfl | exact Or.inr rfl | assumption)⟩
  have J_57 : D_X8_isTaken_57 P M N = some r → Zw p l e { frames := 1, cells := 0, slots := 0, locals := 80 * (1) } s m args below meth c G b 1 (MQ below (zQ G b FQ) args s 0 0 (fun q : Nat => b ≤ q)) 0 0 57 [some (.ref (P))] [] (L, M, N) := by
    intro h
    unfold D_X8_isTaken_57 at h
    refine a_iconst (v := 1) X dX8_isTaken_57 (by decide) ?_
    refine a_goto (tgt := 62) X dX8_isTaken_58 (by decide) ?_
    exact Zw.to2 (J_62 _ (by first | exact Or.inl rfl | exact Or.inr rfl | assumption) h) rfl rfl rfl
  unfold D_X8_isTaken at h
  refine a_aload_n X dX8_isTaken_0 rfl ?_
  refine a_getr X lf8_39 (by assumption) rfl (by omega) dX8_isTaken_1 ?_
  refine a_aload_n X dX8_isTaken_4 rfl ?_
  refine a_geti X lf8_201 (by assumption) rfl dX8_isTaken_5 ?_
  refine a_aload_n X dX8_isTaken_8 rfl ?_
  refine a_getl X lf8_167 (by assumption) rfl dX8_isTaken_9 ?_
  obtain ⟨e_12, f_12, h⟩ := zBx h
  refine a_callSv X dX8_isTaken_12 miX8_found lm8_204 (t_X8_found (by assumption) (by first | decide | assumption) f_12) rfl rfl (Nat.le_of_ble_eq_true rfl) ⟨by decide, by decide, by decide, by decide⟩ ?_
  refine a_iconst (v := -1) X dX8_isTaken_15 (by decide) ?_
  refine a_icmp_ne (tgt := 57) X dX8_isTaken_16 (by decide) (fun h_16 => ?_) (fun h_16 => ?_)
  · replace h := (if_neg h_16).symm.trans h
    exact Zw.to2 (J_57 h) rfl rfl rfl
  · replace h := (if_pos h_16).symm.trans h
    refine a_aload_n X dX8_isTaken_19 rfl ?_
    refine a_getr X lf8_43 (by assumption) rfl (by omega) dX8_isTaken_20 ?_
    refine a_aload_n X dX8_isTaken_23 rfl ?_
    refine a_geti X lf8_208 (by assumption) rfl dX8_isTaken_24 ?_
    refine a_aload_n X dX8_isTaken_27 rfl ?_
    refine a_getl X lf8_167 (by assumption) rfl dX8_isTaken_28 ?_
    obtain ⟨e_31, f_31, h⟩ := zBx h
    refine a_callSv X dX8_isTaken_31 miX8_found lm8_204 (t_X8_found (by assumption) (by first | decide | assumption) f_31) rfl rfl (Nat.le_of_ble_eq_true rfl) ⟨by decide, by decide, by decide, by decide⟩ ?_
    refine a_iconst (v := -1) X dX8_isTaken_34 (by decide) ?_
    refine a_icmp_ne (tgt := 57) X dX8_isTaken_35 (by decide) (fun h_35 => ?_) (fun h_35 => ?_)
    · replace h := (if_neg h_35).symm.trans h
      exact Zw.to2 (J_57 h) rfl rfl rfl
    · replace h := (if_pos h_35).symm.trans h
      refine a_aload_n X dX8_isTaken_38 rfl ?_
      refine a_getr X lf8_46 (by assumption) rfl (by omega) dX8_isTaken_39 ?_
      refine a_aload_n X dX8_isTaken_42 rfl ?_
      refine a_geti X lf8_211 (by assumption) rfl dX8_isTaken_43 ?_
      refine a_aload_n X dX8_isTaken_46 rfl ?_
      refine a_getl X lf8_167 (by assumption) rfl dX8_isTaken_47 ?_
      obtain ⟨e_50, f_50, h⟩ := zBx h
      refine a_callSv X dX8_isTaken_50 miX8_found lm8_204 (t_X8_found (by assumption) (by first | decide | assumption) f_50) rfl rfl (Nat.le_of_ble_eq_true rfl) ⟨by decide, by decide, by decide, by decide⟩ ?_
      refine a_iconst (v := -1) X dX8_isTaken_53 (by decide) ?_
      refine a_icmp_eq (tgt := 61) X dX8_isTaken_54 (by decide) (fun h_54 => ?_) (fun h_54 => ?_)
      · replace h := (if_pos h_54).symm.trans h
        refine a_iconst (v := 0) X dX8_isTaken_61 (by decide) ?_
        exact Zw.to2 (J_62 _ (by first | exact Or.inl rfl | exact Or.inr rfl | assumption) h) rfl rfl rfl
      · replace h := (if_neg h_54).symm.trans h
        exact Zw.to2 (J_57 h) rfl rfl rfl
noncomputable def D_X8_number (P : Nat) (v0 : Int32) (v1 : Int32) (M : zMt) (N : zNt) : Option (Int32 × zMt × zNt) :=
  if (M P 18) = (3 : Int32) then
    zB (D_X8_isFrom (Int32.toInt64 (M P 20)) (Int32.toInt64 v0) (Int32.toInt64 v1)) fun e_23 =>
    if e_23 = 0 then
      zB (D_X8_bad P (3 : Int32) M) fun e_31 =>
      some (e_31.1, e_31.2, N)
    else
      zLt (zu M P 31 (M P 20)) fun M_40 =>
      zB (D_X8_next P M_40 N) fun e_44 =>
      some (e_44.1, e_44.2.1, e_44.2.2)
  else
    zB (D_X8_bad P (2 : Int32) M) fun e_10 =>
    some (e_10.1, e_10.2, N)
set_option maxRecDepth 100000 in
set_option maxHeartbeats 4000000 in
theorem t_X8_number {l : Launch} {G : zG} {b : Nat} {L : List zC} {M : zMt} {N : zNt} {P : Nat} {v0 : Int32} {v1 : Int32} (hP : LX8 L P) {r : Int32 × zMt × zNt} (h : D_X8_number P v0 v1 M N = some r) : zM l G b yX8_number cX8_number 3 (some .boolean) 6 0 0 [.ref P, .int v0, .int v1] (L, M, N) (fun r2 z => r2 = some (.int r.1) ∧ z = (L, r.2.1, r.2.2) ∧ (r.1 = 0 ∨ r.1 = 1)) := by
  refine zM.of miX8_number (Nat.le_of_ble_eq_true rfl) ?_
  intro p e s m args below meth c X hr hname
  generalize hF : ((fun r2 z => r2 = some (.int r.1) ∧ z = (L, r.2.1, r.2.2) ∧ (r.1 = 0 ∨ r.1 = 1)) : Option Value → zS → Prop) = FQ
  change Zw p l e { frames := 6, cells := 0, slots := 0, locals := 80 * (6) } s m args below meth c G b 3 (MQ below (zQ G b FQ) args s 0 0 (fun q : Nat => b ≤ q)) 0 0 0 [some (.ref P), some (.int v0), some (.int v1)] [] (L, M, N)
  obtain ⟨p_lt, p_o, p_s, p_read, p_aside, p_kept, p_guest, p_readGuest, p_tape, p_unitName, p_hunterName, p_partyName, p_bits, p_partyOf, p_choiceAt, p_sizes, p_guestMany, p_pointsOf, p_ticketsOf, p_ord, p_given, p_roundOf, p_tags, p_guestTags, p_places, p_sumAt, p_sumFirst, p_sumRound, p_sumBoth, p_sumTags, p_isEnd, p_newPoints, p_inRow, p_out⟩ := id hP
  unfold D_X8_number at h
  refine a_aload_n X dX8_number_0 rfl ?_
  refine a_geti X lf8_160 (by assumption) rfl dX8_number_1 ?_
  refine a_iconst (v := 3) X dX8_number_4 (by decide) ?_
  refine a_icmp_eq (tgt := 14) X dX8_number_5 (by decide) (fun h_5 => ?_) (fun h_5 => ?_)
  · replace h := (if_pos h_5).symm.trans h
    refine a_aload_n X dX8_number_14 rfl ?_
    refine a_geti X lf8_182 (by assumption) rfl dX8_number_15 ?_
    refine a_i2l X dX8_number_18 ?_
    refine a_iload_n X dX8_number_19 rfl ?_
    refine a_i2l X dX8_number_20 ?_
    refine a_iload_n X dX8_number_21 rfl ?_
    refine a_i2l X dX8_number_22 ?_
    obtain ⟨e_23, f_23, h⟩ := zBx h
    refine a_callSx X dX8_number_23 miX8_isFrom lm8_128 (t_X8_isFrom f_23) rfl rfl (Nat.le_of_ble_eq_true rfl) ⟨by decide, by decide, by decide, by decide⟩ (fun r_23 S_23 q_23 => ?_)
    obtain ⟨rfl, rfl, b_23⟩ := q_23
    refine a_if_ne (tgt := 35) X dX8_number_26 (by decide) (fun h_26 => ?_) (fun h_26 => ?_)
    · replace h := (if_neg h_26).symm.trans h
      refine a_aload_n X dX8_number_35 rfl ?_
      refine a_aload_n X dX8_number_36 rfl ?_
      refine a_geti X lf8_182 (by assumption) rfl dX8_number_37 ?_
      obtain ⟨M_40, f_40, h⟩ := zLtx h
      refine d_puti X lf8_217 (by assumption) rfl dX8_number_40 f_40 ?_
      refine a_aload_n X dX8_number_43 rfl ?_
      obtain ⟨e_44, f_44, h⟩ := zBx h
      refine a_callVx X dX8_number_44 miX8_next lm8_220 (t_X8_next (by assumption) f_44) (by assumption) rfl rfl rfl (Nat.le_of_ble_eq_true rfl) ⟨by decide, by decide, by decide, by decide⟩ (fun r_44 S_44 q_44 => ?_)
      obtain ⟨rfl, rfl, b_44⟩ := q_44
      refine a_zret X (by first | exact Or.inl rfl | exact Or.inr rfl | assumption) hr dX8_number_47 ⟨by decide, by decide⟩ ?_
      subst hF
      rw [← Option.some.inj h]
      exact ⟨rfl, rfl, (by first | exact Or.inl rfl | exact Or.inr rfl | assumption)⟩
    · replace h := (if_pos h_26).symm.trans h
      refine a_aload_n X dX8_number_29 rfl ?_
      refine a_iconst (v := 3) X dX8_number_30 (by decide) ?_
      obtain ⟨e_31, f_31, h⟩ := zBx h
      refine a_callVx X dX8_number_31 miX8_bad lm8_214 (t_X8_bad (by assumption) f_31) (by assumption) rfl rfl rfl (Nat.le_of_ble_eq_true rfl) ⟨by decide, by decide, by decide, by decide⟩ (fun r_31 S_31 q_31 => ?_)
      obtain ⟨rfl, rfl, b_31⟩ := q_31
      refine a_zret X (by first | exact Or.inl rfl | exact Or.inr rfl | assumption) hr dX8_number_34 ⟨by decide, by decide⟩ ?_
      subst hF
      rw [← Option.some.inj h]
      exact ⟨rfl, rfl, (by first | exact Or.inl rfl | exact Or.inr rfl | assumption)⟩
  · replace h := (if_neg h_5).symm.trans h
    refine a_aload_n X dX8_number_8 rfl ?_
    refine a_iconst (v := 2) X dX8_number_9 (by decide) ?_
    obtain ⟨e_10, f_10, h⟩ := zBx h
    refine a_callVx X dX8_number_10 miX8_bad lm8_214 (t_X8_bad (by assumption) f_10) (by assumption) rfl rfl rfl (Nat.le_of_ble_eq_true rfl) ⟨by decide, by decide, by decide, by decide⟩ (fun r_10 S_10 q_10 => ?_)
    obtain ⟨rfl, rfl, b_10⟩ := q_10
    refine a_zret X (by first | exact Or.inl rfl | exact Or.inr rfl | assumption) hr dX8_number_13 ⟨by decide, by decide⟩ ?_
    subst hF
    rw [← Option.some.inj h]
    exact ⟨rfl, rfl, (by first | exact Or.inl rfl | exact Or.inr rfl | assumption)⟩
noncomputable def D_X8_newName (P : Nat) (M : zMt) (N : zNt) : Option (Int32 × zMt × zNt) :=
  zB (D_X8_isName P M) fun e_1 =>
  if e_1 = 0 then
    zB (D_X8_bad P (2 : Int32) M) fun e_9 =>
    some (e_9.1, e_9.2, N)
  else
    zB (D_X8_isTaken P M N) fun e_14 =>
    if e_14 = 0 then
      zLt (zu N P 32 (N P 24)) fun N_31 =>
      zB (D_X8_next P M N_31) fun e_35 =>
      some (e_35.1, e_35.2.1, e_35.2.2)
    else
      zB (D_X8_bad P (4 : Int32) M) fun e_22 =>
      some (e_22.1, e_22.2, N)
set_option maxRecDepth 100000 in
set_option maxHeartbeats 4000000 in
theorem t_X8_newName {l : Launch} {G : zG} {b : Nat} {L : List zC} {M : zMt} {N : zNt} {P : Nat}  (hP : LX8 L P) {r : Int32 × zMt × zNt} (h : D_X8_newName P M N = some r) : zM l G b yX8_newName cX8_newName 1 (some .boolean) 6 0 0 [.ref P] (L, M, N) (fun r2 z => r2 = some (.int r.1) ∧ z = (L, r.2.1, r.2.2) ∧ (r.1 = 0 ∨ r.1 = 1)) := by
  refine zM.of miX8_newName (Nat.le_of_ble_eq_true rfl) ?_
  intro p e s m args below meth c X hr hname
  generalize hF : ((fun r2 z => r2 = some (.int r.1) ∧ z = (L, r.2.1, r.2.2) ∧ (r.1 = 0 ∨ r.1 = 1)) : Option Value → zS → Prop) = FQ
  change Zw p l e { frames := 6, cells := 0, slots := 0, locals := 80 * (6) } s m args below meth c G b 1 (MQ below (zQ G b FQ) args s 0 0 (fun q : Nat => b ≤ q)) 0 0 0 [some (.ref P)] [] (L, M, N)
  obtain ⟨p_lt, p_o, p_s, p_read, p_aside, p_kept, p_guest, p_readGuest, p_tape, p_unitName, p_hunterName, p_partyName, p_bits, p_partyOf, p_choiceAt, p_sizes, p_guestMany, p_pointsOf, p_ticketsOf, p_ord, p_given, p_roundOf, p_tags, p_guestTags, p_places, p_sumAt, p_sumFirst, p_sumRound, p_sumBoth, p_sumTags, p_isEnd, p_newPoints, p_inRow, p_out⟩ := id hP
  unfold D_X8_newName at h
  refine a_aload_n X dX8_newName_0 rfl ?_
  obtain ⟨e_1, f_1, h⟩ := zBx h
  refine a_callVx X dX8_newName_1 miX8_isName lm8_224 (t_X8_isName (by assumption) f_1) (by assumption) rfl rfl rfl (Nat.le_of_ble_eq_true rfl) ⟨by decide, by decide, by decide, by decide⟩ (fun r_1 S_1 q_1 => ?_)
  obtain ⟨rfl, rfl, b_1⟩ := q_1
  refine a_if_ne (tgt := 13) X dX8_newName_4 (by decide) (fun h_4 => ?_) (fun h_4 => ?_)
  · replace h := (if_neg h_4).symm.trans h
    refine a_aload_n X dX8_newName_13 rfl ?_
    obtain ⟨e_14, f_14, h⟩ := zBx h
    refine a_callVx X dX8_newName_14 miX8_isTaken lm8_227 (t_X8_isTaken (by assumption) f_14) (by assumption) rfl rfl rfl (Nat.le_of_ble_eq_true rfl) ⟨by decide, by decide, by decide, by decide⟩ (fun r_14 S_14 q_14 => ?_)
    obtain ⟨rfl, rfl, b_14⟩ := q_14
    refine a_if_eq (tgt := 26) X dX8_newName_17 (by decide) (fun h_17 => ?_) (fun h_17 => ?_)
    · replace h := (if_pos h_17).symm.trans h
      refine a_aload_n X dX8_newName_26 rfl ?_
      refine a_aload_n X dX8_newName_27 rfl ?_
      refine a_getl X lf8_167 (by assumption) rfl dX8_newName_28 ?_
      obtain ⟨N_31, f_31, h⟩ := zLtx h
      refine d_putl X lf8_230 (by assumption) rfl dX8_newName_31 f_31 ?_
      refine a_aload_n X dX8_newName_34 rfl ?_
      obtain ⟨e_35, f_35, h⟩ := zBx h
      refine a_callVx X dX8_newName_35 miX8_next lm8_220 (t_X8_next (by assumption) f_35) (by assumption) rfl rfl rfl (Nat.le_of_ble_eq_true rfl) ⟨by decide, by decide, by decide, by decide⟩ (fun r_35 S_35 q_35 => ?_)
      obtain ⟨rfl, rfl, b_35⟩ := q_35
      refine a_zret X (by first | exact Or.inl rfl | exact Or.inr rfl | assumption) hr dX8_newName_38 ⟨by decide, by decide⟩ ?_
      subst hF
      rw [← Option.some.inj h]
      exact ⟨rfl, rfl, (by first | exact Or.inl rfl | exact Or.inr rfl | assumption)⟩
    · replace h := (if_neg h_17).symm.trans h
      refine a_aload_n X dX8_newName_20 rfl ?_
      refine a_iconst (v := 4) X dX8_newName_21 (by decide) ?_
      obtain ⟨e_22, f_22, h⟩ := zBx h
      refine a_callVx X dX8_newName_22 miX8_bad lm8_214 (t_X8_bad (by assumption) f_22) (by assumption) rfl rfl rfl (Nat.le_of_ble_eq_true rfl) ⟨by decide, by decide, by decide, by decide⟩ (fun r_22 S_22 q_22 => ?_)
      obtain ⟨rfl, rfl, b_22⟩ := q_22
      refine a_zret X (by first | exact Or.inl rfl | exact Or.inr rfl | assumption) hr dX8_newName_25 ⟨by decide, by decide⟩ ?_
      subst hF
      rw [← Option.some.inj h]
      exact ⟨rfl, rfl, (by first | exact Or.inl rfl | exact Or.inr rfl | assumption)⟩
  · replace h := (if_pos h_4).symm.trans h
    refine a_aload_n X dX8_newName_7 rfl ?_
    refine a_iconst (v := 2) X dX8_newName_8 (by decide) ?_
    obtain ⟨e_9, f_9, h⟩ := zBx h
    refine a_callVx X dX8_newName_9 miX8_bad lm8_214 (t_X8_bad (by assumption) f_9) (by assumption) rfl rfl rfl (Nat.le_of_ble_eq_true rfl) ⟨by decide, by decide, by decide, by decide⟩ (fun r_9 S_9 q_9 => ?_)
    obtain ⟨rfl, rfl, b_9⟩ := q_9
    refine a_zret X (by first | exact Or.inl rfl | exact Or.inr rfl | assumption) hr dX8_newName_12 ⟨by decide, by decide⟩ ?_
    subst hF
    rw [← Option.some.inj h]
    exact ⟨rfl, rfl, (by first | exact Or.inl rfl | exact Or.inr rfl | assumption)⟩
noncomputable def D_X8_readUnit_38 (P : Nat) (M_38 : zMt) (N_38 : zNt) : Option (Int32 × zMt × zNt) :=
  some ((0 : Int32), M_38, N_38)
noncomputable def D_X8_readUnit (P : Nat) (M : zMt) (N : zNt) : Option (Int32 × zMt × zNt) :=
  if (M P 28) = (5 : Int32) then
    zB (D_X8_bad P (2 : Int32) M) fun e_10 =>
    some (e_10.1, e_10.2, N)
  else
    zB (D_X8_next P M N) fun e_15 =>
    if e_15.1 = 0 then
      D_X8_readUnit_38 P e_15.2.1 e_15.2.2
    else
      zB (D_X8_newName P e_15.2.1 e_15.2.2) fun e_22 =>
      if e_22.1 = 0 then
        D_X8_readUnit_38 P e_22.2.1 e_22.2.2
      else
        zB (D_X8_number P (0 : Int32) (20 : Int32) e_22.2.1 e_22.2.2) fun e_32 =>
        if e_32.1 = 0 then
          D_X8_readUnit_38 P e_32.2.1 e_32.2.2
        else
          zI (e_32.2.1 P 28) 5 <|
          zLt (zu e_32.2.2 (P + 8) (e_32.2.1 P 28).toNatClampNeg (e_32.2.2 P 32)) fun N_52 =>
          zI ((62 : Int32) + (e_32.2.1 P 28)) 82 <|
          zLt (zu e_32.2.1 (P + 2) ((62 : Int32) + (e_32.2.1 P 28)).toNatClampNeg (e_32.2.1 P 31)) fun M_68 =>
          zLt (zu M_68 P 28 ((M_68 P 28) + (1 : Int32))) fun M_76 =>
          some ((1 : Int32), M_76, N_52)
set_option maxRecDepth 100000 in
set_option maxHeartbeats 4000000 in
theorem t_X8_readUnit {l : Launch} {G : zG} {b : Nat} {L : List zC} {M : zMt} {N : zNt} {P : Nat}  (hP : LX8 L P) {r : Int32 × zMt × zNt} (h : D_X8_readUnit P M N = some r) : zM l G b yX8_readUnit cX8_readUnit 1 (some .boolean) 7 0 0 [.ref P] (L, M, N) (fun r2 z => r2 = some (.int r.1) ∧ z = (L, r.2.1, r.2.2) ∧ (r.1 = 0 ∨ r.1 = 1)) := by
  refine zM.of miX8_readUnit (Nat.le_of_ble_eq_true rfl) ?_
  intro p e s m args below meth c X hr hname
  generalize hF : ((fun r2 z => r2 = some (.int r.1) ∧ z = (L, r.2.1, r.2.2) ∧ (r.1 = 0 ∨ r.1 = 1)) : Option Value → zS → Prop) = FQ
  change Zw p l e { frames := 7, cells := 0, slots := 0, locals := 80 * (7) } s m args below meth c G b 1 (MQ below (zQ G b FQ) args s 0 0 (fun q : Nat => b ≤ q)) 0 0 0 [some (.ref P)] [] (L, M, N)
  obtain ⟨p_lt, p_o, p_s, p_read, p_aside, p_kept, p_guest, p_readGuest, p_tape, p_unitName, p_hunterName, p_partyName, p_bits, p_partyOf, p_choiceAt, p_sizes, p_guestMany, p_pointsOf, p_ticketsOf, p_ord, p_given, p_roundOf, p_tags, p_guestTags, p_places, p_sumAt, p_sumFirst, p_sumRound, p_sumBoth, p_sumTags, p_isEnd, p_newPoints, p_inRow, p_out⟩ := id hP
  have J_38 : ∀ (M_38 : zMt) (N_38 : zNt), D_X8_readUnit_38 P M_38 N_38 = some r → Zw p l e { frames := 7, cells := 0, slots := 0, locals := 80 * (7) } s m args below meth c G b 1 (MQ below (zQ G b FQ) args s 0 0 (fun q : Nat => b ≤ q)) 0 0 38 [some (.ref (P))] [] (L, M_38, N_38) := by
    intro M_38 N_38 h
    unfold D_X8_readUnit_38 at h
    refine a_iconst (v := 0) X dX8_readUnit_38 (by decide) ?_
    refine a_zret X (by first | exact Or.inl rfl | exact Or.inr rfl | assumption) hr dX8_readUnit_39 ⟨by decide, by decide⟩ ?_
    subst hF
    rw [← Option.some.inj h]
    exact ⟨rfl, rfl, (by first | exact Or.inl rfl | exact Or.inr rfl | assumption)⟩
  unfold D_X8_readUnit at h
  refine a_aload_n X dX8_readUnit_0 rfl ?_
  refine a_geti X lf8_201 (by assumption) rfl dX8_readUnit_1 ?_
  refine a_iconst (v := 5) X dX8_readUnit_4 (by decide) ?_
  refine a_icmp_ne (tgt := 14) X dX8_readUnit_5 (by decide) (fun h_5 => ?_) (fun h_5 => ?_)
  · replace h := (if_neg h_5).symm.trans h
    refine a_aload_n X dX8_readUnit_14 rfl ?_
    obtain ⟨e_15, f_15, h⟩ := zBx h
    refine a_callVx X dX8_readUnit_15 miX8_next lm8_220 (t_X8_next (by assumption) f_15) (by assumption) rfl rfl rfl (Nat.le_of_ble_eq_true rfl) ⟨by decide, by decide, by decide, by decide⟩ (fun r_15 S_15 q_15 => ?_)
    obtain ⟨rfl, rfl, b_15⟩ := q_15
    refine a_if_eq (tgt := 38) X dX8_readUnit_18 (by decide) (fun h_18 => ?_) (fun h_18 => ?_)
    · replace h := (if_pos h_18).symm.trans h
      exact Zw.to2 (J_38 _ _ h) rfl rfl rfl
    · replace h := (if_neg h_18).symm.trans h
      refine a_aload_n X dX8_readUnit_21 rfl ?_
      obtain ⟨e_22, f_22, h⟩ := zBx h
      refine a_callVx X dX8_readUnit_22 miX8_newName lm8_233 (t_X8_newName (by assumption) f_22) (by assumption) rfl rfl rfl (Nat.le_of_ble_eq_true rfl) ⟨by decide, by decide, by decide, by decide⟩ (fun r_22 S_22 q_22 => ?_)
      obtain ⟨rfl, rfl, b_22⟩ := q_22
      refine a_if_eq (tgt := 38) X dX8_readUnit_25 (by decide) (fun h_25 => ?_) (fun h_25 => ?_)
      · replace h := (if_pos h_25).symm.trans h
        exact Zw.to2 (J_38 _ _ h) rfl rfl rfl
      · replace h := (if_neg h_25).symm.trans h
        refine a_aload_n X dX8_readUnit_28 rfl ?_
        refine a_iconst (v := 0) X dX8_readUnit_29 (by decide) ?_
        refine a_bipush (v := 20) X dX8_readUnit_30 (by decide) ?_
        obtain ⟨e_32, f_32, h⟩ := zBx h
        refine a_callVx X dX8_readUnit_32 miX8_number lm8_236 (t_X8_number (by assumption) f_32) (by assumption) rfl rfl rfl (Nat.le_of_ble_eq_true rfl) ⟨by decide, by decide, by decide, by decide⟩ (fun r_32 S_32 q_32 => ?_)
        obtain ⟨rfl, rfl, b_32⟩ := q_32
        refine a_if_ne (tgt := 40) X dX8_readUnit_35 (by decide) (fun h_35 => ?_) (fun h_35 => ?_)
        · replace h := (if_neg h_35).symm.trans h
          refine a_aload_n X dX8_readUnit_40 rfl ?_
          refine a_getr X lf8_39 (by assumption) rfl (by omega) dX8_readUnit_41 ?_
          refine a_aload_n X dX8_readUnit_44 rfl ?_
          refine a_geti X lf8_201 (by assumption) rfl dX8_readUnit_45 ?_
          refine a_aload_n X dX8_readUnit_48 rfl ?_
          refine a_getl X lf8_230 (by assumption) rfl dX8_readUnit_49 ?_
          obtain ⟨g_52, h⟩ := zIx h
          obtain ⟨N_52, f_52, h⟩ := zLtx h
          refine d_lastore X (by assumption) g_52 dX8_readUnit_52 f_52 ?_
          refine a_aload_n X dX8_readUnit_53 rfl ?_
          refine a_getr X lf8_13 (by assumption) rfl (by omega) dX8_readUnit_54 ?_
          refine a_bipush (v := 62) X dX8_readUnit_57 (by decide) ?_
          refine a_aload_n X dX8_readUnit_59 rfl ?_
          refine a_geti X lf8_201 (by assumption) rfl dX8_readUnit_60 ?_
          refine a_iadd X dX8_readUnit_63 ?_
          refine a_aload_n X dX8_readUnit_64 rfl ?_
          refine a_geti X lf8_217 (by assumption) rfl dX8_readUnit_65 ?_
          obtain ⟨g_68, h⟩ := zIx h
          obtain ⟨M_68, f_68, h⟩ := zLtx h
          refine d_iastore X (by assumption) g_68 dX8_readUnit_68 f_68 ?_
          refine a_aload_n X dX8_readUnit_69 rfl ?_
          refine a_dup X dX8_readUnit_70 rfl ?_
          refine a_geti X lf8_201 (by assumption) rfl dX8_readUnit_71 ?_
          refine a_iconst (v := 1) X dX8_readUnit_74 (by decide) ?_
          refine a_iadd X dX8_readUnit_75 ?_
          obtain ⟨M_76, f_76, h⟩ := zLtx h
          refine d_puti X lf8_201 (by assumption) rfl dX8_readUnit_76 f_76 ?_
          refine a_iconst (v := 1) X dX8_readUnit_79 (by decide) ?_
          refine a_zret X (by first | exact Or.inl rfl | exact Or.inr rfl | assumption) hr dX8_readUnit_80 ⟨by decide, by decide⟩ ?_
          subst hF
          rw [← Option.some.inj h]
          exact ⟨rfl, rfl, (by first | exact Or.inl rfl | exact Or.inr rfl | assumption)⟩
        · replace h := (if_pos h_35).symm.trans h
          exact Zw.to2 (J_38 _ _ h) rfl rfl rfl
  · replace h := (if_pos h_5).symm.trans h
    refine a_aload_n X dX8_readUnit_8 rfl ?_
    refine a_iconst (v := 2) X dX8_readUnit_9 (by decide) ?_
    obtain ⟨e_10, f_10, h⟩ := zBx h
    refine a_callVx X dX8_readUnit_10 miX8_bad lm8_214 (t_X8_bad (by assumption) f_10) (by assumption) rfl rfl rfl (Nat.le_of_ble_eq_true rfl) ⟨by decide, by decide, by decide, by decide⟩ (fun r_10 S_10 q_10 => ?_)
    obtain ⟨rfl, rfl, b_10⟩ := q_10
    refine a_zret X (by first | exact Or.inl rfl | exact Or.inr rfl | assumption) hr dX8_readUnit_13 ⟨by decide, by decide⟩ ?_
    subst hF
    rw [← Option.some.inj h]
    exact ⟨rfl, rfl, (by first | exact Or.inl rfl | exact Or.inr rfl | assumption)⟩
noncomputable def D_X8_readHunter_116 (P : Nat) (M_116 : zMt) (N_116 : zNt) : Option (Int32 × zMt × zNt) :=
  zLt (zu M_116 P 29 ((M_116 P 29) + (1 : Int32))) fun M_123 =>
  some ((1 : Int32), M_123, N_116)
noncomputable def D_X8_readHunter_98 (P : Nat) (y1_98 : Int32) (y2_98 : Int32) (M_98 : zMt) (N_98 : zNt) : Option (Int32 × zMt × zNt) :=
  zI y1_98 10 <|
  zLt (zu M_98 (P + 6) y1_98.toNatClampNeg y2_98) fun M_98 =>
  zI (M_98 P 29) 10 <|
  if (M_98 (P + 6) (M_98 P 29).toNatClampNeg) = 0 then
    D_X8_readHunter_116 P M_98 N_98
  else
    zB (D_X8_next P M_98 N_98) fun e_112 =>
    D_X8_readHunter_116 P e_112.2.1 e_112.2.2
noncomputable def D_X8_readHunter_97 (P : Nat) (y1_97 : Int32) (M_97 : zMt) (N_97 : zNt) : Option (Int32 × zMt × zNt) :=
  D_X8_readHunter_98 P y1_97 (0 : Int32) M_97 N_97
noncomputable def D_X8_readHunter_39 (P : Nat) (M_39 : zMt) (N_39 : zNt) : Option (Int32 × zMt × zNt) :=
  some ((0 : Int32), M_39, N_39)
noncomputable def D_X8_readHunter (P : Nat) (M : zMt) (N : zNt) : Option (Int32 × zMt × zNt) :=
  if (M P 29) = (10 : Int32) then
    zB (D_X8_bad P (2 : Int32) M) fun e_11 =>
    some (e_11.1, e_11.2, N)
  else
    zB (D_X8_next P M N) fun e_16 =>
    if e_16.1 = 0 then
      D_X8_readHunter_39 P e_16.2.1 e_16.2.2
    else
      zB (D_X8_newName P e_16.2.1 e_16.2.2) fun e_23 =>
      if e_23.1 = 0 then
        D_X8_readHunter_39 P e_23.2.1 e_23.2.2
      else
        zB (D_X8_number P (0 : Int32) (20 : Int32) e_23.2.1 e_23.2.2) fun e_33 =>
        if e_33.1 = 0 then
          D_X8_readHunter_39 P e_33.2.1 e_33.2.2
        else
          zI (e_33.2.1 P 29) 10 <|
          zLt (zu e_33.2.2 (P + 9) (e_33.2.1 P 29).toNatClampNeg (e_33.2.2 P 32)) fun N_53 =>
          zI ((0 : Int32) + (e_33.2.1 P 29)) 82 <|
          zLt (zu e_33.2.1 (P + 2) ((0 : Int32) + (e_33.2.1 P 29)).toNatClampNeg (e_33.2.1 P 31)) fun M_68 =>
          if (M_68 P 18) = (2 : Int32) then
            if (M_68 P 19) = (2 : Int32) then
              D_X8_readHunter_98 P (M_68 P 29) (1 : Int32) M_68 N_53
            else
              D_X8_readHunter_97 P (M_68 P 29) M_68 N_53
          else
            D_X8_readHunter_97 P (M_68 P 29) M_68 N_53
set_option maxRecDepth 100000 in
set_option maxHeartbeats 4000000 in
theorem t_X8_readHunter {l : Launch} {G : zG} {b : Nat} {L : List zC} {M : zMt} {N : zNt} {P : Nat}  (hP : LX8 L P) {r : Int32 × zMt × zNt} (h : D_X8_readHunter P M N = some r) : zM l G b yX8_readHunter cX8_readHunter 1 (some .boolean) 7 0 0 [.ref P] (L, M, N) (fun r2 z => r2 = some (.int r.1) ∧ z = (L, r.2.1, r.2.2) ∧ (r.1 = 0 ∨ r.1 = 1)) := by
  refine zM.of miX8_readHunter (Nat.le_of_ble_eq_true rfl) ?_
  intro p e s m args below meth c X hr hname
  generalize hF : ((fun r2 z => r2 = some (.int r.1) ∧ z = (L, r.2.1, r.2.2) ∧ (r.1 = 0 ∨ r.1 = 1)) : Option Value → zS → Prop) = FQ
  change Zw p l e { frames := 7, cells := 0, slots := 0, locals := 80 * (7) } s m args below meth c G b 1 (MQ below (zQ G b FQ) args s 0 0 (fun q : Nat => b ≤ q)) 0 0 0 [some (.ref P)] [] (L, M, N)
  obtain ⟨p_lt, p_o, p_s, p_read, p_aside, p_kept, p_guest, p_readGuest, p_tape, p_unitName, p_hunterName, p_partyName, p_bits, p_partyOf, p_choiceAt, p_sizes, p_guestMany, p_pointsOf, p_ticketsOf, p_ord, p_given, p_roundOf, p_tags, p_guestTags, p_places, p_sumAt, p_sumFirst, p_sumRound, p_sumBoth, p_sumTags, p_isEnd, p_newPoints, p_inRow, p_out⟩ := id hP
  have J_116 : ∀ (M_116 : zMt) (N_116 : zNt), D_X8_readHunter_116 P M_116 N_116 = some r → Zw p l e { frames := 7, cells := 0, slots := 0, locals := 80 * (7) } s m args below meth c G b 1 (MQ below (zQ G b FQ) args s 0 0 (fun q : Nat => b ≤ q)) 0 0 116 [some (.ref (P))] [] (L, M_116, N_116) := by
    intro M_116 N_116 h
    unfold D_X8_readHunter_116 at h
    refine a_aload_n X dX8_readHunter_116 rfl ?_
    refine a_dup X dX8_readHunter_117 rfl ?_
    refine a_geti X lf8_208 (by assumption) rfl dX8_readHunter_118 ?_
    refine a_iconst (v := 1) X dX8_readHunter_121 (by decide) ?_
    refine a_iadd X dX8_readHunter_122 ?_
    obtain ⟨M_123, f_123, h⟩ := zLtx h
    refine d_puti X lf8_208 (by assumption) rfl dX8_readHunter_123 f_123 ?_
    refine a_iconst (v := 1) X dX8_readHunter_126 (by decide) ?_
    refine a_zret X (by first | exact Or.inl rfl | exact Or.inr rfl | assumption) hr dX8_readHunter_127 ⟨by decide, by decide⟩ ?_
    subst hF
    rw [← Option.some.inj h]
    exact ⟨rfl, rfl, (by first | exact Or.inl rfl | exact Or.inr rfl | assumption)⟩
  have J_98 : ∀ (y1_98 : Int32) (y2_98 : Int32) (M_98 : zMt) (N_98 : zNt), (y2_98 = 0 ∨ y2_98 = 1) → D_X8_readHunter_98 P y1_98 y2_98 M_98 N_98 = some r → Zw p l e { frames := 7, cells := 0, slots := 0, locals := 80 * (7) } s m args below meth c G b 1 (MQ below (zQ G b FQ) args s 0 0 (fun q : Nat => b ≤ q)) 0 0 98 [some (.ref (P))] [.int y2_98, .int y1_98, .ref (P + 6)] (L, M_98, N_98) := by
    intro y1_98 y2_98 M_98 N_98 fb_y2_98 h
    unfold D_X8_readHunter_98 at h
    obtain ⟨g_98, h⟩ := zIx h
    obtain ⟨M_98, f_98, h⟩ := zLtx h
    refine d_bastore X (by first | exact Or.inl rfl | exact Or.inr rfl | assumption) (by assumption) g_98 dX8_readHunter_98 f_98 ?_
    refine a_aload_n X dX8_readHunter_99 rfl ?_
    refine a_getr X lf8_26 (by assumption) rfl (by omega) dX8_readHunter_100 ?_
    refine a_aload_n X dX8_readHunter_103 rfl ?_
    refine a_geti X lf8_208 (by assumption) rfl dX8_readHunter_104 ?_
    obtain ⟨g_107, h⟩ := zIx h
    refine a_baload X (by assumption) g_107 dX8_readHunter_107 ?_
    refine a_if_eq (tgt := 116) X dX8_readHunter_108 (by decide) (fun h_108 => ?_) (fun h_108 => ?_)
    · replace h := (if_pos h_108).symm.trans h
      exact Zw.to2 (J_116 _ _ h) rfl rfl rfl
    · replace h := (if_neg h_108).symm.trans h
      refine a_aload_n X dX8_readHunter_111 rfl ?_
      obtain ⟨e_112, f_112, h⟩ := zBx h
      refine a_callVx X dX8_readHunter_112 miX8_next lm8_220 (t_X8_next (by assumption) f_112) (by assumption) rfl rfl rfl (Nat.le_of_ble_eq_true rfl) ⟨by decide, by decide, by decide, by decide⟩ (fun r_112 S_112 q_112 => ?_)
      obtain ⟨rfl, rfl, b_112⟩ := q_112
      refine a_pop X dX8_readHunter_115 rfl ?_
      exact Zw.to2 (J_116 _ _ h) rfl rfl rfl
  have J_97 : ∀ (y1_97 : Int32) (M_97 : zMt) (N_97 : zNt), D_X8_readHunter_97 P y1_97 M_97 N_97 = some r → Zw p l e { frames := 7, cells := 0, slots := 0, locals := 80 * (7) } s m args below meth c G b 1 (MQ below (zQ G b FQ) args s 0 0 (fun q : Nat => b ≤ q)) 0 0 97 [some (.ref (P))] [.int y1_97, .ref (P + 6)] (L, M_97, N_97) := by
    intro y1_97 M_97 N_97 h
    unfold D_X8_readHunter_97 at h
    refine a_iconst (v := 0) X dX8_readHunter_97 (by decide) ?_
    exact Zw.to2 (J_98 _ _ _ _ (by first | exact Or.inl rfl | exact Or.inr rfl | assumption) h) rfl rfl rfl
  have J_39 : ∀ (M_39 : zMt) (N_39 : zNt), D_X8_readHunter_39 P M_39 N_39 = some r → Zw p l e { frames := 7, cells := 0, slots := 0, locals := 80 * (7) } s m args below meth c G b 1 (MQ below (zQ G b FQ) args s 0 0 (fun q : Nat => b ≤ q)) 0 0 39 [some (.ref (P))] [] (L, M_39, N_39) := by
    intro M_39 N_39 h
    unfold D_X8_readHunter_39 at h
    refine a_iconst (v := 0) X dX8_readHunter_39 (by decide) ?_
    refine a_zret X (by first | exact Or.inl rfl | exact Or.inr rfl | assumption) hr dX8_readHunter_40 ⟨by decide, by decide⟩ ?_
    subst hF
    rw [← Option.some.inj h]
    exact ⟨rfl, rfl, (by first | exact Or.inl rfl | exact Or.inr rfl | assumption)⟩
  unfold D_X8_readHunter at h
  refine a_aload_n X dX8_readHunter_0 rfl ?_
  refine a_geti X lf8_208 (by assumption) rfl dX8_readHunter_1 ?_
  refine a_bipush (v := 10) X dX8_readHunter_4 (by decide) ?_
  refine a_icmp_ne (tgt := 15) X dX8_readHunter_6 (by decide) (fun h_6 => ?_) (fun h_6 => ?_)
  · replace h := (if_neg h_6).symm.trans h
    refine a_aload_n X dX8_readHunter_15 rfl ?_
    obtain ⟨e_16, f_16, h⟩ := zBx h
    refine a_callVx X dX8_readHunter_16 miX8_next lm8_220 (t_X8_next (by assumption) f_16) (by assumption) rfl rfl rfl (Nat.le_of_ble_eq_true rfl) ⟨by decide, by decide, by decide, by decide⟩ (fun r_16 S_16 q_16 => ?_)
    obtain ⟨rfl, rfl, b_16⟩ := q_16
    refine a_if_eq (tgt := 39) X dX8_readHunter_19 (by decide) (fun h_19 => ?_) (fun h_19 => ?_)
    · replace h := (if_pos h_19).symm.trans h
      exact Zw.to2 (J_39 _ _ h) rfl rfl rfl
    · replace h := (if_neg h_19).symm.trans h
      refine a_aload_n X dX8_readHunter_22 rfl ?_
      obtain ⟨e_23, f_23, h⟩ := zBx h
      refine a_callVx X dX8_readHunter_23 miX8_newName lm8_233 (t_X8_newName (by assumption) f_23) (by assumption) rfl rfl rfl (Nat.le_of_ble_eq_true rfl) ⟨by decide, by decide, by decide, by decide⟩ (fun r_23 S_23 q_23 => ?_)
      obtain ⟨rfl, rfl, b_23⟩ := q_23
      refine a_if_eq (tgt := 39) X dX8_readHunter_26 (by decide) (fun h_26 => ?_) (fun h_26 => ?_)
      · replace h := (if_pos h_26).symm.trans h
        exact Zw.to2 (J_39 _ _ h) rfl rfl rfl
      · replace h := (if_neg h_26).symm.trans h
        refine a_aload_n X dX8_readHunter_29 rfl ?_
        refine a_iconst (v := 0) X dX8_readHunter_30 (by decide) ?_
        refine a_bipush (v := 20) X dX8_readHunter_31 (by decide) ?_
        obtain ⟨e_33, f_33, h⟩ := zBx h
        refine a_callVx X dX8_readHunter_33 miX8_number lm8_236 (t_X8_number (by assumption) f_33) (by assumption) rfl rfl rfl (Nat.le_of_ble_eq_true rfl) ⟨by decide, by decide, by decide, by decide⟩ (fun r_33 S_33 q_33 => ?_)
        obtain ⟨rfl, rfl, b_33⟩ := q_33
        refine a_if_ne (tgt := 41) X dX8_readHunter_36 (by decide) (fun h_36 => ?_) (fun h_36 => ?_)
        · replace h := (if_neg h_36).symm.trans h
          refine a_aload_n X dX8_readHunter_41 rfl ?_
          refine a_getr X lf8_43 (by assumption) rfl (by omega) dX8_readHunter_42 ?_
          refine a_aload_n X dX8_readHunter_45 rfl ?_
          refine a_geti X lf8_208 (by assumption) rfl dX8_readHunter_46 ?_
          refine a_aload_n X dX8_readHunter_49 rfl ?_
          refine a_getl X lf8_230 (by assumption) rfl dX8_readHunter_50 ?_
          obtain ⟨g_53, h⟩ := zIx h
          obtain ⟨N_53, f_53, h⟩ := zLtx h
          refine d_lastore X (by assumption) g_53 dX8_readHunter_53 f_53 ?_
          refine a_aload_n X dX8_readHunter_54 rfl ?_
          refine a_getr X lf8_13 (by assumption) rfl (by omega) dX8_readHunter_55 ?_
          refine a_iconst (v := 0) X dX8_readHunter_58 (by decide) ?_
          refine a_aload_n X dX8_readHunter_59 rfl ?_
          refine a_geti X lf8_208 (by assumption) rfl dX8_readHunter_60 ?_
          refine a_iadd X dX8_readHunter_63 ?_
          refine a_aload_n X dX8_readHunter_64 rfl ?_
          refine a_geti X lf8_217 (by assumption) rfl dX8_readHunter_65 ?_
          obtain ⟨g_68, h⟩ := zIx h
          obtain ⟨M_68, f_68, h⟩ := zLtx h
          refine d_iastore X (by assumption) g_68 dX8_readHunter_68 f_68 ?_
          refine a_aload_n X dX8_readHunter_69 rfl ?_
          refine a_getr X lf8_26 (by assumption) rfl (by omega) dX8_readHunter_70 ?_
          refine a_aload_n X dX8_readHunter_73 rfl ?_
          refine a_geti X lf8_208 (by assumption) rfl dX8_readHunter_74 ?_
          refine a_aload_n X dX8_readHunter_77 rfl ?_
          refine a_geti X lf8_160 (by assumption) rfl dX8_readHunter_78 ?_
          refine a_iconst (v := 2) X dX8_readHunter_81 (by decide) ?_
          refine a_icmp_ne (tgt := 97) X dX8_readHunter_82 (by decide) (fun h_82 => ?_) (fun h_82 => ?_)
          · replace h := (if_neg h_82).symm.trans h
            exact Zw.to2 (J_97 _ _ _ h) rfl rfl rfl
          · replace h := (if_pos h_82).symm.trans h
            refine a_aload_n X dX8_readHunter_85 rfl ?_
            refine a_geti X lf8_157 (by assumption) rfl dX8_readHunter_86 ?_
            refine a_iconst (v := 2) X dX8_readHunter_89 (by decide) ?_
            refine a_icmp_ne (tgt := 97) X dX8_readHunter_90 (by decide) (fun h_90 => ?_) (fun h_90 => ?_)
            · replace h := (if_neg h_90).symm.trans h
              exact Zw.to2 (J_97 _ _ _ h) rfl rfl rfl
            · replace h := (if_pos h_90).symm.trans h
              refine a_iconst (v := 1) X dX8_readHunter_93 (by decide) ?_
              refine a_goto (tgt := 98) X dX8_readHunter_94 (by decide) ?_
              exact Zw.to2 (J_98 _ _ _ _ (by first | exact Or.inl rfl | exact Or.inr rfl | assumption) h) rfl rfl rfl
        · replace h := (if_pos h_36).symm.trans h
          exact Zw.to2 (J_39 _ _ h) rfl rfl rfl
  · replace h := (if_pos h_6).symm.trans h
    refine a_aload_n X dX8_readHunter_9 rfl ?_
    refine a_iconst (v := 2) X dX8_readHunter_10 (by decide) ?_
    obtain ⟨e_11, f_11, h⟩ := zBx h
    refine a_callVx X dX8_readHunter_11 miX8_bad lm8_214 (t_X8_bad (by assumption) f_11) (by assumption) rfl rfl rfl (Nat.le_of_ble_eq_true rfl) ⟨by decide, by decide, by decide, by decide⟩ (fun r_11 S_11 q_11 => ?_)
    obtain ⟨rfl, rfl, b_11⟩ := q_11
    refine a_zret X (by first | exact Or.inl rfl | exact Or.inr rfl | assumption) hr dX8_readHunter_14 ⟨by decide, by decide⟩ ?_
    subst hF
    rw [← Option.some.inj h]
    exact ⟨rfl, rfl, (by first | exact Or.inl rfl | exact Or.inr rfl | assumption)⟩
noncomputable def D_X8_readParty_193 (P : Nat) (k161 : Int64 → Int32 → Int32 → zMt → zNt → Option (Int32 × zMt × zNt)) (x1_193 : Int64) (x3_193 : Int32) (x5_193 : Int32) (M_193 : zMt) (N_193 : zNt) : Option (Int32 × zMt × zNt) :=
  k161 x1_193 x3_193 (x5_193 + 1) M_193 N_193
noncomputable def D_X8_readParty_161 (P : Nat) : Nat → Int64 → Int32 → Int32 → zMt → zNt → Option (Int32 × zMt × zNt)
  | 0, _, _, _, _, _ => none
  | n + 1, x1_161, x3_161, x5_161, M_161, N_161 =>
    if (M_161 P 29) ≤ x5_161 then
      zI (M_161 P 30) 4 <|
      zLt (zu N_161 (P + 10) (M_161 P 30).toNatClampNeg x1_161) fun N_208 =>
      zLt (zu M_161 P 30 ((M_161 P 30) + (1 : Int32))) fun M_216 =>
      some ((1 : Int32), M_216, N_208)
    else
      zB (D_X8_has x3_161 x5_161) fun e_173 =>
      if e_173 = 0 then
        D_X8_readParty_193 P (D_X8_readParty_161 P n) x1_161 x3_161 x5_161 M_161 N_161
      else
        zI ((10 : Int32) + x5_161) 82 <|
        zLt (zu M_161 (P + 2) ((10 : Int32) + x5_161).toNatClampNeg (M_161 P 30)) fun M_192 =>
        D_X8_readParty_193 P (D_X8_readParty_161 P n) x1_161 x3_161 x5_161 M_192 N_161
noncomputable def D_X8_readParty_134 (P : Nat) (M_134 : zMt) (N_134 : zNt) : Option (Int32 × zMt × zNt) :=
  zB (D_X8_bad P (4 : Int32) M_134) fun e_136 =>
  some (e_136.1, e_136.2, N_134)
noncomputable def D_X8_readParty_66 (P : Nat) (M_66 : zMt) (N_66 : zNt) : Option (Int32 × zMt × zNt) :=
  zB (D_X8_bad P (2 : Int32) M_66) fun e_68 =>
  some (e_68.1, e_68.2, N_66)
noncomputable def D_X8_readParty_53 (P : Nat) (k40 : Int64 → Int32 → Int32 → zMt → zNt → Option (Int32 × zMt × zNt)) (x1_53 : Int64) (x3_53 : Int32) (x4_53 : Int32) (M_53 : zMt) (N_53 : zNt) : Option (Int32 × zMt × zNt) :=
  zB (D_X8_isName P M_53) fun e_54 =>
  if e_54 = 0 then
    D_X8_readParty_66 P M_53 N_53
  else
    if x4_53 = (4 : Int32) then
      D_X8_readParty_66 P M_53 N_53
    else
      zB (D_X8_found (P + 9) 10 N_53 (M_53 P 29) (N_53 P 24)) fun e_84 =>
      if e_84 = (-1 : Int32) then
        D_X8_readParty_134 P M_53 N_53
      else
        zI ((10 : Int32) + e_84) 82 <|
        if (M_53 (P + 2) ((10 : Int32) + e_84).toNatClampNeg) = (-1 : Int32) then
          zI ((20 : Int32) + ((3 : Int32) * e_84)) 82 <|
          if (M_53 (P + 2) ((20 : Int32) + ((3 : Int32) * e_84)).toNatClampNeg) = (-1 : Int32) then
            zB (D_X8_has x3_53 e_84) fun e_128 =>
            if e_128 = 0 then
              zB (D_X8_next P M_53 N_53) fun e_151 =>
              k40 x1_53 (x3_53 ||| ((1 : Int32) <<< (e_84 &&& 31))) (x4_53 + 1) e_151.2.1 e_151.2.2
            else
              D_X8_readParty_134 P M_53 N_53
          else
            D_X8_readParty_134 P M_53 N_53
        else
          D_X8_readParty_134 P M_53 N_53
noncomputable def D_X8_readParty_40 (P : Nat) : Nat → Int64 → Int32 → Int32 → zMt → zNt → Option (Int32 × zMt × zNt)
  | 0, _, _, _, _, _ => none
  | n + 1, x1_40, x3_40, x4_40, M_40, N_40 =>
    if x4_40 < (2 : Int32) then
      D_X8_readParty_53 P (D_X8_readParty_40 P n) x1_40 x3_40 x4_40 M_40 N_40
    else
      zB (D_X8_isName P M_40) fun e_47 =>
      if e_47 = 0 then
        D_X8_readParty_161 P zFu x1_40 x3_40 (0 : Int32) M_40 N_40
      else
        D_X8_readParty_53 P (D_X8_readParty_40 P n) x1_40 x3_40 x4_40 M_40 N_40
noncomputable def D_X8_readParty_28 (P : Nat) (M_28 : zMt) (N_28 : zNt) : Option (Int32 × zMt × zNt) :=
  some ((0 : Int32), M_28, N_28)
noncomputable def D_X8_readParty (P : Nat) (M : zMt) (N : zNt) : Option (Int32 × zMt × zNt) :=
  if (M P 30) = (4 : Int32) then
    zB (D_X8_bad P (2 : Int32) M) fun e_10 =>
    some (e_10.1, e_10.2, N)
  else
    zB (D_X8_next P M N) fun e_15 =>
    if e_15.1 = 0 then
      D_X8_readParty_28 P e_15.2.1 e_15.2.2
    else
      zB (D_X8_newName P e_15.2.1 e_15.2.2) fun e_22 =>
      if e_22.1 = 0 then
        D_X8_readParty_28 P e_22.2.1 e_22.2.2
      else
        D_X8_readParty_40 P zFu (e_22.2.2 P 32) (0 : Int32) (0 : Int32) e_22.2.1 e_22.2.2
set_option maxRecDepth 100000 in
set_option maxHeartbeats 4000000 in
theorem t_X8_readParty {l : Launch} {G : zG} {b : Nat} {L : List zC} {M : zMt} {N : zNt} {P : Nat}  (hP : LX8 L P) {r : Int32 × zMt × zNt} (h : D_X8_readParty P M N = some r) : zM l G b yX8_readParty cX8_readParty 6 (some .boolean) 7 0 0 [.ref P] (L, M, N) (fun r2 z => r2 = some (.int r.1) ∧ z = (L, r.2.1, r.2.2) ∧ (r.1 = 0 ∨ r.1 = 1)) := by
  refine zM.of miX8_readParty (Nat.le_of_ble_eq_true rfl) ?_
  intro p e s m args below meth c X hr hname
  generalize hF : ((fun r2 z => r2 = some (.int r.1) ∧ z = (L, r.2.1, r.2.2) ∧ (r.1 = 0 ∨ r.1 = 1)) : Option Value → zS → Prop) = FQ
  change Zw p l e { frames := 7, cells := 0, slots := 0, locals := 80 * (7) } s m args below meth c G b 6 (MQ below (zQ G b FQ) args s 0 0 (fun q : Nat => b ≤ q)) 0 0 0 [some (.ref P), none, none, none, none, none] [] (L, M, N)
  obtain ⟨p_lt, p_o, p_s, p_read, p_aside, p_kept, p_guest, p_readGuest, p_tape, p_unitName, p_hunterName, p_partyName, p_bits, p_partyOf, p_choiceAt, p_sizes, p_guestMany, p_pointsOf, p_ticketsOf, p_ord, p_given, p_roundOf, p_tags, p_guestTags, p_places, p_sumAt, p_sumFirst, p_sumRound, p_sumBoth, p_sumTags, p_isEnd, p_newPoints, p_inRow, p_out⟩ := id hP
  have L_161 : ∀ u : Nat, ∀ (x1_161 : Int64) (x3_161 : Int32) (x4_161 : Int32) (x5_161 : Int32) (M_161 : zMt) (N_161 : zNt), D_X8_readParty_161 P u x1_161 x3_161 x5_161 M_161 N_161 = some r → Zw p l e { frames := 7, cells := 0, slots := 0, locals := 80 * (7) } s m args below meth c G b 6 (MQ below (zQ G b FQ) args s 0 0 (fun q : Nat => b ≤ q)) 0 0 161 [some (.ref (P)), some (.long x1_161), none, some (.int x3_161), some (.int x4_161), some (.int x5_161)] [] (L, M_161, N_161) := by
    intro u
    induction u with
    | zero => intro x1_161 x3_161 x4_161 x5_161 M_161 N_161 h; cases (show none = some r from h)
    | succ u_161 ih_161 =>
      have J_193 : ∀ (x1_193 : Int64) (x3_193 : Int32) (x4_193 : Int32) (x5_193 : Int32) (M_193 : zMt) (N_193 : zNt), D_X8_readParty_193 P (D_X8_readParty_161 P u_161) x1_193 x3_193 x5_193 M_193 N_193 = some r → Zw p l e { frames := 7, cells := 0, slots := 0, locals := 80 * (7) } s m args below meth c G b 6 (MQ below (zQ G b FQ) args s 0 0 (fun q : Nat => b ≤ q)) 0 0 193 [some (.ref (P)), some (.long x1_193), none, some (.int x3_193), some (.int x4_193), some (.int x5_193)] [] (L, M_193, N_193) := by
        intro x1_193 x3_193 x4_193 x5_193 M_193 N_193 h
        unfold D_X8_readParty_193 at h
        refine a_iinc (v := x5_193 + 1) X dX8_readParty_193 (by decide) rfl zi_1 ?_
        refine a_goto (tgt := 161) X dX8_readParty_196 (by decide) ?_
        exact Zw.to2 (ih_161 _ _ _ _ _ _ h) rfl rfl rfl
      intro x1_161 x3_161 x4_161 x5_161 M_161 N_161 h
      rw [D_X8_readParty_161] at h
      refine a_iload X dX8_readParty_161 rfl ?_
      refine a_aload_n X dX8_readParty_163 rfl ?_
      refine a_geti X lf8_208 (by assumption) rfl dX8_readParty_164 ?_
      refine a_icmp_ge (tgt := 199) X dX8_readParty_167 (by decide) (fun h_167 => ?_) (fun h_167 => ?_)
      · replace h := (if_pos h_167).symm.trans h
        refine a_aload_n X dX8_readParty_199 rfl ?_
        refine a_getr X lf8_46 (by assumption) rfl (by omega) dX8_readParty_200 ?_
        refine a_aload_n X dX8_readParty_203 rfl ?_
        refine a_geti X lf8_211 (by assumption) rfl dX8_readParty_204 ?_
        refine a_lload_n X dX8_readParty_207 rfl ?_
        obtain ⟨g_208, h⟩ := zIx h
        obtain ⟨N_208, f_208, h⟩ := zLtx h
        refine d_lastore X (by assumption) g_208 dX8_readParty_208 f_208 ?_
        refine a_aload_n X dX8_readParty_209 rfl ?_
        refine a_dup X dX8_readParty_210 rfl ?_
        refine a_geti X lf8_211 (by assumption) rfl dX8_readParty_211 ?_
        refine a_iconst (v := 1) X dX8_readParty_214 (by decide) ?_
        refine a_iadd X dX8_readParty_215 ?_
        obtain ⟨M_216, f_216, h⟩ := zLtx h
        refine d_puti X lf8_211 (by assumption) rfl dX8_readParty_216 f_216 ?_
        refine a_iconst (v := 1) X dX8_readParty_219 (by decide) ?_
        refine a_zret X (by first | exact Or.inl rfl | exact Or.inr rfl | assumption) hr dX8_readParty_220 ⟨by decide, by decide⟩ ?_
        subst hF
        rw [← Option.some.inj h]
        exact ⟨rfl, rfl, (by first | exact Or.inl rfl | exact Or.inr rfl | assumption)⟩
      · replace h := (if_neg h_167).symm.trans h
        refine a_iload_n X dX8_readParty_170 rfl ?_
        refine a_iload X dX8_readParty_171 rfl ?_
        obtain ⟨e_173, f_173, h⟩ := zBx h
        refine a_callSx X dX8_readParty_173 miX8_has lm8_240 (t_X8_has f_173) rfl rfl (Nat.le_of_ble_eq_true rfl) ⟨by decide, by decide, by decide, by decide⟩ (fun r_173 S_173 q_173 => ?_)
        obtain ⟨rfl, rfl, b_173⟩ := q_173
        refine a_if_eq (tgt := 193) X dX8_readParty_176 (by decide) (fun h_176 => ?_) (fun h_176 => ?_)
        · replace h := (if_pos h_176).symm.trans h
          exact Zw.to2 (J_193 _ _ _ _ _ _ h) rfl rfl rfl
        · replace h := (if_neg h_176).symm.trans h
          refine a_aload_n X dX8_readParty_179 rfl ?_
          refine a_getr X lf8_13 (by assumption) rfl (by omega) dX8_readParty_180 ?_
          refine a_bipush (v := 10) X dX8_readParty_183 (by decide) ?_
          refine a_iload X dX8_readParty_185 rfl ?_
          refine a_iadd X dX8_readParty_187 ?_
          refine a_aload_n X dX8_readParty_188 rfl ?_
          refine a_geti X lf8_211 (by assumption) rfl dX8_readParty_189 ?_
          obtain ⟨g_192, h⟩ := zIx h
          obtain ⟨M_192, f_192, h⟩ := zLtx h
          refine d_iastore X (by assumption) g_192 dX8_readParty_192 f_192 ?_
          exact Zw.to2 (J_193 _ _ _ _ _ _ h) rfl rfl rfl
  have H_161 : ∀ (x1_161 : Int64) (x3_161 : Int32) (x4_161 : Int32) (x5_161 : Int32) (M_161 : zMt) (N_161 : zNt), D_X8_readParty_161 P zFu x1_161 x3_161 x5_161 M_161 N_161 = some r → Zw p l e { frames := 7, cells := 0, slots := 0, locals := 80 * (7) } s m args below meth c G b 6 (MQ below (zQ G b FQ) args s 0 0 (fun q : Nat => b ≤ q)) 0 0 161 [some (.ref (P)), some (.long x1_161), none, some (.int x3_161), some (.int x4_161), some (.int x5_161)] [] (L, M_161, N_161) := L_161 zFu
  have J_134 : ∀ (x1_134 : Int64) (x3_134 : Int32) (x4_134 : Int32) (x5_134 : Int32) (M_134 : zMt) (N_134 : zNt), D_X8_readParty_134 P M_134 N_134 = some r → Zw p l e { frames := 7, cells := 0, slots := 0, locals := 80 * (7) } s m args below meth c G b 6 (MQ below (zQ G b FQ) args s 0 0 (fun q : Nat => b ≤ q)) 0 0 134 [some (.ref (P)), some (.long x1_134), none, some (.int x3_134), some (.int x4_134), some (.int x5_134)] [] (L, M_134, N_134) := by
    intro x1_134 x3_134 x4_134 x5_134 M_134 N_134 h
    unfold D_X8_readParty_134 at h
    refine a_aload_n X dX8_readParty_134 rfl ?_
    refine a_iconst (v := 4) X dX8_readParty_135 (by decide) ?_
    obtain ⟨e_136, f_136, h⟩ := zBx h
    refine a_callVx X dX8_readParty_136 miX8_bad lm8_214 (t_X8_bad (by assumption) f_136) (by assumption) rfl rfl rfl (Nat.le_of_ble_eq_true rfl) ⟨by decide, by decide, by decide, by decide⟩ (fun r_136 S_136 q_136 => ?_)
    obtain ⟨rfl, rfl, b_136⟩ := q_136
    refine a_zret X (by first | exact Or.inl rfl | exact Or.inr rfl | assumption) hr dX8_readParty_139 ⟨by decide, by decide⟩ ?_
    subst hF
    rw [← Option.some.inj h]
    exact ⟨rfl, rfl, (by first | exact Or.inl rfl | exact Or.inr rfl | assumption)⟩
  have J_66 : ∀ (x1_66 : Int64) (x3_66 : Int32) (x4_66 : Int32) (x5_66 : Option Value) (M_66 : zMt) (N_66 : zNt), D_X8_readParty_66 P M_66 N_66 = some r → Zw p l e { frames := 7, cells := 0, slots := 0, locals := 80 * (7) } s m args below meth c G b 6 (MQ below (zQ G b FQ) args s 0 0 (fun q : Nat => b ≤ q)) 0 0 66 [some (.ref (P)), some (.long x1_66), none, some (.int x3_66), some (.int x4_66), x5_66] [] (L, M_66, N_66) := by
    intro x1_66 x3_66 x4_66 x5_66 M_66 N_66 h
    unfold D_X8_readParty_66 at h
    refine a_aload_n X dX8_readParty_66 rfl ?_
    refine a_iconst (v := 2) X dX8_readParty_67 (by decide) ?_
    obtain ⟨e_68, f_68, h⟩ := zBx h
    refine a_callVx X dX8_readParty_68 miX8_bad lm8_214 (t_X8_bad (by assumption) f_68) (by assumption) rfl rfl rfl (Nat.le_of_ble_eq_true rfl) ⟨by decide, by decide, by decide, by decide⟩ (fun r_68 S_68 q_68 => ?_)
    obtain ⟨rfl, rfl, b_68⟩ := q_68
    refine a_zret X (by first | exact Or.inl rfl | exact Or.inr rfl | assumption) hr dX8_readParty_71 ⟨by decide, by decide⟩ ?_
    subst hF
    rw [← Option.some.inj h]
    exact ⟨rfl, rfl, (by first | exact Or.inl rfl | exact Or.inr rfl | assumption)⟩
  have L_40 : ∀ u : Nat, ∀ (x1_40 : Int64) (x3_40 : Int32) (x4_40 : Int32) (x5_40 : Option Value) (M_40 : zMt) (N_40 : zNt), D_X8_readParty_40 P u x1_40 x3_40 x4_40 M_40 N_40 = some r → Zw p l e { frames := 7, cells := 0, slots := 0, locals := 80 * (7) } s m args below meth c G b 6 (MQ below (zQ G b FQ) args s 0 0 (fun q : Nat => b ≤ q)) 0 0 40 [some (.ref (P)), some (.long x1_40), none, some (.int x3_40), some (.int x4_40), x5_40] [] (L, M_40, N_40) := by
    intro u
    induction u with
    | zero => intro x1_40 x3_40 x4_40 x5_40 M_40 N_40 h; cases (show none = some r from h)
    | succ u_40 ih_40 =>
      have J_53 : ∀ (x1_53 : Int64) (x3_53 : Int32) (x4_53 : Int32) (x5_53 : Option Value) (M_53 : zMt) (N_53 : zNt), D_X8_readParty_53 P (D_X8_readParty_40 P u_40) x1_53 x3_53 x4_53 M_53 N_53 = some r → Zw p l e { frames := 7, cells := 0, slots := 0, locals := 80 * (7) } s m args below meth c G b 6 (MQ below (zQ G b FQ) args s 0 0 (fun q : Nat => b ≤ q)) 0 0 53 [some (.ref (P)), some (.long x1_53), none, some (.int x3_53), some (.int x4_53), x5_53] [] (L, M_53, N_53) := by
        intro x1_53 x3_53 x4_53 x5_53 M_53 N_53 h
        unfold D_X8_readParty_53 at h
        refine a_aload_n X dX8_readParty_53 rfl ?_
        obtain ⟨e_54, f_54, h⟩ := zBx h
        refine a_callVx X dX8_readParty_54 miX8_isName lm8_224 (t_X8_isName (by assumption) f_54) (by assumption) rfl rfl rfl (Nat.le_of_ble_eq_true rfl) ⟨by decide, by decide, by decide, by decide⟩ (fun r_54 S_54 q_54 => ?_)
        obtain ⟨rfl, rfl, b_54⟩ := q_54
        refine a_if_eq (tgt := 66) X dX8_readParty_57 (by decide) (fun h_57 => ?_) (fun h_57 => ?_)
        · replace h := (if_pos h_57).symm.trans h
          exact Zw.to2 (J_66 _ _ _ _ _ _ h) rfl rfl rfl
        · replace h := (if_neg h_57).symm.trans h
          refine a_iload X dX8_readParty_60 rfl ?_
          refine a_iconst (v := 4) X dX8_readParty_62 (by decide) ?_
          refine a_icmp_ne (tgt := 72) X dX8_readParty_63 (by decide) (fun h_63 => ?_) (fun h_63 => ?_)
          · replace h := (if_neg h_63).symm.trans h
            refine a_aload_n X dX8_readParty_72 rfl ?_
            refine a_getr X lf8_43 (by assumption) rfl (by omega) dX8_readParty_73 ?_
            refine a_aload_n X dX8_readParty_76 rfl ?_
            refine a_geti X lf8_208 (by assumption) rfl dX8_readParty_77 ?_
            refine a_aload_n X dX8_readParty_80 rfl ?_
            refine a_getl X lf8_167 (by assumption) rfl dX8_readParty_81 ?_
            obtain ⟨e_84, f_84, h⟩ := zBx h
            refine a_callSv X dX8_readParty_84 miX8_found lm8_204 (t_X8_found (by assumption) (by first | decide | assumption) f_84) rfl rfl (Nat.le_of_ble_eq_true rfl) ⟨by decide, by decide, by decide, by decide⟩ ?_
            refine a_istore X dX8_readParty_87 (by decide) ?_
            refine a_iload X dX8_readParty_89 rfl ?_
            refine a_iconst (v := -1) X dX8_readParty_91 (by decide) ?_
            refine a_icmp_eq (tgt := 134) X dX8_readParty_92 (by decide) (fun h_92 => ?_) (fun h_92 => ?_)
            · replace h := (if_pos h_92).symm.trans h
              exact Zw.to2 (J_134 _ _ _ _ _ _ h) rfl rfl rfl
            · replace h := (if_neg h_92).symm.trans h
              refine a_aload_n X dX8_readParty_95 rfl ?_
              refine a_getr X lf8_13 (by assumption) rfl (by omega) dX8_readParty_96 ?_
              refine a_bipush (v := 10) X dX8_readParty_99 (by decide) ?_
              refine a_iload X dX8_readParty_101 rfl ?_
              refine a_iadd X dX8_readParty_103 ?_
              obtain ⟨g_104, h⟩ := zIx h
              refine a_iaload X (by assumption) g_104 dX8_readParty_104 ?_
              refine a_iconst (v := -1) X dX8_readParty_105 (by decide) ?_
              refine a_icmp_ne (tgt := 134) X dX8_readParty_106 (by decide) (fun h_106 => ?_) (fun h_106 => ?_)
              · replace h := (if_neg h_106).symm.trans h
                exact Zw.to2 (J_134 _ _ _ _ _ _ h) rfl rfl rfl
              · replace h := (if_pos h_106).symm.trans h
                refine a_aload_n X dX8_readParty_109 rfl ?_
                refine a_getr X lf8_13 (by assumption) rfl (by omega) dX8_readParty_110 ?_
                refine a_bipush (v := 20) X dX8_readParty_113 (by decide) ?_
                refine a_iconst (v := 3) X dX8_readParty_115 (by decide) ?_
                refine a_iload X dX8_readParty_116 rfl ?_
                refine a_imul X dX8_readParty_118 ?_
                refine a_iadd X dX8_readParty_119 ?_
                obtain ⟨g_120, h⟩ := zIx h
                refine a_iaload X (by assumption) g_120 dX8_readParty_120 ?_
                refine a_iconst (v := -1) X dX8_readParty_121 (by decide) ?_
                refine a_icmp_ne (tgt := 134) X dX8_readParty_122 (by decide) (fun h_122 => ?_) (fun h_122 => ?_)
                · replace h := (if_neg h_122).symm.trans h
                  exact Zw.to2 (J_134 _ _ _ _ _ _ h) rfl rfl rfl
                · replace h := (if_pos h_122).symm.trans h
                  refine a_iload_n X dX8_readParty_125 rfl ?_
                  refine a_iload X dX8_readParty_126 rfl ?_
                  obtain ⟨e_128, f_128, h⟩ := zBx h
                  refine a_callSx X dX8_readParty_128 miX8_has lm8_240 (t_X8_has f_128) rfl rfl (Nat.le_of_ble_eq_true rfl) ⟨by decide, by decide, by decide, by decide⟩ (fun r_128 S_128 q_128 => ?_)
                  obtain ⟨rfl, rfl, b_128⟩ := q_128
                  refine a_if_eq (tgt := 140) X dX8_readParty_131 (by decide) (fun h_131 => ?_) (fun h_131 => ?_)
                  · replace h := (if_pos h_131).symm.trans h
                    refine a_iload_n X dX8_readParty_140 rfl ?_
                    refine a_iconst (v := 1) X dX8_readParty_141 (by decide) ?_
                    refine a_iload X dX8_readParty_142 rfl ?_
                    refine a_ishl X dX8_readParty_144 ?_
                    refine a_ior X dX8_readParty_145 ?_
                    refine a_istore_n X dX8_readParty_146 (by decide) ?_
                    refine a_iinc (v := x4_53 + 1) X dX8_readParty_147 (by decide) rfl zi_1 ?_
                    refine a_aload_n X dX8_readParty_150 rfl ?_
                    obtain ⟨e_151, f_151, h⟩ := zBx h
                    refine a_callVx X dX8_readParty_151 miX8_next lm8_220 (t_X8_next (by assumption) f_151) (by assumption) rfl rfl rfl (Nat.le_of_ble_eq_true rfl) ⟨by decide, by decide, by decide, by decide⟩ (fun r_151 S_151 q_151 => ?_)
                    obtain ⟨rfl, rfl, b_151⟩ := q_151
                    refine a_pop X dX8_readParty_154 rfl ?_
                    refine a_goto (tgt := 40) X dX8_readParty_155 (by decide) ?_
                    exact Zw.to2 (ih_40 _ _ _ _ _ _ h) rfl rfl rfl
                  · replace h := (if_neg h_131).symm.trans h
                    exact Zw.to2 (J_134 _ _ _ _ _ _ h) rfl rfl rfl
          · replace h := (if_pos h_63).symm.trans h
            exact Zw.to2 (J_66 _ _ _ _ _ _ h) rfl rfl rfl
      intro x1_40 x3_40 x4_40 x5_40 M_40 N_40 h
      rw [D_X8_readParty_40] at h
      refine a_iload X dX8_readParty_40 rfl ?_
      refine a_iconst (v := 2) X dX8_readParty_42 (by decide) ?_
      refine a_icmp_lt (tgt := 53) X dX8_readParty_43 (by decide) (fun h_43 => ?_) (fun h_43 => ?_)
      · replace h := (if_pos h_43).symm.trans h
        exact Zw.to2 (J_53 _ _ _ _ _ _ h) rfl rfl rfl
      · replace h := (if_neg h_43).symm.trans h
        refine a_aload_n X dX8_readParty_46 rfl ?_
        obtain ⟨e_47, f_47, h⟩ := zBx h
        refine a_callVx X dX8_readParty_47 miX8_isName lm8_224 (t_X8_isName (by assumption) f_47) (by assumption) rfl rfl rfl (Nat.le_of_ble_eq_true rfl) ⟨by decide, by decide, by decide, by decide⟩ (fun r_47 S_47 q_47 => ?_)
        obtain ⟨rfl, rfl, b_47⟩ := q_47
        refine a_if_eq (tgt := 158) X dX8_readParty_50 (by decide) (fun h_50 => ?_) (fun h_50 => ?_)
        · replace h := (if_pos h_50).symm.trans h
          refine a_iconst (v := 0) X dX8_readParty_158 (by decide) ?_
          refine a_istore X dX8_readParty_159 (by decide) ?_
          exact Zw.to2 (H_161 _ _ _ _ _ _ h) rfl rfl rfl
        · replace h := (if_neg h_50).symm.trans h
          exact Zw.to2 (J_53 _ _ _ _ _ _ h) rfl rfl rfl
  have H_40 : ∀ (x1_40 : Int64) (x3_40 : Int32) (x4_40 : Int32) (x5_40 : Option Value) (M_40 : zMt) (N_40 : zNt), D_X8_readParty_40 P zFu x1_40 x3_40 x4_40 M_40 N_40 = some r → Zw p l e { frames := 7, cells := 0, slots := 0, locals := 80 * (7) } s m args below meth c G b 6 (MQ below (zQ G b FQ) args s 0 0 (fun q : Nat => b ≤ q)) 0 0 40 [some (.ref (P)), some (.long x1_40), none, some (.int x3_40), some (.int x4_40), x5_40] [] (L, M_40, N_40) := L_40 zFu
  have J_28 : ∀ (x1_28 : Option Value) (x2_28 : Option Value) (x3_28 : Option Value) (x4_28 : Option Value) (x5_28 : Option Value) (M_28 : zMt) (N_28 : zNt), D_X8_readParty_28 P M_28 N_28 = some r → Zw p l e { frames := 7, cells := 0, slots := 0, locals := 80 * (7) } s m args below meth c G b 6 (MQ below (zQ G b FQ) args s 0 0 (fun q : Nat => b ≤ q)) 0 0 28 [some (.ref (P)), x1_28, x2_28, x3_28, x4_28, x5_28] [] (L, M_28, N_28) := by
    intro x1_28 x2_28 x3_28 x4_28 x5_28 M_28 N_28 h
    unfold D_X8_readParty_28 at h
    refine a_iconst (v := 0) X dX8_readParty_28 (by decide) ?_
    refine a_zret X (by first | exact Or.inl rfl | exact Or.inr rfl | assumption) hr dX8_readParty_29 ⟨by decide, by decide⟩ ?_
    subst hF
    rw [← Option.some.inj h]
    exact ⟨rfl, rfl, (by first | exact Or.inl rfl | exact Or.inr rfl | assumption)⟩
  unfold D_X8_readParty at h
  refine a_aload_n X dX8_readParty_0 rfl ?_
  refine a_geti X lf8_211 (by assumption) rfl dX8_readParty_1 ?_
  refine a_iconst (v := 4) X dX8_readParty_4 (by decide) ?_
  refine a_icmp_ne (tgt := 14) X dX8_readParty_5 (by decide) (fun h_5 => ?_) (fun h_5 => ?_)
  · replace h := (if_neg h_5).symm.trans h
    refine a_aload_n X dX8_readParty_14 rfl ?_
    obtain ⟨e_15, f_15, h⟩ := zBx h
    refine a_callVx X dX8_readParty_15 miX8_next lm8_220 (t_X8_next (by assumption) f_15) (by assumption) rfl rfl rfl (Nat.le_of_ble_eq_true rfl) ⟨by decide, by decide, by decide, by decide⟩ (fun r_15 S_15 q_15 => ?_)
    obtain ⟨rfl, rfl, b_15⟩ := q_15
    refine a_if_eq (tgt := 28) X dX8_readParty_18 (by decide) (fun h_18 => ?_) (fun h_18 => ?_)
    · replace h := (if_pos h_18).symm.trans h
      exact Zw.to2 (J_28 _ _ _ _ _ _ _ h) rfl rfl rfl
    · replace h := (if_neg h_18).symm.trans h
      refine a_aload_n X dX8_readParty_21 rfl ?_
      obtain ⟨e_22, f_22, h⟩ := zBx h
      refine a_callVx X dX8_readParty_22 miX8_newName lm8_233 (t_X8_newName (by assumption) f_22) (by assumption) rfl rfl rfl (Nat.le_of_ble_eq_true rfl) ⟨by decide, by decide, by decide, by decide⟩ (fun r_22 S_22 q_22 => ?_)
      obtain ⟨rfl, rfl, b_22⟩ := q_22
      refine a_if_ne (tgt := 30) X dX8_readParty_25 (by decide) (fun h_25 => ?_) (fun h_25 => ?_)
      · replace h := (if_neg h_25).symm.trans h
        refine a_aload_n X dX8_readParty_30 rfl ?_
        refine a_getl X lf8_230 (by assumption) rfl dX8_readParty_31 ?_
        refine a_lstore_n X dX8_readParty_34 (by decide) ?_
        refine a_iconst (v := 0) X dX8_readParty_35 (by decide) ?_
        refine a_istore_n X dX8_readParty_36 (by decide) ?_
        refine a_iconst (v := 0) X dX8_readParty_37 (by decide) ?_
        refine a_istore X dX8_readParty_38 (by decide) ?_
        exact Zw.to2 (H_40 _ _ _ _ _ _ h) rfl rfl rfl
      · replace h := (if_pos h_25).symm.trans h
        exact Zw.to2 (J_28 _ _ _ _ _ _ _ h) rfl rfl rfl
  · replace h := (if_pos h_5).symm.trans h
    refine a_aload_n X dX8_readParty_8 rfl ?_
    refine a_iconst (v := 2) X dX8_readParty_9 (by decide) ?_
    obtain ⟨e_10, f_10, h⟩ := zBx h
    refine a_callVx X dX8_readParty_10 miX8_bad lm8_214 (t_X8_bad (by assumption) f_10) (by assumption) rfl rfl rfl (Nat.le_of_ble_eq_true rfl) ⟨by decide, by decide, by decide, by decide⟩ (fun r_10 S_10 q_10 => ?_)
    obtain ⟨rfl, rfl, b_10⟩ := q_10
    refine a_zret X (by first | exact Or.inl rfl | exact Or.inr rfl | assumption) hr dX8_readParty_13 ⟨by decide, by decide⟩ ?_
    subst hF
    rw [← Option.some.inj h]
    exact ⟨rfl, rfl, (by first | exact Or.inl rfl | exact Or.inr rfl | assumption)⟩
noncomputable def D_X8_readAsks_149 (P : Nat) (M_149 : zMt) (N_149 : zNt) : Option (Int32 × zMt × zNt) :=
  zB (D_X8_bad P (2 : Int32) M_149) fun e_151 =>
  some (e_151.1, e_151.2, N_149)
noncomputable def D_X8_readAsks_187 (P : Nat) (k124 : Int32 → Int32 → zMt → zNt → Option (Int32 × zMt × zNt)) : Nat → Int32 → Int32 → Int32 → Int32 → zMt → zNt → Option (Int32 × zMt × zNt)
  | 0, _, _, _, _, _, _ => none
  | n + 1, x3_187, x4_187, x5_187, x6_187, M_187, N_187 =>
    if x4_187 ≤ x6_187 then
      zI (x3_187 + x4_187) 82 <|
      zLt (zu M_187 (P + 2) (x3_187 + x4_187).toNatClampNeg x5_187) fun M_230 =>
      zB (D_X8_next P M_230 N_187) fun e_235 =>
      k124 x3_187 (x4_187 + 1) e_235.2.1 e_235.2.2
    else
      zI (x3_187 + x6_187) 82 <|
      if (M_187 (P + 2) (x3_187 + x6_187).toNatClampNeg) = x5_187 then
        zB (D_X8_bad P (4 : Int32) M_187) fun e_210 =>
        some (e_210.1, e_210.2, N_187)
      else
        (D_X8_readAsks_187 P k124 n) x3_187 x4_187 x5_187 (x6_187 + 1) M_187 N_187
noncomputable def D_X8_readAsks_136 (P : Nat) (k124 : Int32 → Int32 → zMt → zNt → Option (Int32 × zMt × zNt)) (x3_136 : Int32) (x4_136 : Int32) (M_136 : zMt) (N_136 : zNt) : Option (Int32 × zMt × zNt) :=
  zB (D_X8_isName P M_136) fun e_137 =>
  if e_137 = 0 then
    D_X8_readAsks_149 P M_136 N_136
  else
    if x4_136 = (3 : Int32) then
      D_X8_readAsks_149 P M_136 N_136
    else
      zB (D_X8_found (P + 8) 5 N_136 (M_136 P 28) (N_136 P 24)) fun e_167 =>
      if e_167 = (-1 : Int32) then
        zB (D_X8_bad P (4 : Int32) M_136) fun e_180 =>
        some (e_180.1, e_180.2, N_136)
      else
        D_X8_readAsks_187 P k124 zFu x3_136 x4_136 e_167 (0 : Int32) M_136 N_136
noncomputable def D_X8_readAsks_124 (P : Nat) : Nat → Int32 → Int32 → zMt → zNt → Option (Int32 × zMt × zNt)
  | 0, _, _, _, _ => none
  | n + 1, x3_124, x4_124, M_124, N_124 =>
    if x4_124 = 0 then
      D_X8_readAsks_136 P (D_X8_readAsks_124 P n) x3_124 x4_124 M_124 N_124
    else
      zB (D_X8_isName P M_124) fun e_130 =>
      if e_130 = 0 then
        some ((1 : Int32), M_124, N_124)
      else
        D_X8_readAsks_136 P (D_X8_readAsks_124 P n) x3_124 x4_124 M_124 N_124
noncomputable def D_X8_readAsks_99 (P : Nat) (y0_99 : Int32) (M_99 : zMt) (N_99 : zNt) : Option (Int32 × zMt × zNt) :=
  zI y0_99 82 <|
  if (M_99 (P + 2) y0_99.toNatClampNeg) = (-1 : Int32) then
    zB (D_X8_next P M_99 N_99) fun e_117 =>
    D_X8_readAsks_124 P zFu y0_99 (0 : Int32) e_117.2.1 e_117.2.2
  else
    zB (D_X8_bad P (4 : Int32) M_99) fun e_112 =>
    some (e_112.1, e_112.2, N_99)
noncomputable def D_X8_readAsks_79 (P : Nat) (x1_79 : Int32) (x2_79 : Int32) (M_79 : zMt) (N_79 : zNt) : Option (Int32 × zMt × zNt) :=
  if x2_79 = (-1 : Int32) then
    D_X8_readAsks_99 P ((20 : Int32) + ((3 : Int32) * x1_79)) M_79 N_79
  else
    D_X8_readAsks_99 P ((50 : Int32) + ((3 : Int32) * x2_79)) M_79 N_79
noncomputable def D_X8_readAsks_73 (P : Nat) (M_73 : zMt) (N_73 : zNt) : Option (Int32 × zMt × zNt) :=
  zB (D_X8_bad P (4 : Int32) M_73) fun e_75 =>
  some (e_75.1, e_75.2, N_73)
noncomputable def D_X8_readAsks (P : Nat) (M : zMt) (N : zNt) : Option (Int32 × zMt × zNt) :=
  zB (D_X8_next P M N) fun e_1 =>
  zB (D_X8_isName P e_1.2.1) fun e_6 =>
  if e_6 = 0 then
    zB (D_X8_bad P (2 : Int32) e_1.2.1) fun e_14 =>
    some (e_14.1, e_14.2, e_1.2.2)
  else
    zB (D_X8_found (P + 9) 10 e_1.2.2 (e_1.2.1 P 29) (e_1.2.2 P 24)) fun e_30 =>
    zB (D_X8_found (P + 10) 4 e_1.2.2 (e_1.2.1 P 30) (e_1.2.2 P 24)) fun e_46 =>
    if e_46 = (-1 : Int32) then
      if e_30 = (-1 : Int32) then
        D_X8_readAsks_73 P e_1.2.1 e_1.2.2
      else
        zI ((10 : Int32) + e_30) 82 <|
        if (e_1.2.1 (P + 2) ((10 : Int32) + e_30).toNatClampNeg) = (-1 : Int32) then
          D_X8_readAsks_79 P e_30 e_46 e_1.2.1 e_1.2.2
        else
          D_X8_readAsks_73 P e_1.2.1 e_1.2.2
    else
      D_X8_readAsks_79 P e_30 e_46 e_1.2.1 e_1.2.2
set_option maxRecDepth 100000 in
set_option maxHeartbeats 4000000 in
theorem t_X8_readAsks {l : Launch} {G : zG} {b : Nat} {L : List zC} {M : zMt} {N : zNt} {P : Nat}  (hP : LX8 L P) {r : Int32 × zMt × zNt} (h : D_X8_readAsks P M N = some r) : zM l G b yX8_readAsks cX8_readAsks 7 (some .boolean) 6 0 0 [.ref P] (L, M, N) (fun r2 z => r2 = some (.int r.1) ∧ z = (L, r.2.1, r.2.2) ∧ (r.1 = 0 ∨ r.1 = 1)) := by
  refine zM.of miX8_readAsks (Nat.le_of_ble_eq_true rfl) ?_
  intro p e s m args below meth c X hr hname
  generalize hF : ((fun r2 z => r2 = some (.int r.1) ∧ z = (L, r.2.1, r.2.2) ∧ (r.1 = 0 ∨ r.1 = 1)) : Option Value → zS → Prop) = FQ
  change Zw p l e { frames := 6, cells := 0, slots := 0, locals := 80 * (6) } s m args below meth c G b 7 (MQ below (zQ G b FQ) args s 0 0 (fun q : Nat => b ≤ q)) 0 0 0 [some (.ref P), none, none, none, none, none, none] [] (L, M, N)
  obtain ⟨p_lt, p_o, p_s, p_read, p_aside, p_kept, p_guest, p_readGuest, p_tape, p_unitName, p_hunterName, p_partyName, p_bits, p_partyOf, p_choiceAt, p_sizes, p_guestMany, p_pointsOf, p_ticketsOf, p_ord, p_given, p_roundOf, p_tags, p_guestTags, p_places, p_sumAt, p_sumFirst, p_sumRound, p_sumBoth, p_sumTags, p_isEnd, p_newPoints, p_inRow, p_out⟩ := id hP
  have J_149 : ∀ (x1_149 : Int32) (x2_149 : Int32) (x3_149 : Int32) (x4_149 : Int32) (x5_149 : Option Value) (x6_149 : Option Value) (M_149 : zMt) (N_149 : zNt), D_X8_readAsks_149 P M_149 N_149 = some r → Zw p l e { frames := 6, cells := 0, slots := 0, locals := 80 * (6) } s m args below meth c G b 7 (MQ below (zQ G b FQ) args s 0 0 (fun q : Nat => b ≤ q)) 0 0 149 [some (.ref (P)), some (.int x1_149), some (.int x2_149), some (.int x3_149), some (.int x4_149), x5_149, x6_149] [] (L, M_149, N_149) := by
    intro x1_149 x2_149 x3_149 x4_149 x5_149 x6_149 M_149 N_149 h
    unfold D_X8_readAsks_149 at h
    refine a_aload_n X dX8_readAsks_149 rfl ?_
    refine a_iconst (v := 2) X dX8_readAsks_150 (by decide) ?_
    obtain ⟨e_151, f_151, h⟩ := zBx h
    refine a_callVx X dX8_readAsks_151 miX8_bad lm8_214 (t_X8_bad (by assumption) f_151) (by assumption) rfl rfl rfl (Nat.le_of_ble_eq_true rfl) ⟨by decide, by decide, by decide, by decide⟩ (fun r_151 S_151 q_151 => ?_)
    obtain ⟨rfl, rfl, b_151⟩ := q_151
    refine a_zret X (by first | exact Or.inl rfl | exact Or.inr rfl | assumption) hr dX8_readAsks_154 ⟨by decide, by decide⟩ ?_
    subst hF
    rw [← Option.some.inj h]
    exact ⟨rfl, rfl, (by first | exact Or.inl rfl | exact Or.inr rfl | assumption)⟩
  have L_124 : ∀ u : Nat, ∀ (x1_124 : Int32) (x2_124 : Int32) (x3_124 : Int32) (x4_124 : Int32) (x5_124 : Option Value) (x6_124 : Option Value) (M_124 : zMt) (N_124 : zNt), D_X8_readAsks_124 P u x3_124 x4_124 M_124 N_124 = some r → Zw p l e { frames := 6, cells := 0, slots := 0, locals := 80 * (6) } s m args below meth c G b 7 (MQ below (zQ G b FQ) args s 0 0 (fun q : Nat => b ≤ q)) 0 0 124 [some (.ref (P)), some (.int x1_124), some (.int x2_124), some (.int x3_124), some (.int x4_124), x5_124, x6_124] [] (L, M_124, N_124) := by
    intro u
    induction u with
    | zero => intro x1_124 x2_124 x3_124 x4_124 x5_124 x6_124 M_124 N_124 h; cases (show none = some r from h)
    | succ u_124 ih_124 =>
      have L_187 : ∀ u : Nat, ∀ (x1_187 : Int32) (x2_187 : Int32) (x3_187 : Int32) (x4_187 : Int32) (x5_187 : Int32) (x6_187 : Int32) (M_187 : zMt) (N_187 : zNt), D_X8_readAsks_187 P (D_X8_readAsks_124 P u_124) u x3_187 x4_187 x5_187 x6_187 M_187 N_187 = some r → Zw p l e { frames := 6, cells := 0, slots := 0, locals := 80 * (6) } s m args below meth c G b 7 (MQ below (zQ G b FQ) args s 0 0 (fun q : Nat => b ≤ q)) 0 0 187 [some (.ref (P)), some (.int x1_187), some (.int x2_187), some (.int x3_187), some (.int x4_187), some (.int x5_187), some (.int x6_187)] [] (L, M_187, N_187) := by
        intro u
        induction u with
        | zero => intro x1_187 x2_187 x3_187 x4_187 x5_187 x6_187 M_187 N_187 h; cases (show none = some r from h)
        | succ u_187 ih_187 =>
          intro x1_187 x2_187 x3_187 x4_187 x5_187 x6_187 M_187 N_187 h
          rw [D_X8_readAsks_187] at h
          refine a_iload X dX8_readAsks_187 rfl ?_
          refine a_iload X dX8_readAsks_189 rfl ?_
          refine a_icmp_ge (tgt := 220) X dX8_readAsks_191 (by decide) (fun h_191 => ?_) (fun h_191 => ?_)
          · replace h := (if_pos h_191).symm.trans h
            refine a_aload_n X dX8_readAsks_220 rfl ?_
            refine a_getr X lf8_13 (by assumption) rfl (by omega) dX8_readAsks_221 ?_
            refine a_iload_n X dX8_readAsks_224 rfl ?_
            refine a_iload X dX8_readAsks_225 rfl ?_
            refine a_iadd X dX8_readAsks_227 ?_
            refine a_iload X dX8_readAsks_228 rfl ?_
            obtain ⟨g_230, h⟩ := zIx h
            obtain ⟨M_230, f_230, h⟩ := zLtx h
            refine d_iastore X (by assumption) g_230 dX8_readAsks_230 f_230 ?_
            refine a_iinc (v := x4_187 + 1) X dX8_readAsks_231 (by decide) rfl zi_1 ?_
            refine a_aload_n X dX8_readAsks_234 rfl ?_
            obtain ⟨e_235, f_235, h⟩ := zBx h
            refine a_callVx X dX8_readAsks_235 miX8_next lm8_220 (t_X8_next (by assumption) f_235) (by assumption) rfl rfl rfl (Nat.le_of_ble_eq_true rfl) ⟨by decide, by decide, by decide, by decide⟩ (fun r_235 S_235 q_235 => ?_)
            obtain ⟨rfl, rfl, b_235⟩ := q_235
            refine a_pop X dX8_readAsks_238 rfl ?_
            refine a_goto (tgt := 124) X dX8_readAsks_239 (by decide) ?_
            exact Zw.to2 (ih_124 _ _ _ _ _ _ _ _ h) rfl rfl rfl
          · replace h := (if_neg h_191).symm.trans h
            refine a_aload_n X dX8_readAsks_194 rfl ?_
            refine a_getr X lf8_13 (by assumption) rfl (by omega) dX8_readAsks_195 ?_
            refine a_iload_n X dX8_readAsks_198 rfl ?_
            refine a_iload X dX8_readAsks_199 rfl ?_
            refine a_iadd X dX8_readAsks_201 ?_
            obtain ⟨g_202, h⟩ := zIx h
            refine a_iaload X (by assumption) g_202 dX8_readAsks_202 ?_
            refine a_iload X dX8_readAsks_203 rfl ?_
            refine a_icmp_ne (tgt := 214) X dX8_readAsks_205 (by decide) (fun h_205 => ?_) (fun h_205 => ?_)
            · replace h := (if_neg h_205).symm.trans h
              refine a_iinc (v := x6_187 + 1) X dX8_readAsks_214 (by decide) rfl zi_1 ?_
              refine a_goto (tgt := 187) X dX8_readAsks_217 (by decide) ?_
              exact Zw.to2 (ih_187 _ _ _ _ _ _ _ _ h) rfl rfl rfl
            · replace h := (if_pos h_205).symm.trans h
              refine a_aload_n X dX8_readAsks_208 rfl ?_
              refine a_iconst (v := 4) X dX8_readAsks_209 (by decide) ?_
              obtain ⟨e_210, f_210, h⟩ := zBx h
              refine a_callVx X dX8_readAsks_210 miX8_bad lm8_214 (t_X8_bad (by assumption) f_210) (by assumption) rfl rfl rfl (Nat.le_of_ble_eq_true rfl) ⟨by decide, by decide, by decide, by decide⟩ (fun r_210 S_210 q_210 => ?_)
              obtain ⟨rfl, rfl, b_210⟩ := q_210
              refine a_zret X (by first | exact Or.inl rfl | exact Or.inr rfl | assumption) hr dX8_readAsks_213 ⟨by decide, by decide⟩ ?_
              subst hF
              rw [← Option.some.inj h]
              exact ⟨rfl, rfl, (by first | exact Or.inl rfl | exact Or.inr rfl | assumption)⟩
      have H_187 : ∀ (x1_187 : Int32) (x2_187 : Int32) (x3_187 : Int32) (x4_187 : Int32) (x5_187 : Int32) (x6_187 : Int32) (M_187 : zMt) (N_187 : zNt), D_X8_readAsks_187 P (D_X8_readAsks_124 P u_124) zFu x3_187 x4_187 x5_187 x6_187 M_187 N_187 = some r → Zw p l e { frames := 6, cells := 0, slots := 0, locals := 80 * (6) } s m args below meth c G b 7 (MQ below (zQ G b FQ) args s 0 0 (fun q : Nat => b ≤ q)) 0 0 187 [some (.ref (P)), some (.int x1_187), some (.int x2_187), some (.int x3_187), some (.int x4_187), some (.int x5_187), some (.int x6_187)] [] (L, M_187, N_187) := L_187 zFu
      have J_136 : ∀ (x1_136 : Int32) (x2_136 : Int32) (x3_136 : Int32) (x4_136 : Int32) (x5_136 : Option Value) (x6_136 : Option Value) (M_136 : zMt) (N_136 : zNt), D_X8_readAsks_136 P (D_X8_readAsks_124 P u_124) x3_136 x4_136 M_136 N_136 = some r → Zw p l e { frames := 6, cells := 0, slots := 0, locals := 80 * (6) } s m args below meth c G b 7 (MQ below (zQ G b FQ) args s 0 0 (fun q : Nat => b ≤ q)) 0 0 136 [some (.ref (P)), some (.int x1_136), some (.int x2_136), some (.int x3_136), some (.int x4_136), x5_136, x6_136] [] (L, M_136, N_136) := by
        intro x1_136 x2_136 x3_136 x4_136 x5_136 x6_136 M_136 N_136 h
        unfold D_X8_readAsks_136 at h
        refine a_aload_n X dX8_readAsks_136 rfl ?_
        obtain ⟨e_137, f_137, h⟩ := zBx h
        refine a_callVx X dX8_readAsks_137 miX8_isName lm8_224 (t_X8_isName (by assumption) f_137) (by assumption) rfl rfl rfl (Nat.le_of_ble_eq_true rfl) ⟨by decide, by decide, by decide, by decide⟩ (fun r_137 S_137 q_137 => ?_)
        obtain ⟨rfl, rfl, b_137⟩ := q_137
        refine a_if_eq (tgt := 149) X dX8_readAsks_140 (by decide) (fun h_140 => ?_) (fun h_140 => ?_)
        · replace h := (if_pos h_140).symm.trans h
          exact Zw.to2 (J_149 _ _ _ _ _ _ _ _ h) rfl rfl rfl
        · replace h := (if_neg h_140).symm.trans h
          refine a_iload X dX8_readAsks_143 rfl ?_
          refine a_iconst (v := 3) X dX8_readAsks_145 (by decide) ?_
          refine a_icmp_ne (tgt := 155) X dX8_readAsks_146 (by decide) (fun h_146 => ?_) (fun h_146 => ?_)
          · replace h := (if_neg h_146).symm.trans h
            refine a_aload_n X dX8_readAsks_155 rfl ?_
            refine a_getr X lf8_39 (by assumption) rfl (by omega) dX8_readAsks_156 ?_
            refine a_aload_n X dX8_readAsks_159 rfl ?_
            refine a_geti X lf8_201 (by assumption) rfl dX8_readAsks_160 ?_
            refine a_aload_n X dX8_readAsks_163 rfl ?_
            refine a_getl X lf8_167 (by assumption) rfl dX8_readAsks_164 ?_
            obtain ⟨e_167, f_167, h⟩ := zBx h
            refine a_callSv X dX8_readAsks_167 miX8_found lm8_204 (t_X8_found (by assumption) (by first | decide | assumption) f_167) rfl rfl (Nat.le_of_ble_eq_true rfl) ⟨by decide, by decide, by decide, by decide⟩ ?_
            refine a_istore X dX8_readAsks_170 (by decide) ?_
            refine a_iload X dX8_readAsks_172 rfl ?_
            refine a_iconst (v := -1) X dX8_readAsks_174 (by decide) ?_
            refine a_icmp_ne (tgt := 184) X dX8_readAsks_175 (by decide) (fun h_175 => ?_) (fun h_175 => ?_)
            · replace h := (if_neg h_175).symm.trans h
              refine a_iconst (v := 0) X dX8_readAsks_184 (by decide) ?_
              refine a_istore X dX8_readAsks_185 (by decide) ?_
              exact Zw.to2 (H_187 _ _ _ _ _ _ _ _ h) rfl rfl rfl
            · replace h := (if_pos h_175).symm.trans h
              refine a_aload_n X dX8_readAsks_178 rfl ?_
              refine a_iconst (v := 4) X dX8_readAsks_179 (by decide) ?_
              obtain ⟨e_180, f_180, h⟩ := zBx h
              refine a_callVx X dX8_readAsks_180 miX8_bad lm8_214 (t_X8_bad (by assumption) f_180) (by assumption) rfl rfl rfl (Nat.le_of_ble_eq_true rfl) ⟨by decide, by decide, by decide, by decide⟩ (fun r_180 S_180 q_180 => ?_)
              obtain ⟨rfl, rfl, b_180⟩ := q_180
              refine a_zret X (by first | exact Or.inl rfl | exact Or.inr rfl | assumption) hr dX8_readAsks_183 ⟨by decide, by decide⟩ ?_
              subst hF
              rw [← Option.some.inj h]
              exact ⟨rfl, rfl, (by first | exact Or.inl rfl | exact Or.inr rfl | assumption)⟩
          · replace h := (if_pos h_146).symm.trans h
            exact Zw.to2 (J_149 _ _ _ _ _ _ _ _ h) rfl rfl rfl
      intro x1_124 x2_124 x3_124 x4_124 x5_124 x6_124 M_124 N_124 h
      rw [D_X8_readAsks_124] at h
      refine a_iload X dX8_readAsks_124 rfl ?_
      refine a_if_eq (tgt := 136) X dX8_readAsks_126 (by decide) (fun h_126 => ?_) (fun h_126 => ?_)
      · replace h := (if_pos h_126).symm.trans h
        exact Zw.to2 (J_136 _ _ _ _ _ _ _ _ h) rfl rfl rfl
      · replace h := (if_neg h_126).symm.trans h
        refine a_aload_n X dX8_readAsks_129 rfl ?_
        obtain ⟨e_130, f_130, h⟩ := zBx h
        refine a_callVx X dX8_readAsks_130 miX8_isName lm8_224 (t_X8_isName (by assumption) f_130) (by assumption) rfl rfl rfl (Nat.le_of_ble_eq_true rfl) ⟨by decide, by decide, by decide, by decide⟩ (fun r_130 S_130 q_130 => ?_)
        obtain ⟨rfl, rfl, b_130⟩ := q_130
        refine a_if_eq (tgt := 242) X dX8_readAsks_133 (by decide) (fun h_133 => ?_) (fun h_133 => ?_)
        · replace h := (if_pos h_133).symm.trans h
          refine a_iconst (v := 1) X dX8_readAsks_242 (by decide) ?_
          refine a_zret X (by first | exact Or.inl rfl | exact Or.inr rfl | assumption) hr dX8_readAsks_243 ⟨by decide, by decide⟩ ?_
          subst hF
          rw [← Option.some.inj h]
          exact ⟨rfl, rfl, (by first | exact Or.inl rfl | exact Or.inr rfl | assumption)⟩
        · replace h := (if_neg h_133).symm.trans h
          exact Zw.to2 (J_136 _ _ _ _ _ _ _ _ h) rfl rfl rfl
  have H_124 : ∀ (x1_124 : Int32) (x2_124 : Int32) (x3_124 : Int32) (x4_124 : Int32) (x5_124 : Option Value) (x6_124 : Option Value) (M_124 : zMt) (N_124 : zNt), D_X8_readAsks_124 P zFu x3_124 x4_124 M_124 N_124 = some r → Zw p l e { frames := 6, cells := 0, slots := 0, locals := 80 * (6) } s m args below meth c G b 7 (MQ below (zQ G b FQ) args s 0 0 (fun q : Nat => b ≤ q)) 0 0 124 [some (.ref (P)), some (.int x1_124), some (.int x2_124), some (.int x3_124), some (.int x4_124), x5_124, x6_124] [] (L, M_124, N_124) := L_124 zFu
  have J_99 : ∀ (x1_99 : Int32) (x2_99 : Int32) (x3_99 : Option Value) (x4_99 : Option Value) (x5_99 : Option Value) (x6_99 : Option Value) (y0_99 : Int32) (M_99 : zMt) (N_99 : zNt), D_X8_readAsks_99 P y0_99 M_99 N_99 = some r → Zw p l e { frames := 6, cells := 0, slots := 0, locals := 80 * (6) } s m args below meth c G b 7 (MQ below (zQ G b FQ) args s 0 0 (fun q : Nat => b ≤ q)) 0 0 99 [some (.ref (P)), some (.int x1_99), some (.int x2_99), x3_99, x4_99, x5_99, x6_99] [.int y0_99] (L, M_99, N_99) := by
    intro x1_99 x2_99 x3_99 x4_99 x5_99 x6_99 y0_99 M_99 N_99 h
    unfold D_X8_readAsks_99 at h
    refine a_istore_n X dX8_readAsks_99 (by decide) ?_
    refine a_aload_n X dX8_readAsks_100 rfl ?_
    refine a_getr X lf8_13 (by assumption) rfl (by omega) dX8_readAsks_101 ?_
    refine a_iload_n X dX8_readAsks_104 rfl ?_
    obtain ⟨g_105, h⟩ := zIx h
    refine a_iaload X (by assumption) g_105 dX8_readAsks_105 ?_
    refine a_iconst (v := -1) X dX8_readAsks_106 (by decide) ?_
    refine a_icmp_eq (tgt := 116) X dX8_readAsks_107 (by decide) (fun h_107 => ?_) (fun h_107 => ?_)
    · replace h := (if_pos h_107).symm.trans h
      refine a_aload_n X dX8_readAsks_116 rfl ?_
      obtain ⟨e_117, f_117, h⟩ := zBx h
      refine a_callVx X dX8_readAsks_117 miX8_next lm8_220 (t_X8_next (by assumption) f_117) (by assumption) rfl rfl rfl (Nat.le_of_ble_eq_true rfl) ⟨by decide, by decide, by decide, by decide⟩ (fun r_117 S_117 q_117 => ?_)
      obtain ⟨rfl, rfl, b_117⟩ := q_117
      refine a_pop X dX8_readAsks_120 rfl ?_
      refine a_iconst (v := 0) X dX8_readAsks_121 (by decide) ?_
      refine a_istore X dX8_readAsks_122 (by decide) ?_
      exact Zw.to2 (H_124 _ _ _ _ _ _ _ _ h) rfl rfl rfl
    · replace h := (if_neg h_107).symm.trans h
      refine a_aload_n X dX8_readAsks_110 rfl ?_
      refine a_iconst (v := 4) X dX8_readAsks_111 (by decide) ?_
      obtain ⟨e_112, f_112, h⟩ := zBx h
      refine a_callVx X dX8_readAsks_112 miX8_bad lm8_214 (t_X8_bad (by assumption) f_112) (by assumption) rfl rfl rfl (Nat.le_of_ble_eq_true rfl) ⟨by decide, by decide, by decide, by decide⟩ (fun r_112 S_112 q_112 => ?_)
      obtain ⟨rfl, rfl, b_112⟩ := q_112
      refine a_zret X (by first | exact Or.inl rfl | exact Or.inr rfl | assumption) hr dX8_readAsks_115 ⟨by decide, by decide⟩ ?_
      subst hF
      rw [← Option.some.inj h]
      exact ⟨rfl, rfl, (by first | exact Or.inl rfl | exact Or.inr rfl | assumption)⟩
  have J_79 : ∀ (x1_79 : Int32) (x2_79 : Int32) (x3_79 : Option Value) (x4_79 : Option Value) (x5_79 : Option Value) (x6_79 : Option Value) (M_79 : zMt) (N_79 : zNt), D_X8_readAsks_79 P x1_79 x2_79 M_79 N_79 = some r → Zw p l e { frames := 6, cells := 0, slots := 0, locals := 80 * (6) } s m args below meth c G b 7 (MQ below (zQ G b FQ) args s 0 0 (fun q : Nat => b ≤ q)) 0 0 79 [some (.ref (P)), some (.int x1_79), some (.int x2_79), x3_79, x4_79, x5_79, x6_79] [] (L, M_79, N_79) := by
    intro x1_79 x2_79 x3_79 x4_79 x5_79 x6_79 M_79 N_79 h
    unfold D_X8_readAsks_79 at h
    refine a_iload_n X dX8_readAsks_79 rfl ?_
    refine a_iconst (v := -1) X dX8_readAsks_80 (by decide) ?_
    refine a_icmp_eq (tgt := 93) X dX8_readAsks_81 (by decide) (fun h_81 => ?_) (fun h_81 => ?_)
    · replace h := (if_pos h_81).symm.trans h
      refine a_bipush (v := 20) X dX8_readAsks_93 (by decide) ?_
      refine a_iconst (v := 3) X dX8_readAsks_95 (by decide) ?_
      refine a_iload_n X dX8_readAsks_96 rfl ?_
      refine a_imul X dX8_readAsks_97 ?_
      refine a_iadd X dX8_readAsks_98 ?_
      exact Zw.to2 (J_99 _ _ _ _ _ _ _ _ _ h) rfl rfl rfl
    · replace h := (if_neg h_81).symm.trans h
      refine a_bipush (v := 50) X dX8_readAsks_84 (by decide) ?_
      refine a_iconst (v := 3) X dX8_readAsks_86 (by decide) ?_
      refine a_iload_n X dX8_readAsks_87 rfl ?_
      refine a_imul X dX8_readAsks_88 ?_
      refine a_iadd X dX8_readAsks_89 ?_
      refine a_goto (tgt := 99) X dX8_readAsks_90 (by decide) ?_
      exact Zw.to2 (J_99 _ _ _ _ _ _ _ _ _ h) rfl rfl rfl
  have J_73 : ∀ (x1_73 : Int32) (x2_73 : Int32) (x3_73 : Option Value) (x4_73 : Option Value) (x5_73 : Option Value) (x6_73 : Option Value) (M_73 : zMt) (N_73 : zNt), D_X8_readAsks_73 P M_73 N_73 = some r → Zw p l e { frames := 6, cells := 0, slots := 0, locals := 80 * (6) } s m args below meth c G b 7 (MQ below (zQ G b FQ) args s 0 0 (fun q : Nat => b ≤ q)) 0 0 73 [some (.ref (P)), some (.int x1_73), some (.int x2_73), x3_73, x4_73, x5_73, x6_73] [] (L, M_73, N_73) := by
    intro x1_73 x2_73 x3_73 x4_73 x5_73 x6_73 M_73 N_73 h
    unfold D_X8_readAsks_73 at h
    refine a_aload_n X dX8_readAsks_73 rfl ?_
    refine a_iconst (v := 4) X dX8_readAsks_74 (by decide) ?_
    obtain ⟨e_75, f_75, h⟩ := zBx h
    refine a_callVx X dX8_readAsks_75 miX8_bad lm8_214 (t_X8_bad (by assumption) f_75) (by assumption) rfl rfl rfl (Nat.le_of_ble_eq_true rfl) ⟨by decide, by decide, by decide, by decide⟩ (fun r_75 S_75 q_75 => ?_)
    obtain ⟨rfl, rfl, b_75⟩ := q_75
    refine a_zret X (by first | exact Or.inl rfl | exact Or.inr rfl | assumption) hr dX8_readAsks_78 ⟨by decide, by decide⟩ ?_
    subst hF
    rw [← Option.some.inj h]
    exact ⟨rfl, rfl, (by first | exact Or.inl rfl | exact Or.inr rfl | assumption)⟩
  unfold D_X8_readAsks at h
  refine a_aload_n X dX8_readAsks_0 rfl ?_
  obtain ⟨e_1, f_1, h⟩ := zBx h
  refine a_callVx X dX8_readAsks_1 miX8_next lm8_220 (t_X8_next (by assumption) f_1) (by assumption) rfl rfl rfl (Nat.le_of_ble_eq_true rfl) ⟨by decide, by decide, by decide, by decide⟩ (fun r_1 S_1 q_1 => ?_)
  obtain ⟨rfl, rfl, b_1⟩ := q_1
  refine a_pop X dX8_readAsks_4 rfl ?_
  refine a_aload_n X dX8_readAsks_5 rfl ?_
  obtain ⟨e_6, f_6, h⟩ := zBx h
  refine a_callVx X dX8_readAsks_6 miX8_isName lm8_224 (t_X8_isName (by assumption) f_6) (by assumption) rfl rfl rfl (Nat.le_of_ble_eq_true rfl) ⟨by decide, by decide, by decide, by decide⟩ (fun r_6 S_6 q_6 => ?_)
  obtain ⟨rfl, rfl, b_6⟩ := q_6
  refine a_if_ne (tgt := 18) X dX8_readAsks_9 (by decide) (fun h_9 => ?_) (fun h_9 => ?_)
  · replace h := (if_neg h_9).symm.trans h
    refine a_aload_n X dX8_readAsks_18 rfl ?_
    refine a_getr X lf8_43 (by assumption) rfl (by omega) dX8_readAsks_19 ?_
    refine a_aload_n X dX8_readAsks_22 rfl ?_
    refine a_geti X lf8_208 (by assumption) rfl dX8_readAsks_23 ?_
    refine a_aload_n X dX8_readAsks_26 rfl ?_
    refine a_getl X lf8_167 (by assumption) rfl dX8_readAsks_27 ?_
    obtain ⟨e_30, f_30, h⟩ := zBx h
    refine a_callSv X dX8_readAsks_30 miX8_found lm8_204 (t_X8_found (by assumption) (by first | decide | assumption) f_30) rfl rfl (Nat.le_of_ble_eq_true rfl) ⟨by decide, by decide, by decide, by decide⟩ ?_
    refine a_istore_n X dX8_readAsks_33 (by decide) ?_
    refine a_aload_n X dX8_readAsks_34 rfl ?_
    refine a_getr X lf8_46 (by assumption) rfl (by omega) dX8_readAsks_35 ?_
    refine a_aload_n X dX8_readAsks_38 rfl ?_
    refine a_geti X lf8_211 (by assumption) rfl dX8_readAsks_39 ?_
    refine a_aload_n X dX8_readAsks_42 rfl ?_
    refine a_getl X lf8_167 (by assumption) rfl dX8_readAsks_43 ?_
    obtain ⟨e_46, f_46, h⟩ := zBx h
    refine a_callSv X dX8_readAsks_46 miX8_found lm8_204 (t_X8_found (by assumption) (by first | decide | assumption) f_46) rfl rfl (Nat.le_of_ble_eq_true rfl) ⟨by decide, by decide, by decide, by decide⟩ ?_
    refine a_istore_n X dX8_readAsks_49 (by decide) ?_
    refine a_iload_n X dX8_readAsks_50 rfl ?_
    refine a_iconst (v := -1) X dX8_readAsks_51 (by decide) ?_
    refine a_icmp_ne (tgt := 79) X dX8_readAsks_52 (by decide) (fun h_52 => ?_) (fun h_52 => ?_)
    · replace h := (if_neg h_52).symm.trans h
      exact Zw.to2 (J_79 _ _ _ _ _ _ _ _ h) rfl rfl rfl
    · replace h := (if_pos h_52).symm.trans h
      refine a_iload_n X dX8_readAsks_55 rfl ?_
      refine a_iconst (v := -1) X dX8_readAsks_56 (by decide) ?_
      refine a_icmp_eq (tgt := 73) X dX8_readAsks_57 (by decide) (fun h_57 => ?_) (fun h_57 => ?_)
      · replace h := (if_pos h_57).symm.trans h
        exact Zw.to2 (J_73 _ _ _ _ _ _ _ _ h) rfl rfl rfl
      · replace h := (if_neg h_57).symm.trans h
        refine a_aload_n X dX8_readAsks_60 rfl ?_
        refine a_getr X lf8_13 (by assumption) rfl (by omega) dX8_readAsks_61 ?_
        refine a_bipush (v := 10) X dX8_readAsks_64 (by decide) ?_
        refine a_iload_n X dX8_readAsks_66 rfl ?_
        refine a_iadd X dX8_readAsks_67 ?_
        obtain ⟨g_68, h⟩ := zIx h
        refine a_iaload X (by assumption) g_68 dX8_readAsks_68 ?_
        refine a_iconst (v := -1) X dX8_readAsks_69 (by decide) ?_
        refine a_icmp_eq (tgt := 79) X dX8_readAsks_70 (by decide) (fun h_70 => ?_) (fun h_70 => ?_)
        · replace h := (if_pos h_70).symm.trans h
          exact Zw.to2 (J_79 _ _ _ _ _ _ _ _ h) rfl rfl rfl
        · replace h := (if_neg h_70).symm.trans h
          exact Zw.to2 (J_73 _ _ _ _ _ _ _ _ h) rfl rfl rfl
  · replace h := (if_pos h_9).symm.trans h
    refine a_aload_n X dX8_readAsks_12 rfl ?_
    refine a_iconst (v := 2) X dX8_readAsks_13 (by decide) ?_
    obtain ⟨e_14, f_14, h⟩ := zBx h
    refine a_callVx X dX8_readAsks_14 miX8_bad lm8_214 (t_X8_bad (by assumption) f_14) (by assumption) rfl rfl rfl (Nat.le_of_ble_eq_true rfl) ⟨by decide, by decide, by decide, by decide⟩ (fun r_14 S_14 q_14 => ?_)
    obtain ⟨rfl, rfl, b_14⟩ := q_14
    refine a_zret X (by first | exact Or.inl rfl | exact Or.inr rfl | assumption) hr dX8_readAsks_17 ⟨by decide, by decide⟩ ?_
    subst hF
    rw [← Option.some.inj h]
    exact ⟨rfl, rfl, (by first | exact Or.inl rfl | exact Or.inr rfl | assumption)⟩
noncomputable def D_X8_readOnce_111 (P : Nat) (y1_111 : Int32) (M_111 : zMt) (N_111 : zNt) : Option (Int32 × zMt × zNt) :=
  zI y1_111 82 <|
  zLt (zu M_111 (P + 2) y1_111.toNatClampNeg (M_111 P 31)) fun M_115 =>
  some ((1 : Int32), M_115, N_111)
noncomputable def D_X8_readOnce_57 (P : Nat) (y0_57 : Int32) (M_57 : zMt) (N_57 : zNt) : Option (Int32 × zMt × zNt) :=
  if y0_57 = (-1 : Int32) then
    zB (D_X8_bad P (2 : Int32) M_57) fun e_65 =>
    some (e_65.1, e_65.2, N_57)
  else
    zI (67 : Int32) 82 <|
    zLt (zu M_57 (P + 2) (67 : Int32).toNatClampNeg y0_57) fun M_76 =>
    zB (D_X8_next P M_76 N_57) fun e_78 =>
    some (e_78.1, e_78.2.1, e_78.2.2)
noncomputable def D_X8_readOnce (P : Nat) (v0 : Int32) (M : zMt) (N : zNt) : Option (Int32 × zMt × zNt) :=
  zB (D_X8_has (M P 23) v0) fun e_5 =>
  if e_5 = 0 then
    zLt (zu M P 23 ((M P 23) ||| ((1 : Int32) <<< (v0 &&& 31)))) fun M_26 =>
    zB (D_X8_next P M_26 N) fun e_30 =>
    if v0 = (5 : Int32) then
      if (e_30.2.1 P 18) = (2 : Int32) then
        zB (D_X8_among P 12 e_30.2.2) fun e_50 =>
        D_X8_readOnce_57 P e_50 e_30.2.1 e_30.2.2
      else
        D_X8_readOnce_57 P (-1 : Int32) e_30.2.1 e_30.2.2
    else
      zB (D_X8_number P (0 : Int32) (100 : Int32) e_30.2.1 e_30.2.2) fun e_86 =>
      if e_86.1 = 0 then
        some ((0 : Int32), e_86.2.1, e_86.2.2)
      else
        if v0 = (6 : Int32) then
          D_X8_readOnce_111 P (68 : Int32) e_86.2.1 e_86.2.2
        else
          D_X8_readOnce_111 P (69 : Int32) e_86.2.1 e_86.2.2
  else
    zB (D_X8_bad P (2 : Int32) M) fun e_13 =>
    some (e_13.1, e_13.2, N)
set_option maxRecDepth 100000 in
set_option maxHeartbeats 4000000 in
theorem t_X8_readOnce {l : Launch} {G : zG} {b : Nat} {L : List zC} {M : zMt} {N : zNt} {P : Nat} {v0 : Int32} (hP : LX8 L P) {r : Int32 × zMt × zNt} (h : D_X8_readOnce P v0 M N = some r) : zM l G b yX8_readOnce cX8_readOnce 3 (some .boolean) 7 0 0 [.ref P, .int v0] (L, M, N) (fun r2 z => r2 = some (.int r.1) ∧ z = (L, r.2.1, r.2.2) ∧ (r.1 = 0 ∨ r.1 = 1)) := by
  refine zM.of miX8_readOnce (Nat.le_of_ble_eq_true rfl) ?_
  intro p e s m args below meth c X hr hname
  generalize hF : ((fun r2 z => r2 = some (.int r.1) ∧ z = (L, r.2.1, r.2.2) ∧ (r.1 = 0 ∨ r.1 = 1)) : Option Value → zS → Prop) = FQ
  change Zw p l e { frames := 7, cells := 0, slots := 0, locals := 80 * (7) } s m args below meth c G b 3 (MQ below (zQ G b FQ) args s 0 0 (fun q : Nat => b ≤ q)) 0 0 0 [some (.ref P), some (.int v0), none] [] (L, M, N)
  obtain ⟨p_lt, p_o, p_s, p_read, p_aside, p_kept, p_guest, p_readGuest, p_tape, p_unitName, p_hunterName, p_partyName, p_bits, p_partyOf, p_choiceAt, p_sizes, p_guestMany, p_pointsOf, p_ticketsOf, p_ord, p_given, p_roundOf, p_tags, p_guestTags, p_places, p_sumAt, p_sumFirst, p_sumRound, p_sumBoth, p_sumTags, p_isEnd, p_newPoints, p_inRow, p_out⟩ := id hP
  have J_111 : ∀ (x1_111 : Int32) (x2_111 : Option Value) (y1_111 : Int32) (M_111 : zMt) (N_111 : zNt), D_X8_readOnce_111 P y1_111 M_111 N_111 = some r → Zw p l e { frames := 7, cells := 0, slots := 0, locals := 80 * (7) } s m args below meth c G b 3 (MQ below (zQ G b FQ) args s 0 0 (fun q : Nat => b ≤ q)) 0 0 111 [some (.ref (P)), some (.int x1_111), x2_111] [.int y1_111, .ref (P + 2)] (L, M_111, N_111) := by
    intro x1_111 x2_111 y1_111 M_111 N_111 h
    unfold D_X8_readOnce_111 at h
    refine a_aload_n X dX8_readOnce_111 rfl ?_
    refine a_geti X lf8_217 (by assumption) rfl dX8_readOnce_112 ?_
    obtain ⟨g_115, h⟩ := zIx h
    obtain ⟨M_115, f_115, h⟩ := zLtx h
    refine d_iastore X (by assumption) g_115 dX8_readOnce_115 f_115 ?_
    refine a_iconst (v := 1) X dX8_readOnce_116 (by decide) ?_
    refine a_zret X (by first | exact Or.inl rfl | exact Or.inr rfl | assumption) hr dX8_readOnce_117 ⟨by decide, by decide⟩ ?_
    subst hF
    rw [← Option.some.inj h]
    exact ⟨rfl, rfl, (by first | exact Or.inl rfl | exact Or.inr rfl | assumption)⟩
  have J_57 : ∀ (x1_57 : Int32) (x2_57 : Option Value) (y0_57 : Int32) (M_57 : zMt) (N_57 : zNt), D_X8_readOnce_57 P y0_57 M_57 N_57 = some r → Zw p l e { frames := 7, cells := 0, slots := 0, locals := 80 * (7) } s m args below meth c G b 3 (MQ below (zQ G b FQ) args s 0 0 (fun q : Nat => b ≤ q)) 0 0 57 [some (.ref (P)), some (.int x1_57), x2_57] [.int y0_57] (L, M_57, N_57) := by
    intro x1_57 x2_57 y0_57 M_57 N_57 h
    unfold D_X8_readOnce_57 at h
    refine a_istore_n X dX8_readOnce_57 (by decide) ?_
    refine a_iload_n X dX8_readOnce_58 rfl ?_
    refine a_iconst (v := -1) X dX8_readOnce_59 (by decide) ?_
    refine a_icmp_ne (tgt := 69) X dX8_readOnce_60 (by decide) (fun h_60 => ?_) (fun h_60 => ?_)
    · replace h := (if_neg h_60).symm.trans h
      refine a_aload_n X dX8_readOnce_69 rfl ?_
      refine a_getr X lf8_13 (by assumption) rfl (by omega) dX8_readOnce_70 ?_
      refine a_bipush (v := 67) X dX8_readOnce_73 (by decide) ?_
      refine a_iload_n X dX8_readOnce_75 rfl ?_
      obtain ⟨g_76, h⟩ := zIx h
      obtain ⟨M_76, f_76, h⟩ := zLtx h
      refine d_iastore X (by assumption) g_76 dX8_readOnce_76 f_76 ?_
      refine a_aload_n X dX8_readOnce_77 rfl ?_
      obtain ⟨e_78, f_78, h⟩ := zBx h
      refine a_callVx X dX8_readOnce_78 miX8_next lm8_220 (t_X8_next (by assumption) f_78) (by assumption) rfl rfl rfl (Nat.le_of_ble_eq_true rfl) ⟨by decide, by decide, by decide, by decide⟩ (fun r_78 S_78 q_78 => ?_)
      obtain ⟨rfl, rfl, b_78⟩ := q_78
      refine a_zret X (by first | exact Or.inl rfl | exact Or.inr rfl | assumption) hr dX8_readOnce_81 ⟨by decide, by decide⟩ ?_
      subst hF
      rw [← Option.some.inj h]
      exact ⟨rfl, rfl, (by first | exact Or.inl rfl | exact Or.inr rfl | assumption)⟩
    · replace h := (if_pos h_60).symm.trans h
      refine a_aload_n X dX8_readOnce_63 rfl ?_
      refine a_iconst (v := 2) X dX8_readOnce_64 (by decide) ?_
      obtain ⟨e_65, f_65, h⟩ := zBx h
      refine a_callVx X dX8_readOnce_65 miX8_bad lm8_214 (t_X8_bad (by assumption) f_65) (by assumption) rfl rfl rfl (Nat.le_of_ble_eq_true rfl) ⟨by decide, by decide, by decide, by decide⟩ (fun r_65 S_65 q_65 => ?_)
      obtain ⟨rfl, rfl, b_65⟩ := q_65
      refine a_zret X (by first | exact Or.inl rfl | exact Or.inr rfl | assumption) hr dX8_readOnce_68 ⟨by decide, by decide⟩ ?_
      subst hF
      rw [← Option.some.inj h]
      exact ⟨rfl, rfl, (by first | exact Or.inl rfl | exact Or.inr rfl | assumption)⟩
  unfold D_X8_readOnce at h
  refine a_aload_n X dX8_readOnce_0 rfl ?_
  refine a_geti X lf8_243 (by assumption) rfl dX8_readOnce_1 ?_
  refine a_iload_n X dX8_readOnce_4 rfl ?_
  obtain ⟨e_5, f_5, h⟩ := zBx h
  refine a_callSx X dX8_readOnce_5 miX8_has lm8_240 (t_X8_has f_5) rfl rfl (Nat.le_of_ble_eq_true rfl) ⟨by decide, by decide, by decide, by decide⟩ (fun r_5 S_5 q_5 => ?_)
  obtain ⟨rfl, rfl, b_5⟩ := q_5
  refine a_if_eq (tgt := 17) X dX8_readOnce_8 (by decide) (fun h_8 => ?_) (fun h_8 => ?_)
  · replace h := (if_pos h_8).symm.trans h
    refine a_aload_n X dX8_readOnce_17 rfl ?_
    refine a_dup X dX8_readOnce_18 rfl ?_
    refine a_geti X lf8_243 (by assumption) rfl dX8_readOnce_19 ?_
    refine a_iconst (v := 1) X dX8_readOnce_22 (by decide) ?_
    refine a_iload_n X dX8_readOnce_23 rfl ?_
    refine a_ishl X dX8_readOnce_24 ?_
    refine a_ior X dX8_readOnce_25 ?_
    obtain ⟨M_26, f_26, h⟩ := zLtx h
    refine d_puti X lf8_243 (by assumption) rfl dX8_readOnce_26 f_26 ?_
    refine a_aload_n X dX8_readOnce_29 rfl ?_
    obtain ⟨e_30, f_30, h⟩ := zBx h
    refine a_callVx X dX8_readOnce_30 miX8_next lm8_220 (t_X8_next (by assumption) f_30) (by assumption) rfl rfl rfl (Nat.le_of_ble_eq_true rfl) ⟨by decide, by decide, by decide, by decide⟩ (fun r_30 S_30 q_30 => ?_)
    obtain ⟨rfl, rfl, b_30⟩ := q_30
    refine a_pop X dX8_readOnce_33 rfl ?_
    refine a_iload_n X dX8_readOnce_34 rfl ?_
    refine a_iconst (v := 5) X dX8_readOnce_35 (by decide) ?_
    refine a_icmp_ne (tgt := 82) X dX8_readOnce_36 (by decide) (fun h_36 => ?_) (fun h_36 => ?_)
    · replace h := (if_neg h_36).symm.trans h
      refine a_aload_n X dX8_readOnce_82 rfl ?_
      refine a_iconst (v := 0) X dX8_readOnce_83 (by decide) ?_
      refine a_bipush (v := 100) X dX8_readOnce_84 (by decide) ?_
      obtain ⟨e_86, f_86, h⟩ := zBx h
      refine a_callVx X dX8_readOnce_86 miX8_number lm8_236 (t_X8_number (by assumption) f_86) (by assumption) rfl rfl rfl (Nat.le_of_ble_eq_true rfl) ⟨by decide, by decide, by decide, by decide⟩ (fun r_86 S_86 q_86 => ?_)
      obtain ⟨rfl, rfl, b_86⟩ := q_86
      refine a_if_ne (tgt := 94) X dX8_readOnce_89 (by decide) (fun h_89 => ?_) (fun h_89 => ?_)
      · replace h := (if_neg h_89).symm.trans h
        refine a_aload_n X dX8_readOnce_94 rfl ?_
        refine a_getr X lf8_13 (by assumption) rfl (by omega) dX8_readOnce_95 ?_
        refine a_iload_n X dX8_readOnce_98 rfl ?_
        refine a_bipush (v := 6) X dX8_readOnce_99 (by decide) ?_
        refine a_icmp_ne (tgt := 109) X dX8_readOnce_101 (by decide) (fun h_101 => ?_) (fun h_101 => ?_)
        · replace h := (if_neg h_101).symm.trans h
          refine a_bipush (v := 69) X dX8_readOnce_109 (by decide) ?_
          exact Zw.to2 (J_111 _ _ _ _ _ h) rfl rfl rfl
        · replace h := (if_pos h_101).symm.trans h
          refine a_bipush (v := 68) X dX8_readOnce_104 (by decide) ?_
          refine a_goto (tgt := 111) X dX8_readOnce_106 (by decide) ?_
          exact Zw.to2 (J_111 _ _ _ _ _ h) rfl rfl rfl
      · replace h := (if_pos h_89).symm.trans h
        refine a_iconst (v := 0) X dX8_readOnce_92 (by decide) ?_
        refine a_zret X (by first | exact Or.inl rfl | exact Or.inr rfl | assumption) hr dX8_readOnce_93 ⟨by decide, by decide⟩ ?_
        subst hF
        rw [← Option.some.inj h]
        exact ⟨rfl, rfl, (by first | exact Or.inl rfl | exact Or.inr rfl | assumption)⟩
    · replace h := (if_pos h_36).symm.trans h
      refine a_aload_n X dX8_readOnce_39 rfl ?_
      refine a_geti X lf8_160 (by assumption) rfl dX8_readOnce_40 ?_
      refine a_iconst (v := 2) X dX8_readOnce_43 (by decide) ?_
      refine a_icmp_ne (tgt := 56) X dX8_readOnce_44 (by decide) (fun h_44 => ?_) (fun h_44 => ?_)
      · replace h := (if_neg h_44).symm.trans h
        refine a_iconst (v := -1) X dX8_readOnce_56 (by decide) ?_
        exact Zw.to2 (J_57 _ _ _ _ _ h) rfl rfl rfl
      · replace h := (if_pos h_44).symm.trans h
        refine a_aload_n X dX8_readOnce_47 rfl ?_
        refine a_ldcS (i := 12) (q := ("TagDrawModel", 246, "plain line square ")) X rfl rfl rfl dX8_readOnce_48 ?_
        obtain ⟨e_50, f_50, h⟩ := zBx h
        refine a_callVv X dX8_readOnce_50 miX8_among lm8_175 (t_X8_among (by assumption) (by first | assumption | decide) f_50) (by assumption) rfl rfl rfl (Nat.le_of_ble_eq_true rfl) ⟨by decide, by decide, by decide, by decide⟩ ?_
        refine a_goto (tgt := 57) X dX8_readOnce_53 (by decide) ?_
        exact Zw.to2 (J_57 _ _ _ _ _ h) rfl rfl rfl
  · replace h := (if_neg h_8).symm.trans h
    refine a_aload_n X dX8_readOnce_11 rfl ?_
    refine a_iconst (v := 2) X dX8_readOnce_12 (by decide) ?_
    obtain ⟨e_13, f_13, h⟩ := zBx h
    refine a_callVx X dX8_readOnce_13 miX8_bad lm8_214 (t_X8_bad (by assumption) f_13) (by assumption) rfl rfl rfl (Nat.le_of_ble_eq_true rfl) ⟨by decide, by decide, by decide, by decide⟩ (fun r_13 S_13 q_13 => ?_)
    obtain ⟨rfl, rfl, b_13⟩ := q_13
    refine a_zret X (by first | exact Or.inl rfl | exact Or.inr rfl | assumption) hr dX8_readOnce_16 ⟨by decide, by decide⟩ ?_
    subst hF
    rw [← Option.some.inj h]
    exact ⟨rfl, rfl, (by first | exact Or.inl rfl | exact Or.inr rfl | assumption)⟩
noncomputable def D_X8_readLine_140 (P : Nat) (y0_140 : Int32) (M_140 : zMt) (N_140 : zNt) : Option (Int32 × zMt × zNt) :=
  some (y0_140, M_140, N_140)
noncomputable def D_X8_readLine_114 (P : Nat) (x1_114 : Int32) (M_114 : zMt) (N_114 : zNt) : Option (Int32 × zMt × zNt) :=
  if x1_114 = 0 then
    some ((0 : Int32), M_114, N_114)
  else
    if (M_114 P 18) = (4 : Int32) then
      zB (D_X8_next P M_114 N_114) fun e_129 =>
      D_X8_readLine_140 P e_129.1 e_129.2.1 e_129.2.2
    else
      zB (D_X8_bad P (2 : Int32) M_114) fun e_137 =>
      D_X8_readLine_140 P e_137.1 e_137.2 N_114
noncomputable def D_X8_readLine_108 (P : Nat) (M_108 : zMt) (N_108 : zNt) : Option (Int32 × zMt × zNt) :=
  zB (D_X8_bad P (2 : Int32) M_108) fun e_110 =>
  some (e_110.1, e_110.2, N_108)
noncomputable def D_X8_readLine_96 (P : Nat) (M_96 : zMt) (N_96 : zNt) : Option (Int32 × zMt × zNt) :=
  zB (D_X8_readOnce P (M_96 P 19) M_96 N_96) fun e_101 =>
  D_X8_readLine_114 P e_101.1 e_101.2.1 e_101.2.2
noncomputable def D_X8_readLine_16 (P : Nat) (y0_16 : Int32) (M_16 : zMt) (N_16 : zNt) : Option (Int32 × zMt × zNt) :=
  if Int32.toInt y0_16 = 0 then
    zB (D_X8_readUnit P M_16 N_16) fun e_65 =>
    D_X8_readLine_114 P e_65.1 e_65.2.1 e_65.2.2
  else
  if Int32.toInt y0_16 = 1 then
    zB (D_X8_readHunter P M_16 N_16) fun e_73 =>
    D_X8_readLine_114 P e_73.1 e_73.2.1 e_73.2.2
  else
  if Int32.toInt y0_16 = 2 then
    D_X8_readLine_108 P M_16 N_16
  else
  if Int32.toInt y0_16 = 3 then
    zB (D_X8_readParty P M_16 N_16) fun e_81 =>
    D_X8_readLine_114 P e_81.1 e_81.2.1 e_81.2.2
  else
  if Int32.toInt y0_16 = 4 then
    zB (D_X8_readAsks P M_16 N_16) fun e_89 =>
    D_X8_readLine_114 P e_89.1 e_89.2.1 e_89.2.2
  else
  if Int32.toInt y0_16 = 5 then
    D_X8_readLine_96 P M_16 N_16
  else
  if Int32.toInt y0_16 = 6 then
    D_X8_readLine_96 P M_16 N_16
  else
  if Int32.toInt y0_16 = 7 then
    D_X8_readLine_96 P M_16 N_16
  else
    D_X8_readLine_108 P M_16 N_16
noncomputable def D_X8_readLine (P : Nat) (M : zMt) (N : zNt) : Option (Int32 × zMt × zNt) :=
  if (M P 18) = (2 : Int32) then
    D_X8_readLine_16 P (M P 19) M N
  else
    D_X8_readLine_16 P (-1 : Int32) M N
set_option maxRecDepth 100000 in
set_option maxHeartbeats 4000000 in
theorem t_X8_readLine {l : Launch} {G : zG} {b : Nat} {L : List zC} {M : zMt} {N : zNt} {P : Nat}  (hP : LX8 L P) {r : Int32 × zMt × zNt} (h : D_X8_readLine P M N = some r) : zM l G b yX8_readLine cX8_readLine 2 (some .boolean) 8 0 0 [.ref P] (L, M, N) (fun r2 z => r2 = some (.int r.1) ∧ z = (L, r.2.1, r.2.2) ∧ (r.1 = 0 ∨ r.1 = 1)) := by
  refine zM.of miX8_readLine (Nat.le_of_ble_eq_true rfl) ?_
  intro p e s m args below meth c X hr hname
  generalize hF : ((fun r2 z => r2 = some (.int r.1) ∧ z = (L, r.2.1, r.2.2) ∧ (r.1 = 0 ∨ r.1 = 1)) : Option Value → zS → Prop) = FQ
  change Zw p l e { frames := 8, cells := 0, slots := 0, locals := 80 * (8) } s m args below meth c G b 2 (MQ below (zQ G b FQ) args s 0 0 (fun q : Nat => b ≤ q)) 0 0 0 [some (.ref P), none] [] (L, M, N)
  obtain ⟨p_lt, p_o, p_s, p_read, p_aside, p_kept, p_guest, p_readGuest, p_tape, p_unitName, p_hunterName, p_partyName, p_bits, p_partyOf, p_choiceAt, p_sizes, p_guestMany, p_pointsOf, p_ticketsOf, p_ord, p_given, p_roundOf, p_tags, p_guestTags, p_places, p_sumAt, p_sumFirst, p_sumRound, p_sumBoth, p_sumTags, p_isEnd, p_newPoints, p_inRow, p_out⟩ := id hP
  have J_140 : ∀ (x1_140 : Int32) (y0_140 : Int32) (M_140 : zMt) (N_140 : zNt), (y0_140 = 0 ∨ y0_140 = 1) → D_X8_readLine_140 P y0_140 M_140 N_140 = some r → Zw p l e { frames := 8, cells := 0, slots := 0, locals := 80 * (8) } s m args below meth c G b 2 (MQ below (zQ G b FQ) args s 0 0 (fun q : Nat => b ≤ q)) 0 0 140 [some (.ref (P)), some (.int x1_140)] [.int y0_140] (L, M_140, N_140) := by
    intro x1_140 y0_140 M_140 N_140 fb_y0_140 h
    unfold D_X8_readLine_140 at h
    refine a_zret X (by first | exact Or.inl rfl | exact Or.inr rfl | assumption) hr dX8_readLine_140 ⟨by decide, by decide⟩ ?_
    subst hF
    rw [← Option.some.inj h]
    exact ⟨rfl, rfl, (by first | exact Or.inl rfl | exact Or.inr rfl | assumption)⟩
  have J_114 : ∀ (x1_114 : Int32) (M_114 : zMt) (N_114 : zNt), (x1_114 = 0 ∨ x1_114 = 1) → D_X8_readLine_114 P x1_114 M_114 N_114 = some r → Zw p l e { frames := 8, cells := 0, slots := 0, locals := 80 * (8) } s m args below meth c G b 2 (MQ below (zQ G b FQ) args s 0 0 (fun q : Nat => b ≤ q)) 0 0 114 [some (.ref (P)), some (.int x1_114)] [] (L, M_114, N_114) := by
    intro x1_114 M_114 N_114 fb_x1_114 h
    unfold D_X8_readLine_114 at h
    refine a_iload_n X dX8_readLine_114 rfl ?_
    refine a_if_ne (tgt := 120) X dX8_readLine_115 (by decide) (fun h_115 => ?_) (fun h_115 => ?_)
    · replace h := (if_neg h_115).symm.trans h
      refine a_aload_n X dX8_readLine_120 rfl ?_
      refine a_geti X lf8_160 (by assumption) rfl dX8_readLine_121 ?_
      refine a_iconst (v := 4) X dX8_readLine_124 (by decide) ?_
      refine a_icmp_ne (tgt := 135) X dX8_readLine_125 (by decide) (fun h_125 => ?_) (fun h_125 => ?_)
      · replace h := (if_neg h_125).symm.trans h
        refine a_aload_n X dX8_readLine_135 rfl ?_
        refine a_iconst (v := 2) X dX8_readLine_136 (by decide) ?_
        obtain ⟨e_137, f_137, h⟩ := zBx h
        refine a_callVx X dX8_readLine_137 miX8_bad lm8_214 (t_X8_bad (by assumption) f_137) (by assumption) rfl rfl rfl (Nat.le_of_ble_eq_true rfl) ⟨by decide, by decide, by decide, by decide⟩ (fun r_137 S_137 q_137 => ?_)
        obtain ⟨rfl, rfl, b_137⟩ := q_137
        exact Zw.to2 (J_140 _ _ _ _ (by first | exact Or.inl rfl | exact Or.inr rfl | assumption) h) rfl rfl rfl
      · replace h := (if_pos h_125).symm.trans h
        refine a_aload_n X dX8_readLine_128 rfl ?_
        obtain ⟨e_129, f_129, h⟩ := zBx h
        refine a_callVx X dX8_readLine_129 miX8_next lm8_220 (t_X8_next (by assumption) f_129) (by assumption) rfl rfl rfl (Nat.le_of_ble_eq_true rfl) ⟨by decide, by decide, by decide, by decide⟩ (fun r_129 S_129 q_129 => ?_)
        obtain ⟨rfl, rfl, b_129⟩ := q_129
        refine a_goto (tgt := 140) X dX8_readLine_132 (by decide) ?_
        exact Zw.to2 (J_140 _ _ _ _ (by first | exact Or.inl rfl | exact Or.inr rfl | assumption) h) rfl rfl rfl
    · replace h := (if_pos h_115).symm.trans h
      refine a_iconst (v := 0) X dX8_readLine_118 (by decide) ?_
      refine a_zret X (by first | exact Or.inl rfl | exact Or.inr rfl | assumption) hr dX8_readLine_119 ⟨by decide, by decide⟩ ?_
      subst hF
      rw [← Option.some.inj h]
      exact ⟨rfl, rfl, (by first | exact Or.inl rfl | exact Or.inr rfl | assumption)⟩
  have J_108 : ∀ (x1_108 : Option Value) (M_108 : zMt) (N_108 : zNt), D_X8_readLine_108 P M_108 N_108 = some r → Zw p l e { frames := 8, cells := 0, slots := 0, locals := 80 * (8) } s m args below meth c G b 2 (MQ below (zQ G b FQ) args s 0 0 (fun q : Nat => b ≤ q)) 0 0 108 [some (.ref (P)), x1_108] [] (L, M_108, N_108) := by
    intro x1_108 M_108 N_108 h
    unfold D_X8_readLine_108 at h
    refine a_aload_n X dX8_readLine_108 rfl ?_
    refine a_iconst (v := 2) X dX8_readLine_109 (by decide) ?_
    obtain ⟨e_110, f_110, h⟩ := zBx h
    refine a_callVx X dX8_readLine_110 miX8_bad lm8_214 (t_X8_bad (by assumption) f_110) (by assumption) rfl rfl rfl (Nat.le_of_ble_eq_true rfl) ⟨by decide, by decide, by decide, by decide⟩ (fun r_110 S_110 q_110 => ?_)
    obtain ⟨rfl, rfl, b_110⟩ := q_110
    refine a_zret X (by first | exact Or.inl rfl | exact Or.inr rfl | assumption) hr dX8_readLine_113 ⟨by decide, by decide⟩ ?_
    subst hF
    rw [← Option.some.inj h]
    exact ⟨rfl, rfl, (by first | exact Or.inl rfl | exact Or.inr rfl | assumption)⟩
  have J_96 : ∀ (x1_96 : Option Value) (M_96 : zMt) (N_96 : zNt), D_X8_readLine_96 P M_96 N_96 = some r → Zw p l e { frames := 8, cells := 0, slots := 0, locals := 80 * (8) } s m args below meth c G b 2 (MQ below (zQ G b FQ) args s 0 0 (fun q : Nat => b ≤ q)) 0 0 96 [some (.ref (P)), x1_96] [] (L, M_96, N_96) := by
    intro x1_96 M_96 N_96 h
    unfold D_X8_readLine_96 at h
    refine a_aload_n X dX8_readLine_96 rfl ?_
    refine a_aload_n X dX8_readLine_97 rfl ?_
    refine a_geti X lf8_157 (by assumption) rfl dX8_readLine_98 ?_
    obtain ⟨e_101, f_101, h⟩ := zBx h
    refine a_callVx X dX8_readLine_101 miX8_readOnce lm8_260 (t_X8_readOnce (by assumption) f_101) (by assumption) rfl rfl rfl (Nat.le_of_ble_eq_true rfl) ⟨by decide, by decide, by decide, by decide⟩ (fun r_101 S_101 q_101 => ?_)
    obtain ⟨rfl, rfl, b_101⟩ := q_101
    refine a_istore_n X dX8_readLine_104 (by decide) ?_
    refine a_goto (tgt := 114) X dX8_readLine_105 (by decide) ?_
    exact Zw.to2 (J_114 _ _ _ (by first | exact Or.inl rfl | exact Or.inr rfl | assumption) h) rfl rfl rfl
  have J_16 : ∀ (x1_16 : Option Value) (y0_16 : Int32) (M_16 : zMt) (N_16 : zNt), D_X8_readLine_16 P y0_16 M_16 N_16 = some r → Zw p l e { frames := 8, cells := 0, slots := 0, locals := 80 * (8) } s m args below meth c G b 2 (MQ below (zQ G b FQ) args s 0 0 (fun q : Nat => b ≤ q)) 0 0 16 [some (.ref (P)), x1_16] [.int y0_16] (L, M_16, N_16) := by
    intro x1_16 y0_16 M_16 N_16 h
    unfold D_X8_readLine_16 at h
    refine a_tsw (tg := [64, 72, 108, 80, 88, 96, 96, 96]) (td := 108) X dX8_readLine_16 (by decide +kernel) (by decide) (by decide) (fun k_16 t_16 ht_16 hx_16 => ?_) (fun hx_16 => ?_)
    · match k_16, ht_16, hx_16 with
      | 0, ht_16, hx_16 =>
        cases ht_16
        replace h := (if_pos (by omega)).symm.trans h
        refine a_aload_n X dX8_readLine_64 rfl ?_
        obtain ⟨e_65, f_65, h⟩ := zBx h
        refine a_callVx X dX8_readLine_65 miX8_readUnit lm8_248 (t_X8_readUnit (by assumption) f_65) (by assumption) rfl rfl rfl (Nat.le_of_ble_eq_true rfl) ⟨by decide, by decide, by decide, by decide⟩ (fun r_65 S_65 q_65 => ?_)
        obtain ⟨rfl, rfl, b_65⟩ := q_65
        refine a_istore_n X dX8_readLine_68 (by decide) ?_
        refine a_goto (tgt := 114) X dX8_readLine_69 (by decide) ?_
        exact Zw.to2 (J_114 _ _ _ (by first | exact Or.inl rfl | exact Or.inr rfl | assumption) h) rfl rfl rfl
      | 1, ht_16, hx_16 =>
        cases ht_16
        replace h := (if_neg (by omega)).symm.trans h
        replace h := (if_pos (by omega)).symm.trans h
        refine a_aload_n X dX8_readLine_72 rfl ?_
        obtain ⟨e_73, f_73, h⟩ := zBx h
        refine a_callVx X dX8_readLine_73 miX8_readHunter lm8_251 (t_X8_readHunter (by assumption) f_73) (by assumption) rfl rfl rfl (Nat.le_of_ble_eq_true rfl) ⟨by decide, by decide, by decide, by decide⟩ (fun r_73 S_73 q_73 => ?_)
        obtain ⟨rfl, rfl, b_73⟩ := q_73
        refine a_istore_n X dX8_readLine_76 (by decide) ?_
        refine a_goto (tgt := 114) X dX8_readLine_77 (by decide) ?_
        exact Zw.to2 (J_114 _ _ _ (by first | exact Or.inl rfl | exact Or.inr rfl | assumption) h) rfl rfl rfl
      | 2, ht_16, hx_16 =>
        cases ht_16
        replace h := (if_neg (by omega)).symm.trans h
        replace h := (if_neg (by omega)).symm.trans h
        replace h := (if_pos (by omega)).symm.trans h
        exact Zw.to2 (J_108 _ _ _ h) rfl rfl rfl
      | 3, ht_16, hx_16 =>
        cases ht_16
        replace h := (if_neg (by omega)).symm.trans h
        replace h := (if_neg (by omega)).symm.trans h
        replace h := (if_neg (by omega)).symm.trans h
        replace h := (if_pos (by omega)).symm.trans h
        refine a_aload_n X dX8_readLine_80 rfl ?_
        obtain ⟨e_81, f_81, h⟩ := zBx h
        refine a_callVx X dX8_readLine_81 miX8_readParty lm8_254 (t_X8_readParty (by assumption) f_81) (by assumption) rfl rfl rfl (Nat.le_of_ble_eq_true rfl) ⟨by decide, by decide, by decide, by decide⟩ (fun r_81 S_81 q_81 => ?_)
        obtain ⟨rfl, rfl, b_81⟩ := q_81
        refine a_istore_n X dX8_readLine_84 (by decide) ?_
        refine a_goto (tgt := 114) X dX8_readLine_85 (by decide) ?_
        exact Zw.to2 (J_114 _ _ _ (by first | exact Or.inl rfl | exact Or.inr rfl | assumption) h) rfl rfl rfl
      | 4, ht_16, hx_16 =>
        cases ht_16
        replace h := (if_neg (by omega)).symm.trans h
        replace h := (if_neg (by omega)).symm.trans h
        replace h := (if_neg (by omega)).symm.trans h
        replace h := (if_neg (by omega)).symm.trans h
        replace h := (if_pos (by omega)).symm.trans h
        refine a_aload_n X dX8_readLine_88 rfl ?_
        obtain ⟨e_89, f_89, h⟩ := zBx h
        refine a_callVx X dX8_readLine_89 miX8_readAsks lm8_257 (t_X8_readAsks (by assumption) f_89) (by assumption) rfl rfl rfl (Nat.le_of_ble_eq_true rfl) ⟨by decide, by decide, by decide, by decide⟩ (fun r_89 S_89 q_89 => ?_)
        obtain ⟨rfl, rfl, b_89⟩ := q_89
        refine a_istore_n X dX8_readLine_92 (by decide) ?_
        refine a_goto (tgt := 114) X dX8_readLine_93 (by decide) ?_
        exact Zw.to2 (J_114 _ _ _ (by first | exact Or.inl rfl | exact Or.inr rfl | assumption) h) rfl rfl rfl
      | 5, ht_16, hx_16 =>
        cases ht_16
        replace h := (if_neg (by omega)).symm.trans h
        replace h := (if_neg (by omega)).symm.trans h
        replace h := (if_neg (by omega)).symm.trans h
        replace h := (if_neg (by omega)).symm.trans h
        replace h := (if_neg (by omega)).symm.trans h
        replace h := (if_pos (by omega)).symm.trans h
        exact Zw.to2 (J_96 _ _ _ h) rfl rfl rfl
      | 6, ht_16, hx_16 =>
        cases ht_16
        replace h := (if_neg (by omega)).symm.trans h
        replace h := (if_neg (by omega)).symm.trans h
        replace h := (if_neg (by omega)).symm.trans h
        replace h := (if_neg (by omega)).symm.trans h
        replace h := (if_neg (by omega)).symm.trans h
        replace h := (if_neg (by omega)).symm.trans h
        replace h := (if_pos (by omega)).symm.trans h
        exact Zw.to2 (J_96 _ _ _ h) rfl rfl rfl
      | 7, ht_16, hx_16 =>
        cases ht_16
        replace h := (if_neg (by omega)).symm.trans h
        replace h := (if_neg (by omega)).symm.trans h
        replace h := (if_neg (by omega)).symm.trans h
        replace h := (if_neg (by omega)).symm.trans h
        replace h := (if_neg (by omega)).symm.trans h
        replace h := (if_neg (by omega)).symm.trans h
        replace h := (if_neg (by omega)).symm.trans h
        replace h := (if_pos (by omega)).symm.trans h
        exact Zw.to2 (J_96 _ _ _ h) rfl rfl rfl
    · skip
      replace h := (if_neg (by omega)).symm.trans h
      replace h := (if_neg (by omega)).symm.trans h
      replace h := (if_neg (by omega)).symm.trans h
      replace h := (if_neg (by omega)).symm.trans h
      replace h := (if_neg (by omega)).symm.trans h
      replace h := (if_neg (by omega)).symm.trans h
      replace h := (if_neg (by omega)).symm.trans h
      replace h := (if_neg (by omega)).symm.trans h
      exact Zw.to2 (J_108 _ _ _ h) rfl rfl rfl
  unfold D_X8_readLine at h
  refine a_aload_n X dX8_readLine_0 rfl ?_
  refine a_geti X lf8_160 (by assumption) rfl dX8_readLine_1 ?_
  refine a_iconst (v := 2) X dX8_readLine_4 (by decide) ?_
  refine a_icmp_ne (tgt := 15) X dX8_readLine_5 (by decide) (fun h_5 => ?_) (fun h_5 => ?_)
  · replace h := (if_neg h_5).symm.trans h
    refine a_iconst (v := -1) X dX8_readLine_15 (by decide) ?_
    exact Zw.to2 (J_16 _ _ _ _ h) rfl rfl rfl
  · replace h := (if_pos h_5).symm.trans h
    refine a_aload_n X dX8_readLine_8 rfl ?_
    refine a_geti X lf8_157 (by assumption) rfl dX8_readLine_9 ?_
    refine a_goto (tgt := 16) X dX8_readLine_12 (by decide) ?_
    exact Zw.to2 (J_16 _ _ _ _ h) rfl rfl rfl
noncomputable def D_X8_load_197 (P : Nat) (k164 : Int32 → zMt → zNt → Option (Int32 × zMt × zNt)) (x3_197 : Int32) (y1_197 : Int32) (y2_197 : Int32) (M_197 : zMt) (N_197 : zNt) : Option (Int32 × zMt × zNt) :=
  zI y1_197 10 <|
  zLt (zu M_197 (P + 5) y1_197.toNatClampNeg y2_197) fun M_197 =>
  k164 (x3_197 + 1) M_197 N_197
noncomputable def D_X8_load_196 (P : Nat) (k164 : Int32 → zMt → zNt → Option (Int32 × zMt × zNt)) (x3_196 : Int32) (y1_196 : Int32) (M_196 : zMt) (N_196 : zNt) : Option (Int32 × zMt × zNt) :=
  D_X8_load_197 P k164 x3_196 y1_196 (0 : Int32) M_196 N_196
noncomputable def D_X8_load_164 (P : Nat) : Nat → Int32 → zMt → zNt → Option (Int32 × zMt × zNt)
  | 0, _, _, _ => none
  | n + 1, x3_164, M_164, N_164 =>
    if (10 : Int32) ≤ x3_164 then
      zLt (zu M_164 P 7 (M_164 P 28)) fun M_209 =>
      zLt (zu M_209 P 8 (M_209 P 29)) fun M_217 =>
      zLt (zu M_217 P 9 (0 : Int32)) fun M_222 =>
      zB (D_X8_gives P (M_222 P 8) M_222) fun e_230 =>
      some (e_230.1, e_230.2, N_164)
    else
      if (M_164 P 29) ≤ x3_164 then
        D_X8_load_196 P (D_X8_load_164 P n) x3_164 x3_164 M_164 N_164
      else
        zI x3_164 10 <|
        if (M_164 (P + 6) x3_164.toNatClampNeg) = 0 then
          D_X8_load_196 P (D_X8_load_164 P n) x3_164 x3_164 M_164 N_164
        else
          D_X8_load_197 P (D_X8_load_164 P n) x3_164 x3_164 (1 : Int32) M_164 N_164
noncomputable def D_X8_load_138 (P : Nat) : Nat → Int32 → zMt → zNt → Option (Int32 × zMt × zNt)
  | 0, _, _, _ => none
  | n + 1, x3_138, M_138, N_138 =>
    if (82 : Int32) ≤ x3_138 then
      D_X8_load_164 P zFu (0 : Int32) M_138 N_138
    else
      zI x3_138 82 <|
      zI x3_138 82 <|
      zLt (zu M_138 (P + 1) x3_138.toNatClampNeg (M_138 (P + 2) x3_138.toNatClampNeg)) fun M_155 =>
      (D_X8_load_138 P n) (x3_138 + 1) M_155 N_138
noncomputable def D_X8_load_98 (P : Nat) (x2_98 : Int32) (M_98 : zMt) (N_98 : zNt) : Option (Int32 × zMt × zNt) :=
  zLt (zu M_98 P 13 (M_98 P 21)) fun M_103 =>
  zLt (zu M_103 P 14 (M_103 P 22)) fun M_111 =>
  if x2_98 = 0 then
    zB (D_X8_refuse P (9 : Int32) M_111) fun e_121 =>
    some (e_121.1, e_121.2, N_98)
  else
    zI (70 : Int32) 82 <|
    zLt (zu M_111 (P + 2) (70 : Int32).toNatClampNeg (M_111 P 30)) fun M_135 =>
    D_X8_load_138 P zFu (0 : Int32) M_135 N_98
noncomputable def D_X8_load_79 (P : Nat) : Nat → Int32 → zMt → zNt → Option (Int32 × zMt × zNt)
  | 0, _, _, _ => none
  | n + 1, x2_79, M_79, N_79 =>
    if x2_79 = 0 then
      D_X8_load_98 P x2_79 M_79 N_79
    else
      if (M_79 P 18) = 0 then
        D_X8_load_98 P x2_79 M_79 N_79
      else
        zB (D_X8_readLine P M_79 N_79) fun e_91 =>
        (D_X8_load_79 P n) e_91.1 e_91.2.1 e_91.2.2
noncomputable def D_X8_load (P : Nat) (v0 : Int32) (M : zMt) (N : zNt) : Option (Int32 × zMt × zNt) :=
  zB (D_X8_isFrom (Int32.toInt64 v0) (0 : Int64) (Int32.toInt64 (M P 11))) fun e_8 =>
  if e_8 = 0 then
    zB (D_X8_refuse P (1 : Int32) M) fun e_16 =>
    some (e_16.1, e_16.2, N)
  else
    zLt (zu M P 15 v0) fun M_22 =>
    zLt (zu M_22 P 11 (0 : Int32)) fun M_27 =>
    zLt (zu M_27 P 17 (0 : Int32)) fun M_32 =>
    zLt (zu M_32 P 21 (0 : Int32)) fun M_37 =>
    zLt (zu M_37 P 22 (-1 : Int32)) fun M_42 =>
    zLt (zu M_42 P 23 (0 : Int32)) fun M_47 =>
    zLt (zu M_47 P 28 (0 : Int32)) fun M_52 =>
    zLt (zu M_52 P 29 (0 : Int32)) fun M_57 =>
    zLt (zu M_57 P 30 (0 : Int32)) fun M_62 =>
    zB (D_X8_begins (P + 2) 82 M_62) fun e_69 =>
    zB (D_X8_next P e_69 N) fun e_73 =>
    D_X8_load_79 P zFu (1 : Int32) e_73.2.1 e_73.2.2
set_option maxRecDepth 100000 in
set_option maxHeartbeats 4000000 in
theorem t_X8_load {l : Launch} {G : zG} {b : Nat} {L : List zC} {M : zMt} {N : zNt} {P : Nat} {v0 : Int32} (hP : LX8 L P) {r : Int32 × zMt × zNt} (h : D_X8_load P v0 M N = some r) : zM l G b yX8_load cX8_load 4 (some .int) 9 0 0 [.ref P, .int v0] (L, M, N) (fun r2 z => r2 = some (.int r.1) ∧ z = (L, r.2.1, r.2.2)) := by
  refine zM.of miX8_load (Nat.le_of_ble_eq_true rfl) ?_
  intro p e s m args below meth c X hr hname
  generalize hF : ((fun r2 z => r2 = some (.int r.1) ∧ z = (L, r.2.1, r.2.2)) : Option Value → zS → Prop) = FQ
  change Zw p l e { frames := 9, cells := 0, slots := 0, locals := 80 * (9) } s m args below meth c G b 4 (MQ below (zQ G b FQ) args s 0 0 (fun q : Nat => b ≤ q)) 0 0 0 [some (.ref P), some (.int v0), none, none] [] (L, M, N)
  obtain ⟨p_lt, p_o, p_s, p_read, p_aside, p_kept, p_guest, p_readGuest, p_tape, p_unitName, p_hunterName, p_partyName, p_bits, p_partyOf, p_choiceAt, p_sizes, p_guestMany, p_pointsOf, p_ticketsOf, p_ord, p_given, p_roundOf, p_tags, p_guestTags, p_places, p_sumAt, p_sumFirst, p_sumRound, p_sumBoth, p_sumTags, p_isEnd, p_newPoints, p_inRow, p_out⟩ := id hP
  have L_164 : ∀ u : Nat, ∀ (x1_164 : Int32) (x2_164 : Int32) (x3_164 : Int32) (M_164 : zMt) (N_164 : zNt), D_X8_load_164 P u x3_164 M_164 N_164 = some r → Zw p l e { frames := 9, cells := 0, slots := 0, locals := 80 * (9) } s m args below meth c G b 4 (MQ below (zQ G b FQ) args s 0 0 (fun q : Nat => b ≤ q)) 0 0 164 [some (.ref (P)), some (.int x1_164), some (.int x2_164), some (.int x3_164)] [] (L, M_164, N_164) := by
    intro u
    induction u with
    | zero => intro x1_164 x2_164 x3_164 M_164 N_164 h; cases (show none = some r from h)
    | succ u_164 ih_164 =>
      have J_197 : ∀ (x1_197 : Int32) (x2_197 : Int32) (x3_197 : Int32) (y1_197 : Int32) (y2_197 : Int32) (M_197 : zMt) (N_197 : zNt), (y2_197 = 0 ∨ y2_197 = 1) → D_X8_load_197 P (D_X8_load_164 P u_164) x3_197 y1_197 y2_197 M_197 N_197 = some r → Zw p l e { frames := 9, cells := 0, slots := 0, locals := 80 * (9) } s m args below meth c G b 4 (MQ below (zQ G b FQ) args s 0 0 (fun q : Nat => b ≤ q)) 0 0 197 [some (.ref (P)), some (.int x1_197), some (.int x2_197), some (.int x3_197)] [.int y2_197, .int y1_197, .ref (P + 5)] (L, M_197, N_197) := by
        intro x1_197 x2_197 x3_197 y1_197 y2_197 M_197 N_197 fb_y2_197 h
        unfold D_X8_load_197 at h
        obtain ⟨g_197, h⟩ := zIx h
        obtain ⟨M_197, f_197, h⟩ := zLtx h
        refine d_bastore X (by first | exact Or.inl rfl | exact Or.inr rfl | assumption) (by assumption) g_197 dX8_load_197 f_197 ?_
        refine a_iinc (v := x3_197 + 1) X dX8_load_198 (by decide) rfl zi_1 ?_
        refine a_goto (tgt := 164) X dX8_load_201 (by decide) ?_
        exact Zw.to2 (ih_164 _ _ _ _ _ h) rfl rfl rfl
      have J_196 : ∀ (x1_196 : Int32) (x2_196 : Int32) (x3_196 : Int32) (y1_196 : Int32) (M_196 : zMt) (N_196 : zNt), D_X8_load_196 P (D_X8_load_164 P u_164) x3_196 y1_196 M_196 N_196 = some r → Zw p l e { frames := 9, cells := 0, slots := 0, locals := 80 * (9) } s m args below meth c G b 4 (MQ below (zQ G b FQ) args s 0 0 (fun q : Nat => b ≤ q)) 0 0 196 [some (.ref (P)), some (.int x1_196), some (.int x2_196), some (.int x3_196)] [.int y1_196, .ref (P + 5)] (L, M_196, N_196) := by
        intro x1_196 x2_196 x3_196 y1_196 M_196 N_196 h
        unfold D_X8_load_196 at h
        refine a_iconst (v := 0) X dX8_load_196 (by decide) ?_
        exact Zw.to2 (J_197 _ _ _ _ _ _ _ (by first | exact Or.inl rfl | exact Or.inr rfl | assumption) h) rfl rfl rfl
      intro x1_164 x2_164 x3_164 M_164 N_164 h
      rw [D_X8_load_164] at h
      refine a_iload_n X dX8_load_164 rfl ?_
      refine a_bipush (v := 10) X dX8_load_165 (by decide) ?_
      refine a_icmp_ge (tgt := 204) X dX8_load_167 (by decide) (fun h_167 => ?_) (fun h_167 => ?_)
      · replace h := (if_pos h_167).symm.trans h
        refine a_aload_n X dX8_load_204 rfl ?_
        refine a_aload_n X dX8_load_205 rfl ?_
        refine a_geti X lf8_201 (by assumption) rfl dX8_load_206 ?_
        obtain ⟨M_209, f_209, h⟩ := zLtx h
        refine d_puti X lf8_125 (by assumption) rfl dX8_load_209 f_209 ?_
        refine a_aload_n X dX8_load_212 rfl ?_
        refine a_aload_n X dX8_load_213 rfl ?_
        refine a_geti X lf8_208 (by assumption) rfl dX8_load_214 ?_
        obtain ⟨M_217, f_217, h⟩ := zLtx h
        refine d_puti X lf8_132 (by assumption) rfl dX8_load_217 f_217 ?_
        refine a_aload_n X dX8_load_220 rfl ?_
        refine a_iconst (v := 0) X dX8_load_221 (by decide) ?_
        obtain ⟨M_222, f_222, h⟩ := zLtx h
        refine d_puti X lf8_269 (by assumption) rfl dX8_load_222 f_222 ?_
        refine a_aload_n X dX8_load_225 rfl ?_
        refine a_aload_n X dX8_load_226 rfl ?_
        refine a_geti X lf8_132 (by assumption) rfl dX8_load_227 ?_
        obtain ⟨e_230, f_230, h⟩ := zBx h
        refine a_callVv X dX8_load_230 miX8_gives lm8_272 (t_X8_gives (by assumption) f_230) (by assumption) rfl rfl rfl (Nat.le_of_ble_eq_true rfl) ⟨by decide, by decide, by decide, by decide⟩ ?_
        refine a_iret X hr dX8_load_233 ⟨by decide, by decide⟩ ?_
        subst hF
        rw [← Option.some.inj h]
        exact ⟨rfl, rfl⟩
      · replace h := (if_neg h_167).symm.trans h
        refine a_aload_n X dX8_load_170 rfl ?_
        refine a_getr X lf8_22 (by assumption) rfl (by omega) dX8_load_171 ?_
        refine a_iload_n X dX8_load_174 rfl ?_
        refine a_iload_n X dX8_load_175 rfl ?_
        refine a_aload_n X dX8_load_176 rfl ?_
        refine a_geti X lf8_208 (by assumption) rfl dX8_load_177 ?_
        refine a_icmp_ge (tgt := 196) X dX8_load_180 (by decide) (fun h_180 => ?_) (fun h_180 => ?_)
        · replace h := (if_pos h_180).symm.trans h
          exact Zw.to2 (J_196 _ _ _ _ _ _ h) rfl rfl rfl
        · replace h := (if_neg h_180).symm.trans h
          refine a_aload_n X dX8_load_183 rfl ?_
          refine a_getr X lf8_26 (by assumption) rfl (by omega) dX8_load_184 ?_
          refine a_iload_n X dX8_load_187 rfl ?_
          obtain ⟨g_188, h⟩ := zIx h
          refine a_baload X (by assumption) g_188 dX8_load_188 ?_
          refine a_if_eq (tgt := 196) X dX8_load_189 (by decide) (fun h_189 => ?_) (fun h_189 => ?_)
          · replace h := (if_pos h_189).symm.trans h
            exact Zw.to2 (J_196 _ _ _ _ _ _ h) rfl rfl rfl
          · replace h := (if_neg h_189).symm.trans h
            refine a_iconst (v := 1) X dX8_load_192 (by decide) ?_
            refine a_goto (tgt := 197) X dX8_load_193 (by decide) ?_
            exact Zw.to2 (J_197 _ _ _ _ _ _ _ (by first | exact Or.inl rfl | exact Or.inr rfl | assumption) h) rfl rfl rfl
  have H_164 : ∀ (x1_164 : Int32) (x2_164 : Int32) (x3_164 : Int32) (M_164 : zMt) (N_164 : zNt), D_X8_load_164 P zFu x3_164 M_164 N_164 = some r → Zw p l e { frames := 9, cells := 0, slots := 0, locals := 80 * (9) } s m args below meth c G b 4 (MQ below (zQ G b FQ) args s 0 0 (fun q : Nat => b ≤ q)) 0 0 164 [some (.ref (P)), some (.int x1_164), some (.int x2_164), some (.int x3_164)] [] (L, M_164, N_164) := L_164 zFu
  have L_138 : ∀ u : Nat, ∀ (x1_138 : Int32) (x2_138 : Int32) (x3_138 : Int32) (M_138 : zMt) (N_138 : zNt), D_X8_load_138 P u x3_138 M_138 N_138 = some r → Zw p l e { frames := 9, cells := 0, slots := 0, locals := 80 * (9) } s m args below meth c G b 4 (MQ below (zQ G b FQ) args s 0 0 (fun q : Nat => b ≤ q)) 0 0 138 [some (.ref (P)), some (.int x1_138), some (.int x2_138), some (.int x3_138)] [] (L, M_138, N_138) := by
    intro u
    induction u with
    | zero => intro x1_138 x2_138 x3_138 M_138 N_138 h; cases (show none = some r from h)
    | succ u_138 ih_138 =>
      intro x1_138 x2_138 x3_138 M_138 N_138 h
      rw [D_X8_load_138] at h
      refine a_iload_n X dX8_load_138 rfl ?_
      refine a_bipush (v := 82) X dX8_load_139 (by decide) ?_
      refine a_icmp_ge (tgt := 162) X dX8_load_141 (by decide) (fun h_141 => ?_) (fun h_141 => ?_)
      · replace h := (if_pos h_141).symm.trans h
        refine a_iconst (v := 0) X dX8_load_162 (by decide) ?_
        refine a_istore_n X dX8_load_163 (by decide) ?_
        exact Zw.to2 (H_164 _ _ _ _ _ h) rfl rfl rfl
      · replace h := (if_neg h_141).symm.trans h
        refine a_aload_n X dX8_load_144 rfl ?_
        refine a_getr X lf8_7 (by assumption) rfl (by omega) dX8_load_145 ?_
        refine a_iload_n X dX8_load_148 rfl ?_
        refine a_aload_n X dX8_load_149 rfl ?_
        refine a_getr X lf8_13 (by assumption) rfl (by omega) dX8_load_150 ?_
        refine a_iload_n X dX8_load_153 rfl ?_
        obtain ⟨g_154, h⟩ := zIx h
        refine a_iaload X (by assumption) g_154 dX8_load_154 ?_
        obtain ⟨g_155, h⟩ := zIx h
        obtain ⟨M_155, f_155, h⟩ := zLtx h
        refine d_iastore X (by assumption) g_155 dX8_load_155 f_155 ?_
        refine a_iinc (v := x3_138 + 1) X dX8_load_156 (by decide) rfl zi_1 ?_
        refine a_goto (tgt := 138) X dX8_load_159 (by decide) ?_
        exact Zw.to2 (ih_138 _ _ _ _ _ h) rfl rfl rfl
  have H_138 : ∀ (x1_138 : Int32) (x2_138 : Int32) (x3_138 : Int32) (M_138 : zMt) (N_138 : zNt), D_X8_load_138 P zFu x3_138 M_138 N_138 = some r → Zw p l e { frames := 9, cells := 0, slots := 0, locals := 80 * (9) } s m args below meth c G b 4 (MQ below (zQ G b FQ) args s 0 0 (fun q : Nat => b ≤ q)) 0 0 138 [some (.ref (P)), some (.int x1_138), some (.int x2_138), some (.int x3_138)] [] (L, M_138, N_138) := L_138 zFu
  have J_98 : ∀ (x1_98 : Int32) (x2_98 : Int32) (x3_98 : Option Value) (M_98 : zMt) (N_98 : zNt), (x2_98 = 0 ∨ x2_98 = 1) → D_X8_load_98 P x2_98 M_98 N_98 = some r → Zw p l e { frames := 9, cells := 0, slots := 0, locals := 80 * (9) } s m args below meth c G b 4 (MQ below (zQ G b FQ) args s 0 0 (fun q : Nat => b ≤ q)) 0 0 98 [some (.ref (P)), some (.int x1_98), some (.int x2_98), x3_98] [] (L, M_98, N_98) := by
    intro x1_98 x2_98 x3_98 M_98 N_98 fb_x2_98 h
    unfold D_X8_load_98 at h
    refine a_aload_n X dX8_load_98 rfl ?_
    refine a_aload_n X dX8_load_99 rfl ?_
    refine a_geti X lf8_195 (by assumption) rfl dX8_load_100 ?_
    obtain ⟨M_103, f_103, h⟩ := zLtx h
    refine d_puti X lf8_32 (by assumption) rfl dX8_load_103 f_103 ?_
    refine a_aload_n X dX8_load_106 rfl ?_
    refine a_aload_n X dX8_load_107 rfl ?_
    refine a_geti X lf8_198 (by assumption) rfl dX8_load_108 ?_
    obtain ⟨M_111, f_111, h⟩ := zLtx h
    refine d_puti X lf8_36 (by assumption) rfl dX8_load_111 f_111 ?_
    refine a_iload_n X dX8_load_114 rfl ?_
    refine a_if_ne (tgt := 125) X dX8_load_115 (by decide) (fun h_115 => ?_) (fun h_115 => ?_)
    · replace h := (if_neg h_115).symm.trans h
      refine a_aload_n X dX8_load_125 rfl ?_
      refine a_getr X lf8_13 (by assumption) rfl (by omega) dX8_load_126 ?_
      refine a_bipush (v := 70) X dX8_load_129 (by decide) ?_
      refine a_aload_n X dX8_load_131 rfl ?_
      refine a_geti X lf8_211 (by assumption) rfl dX8_load_132 ?_
      obtain ⟨g_135, h⟩ := zIx h
      obtain ⟨M_135, f_135, h⟩ := zLtx h
      refine d_iastore X (by assumption) g_135 dX8_load_135 f_135 ?_
      refine a_iconst (v := 0) X dX8_load_136 (by decide) ?_
      refine a_istore_n X dX8_load_137 (by decide) ?_
      exact Zw.to2 (H_138 _ _ _ _ _ h) rfl rfl rfl
    · replace h := (if_pos h_115).symm.trans h
      refine a_aload_n X dX8_load_118 rfl ?_
      refine a_bipush (v := 9) X dX8_load_119 (by decide) ?_
      obtain ⟨e_121, f_121, h⟩ := zBx h
      refine a_callVv X dX8_load_121 miX8_refuse lm8_263 (t_X8_refuse (by assumption) f_121) (by assumption) rfl rfl rfl (Nat.le_of_ble_eq_true rfl) ⟨by decide, by decide, by decide, by decide⟩ ?_
      refine a_iret X hr dX8_load_124 ⟨by decide, by decide⟩ ?_
      subst hF
      rw [← Option.some.inj h]
      exact ⟨rfl, rfl⟩
  have L_79 : ∀ u : Nat, ∀ (x1_79 : Int32) (x2_79 : Int32) (x3_79 : Option Value) (M_79 : zMt) (N_79 : zNt), (x2_79 = 0 ∨ x2_79 = 1) → D_X8_load_79 P u x2_79 M_79 N_79 = some r → Zw p l e { frames := 9, cells := 0, slots := 0, locals := 80 * (9) } s m args below meth c G b 4 (MQ below (zQ G b FQ) args s 0 0 (fun q : Nat => b ≤ q)) 0 0 79 [some (.ref (P)), some (.int x1_79), some (.int x2_79), x3_79] [] (L, M_79, N_79) := by
    intro u
    induction u with
    | zero => intro x1_79 x2_79 x3_79 M_79 N_79 fb_x2_79 h; cases (show none = some r from h)
    | succ u_79 ih_79 =>
      intro x1_79 x2_79 x3_79 M_79 N_79 fb_x2_79 h
      rw [D_X8_load_79] at h
      refine a_iload_n X dX8_load_79 rfl ?_
      refine a_if_eq (tgt := 98) X dX8_load_80 (by decide) (fun h_80 => ?_) (fun h_80 => ?_)
      · replace h := (if_pos h_80).symm.trans h
        exact Zw.to2 (J_98 _ _ _ _ _ (by first | exact Or.inl rfl | exact Or.inr rfl | assumption) h) rfl rfl rfl
      · replace h := (if_neg h_80).symm.trans h
        refine a_aload_n X dX8_load_83 rfl ?_
        refine a_geti X lf8_160 (by assumption) rfl dX8_load_84 ?_
        refine a_if_eq (tgt := 98) X dX8_load_87 (by decide) (fun h_87 => ?_) (fun h_87 => ?_)
        · replace h := (if_pos h_87).symm.trans h
          exact Zw.to2 (J_98 _ _ _ _ _ (by first | exact Or.inl rfl | exact Or.inr rfl | assumption) h) rfl rfl rfl
        · replace h := (if_neg h_87).symm.trans h
          refine a_aload_n X dX8_load_90 rfl ?_
          obtain ⟨e_91, f_91, h⟩ := zBx h
          refine a_callVx X dX8_load_91 miX8_readLine lm8_266 (t_X8_readLine (by assumption) f_91) (by assumption) rfl rfl rfl (Nat.le_of_ble_eq_true rfl) ⟨by decide, by decide, by decide, by decide⟩ (fun r_91 S_91 q_91 => ?_)
          obtain ⟨rfl, rfl, b_91⟩ := q_91
          refine a_istore_n X dX8_load_94 (by decide) ?_
          refine a_goto (tgt := 79) X dX8_load_95 (by decide) ?_
          exact Zw.to2 (ih_79 _ _ _ _ _ (by first | exact Or.inl rfl | exact Or.inr rfl | assumption) h) rfl rfl rfl
  have H_79 : ∀ (x1_79 : Int32) (x2_79 : Int32) (x3_79 : Option Value) (M_79 : zMt) (N_79 : zNt), (x2_79 = 0 ∨ x2_79 = 1) → D_X8_load_79 P zFu x2_79 M_79 N_79 = some r → Zw p l e { frames := 9, cells := 0, slots := 0, locals := 80 * (9) } s m args below meth c G b 4 (MQ below (zQ G b FQ) args s 0 0 (fun q : Nat => b ≤ q)) 0 0 79 [some (.ref (P)), some (.int x1_79), some (.int x2_79), x3_79] [] (L, M_79, N_79) := L_79 zFu
  unfold D_X8_load at h
  refine a_iload_n X dX8_load_0 rfl ?_
  refine a_i2l X dX8_load_1 ?_
  refine a_lconst (v := 0) X dX8_load_2 (by decide) ?_
  refine a_aload_n X dX8_load_3 rfl ?_
  refine a_geti X lf8_137 (by assumption) rfl dX8_load_4 ?_
  refine a_i2l X dX8_load_7 ?_
  obtain ⟨e_8, f_8, h⟩ := zBx h
  refine a_callSx X dX8_load_8 miX8_isFrom lm8_128 (t_X8_isFrom f_8) rfl rfl (Nat.le_of_ble_eq_true rfl) ⟨by decide, by decide, by decide, by decide⟩ (fun r_8 S_8 q_8 => ?_)
  obtain ⟨rfl, rfl, b_8⟩ := q_8
  refine a_if_ne (tgt := 20) X dX8_load_11 (by decide) (fun h_11 => ?_) (fun h_11 => ?_)
  · replace h := (if_neg h_11).symm.trans h
    refine a_aload_n X dX8_load_20 rfl ?_
    refine a_iload_n X dX8_load_21 rfl ?_
    obtain ⟨M_22, f_22, h⟩ := zLtx h
    refine d_puti X lf8_144 (by assumption) rfl dX8_load_22 f_22 ?_
    refine a_aload_n X dX8_load_25 rfl ?_
    refine a_iconst (v := 0) X dX8_load_26 (by decide) ?_
    obtain ⟨M_27, f_27, h⟩ := zLtx h
    refine d_puti X lf8_137 (by assumption) rfl dX8_load_27 f_27 ?_
    refine a_aload_n X dX8_load_30 rfl ?_
    refine a_iconst (v := 0) X dX8_load_31 (by decide) ?_
    obtain ⟨M_32, f_32, h⟩ := zLtx h
    refine d_puti X lf8_147 (by assumption) rfl dX8_load_32 f_32 ?_
    refine a_aload_n X dX8_load_35 rfl ?_
    refine a_iconst (v := 0) X dX8_load_36 (by decide) ?_
    obtain ⟨M_37, f_37, h⟩ := zLtx h
    refine d_puti X lf8_195 (by assumption) rfl dX8_load_37 f_37 ?_
    refine a_aload_n X dX8_load_40 rfl ?_
    refine a_iconst (v := -1) X dX8_load_41 (by decide) ?_
    obtain ⟨M_42, f_42, h⟩ := zLtx h
    refine d_puti X lf8_198 (by assumption) rfl dX8_load_42 f_42 ?_
    refine a_aload_n X dX8_load_45 rfl ?_
    refine a_iconst (v := 0) X dX8_load_46 (by decide) ?_
    obtain ⟨M_47, f_47, h⟩ := zLtx h
    refine d_puti X lf8_243 (by assumption) rfl dX8_load_47 f_47 ?_
    refine a_aload_n X dX8_load_50 rfl ?_
    refine a_iconst (v := 0) X dX8_load_51 (by decide) ?_
    obtain ⟨M_52, f_52, h⟩ := zLtx h
    refine d_puti X lf8_201 (by assumption) rfl dX8_load_52 f_52 ?_
    refine a_aload_n X dX8_load_55 rfl ?_
    refine a_iconst (v := 0) X dX8_load_56 (by decide) ?_
    obtain ⟨M_57, f_57, h⟩ := zLtx h
    refine d_puti X lf8_208 (by assumption) rfl dX8_load_57 f_57 ?_
    refine a_aload_n X dX8_load_60 rfl ?_
    refine a_iconst (v := 0) X dX8_load_61 (by decide) ?_
    obtain ⟨M_62, f_62, h⟩ := zLtx h
    refine d_puti X lf8_211 (by assumption) rfl dX8_load_62 f_62 ?_
    refine a_aload_n X dX8_load_65 rfl ?_
    refine a_getr X lf8_13 (by assumption) rfl (by omega) dX8_load_66 ?_
    obtain ⟨e_69, f_69, h⟩ := zBx h
    refine a_callSu X dX8_load_69 miX8_begins lm8_115 (t_X8_begins (by assumption) (by first | decide | assumption) f_69) rfl rfl (Nat.le_of_ble_eq_true rfl) ⟨by decide, by decide, by decide, by decide⟩ ?_
    refine a_aload_n X dX8_load_72 rfl ?_
    obtain ⟨e_73, f_73, h⟩ := zBx h
    refine a_callVx X dX8_load_73 miX8_next lm8_220 (t_X8_next (by assumption) f_73) (by assumption) rfl rfl rfl (Nat.le_of_ble_eq_true rfl) ⟨by decide, by decide, by decide, by decide⟩ (fun r_73 S_73 q_73 => ?_)
    obtain ⟨rfl, rfl, b_73⟩ := q_73
    refine a_pop X dX8_load_76 rfl ?_
    refine a_iconst (v := 1) X dX8_load_77 (by decide) ?_
    refine a_istore_n X dX8_load_78 (by decide) ?_
    exact Zw.to2 (H_79 _ _ _ _ _ (by first | exact Or.inl rfl | exact Or.inr rfl | assumption) h) rfl rfl rfl
  · replace h := (if_pos h_11).symm.trans h
    refine a_aload_n X dX8_load_14 rfl ?_
    refine a_iconst (v := 1) X dX8_load_15 (by decide) ?_
    obtain ⟨e_16, f_16, h⟩ := zBx h
    refine a_callVv X dX8_load_16 miX8_refuse lm8_263 (t_X8_refuse (by assumption) f_16) (by assumption) rfl rfl rfl (Nat.le_of_ble_eq_true rfl) ⟨by decide, by decide, by decide, by decide⟩ ?_
    refine a_iret X hr dX8_load_19 ⟨by decide, by decide⟩ ?_
    subst hF
    rw [← Option.some.inj h]
    exact ⟨rfl, rfl⟩
noncomputable def D_X8_fault_29 (P : Nat) (y0_29 : Int32) (M_29 : zMt) : Option (Int32 × zMt) :=
  some (y0_29, M_29)
noncomputable def D_X8_fault (P : Nat) (v0 : Int32) (M : zMt) : Option (Int32 × zMt) :=
  zLt (zu M P 6 (0 : Int32)) fun M_2 =>
  if v0 = 0 then
    D_X8_fault_29 P (M_2 P 13) M_2
  else
    if v0 = (1 : Int32) then
      D_X8_fault_29 P (M_2 P 14) M_2
    else
      D_X8_fault_29 P (-1 : Int32) M_2
set_option maxRecDepth 100000 in
set_option maxHeartbeats 4000000 in
theorem t_X8_fault {l : Launch} {G : zG} {b : Nat} {L : List zC} {M : zMt} {N : zNt} {P : Nat} {v0 : Int32} (hP : LX8 L P) {r : Int32 × zMt} (h : D_X8_fault P v0 M = some r) : zM l G b yX8_fault cX8_fault 2 (some .int) 0 0 0 [.ref P, .int v0] (L, M, N) (fun r2 z => r2 = some (.int r.1) ∧ z = (L, r.2, N)) := by
  refine zM.of miX8_fault (Nat.le_of_ble_eq_true rfl) ?_
  intro p e s m args below meth c X hr hname
  generalize hF : ((fun r2 z => r2 = some (.int r.1) ∧ z = (L, r.2, N)) : Option Value → zS → Prop) = FQ
  change Zw p l e { frames := 0, cells := 0, slots := 0, locals := 80 * (0) } s m args below meth c G b 2 (MQ below (zQ G b FQ) args s 0 0 (fun q : Nat => b ≤ q)) 0 0 0 [some (.ref P), some (.int v0)] [] (L, M, N)
  obtain ⟨p_lt, p_o, p_s, p_read, p_aside, p_kept, p_guest, p_readGuest, p_tape, p_unitName, p_hunterName, p_partyName, p_bits, p_partyOf, p_choiceAt, p_sizes, p_guestMany, p_pointsOf, p_ticketsOf, p_ord, p_given, p_roundOf, p_tags, p_guestTags, p_places, p_sumAt, p_sumFirst, p_sumRound, p_sumBoth, p_sumTags, p_isEnd, p_newPoints, p_inRow, p_out⟩ := id hP
  have J_29 : ∀ (x1_29 : Int32) (y0_29 : Int32) (M_29 : zMt), D_X8_fault_29 P y0_29 M_29 = some r → Zw p l e { frames := 0, cells := 0, slots := 0, locals := 80 * (0) } s m args below meth c G b 2 (MQ below (zQ G b FQ) args s 0 0 (fun q : Nat => b ≤ q)) 0 0 29 [some (.ref (P)), some (.int x1_29)] [.int y0_29] (L, M_29, N) := by
    intro x1_29 y0_29 M_29 h
    unfold D_X8_fault_29 at h
    refine a_iret X hr dX8_fault_29 ⟨by decide, by decide⟩ ?_
    subst hF
    rw [← Option.some.inj h]
    exact ⟨rfl, rfl⟩
  unfold D_X8_fault at h
  refine a_aload_n X dX8_fault_0 rfl ?_
  refine a_iconst (v := 0) X dX8_fault_1 (by decide) ?_
  obtain ⟨M_2, f_2, h⟩ := zLtx h
  refine d_puti X lf8_119 (by assumption) rfl dX8_fault_2 f_2 ?_
  refine a_iload_n X dX8_fault_5 rfl ?_
  refine a_if_ne (tgt := 16) X dX8_fault_6 (by decide) (fun h_6 => ?_) (fun h_6 => ?_)
  · replace h := (if_neg h_6).symm.trans h
    refine a_iload_n X dX8_fault_16 rfl ?_
    refine a_iconst (v := 1) X dX8_fault_17 (by decide) ?_
    refine a_icmp_ne (tgt := 28) X dX8_fault_18 (by decide) (fun h_18 => ?_) (fun h_18 => ?_)
    · replace h := (if_neg h_18).symm.trans h
      refine a_iconst (v := -1) X dX8_fault_28 (by decide) ?_
      exact Zw.to2 (J_29 _ _ _ h) rfl rfl rfl
    · replace h := (if_pos h_18).symm.trans h
      refine a_aload_n X dX8_fault_21 rfl ?_
      refine a_geti X lf8_36 (by assumption) rfl dX8_fault_22 ?_
      refine a_goto (tgt := 29) X dX8_fault_25 (by decide) ?_
      exact Zw.to2 (J_29 _ _ _ h) rfl rfl rfl
  · replace h := (if_pos h_6).symm.trans h
    refine a_aload_n X dX8_fault_9 rfl ?_
    refine a_geti X lf8_32 (by assumption) rfl dX8_fault_10 ?_
    refine a_goto (tgt := 29) X dX8_fault_13 (by decide) ?_
    exact Zw.to2 (J_29 _ _ _ h) rfl rfl rfl
noncomputable def D_X8_laysOne_162 (P : Nat) (y1_162 : Int32) (y2_162 : Int32) (M_162 : zMt) : Option (zMt) :=
  zI y1_162 10 <|
  zLt (zu M_162 (P + 17) y1_162.toNatClampNeg y2_162) fun M_162 =>
  some (M_162)
noncomputable def D_X8_laysOne_86 (P : Nat) (k18 : Int32 → Int32 → Int32 → zMt → Option (zMt)) (x1_86 : Int32) (x2_86 : Int32) (x3_86 : Int32) (M_86 : zMt) : Option (zMt) :=
  k18 x1_86 x2_86 (x3_86 + 1) M_86
noncomputable def D_X8_laysOne_73 (P : Nat) (k18 : Int32 → Int32 → Int32 → zMt → Option (zMt)) (x1_73 : Int32) (x2_73 : Int32) (x3_73 : Int32) (y1_73 : Int32) (y2_73 : Int32) (y3_73 : Int32) (M_73 : zMt) : Option (zMt) :=
  zI y1_73 10 <|
  zLt (zu M_73 (P + 15) y1_73.toNatClampNeg (y2_73 + y3_73)) fun M_74 =>
  zI ((0 : Int32) + x3_73) 82 <|
  D_X8_laysOne_86 P k18 x1_73 (x2_73 + (M_74 (P + 1) ((0 : Int32) + x3_73).toNatClampNeg)) x3_73 M_74
noncomputable def D_X8_laysOne_18 (P : Nat) : Nat → Int32 → Int32 → Int32 → zMt → Option (zMt)
  | 0, _, _, _, _ => none
  | n + 1, x1_18, x2_18, x3_18, M_18 =>
    if (M_18 P 8) ≤ x3_18 then
      zI x1_18 10 <|
      zZ (M_18 (P + 14) x1_18.toNatClampNeg) <|
      zI x1_18 10 <|
      zLt (zu M_18 (P + 16) x1_18.toNatClampNeg (x2_18 / (M_18 (P + 14) x1_18.toNatClampNeg))) fun M_105 =>
      zI (67 : Int32) 82 <|
      if (M_105 (P + 1) (67 : Int32).toNatClampNeg) = 0 then
        D_X8_laysOne_162 P x1_18 (1 : Int32) M_105
      else
        zI (67 : Int32) 82 <|
        if (M_105 (P + 1) (67 : Int32).toNatClampNeg) = (1 : Int32) then
          zI x1_18 10 <|
          D_X8_laysOne_162 P x1_18 ((1 : Int32) + (M_105 (P + 16) x1_18.toNatClampNeg)) M_105
        else
          zI x1_18 10 <|
          zI x1_18 10 <|
          D_X8_laysOne_162 P x1_18 ((1 : Int32) + ((M_105 (P + 16) x1_18.toNatClampNeg) * (M_105 (P + 16) x1_18.toNatClampNeg))) M_105
    else
      zI x1_18 10 <|
      zB (D_X8_has (M_18 (P + 11) x1_18.toNatClampNeg) x3_18) fun e_33 =>
      if e_33 = 0 then
        D_X8_laysOne_86 P (D_X8_laysOne_18 P n) x1_18 x2_18 x3_18 M_18
      else
        zI x1_18 10 <|
        zI x1_18 10 <|
        zLt (zu M_18 (P + 14) x1_18.toNatClampNeg ((M_18 (P + 14) x1_18.toNatClampNeg) + (1 : Int32))) fun M_51 =>
        zI x1_18 10 <|
        zI x3_18 10 <|
        if (M_51 (P + 5) x3_18.toNatClampNeg) = 0 then
          D_X8_laysOne_73 P (D_X8_laysOne_18 P n) x1_18 x2_18 x3_18 x1_18 (M_51 (P + 15) x1_18.toNatClampNeg) (0 : Int32) M_51
        else
          D_X8_laysOne_73 P (D_X8_laysOne_18 P n) x1_18 x2_18 x3_18 x1_18 (M_51 (P + 15) x1_18.toNatClampNeg) (1 : Int32) M_51
noncomputable def D_X8_laysOne (P : Nat) (v0 : Int32) (M : zMt) : Option (zMt) :=
  zI v0 10 <|
  zLt (zu M (P + 14) v0.toNatClampNeg (0 : Int32)) fun M_6 =>
  zI v0 10 <|
  zLt (zu M_6 (P + 15) v0.toNatClampNeg (0 : Int32)) fun M_13 =>
  D_X8_laysOne_18 P zFu v0 (0 : Int32) (0 : Int32) M_13
set_option maxRecDepth 100000 in
set_option maxHeartbeats 4000000 in
theorem t_X8_laysOne {l : Launch} {G : zG} {b : Nat} {L : List zC} {M : zMt} {N : zNt} {P : Nat} {v0 : Int32} (hP : LX8 L P) {r : zMt} (h : D_X8_laysOne P v0 M = some r) : zM l G b yX8_laysOne cX8_laysOne 4 none 1 0 0 [.ref P, .int v0] (L, M, N) (fun r2 z => r2 = none ∧ z = (L, r, N)) := by
  refine zM.of miX8_laysOne (Nat.le_of_ble_eq_true rfl) ?_
  intro p e s m args below meth c X hr hname
  generalize hF : ((fun r2 z => r2 = none ∧ z = (L, r, N)) : Option Value → zS → Prop) = FQ
  change Zw p l e { frames := 1, cells := 0, slots := 0, locals := 80 * (1) } s m args below meth c G b 4 (MQ below (zQ G b FQ) args s 0 0 (fun q : Nat => b ≤ q)) 0 0 0 [some (.ref P), some (.int v0), none, none] [] (L, M, N)
  obtain ⟨p_lt, p_o, p_s, p_read, p_aside, p_kept, p_guest, p_readGuest, p_tape, p_unitName, p_hunterName, p_partyName, p_bits, p_partyOf, p_choiceAt, p_sizes, p_guestMany, p_pointsOf, p_ticketsOf, p_ord, p_given, p_roundOf, p_tags, p_guestTags, p_places, p_sumAt, p_sumFirst, p_sumRound, p_sumBoth, p_sumTags, p_isEnd, p_newPoints, p_inRow, p_out⟩ := id hP
  have J_162 : ∀ (x1_162 : Int32) (x2_162 : Int32) (x3_162 : Int32) (y1_162 : Int32) (y2_162 : Int32) (M_162 : zMt), D_X8_laysOne_162 P y1_162 y2_162 M_162 = some r → Zw p l e { frames := 1, cells := 0, slots := 0, locals := 80 * (1) } s m args below meth c G b 4 (MQ below (zQ G b FQ) args s 0 0 (fun q : Nat => b ≤ q)) 0 0 162 [some (.ref (P)), some (.int x1_162), some (.int x2_162), some (.int x3_162)] [.int y2_162, .int y1_162, .ref (P + 17)] (L, M_162, N) := by
    intro x1_162 x2_162 x3_162 y1_162 y2_162 M_162 h
    unfold D_X8_laysOne_162 at h
    obtain ⟨g_162, h⟩ := zIx h
    obtain ⟨M_162, f_162, h⟩ := zLtx h
    refine d_iastore X (by assumption) g_162 dX8_laysOne_162 f_162 ?_
    refine a_vret X hr dX8_laysOne_163 ⟨by decide, by decide⟩ ?_
    subst hF
    rw [← Option.some.inj h]
    exact ⟨rfl, rfl⟩
  have L_18 : ∀ u : Nat, ∀ (x1_18 : Int32) (x2_18 : Int32) (x3_18 : Int32) (M_18 : zMt), D_X8_laysOne_18 P u x1_18 x2_18 x3_18 M_18 = some r → Zw p l e { frames := 1, cells := 0, slots := 0, locals := 80 * (1) } s m args below meth c G b 4 (MQ below (zQ G b FQ) args s 0 0 (fun q : Nat => b ≤ q)) 0 0 18 [some (.ref (P)), some (.int x1_18), some (.int x2_18), some (.int x3_18)] [] (L, M_18, N) := by
    intro u
    induction u with
    | zero => intro x1_18 x2_18 x3_18 M_18 h; cases (show none = some r from h)
    | succ u_18 ih_18 =>
      have J_86 : ∀ (x1_86 : Int32) (x2_86 : Int32) (x3_86 : Int32) (M_86 : zMt), D_X8_laysOne_86 P (D_X8_laysOne_18 P u_18) x1_86 x2_86 x3_86 M_86 = some r → Zw p l e { frames := 1, cells := 0, slots := 0, locals := 80 * (1) } s m args below meth c G b 4 (MQ below (zQ G b FQ) args s 0 0 (fun q : Nat => b ≤ q)) 0 0 86 [some (.ref (P)), some (.int x1_86), some (.int x2_86), some (.int x3_86)] [] (L, M_86, N) := by
        intro x1_86 x2_86 x3_86 M_86 h
        unfold D_X8_laysOne_86 at h
        refine a_iinc (v := x3_86 + 1) X dX8_laysOne_86 (by decide) rfl zi_1 ?_
        refine a_goto (tgt := 18) X dX8_laysOne_89 (by decide) ?_
        exact Zw.to2 (ih_18 _ _ _ _ h) rfl rfl rfl
      have J_73 : ∀ (x1_73 : Int32) (x2_73 : Int32) (x3_73 : Int32) (y1_73 : Int32) (y2_73 : Int32) (y3_73 : Int32) (M_73 : zMt), (y3_73 = 0 ∨ y3_73 = 1) → D_X8_laysOne_73 P (D_X8_laysOne_18 P u_18) x1_73 x2_73 x3_73 y1_73 y2_73 y3_73 M_73 = some r → Zw p l e { frames := 1, cells := 0, slots := 0, locals := 80 * (1) } s m args below meth c G b 4 (MQ below (zQ G b FQ) args s 0 0 (fun q : Nat => b ≤ q)) 0 0 73 [some (.ref (P)), some (.int x1_73), some (.int x2_73), some (.int x3_73)] [.int y3_73, .int y2_73, .int y1_73, .ref (P + 15)] (L, M_73, N) := by
        intro x1_73 x2_73 x3_73 y1_73 y2_73 y3_73 M_73 fb_y3_73 h
        unfold D_X8_laysOne_73 at h
        refine a_iadd X dX8_laysOne_73 ?_
        obtain ⟨g_74, h⟩ := zIx h
        obtain ⟨M_74, f_74, h⟩ := zLtx h
        refine d_iastore X (by assumption) g_74 dX8_laysOne_74 f_74 ?_
        refine a_iload_n X dX8_laysOne_75 rfl ?_
        refine a_aload_n X dX8_laysOne_76 rfl ?_
        refine a_getr X lf8_7 (by assumption) rfl (by omega) dX8_laysOne_77 ?_
        refine a_iconst (v := 0) X dX8_laysOne_80 (by decide) ?_
        refine a_iload_n X dX8_laysOne_81 rfl ?_
        refine a_iadd X dX8_laysOne_82 ?_
        obtain ⟨g_83, h⟩ := zIx h
        refine a_iaload X (by assumption) g_83 dX8_laysOne_83 ?_
        refine a_iadd X dX8_laysOne_84 ?_
        refine a_istore_n X dX8_laysOne_85 (by decide) ?_
        exact Zw.to2 (J_86 _ _ _ _ h) rfl rfl rfl
      intro x1_18 x2_18 x3_18 M_18 h
      rw [D_X8_laysOne_18] at h
      refine a_iload_n X dX8_laysOne_18 rfl ?_
      refine a_aload_n X dX8_laysOne_19 rfl ?_
      refine a_geti X lf8_132 (by assumption) rfl dX8_laysOne_20 ?_
      refine a_icmp_ge (tgt := 92) X dX8_laysOne_23 (by decide) (fun h_23 => ?_) (fun h_23 => ?_)
      · replace h := (if_pos h_23).symm.trans h
        refine a_aload_n X dX8_laysOne_92 rfl ?_
        refine a_getr X lf8_64 (by assumption) rfl (by omega) dX8_laysOne_93 ?_
        refine a_iload_n X dX8_laysOne_96 rfl ?_
        refine a_iload_n X dX8_laysOne_97 rfl ?_
        refine a_aload_n X dX8_laysOne_98 rfl ?_
        refine a_getr X lf8_58 (by assumption) rfl (by omega) dX8_laysOne_99 ?_
        refine a_iload_n X dX8_laysOne_102 rfl ?_
        obtain ⟨g_103, h⟩ := zIx h
        refine a_iaload X (by assumption) g_103 dX8_laysOne_103 ?_
        obtain ⟨z_104, h⟩ := zZx h
        refine a_idiv X dX8_laysOne_104 (z_104) ?_
        obtain ⟨g_105, h⟩ := zIx h
        obtain ⟨M_105, f_105, h⟩ := zLtx h
        refine d_iastore X (by assumption) g_105 dX8_laysOne_105 f_105 ?_
        refine a_aload_n X dX8_laysOne_106 rfl ?_
        refine a_getr X lf8_67 (by assumption) rfl (by omega) dX8_laysOne_107 ?_
        refine a_iload_n X dX8_laysOne_110 rfl ?_
        refine a_aload_n X dX8_laysOne_111 rfl ?_
        refine a_getr X lf8_7 (by assumption) rfl (by omega) dX8_laysOne_112 ?_
        refine a_bipush (v := 67) X dX8_laysOne_115 (by decide) ?_
        obtain ⟨g_117, h⟩ := zIx h
        refine a_iaload X (by assumption) g_117 dX8_laysOne_117 ?_
        refine a_if_ne (tgt := 125) X dX8_laysOne_118 (by decide) (fun h_118 => ?_) (fun h_118 => ?_)
        · replace h := (if_neg h_118).symm.trans h
          refine a_aload_n X dX8_laysOne_125 rfl ?_
          refine a_getr X lf8_7 (by assumption) rfl (by omega) dX8_laysOne_126 ?_
          refine a_bipush (v := 67) X dX8_laysOne_129 (by decide) ?_
          obtain ⟨g_131, h⟩ := zIx h
          refine a_iaload X (by assumption) g_131 dX8_laysOne_131 ?_
          refine a_iconst (v := 1) X dX8_laysOne_132 (by decide) ?_
          refine a_icmp_ne (tgt := 147) X dX8_laysOne_133 (by decide) (fun h_133 => ?_) (fun h_133 => ?_)
          · replace h := (if_neg h_133).symm.trans h
            refine a_iconst (v := 1) X dX8_laysOne_147 (by decide) ?_
            refine a_aload_n X dX8_laysOne_148 rfl ?_
            refine a_getr X lf8_64 (by assumption) rfl (by omega) dX8_laysOne_149 ?_
            refine a_iload_n X dX8_laysOne_152 rfl ?_
            obtain ⟨g_153, h⟩ := zIx h
            refine a_iaload X (by assumption) g_153 dX8_laysOne_153 ?_
            refine a_aload_n X dX8_laysOne_154 rfl ?_
            refine a_getr X lf8_64 (by assumption) rfl (by omega) dX8_laysOne_155 ?_
            refine a_iload_n X dX8_laysOne_158 rfl ?_
            obtain ⟨g_159, h⟩ := zIx h
            refine a_iaload X (by assumption) g_159 dX8_laysOne_159 ?_
            refine a_imul X dX8_laysOne_160 ?_
            refine a_iadd X dX8_laysOne_161 ?_
            exact Zw.to2 (J_162 _ _ _ _ _ _ h) rfl rfl rfl
          · replace h := (if_pos h_133).symm.trans h
            refine a_iconst (v := 1) X dX8_laysOne_136 (by decide) ?_
            refine a_aload_n X dX8_laysOne_137 rfl ?_
            refine a_getr X lf8_64 (by assumption) rfl (by omega) dX8_laysOne_138 ?_
            refine a_iload_n X dX8_laysOne_141 rfl ?_
            obtain ⟨g_142, h⟩ := zIx h
            refine a_iaload X (by assumption) g_142 dX8_laysOne_142 ?_
            refine a_iadd X dX8_laysOne_143 ?_
            refine a_goto (tgt := 162) X dX8_laysOne_144 (by decide) ?_
            exact Zw.to2 (J_162 _ _ _ _ _ _ h) rfl rfl rfl
        · replace h := (if_pos h_118).symm.trans h
          refine a_iconst (v := 1) X dX8_laysOne_121 (by decide) ?_
          refine a_goto (tgt := 162) X dX8_laysOne_122 (by decide) ?_
          exact Zw.to2 (J_162 _ _ _ _ _ _ h) rfl rfl rfl
      · replace h := (if_neg h_23).symm.trans h
        refine a_aload_n X dX8_laysOne_26 rfl ?_
        refine a_getr X lf8_49 (by assumption) rfl (by omega) dX8_laysOne_27 ?_
        refine a_iload_n X dX8_laysOne_30 rfl ?_
        obtain ⟨g_31, h⟩ := zIx h
        refine a_iaload X (by assumption) g_31 dX8_laysOne_31 ?_
        refine a_iload_n X dX8_laysOne_32 rfl ?_
        obtain ⟨e_33, f_33, h⟩ := zBx h
        refine a_callSx X dX8_laysOne_33 miX8_has lm8_240 (t_X8_has f_33) rfl rfl (Nat.le_of_ble_eq_true rfl) ⟨by decide, by decide, by decide, by decide⟩ (fun r_33 S_33 q_33 => ?_)
        obtain ⟨rfl, rfl, b_33⟩ := q_33
        refine a_if_ne (tgt := 42) X dX8_laysOne_36 (by decide) (fun h_36 => ?_) (fun h_36 => ?_)
        · replace h := (if_neg h_36).symm.trans h
          refine a_aload_n X dX8_laysOne_42 rfl ?_
          refine a_getr X lf8_58 (by assumption) rfl (by omega) dX8_laysOne_43 ?_
          refine a_iload_n X dX8_laysOne_46 rfl ?_
          refine a_dup2 X dX8_laysOne_47 rfl rfl ?_
          obtain ⟨g_48, h⟩ := zIx h
          refine a_iaload X (by assumption) g_48 dX8_laysOne_48 ?_
          refine a_iconst (v := 1) X dX8_laysOne_49 (by decide) ?_
          refine a_iadd X dX8_laysOne_50 ?_
          obtain ⟨g_51, h⟩ := zIx h
          obtain ⟨M_51, f_51, h⟩ := zLtx h
          refine d_iastore X (by assumption) g_51 dX8_laysOne_51 f_51 ?_
          refine a_aload_n X dX8_laysOne_52 rfl ?_
          refine a_getr X lf8_61 (by assumption) rfl (by omega) dX8_laysOne_53 ?_
          refine a_iload_n X dX8_laysOne_56 rfl ?_
          refine a_dup2 X dX8_laysOne_57 rfl rfl ?_
          obtain ⟨g_58, h⟩ := zIx h
          refine a_iaload X (by assumption) g_58 dX8_laysOne_58 ?_
          refine a_aload_n X dX8_laysOne_59 rfl ?_
          refine a_getr X lf8_22 (by assumption) rfl (by omega) dX8_laysOne_60 ?_
          refine a_iload_n X dX8_laysOne_63 rfl ?_
          obtain ⟨g_64, h⟩ := zIx h
          refine a_baload X (by assumption) g_64 dX8_laysOne_64 ?_
          refine a_if_eq (tgt := 72) X dX8_laysOne_65 (by decide) (fun h_65 => ?_) (fun h_65 => ?_)
          · replace h := (if_pos h_65).symm.trans h
            refine a_iconst (v := 0) X dX8_laysOne_72 (by decide) ?_
            exact Zw.to2 (J_73 _ _ _ _ _ _ _ (by first | exact Or.inl rfl | exact Or.inr rfl | assumption) h) rfl rfl rfl
          · replace h := (if_neg h_65).symm.trans h
            refine a_iconst (v := 1) X dX8_laysOne_68 (by decide) ?_
            refine a_goto (tgt := 73) X dX8_laysOne_69 (by decide) ?_
            exact Zw.to2 (J_73 _ _ _ _ _ _ _ (by first | exact Or.inl rfl | exact Or.inr rfl | assumption) h) rfl rfl rfl
        · replace h := (if_pos h_36).symm.trans h
          refine a_goto (tgt := 86) X dX8_laysOne_39 (by decide) ?_
          exact Zw.to2 (J_86 _ _ _ _ h) rfl rfl rfl
  have H_18 : ∀ (x1_18 : Int32) (x2_18 : Int32) (x3_18 : Int32) (M_18 : zMt), D_X8_laysOne_18 P zFu x1_18 x2_18 x3_18 M_18 = some r → Zw p l e { frames := 1, cells := 0, slots := 0, locals := 80 * (1) } s m args below meth c G b 4 (MQ below (zQ G b FQ) args s 0 0 (fun q : Nat => b ≤ q)) 0 0 18 [some (.ref (P)), some (.int x1_18), some (.int x2_18), some (.int x3_18)] [] (L, M_18, N) := L_18 zFu
  unfold D_X8_laysOne at h
  refine a_aload_n X dX8_laysOne_0 rfl ?_
  refine a_getr X lf8_58 (by assumption) rfl (by omega) dX8_laysOne_1 ?_
  refine a_iload_n X dX8_laysOne_4 rfl ?_
  refine a_iconst (v := 0) X dX8_laysOne_5 (by decide) ?_
  obtain ⟨g_6, h⟩ := zIx h
  obtain ⟨M_6, f_6, h⟩ := zLtx h
  refine d_iastore X (by assumption) g_6 dX8_laysOne_6 f_6 ?_
  refine a_aload_n X dX8_laysOne_7 rfl ?_
  refine a_getr X lf8_61 (by assumption) rfl (by omega) dX8_laysOne_8 ?_
  refine a_iload_n X dX8_laysOne_11 rfl ?_
  refine a_iconst (v := 0) X dX8_laysOne_12 (by decide) ?_
  obtain ⟨g_13, h⟩ := zIx h
  obtain ⟨M_13, f_13, h⟩ := zLtx h
  refine d_iastore X (by assumption) g_13 dX8_laysOne_13 f_13 ?_
  refine a_iconst (v := 0) X dX8_laysOne_14 (by decide) ?_
  refine a_istore_n X dX8_laysOne_15 (by decide) ?_
  refine a_iconst (v := 0) X dX8_laysOne_16 (by decide) ?_
  refine a_istore_n X dX8_laysOne_17 (by decide) ?_
  exact Zw.to2 (H_18 _ _ _ _ h) rfl rfl rfl
noncomputable def D_X8_laysApplicants_198 (P : Nat) : Nat → Int32 → zMt → Option (zMt)
  | 0, _, _ => none
  | n + 1, x1_198, M_198 =>
    if (M_198 P 33) ≤ x1_198 then
      some (M_198)
    else
      zB (D_X8_laysOne P x1_198 M_198) fun e_208 =>
      (D_X8_laysApplicants_198 P n) (x1_198 + 1) e_208
noncomputable def D_X8_laysApplicants_147 (P : Nat) (k86 : Int32 → zMt → Option (zMt)) (k109 : Int32 → Int32 → zMt → Option (zMt)) (x1_147 : Int32) (x2_147 : Int32) (y1_147 : Int32) (y2_147 : Int32) (y3_147 : Int32) (M_147 : zMt) : Option (zMt) :=
  zI y1_147 10 <|
  zLt (zu M_147 (P + 11) y1_147.toNatClampNeg (y2_147 ||| y3_147)) fun M_148 =>
  k109 x1_147 (x2_147 + 1) M_148
noncomputable def D_X8_laysApplicants_109 (P : Nat) (k86 : Int32 → zMt → Option (zMt)) : Nat → Int32 → Int32 → zMt → Option (zMt)
  | 0, _, _, _ => none
  | n + 1, x1_109, x2_109, M_109 =>
    if (M_109 P 8) ≤ x2_109 then
      zI (M_109 P 33) 10 <|
      zLt (zu M_109 (P + 12) (M_109 P 33).toNatClampNeg x1_109) fun M_164 =>
      zI (M_164 P 33) 10 <|
      zLt (zu M_164 (P + 13) (M_164 P 33).toNatClampNeg ((50 : Int32) + ((3 : Int32) * x1_109))) fun M_179 =>
      zLt (zu M_179 P 33 ((M_179 P 33) + (1 : Int32))) fun M_187 =>
      k86 (x1_109 + 1) M_187
    else
      zI (M_109 P 33) 10 <|
      zI ((10 : Int32) + x2_109) 82 <|
      if (M_109 (P + 1) ((10 : Int32) + x2_109).toNatClampNeg) = x1_109 then
        D_X8_laysApplicants_147 P k86 (D_X8_laysApplicants_109 P k86 n) x1_109 x2_109 (M_109 P 33) (M_109 (P + 11) (M_109 P 33).toNatClampNeg) ((1 : Int32) <<< (x2_109 &&& 31)) M_109
      else
        D_X8_laysApplicants_147 P k86 (D_X8_laysApplicants_109 P k86 n) x1_109 x2_109 (M_109 P 33) (M_109 (P + 11) (M_109 P 33).toNatClampNeg) (0 : Int32) M_109
noncomputable def D_X8_laysApplicants_86 (P : Nat) : Nat → Int32 → zMt → Option (zMt)
  | 0, _, _ => none
  | n + 1, x1_86, M_86 =>
    zI (70 : Int32) 82 <|
    if (M_86 (P + 1) (70 : Int32).toNatClampNeg) ≤ x1_86 then
      D_X8_laysApplicants_198 P zFu (0 : Int32) M_86
    else
      zI (M_86 P 33) 10 <|
      zLt (zu M_86 (P + 11) (M_86 P 33).toNatClampNeg (0 : Int32)) fun M_106 =>
      D_X8_laysApplicants_109 P (D_X8_laysApplicants_86 P n) zFu x1_86 (0 : Int32) M_106
noncomputable def D_X8_laysApplicants_78 (P : Nat) (k7 : Int32 → zMt → Option (zMt)) (x1_78 : Int32) (M_78 : zMt) : Option (zMt) :=
  k7 (x1_78 + 1) M_78
noncomputable def D_X8_laysApplicants_7 (P : Nat) : Nat → Int32 → zMt → Option (zMt)
  | 0, _, _ => none
  | n + 1, x1_7, M_7 =>
    if (M_7 P 8) ≤ x1_7 then
      D_X8_laysApplicants_86 P zFu (0 : Int32) M_7
    else
      zI ((10 : Int32) + x1_7) 82 <|
      if (M_7 (P + 1) ((10 : Int32) + x1_7).toNatClampNeg) = (-1 : Int32) then
        zI (M_7 P 33) 10 <|
        zLt (zu M_7 (P + 11) (M_7 P 33).toNatClampNeg ((1 : Int32) <<< (x1_7 &&& 31))) fun M_42 =>
        zI (M_42 P 33) 10 <|
        zLt (zu M_42 (P + 12) (M_42 P 33).toNatClampNeg (-1 : Int32)) fun M_52 =>
        zI (M_52 P 33) 10 <|
        zLt (zu M_52 (P + 13) (M_52 P 33).toNatClampNeg ((20 : Int32) + ((3 : Int32) * x1_7))) fun M_67 =>
        zLt (zu M_67 P 33 ((M_67 P 33) + (1 : Int32))) fun M_75 =>
        D_X8_laysApplicants_78 P (D_X8_laysApplicants_7 P n) x1_7 M_75
      else
        D_X8_laysApplicants_78 P (D_X8_laysApplicants_7 P n) x1_7 M_7
noncomputable def D_X8_laysApplicants (P : Nat) (M : zMt) : Option (zMt) :=
  zLt (zu M P 33 (0 : Int32)) fun M_2 =>
  D_X8_laysApplicants_7 P zFu (0 : Int32) M_2
set_option maxRecDepth 100000 in
set_option maxHeartbeats 4000000 in
theorem t_X8_laysApplicants {l : Launch} {G : zG} {b : Nat} {L : List zC} {M : zMt} {N : zNt} {P : Nat}  (hP : LX8 L P) {r : zMt} (h : D_X8_laysApplicants P M = some r) : zM l G b yX8_laysApplicants cX8_laysApplicants 3 none 2 0 0 [.ref P] (L, M, N) (fun r2 z => r2 = none ∧ z = (L, r, N)) := by
  refine zM.of miX8_laysApplicants (Nat.le_of_ble_eq_true rfl) ?_
  intro p e s m args below meth c X hr hname
  generalize hF : ((fun r2 z => r2 = none ∧ z = (L, r, N)) : Option Value → zS → Prop) = FQ
  change Zw p l e { frames := 2, cells := 0, slots := 0, locals := 80 * (2) } s m args below meth c G b 3 (MQ below (zQ G b FQ) args s 0 0 (fun q : Nat => b ≤ q)) 0 0 0 [some (.ref P), none, none] [] (L, M, N)
  obtain ⟨p_lt, p_o, p_s, p_read, p_aside, p_kept, p_guest, p_readGuest, p_tape, p_unitName, p_hunterName, p_partyName, p_bits, p_partyOf, p_choiceAt, p_sizes, p_guestMany, p_pointsOf, p_ticketsOf, p_ord, p_given, p_roundOf, p_tags, p_guestTags, p_places, p_sumAt, p_sumFirst, p_sumRound, p_sumBoth, p_sumTags, p_isEnd, p_newPoints, p_inRow, p_out⟩ := id hP
  have L_198 : ∀ u : Nat, ∀ (x1_198 : Int32) (x2_198 : Option Value) (M_198 : zMt), D_X8_laysApplicants_198 P u x1_198 M_198 = some r → Zw p l e { frames := 2, cells := 0, slots := 0, locals := 80 * (2) } s m args below meth c G b 3 (MQ below (zQ G b FQ) args s 0 0 (fun q : Nat => b ≤ q)) 0 0 198 [some (.ref (P)), some (.int x1_198), x2_198] [] (L, M_198, N) := by
    intro u
    induction u with
    | zero => intro x1_198 x2_198 M_198 h; cases (show none = some r from h)
    | succ u_198 ih_198 =>
      intro x1_198 x2_198 M_198 h
      rw [D_X8_laysApplicants_198] at h
      refine a_iload_n X dX8_laysApplicants_198 rfl ?_
      refine a_aload_n X dX8_laysApplicants_199 rfl ?_
      refine a_geti X lf8_275 (by assumption) rfl dX8_laysApplicants_200 ?_
      refine a_icmp_ge (tgt := 217) X dX8_laysApplicants_203 (by decide) (fun h_203 => ?_) (fun h_203 => ?_)
      · replace h := (if_pos h_203).symm.trans h
        refine a_vret X hr dX8_laysApplicants_217 ⟨by decide, by decide⟩ ?_
        subst hF
        rw [← Option.some.inj h]
        exact ⟨rfl, rfl⟩
      · replace h := (if_neg h_203).symm.trans h
        refine a_aload_n X dX8_laysApplicants_206 rfl ?_
        refine a_iload_n X dX8_laysApplicants_207 rfl ?_
        obtain ⟨e_208, f_208, h⟩ := zBx h
        refine a_callVu X dX8_laysApplicants_208 miX8_laysOne lm8_278 (t_X8_laysOne (by assumption) f_208) (by assumption) rfl rfl rfl (Nat.le_of_ble_eq_true rfl) ⟨by decide, by decide, by decide, by decide⟩ ?_
        refine a_iinc (v := x1_198 + 1) X dX8_laysApplicants_211 (by decide) rfl zi_1 ?_
        refine a_goto (tgt := 198) X dX8_laysApplicants_214 (by decide) ?_
        exact Zw.to2 (ih_198 _ _ _ h) rfl rfl rfl
  have H_198 : ∀ (x1_198 : Int32) (x2_198 : Option Value) (M_198 : zMt), D_X8_laysApplicants_198 P zFu x1_198 M_198 = some r → Zw p l e { frames := 2, cells := 0, slots := 0, locals := 80 * (2) } s m args below meth c G b 3 (MQ below (zQ G b FQ) args s 0 0 (fun q : Nat => b ≤ q)) 0 0 198 [some (.ref (P)), some (.int x1_198), x2_198] [] (L, M_198, N) := L_198 zFu
  have L_86 : ∀ u : Nat, ∀ (x1_86 : Int32) (x2_86 : Option Value) (M_86 : zMt), D_X8_laysApplicants_86 P u x1_86 M_86 = some r → Zw p l e { frames := 2, cells := 0, slots := 0, locals := 80 * (2) } s m args below meth c G b 3 (MQ below (zQ G b FQ) args s 0 0 (fun q : Nat => b ≤ q)) 0 0 86 [some (.ref (P)), some (.int x1_86), x2_86] [] (L, M_86, N) := by
    intro u
    induction u with
    | zero => intro x1_86 x2_86 M_86 h; cases (show none = some r from h)
    | succ u_86 ih_86 =>
      have L_109 : ∀ u : Nat, ∀ (x1_109 : Int32) (x2_109 : Int32) (M_109 : zMt), D_X8_laysApplicants_109 P (D_X8_laysApplicants_86 P u_86) u x1_109 x2_109 M_109 = some r → Zw p l e { frames := 2, cells := 0, slots := 0, locals := 80 * (2) } s m args below meth c G b 3 (MQ below (zQ G b FQ) args s 0 0 (fun q : Nat => b ≤ q)) 0 0 109 [some (.ref (P)), some (.int x1_109), some (.int x2_109)] [] (L, M_109, N) := by
        intro u
        induction u with
        | zero => intro x1_109 x2_109 M_109 h; cases (show none = some r from h)
        | succ u_109 ih_109 =>
          have J_147 : ∀ (x1_147 : Int32) (x2_147 : Int32) (y1_147 : Int32) (y2_147 : Int32) (y3_147 : Int32) (M_147 : zMt), D_X8_laysApplicants_147 P (D_X8_laysApplicants_86 P u_86) (D_X8_laysApplicants_109 P (D_X8_laysApplicants_86 P u_86) u_109) x1_147 x2_147 y1_147 y2_147 y3_147 M_147 = some r → Zw p l e { frames := 2, cells := 0, slots := 0, locals := 80 * (2) } s m args below meth c G b 3 (MQ below (zQ G b FQ) args s 0 0 (fun q : Nat => b ≤ q)) 0 0 147 [some (.ref (P)), some (.int x1_147), some (.int x2_147)] [.int y3_147, .int y2_147, .int y1_147, .ref (P + 11)] (L, M_147, N) := by
            intro x1_147 x2_147 y1_147 y2_147 y3_147 M_147 h
            unfold D_X8_laysApplicants_147 at h
            refine a_ior X dX8_laysApplicants_147 ?_
            obtain ⟨g_148, h⟩ := zIx h
            obtain ⟨M_148, f_148, h⟩ := zLtx h
            refine d_iastore X (by assumption) g_148 dX8_laysApplicants_148 f_148 ?_
            refine a_iinc (v := x2_147 + 1) X dX8_laysApplicants_149 (by decide) rfl zi_1 ?_
            refine a_goto (tgt := 109) X dX8_laysApplicants_152 (by decide) ?_
            exact Zw.to2 (ih_109 _ _ _ h) rfl rfl rfl
          intro x1_109 x2_109 M_109 h
          rw [D_X8_laysApplicants_109] at h
          refine a_iload_n X dX8_laysApplicants_109 rfl ?_
          refine a_aload_n X dX8_laysApplicants_110 rfl ?_
          refine a_geti X lf8_132 (by assumption) rfl dX8_laysApplicants_111 ?_
          refine a_icmp_ge (tgt := 155) X dX8_laysApplicants_114 (by decide) (fun h_114 => ?_) (fun h_114 => ?_)
          · replace h := (if_pos h_114).symm.trans h
            refine a_aload_n X dX8_laysApplicants_155 rfl ?_
            refine a_getr X lf8_52 (by assumption) rfl (by omega) dX8_laysApplicants_156 ?_
            refine a_aload_n X dX8_laysApplicants_159 rfl ?_
            refine a_geti X lf8_275 (by assumption) rfl dX8_laysApplicants_160 ?_
            refine a_iload_n X dX8_laysApplicants_163 rfl ?_
            obtain ⟨g_164, h⟩ := zIx h
            obtain ⟨M_164, f_164, h⟩ := zLtx h
            refine d_iastore X (by assumption) g_164 dX8_laysApplicants_164 f_164 ?_
            refine a_aload_n X dX8_laysApplicants_165 rfl ?_
            refine a_getr X lf8_55 (by assumption) rfl (by omega) dX8_laysApplicants_166 ?_
            refine a_aload_n X dX8_laysApplicants_169 rfl ?_
            refine a_geti X lf8_275 (by assumption) rfl dX8_laysApplicants_170 ?_
            refine a_bipush (v := 50) X dX8_laysApplicants_173 (by decide) ?_
            refine a_iconst (v := 3) X dX8_laysApplicants_175 (by decide) ?_
            refine a_iload_n X dX8_laysApplicants_176 rfl ?_
            refine a_imul X dX8_laysApplicants_177 ?_
            refine a_iadd X dX8_laysApplicants_178 ?_
            obtain ⟨g_179, h⟩ := zIx h
            obtain ⟨M_179, f_179, h⟩ := zLtx h
            refine d_iastore X (by assumption) g_179 dX8_laysApplicants_179 f_179 ?_
            refine a_aload_n X dX8_laysApplicants_180 rfl ?_
            refine a_dup X dX8_laysApplicants_181 rfl ?_
            refine a_geti X lf8_275 (by assumption) rfl dX8_laysApplicants_182 ?_
            refine a_iconst (v := 1) X dX8_laysApplicants_185 (by decide) ?_
            refine a_iadd X dX8_laysApplicants_186 ?_
            obtain ⟨M_187, f_187, h⟩ := zLtx h
            refine d_puti X lf8_275 (by assumption) rfl dX8_laysApplicants_187 f_187 ?_
            refine a_iinc (v := x1_109 + 1) X dX8_laysApplicants_190 (by decide) rfl zi_1 ?_
            refine a_goto (tgt := 86) X dX8_laysApplicants_193 (by decide) ?_
            exact Zw.to2 (ih_86 _ _ _ h) rfl rfl rfl
          · replace h := (if_neg h_114).symm.trans h
            refine a_aload_n X dX8_laysApplicants_117 rfl ?_
            refine a_getr X lf8_49 (by assumption) rfl (by omega) dX8_laysApplicants_118 ?_
            refine a_aload_n X dX8_laysApplicants_121 rfl ?_
            refine a_geti X lf8_275 (by assumption) rfl dX8_laysApplicants_122 ?_
            refine a_dup2 X dX8_laysApplicants_125 rfl rfl ?_
            obtain ⟨g_126, h⟩ := zIx h
            refine a_iaload X (by assumption) g_126 dX8_laysApplicants_126 ?_
            refine a_aload_n X dX8_laysApplicants_127 rfl ?_
            refine a_getr X lf8_7 (by assumption) rfl (by omega) dX8_laysApplicants_128 ?_
            refine a_bipush (v := 10) X dX8_laysApplicants_131 (by decide) ?_
            refine a_iload_n X dX8_laysApplicants_133 rfl ?_
            refine a_iadd X dX8_laysApplicants_134 ?_
            obtain ⟨g_135, h⟩ := zIx h
            refine a_iaload X (by assumption) g_135 dX8_laysApplicants_135 ?_
            refine a_iload_n X dX8_laysApplicants_136 rfl ?_
            refine a_icmp_ne (tgt := 146) X dX8_laysApplicants_137 (by decide) (fun h_137 => ?_) (fun h_137 => ?_)
            · replace h := (if_neg h_137).symm.trans h
              refine a_iconst (v := 0) X dX8_laysApplicants_146 (by decide) ?_
              exact Zw.to2 (J_147 _ _ _ _ _ _ h) rfl rfl rfl
            · replace h := (if_pos h_137).symm.trans h
              refine a_iconst (v := 1) X dX8_laysApplicants_140 (by decide) ?_
              refine a_iload_n X dX8_laysApplicants_141 rfl ?_
              refine a_ishl X dX8_laysApplicants_142 ?_
              refine a_goto (tgt := 147) X dX8_laysApplicants_143 (by decide) ?_
              exact Zw.to2 (J_147 _ _ _ _ _ _ h) rfl rfl rfl
      have H_109 : ∀ (x1_109 : Int32) (x2_109 : Int32) (M_109 : zMt), D_X8_laysApplicants_109 P (D_X8_laysApplicants_86 P u_86) zFu x1_109 x2_109 M_109 = some r → Zw p l e { frames := 2, cells := 0, slots := 0, locals := 80 * (2) } s m args below meth c G b 3 (MQ below (zQ G b FQ) args s 0 0 (fun q : Nat => b ≤ q)) 0 0 109 [some (.ref (P)), some (.int x1_109), some (.int x2_109)] [] (L, M_109, N) := L_109 zFu
      intro x1_86 x2_86 M_86 h
      rw [D_X8_laysApplicants_86] at h
      refine a_iload_n X dX8_laysApplicants_86 rfl ?_
      refine a_aload_n X dX8_laysApplicants_87 rfl ?_
      refine a_getr X lf8_7 (by assumption) rfl (by omega) dX8_laysApplicants_88 ?_
      refine a_bipush (v := 70) X dX8_laysApplicants_91 (by decide) ?_
      obtain ⟨g_93, h⟩ := zIx h
      refine a_iaload X (by assumption) g_93 dX8_laysApplicants_93 ?_
      refine a_icmp_ge (tgt := 196) X dX8_laysApplicants_94 (by decide) (fun h_94 => ?_) (fun h_94 => ?_)
      · replace h := (if_pos h_94).symm.trans h
        refine a_iconst (v := 0) X dX8_laysApplicants_196 (by decide) ?_
        refine a_istore_n X dX8_laysApplicants_197 (by decide) ?_
        exact Zw.to2 (H_198 _ _ _ h) rfl rfl rfl
      · replace h := (if_neg h_94).symm.trans h
        refine a_aload_n X dX8_laysApplicants_97 rfl ?_
        refine a_getr X lf8_49 (by assumption) rfl (by omega) dX8_laysApplicants_98 ?_
        refine a_aload_n X dX8_laysApplicants_101 rfl ?_
        refine a_geti X lf8_275 (by assumption) rfl dX8_laysApplicants_102 ?_
        refine a_iconst (v := 0) X dX8_laysApplicants_105 (by decide) ?_
        obtain ⟨g_106, h⟩ := zIx h
        obtain ⟨M_106, f_106, h⟩ := zLtx h
        refine d_iastore X (by assumption) g_106 dX8_laysApplicants_106 f_106 ?_
        refine a_iconst (v := 0) X dX8_laysApplicants_107 (by decide) ?_
        refine a_istore_n X dX8_laysApplicants_108 (by decide) ?_
        exact Zw.to2 (H_109 _ _ _ h) rfl rfl rfl
  have H_86 : ∀ (x1_86 : Int32) (x2_86 : Option Value) (M_86 : zMt), D_X8_laysApplicants_86 P zFu x1_86 M_86 = some r → Zw p l e { frames := 2, cells := 0, slots := 0, locals := 80 * (2) } s m args below meth c G b 3 (MQ below (zQ G b FQ) args s 0 0 (fun q : Nat => b ≤ q)) 0 0 86 [some (.ref (P)), some (.int x1_86), x2_86] [] (L, M_86, N) := L_86 zFu
  have L_7 : ∀ u : Nat, ∀ (x1_7 : Int32) (x2_7 : Option Value) (M_7 : zMt), D_X8_laysApplicants_7 P u x1_7 M_7 = some r → Zw p l e { frames := 2, cells := 0, slots := 0, locals := 80 * (2) } s m args below meth c G b 3 (MQ below (zQ G b FQ) args s 0 0 (fun q : Nat => b ≤ q)) 0 0 7 [some (.ref (P)), some (.int x1_7), x2_7] [] (L, M_7, N) := by
    intro u
    induction u with
    | zero => intro x1_7 x2_7 M_7 h; cases (show none = some r from h)
    | succ u_7 ih_7 =>
      have J_78 : ∀ (x1_78 : Int32) (x2_78 : Option Value) (M_78 : zMt), D_X8_laysApplicants_78 P (D_X8_laysApplicants_7 P u_7) x1_78 M_78 = some r → Zw p l e { frames := 2, cells := 0, slots := 0, locals := 80 * (2) } s m args below meth c G b 3 (MQ below (zQ G b FQ) args s 0 0 (fun q : Nat => b ≤ q)) 0 0 78 [some (.ref (P)), some (.int x1_78), x2_78] [] (L, M_78, N) := by
        intro x1_78 x2_78 M_78 h
        unfold D_X8_laysApplicants_78 at h
        refine a_iinc (v := x1_78 + 1) X dX8_laysApplicants_78 (by decide) rfl zi_1 ?_
        refine a_goto (tgt := 7) X dX8_laysApplicants_81 (by decide) ?_
        exact Zw.to2 (ih_7 _ _ _ h) rfl rfl rfl
      intro x1_7 x2_7 M_7 h
      rw [D_X8_laysApplicants_7] at h
      refine a_iload_n X dX8_laysApplicants_7 rfl ?_
      refine a_aload_n X dX8_laysApplicants_8 rfl ?_
      refine a_geti X lf8_132 (by assumption) rfl dX8_laysApplicants_9 ?_
      refine a_icmp_ge (tgt := 84) X dX8_laysApplicants_12 (by decide) (fun h_12 => ?_) (fun h_12 => ?_)
      · replace h := (if_pos h_12).symm.trans h
        refine a_iconst (v := 0) X dX8_laysApplicants_84 (by decide) ?_
        refine a_istore_n X dX8_laysApplicants_85 (by decide) ?_
        exact Zw.to2 (H_86 _ _ _ h) rfl rfl rfl
      · replace h := (if_neg h_12).symm.trans h
        refine a_aload_n X dX8_laysApplicants_15 rfl ?_
        refine a_getr X lf8_7 (by assumption) rfl (by omega) dX8_laysApplicants_16 ?_
        refine a_bipush (v := 10) X dX8_laysApplicants_19 (by decide) ?_
        refine a_iload_n X dX8_laysApplicants_21 rfl ?_
        refine a_iadd X dX8_laysApplicants_22 ?_
        obtain ⟨g_23, h⟩ := zIx h
        refine a_iaload X (by assumption) g_23 dX8_laysApplicants_23 ?_
        refine a_iconst (v := -1) X dX8_laysApplicants_24 (by decide) ?_
        refine a_icmp_eq (tgt := 31) X dX8_laysApplicants_25 (by decide) (fun h_25 => ?_) (fun h_25 => ?_)
        · replace h := (if_pos h_25).symm.trans h
          refine a_aload_n X dX8_laysApplicants_31 rfl ?_
          refine a_getr X lf8_49 (by assumption) rfl (by omega) dX8_laysApplicants_32 ?_
          refine a_aload_n X dX8_laysApplicants_35 rfl ?_
          refine a_geti X lf8_275 (by assumption) rfl dX8_laysApplicants_36 ?_
          refine a_iconst (v := 1) X dX8_laysApplicants_39 (by decide) ?_
          refine a_iload_n X dX8_laysApplicants_40 rfl ?_
          refine a_ishl X dX8_laysApplicants_41 ?_
          obtain ⟨g_42, h⟩ := zIx h
          obtain ⟨M_42, f_42, h⟩ := zLtx h
          refine d_iastore X (by assumption) g_42 dX8_laysApplicants_42 f_42 ?_
          refine a_aload_n X dX8_laysApplicants_43 rfl ?_
          refine a_getr X lf8_52 (by assumption) rfl (by omega) dX8_laysApplicants_44 ?_
          refine a_aload_n X dX8_laysApplicants_47 rfl ?_
          refine a_geti X lf8_275 (by assumption) rfl dX8_laysApplicants_48 ?_
          refine a_iconst (v := -1) X dX8_laysApplicants_51 (by decide) ?_
          obtain ⟨g_52, h⟩ := zIx h
          obtain ⟨M_52, f_52, h⟩ := zLtx h
          refine d_iastore X (by assumption) g_52 dX8_laysApplicants_52 f_52 ?_
          refine a_aload_n X dX8_laysApplicants_53 rfl ?_
          refine a_getr X lf8_55 (by assumption) rfl (by omega) dX8_laysApplicants_54 ?_
          refine a_aload_n X dX8_laysApplicants_57 rfl ?_
          refine a_geti X lf8_275 (by assumption) rfl dX8_laysApplicants_58 ?_
          refine a_bipush (v := 20) X dX8_laysApplicants_61 (by decide) ?_
          refine a_iconst (v := 3) X dX8_laysApplicants_63 (by decide) ?_
          refine a_iload_n X dX8_laysApplicants_64 rfl ?_
          refine a_imul X dX8_laysApplicants_65 ?_
          refine a_iadd X dX8_laysApplicants_66 ?_
          obtain ⟨g_67, h⟩ := zIx h
          obtain ⟨M_67, f_67, h⟩ := zLtx h
          refine d_iastore X (by assumption) g_67 dX8_laysApplicants_67 f_67 ?_
          refine a_aload_n X dX8_laysApplicants_68 rfl ?_
          refine a_dup X dX8_laysApplicants_69 rfl ?_
          refine a_geti X lf8_275 (by assumption) rfl dX8_laysApplicants_70 ?_
          refine a_iconst (v := 1) X dX8_laysApplicants_73 (by decide) ?_
          refine a_iadd X dX8_laysApplicants_74 ?_
          obtain ⟨M_75, f_75, h⟩ := zLtx h
          refine d_puti X lf8_275 (by assumption) rfl dX8_laysApplicants_75 f_75 ?_
          exact Zw.to2 (J_78 _ _ _ h) rfl rfl rfl
        · replace h := (if_neg h_25).symm.trans h
          refine a_goto (tgt := 78) X dX8_laysApplicants_28 (by decide) ?_
          exact Zw.to2 (J_78 _ _ _ h) rfl rfl rfl
  have H_7 : ∀ (x1_7 : Int32) (x2_7 : Option Value) (M_7 : zMt), D_X8_laysApplicants_7 P zFu x1_7 M_7 = some r → Zw p l e { frames := 2, cells := 0, slots := 0, locals := 80 * (2) } s m args below meth c G b 3 (MQ below (zQ G b FQ) args s 0 0 (fun q : Nat => b ≤ q)) 0 0 7 [some (.ref (P)), some (.int x1_7), x2_7] [] (L, M_7, N) := L_7 zFu
  unfold D_X8_laysApplicants at h
  refine a_aload_n X dX8_laysApplicants_0 rfl ?_
  refine a_iconst (v := 0) X dX8_laysApplicants_1 (by decide) ?_
  obtain ⟨M_2, f_2, h⟩ := zLtx h
  refine d_puti X lf8_275 (by assumption) rfl dX8_laysApplicants_2 f_2 ?_
  refine a_iconst (v := 0) X dX8_laysApplicants_5 (by decide) ?_
  refine a_istore_n X dX8_laysApplicants_6 (by decide) ?_
  exact Zw.to2 (H_7 _ _ _ h) rfl rfl rfl
noncomputable def D_X8_isApplicant (P : Nat) (v0 : Int32) (M : zMt) : Option (Int32 × zMt) :=
  zB (D_X8_laysApplicants P M) fun e_1 =>
  zB (D_X8_isFrom (Int32.toInt64 v0) (0 : Int64) (Int32.toInt64 ((e_1 P 33) - (1 : Int32)))) fun e_14 =>
  some (e_14, e_1)
set_option maxRecDepth 100000 in
set_option maxHeartbeats 4000000 in
theorem t_X8_isApplicant {l : Launch} {G : zG} {b : Nat} {L : List zC} {M : zMt} {N : zNt} {P : Nat} {v0 : Int32} (hP : LX8 L P) {r : Int32 × zMt} (h : D_X8_isApplicant P v0 M = some r) : zM l G b yX8_isApplicant cX8_isApplicant 2 (some .boolean) 3 0 0 [.ref P, .int v0] (L, M, N) (fun r2 z => r2 = some (.int r.1) ∧ z = (L, r.2, N) ∧ (r.1 = 0 ∨ r.1 = 1)) := by
  refine zM.of miX8_isApplicant (Nat.le_of_ble_eq_true rfl) ?_
  intro p e s m args below meth c X hr hname
  generalize hF : ((fun r2 z => r2 = some (.int r.1) ∧ z = (L, r.2, N) ∧ (r.1 = 0 ∨ r.1 = 1)) : Option Value → zS → Prop) = FQ
  change Zw p l e { frames := 3, cells := 0, slots := 0, locals := 80 * (3) } s m args below meth c G b 2 (MQ below (zQ G b FQ) args s 0 0 (fun q : Nat => b ≤ q)) 0 0 0 [some (.ref P), some (.int v0)] [] (L, M, N)
  obtain ⟨p_lt, p_o, p_s, p_read, p_aside, p_kept, p_guest, p_readGuest, p_tape, p_unitName, p_hunterName, p_partyName, p_bits, p_partyOf, p_choiceAt, p_sizes, p_guestMany, p_pointsOf, p_ticketsOf, p_ord, p_given, p_roundOf, p_tags, p_guestTags, p_places, p_sumAt, p_sumFirst, p_sumRound, p_sumBoth, p_sumTags, p_isEnd, p_newPoints, p_inRow, p_out⟩ := id hP
  unfold D_X8_isApplicant at h
  refine a_aload_n X dX8_isApplicant_0 rfl ?_
  obtain ⟨e_1, f_1, h⟩ := zBx h
  refine a_callVu X dX8_isApplicant_1 miX8_laysApplicants lm8_281 (t_X8_laysApplicants (by assumption) f_1) (by assumption) rfl rfl rfl (Nat.le_of_ble_eq_true rfl) ⟨by decide, by decide, by decide, by decide⟩ ?_
  refine a_iload_n X dX8_isApplicant_4 rfl ?_
  refine a_i2l X dX8_isApplicant_5 ?_
  refine a_lconst (v := 0) X dX8_isApplicant_6 (by decide) ?_
  refine a_aload_n X dX8_isApplicant_7 rfl ?_
  refine a_geti X lf8_275 (by assumption) rfl dX8_isApplicant_8 ?_
  refine a_iconst (v := 1) X dX8_isApplicant_11 (by decide) ?_
  refine a_isub X dX8_isApplicant_12 ?_
  refine a_i2l X dX8_isApplicant_13 ?_
  obtain ⟨e_14, f_14, h⟩ := zBx h
  refine a_callSx X dX8_isApplicant_14 miX8_isFrom lm8_128 (t_X8_isFrom f_14) rfl rfl (Nat.le_of_ble_eq_true rfl) ⟨by decide, by decide, by decide, by decide⟩ (fun r_14 S_14 q_14 => ?_)
  obtain ⟨rfl, rfl, b_14⟩ := q_14
  refine a_zret X (by first | exact Or.inl rfl | exact Or.inr rfl | assumption) hr dX8_isApplicant_17 ⟨by decide, by decide⟩ ?_
  subst hF
  rw [← Option.some.inj h]
  exact ⟨rfl, rfl, (by first | exact Or.inl rfl | exact Or.inr rfl | assumption)⟩
noncomputable def D_X8_choiceOf_22 (P : Nat) (M : zMt) (y0_22 : Int32) : Option (Int32) :=
  some (y0_22)
noncomputable def D_X8_choiceOf (P : Nat) (M : zMt) (v0 : Int32) (v1 : Int32) : Option (Int32) :=
  if (3 : Int32) ≤ v1 then
    D_X8_choiceOf_22 P M (-1 : Int32)
  else
    zI v0 10 <|
    zI ((M (P + 13) v0.toNatClampNeg) + v1) 82 <|
    D_X8_choiceOf_22 P M (M (P + 1) ((M (P + 13) v0.toNatClampNeg) + v1).toNatClampNeg)
set_option maxRecDepth 100000 in
set_option maxHeartbeats 4000000 in
theorem t_X8_choiceOf {l : Launch} {G : zG} {b : Nat} {L : List zC} {M : zMt} {N : zNt} {P : Nat} {v0 : Int32} {v1 : Int32} (hP : LX8 L P) {r : Int32} (h : D_X8_choiceOf P M v0 v1 = some r) : zM l G b yX8_choiceOf cX8_choiceOf 3 (some .int) 0 0 0 [.ref P, .int v0, .int v1] (L, M, N) (fun r2 z => r2 = some (.int r) ∧ z = (L, M, N)) := by
  refine zM.of miX8_choiceOf (Nat.le_of_ble_eq_true rfl) ?_
  intro p e s m args below meth c X hr hname
  generalize hF : ((fun r2 z => r2 = some (.int r) ∧ z = (L, M, N)) : Option Value → zS → Prop) = FQ
  change Zw p l e { frames := 0, cells := 0, slots := 0, locals := 80 * (0) } s m args below meth c G b 3 (MQ below (zQ G b FQ) args s 0 0 (fun q : Nat => b ≤ q)) 0 0 0 [some (.ref P), some (.int v0), some (.int v1)] [] (L, M, N)
  obtain ⟨p_lt, p_o, p_s, p_read, p_aside, p_kept, p_guest, p_readGuest, p_tape, p_unitName, p_hunterName, p_partyName, p_bits, p_partyOf, p_choiceAt, p_sizes, p_guestMany, p_pointsOf, p_ticketsOf, p_ord, p_given, p_roundOf, p_tags, p_guestTags, p_places, p_sumAt, p_sumFirst, p_sumRound, p_sumBoth, p_sumTags, p_isEnd, p_newPoints, p_inRow, p_out⟩ := id hP
  have J_22 : ∀ (x1_22 : Int32) (x2_22 : Int32) (y0_22 : Int32), D_X8_choiceOf_22 P M y0_22 = some r → Zw p l e { frames := 0, cells := 0, slots := 0, locals := 80 * (0) } s m args below meth c G b 3 (MQ below (zQ G b FQ) args s 0 0 (fun q : Nat => b ≤ q)) 0 0 22 [some (.ref (P)), some (.int x1_22), some (.int x2_22)] [.int y0_22] (L, M, N) := by
    intro x1_22 x2_22 y0_22 h
    unfold D_X8_choiceOf_22 at h
    refine a_iret X hr dX8_choiceOf_22 ⟨by decide, by decide⟩ ?_
    subst hF
    rw [← Option.some.inj h]
    exact ⟨rfl, rfl⟩
  unfold D_X8_choiceOf at h
  refine a_iload_n X dX8_choiceOf_0 rfl ?_
  refine a_iconst (v := 3) X dX8_choiceOf_1 (by decide) ?_
  refine a_icmp_ge (tgt := 21) X dX8_choiceOf_2 (by decide) (fun h_2 => ?_) (fun h_2 => ?_)
  · replace h := (if_pos h_2).symm.trans h
    refine a_iconst (v := -1) X dX8_choiceOf_21 (by decide) ?_
    exact Zw.to2 (J_22 _ _ _ h) rfl rfl rfl
  · replace h := (if_neg h_2).symm.trans h
    refine a_aload_n X dX8_choiceOf_5 rfl ?_
    refine a_getr X lf8_7 (by assumption) rfl (by omega) dX8_choiceOf_6 ?_
    refine a_aload_n X dX8_choiceOf_9 rfl ?_
    refine a_getr X lf8_55 (by assumption) rfl (by omega) dX8_choiceOf_10 ?_
    refine a_iload_n X dX8_choiceOf_13 rfl ?_
    obtain ⟨g_14, h⟩ := zIx h
    refine a_iaload X (by assumption) g_14 dX8_choiceOf_14 ?_
    refine a_iload_n X dX8_choiceOf_15 rfl ?_
    refine a_iadd X dX8_choiceOf_16 ?_
    obtain ⟨g_17, h⟩ := zIx h
    refine a_iaload X (by assumption) g_17 dX8_choiceOf_17 ?_
    refine a_goto (tgt := 22) X dX8_choiceOf_18 (by decide) ?_
    exact Zw.to2 (J_22 _ _ _ h) rfl rfl rfl
noncomputable def D_X8_choiceMany_2 (P : Nat) (M : zMt) : Nat → Int32 → Int32 → Option (Int32)
  | 0, _, _ => none
  | n + 1, x1_2, x2_2 =>
    zB (D_X8_choiceOf P M x1_2 x2_2) fun e_5 =>
    if e_5 = (-1 : Int32) then
      some (x2_2)
    else
      (D_X8_choiceMany_2 P M n) x1_2 (x2_2 + 1)
noncomputable def D_X8_choiceMany (P : Nat) (M : zMt) (v0 : Int32) : Option (Int32) :=
  D_X8_choiceMany_2 P M zFu v0 (0 : Int32)
set_option maxRecDepth 100000 in
set_option maxHeartbeats 4000000 in
theorem t_X8_choiceMany {l : Launch} {G : zG} {b : Nat} {L : List zC} {M : zMt} {N : zNt} {P : Nat} {v0 : Int32} (hP : LX8 L P) {r : Int32} (h : D_X8_choiceMany P M v0 = some r) : zM l G b yX8_choiceMany cX8_choiceMany 3 (some .int) 1 0 0 [.ref P, .int v0] (L, M, N) (fun r2 z => r2 = some (.int r) ∧ z = (L, M, N)) := by
  refine zM.of miX8_choiceMany (Nat.le_of_ble_eq_true rfl) ?_
  intro p e s m args below meth c X hr hname
  generalize hF : ((fun r2 z => r2 = some (.int r) ∧ z = (L, M, N)) : Option Value → zS → Prop) = FQ
  change Zw p l e { frames := 1, cells := 0, slots := 0, locals := 80 * (1) } s m args below meth c G b 3 (MQ below (zQ G b FQ) args s 0 0 (fun q : Nat => b ≤ q)) 0 0 0 [some (.ref P), some (.int v0), none] [] (L, M, N)
  obtain ⟨p_lt, p_o, p_s, p_read, p_aside, p_kept, p_guest, p_readGuest, p_tape, p_unitName, p_hunterName, p_partyName, p_bits, p_partyOf, p_choiceAt, p_sizes, p_guestMany, p_pointsOf, p_ticketsOf, p_ord, p_given, p_roundOf, p_tags, p_guestTags, p_places, p_sumAt, p_sumFirst, p_sumRound, p_sumBoth, p_sumTags, p_isEnd, p_newPoints, p_inRow, p_out⟩ := id hP
  have L_2 : ∀ u : Nat, ∀ (x1_2 : Int32) (x2_2 : Int32), D_X8_choiceMany_2 P M u x1_2 x2_2 = some r → Zw p l e { frames := 1, cells := 0, slots := 0, locals := 80 * (1) } s m args below meth c G b 3 (MQ below (zQ G b FQ) args s 0 0 (fun q : Nat => b ≤ q)) 0 0 2 [some (.ref (P)), some (.int x1_2), some (.int x2_2)] [] (L, M, N) := by
    intro u
    induction u with
    | zero => intro x1_2 x2_2 h; cases (show none = some r from h)
    | succ u_2 ih_2 =>
      intro x1_2 x2_2 h
      rw [D_X8_choiceMany_2] at h
      refine a_aload_n X dX8_choiceMany_2 rfl ?_
      refine a_iload_n X dX8_choiceMany_3 rfl ?_
      refine a_iload_n X dX8_choiceMany_4 rfl ?_
      obtain ⟨e_5, f_5, h⟩ := zBx h
      refine a_callVv X dX8_choiceMany_5 miX8_choiceOf lm8_284 (t_X8_choiceOf (by assumption) f_5) (by assumption) rfl rfl rfl (Nat.le_of_ble_eq_true rfl) ⟨by decide, by decide, by decide, by decide⟩ ?_
      refine a_iconst (v := -1) X dX8_choiceMany_8 (by decide) ?_
      refine a_icmp_eq (tgt := 18) X dX8_choiceMany_9 (by decide) (fun h_9 => ?_) (fun h_9 => ?_)
      · replace h := (if_pos h_9).symm.trans h
        refine a_iload_n X dX8_choiceMany_18 rfl ?_
        refine a_iret X hr dX8_choiceMany_19 ⟨by decide, by decide⟩ ?_
        subst hF
        rw [← Option.some.inj h]
        exact ⟨rfl, rfl⟩
      · replace h := (if_neg h_9).symm.trans h
        refine a_iinc (v := x2_2 + 1) X dX8_choiceMany_12 (by decide) rfl zi_1 ?_
        refine a_goto (tgt := 2) X dX8_choiceMany_15 (by decide) ?_
        exact Zw.to2 (ih_2 _ _ h) rfl rfl rfl
  have H_2 : ∀ (x1_2 : Int32) (x2_2 : Int32), D_X8_choiceMany_2 P M zFu x1_2 x2_2 = some r → Zw p l e { frames := 1, cells := 0, slots := 0, locals := 80 * (1) } s m args below meth c G b 3 (MQ below (zQ G b FQ) args s 0 0 (fun q : Nat => b ≤ q)) 0 0 2 [some (.ref (P)), some (.int x1_2), some (.int x2_2)] [] (L, M, N) := L_2 zFu
  unfold D_X8_choiceMany at h
  refine a_iconst (v := 0) X dX8_choiceMany_0 (by decide) ?_
  refine a_istore_n X dX8_choiceMany_1 (by decide) ?_
  exact Zw.to2 (H_2 _ _ h) rfl rfl rfl
noncomputable def D_X8_placeOf_2 (P : Nat) (M : zMt) : Nat → Int32 → Int32 → Int32 → Option (Int32)
  | 0, _, _, _ => none
  | n + 1, x1_2, x2_2, x3_2 =>
    zB (D_X8_choiceMany P M x1_2) fun e_5 =>
    if e_5 ≤ x3_2 then
      some ((-1 : Int32))
    else
      zB (D_X8_choiceOf P M x1_2 x3_2) fun e_14 =>
      if e_14 = x2_2 then
        some (x3_2)
      else
        (D_X8_placeOf_2 P M n) x1_2 x2_2 (x3_2 + 1)
noncomputable def D_X8_placeOf (P : Nat) (M : zMt) (v0 : Int32) (v1 : Int32) : Option (Int32) :=
  D_X8_placeOf_2 P M zFu v0 v1 (0 : Int32)
set_option maxRecDepth 100000 in
set_option maxHeartbeats 4000000 in
theorem t_X8_placeOf {l : Launch} {G : zG} {b : Nat} {L : List zC} {M : zMt} {N : zNt} {P : Nat} {v0 : Int32} {v1 : Int32} (hP : LX8 L P) {r : Int32} (h : D_X8_placeOf P M v0 v1 = some r) : zM l G b yX8_placeOf cX8_placeOf 4 (some .int) 2 0 0 [.ref P, .int v0, .int v1] (L, M, N) (fun r2 z => r2 = some (.int r) ∧ z = (L, M, N)) := by
  refine zM.of miX8_placeOf (Nat.le_of_ble_eq_true rfl) ?_
  intro p e s m args below meth c X hr hname
  generalize hF : ((fun r2 z => r2 = some (.int r) ∧ z = (L, M, N)) : Option Value → zS → Prop) = FQ
  change Zw p l e { frames := 2, cells := 0, slots := 0, locals := 80 * (2) } s m args below meth c G b 4 (MQ below (zQ G b FQ) args s 0 0 (fun q : Nat => b ≤ q)) 0 0 0 [some (.ref P), some (.int v0), some (.int v1), none] [] (L, M, N)
  obtain ⟨p_lt, p_o, p_s, p_read, p_aside, p_kept, p_guest, p_readGuest, p_tape, p_unitName, p_hunterName, p_partyName, p_bits, p_partyOf, p_choiceAt, p_sizes, p_guestMany, p_pointsOf, p_ticketsOf, p_ord, p_given, p_roundOf, p_tags, p_guestTags, p_places, p_sumAt, p_sumFirst, p_sumRound, p_sumBoth, p_sumTags, p_isEnd, p_newPoints, p_inRow, p_out⟩ := id hP
  have L_2 : ∀ u : Nat, ∀ (x1_2 : Int32) (x2_2 : Int32) (x3_2 : Int32), D_X8_placeOf_2 P M u x1_2 x2_2 x3_2 = some r → Zw p l e { frames := 2, cells := 0, slots := 0, locals := 80 * (2) } s m args below meth c G b 4 (MQ below (zQ G b FQ) args s 0 0 (fun q : Nat => b ≤ q)) 0 0 2 [some (.ref (P)), some (.int x1_2), some (.int x2_2), some (.int x3_2)] [] (L, M, N) := by
    intro u
    induction u with
    | zero => intro x1_2 x2_2 x3_2 h; cases (show none = some r from h)
    | succ u_2 ih_2 =>
      intro x1_2 x2_2 x3_2 h
      rw [D_X8_placeOf_2] at h
      refine a_iload_n X dX8_placeOf_2 rfl ?_
      refine a_aload_n X dX8_placeOf_3 rfl ?_
      refine a_iload_n X dX8_placeOf_4 rfl ?_
      obtain ⟨e_5, f_5, h⟩ := zBx h
      refine a_callVv X dX8_placeOf_5 miX8_choiceMany lm8_288 (t_X8_choiceMany (by assumption) f_5) (by assumption) rfl rfl rfl (Nat.le_of_ble_eq_true rfl) ⟨by decide, by decide, by decide, by decide⟩ ?_
      refine a_icmp_ge (tgt := 29) X dX8_placeOf_8 (by decide) (fun h_8 => ?_) (fun h_8 => ?_)
      · replace h := (if_pos h_8).symm.trans h
        refine a_iconst (v := -1) X dX8_placeOf_29 (by decide) ?_
        refine a_iret X hr dX8_placeOf_30 ⟨by decide, by decide⟩ ?_
        subst hF
        rw [← Option.some.inj h]
        exact ⟨rfl, rfl⟩
      · replace h := (if_neg h_8).symm.trans h
        refine a_aload_n X dX8_placeOf_11 rfl ?_
        refine a_iload_n X dX8_placeOf_12 rfl ?_
        refine a_iload_n X dX8_placeOf_13 rfl ?_
        obtain ⟨e_14, f_14, h⟩ := zBx h
        refine a_callVv X dX8_placeOf_14 miX8_choiceOf lm8_284 (t_X8_choiceOf (by assumption) f_14) (by assumption) rfl rfl rfl (Nat.le_of_ble_eq_true rfl) ⟨by decide, by decide, by decide, by decide⟩ ?_
        refine a_iload_n X dX8_placeOf_17 rfl ?_
        refine a_icmp_ne (tgt := 23) X dX8_placeOf_18 (by decide) (fun h_18 => ?_) (fun h_18 => ?_)
        · replace h := (if_neg h_18).symm.trans h
          refine a_iinc (v := x3_2 + 1) X dX8_placeOf_23 (by decide) rfl zi_1 ?_
          refine a_goto (tgt := 2) X dX8_placeOf_26 (by decide) ?_
          exact Zw.to2 (ih_2 _ _ _ h) rfl rfl rfl
        · replace h := (if_pos h_18).symm.trans h
          refine a_iload_n X dX8_placeOf_21 rfl ?_
          refine a_iret X hr dX8_placeOf_22 ⟨by decide, by decide⟩ ?_
          subst hF
          rw [← Option.some.inj h]
          exact ⟨rfl, rfl⟩
  have H_2 : ∀ (x1_2 : Int32) (x2_2 : Int32) (x3_2 : Int32), D_X8_placeOf_2 P M zFu x1_2 x2_2 x3_2 = some r → Zw p l e { frames := 2, cells := 0, slots := 0, locals := 80 * (2) } s m args below meth c G b 4 (MQ below (zQ G b FQ) args s 0 0 (fun q : Nat => b ≤ q)) 0 0 2 [some (.ref (P)), some (.int x1_2), some (.int x2_2), some (.int x3_2)] [] (L, M, N) := L_2 zFu
  unfold D_X8_placeOf at h
  refine a_iconst (v := 0) X dX8_placeOf_0 (by decide) ?_
  refine a_istore_n X dX8_placeOf_1 (by decide) ?_
  exact Zw.to2 (H_2 _ _ _ h) rfl rfl rfl
noncomputable def D_X8_applicantOf_6 (P : Nat) : Nat → Int32 → Int32 → zMt → Option (Int32 × zMt)
  | 0, _, _, _ => none
  | n + 1, x1_6, x2_6, M_6 =>
    zI x2_6 10 <|
    zB (D_X8_has (M_6 (P + 11) x2_6.toNatClampNeg) x1_6) fun e_13 =>
    if e_13 = 0 then
      (D_X8_applicantOf_6 P n) x1_6 (x2_6 + 1) M_6
    else
      some (x2_6, M_6)
noncomputable def D_X8_applicantOf (P : Nat) (v0 : Int32) (M : zMt) : Option (Int32 × zMt) :=
  zB (D_X8_laysApplicants P M) fun e_1 =>
  D_X8_applicantOf_6 P zFu v0 (0 : Int32) e_1
set_option maxRecDepth 100000 in
set_option maxHeartbeats 4000000 in
theorem t_X8_applicantOf {l : Launch} {G : zG} {b : Nat} {L : List zC} {M : zMt} {N : zNt} {P : Nat} {v0 : Int32} (hP : LX8 L P) {r : Int32 × zMt} (h : D_X8_applicantOf P v0 M = some r) : zM l G b yX8_applicantOf cX8_applicantOf 3 (some .int) 3 0 0 [.ref P, .int v0] (L, M, N) (fun r2 z => r2 = some (.int r.1) ∧ z = (L, r.2, N)) := by
  refine zM.of miX8_applicantOf (Nat.le_of_ble_eq_true rfl) ?_
  intro p e s m args below meth c X hr hname
  generalize hF : ((fun r2 z => r2 = some (.int r.1) ∧ z = (L, r.2, N)) : Option Value → zS → Prop) = FQ
  change Zw p l e { frames := 3, cells := 0, slots := 0, locals := 80 * (3) } s m args below meth c G b 3 (MQ below (zQ G b FQ) args s 0 0 (fun q : Nat => b ≤ q)) 0 0 0 [some (.ref P), some (.int v0), none] [] (L, M, N)
  obtain ⟨p_lt, p_o, p_s, p_read, p_aside, p_kept, p_guest, p_readGuest, p_tape, p_unitName, p_hunterName, p_partyName, p_bits, p_partyOf, p_choiceAt, p_sizes, p_guestMany, p_pointsOf, p_ticketsOf, p_ord, p_given, p_roundOf, p_tags, p_guestTags, p_places, p_sumAt, p_sumFirst, p_sumRound, p_sumBoth, p_sumTags, p_isEnd, p_newPoints, p_inRow, p_out⟩ := id hP
  have L_6 : ∀ u : Nat, ∀ (x1_6 : Int32) (x2_6 : Int32) (M_6 : zMt), D_X8_applicantOf_6 P u x1_6 x2_6 M_6 = some r → Zw p l e { frames := 3, cells := 0, slots := 0, locals := 80 * (3) } s m args below meth c G b 3 (MQ below (zQ G b FQ) args s 0 0 (fun q : Nat => b ≤ q)) 0 0 6 [some (.ref (P)), some (.int x1_6), some (.int x2_6)] [] (L, M_6, N) := by
    intro u
    induction u with
    | zero => intro x1_6 x2_6 M_6 h; cases (show none = some r from h)
    | succ u_6 ih_6 =>
      intro x1_6 x2_6 M_6 h
      rw [D_X8_applicantOf_6] at h
      refine a_aload_n X dX8_applicantOf_6 rfl ?_
      refine a_getr X lf8_49 (by assumption) rfl (by omega) dX8_applicantOf_7 ?_
      refine a_iload_n X dX8_applicantOf_10 rfl ?_
      obtain ⟨g_11, h⟩ := zIx h
      refine a_iaload X (by assumption) g_11 dX8_applicantOf_11 ?_
      refine a_iload_n X dX8_applicantOf_12 rfl ?_
      obtain ⟨e_13, f_13, h⟩ := zBx h
      refine a_callSx X dX8_applicantOf_13 miX8_has lm8_240 (t_X8_has f_13) rfl rfl (Nat.le_of_ble_eq_true rfl) ⟨by decide, by decide, by decide, by decide⟩ (fun r_13 S_13 q_13 => ?_)
      obtain ⟨rfl, rfl, b_13⟩ := q_13
      refine a_if_ne (tgt := 25) X dX8_applicantOf_16 (by decide) (fun h_16 => ?_) (fun h_16 => ?_)
      · replace h := (if_neg h_16).symm.trans h
        refine a_iload_n X dX8_applicantOf_25 rfl ?_
        refine a_iret X hr dX8_applicantOf_26 ⟨by decide, by decide⟩ ?_
        subst hF
        rw [← Option.some.inj h]
        exact ⟨rfl, rfl⟩
      · replace h := (if_pos h_16).symm.trans h
        refine a_iinc (v := x2_6 + 1) X dX8_applicantOf_19 (by decide) rfl zi_1 ?_
        refine a_goto (tgt := 6) X dX8_applicantOf_22 (by decide) ?_
        exact Zw.to2 (ih_6 _ _ _ h) rfl rfl rfl
  have H_6 : ∀ (x1_6 : Int32) (x2_6 : Int32) (M_6 : zMt), D_X8_applicantOf_6 P zFu x1_6 x2_6 M_6 = some r → Zw p l e { frames := 3, cells := 0, slots := 0, locals := 80 * (3) } s m args below meth c G b 3 (MQ below (zQ G b FQ) args s 0 0 (fun q : Nat => b ≤ q)) 0 0 6 [some (.ref (P)), some (.int x1_6), some (.int x2_6)] [] (L, M_6, N) := L_6 zFu
  unfold D_X8_applicantOf at h
  refine a_aload_n X dX8_applicantOf_0 rfl ?_
  obtain ⟨e_1, f_1, h⟩ := zBx h
  refine a_callVu X dX8_applicantOf_1 miX8_laysApplicants lm8_281 (t_X8_laysApplicants (by assumption) f_1) (by assumption) rfl rfl rfl (Nat.le_of_ble_eq_true rfl) ⟨by decide, by decide, by decide, by decide⟩ ?_
  refine a_iconst (v := 0) X dX8_applicantOf_4 (by decide) ?_
  refine a_istore_n X dX8_applicantOf_5 (by decide) ?_
  exact Zw.to2 (H_6 _ _ _ h) rfl rfl rfl
noncomputable def D_X8_many_219 (P : Nat) (k196 : Int32 → Int32 → zMt → Option (Int32 × zMt)) (x3_219 : Int32) (y0_219 : Int32) (y1_219 : Int32) (M_219 : zMt) : Option (Int32 × zMt) :=
  k196 (y0_219 + y1_219) (x3_219 + 1) M_219
noncomputable def D_X8_many_196 (P : Nat) : Nat → Int32 → Int32 → zMt → Option (Int32 × zMt)
  | 0, _, _, _ => none
  | n + 1, x2_196, x3_196, M_196 =>
    if (M_196 P 8) ≤ x3_196 then
      zB (D_X8_gives P x2_196 M_196) fun e_229 =>
      some (e_229.1, e_229.2)
    else
      zI x3_196 10 <|
      if (M_196 (P + 5) x3_196.toNatClampNeg) = 0 then
        D_X8_many_219 P (D_X8_many_196 P n) x3_196 x2_196 (0 : Int32) M_196
      else
        D_X8_many_219 P (D_X8_many_196 P n) x3_196 x2_196 (1 : Int32) M_196
noncomputable def D_X8_many_162 (P : Nat) : Nat → Int32 → Int32 → zMt → Option (Int32 × zMt)
  | 0, _, _, _ => none
  | n + 1, x2_162, x3_162, M_162 =>
    if (M_162 P 7) ≤ x3_162 then
      zB (D_X8_gives P x2_162 M_162) fun e_190 =>
      some (e_190.1, e_190.2)
    else
      zI ((62 : Int32) + x3_162) 82 <|
      (D_X8_many_162 P n) (x2_162 + (M_162 (P + 1) ((62 : Int32) + x3_162).toNatClampNeg)) (x3_162 + 1) M_162
noncomputable def D_X8_many (P : Nat) (v0 : Int32) (M : zMt) : Option (Int32 × zMt) :=
  zB (D_X8_laysApplicants P M) fun e_1 =>
  if Int32.toInt v0 = 0 then
    zB (D_X8_gives P (e_1 P 7) e_1) fun e_69 =>
    some (e_69.1, e_69.2)
  else
  if Int32.toInt v0 = 1 then
    zB (D_X8_gives P (e_1 P 8) e_1) fun e_78 =>
    some (e_78.1, e_78.2)
  else
  if Int32.toInt v0 = 2 then
    zI (70 : Int32) 82 <|
    zB (D_X8_gives P (e_1 (P + 1) (70 : Int32).toNatClampNeg) e_1) fun e_90 =>
    some (e_90.1, e_90.2)
  else
  if Int32.toInt v0 = 3 then
    zB (D_X8_gives P (e_1 P 33) e_1) fun e_99 =>
    some (e_99.1, e_99.2)
  else
  if Int32.toInt v0 = 4 then
    zI (67 : Int32) 82 <|
    zB (D_X8_gives P (e_1 (P + 1) (67 : Int32).toNatClampNeg) e_1) fun e_111 =>
    some (e_111.1, e_111.2)
  else
  if Int32.toInt v0 = 5 then
    zI (68 : Int32) 82 <|
    zB (D_X8_gives P (e_1 (P + 1) (68 : Int32).toNatClampNeg) e_1) fun e_123 =>
    some (e_123.1, e_123.2)
  else
  if Int32.toInt v0 = 6 then
    zI (69 : Int32) 82 <|
    zB (D_X8_gives P (e_1 (P + 1) (69 : Int32).toNatClampNeg) e_1) fun e_135 =>
    some (e_135.1, e_135.2)
  else
  if Int32.toInt v0 = 7 then
    zI (71 : Int32) 82 <|
    zB (D_X8_gives P (e_1 (P + 1) (71 : Int32).toNatClampNeg) e_1) fun e_147 =>
    some (e_147.1, e_147.2)
  else
  if Int32.toInt v0 = 8 then
    zB (D_X8_gives P (e_1 P 9) e_1) fun e_156 =>
    some (e_156.1, e_156.2)
  else
  if Int32.toInt v0 = 9 then
    D_X8_many_162 P zFu (0 : Int32) (0 : Int32) e_1
  else
  if Int32.toInt v0 = 10 then
    D_X8_many_196 P zFu (0 : Int32) (0 : Int32) e_1
  else
    zB (D_X8_refuse P (1 : Int32) e_1) fun e_235 =>
    some (e_235.1, e_235.2)
set_option maxRecDepth 100000 in
set_option maxHeartbeats 4000000 in
theorem t_X8_many {l : Launch} {G : zG} {b : Nat} {L : List zC} {M : zMt} {N : zNt} {P : Nat} {v0 : Int32} (hP : LX8 L P) {r : Int32 × zMt} (h : D_X8_many P v0 M = some r) : zM l G b yX8_many cX8_many 4 (some .int) 3 0 0 [.ref P, .int v0] (L, M, N) (fun r2 z => r2 = some (.int r.1) ∧ z = (L, r.2, N)) := by
  refine zM.of miX8_many (Nat.le_of_ble_eq_true rfl) ?_
  intro p e s m args below meth c X hr hname
  generalize hF : ((fun r2 z => r2 = some (.int r.1) ∧ z = (L, r.2, N)) : Option Value → zS → Prop) = FQ
  change Zw p l e { frames := 3, cells := 0, slots := 0, locals := 80 * (3) } s m args below meth c G b 4 (MQ below (zQ G b FQ) args s 0 0 (fun q : Nat => b ≤ q)) 0 0 0 [some (.ref P), some (.int v0), none, none] [] (L, M, N)
  obtain ⟨p_lt, p_o, p_s, p_read, p_aside, p_kept, p_guest, p_readGuest, p_tape, p_unitName, p_hunterName, p_partyName, p_bits, p_partyOf, p_choiceAt, p_sizes, p_guestMany, p_pointsOf, p_ticketsOf, p_ord, p_given, p_roundOf, p_tags, p_guestTags, p_places, p_sumAt, p_sumFirst, p_sumRound, p_sumBoth, p_sumTags, p_isEnd, p_newPoints, p_inRow, p_out⟩ := id hP
  have L_196 : ∀ u : Nat, ∀ (x1_196 : Int32) (x2_196 : Int32) (x3_196 : Int32) (M_196 : zMt), D_X8_many_196 P u x2_196 x3_196 M_196 = some r → Zw p l e { frames := 3, cells := 0, slots := 0, locals := 80 * (3) } s m args below meth c G b 4 (MQ below (zQ G b FQ) args s 0 0 (fun q : Nat => b ≤ q)) 0 0 196 [some (.ref (P)), some (.int x1_196), some (.int x2_196), some (.int x3_196)] [] (L, M_196, N) := by
    intro u
    induction u with
    | zero => intro x1_196 x2_196 x3_196 M_196 h; cases (show none = some r from h)
    | succ u_196 ih_196 =>
      have J_219 : ∀ (x1_219 : Int32) (x2_219 : Int32) (x3_219 : Int32) (y0_219 : Int32) (y1_219 : Int32) (M_219 : zMt), (y1_219 = 0 ∨ y1_219 = 1) → D_X8_many_219 P (D_X8_many_196 P u_196) x3_219 y0_219 y1_219 M_219 = some r → Zw p l e { frames := 3, cells := 0, slots := 0, locals := 80 * (3) } s m args below meth c G b 4 (MQ below (zQ G b FQ) args s 0 0 (fun q : Nat => b ≤ q)) 0 0 219 [some (.ref (P)), some (.int x1_219), some (.int x2_219), some (.int x3_219)] [.int y1_219, .int y0_219] (L, M_219, N) := by
        intro x1_219 x2_219 x3_219 y0_219 y1_219 M_219 fb_y1_219 h
        unfold D_X8_many_219 at h
        refine a_iadd X dX8_many_219 ?_
        refine a_istore_n X dX8_many_220 (by decide) ?_
        refine a_iinc (v := x3_219 + 1) X dX8_many_221 (by decide) rfl zi_1 ?_
        refine a_goto (tgt := 196) X dX8_many_224 (by decide) ?_
        exact Zw.to2 (ih_196 _ _ _ _ h) rfl rfl rfl
      intro x1_196 x2_196 x3_196 M_196 h
      rw [D_X8_many_196] at h
      refine a_iload_n X dX8_many_196 rfl ?_
      refine a_aload_n X dX8_many_197 rfl ?_
      refine a_geti X lf8_132 (by assumption) rfl dX8_many_198 ?_
      refine a_icmp_ge (tgt := 227) X dX8_many_201 (by decide) (fun h_201 => ?_) (fun h_201 => ?_)
      · replace h := (if_pos h_201).symm.trans h
        refine a_aload_n X dX8_many_227 rfl ?_
        refine a_iload_n X dX8_many_228 rfl ?_
        obtain ⟨e_229, f_229, h⟩ := zBx h
        refine a_callVv X dX8_many_229 miX8_gives lm8_272 (t_X8_gives (by assumption) f_229) (by assumption) rfl rfl rfl (Nat.le_of_ble_eq_true rfl) ⟨by decide, by decide, by decide, by decide⟩ ?_
        refine a_iret X hr dX8_many_232 ⟨by decide, by decide⟩ ?_
        subst hF
        rw [← Option.some.inj h]
        exact ⟨rfl, rfl⟩
      · replace h := (if_neg h_201).symm.trans h
        refine a_iload_n X dX8_many_204 rfl ?_
        refine a_aload_n X dX8_many_205 rfl ?_
        refine a_getr X lf8_22 (by assumption) rfl (by omega) dX8_many_206 ?_
        refine a_iload_n X dX8_many_209 rfl ?_
        obtain ⟨g_210, h⟩ := zIx h
        refine a_baload X (by assumption) g_210 dX8_many_210 ?_
        refine a_if_eq (tgt := 218) X dX8_many_211 (by decide) (fun h_211 => ?_) (fun h_211 => ?_)
        · replace h := (if_pos h_211).symm.trans h
          refine a_iconst (v := 0) X dX8_many_218 (by decide) ?_
          exact Zw.to2 (J_219 _ _ _ _ _ _ (by first | exact Or.inl rfl | exact Or.inr rfl | assumption) h) rfl rfl rfl
        · replace h := (if_neg h_211).symm.trans h
          refine a_iconst (v := 1) X dX8_many_214 (by decide) ?_
          refine a_goto (tgt := 219) X dX8_many_215 (by decide) ?_
          exact Zw.to2 (J_219 _ _ _ _ _ _ (by first | exact Or.inl rfl | exact Or.inr rfl | assumption) h) rfl rfl rfl
  have H_196 : ∀ (x1_196 : Int32) (x2_196 : Int32) (x3_196 : Int32) (M_196 : zMt), D_X8_many_196 P zFu x2_196 x3_196 M_196 = some r → Zw p l e { frames := 3, cells := 0, slots := 0, locals := 80 * (3) } s m args below meth c G b 4 (MQ below (zQ G b FQ) args s 0 0 (fun q : Nat => b ≤ q)) 0 0 196 [some (.ref (P)), some (.int x1_196), some (.int x2_196), some (.int x3_196)] [] (L, M_196, N) := L_196 zFu
  have L_162 : ∀ u : Nat, ∀ (x1_162 : Int32) (x2_162 : Int32) (x3_162 : Int32) (M_162 : zMt), D_X8_many_162 P u x2_162 x3_162 M_162 = some r → Zw p l e { frames := 3, cells := 0, slots := 0, locals := 80 * (3) } s m args below meth c G b 4 (MQ below (zQ G b FQ) args s 0 0 (fun q : Nat => b ≤ q)) 0 0 162 [some (.ref (P)), some (.int x1_162), some (.int x2_162), some (.int x3_162)] [] (L, M_162, N) := by
    intro u
    induction u with
    | zero => intro x1_162 x2_162 x3_162 M_162 h; cases (show none = some r from h)
    | succ u_162 ih_162 =>
      intro x1_162 x2_162 x3_162 M_162 h
      rw [D_X8_many_162] at h
      refine a_iload_n X dX8_many_162 rfl ?_
      refine a_aload_n X dX8_many_163 rfl ?_
      refine a_geti X lf8_125 (by assumption) rfl dX8_many_164 ?_
      refine a_icmp_ge (tgt := 188) X dX8_many_167 (by decide) (fun h_167 => ?_) (fun h_167 => ?_)
      · replace h := (if_pos h_167).symm.trans h
        refine a_aload_n X dX8_many_188 rfl ?_
        refine a_iload_n X dX8_many_189 rfl ?_
        obtain ⟨e_190, f_190, h⟩ := zBx h
        refine a_callVv X dX8_many_190 miX8_gives lm8_272 (t_X8_gives (by assumption) f_190) (by assumption) rfl rfl rfl (Nat.le_of_ble_eq_true rfl) ⟨by decide, by decide, by decide, by decide⟩ ?_
        refine a_iret X hr dX8_many_193 ⟨by decide, by decide⟩ ?_
        subst hF
        rw [← Option.some.inj h]
        exact ⟨rfl, rfl⟩
      · replace h := (if_neg h_167).symm.trans h
        refine a_iload_n X dX8_many_170 rfl ?_
        refine a_aload_n X dX8_many_171 rfl ?_
        refine a_getr X lf8_7 (by assumption) rfl (by omega) dX8_many_172 ?_
        refine a_bipush (v := 62) X dX8_many_175 (by decide) ?_
        refine a_iload_n X dX8_many_177 rfl ?_
        refine a_iadd X dX8_many_178 ?_
        obtain ⟨g_179, h⟩ := zIx h
        refine a_iaload X (by assumption) g_179 dX8_many_179 ?_
        refine a_iadd X dX8_many_180 ?_
        refine a_istore_n X dX8_many_181 (by decide) ?_
        refine a_iinc (v := x3_162 + 1) X dX8_many_182 (by decide) rfl zi_1 ?_
        refine a_goto (tgt := 162) X dX8_many_185 (by decide) ?_
        exact Zw.to2 (ih_162 _ _ _ _ h) rfl rfl rfl
  have H_162 : ∀ (x1_162 : Int32) (x2_162 : Int32) (x3_162 : Int32) (M_162 : zMt), D_X8_many_162 P zFu x2_162 x3_162 M_162 = some r → Zw p l e { frames := 3, cells := 0, slots := 0, locals := 80 * (3) } s m args below meth c G b 4 (MQ below (zQ G b FQ) args s 0 0 (fun q : Nat => b ≤ q)) 0 0 162 [some (.ref (P)), some (.int x1_162), some (.int x2_162), some (.int x3_162)] [] (L, M_162, N) := L_162 zFu
  unfold D_X8_many at h
  refine a_aload_n X dX8_many_0 rfl ?_
  obtain ⟨e_1, f_1, h⟩ := zBx h
  refine a_callVu X dX8_many_1 miX8_laysApplicants lm8_281 (t_X8_laysApplicants (by assumption) f_1) (by assumption) rfl rfl rfl (Nat.le_of_ble_eq_true rfl) ⟨by decide, by decide, by decide, by decide⟩ ?_
  refine a_iconst (v := 0) X dX8_many_4 (by decide) ?_
  refine a_istore_n X dX8_many_5 (by decide) ?_
  refine a_iload_n X dX8_many_6 rfl ?_
  refine a_tsw (tg := [64, 73, 82, 94, 103, 115, 127, 139, 151, 160, 194]) (td := 233) X dX8_many_7 (by decide +kernel) (by decide) (by decide) (fun k_7 t_7 ht_7 hx_7 => ?_) (fun hx_7 => ?_)
  · match k_7, ht_7, hx_7 with
    | 0, ht_7, hx_7 =>
      cases ht_7
      replace h := (if_pos (by omega)).symm.trans h
      refine a_aload_n X dX8_many_64 rfl ?_
      refine a_aload_n X dX8_many_65 rfl ?_
      refine a_geti X lf8_125 (by assumption) rfl dX8_many_66 ?_
      obtain ⟨e_69, f_69, h⟩ := zBx h
      refine a_callVv X dX8_many_69 miX8_gives lm8_272 (t_X8_gives (by assumption) f_69) (by assumption) rfl rfl rfl (Nat.le_of_ble_eq_true rfl) ⟨by decide, by decide, by decide, by decide⟩ ?_
      refine a_iret X hr dX8_many_72 ⟨by decide, by decide⟩ ?_
      subst hF
      rw [← Option.some.inj h]
      exact ⟨rfl, rfl⟩
    | 1, ht_7, hx_7 =>
      cases ht_7
      replace h := (if_neg (by omega)).symm.trans h
      replace h := (if_pos (by omega)).symm.trans h
      refine a_aload_n X dX8_many_73 rfl ?_
      refine a_aload_n X dX8_many_74 rfl ?_
      refine a_geti X lf8_132 (by assumption) rfl dX8_many_75 ?_
      obtain ⟨e_78, f_78, h⟩ := zBx h
      refine a_callVv X dX8_many_78 miX8_gives lm8_272 (t_X8_gives (by assumption) f_78) (by assumption) rfl rfl rfl (Nat.le_of_ble_eq_true rfl) ⟨by decide, by decide, by decide, by decide⟩ ?_
      refine a_iret X hr dX8_many_81 ⟨by decide, by decide⟩ ?_
      subst hF
      rw [← Option.some.inj h]
      exact ⟨rfl, rfl⟩
    | 2, ht_7, hx_7 =>
      cases ht_7
      replace h := (if_neg (by omega)).symm.trans h
      replace h := (if_neg (by omega)).symm.trans h
      replace h := (if_pos (by omega)).symm.trans h
      refine a_aload_n X dX8_many_82 rfl ?_
      refine a_aload_n X dX8_many_83 rfl ?_
      refine a_getr X lf8_7 (by assumption) rfl (by omega) dX8_many_84 ?_
      refine a_bipush (v := 70) X dX8_many_87 (by decide) ?_
      obtain ⟨g_89, h⟩ := zIx h
      refine a_iaload X (by assumption) g_89 dX8_many_89 ?_
      obtain ⟨e_90, f_90, h⟩ := zBx h
      refine a_callVv X dX8_many_90 miX8_gives lm8_272 (t_X8_gives (by assumption) f_90) (by assumption) rfl rfl rfl (Nat.le_of_ble_eq_true rfl) ⟨by decide, by decide, by decide, by decide⟩ ?_
      refine a_iret X hr dX8_many_93 ⟨by decide, by decide⟩ ?_
      subst hF
      rw [← Option.some.inj h]
      exact ⟨rfl, rfl⟩
    | 3, ht_7, hx_7 =>
      cases ht_7
      replace h := (if_neg (by omega)).symm.trans h
      replace h := (if_neg (by omega)).symm.trans h
      replace h := (if_neg (by omega)).symm.trans h
      replace h := (if_pos (by omega)).symm.trans h
      refine a_aload_n X dX8_many_94 rfl ?_
      refine a_aload_n X dX8_many_95 rfl ?_
      refine a_geti X lf8_275 (by assumption) rfl dX8_many_96 ?_
      obtain ⟨e_99, f_99, h⟩ := zBx h
      refine a_callVv X dX8_many_99 miX8_gives lm8_272 (t_X8_gives (by assumption) f_99) (by assumption) rfl rfl rfl (Nat.le_of_ble_eq_true rfl) ⟨by decide, by decide, by decide, by decide⟩ ?_
      refine a_iret X hr dX8_many_102 ⟨by decide, by decide⟩ ?_
      subst hF
      rw [← Option.some.inj h]
      exact ⟨rfl, rfl⟩
    | 4, ht_7, hx_7 =>
      cases ht_7
      replace h := (if_neg (by omega)).symm.trans h
      replace h := (if_neg (by omega)).symm.trans h
      replace h := (if_neg (by omega)).symm.trans h
      replace h := (if_neg (by omega)).symm.trans h
      replace h := (if_pos (by omega)).symm.trans h
      refine a_aload_n X dX8_many_103 rfl ?_
      refine a_aload_n X dX8_many_104 rfl ?_
      refine a_getr X lf8_7 (by assumption) rfl (by omega) dX8_many_105 ?_
      refine a_bipush (v := 67) X dX8_many_108 (by decide) ?_
      obtain ⟨g_110, h⟩ := zIx h
      refine a_iaload X (by assumption) g_110 dX8_many_110 ?_
      obtain ⟨e_111, f_111, h⟩ := zBx h
      refine a_callVv X dX8_many_111 miX8_gives lm8_272 (t_X8_gives (by assumption) f_111) (by assumption) rfl rfl rfl (Nat.le_of_ble_eq_true rfl) ⟨by decide, by decide, by decide, by decide⟩ ?_
      refine a_iret X hr dX8_many_114 ⟨by decide, by decide⟩ ?_
      subst hF
      rw [← Option.some.inj h]
      exact ⟨rfl, rfl⟩
    | 5, ht_7, hx_7 =>
      cases ht_7
      replace h := (if_neg (by omega)).symm.trans h
      replace h := (if_neg (by omega)).symm.trans h
      replace h := (if_neg (by omega)).symm.trans h
      replace h := (if_neg (by omega)).symm.trans h
      replace h := (if_neg (by omega)).symm.trans h
      replace h := (if_pos (by omega)).symm.trans h
      refine a_aload_n X dX8_many_115 rfl ?_
      refine a_aload_n X dX8_many_116 rfl ?_
      refine a_getr X lf8_7 (by assumption) rfl (by omega) dX8_many_117 ?_
      refine a_bipush (v := 68) X dX8_many_120 (by decide) ?_
      obtain ⟨g_122, h⟩ := zIx h
      refine a_iaload X (by assumption) g_122 dX8_many_122 ?_
      obtain ⟨e_123, f_123, h⟩ := zBx h
      refine a_callVv X dX8_many_123 miX8_gives lm8_272 (t_X8_gives (by assumption) f_123) (by assumption) rfl rfl rfl (Nat.le_of_ble_eq_true rfl) ⟨by decide, by decide, by decide, by decide⟩ ?_
      refine a_iret X hr dX8_many_126 ⟨by decide, by decide⟩ ?_
      subst hF
      rw [← Option.some.inj h]
      exact ⟨rfl, rfl⟩
    | 6, ht_7, hx_7 =>
      cases ht_7
      replace h := (if_neg (by omega)).symm.trans h
      replace h := (if_neg (by omega)).symm.trans h
      replace h := (if_neg (by omega)).symm.trans h
      replace h := (if_neg (by omega)).symm.trans h
      replace h := (if_neg (by omega)).symm.trans h
      replace h := (if_neg (by omega)).symm.trans h
      replace h := (if_pos (by omega)).symm.trans h
      refine a_aload_n X dX8_many_127 rfl ?_
      refine a_aload_n X dX8_many_128 rfl ?_
      refine a_getr X lf8_7 (by assumption) rfl (by omega) dX8_many_129 ?_
      refine a_bipush (v := 69) X dX8_many_132 (by decide) ?_
      obtain ⟨g_134, h⟩ := zIx h
      refine a_iaload X (by assumption) g_134 dX8_many_134 ?_
      obtain ⟨e_135, f_135, h⟩ := zBx h
      refine a_callVv X dX8_many_135 miX8_gives lm8_272 (t_X8_gives (by assumption) f_135) (by assumption) rfl rfl rfl (Nat.le_of_ble_eq_true rfl) ⟨by decide, by decide, by decide, by decide⟩ ?_
      refine a_iret X hr dX8_many_138 ⟨by decide, by decide⟩ ?_
      subst hF
      rw [← Option.some.inj h]
      exact ⟨rfl, rfl⟩
    | 7, ht_7, hx_7 =>
      cases ht_7
      replace h := (if_neg (by omega)).symm.trans h
      replace h := (if_neg (by omega)).symm.trans h
      replace h := (if_neg (by omega)).symm.trans h
      replace h := (if_neg (by omega)).symm.trans h
      replace h := (if_neg (by omega)).symm.trans h
      replace h := (if_neg (by omega)).symm.trans h
      replace h := (if_neg (by omega)).symm.trans h
      replace h := (if_pos (by omega)).symm.trans h
      refine a_aload_n X dX8_many_139 rfl ?_
      refine a_aload_n X dX8_many_140 rfl ?_
      refine a_getr X lf8_7 (by assumption) rfl (by omega) dX8_many_141 ?_
      refine a_bipush (v := 71) X dX8_many_144 (by decide) ?_
      obtain ⟨g_146, h⟩ := zIx h
      refine a_iaload X (by assumption) g_146 dX8_many_146 ?_
      obtain ⟨e_147, f_147, h⟩ := zBx h
      refine a_callVv X dX8_many_147 miX8_gives lm8_272 (t_X8_gives (by assumption) f_147) (by assumption) rfl rfl rfl (Nat.le_of_ble_eq_true rfl) ⟨by decide, by decide, by decide, by decide⟩ ?_
      refine a_iret X hr dX8_many_150 ⟨by decide, by decide⟩ ?_
      subst hF
      rw [← Option.some.inj h]
      exact ⟨rfl, rfl⟩
    | 8, ht_7, hx_7 =>
      cases ht_7
      replace h := (if_neg (by omega)).symm.trans h
      replace h := (if_neg (by omega)).symm.trans h
      replace h := (if_neg (by omega)).symm.trans h
      replace h := (if_neg (by omega)).symm.trans h
      replace h := (if_neg (by omega)).symm.trans h
      replace h := (if_neg (by omega)).symm.trans h
      replace h := (if_neg (by omega)).symm.trans h
      replace h := (if_neg (by omega)).symm.trans h
      replace h := (if_pos (by omega)).symm.trans h
      refine a_aload_n X dX8_many_151 rfl ?_
      refine a_aload_n X dX8_many_152 rfl ?_
      refine a_geti X lf8_269 (by assumption) rfl dX8_many_153 ?_
      obtain ⟨e_156, f_156, h⟩ := zBx h
      refine a_callVv X dX8_many_156 miX8_gives lm8_272 (t_X8_gives (by assumption) f_156) (by assumption) rfl rfl rfl (Nat.le_of_ble_eq_true rfl) ⟨by decide, by decide, by decide, by decide⟩ ?_
      refine a_iret X hr dX8_many_159 ⟨by decide, by decide⟩ ?_
      subst hF
      rw [← Option.some.inj h]
      exact ⟨rfl, rfl⟩
    | 9, ht_7, hx_7 =>
      cases ht_7
      replace h := (if_neg (by omega)).symm.trans h
      replace h := (if_neg (by omega)).symm.trans h
      replace h := (if_neg (by omega)).symm.trans h
      replace h := (if_neg (by omega)).symm.trans h
      replace h := (if_neg (by omega)).symm.trans h
      replace h := (if_neg (by omega)).symm.trans h
      replace h := (if_neg (by omega)).symm.trans h
      replace h := (if_neg (by omega)).symm.trans h
      replace h := (if_neg (by omega)).symm.trans h
      replace h := (if_pos (by omega)).symm.trans h
      refine a_iconst (v := 0) X dX8_many_160 (by decide) ?_
      refine a_istore_n X dX8_many_161 (by decide) ?_
      exact Zw.to2 (H_162 _ _ _ _ h) rfl rfl rfl
    | 10, ht_7, hx_7 =>
      cases ht_7
      replace h := (if_neg (by omega)).symm.trans h
      replace h := (if_neg (by omega)).symm.trans h
      replace h := (if_neg (by omega)).symm.trans h
      replace h := (if_neg (by omega)).symm.trans h
      replace h := (if_neg (by omega)).symm.trans h
      replace h := (if_neg (by omega)).symm.trans h
      replace h := (if_neg (by omega)).symm.trans h
      replace h := (if_neg (by omega)).symm.trans h
      replace h := (if_neg (by omega)).symm.trans h
      replace h := (if_neg (by omega)).symm.trans h
      replace h := (if_pos (by omega)).symm.trans h
      refine a_iconst (v := 0) X dX8_many_194 (by decide) ?_
      refine a_istore_n X dX8_many_195 (by decide) ?_
      exact Zw.to2 (H_196 _ _ _ _ h) rfl rfl rfl
  · skip
    replace h := (if_neg (by omega)).symm.trans h
    replace h := (if_neg (by omega)).symm.trans h
    replace h := (if_neg (by omega)).symm.trans h
    replace h := (if_neg (by omega)).symm.trans h
    replace h := (if_neg (by omega)).symm.trans h
    replace h := (if_neg (by omega)).symm.trans h
    replace h := (if_neg (by omega)).symm.trans h
    replace h := (if_neg (by omega)).symm.trans h
    replace h := (if_neg (by omega)).symm.trans h
    replace h := (if_neg (by omega)).symm.trans h
    replace h := (if_neg (by omega)).symm.trans h
    refine a_aload_n X dX8_many_233 rfl ?_
    refine a_iconst (v := 1) X dX8_many_234 (by decide) ?_
    obtain ⟨e_235, f_235, h⟩ := zBx h
    refine a_callVv X dX8_many_235 miX8_refuse lm8_263 (t_X8_refuse (by assumption) f_235) (by assumption) rfl rfl rfl (Nat.le_of_ble_eq_true rfl) ⟨by decide, by decide, by decide, by decide⟩ ?_
    refine a_iret X hr dX8_many_238 ⟨by decide, by decide⟩ ?_
    subst hF
    rw [← Option.some.inj h]
    exact ⟨rfl, rfl⟩
