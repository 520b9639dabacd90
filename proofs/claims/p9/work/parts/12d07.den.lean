noncomputable def D_X7_lowest_30  (y0_30 : Int32) : Option (Int32) :=
  some (y0_30)
noncomputable def D_X7_lowest_15  (x3_15 : Int32) (y0_15 : Int32) : Option (Int32) :=
  if x3_15 = 0 then
    D_X7_lowest_30 y0_15
  else
    zZ x3_15 <|
    D_X7_lowest_30 (y0_15 / x3_15)
noncomputable def D_X7_lowest  (v0 : Int32) (v1 : Int32) (v2 : Int32) : Option (Int32) :=
  zB (D_X7_commonDivisor v0 v1) fun e_2 =>
  if v2 = 0 then
    D_X7_lowest_15 e_2 v0
  else
    D_X7_lowest_15 e_2 v1
set_option maxRecDepth 100000 in
set_option maxHeartbeats 4000000 in
theorem t_X7_lowest {l : Launch} {G : zG} {b : Nat} {L : List zC} {M : zMt} {N : zNt}  {v0 : Int32} {v1 : Int32} {v2 : Int32}  {r : Int32} (h : D_X7_lowest v0 v1 v2 = some r) : zM l G b yX7_lowest cX7_lowest 5 (some .int) 1 0 0 [.int v0, .int v1, .int v2] (L, M, N) (fun r2 z => r2 = some (.int r) ∧ z = (L, M, N)) := by
  refine zM.of miX7_lowest (Nat.le_of_ble_eq_true rfl) ?_
  intro p e s m args below meth c X hr hname
  generalize hF : ((fun r2 z => r2 = some (.int r) ∧ z = (L, M, N)) : Option Value → zS → Prop) = FQ
  change Zw p l e { frames := 1, cells := 0, slots := 0, locals := 80 * (1) } s m args below meth c G b 5 (MQ below (zQ G b FQ) args s 0 0 (fun q : Nat => b ≤ q)) 0 0 0 [some (.int v0), some (.int v1), some (.int v2), none, none] [] (L, M, N)
  have J_30 : ∀ (x0_30 : Int32) (x1_30 : Int32) (x2_30 : Int32) (x3_30 : Int32) (x4_30 : Int32) (y0_30 : Int32), D_X7_lowest_30 y0_30 = some r → Zw p l e { frames := 1, cells := 0, slots := 0, locals := 80 * (1) } s m args below meth c G b 5 (MQ below (zQ G b FQ) args s 0 0 (fun q : Nat => b ≤ q)) 0 0 30 [some (.int x0_30), some (.int x1_30), some (.int x2_30), some (.int x3_30), some (.int x4_30)] [.int y0_30] (L, M, N) := by
    intro x0_30 x1_30 x2_30 x3_30 x4_30 y0_30 h
    unfold D_X7_lowest_30 at h
    refine a_iret X hr dX7_lowest_30 ⟨by decide, by decide⟩ ?_
    subst hF
    rw [← Option.some.inj h]
    exact ⟨rfl, rfl⟩
  have J_15 : ∀ (x0_15 : Int32) (x1_15 : Int32) (x2_15 : Int32) (x3_15 : Int32) (x4_15 : Option Value) (y0_15 : Int32), D_X7_lowest_15 x3_15 y0_15 = some r → Zw p l e { frames := 1, cells := 0, slots := 0, locals := 80 * (1) } s m args below meth c G b 5 (MQ below (zQ G b FQ) args s 0 0 (fun q : Nat => b ≤ q)) 0 0 15 [some (.int x0_15), some (.int x1_15), some (.int x2_15), some (.int x3_15), x4_15] [.int y0_15] (L, M, N) := by
    intro x0_15 x1_15 x2_15 x3_15 x4_15 y0_15 h
    unfold D_X7_lowest_15 at h
    refine a_istore X dX7_lowest_15 (by decide) ?_
    refine a_iload_n X dX7_lowest_17 rfl ?_
    refine a_if_ne (tgt := 26) X dX7_lowest_18 (by decide) (fun h_18 => ?_) (fun h_18 => ?_)
    · replace h := (if_neg h_18).symm.trans h
      refine a_iload X dX7_lowest_26 rfl ?_
      refine a_iload_n X dX7_lowest_28 rfl ?_
      obtain ⟨z_29, h⟩ := zZx h
      refine a_idiv X dX7_lowest_29 (z_29) ?_
      exact Zw.to2 (J_30 _ _ _ _ _ _ h) rfl rfl rfl
    · replace h := (if_pos h_18).symm.trans h
      refine a_iload X dX7_lowest_21 rfl ?_
      refine a_goto (tgt := 30) X dX7_lowest_23 (by decide) ?_
      exact Zw.to2 (J_30 _ _ _ _ _ _ h) rfl rfl rfl
  unfold D_X7_lowest at h
  refine a_iload_n X dX7_lowest_0 rfl ?_
  refine a_iload_n X dX7_lowest_1 rfl ?_
  obtain ⟨e_2, f_2, h⟩ := zBx h
  refine a_callSv X dX7_lowest_2 miX7_commonDivisor lm7_416 (t_X7_commonDivisor f_2) rfl rfl (Nat.le_of_ble_eq_true rfl) ⟨by decide, by decide, by decide, by decide⟩ ?_
  refine a_istore_n X dX7_lowest_5 (by decide) ?_
  refine a_iload_n X dX7_lowest_6 rfl ?_
  refine a_if_ne (tgt := 14) X dX7_lowest_7 (by decide) (fun h_7 => ?_) (fun h_7 => ?_)
  · replace h := (if_neg h_7).symm.trans h
    refine a_iload_n X dX7_lowest_14 rfl ?_
    exact Zw.to2 (J_15 _ _ _ _ _ _ h) rfl rfl rfl
  · replace h := (if_pos h_7).symm.trans h
    refine a_iload_n X dX7_lowest_10 rfl ?_
    refine a_goto (tgt := 15) X dX7_lowest_11 (by decide) ?_
    exact Zw.to2 (J_15 _ _ _ _ _ _ h) rfl rfl rfl
noncomputable def D_X7_demand_9 (P : Nat) (M_9 : zMt) : Option (Int32 × zMt) :=
  zB (D_X7_refuse P (1 : Int32) M_9) fun e_11 =>
  some (e_11.1, e_11.2)
noncomputable def D_X7_demand (P : Nat) (v0 : Int32) (v1 : Int32) (M : zMt) : Option (Int32 × zMt) :=
  if v1 < 0 then
    D_X7_demand_9 P M
  else
    if v1 ≤ (1 : Int32) then
      zB (D_X7_isUnit P M v0) fun e_17 =>
      if e_17 = 0 then
        zB (D_X7_refuse P (2 : Int32) M) fun e_25 =>
        some (e_25.1, e_25.2)
      else
        if (zrd 0 (M (P + 18)) 5 v0) = 0 then
          zB (D_X7_refuse P (5 : Int32) M) fun e_45 =>
          some (e_45.1, e_45.2)
        else
          zB (D_X2_firstHunters (P + 91) M v0) fun e_55 =>
          zB (D_X7_lowest e_55 (zrd 0 (M (P + 18)) 5 v0) v1) fun e_70 =>
          zB (D_X7_answer P e_70 M) fun e_73 =>
          some (e_73.1, e_73.2)
    else
      D_X7_demand_9 P M
set_option maxRecDepth 100000 in
set_option maxHeartbeats 4000000 in
theorem t_X7_demand {l : Launch} {G : zG} {b : Nat} {L : List zC} {M : zMt} {N : zNt} {P : Nat} {v0 : Int32} {v1 : Int32} (hP : LX7 L P) {r : Int32 × zMt} (h : D_X7_demand P v0 v1 M = some r) : zM l G b yX7_demand cX7_demand 3 (some .int) 4 0 0 [.ref P, .int v0, .int v1] (L, M, N) (fun r2 z => r2 = some (.int r.1) ∧ z = (L, r.2, N)) := by
  refine zM.of miX7_demand (Nat.le_of_ble_eq_true rfl) ?_
  intro p e s m args below meth c X hr hname
  generalize hF : ((fun r2 z => r2 = some (.int r.1) ∧ z = (L, r.2, N)) : Option Value → zS → Prop) = FQ
  change Zw p l e { frames := 4, cells := 0, slots := 0, locals := 80 * (4) } s m args below meth c G b 3 (MQ below (zQ G b FQ) args s 0 0 (fun q : Nat => b ≤ q)) 0 0 0 [some (.ref P), some (.int v0), some (.int v1)] [] (L, M, N)
  obtain ⟨p_lt, p_o, p_tape, p_out, p_reader, p_list, p_past, p_pool, p_result, p_odds, p_paper, p_trial, p_trialPool, p_trialResult, p_trialOdds⟩ := id hP
  obtain ⟨p_reader_lt, p_reader_o, p_reader_draft, p_reader_text, p_reader_unitNames, p_reader_hunterNames, p_reader_partyNames, p_reader_asked⟩ := id p_reader
  obtain ⟨p_list_lt, p_list_o, p_list_quota, p_list_score, p_list_guest, p_list_party, p_list_wishCount, p_list_wishes, p_list_has⟩ := id p_list
  obtain ⟨p_past_lt, p_past_o, p_past_stood, p_past_stood0, p_past_stood1, p_past_stood2, p_past_stood3, p_past_stood4, p_past_stood5, p_past_stood6, p_past_stood7⟩ := id p_past
  obtain ⟨p_pool_lt, p_pool_o, p_pool_quota, p_pool_preferred, p_pool_forGuests, p_pool_applicantOf, p_pool_size, p_pool_guestCount, p_pool_score, p_pool_tickets, p_pool_bits, p_pool_party, p_pool_wishCount, p_pool_wishes⟩ := id p_pool
  obtain ⟨p_result_lt, p_result_o, p_result_line, p_result_unitOf, p_result_roundOf, p_result_leftTags, p_result_leftGuests, p_result_leftPreferred, p_result_ranked⟩ := id p_result
  obtain ⟨p_odds_lt, p_odds_o, p_odds_sets, p_odds_seen, p_odds_atUnit, p_odds_early, p_odds_result⟩ := id p_odds
  obtain ⟨p_paper_lt, p_paper_o, p_paper_times, p_paper_firstWish, p_paper_dry, p_paper_list, p_paper_pool, p_paper_result⟩ := id p_paper
  obtain ⟨p_trial_lt, p_trial_o, p_trial_quota, p_trial_score, p_trial_guest, p_trial_party, p_trial_wishCount, p_trial_wishes, p_trial_has⟩ := id p_trial
  obtain ⟨p_trialPool_lt, p_trialPool_o, p_trialPool_quota, p_trialPool_preferred, p_trialPool_forGuests, p_trialPool_applicantOf, p_trialPool_size, p_trialPool_guestCount, p_trialPool_score, p_trialPool_tickets, p_trialPool_bits, p_trialPool_party, p_trialPool_wishCount, p_trialPool_wishes⟩ := id p_trialPool
  obtain ⟨p_trialResult_lt, p_trialResult_o, p_trialResult_line, p_trialResult_unitOf, p_trialResult_roundOf, p_trialResult_leftTags, p_trialResult_leftGuests, p_trialResult_leftPreferred, p_trialResult_ranked⟩ := id p_trialResult
  obtain ⟨p_trialOdds_lt, p_trialOdds_o, p_trialOdds_sets, p_trialOdds_seen, p_trialOdds_atUnit, p_trialOdds_early, p_trialOdds_result⟩ := id p_trialOdds
  have J_9 : ∀ (x1_9 : Int32) (x2_9 : Int32) (M_9 : zMt), D_X7_demand_9 P M_9 = some r → Zw p l e { frames := 4, cells := 0, slots := 0, locals := 80 * (4) } s m args below meth c G b 3 (MQ below (zQ G b FQ) args s 0 0 (fun q : Nat => b ≤ q)) 0 0 9 [some (.ref (P)), some (.int x1_9), some (.int x2_9)] [] (L, M_9, N) := by
    intro x1_9 x2_9 M_9 h
    unfold D_X7_demand_9 at h
    refine a_aload_n X dX7_demand_9 rfl ?_
    refine a_iconst (v := 1) X dX7_demand_10 (by decide) ?_
    obtain ⟨e_11, f_11, h⟩ := zBx h
    refine a_callVv X dX7_demand_11 miX7_refuse lm7_102 (t_X7_refuse (by assumption) f_11) (by assumption) rfl rfl rfl (Nat.le_of_ble_eq_true rfl) ⟨by decide, by decide, by decide, by decide⟩ ?_
    refine a_iret X hr dX7_demand_14 ⟨by decide, by decide⟩ ?_
    subst hF
    rw [← Option.some.inj h]
    exact ⟨rfl, rfl⟩
  unfold D_X7_demand at h
  refine a_iload_n X dX7_demand_0 rfl ?_
  refine a_if_lt (tgt := 9) X dX7_demand_1 (by decide) (fun h_1 => ?_) (fun h_1 => ?_)
  · replace h := (if_pos h_1).symm.trans h
    exact Zw.to2 (J_9 _ _ _ h) rfl rfl rfl
  · replace h := (if_neg h_1).symm.trans h
    refine a_iload_n X dX7_demand_4 rfl ?_
    refine a_iconst (v := 1) X dX7_demand_5 (by decide) ?_
    refine a_icmp_le (tgt := 15) X dX7_demand_6 (by decide) (fun h_6 => ?_) (fun h_6 => ?_)
    · replace h := (if_pos h_6).symm.trans h
      refine a_aload_n X dX7_demand_15 rfl ?_
      refine a_iload_n X dX7_demand_16 rfl ?_
      obtain ⟨e_17, f_17, h⟩ := zBx h
      refine a_callVx X dX7_demand_17 miX7_isUnit lm7_188 (t_X7_isUnit (by assumption) f_17) (by assumption) rfl rfl rfl (Nat.le_of_ble_eq_true rfl) ⟨by decide, by decide, by decide, by decide⟩ (fun r_17 S_17 q_17 => ?_)
      obtain ⟨rfl, rfl, b_17⟩ := q_17
      refine a_if_ne (tgt := 29) X dX7_demand_20 (by decide) (fun h_20 => ?_) (fun h_20 => ?_)
      · replace h := (if_neg h_20).symm.trans h
        refine a_aload_n X dX7_demand_29 rfl ?_
        refine a_getr X lf7_26 (by assumption) rfl (by omega) dX7_demand_30 ?_
        refine a_getr X lf7_158 (by assumption) rfl (by omega) dX7_demand_33 ?_
        refine a_iload_n X dX7_demand_36 rfl ?_
        refine a_callSv X dX7_demand_37 miX7_cell lm7_175 (c_cell (by assumption) (by first | decide | assumption)) rfl rfl (Nat.le_of_ble_eq_true rfl) ⟨by decide, by decide, by decide, by decide⟩ ?_
        refine a_if_ne (tgt := 49) X dX7_demand_40 (by decide) (fun h_40 => ?_) (fun h_40 => ?_)
        · replace h := (if_neg h_40).symm.trans h
          refine a_aload_n X dX7_demand_49 rfl ?_
          refine a_aload_n X dX7_demand_50 rfl ?_
          refine a_getr X lf7_40 (by assumption) rfl (by omega) dX7_demand_51 ?_
          refine a_iload_n X dX7_demand_54 rfl ?_
          obtain ⟨e_55, f_55, h⟩ := zBx h
          refine a_callVv X dX7_demand_55 miX2_firstHunters lm7_200 (t_X2_firstHunters (by assumption) f_55) (by assumption) rfl rfl rfl (Nat.le_of_ble_eq_true rfl) ⟨by decide, by decide, by decide, by decide⟩ ?_
          refine a_aload_n X dX7_demand_58 rfl ?_
          refine a_getr X lf7_26 (by assumption) rfl (by omega) dX7_demand_59 ?_
          refine a_getr X lf7_158 (by assumption) rfl (by omega) dX7_demand_62 ?_
          refine a_iload_n X dX7_demand_65 rfl ?_
          refine a_callSv X dX7_demand_66 miX7_cell lm7_175 (c_cell (by assumption) (by first | decide | assumption)) rfl rfl (Nat.le_of_ble_eq_true rfl) ⟨by decide, by decide, by decide, by decide⟩ ?_
          refine a_iload_n X dX7_demand_69 rfl ?_
          obtain ⟨e_70, f_70, h⟩ := zBx h
          refine a_callSv X dX7_demand_70 miX7_lowest lm7_230 (t_X7_lowest f_70) rfl rfl (Nat.le_of_ble_eq_true rfl) ⟨by decide, by decide, by decide, by decide⟩ ?_
          obtain ⟨e_73, f_73, h⟩ := zBx h
          refine a_callVv X dX7_demand_73 miX7_answer lm7_134 (t_X7_answer (by assumption) f_73) (by assumption) rfl rfl rfl (Nat.le_of_ble_eq_true rfl) ⟨by decide, by decide, by decide, by decide⟩ ?_
          refine a_iret X hr dX7_demand_76 ⟨by decide, by decide⟩ ?_
          subst hF
          rw [← Option.some.inj h]
          exact ⟨rfl, rfl⟩
        · replace h := (if_pos h_40).symm.trans h
          refine a_aload_n X dX7_demand_43 rfl ?_
          refine a_iconst (v := 5) X dX7_demand_44 (by decide) ?_
          obtain ⟨e_45, f_45, h⟩ := zBx h
          refine a_callVv X dX7_demand_45 miX7_refuse lm7_102 (t_X7_refuse (by assumption) f_45) (by assumption) rfl rfl rfl (Nat.le_of_ble_eq_true rfl) ⟨by decide, by decide, by decide, by decide⟩ ?_
          refine a_iret X hr dX7_demand_48 ⟨by decide, by decide⟩ ?_
          subst hF
          rw [← Option.some.inj h]
          exact ⟨rfl, rfl⟩
      · replace h := (if_pos h_20).symm.trans h
        refine a_aload_n X dX7_demand_23 rfl ?_
        refine a_iconst (v := 2) X dX7_demand_24 (by decide) ?_
        obtain ⟨e_25, f_25, h⟩ := zBx h
        refine a_callVv X dX7_demand_25 miX7_refuse lm7_102 (t_X7_refuse (by assumption) f_25) (by assumption) rfl rfl rfl (Nat.le_of_ble_eq_true rfl) ⟨by decide, by decide, by decide, by decide⟩ ?_
        refine a_iret X hr dX7_demand_28 ⟨by decide, by decide⟩ ?_
        subst hF
        rw [← Option.some.inj h]
        exact ⟨rfl, rfl⟩
    · replace h := (if_neg h_6).symm.trans h
      exact Zw.to2 (J_9 _ _ _ h) rfl rfl rfl
noncomputable def D_X7_share_9 (P : Nat) (M_9 : zMt) : Option (Int32 × zMt) :=
  zB (D_X7_refuse P (1 : Int32) M_9) fun e_11 =>
  some (e_11.1, e_11.2)
noncomputable def D_X7_share (P : Nat) (v0 : Int32) (v1 : Int32) (M : zMt) : Option (Int32 × zMt) :=
  if v1 < 0 then
    D_X7_share_9 P M
  else
    if v1 ≤ (1 : Int32) then
      zB (D_X7_isApplicant P M v0) fun e_17 =>
      if e_17 = 0 then
        zB (D_X7_refuse P (2 : Int32) M) fun e_25 =>
        some (e_25.1, e_25.2)
      else
        zB (D_X7_lowest (zrd 0 (M (P + 99)) 10 v0) (M (P + 91) 2) v1) fun e_49 =>
        zB (D_X7_answer P e_49 M) fun e_52 =>
        some (e_52.1, e_52.2)
    else
      D_X7_share_9 P M
set_option maxRecDepth 100000 in
set_option maxHeartbeats 4000000 in
theorem t_X7_share {l : Launch} {G : zG} {b : Nat} {L : List zC} {M : zMt} {N : zNt} {P : Nat} {v0 : Int32} {v1 : Int32} (hP : LX7 L P) {r : Int32 × zMt} (h : D_X7_share P v0 v1 M = some r) : zM l G b yX7_share cX7_share 3 (some .int) 2 0 0 [.ref P, .int v0, .int v1] (L, M, N) (fun r2 z => r2 = some (.int r.1) ∧ z = (L, r.2, N)) := by
  refine zM.of miX7_share (Nat.le_of_ble_eq_true rfl) ?_
  intro p e s m args below meth c X hr hname
  generalize hF : ((fun r2 z => r2 = some (.int r.1) ∧ z = (L, r.2, N)) : Option Value → zS → Prop) = FQ
  change Zw p l e { frames := 2, cells := 0, slots := 0, locals := 80 * (2) } s m args below meth c G b 3 (MQ below (zQ G b FQ) args s 0 0 (fun q : Nat => b ≤ q)) 0 0 0 [some (.ref P), some (.int v0), some (.int v1)] [] (L, M, N)
  obtain ⟨p_lt, p_o, p_tape, p_out, p_reader, p_list, p_past, p_pool, p_result, p_odds, p_paper, p_trial, p_trialPool, p_trialResult, p_trialOdds⟩ := id hP
  obtain ⟨p_reader_lt, p_reader_o, p_reader_draft, p_reader_text, p_reader_unitNames, p_reader_hunterNames, p_reader_partyNames, p_reader_asked⟩ := id p_reader
  obtain ⟨p_list_lt, p_list_o, p_list_quota, p_list_score, p_list_guest, p_list_party, p_list_wishCount, p_list_wishes, p_list_has⟩ := id p_list
  obtain ⟨p_past_lt, p_past_o, p_past_stood, p_past_stood0, p_past_stood1, p_past_stood2, p_past_stood3, p_past_stood4, p_past_stood5, p_past_stood6, p_past_stood7⟩ := id p_past
  obtain ⟨p_pool_lt, p_pool_o, p_pool_quota, p_pool_preferred, p_pool_forGuests, p_pool_applicantOf, p_pool_size, p_pool_guestCount, p_pool_score, p_pool_tickets, p_pool_bits, p_pool_party, p_pool_wishCount, p_pool_wishes⟩ := id p_pool
  obtain ⟨p_result_lt, p_result_o, p_result_line, p_result_unitOf, p_result_roundOf, p_result_leftTags, p_result_leftGuests, p_result_leftPreferred, p_result_ranked⟩ := id p_result
  obtain ⟨p_odds_lt, p_odds_o, p_odds_sets, p_odds_seen, p_odds_atUnit, p_odds_early, p_odds_result⟩ := id p_odds
  obtain ⟨p_paper_lt, p_paper_o, p_paper_times, p_paper_firstWish, p_paper_dry, p_paper_list, p_paper_pool, p_paper_result⟩ := id p_paper
  obtain ⟨p_trial_lt, p_trial_o, p_trial_quota, p_trial_score, p_trial_guest, p_trial_party, p_trial_wishCount, p_trial_wishes, p_trial_has⟩ := id p_trial
  obtain ⟨p_trialPool_lt, p_trialPool_o, p_trialPool_quota, p_trialPool_preferred, p_trialPool_forGuests, p_trialPool_applicantOf, p_trialPool_size, p_trialPool_guestCount, p_trialPool_score, p_trialPool_tickets, p_trialPool_bits, p_trialPool_party, p_trialPool_wishCount, p_trialPool_wishes⟩ := id p_trialPool
  obtain ⟨p_trialResult_lt, p_trialResult_o, p_trialResult_line, p_trialResult_unitOf, p_trialResult_roundOf, p_trialResult_leftTags, p_trialResult_leftGuests, p_trialResult_leftPreferred, p_trialResult_ranked⟩ := id p_trialResult
  obtain ⟨p_trialOdds_lt, p_trialOdds_o, p_trialOdds_sets, p_trialOdds_seen, p_trialOdds_atUnit, p_trialOdds_early, p_trialOdds_result⟩ := id p_trialOdds
  have J_9 : ∀ (x1_9 : Int32) (x2_9 : Int32) (M_9 : zMt), D_X7_share_9 P M_9 = some r → Zw p l e { frames := 2, cells := 0, slots := 0, locals := 80 * (2) } s m args below meth c G b 3 (MQ below (zQ G b FQ) args s 0 0 (fun q : Nat => b ≤ q)) 0 0 9 [some (.ref (P)), some (.int x1_9), some (.int x2_9)] [] (L, M_9, N) := by
    intro x1_9 x2_9 M_9 h
    unfold D_X7_share_9 at h
    refine a_aload_n X dX7_share_9 rfl ?_
    refine a_iconst (v := 1) X dX7_share_10 (by decide) ?_
    obtain ⟨e_11, f_11, h⟩ := zBx h
    refine a_callVv X dX7_share_11 miX7_refuse lm7_102 (t_X7_refuse (by assumption) f_11) (by assumption) rfl rfl rfl (Nat.le_of_ble_eq_true rfl) ⟨by decide, by decide, by decide, by decide⟩ ?_
    refine a_iret X hr dX7_share_14 ⟨by decide, by decide⟩ ?_
    subst hF
    rw [← Option.some.inj h]
    exact ⟨rfl, rfl⟩
  unfold D_X7_share at h
  refine a_iload_n X dX7_share_0 rfl ?_
  refine a_if_lt (tgt := 9) X dX7_share_1 (by decide) (fun h_1 => ?_) (fun h_1 => ?_)
  · replace h := (if_pos h_1).symm.trans h
    exact Zw.to2 (J_9 _ _ _ h) rfl rfl rfl
  · replace h := (if_neg h_1).symm.trans h
    refine a_iload_n X dX7_share_4 rfl ?_
    refine a_iconst (v := 1) X dX7_share_5 (by decide) ?_
    refine a_icmp_le (tgt := 15) X dX7_share_6 (by decide) (fun h_6 => ?_) (fun h_6 => ?_)
    · replace h := (if_pos h_6).symm.trans h
      refine a_aload_n X dX7_share_15 rfl ?_
      refine a_iload_n X dX7_share_16 rfl ?_
      obtain ⟨e_17, f_17, h⟩ := zBx h
      refine a_callVx X dX7_share_17 miX7_isApplicant lm7_206 (t_X7_isApplicant (by assumption) f_17) (by assumption) rfl rfl rfl (Nat.le_of_ble_eq_true rfl) ⟨by decide, by decide, by decide, by decide⟩ (fun r_17 S_17 q_17 => ?_)
      obtain ⟨rfl, rfl, b_17⟩ := q_17
      refine a_if_ne (tgt := 29) X dX7_share_20 (by decide) (fun h_20 => ?_) (fun h_20 => ?_)
      · replace h := (if_neg h_20).symm.trans h
        refine a_aload_n X dX7_share_29 rfl ?_
        refine a_aload_n X dX7_share_30 rfl ?_
        refine a_getr X lf7_40 (by assumption) rfl (by omega) dX7_share_31 ?_
        refine a_getr X lf7_216 (by assumption) rfl (by omega) dX7_share_34 ?_
        refine a_iload_n X dX7_share_37 rfl ?_
        refine a_callSv X dX7_share_38 miX7_cell lm7_175 (c_cell (by assumption) (by first | decide | assumption)) rfl rfl (Nat.le_of_ble_eq_true rfl) ⟨by decide, by decide, by decide, by decide⟩ ?_
        refine a_aload_n X dX7_share_41 rfl ?_
        refine a_getr X lf7_40 (by assumption) rfl (by omega) dX7_share_42 ?_
        refine a_geti X lf7_234 (by assumption) rfl dX7_share_45 ?_
        refine a_iload_n X dX7_share_48 rfl ?_
        obtain ⟨e_49, f_49, h⟩ := zBx h
        refine a_callSv X dX7_share_49 miX7_lowest lm7_230 (t_X7_lowest f_49) rfl rfl (Nat.le_of_ble_eq_true rfl) ⟨by decide, by decide, by decide, by decide⟩ ?_
        obtain ⟨e_52, f_52, h⟩ := zBx h
        refine a_callVv X dX7_share_52 miX7_answer lm7_134 (t_X7_answer (by assumption) f_52) (by assumption) rfl rfl rfl (Nat.le_of_ble_eq_true rfl) ⟨by decide, by decide, by decide, by decide⟩ ?_
        refine a_iret X hr dX7_share_55 ⟨by decide, by decide⟩ ?_
        subst hF
        rw [← Option.some.inj h]
        exact ⟨rfl, rfl⟩
      · replace h := (if_pos h_20).symm.trans h
        refine a_aload_n X dX7_share_23 rfl ?_
        refine a_iconst (v := 2) X dX7_share_24 (by decide) ?_
        obtain ⟨e_25, f_25, h⟩ := zBx h
        refine a_callVv X dX7_share_25 miX7_refuse lm7_102 (t_X7_refuse (by assumption) f_25) (by assumption) rfl rfl rfl (Nat.le_of_ble_eq_true rfl) ⟨by decide, by decide, by decide, by decide⟩ ?_
        refine a_iret X hr dX7_share_28 ⟨by decide, by decide⟩ ?_
        subst hF
        rw [← Option.some.inj h]
        exact ⟨rfl, rfl⟩
    · replace h := (if_neg h_6).symm.trans h
      exact Zw.to2 (J_9 _ _ _ h) rfl rfl rfl
noncomputable def D_X7_isSeed_16  (y0_16 : Int32) : Option (Int32) :=
  some (y0_16)
noncomputable def D_X7_isSeed_15   : Option (Int32) :=
  D_X7_isSeed_16 (0 : Int32)
noncomputable def D_X7_isSeed  (v0 : Int32) : Option (Int32) :=
  if v0 < 0 then
    D_X7_isSeed_15
  else
    if (999999999 : Int32) < v0 then
      D_X7_isSeed_15
    else
      D_X7_isSeed_16 (1 : Int32)
set_option maxRecDepth 100000 in
set_option maxHeartbeats 4000000 in
theorem t_X7_isSeed {l : Launch} {G : zG} {b : Nat} {L : List zC} {M : zMt} {N : zNt}  {v0 : Int32}  {r : Int32} (h : D_X7_isSeed v0 = some r) : zM l G b yX7_isSeed cX7_isSeed 1 (some .boolean) 0 0 0 [.int v0] (L, M, N) (fun r2 z => r2 = some (.int r) ∧ z = (L, M, N) ∧ (r = 0 ∨ r = 1)) := by
  refine zM.of miX7_isSeed (Nat.le_of_ble_eq_true rfl) ?_
  intro p e s m args below meth c X hr hname
  generalize hF : ((fun r2 z => r2 = some (.int r) ∧ z = (L, M, N) ∧ (r = 0 ∨ r = 1)) : Option Value → zS → Prop) = FQ
  change Zw p l e { frames := 0, cells := 0, slots := 0, locals := 80 * (0) } s m args below meth c G b 1 (MQ below (zQ G b FQ) args s 0 0 (fun q : Nat => b ≤ q)) 0 0 0 [some (.int v0)] [] (L, M, N)
  have J_16 : ∀ (x0_16 : Int32) (y0_16 : Int32), (y0_16 = 0 ∨ y0_16 = 1) → D_X7_isSeed_16 y0_16 = some r → Zw p l e { frames := 0, cells := 0, slots := 0, locals := 80 * (0) } s m args below meth c G b 1 (MQ below (zQ G b FQ) args s 0 0 (fun q : Nat => b ≤ q)) 0 0 16 [some (.int x0_16)] [.int y0_16] (L, M, N) := by
    intro x0_16 y0_16 fb_y0_16 h
    unfold D_X7_isSeed_16 at h
    refine a_zret X (by first | exact Or.inl rfl | exact Or.inr rfl | assumption) hr dX7_isSeed_16 ⟨by decide, by decide⟩ ?_
    subst hF
    rw [← Option.some.inj h]
    exact ⟨rfl, rfl, (by first | exact Or.inl rfl | exact Or.inr rfl | assumption)⟩
  have J_15 : ∀ (x0_15 : Int32), D_X7_isSeed_15 = some r → Zw p l e { frames := 0, cells := 0, slots := 0, locals := 80 * (0) } s m args below meth c G b 1 (MQ below (zQ G b FQ) args s 0 0 (fun q : Nat => b ≤ q)) 0 0 15 [some (.int x0_15)] [] (L, M, N) := by
    intro x0_15 h
    unfold D_X7_isSeed_15 at h
    refine a_iconst (v := 0) X dX7_isSeed_15 (by decide) ?_
    exact Zw.to2 (J_16 _ _ (by first | exact Or.inl rfl | exact Or.inr rfl | assumption) h) rfl rfl rfl
  unfold D_X7_isSeed at h
  refine a_iload_n X dX7_isSeed_0 rfl ?_
  refine a_if_lt (tgt := 15) X dX7_isSeed_1 (by decide) (fun h_1 => ?_) (fun h_1 => ?_)
  · replace h := (if_pos h_1).symm.trans h
    exact Zw.to2 (J_15 _ h) rfl rfl rfl
  · replace h := (if_neg h_1).symm.trans h
    refine a_iload_n X dX7_isSeed_4 rfl ?_
    refine a_ldcw X dX7_isSeed_5 lk7_395 ?_
    refine a_icmp_gt (tgt := 15) X dX7_isSeed_8 (by decide) (fun h_8 => ?_) (fun h_8 => ?_)
    · replace h := (if_pos h_8).symm.trans h
      exact Zw.to2 (J_15 _ h) rfl rfl rfl
    · replace h := (if_neg h_8).symm.trans h
      refine a_iconst (v := 1) X dX7_isSeed_11 (by decide) ?_
      refine a_goto (tgt := 16) X dX7_isSeed_12 (by decide) ?_
      exact Zw.to2 (J_16 _ _ (by first | exact Or.inl rfl | exact Or.inr rfl | assumption) h) rfl rfl rfl
noncomputable def D_X7_order_11 (P : Nat) (M_11 : zMt) : Option (Int32 × zMt) :=
  zB (D_X7_refuse P (1 : Int32) M_11) fun e_13 =>
  some (e_13.1, e_13.2)
noncomputable def D_X7_order (P : Nat) (v0 : Int32) (v1 : Int32) (M : zMt) : Option (Int32 × zMt) :=
  zB (D_X7_isSeed v0) fun e_1 =>
  if e_1 = 0 then
    D_X7_order_11 P M
  else
    if 0 ≤ v1 then
      if v1 < (M (P + 91) 1) then
        zB (D_X5_lineUp (P + 104) (P + 91) v0 M) fun e_43 =>
        zB (D_X7_answer P (zrd 0 (e_43 (P + 105)) 10 v1) e_43) fun e_58 =>
        some (e_58.1, e_58.2)
      else
        zB (D_X7_refuse P (5 : Int32) M) fun e_30 =>
        some (e_30.1, e_30.2)
    else
      D_X7_order_11 P M
set_option maxRecDepth 100000 in
set_option maxHeartbeats 4000000 in
theorem t_X7_order {l : Launch} {G : zG} {b : Nat} {L : List zC} {M : zMt} {N : zNt} {P : Nat} {v0 : Int32} {v1 : Int32} (hP : LX7 L P) {r : Int32 × zMt} (h : D_X7_order P v0 v1 M = some r) : zM l G b yX7_order cX7_order 3 (some .int) 3 0 0 [.ref P, .int v0, .int v1] (L, M, N) (fun r2 z => r2 = some (.int r.1) ∧ z = (L, r.2, N)) := by
  refine zM.of miX7_order (Nat.le_of_ble_eq_true rfl) ?_
  intro p e s m args below meth c X hr hname
  generalize hF : ((fun r2 z => r2 = some (.int r.1) ∧ z = (L, r.2, N)) : Option Value → zS → Prop) = FQ
  change Zw p l e { frames := 3, cells := 0, slots := 0, locals := 80 * (3) } s m args below meth c G b 3 (MQ below (zQ G b FQ) args s 0 0 (fun q : Nat => b ≤ q)) 0 0 0 [some (.ref P), some (.int v0), some (.int v1)] [] (L, M, N)
  obtain ⟨p_lt, p_o, p_tape, p_out, p_reader, p_list, p_past, p_pool, p_result, p_odds, p_paper, p_trial, p_trialPool, p_trialResult, p_trialOdds⟩ := id hP
  obtain ⟨p_reader_lt, p_reader_o, p_reader_draft, p_reader_text, p_reader_unitNames, p_reader_hunterNames, p_reader_partyNames, p_reader_asked⟩ := id p_reader
  obtain ⟨p_list_lt, p_list_o, p_list_quota, p_list_score, p_list_guest, p_list_party, p_list_wishCount, p_list_wishes, p_list_has⟩ := id p_list
  obtain ⟨p_past_lt, p_past_o, p_past_stood, p_past_stood0, p_past_stood1, p_past_stood2, p_past_stood3, p_past_stood4, p_past_stood5, p_past_stood6, p_past_stood7⟩ := id p_past
  obtain ⟨p_pool_lt, p_pool_o, p_pool_quota, p_pool_preferred, p_pool_forGuests, p_pool_applicantOf, p_pool_size, p_pool_guestCount, p_pool_score, p_pool_tickets, p_pool_bits, p_pool_party, p_pool_wishCount, p_pool_wishes⟩ := id p_pool
  obtain ⟨p_result_lt, p_result_o, p_result_line, p_result_unitOf, p_result_roundOf, p_result_leftTags, p_result_leftGuests, p_result_leftPreferred, p_result_ranked⟩ := id p_result
  obtain ⟨p_odds_lt, p_odds_o, p_odds_sets, p_odds_seen, p_odds_atUnit, p_odds_early, p_odds_result⟩ := id p_odds
  obtain ⟨p_paper_lt, p_paper_o, p_paper_times, p_paper_firstWish, p_paper_dry, p_paper_list, p_paper_pool, p_paper_result⟩ := id p_paper
  obtain ⟨p_trial_lt, p_trial_o, p_trial_quota, p_trial_score, p_trial_guest, p_trial_party, p_trial_wishCount, p_trial_wishes, p_trial_has⟩ := id p_trial
  obtain ⟨p_trialPool_lt, p_trialPool_o, p_trialPool_quota, p_trialPool_preferred, p_trialPool_forGuests, p_trialPool_applicantOf, p_trialPool_size, p_trialPool_guestCount, p_trialPool_score, p_trialPool_tickets, p_trialPool_bits, p_trialPool_party, p_trialPool_wishCount, p_trialPool_wishes⟩ := id p_trialPool
  obtain ⟨p_trialResult_lt, p_trialResult_o, p_trialResult_line, p_trialResult_unitOf, p_trialResult_roundOf, p_trialResult_leftTags, p_trialResult_leftGuests, p_trialResult_leftPreferred, p_trialResult_ranked⟩ := id p_trialResult
  obtain ⟨p_trialOdds_lt, p_trialOdds_o, p_trialOdds_sets, p_trialOdds_seen, p_trialOdds_atUnit, p_trialOdds_early, p_trialOdds_result⟩ := id p_trialOdds
  have J_11 : ∀ (x1_11 : Int32) (x2_11 : Int32) (M_11 : zMt), D_X7_order_11 P M_11 = some r → Zw p l e { frames := 3, cells := 0, slots := 0, locals := 80 * (3) } s m args below meth c G b 3 (MQ below (zQ G b FQ) args s 0 0 (fun q : Nat => b ≤ q)) 0 0 11 [some (.ref (P)), some (.int x1_11), some (.int x2_11)] [] (L, M_11, N) := by
    intro x1_11 x2_11 M_11 h
    unfold D_X7_order_11 at h
    refine a_aload_n X dX7_order_11 rfl ?_
    refine a_iconst (v := 1) X dX7_order_12 (by decide) ?_
    obtain ⟨e_13, f_13, h⟩ := zBx h
    refine a_callVv X dX7_order_13 miX7_refuse lm7_102 (t_X7_refuse (by assumption) f_13) (by assumption) rfl rfl rfl (Nat.le_of_ble_eq_true rfl) ⟨by decide, by decide, by decide, by decide⟩ ?_
    refine a_iret X hr dX7_order_16 ⟨by decide, by decide⟩ ?_
    subst hF
    rw [← Option.some.inj h]
    exact ⟨rfl, rfl⟩
  unfold D_X7_order at h
  refine a_iload_n X dX7_order_0 rfl ?_
  obtain ⟨e_1, f_1, h⟩ := zBx h
  refine a_callSx X dX7_order_1 miX7_isSeed lm7_237 (t_X7_isSeed f_1) rfl rfl (Nat.le_of_ble_eq_true rfl) ⟨by decide, by decide, by decide, by decide⟩ (fun r_1 S_1 q_1 => ?_)
  obtain ⟨rfl, rfl, b_1⟩ := q_1
  refine a_if_eq (tgt := 11) X dX7_order_4 (by decide) (fun h_4 => ?_) (fun h_4 => ?_)
  · replace h := (if_pos h_4).symm.trans h
    exact Zw.to2 (J_11 _ _ _ h) rfl rfl rfl
  · replace h := (if_neg h_4).symm.trans h
    refine a_iload_n X dX7_order_7 rfl ?_
    refine a_if_ge (tgt := 17) X dX7_order_8 (by decide) (fun h_8 => ?_) (fun h_8 => ?_)
    · replace h := (if_pos h_8).symm.trans h
      refine a_iload_n X dX7_order_17 rfl ?_
      refine a_aload_n X dX7_order_18 rfl ?_
      refine a_getr X lf7_40 (by assumption) rfl (by omega) dX7_order_19 ?_
      refine a_geti X lf7_140 (by assumption) rfl dX7_order_22 ?_
      refine a_icmp_lt (tgt := 34) X dX7_order_25 (by decide) (fun h_25 => ?_) (fun h_25 => ?_)
      · replace h := (if_pos h_25).symm.trans h
        refine a_aload_n X dX7_order_34 rfl ?_
        refine a_getr X lf7_47 (by assumption) rfl (by omega) dX7_order_35 ?_
        refine a_aload_n X dX7_order_38 rfl ?_
        refine a_getr X lf7_40 (by assumption) rfl (by omega) dX7_order_39 ?_
        refine a_iload_n X dX7_order_42 rfl ?_
        obtain ⟨e_43, f_43, h⟩ := zBx h
        refine a_callVu X dX7_order_43 miX5_lineUp lm7_240 (t_X5_lineUp (by assumption) (by assumption) f_43) (by assumption) rfl rfl rfl (Nat.le_of_ble_eq_true rfl) ⟨by decide, by decide, by decide, by decide⟩ ?_
        refine a_aload_n X dX7_order_46 rfl ?_
        refine a_aload_n X dX7_order_47 rfl ?_
        refine a_getr X lf7_47 (by assumption) rfl (by omega) dX7_order_48 ?_
        refine a_getr X lf7_244 (by assumption) rfl (by omega) dX7_order_51 ?_
        refine a_iload_n X dX7_order_54 rfl ?_
        refine a_callSv X dX7_order_55 miX7_cell lm7_175 (c_cell (by assumption) (by first | decide | assumption)) rfl rfl (Nat.le_of_ble_eq_true rfl) ⟨by decide, by decide, by decide, by decide⟩ ?_
        obtain ⟨e_58, f_58, h⟩ := zBx h
        refine a_callVv X dX7_order_58 miX7_answer lm7_134 (t_X7_answer (by assumption) f_58) (by assumption) rfl rfl rfl (Nat.le_of_ble_eq_true rfl) ⟨by decide, by decide, by decide, by decide⟩ ?_
        refine a_iret X hr dX7_order_61 ⟨by decide, by decide⟩ ?_
        subst hF
        rw [← Option.some.inj h]
        exact ⟨rfl, rfl⟩
      · replace h := (if_neg h_25).symm.trans h
        refine a_aload_n X dX7_order_28 rfl ?_
        refine a_iconst (v := 5) X dX7_order_29 (by decide) ?_
        obtain ⟨e_30, f_30, h⟩ := zBx h
        refine a_callVv X dX7_order_30 miX7_refuse lm7_102 (t_X7_refuse (by assumption) f_30) (by assumption) rfl rfl rfl (Nat.le_of_ble_eq_true rfl) ⟨by decide, by decide, by decide, by decide⟩ ?_
        refine a_iret X hr dX7_order_33 ⟨by decide, by decide⟩ ?_
        subst hF
        rw [← Option.some.inj h]
        exact ⟨rfl, rfl⟩
    · replace h := (if_neg h_8).symm.trans h
      exact Zw.to2 (J_11 _ _ _ h) rfl rfl rfl
noncomputable def D_X7_drawn_69 (P : Nat) (y0_69 : Int32) (M_69 : zMt) : Option (Int32 × zMt) :=
  some (y0_69, M_69)
noncomputable def D_X7_drawn (P : Nat) (v0 : Int32) (v1 : Int32) (M : zMt) : Option (Int32 × zMt) :=
  zB (D_X7_isSeed v0) fun e_1 =>
  if e_1 = 0 then
    zB (D_X7_refuse P (1 : Int32) M) fun e_9 =>
    some (e_9.1, e_9.2)
  else
    zB (D_X7_isApplicant P M v1) fun e_15 =>
    if e_15 = 0 then
      zB (D_X7_refuse P (2 : Int32) M) fun e_23 =>
      some (e_23.1, e_23.2)
    else
      zB (D_X5_bySeed (P + 104) (P + 91) v0 M) fun e_36 =>
      if (zrd 0 (e_36 (P + 106)) 10 v1) = (-1 : Int32) then
        zB (D_X7_refuse P (5 : Int32) e_36) fun e_58 =>
        D_X7_drawn_69 P e_58.1 e_58.2
      else
        zB (D_X7_answer P (zrd 0 (e_36 (P + 106)) 10 v1) e_36) fun e_66 =>
        D_X7_drawn_69 P e_66.1 e_66.2
set_option maxRecDepth 100000 in
set_option maxHeartbeats 4000000 in
theorem t_X7_drawn {l : Launch} {G : zG} {b : Nat} {L : List zC} {M : zMt} {N : zNt} {P : Nat} {v0 : Int32} {v1 : Int32} (hP : LX7 L P) {r : Int32 × zMt} (h : D_X7_drawn P v0 v1 M = some r) : zM l G b yX7_drawn cX7_drawn 4 (some .int) 5 0 0 [.ref P, .int v0, .int v1] (L, M, N) (fun r2 z => r2 = some (.int r.1) ∧ z = (L, r.2, N)) := by
  refine zM.of miX7_drawn (Nat.le_of_ble_eq_true rfl) ?_
  intro p e s m args below meth c X hr hname
  generalize hF : ((fun r2 z => r2 = some (.int r.1) ∧ z = (L, r.2, N)) : Option Value → zS → Prop) = FQ
  change Zw p l e { frames := 5, cells := 0, slots := 0, locals := 80 * (5) } s m args below meth c G b 4 (MQ below (zQ G b FQ) args s 0 0 (fun q : Nat => b ≤ q)) 0 0 0 [some (.ref P), some (.int v0), some (.int v1), none] [] (L, M, N)
  obtain ⟨p_lt, p_o, p_tape, p_out, p_reader, p_list, p_past, p_pool, p_result, p_odds, p_paper, p_trial, p_trialPool, p_trialResult, p_trialOdds⟩ := id hP
  obtain ⟨p_reader_lt, p_reader_o, p_reader_draft, p_reader_text, p_reader_unitNames, p_reader_hunterNames, p_reader_partyNames, p_reader_asked⟩ := id p_reader
  obtain ⟨p_list_lt, p_list_o, p_list_quota, p_list_score, p_list_guest, p_list_party, p_list_wishCount, p_list_wishes, p_list_has⟩ := id p_list
  obtain ⟨p_past_lt, p_past_o, p_past_stood, p_past_stood0, p_past_stood1, p_past_stood2, p_past_stood3, p_past_stood4, p_past_stood5, p_past_stood6, p_past_stood7⟩ := id p_past
  obtain ⟨p_pool_lt, p_pool_o, p_pool_quota, p_pool_preferred, p_pool_forGuests, p_pool_applicantOf, p_pool_size, p_pool_guestCount, p_pool_score, p_pool_tickets, p_pool_bits, p_pool_party, p_pool_wishCount, p_pool_wishes⟩ := id p_pool
  obtain ⟨p_result_lt, p_result_o, p_result_line, p_result_unitOf, p_result_roundOf, p_result_leftTags, p_result_leftGuests, p_result_leftPreferred, p_result_ranked⟩ := id p_result
  obtain ⟨p_odds_lt, p_odds_o, p_odds_sets, p_odds_seen, p_odds_atUnit, p_odds_early, p_odds_result⟩ := id p_odds
  obtain ⟨p_paper_lt, p_paper_o, p_paper_times, p_paper_firstWish, p_paper_dry, p_paper_list, p_paper_pool, p_paper_result⟩ := id p_paper
  obtain ⟨p_trial_lt, p_trial_o, p_trial_quota, p_trial_score, p_trial_guest, p_trial_party, p_trial_wishCount, p_trial_wishes, p_trial_has⟩ := id p_trial
  obtain ⟨p_trialPool_lt, p_trialPool_o, p_trialPool_quota, p_trialPool_preferred, p_trialPool_forGuests, p_trialPool_applicantOf, p_trialPool_size, p_trialPool_guestCount, p_trialPool_score, p_trialPool_tickets, p_trialPool_bits, p_trialPool_party, p_trialPool_wishCount, p_trialPool_wishes⟩ := id p_trialPool
  obtain ⟨p_trialResult_lt, p_trialResult_o, p_trialResult_line, p_trialResult_unitOf, p_trialResult_roundOf, p_trialResult_leftTags, p_trialResult_leftGuests, p_trialResult_leftPreferred, p_trialResult_ranked⟩ := id p_trialResult
  obtain ⟨p_trialOdds_lt, p_trialOdds_o, p_trialOdds_sets, p_trialOdds_seen, p_trialOdds_atUnit, p_trialOdds_early, p_trialOdds_result⟩ := id p_trialOdds
  have J_69 : ∀ (x1_69 : Int32) (x2_69 : Int32) (x3_69 : Int32) (y0_69 : Int32) (M_69 : zMt), D_X7_drawn_69 P y0_69 M_69 = some r → Zw p l e { frames := 5, cells := 0, slots := 0, locals := 80 * (5) } s m args below meth c G b 4 (MQ below (zQ G b FQ) args s 0 0 (fun q : Nat => b ≤ q)) 0 0 69 [some (.ref (P)), some (.int x1_69), some (.int x2_69), some (.int x3_69)] [.int y0_69] (L, M_69, N) := by
    intro x1_69 x2_69 x3_69 y0_69 M_69 h
    unfold D_X7_drawn_69 at h
    refine a_iret X hr dX7_drawn_69 ⟨by decide, by decide⟩ ?_
    subst hF
    rw [← Option.some.inj h]
    exact ⟨rfl, rfl⟩
  unfold D_X7_drawn at h
  refine a_iload_n X dX7_drawn_0 rfl ?_
  obtain ⟨e_1, f_1, h⟩ := zBx h
  refine a_callSx X dX7_drawn_1 miX7_isSeed lm7_237 (t_X7_isSeed f_1) rfl rfl (Nat.le_of_ble_eq_true rfl) ⟨by decide, by decide, by decide, by decide⟩ (fun r_1 S_1 q_1 => ?_)
  obtain ⟨rfl, rfl, b_1⟩ := q_1
  refine a_if_ne (tgt := 13) X dX7_drawn_4 (by decide) (fun h_4 => ?_) (fun h_4 => ?_)
  · replace h := (if_neg h_4).symm.trans h
    refine a_aload_n X dX7_drawn_13 rfl ?_
    refine a_iload_n X dX7_drawn_14 rfl ?_
    obtain ⟨e_15, f_15, h⟩ := zBx h
    refine a_callVx X dX7_drawn_15 miX7_isApplicant lm7_206 (t_X7_isApplicant (by assumption) f_15) (by assumption) rfl rfl rfl (Nat.le_of_ble_eq_true rfl) ⟨by decide, by decide, by decide, by decide⟩ (fun r_15 S_15 q_15 => ?_)
    obtain ⟨rfl, rfl, b_15⟩ := q_15
    refine a_if_ne (tgt := 27) X dX7_drawn_18 (by decide) (fun h_18 => ?_) (fun h_18 => ?_)
    · replace h := (if_neg h_18).symm.trans h
      refine a_aload_n X dX7_drawn_27 rfl ?_
      refine a_getr X lf7_47 (by assumption) rfl (by omega) dX7_drawn_28 ?_
      refine a_aload_n X dX7_drawn_31 rfl ?_
      refine a_getr X lf7_40 (by assumption) rfl (by omega) dX7_drawn_32 ?_
      refine a_iload_n X dX7_drawn_35 rfl ?_
      obtain ⟨e_36, f_36, h⟩ := zBx h
      refine a_callVu X dX7_drawn_36 miX5_bySeed lm7_247 (t_X5_bySeed (by assumption) (by assumption) f_36) (by assumption) rfl rfl rfl (Nat.le_of_ble_eq_true rfl) ⟨by decide, by decide, by decide, by decide⟩ ?_
      refine a_aload_n X dX7_drawn_39 rfl ?_
      refine a_getr X lf7_47 (by assumption) rfl (by omega) dX7_drawn_40 ?_
      refine a_getr X lf7_250 (by assumption) rfl (by omega) dX7_drawn_43 ?_
      refine a_iload_n X dX7_drawn_46 rfl ?_
      refine a_callSv X dX7_drawn_47 miX7_cell lm7_175 (c_cell (by assumption) (by first | decide | assumption)) rfl rfl (Nat.le_of_ble_eq_true rfl) ⟨by decide, by decide, by decide, by decide⟩ ?_
      refine a_istore_n X dX7_drawn_50 (by decide) ?_
      refine a_iload_n X dX7_drawn_51 rfl ?_
      refine a_iconst (v := -1) X dX7_drawn_52 (by decide) ?_
      refine a_icmp_ne (tgt := 64) X dX7_drawn_53 (by decide) (fun h_53 => ?_) (fun h_53 => ?_)
      · replace h := (if_neg h_53).symm.trans h
        refine a_aload_n X dX7_drawn_64 rfl ?_
        refine a_iload_n X dX7_drawn_65 rfl ?_
        obtain ⟨e_66, f_66, h⟩ := zBx h
        refine a_callVv X dX7_drawn_66 miX7_answer lm7_134 (t_X7_answer (by assumption) f_66) (by assumption) rfl rfl rfl (Nat.le_of_ble_eq_true rfl) ⟨by decide, by decide, by decide, by decide⟩ ?_
        exact Zw.to2 (J_69 _ _ _ _ _ h) rfl rfl rfl
      · replace h := (if_pos h_53).symm.trans h
        refine a_aload_n X dX7_drawn_56 rfl ?_
        refine a_iconst (v := 5) X dX7_drawn_57 (by decide) ?_
        obtain ⟨e_58, f_58, h⟩ := zBx h
        refine a_callVv X dX7_drawn_58 miX7_refuse lm7_102 (t_X7_refuse (by assumption) f_58) (by assumption) rfl rfl rfl (Nat.le_of_ble_eq_true rfl) ⟨by decide, by decide, by decide, by decide⟩ ?_
        refine a_goto (tgt := 69) X dX7_drawn_61 (by decide) ?_
        exact Zw.to2 (J_69 _ _ _ _ _ h) rfl rfl rfl
    · replace h := (if_pos h_18).symm.trans h
      refine a_aload_n X dX7_drawn_21 rfl ?_
      refine a_iconst (v := 2) X dX7_drawn_22 (by decide) ?_
      obtain ⟨e_23, f_23, h⟩ := zBx h
      refine a_callVv X dX7_drawn_23 miX7_refuse lm7_102 (t_X7_refuse (by assumption) f_23) (by assumption) rfl rfl rfl (Nat.le_of_ble_eq_true rfl) ⟨by decide, by decide, by decide, by decide⟩ ?_
      refine a_iret X hr dX7_drawn_26 ⟨by decide, by decide⟩ ?_
      subst hF
      rw [← Option.some.inj h]
      exact ⟨rfl, rfl⟩
  · replace h := (if_pos h_4).symm.trans h
    refine a_aload_n X dX7_drawn_7 rfl ?_
    refine a_iconst (v := 1) X dX7_drawn_8 (by decide) ?_
    obtain ⟨e_9, f_9, h⟩ := zBx h
    refine a_callVv X dX7_drawn_9 miX7_refuse lm7_102 (t_X7_refuse (by assumption) f_9) (by assumption) rfl rfl rfl (Nat.le_of_ble_eq_true rfl) ⟨by decide, by decide, by decide, by decide⟩ ?_
    refine a_iret X hr dX7_drawn_12 ⟨by decide, by decide⟩ ?_
    subst hF
    rw [← Option.some.inj h]
    exact ⟨rfl, rfl⟩
noncomputable def D_X7_round_77 (P : Nat) (y0_77 : Int32) (M_77 : zMt) : Option (Int32 × zMt) :=
  some (y0_77, M_77)
noncomputable def D_X7_round (P : Nat) (v0 : Int32) (v1 : Int32) (M : zMt) : Option (Int32 × zMt) :=
  zB (D_X7_isSeed v0) fun e_1 =>
  if e_1 = 0 then
    zB (D_X7_refuse P (1 : Int32) M) fun e_9 =>
    some (e_9.1, e_9.2)
  else
    zB (D_X7_isApplicant P M v1) fun e_15 =>
    if e_15 = 0 then
      zB (D_X7_refuse P (2 : Int32) M) fun e_23 =>
      some (e_23.1, e_23.2)
    else
      zB (D_X5_bySeed (P + 104) (P + 91) v0 M) fun e_36 =>
      if (zrd 0 (e_36 (P + 106)) 10 v1) = (-1 : Int32) then
        zB (D_X7_refuse P (5 : Int32) e_36) fun e_56 =>
        D_X7_round_77 P e_56.1 e_56.2
      else
        zB (D_X7_answer P (zrd 0 (e_36 (P + 107)) 10 v1) e_36) fun e_74 =>
        D_X7_round_77 P e_74.1 e_74.2
set_option maxRecDepth 100000 in
set_option maxHeartbeats 4000000 in
theorem t_X7_round {l : Launch} {G : zG} {b : Nat} {L : List zC} {M : zMt} {N : zNt} {P : Nat} {v0 : Int32} {v1 : Int32} (hP : LX7 L P) {r : Int32 × zMt} (h : D_X7_round P v0 v1 M = some r) : zM l G b yX7_round cX7_round 3 (some .int) 5 0 0 [.ref P, .int v0, .int v1] (L, M, N) (fun r2 z => r2 = some (.int r.1) ∧ z = (L, r.2, N)) := by
  refine zM.of miX7_round (Nat.le_of_ble_eq_true rfl) ?_
  intro p e s m args below meth c X hr hname
  generalize hF : ((fun r2 z => r2 = some (.int r.1) ∧ z = (L, r.2, N)) : Option Value → zS → Prop) = FQ
  change Zw p l e { frames := 5, cells := 0, slots := 0, locals := 80 * (5) } s m args below meth c G b 3 (MQ below (zQ G b FQ) args s 0 0 (fun q : Nat => b ≤ q)) 0 0 0 [some (.ref P), some (.int v0), some (.int v1)] [] (L, M, N)
  obtain ⟨p_lt, p_o, p_tape, p_out, p_reader, p_list, p_past, p_pool, p_result, p_odds, p_paper, p_trial, p_trialPool, p_trialResult, p_trialOdds⟩ := id hP
  obtain ⟨p_reader_lt, p_reader_o, p_reader_draft, p_reader_text, p_reader_unitNames, p_reader_hunterNames, p_reader_partyNames, p_reader_asked⟩ := id p_reader
  obtain ⟨p_list_lt, p_list_o, p_list_quota, p_list_score, p_list_guest, p_list_party, p_list_wishCount, p_list_wishes, p_list_has⟩ := id p_list
  obtain ⟨p_past_lt, p_past_o, p_past_stood, p_past_stood0, p_past_stood1, p_past_stood2, p_past_stood3, p_past_stood4, p_past_stood5, p_past_stood6, p_past_stood7⟩ := id p_past
  obtain ⟨p_pool_lt, p_pool_o, p_pool_quota, p_pool_preferred, p_pool_forGuests, p_pool_applicantOf, p_pool_size, p_pool_guestCount, p_pool_score, p_pool_tickets, p_pool_bits, p_pool_party, p_pool_wishCount, p_pool_wishes⟩ := id p_pool
  obtain ⟨p_result_lt, p_result_o, p_result_line, p_result_unitOf, p_result_roundOf, p_result_leftTags, p_result_leftGuests, p_result_leftPreferred, p_result_ranked⟩ := id p_result
  obtain ⟨p_odds_lt, p_odds_o, p_odds_sets, p_odds_seen, p_odds_atUnit, p_odds_early, p_odds_result⟩ := id p_odds
  obtain ⟨p_paper_lt, p_paper_o, p_paper_times, p_paper_firstWish, p_paper_dry, p_paper_list, p_paper_pool, p_paper_result⟩ := id p_paper
  obtain ⟨p_trial_lt, p_trial_o, p_trial_quota, p_trial_score, p_trial_guest, p_trial_party, p_trial_wishCount, p_trial_wishes, p_trial_has⟩ := id p_trial
  obtain ⟨p_trialPool_lt, p_trialPool_o, p_trialPool_quota, p_trialPool_preferred, p_trialPool_forGuests, p_trialPool_applicantOf, p_trialPool_size, p_trialPool_guestCount, p_trialPool_score, p_trialPool_tickets, p_trialPool_bits, p_trialPool_party, p_trialPool_wishCount, p_trialPool_wishes⟩ := id p_trialPool
  obtain ⟨p_trialResult_lt, p_trialResult_o, p_trialResult_line, p_trialResult_unitOf, p_trialResult_roundOf, p_trialResult_leftTags, p_trialResult_leftGuests, p_trialResult_leftPreferred, p_trialResult_ranked⟩ := id p_trialResult
  obtain ⟨p_trialOdds_lt, p_trialOdds_o, p_trialOdds_sets, p_trialOdds_seen, p_trialOdds_atUnit, p_trialOdds_early, p_trialOdds_result⟩ := id p_trialOdds
  have J_77 : ∀ (x1_77 : Int32) (x2_77 : Int32) (y0_77 : Int32) (M_77 : zMt), D_X7_round_77 P y0_77 M_77 = some r → Zw p l e { frames := 5, cells := 0, slots := 0, locals := 80 * (5) } s m args below meth c G b 3 (MQ below (zQ G b FQ) args s 0 0 (fun q : Nat => b ≤ q)) 0 0 77 [some (.ref (P)), some (.int x1_77), some (.int x2_77)] [.int y0_77] (L, M_77, N) := by
    intro x1_77 x2_77 y0_77 M_77 h
    unfold D_X7_round_77 at h
    refine a_iret X hr dX7_round_77 ⟨by decide, by decide⟩ ?_
    subst hF
    rw [← Option.some.inj h]
    exact ⟨rfl, rfl⟩
  unfold D_X7_round at h
  refine a_iload_n X dX7_round_0 rfl ?_
  obtain ⟨e_1, f_1, h⟩ := zBx h
  refine a_callSx X dX7_round_1 miX7_isSeed lm7_237 (t_X7_isSeed f_1) rfl rfl (Nat.le_of_ble_eq_true rfl) ⟨by decide, by decide, by decide, by decide⟩ (fun r_1 S_1 q_1 => ?_)
  obtain ⟨rfl, rfl, b_1⟩ := q_1
  refine a_if_ne (tgt := 13) X dX7_round_4 (by decide) (fun h_4 => ?_) (fun h_4 => ?_)
  · replace h := (if_neg h_4).symm.trans h
    refine a_aload_n X dX7_round_13 rfl ?_
    refine a_iload_n X dX7_round_14 rfl ?_
    obtain ⟨e_15, f_15, h⟩ := zBx h
    refine a_callVx X dX7_round_15 miX7_isApplicant lm7_206 (t_X7_isApplicant (by assumption) f_15) (by assumption) rfl rfl rfl (Nat.le_of_ble_eq_true rfl) ⟨by decide, by decide, by decide, by decide⟩ (fun r_15 S_15 q_15 => ?_)
    obtain ⟨rfl, rfl, b_15⟩ := q_15
    refine a_if_ne (tgt := 27) X dX7_round_18 (by decide) (fun h_18 => ?_) (fun h_18 => ?_)
    · replace h := (if_neg h_18).symm.trans h
      refine a_aload_n X dX7_round_27 rfl ?_
      refine a_getr X lf7_47 (by assumption) rfl (by omega) dX7_round_28 ?_
      refine a_aload_n X dX7_round_31 rfl ?_
      refine a_getr X lf7_40 (by assumption) rfl (by omega) dX7_round_32 ?_
      refine a_iload_n X dX7_round_35 rfl ?_
      obtain ⟨e_36, f_36, h⟩ := zBx h
      refine a_callVu X dX7_round_36 miX5_bySeed lm7_247 (t_X5_bySeed (by assumption) (by assumption) f_36) (by assumption) rfl rfl rfl (Nat.le_of_ble_eq_true rfl) ⟨by decide, by decide, by decide, by decide⟩ ?_
      refine a_aload_n X dX7_round_39 rfl ?_
      refine a_getr X lf7_47 (by assumption) rfl (by omega) dX7_round_40 ?_
      refine a_getr X lf7_250 (by assumption) rfl (by omega) dX7_round_43 ?_
      refine a_iload_n X dX7_round_46 rfl ?_
      refine a_callSv X dX7_round_47 miX7_cell lm7_175 (c_cell (by assumption) (by first | decide | assumption)) rfl rfl (Nat.le_of_ble_eq_true rfl) ⟨by decide, by decide, by decide, by decide⟩ ?_
      refine a_iconst (v := -1) X dX7_round_50 (by decide) ?_
      refine a_icmp_ne (tgt := 62) X dX7_round_51 (by decide) (fun h_51 => ?_) (fun h_51 => ?_)
      · replace h := (if_neg h_51).symm.trans h
        refine a_aload_n X dX7_round_62 rfl ?_
        refine a_aload_n X dX7_round_63 rfl ?_
        refine a_getr X lf7_47 (by assumption) rfl (by omega) dX7_round_64 ?_
        refine a_getr X lf7_253 (by assumption) rfl (by omega) dX7_round_67 ?_
        refine a_iload_n X dX7_round_70 rfl ?_
        refine a_callSv X dX7_round_71 miX7_cell lm7_175 (c_cell (by assumption) (by first | decide | assumption)) rfl rfl (Nat.le_of_ble_eq_true rfl) ⟨by decide, by decide, by decide, by decide⟩ ?_
        obtain ⟨e_74, f_74, h⟩ := zBx h
        refine a_callVv X dX7_round_74 miX7_answer lm7_134 (t_X7_answer (by assumption) f_74) (by assumption) rfl rfl rfl (Nat.le_of_ble_eq_true rfl) ⟨by decide, by decide, by decide, by decide⟩ ?_
        exact Zw.to2 (J_77 _ _ _ _ h) rfl rfl rfl
      · replace h := (if_pos h_51).symm.trans h
        refine a_aload_n X dX7_round_54 rfl ?_
        refine a_iconst (v := 5) X dX7_round_55 (by decide) ?_
        obtain ⟨e_56, f_56, h⟩ := zBx h
        refine a_callVv X dX7_round_56 miX7_refuse lm7_102 (t_X7_refuse (by assumption) f_56) (by assumption) rfl rfl rfl (Nat.le_of_ble_eq_true rfl) ⟨by decide, by decide, by decide, by decide⟩ ?_
        refine a_goto (tgt := 77) X dX7_round_59 (by decide) ?_
        exact Zw.to2 (J_77 _ _ _ _ h) rfl rfl rfl
    · replace h := (if_pos h_18).symm.trans h
      refine a_aload_n X dX7_round_21 rfl ?_
      refine a_iconst (v := 2) X dX7_round_22 (by decide) ?_
      obtain ⟨e_23, f_23, h⟩ := zBx h
      refine a_callVv X dX7_round_23 miX7_refuse lm7_102 (t_X7_refuse (by assumption) f_23) (by assumption) rfl rfl rfl (Nat.le_of_ble_eq_true rfl) ⟨by decide, by decide, by decide, by decide⟩ ?_
      refine a_iret X hr dX7_round_26 ⟨by decide, by decide⟩ ?_
      subst hF
      rw [← Option.some.inj h]
      exact ⟨rfl, rfl⟩
  · replace h := (if_pos h_4).symm.trans h
    refine a_aload_n X dX7_round_7 rfl ?_
    refine a_iconst (v := 1) X dX7_round_8 (by decide) ?_
    obtain ⟨e_9, f_9, h⟩ := zBx h
    refine a_callVv X dX7_round_9 miX7_refuse lm7_102 (t_X7_refuse (by assumption) f_9) (by assumption) rfl rfl rfl (Nat.le_of_ble_eq_true rfl) ⟨by decide, by decide, by decide, by decide⟩ ?_
    refine a_iret X hr dX7_round_12 ⟨by decide, by decide⟩ ?_
    subst hF
    rw [← Option.some.inj h]
    exact ⟨rfl, rfl⟩
noncomputable def D_X7_left_159 (P : Nat) (y0_159 : Int32) (M_159 : zMt) : Option (Int32 × zMt) :=
  some (y0_159, M_159)
noncomputable def D_X7_left_16 (P : Nat) (M_16 : zMt) : Option (Int32 × zMt) :=
  zB (D_X7_refuse P (1 : Int32) M_16) fun e_18 =>
  some (e_18.1, e_18.2)
noncomputable def D_X7_left (P : Nat) (v0 : Int32) (v1 : Int32) (v2 : Int32) (M : zMt) : Option (Int32 × zMt) :=
  zB (D_X7_isSeed v0) fun e_1 =>
  if e_1 = 0 then
    D_X7_left_16 P M
  else
    if v2 < 0 then
      D_X7_left_16 P M
    else
      if v2 ≤ (3 : Int32) then
        zB (D_X7_isUnit P M v1) fun e_24 =>
        if e_24 = 0 then
          zB (D_X7_refuse P (2 : Int32) M) fun e_32 =>
          some (e_32.1, e_32.2)
        else
          zB (D_X5_bySeed (P + 104) (P + 91) v0 M) fun e_45 =>
          if Int32.toInt v2 = 0 then
            zB (D_X7_answer P (zrd 0 (e_45 (P + 108)) 5 v1) e_45) fun e_88 =>
            some (e_88.1, e_88.2)
          else
          if Int32.toInt v2 = 1 then
            zB (D_X7_answer P (zrd 0 (e_45 (P + 109)) 5 v1) e_45) fun e_104 =>
            some (e_104.1, e_104.2)
          else
          if Int32.toInt v2 = 2 then
            zB (D_X5_holders (P + 104) (P + 91) e_45 v1) fun e_118 =>
            zB (D_X7_answer P e_118 e_45) fun e_121 =>
            some (e_121.1, e_121.2)
          else
            zB (D_X5_fewestPoints (P + 104) (P + 91) e_45 v1) fun e_134 =>
            if e_134 = (-1 : Int32) then
              zB (D_X7_refuse P (5 : Int32) e_45) fun e_147 =>
              D_X7_left_159 P e_147.1 e_147.2
            else
              zB (D_X7_answer P e_134 e_45) fun e_156 =>
              D_X7_left_159 P e_156.1 e_156.2
      else
        D_X7_left_16 P M
set_option maxRecDepth 100000 in
set_option maxHeartbeats 4000000 in
theorem t_X7_left {l : Launch} {G : zG} {b : Nat} {L : List zC} {M : zMt} {N : zNt} {P : Nat} {v0 : Int32} {v1 : Int32} {v2 : Int32} (hP : LX7 L P) {r : Int32 × zMt} (h : D_X7_left P v0 v1 v2 M = some r) : zM l G b yX7_left cX7_left 5 (some .int) 5 0 0 [.ref P, .int v0, .int v1, .int v2] (L, M, N) (fun r2 z => r2 = some (.int r.1) ∧ z = (L, r.2, N)) := by
  refine zM.of miX7_left (Nat.le_of_ble_eq_true rfl) ?_
  intro p e s m args below meth c X hr hname
  generalize hF : ((fun r2 z => r2 = some (.int r.1) ∧ z = (L, r.2, N)) : Option Value → zS → Prop) = FQ
  change Zw p l e { frames := 5, cells := 0, slots := 0, locals := 80 * (5) } s m args below meth c G b 5 (MQ below (zQ G b FQ) args s 0 0 (fun q : Nat => b ≤ q)) 0 0 0 [some (.ref P), some (.int v0), some (.int v1), some (.int v2), none] [] (L, M, N)
  obtain ⟨p_lt, p_o, p_tape, p_out, p_reader, p_list, p_past, p_pool, p_result, p_odds, p_paper, p_trial, p_trialPool, p_trialResult, p_trialOdds⟩ := id hP
  obtain ⟨p_reader_lt, p_reader_o, p_reader_draft, p_reader_text, p_reader_unitNames, p_reader_hunterNames, p_reader_partyNames, p_reader_asked⟩ := id p_reader
  obtain ⟨p_list_lt, p_list_o, p_list_quota, p_list_score, p_list_guest, p_list_party, p_list_wishCount, p_list_wishes, p_list_has⟩ := id p_list
  obtain ⟨p_past_lt, p_past_o, p_past_stood, p_past_stood0, p_past_stood1, p_past_stood2, p_past_stood3, p_past_stood4, p_past_stood5, p_past_stood6, p_past_stood7⟩ := id p_past
  obtain ⟨p_pool_lt, p_pool_o, p_pool_quota, p_pool_preferred, p_pool_forGuests, p_pool_applicantOf, p_pool_size, p_pool_guestCount, p_pool_score, p_pool_tickets, p_pool_bits, p_pool_party, p_pool_wishCount, p_pool_wishes⟩ := id p_pool
  obtain ⟨p_result_lt, p_result_o, p_result_line, p_result_unitOf, p_result_roundOf, p_result_leftTags, p_result_leftGuests, p_result_leftPreferred, p_result_ranked⟩ := id p_result
  obtain ⟨p_odds_lt, p_odds_o, p_odds_sets, p_odds_seen, p_odds_atUnit, p_odds_early, p_odds_result⟩ := id p_odds
  obtain ⟨p_paper_lt, p_paper_o, p_paper_times, p_paper_firstWish, p_paper_dry, p_paper_list, p_paper_pool, p_paper_result⟩ := id p_paper
  obtain ⟨p_trial_lt, p_trial_o, p_trial_quota, p_trial_score, p_trial_guest, p_trial_party, p_trial_wishCount, p_trial_wishes, p_trial_has⟩ := id p_trial
  obtain ⟨p_trialPool_lt, p_trialPool_o, p_trialPool_quota, p_trialPool_preferred, p_trialPool_forGuests, p_trialPool_applicantOf, p_trialPool_size, p_trialPool_guestCount, p_trialPool_score, p_trialPool_tickets, p_trialPool_bits, p_trialPool_party, p_trialPool_wishCount, p_trialPool_wishes⟩ := id p_trialPool
  obtain ⟨p_trialResult_lt, p_trialResult_o, p_trialResult_line, p_trialResult_unitOf, p_trialResult_roundOf, p_trialResult_leftTags, p_trialResult_leftGuests, p_trialResult_leftPreferred, p_trialResult_ranked⟩ := id p_trialResult
  obtain ⟨p_trialOdds_lt, p_trialOdds_o, p_trialOdds_sets, p_trialOdds_seen, p_trialOdds_atUnit, p_trialOdds_early, p_trialOdds_result⟩ := id p_trialOdds
  have J_159 : ∀ (x1_159 : Int32) (x2_159 : Int32) (x3_159 : Int32) (x4_159 : Int32) (y0_159 : Int32) (M_159 : zMt), D_X7_left_159 P y0_159 M_159 = some r → Zw p l e { frames := 5, cells := 0, slots := 0, locals := 80 * (5) } s m args below meth c G b 5 (MQ below (zQ G b FQ) args s 0 0 (fun q : Nat => b ≤ q)) 0 0 159 [some (.ref (P)), some (.int x1_159), some (.int x2_159), some (.int x3_159), some (.int x4_159)] [.int y0_159] (L, M_159, N) := by
    intro x1_159 x2_159 x3_159 x4_159 y0_159 M_159 h
    unfold D_X7_left_159 at h
    refine a_iret X hr dX7_left_159 ⟨by decide, by decide⟩ ?_
    subst hF
    rw [← Option.some.inj h]
    exact ⟨rfl, rfl⟩
  have J_16 : ∀ (x1_16 : Int32) (x2_16 : Int32) (x3_16 : Int32) (x4_16 : Option Value) (M_16 : zMt), D_X7_left_16 P M_16 = some r → Zw p l e { frames := 5, cells := 0, slots := 0, locals := 80 * (5) } s m args below meth c G b 5 (MQ below (zQ G b FQ) args s 0 0 (fun q : Nat => b ≤ q)) 0 0 16 [some (.ref (P)), some (.int x1_16), some (.int x2_16), some (.int x3_16), x4_16] [] (L, M_16, N) := by
    intro x1_16 x2_16 x3_16 x4_16 M_16 h
    unfold D_X7_left_16 at h
    refine a_aload_n X dX7_left_16 rfl ?_
    refine a_iconst (v := 1) X dX7_left_17 (by decide) ?_
    obtain ⟨e_18, f_18, h⟩ := zBx h
    refine a_callVv X dX7_left_18 miX7_refuse lm7_102 (t_X7_refuse (by assumption) f_18) (by assumption) rfl rfl rfl (Nat.le_of_ble_eq_true rfl) ⟨by decide, by decide, by decide, by decide⟩ ?_
    refine a_iret X hr dX7_left_21 ⟨by decide, by decide⟩ ?_
    subst hF
    rw [← Option.some.inj h]
    exact ⟨rfl, rfl⟩
  unfold D_X7_left at h
  refine a_iload_n X dX7_left_0 rfl ?_
  obtain ⟨e_1, f_1, h⟩ := zBx h
  refine a_callSx X dX7_left_1 miX7_isSeed lm7_237 (t_X7_isSeed f_1) rfl rfl (Nat.le_of_ble_eq_true rfl) ⟨by decide, by decide, by decide, by decide⟩ (fun r_1 S_1 q_1 => ?_)
  obtain ⟨rfl, rfl, b_1⟩ := q_1
  refine a_if_eq (tgt := 16) X dX7_left_4 (by decide) (fun h_4 => ?_) (fun h_4 => ?_)
  · replace h := (if_pos h_4).symm.trans h
    exact Zw.to2 (J_16 _ _ _ _ _ h) rfl rfl rfl
  · replace h := (if_neg h_4).symm.trans h
    refine a_iload_n X dX7_left_7 rfl ?_
    refine a_if_lt (tgt := 16) X dX7_left_8 (by decide) (fun h_8 => ?_) (fun h_8 => ?_)
    · replace h := (if_pos h_8).symm.trans h
      exact Zw.to2 (J_16 _ _ _ _ _ h) rfl rfl rfl
    · replace h := (if_neg h_8).symm.trans h
      refine a_iload_n X dX7_left_11 rfl ?_
      refine a_iconst (v := 3) X dX7_left_12 (by decide) ?_
      refine a_icmp_le (tgt := 22) X dX7_left_13 (by decide) (fun h_13 => ?_) (fun h_13 => ?_)
      · replace h := (if_pos h_13).symm.trans h
        refine a_aload_n X dX7_left_22 rfl ?_
        refine a_iload_n X dX7_left_23 rfl ?_
        obtain ⟨e_24, f_24, h⟩ := zBx h
        refine a_callVx X dX7_left_24 miX7_isUnit lm7_188 (t_X7_isUnit (by assumption) f_24) (by assumption) rfl rfl rfl (Nat.le_of_ble_eq_true rfl) ⟨by decide, by decide, by decide, by decide⟩ (fun r_24 S_24 q_24 => ?_)
        obtain ⟨rfl, rfl, b_24⟩ := q_24
        refine a_if_ne (tgt := 36) X dX7_left_27 (by decide) (fun h_27 => ?_) (fun h_27 => ?_)
        · replace h := (if_neg h_27).symm.trans h
          refine a_aload_n X dX7_left_36 rfl ?_
          refine a_getr X lf7_47 (by assumption) rfl (by omega) dX7_left_37 ?_
          refine a_aload_n X dX7_left_40 rfl ?_
          refine a_getr X lf7_40 (by assumption) rfl (by omega) dX7_left_41 ?_
          refine a_iload_n X dX7_left_44 rfl ?_
          obtain ⟨e_45, f_45, h⟩ := zBx h
          refine a_callVu X dX7_left_45 miX5_bySeed lm7_247 (t_X5_bySeed (by assumption) (by assumption) f_45) (by assumption) rfl rfl rfl (Nat.le_of_ble_eq_true rfl) ⟨by decide, by decide, by decide, by decide⟩ ?_
          refine a_iload_n X dX7_left_48 rfl ?_
          refine a_tsw (tg := [76, 92, 108]) (td := 125) X dX7_left_49 (by decide +kernel) (by decide) (by decide) (fun k_49 t_49 ht_49 hx_49 => ?_) (fun hx_49 => ?_)
          · match k_49, ht_49, hx_49 with
            | 0, ht_49, hx_49 =>
              cases ht_49
              replace h := (if_pos (by omega)).symm.trans h
              refine a_aload_n X dX7_left_76 rfl ?_
              refine a_aload_n X dX7_left_77 rfl ?_
              refine a_getr X lf7_47 (by assumption) rfl (by omega) dX7_left_78 ?_
              refine a_getr X lf7_256 (by assumption) rfl (by omega) dX7_left_81 ?_
              refine a_iload_n X dX7_left_84 rfl ?_
              refine a_callSv X dX7_left_85 miX7_cell lm7_175 (c_cell (by assumption) (by first | decide | assumption)) rfl rfl (Nat.le_of_ble_eq_true rfl) ⟨by decide, by decide, by decide, by decide⟩ ?_
              obtain ⟨e_88, f_88, h⟩ := zBx h
              refine a_callVv X dX7_left_88 miX7_answer lm7_134 (t_X7_answer (by assumption) f_88) (by assumption) rfl rfl rfl (Nat.le_of_ble_eq_true rfl) ⟨by decide, by decide, by decide, by decide⟩ ?_
              refine a_iret X hr dX7_left_91 ⟨by decide, by decide⟩ ?_
              subst hF
              rw [← Option.some.inj h]
              exact ⟨rfl, rfl⟩
            | 1, ht_49, hx_49 =>
              cases ht_49
              replace h := (if_neg (by omega)).symm.trans h
              replace h := (if_pos (by omega)).symm.trans h
              refine a_aload_n X dX7_left_92 rfl ?_
              refine a_aload_n X dX7_left_93 rfl ?_
              refine a_getr X lf7_47 (by assumption) rfl (by omega) dX7_left_94 ?_
              refine a_getr X lf7_259 (by assumption) rfl (by omega) dX7_left_97 ?_
              refine a_iload_n X dX7_left_100 rfl ?_
              refine a_callSv X dX7_left_101 miX7_cell lm7_175 (c_cell (by assumption) (by first | decide | assumption)) rfl rfl (Nat.le_of_ble_eq_true rfl) ⟨by decide, by decide, by decide, by decide⟩ ?_
              obtain ⟨e_104, f_104, h⟩ := zBx h
              refine a_callVv X dX7_left_104 miX7_answer lm7_134 (t_X7_answer (by assumption) f_104) (by assumption) rfl rfl rfl (Nat.le_of_ble_eq_true rfl) ⟨by decide, by decide, by decide, by decide⟩ ?_
              refine a_iret X hr dX7_left_107 ⟨by decide, by decide⟩ ?_
              subst hF
              rw [← Option.some.inj h]
              exact ⟨rfl, rfl⟩
            | 2, ht_49, hx_49 =>
              cases ht_49
              replace h := (if_neg (by omega)).symm.trans h
              replace h := (if_neg (by omega)).symm.trans h
              replace h := (if_pos (by omega)).symm.trans h
              refine a_aload_n X dX7_left_108 rfl ?_
              refine a_aload_n X dX7_left_109 rfl ?_
              refine a_getr X lf7_47 (by assumption) rfl (by omega) dX7_left_110 ?_
              refine a_aload_n X dX7_left_113 rfl ?_
              refine a_getr X lf7_40 (by assumption) rfl (by omega) dX7_left_114 ?_
              refine a_iload_n X dX7_left_117 rfl ?_
              obtain ⟨e_118, f_118, h⟩ := zBx h
              refine a_callVv X dX7_left_118 miX5_holders lm7_262 (t_X5_holders (by assumption) (by assumption) f_118) (by assumption) rfl rfl rfl (Nat.le_of_ble_eq_true rfl) ⟨by decide, by decide, by decide, by decide⟩ ?_
              obtain ⟨e_121, f_121, h⟩ := zBx h
              refine a_callVv X dX7_left_121 miX7_answer lm7_134 (t_X7_answer (by assumption) f_121) (by assumption) rfl rfl rfl (Nat.le_of_ble_eq_true rfl) ⟨by decide, by decide, by decide, by decide⟩ ?_
              refine a_iret X hr dX7_left_124 ⟨by decide, by decide⟩ ?_
              subst hF
              rw [← Option.some.inj h]
              exact ⟨rfl, rfl⟩
          · skip
            replace h := (if_neg (by omega)).symm.trans h
            replace h := (if_neg (by omega)).symm.trans h
            replace h := (if_neg (by omega)).symm.trans h
            refine a_aload_n X dX7_left_125 rfl ?_
            refine a_getr X lf7_47 (by assumption) rfl (by omega) dX7_left_126 ?_
            refine a_aload_n X dX7_left_129 rfl ?_
            refine a_getr X lf7_40 (by assumption) rfl (by omega) dX7_left_130 ?_
            refine a_iload_n X dX7_left_133 rfl ?_
            obtain ⟨e_134, f_134, h⟩ := zBx h
            refine a_callVv X dX7_left_134 miX5_fewestPoints lm7_266 (t_X5_fewestPoints (by assumption) (by assumption) f_134) (by assumption) rfl rfl rfl (Nat.le_of_ble_eq_true rfl) ⟨by decide, by decide, by decide, by decide⟩ ?_
            refine a_istore X dX7_left_137 (by decide) ?_
            refine a_iload X dX7_left_139 rfl ?_
            refine a_iconst (v := -1) X dX7_left_141 (by decide) ?_
            refine a_icmp_ne (tgt := 153) X dX7_left_142 (by decide) (fun h_142 => ?_) (fun h_142 => ?_)
            · replace h := (if_neg h_142).symm.trans h
              refine a_aload_n X dX7_left_153 rfl ?_
              refine a_iload X dX7_left_154 rfl ?_
              obtain ⟨e_156, f_156, h⟩ := zBx h
              refine a_callVv X dX7_left_156 miX7_answer lm7_134 (t_X7_answer (by assumption) f_156) (by assumption) rfl rfl rfl (Nat.le_of_ble_eq_true rfl) ⟨by decide, by decide, by decide, by decide⟩ ?_
              exact Zw.to2 (J_159 _ _ _ _ _ _ h) rfl rfl rfl
            · replace h := (if_pos h_142).symm.trans h
              refine a_aload_n X dX7_left_145 rfl ?_
              refine a_iconst (v := 5) X dX7_left_146 (by decide) ?_
              obtain ⟨e_147, f_147, h⟩ := zBx h
              refine a_callVv X dX7_left_147 miX7_refuse lm7_102 (t_X7_refuse (by assumption) f_147) (by assumption) rfl rfl rfl (Nat.le_of_ble_eq_true rfl) ⟨by decide, by decide, by decide, by decide⟩ ?_
              refine a_goto (tgt := 159) X dX7_left_150 (by decide) ?_
              exact Zw.to2 (J_159 _ _ _ _ _ _ h) rfl rfl rfl
        · replace h := (if_pos h_27).symm.trans h
          refine a_aload_n X dX7_left_30 rfl ?_
          refine a_iconst (v := 2) X dX7_left_31 (by decide) ?_
          obtain ⟨e_32, f_32, h⟩ := zBx h
          refine a_callVv X dX7_left_32 miX7_refuse lm7_102 (t_X7_refuse (by assumption) f_32) (by assumption) rfl rfl rfl (Nat.le_of_ble_eq_true rfl) ⟨by decide, by decide, by decide, by decide⟩ ?_
          refine a_iret X hr dX7_left_35 ⟨by decide, by decide⟩ ?_
          subst hF
          rw [← Option.some.inj h]
          exact ⟨rfl, rfl⟩
      · replace h := (if_neg h_13).symm.trans h
        exact Zw.to2 (J_16 _ _ _ _ _ h) rfl rfl rfl
noncomputable def D_X7_winners_69 (P : Nat) (k29 : Int32 → Int32 → zMt → Option (Int32 × zMt)) (x2_69 : Int32) (x3_69 : Int32) (M_69 : zMt) : Option (Int32 × zMt) :=
  k29 x2_69 (x3_69 + 1) M_69
noncomputable def D_X7_winners_29 (P : Nat) : Nat → Int32 → Int32 → zMt → Option (Int32 × zMt)
  | 0, _, _, _ => none
  | n + 1, x2_29, x3_29, M_29 =>
    if (M_29 (P + 91) 1) ≤ x3_29 then
      zB (D_X7_answer P x2_29 M_29) fun e_77 =>
      some (e_77.1, e_77.2)
    else
      if (zrd 0 (M_29 (P + 106)) 10 x3_29) = (-1 : Int32) then
        D_X7_winners_69 P (D_X7_winners_29 P n) x2_29 x3_29 M_29
      else
        D_X7_winners_69 P (D_X7_winners_29 P n) (x2_29 ||| (zrd 0 (M_29 (P + 100)) 10 x3_29)) x3_29 M_29
noncomputable def D_X7_winners (P : Nat) (v0 : Int32) (M : zMt) : Option (Int32 × zMt) :=
  zB (D_X7_isSeed v0) fun e_1 =>
  if e_1 = 0 then
    zB (D_X7_refuse P (1 : Int32) M) fun e_9 =>
    some (e_9.1, e_9.2)
  else
    zB (D_X5_bySeed (P + 104) (P + 91) v0 M) fun e_22 =>
    D_X7_winners_29 P zFu (0 : Int32) (0 : Int32) e_22
set_option maxRecDepth 100000 in
set_option maxHeartbeats 4000000 in
theorem t_X7_winners {l : Launch} {G : zG} {b : Nat} {L : List zC} {M : zMt} {N : zNt} {P : Nat} {v0 : Int32} (hP : LX7 L P) {r : Int32 × zMt} (h : D_X7_winners P v0 M = some r) : zM l G b yX7_winners cX7_winners 4 (some .int) 5 0 0 [.ref P, .int v0] (L, M, N) (fun r2 z => r2 = some (.int r.1) ∧ z = (L, r.2, N)) := by
  refine zM.of miX7_winners (Nat.le_of_ble_eq_true rfl) ?_
  intro p e s m args below meth c X hr hname
  generalize hF : ((fun r2 z => r2 = some (.int r.1) ∧ z = (L, r.2, N)) : Option Value → zS → Prop) = FQ
  change Zw p l e { frames := 5, cells := 0, slots := 0, locals := 80 * (5) } s m args below meth c G b 4 (MQ below (zQ G b FQ) args s 0 0 (fun q : Nat => b ≤ q)) 0 0 0 [some (.ref P), some (.int v0), none, none] [] (L, M, N)
  obtain ⟨p_lt, p_o, p_tape, p_out, p_reader, p_list, p_past, p_pool, p_result, p_odds, p_paper, p_trial, p_trialPool, p_trialResult, p_trialOdds⟩ := id hP
  obtain ⟨p_reader_lt, p_reader_o, p_reader_draft, p_reader_text, p_reader_unitNames, p_reader_hunterNames, p_reader_partyNames, p_reader_asked⟩ := id p_reader
  obtain ⟨p_list_lt, p_list_o, p_list_quota, p_list_score, p_list_guest, p_list_party, p_list_wishCount, p_list_wishes, p_list_has⟩ := id p_list
  obtain ⟨p_past_lt, p_past_o, p_past_stood, p_past_stood0, p_past_stood1, p_past_stood2, p_past_stood3, p_past_stood4, p_past_stood5, p_past_stood6, p_past_stood7⟩ := id p_past
  obtain ⟨p_pool_lt, p_pool_o, p_pool_quota, p_pool_preferred, p_pool_forGuests, p_pool_applicantOf, p_pool_size, p_pool_guestCount, p_pool_score, p_pool_tickets, p_pool_bits, p_pool_party, p_pool_wishCount, p_pool_wishes⟩ := id p_pool
  obtain ⟨p_result_lt, p_result_o, p_result_line, p_result_unitOf, p_result_roundOf, p_result_leftTags, p_result_leftGuests, p_result_leftPreferred, p_result_ranked⟩ := id p_result
  obtain ⟨p_odds_lt, p_odds_o, p_odds_sets, p_odds_seen, p_odds_atUnit, p_odds_early, p_odds_result⟩ := id p_odds
  obtain ⟨p_paper_lt, p_paper_o, p_paper_times, p_paper_firstWish, p_paper_dry, p_paper_list, p_paper_pool, p_paper_result⟩ := id p_paper
  obtain ⟨p_trial_lt, p_trial_o, p_trial_quota, p_trial_score, p_trial_guest, p_trial_party, p_trial_wishCount, p_trial_wishes, p_trial_has⟩ := id p_trial
  obtain ⟨p_trialPool_lt, p_trialPool_o, p_trialPool_quota, p_trialPool_preferred, p_trialPool_forGuests, p_trialPool_applicantOf, p_trialPool_size, p_trialPool_guestCount, p_trialPool_score, p_trialPool_tickets, p_trialPool_bits, p_trialPool_party, p_trialPool_wishCount, p_trialPool_wishes⟩ := id p_trialPool
  obtain ⟨p_trialResult_lt, p_trialResult_o, p_trialResult_line, p_trialResult_unitOf, p_trialResult_roundOf, p_trialResult_leftTags, p_trialResult_leftGuests, p_trialResult_leftPreferred, p_trialResult_ranked⟩ := id p_trialResult
  obtain ⟨p_trialOdds_lt, p_trialOdds_o, p_trialOdds_sets, p_trialOdds_seen, p_trialOdds_atUnit, p_trialOdds_early, p_trialOdds_result⟩ := id p_trialOdds
  have L_29 : ∀ u : Nat, ∀ (x1_29 : Int32) (x2_29 : Int32) (x3_29 : Int32) (M_29 : zMt), D_X7_winners_29 P u x2_29 x3_29 M_29 = some r → Zw p l e { frames := 5, cells := 0, slots := 0, locals := 80 * (5) } s m args below meth c G b 4 (MQ below (zQ G b FQ) args s 0 0 (fun q : Nat => b ≤ q)) 0 0 29 [some (.ref (P)), some (.int x1_29), some (.int x2_29), some (.int x3_29)] [] (L, M_29, N) := by
    intro u
    induction u with
    | zero => intro x1_29 x2_29 x3_29 M_29 h; cases (show none = some r from h)
    | succ u_29 ih_29 =>
      have J_69 : ∀ (x1_69 : Int32) (x2_69 : Int32) (x3_69 : Int32) (M_69 : zMt), D_X7_winners_69 P (D_X7_winners_29 P u_29) x2_69 x3_69 M_69 = some r → Zw p l e { frames := 5, cells := 0, slots := 0, locals := 80 * (5) } s m args below meth c G b 4 (MQ below (zQ G b FQ) args s 0 0 (fun q : Nat => b ≤ q)) 0 0 69 [some (.ref (P)), some (.int x1_69), some (.int x2_69), some (.int x3_69)] [] (L, M_69, N) := by
        intro x1_69 x2_69 x3_69 M_69 h
        unfold D_X7_winners_69 at h
        refine a_iinc (v := x3_69 + 1) X dX7_winners_69 (by decide) rfl zi_1 ?_
        refine a_goto (tgt := 29) X dX7_winners_72 (by decide) ?_
        exact Zw.to2 (ih_29 _ _ _ _ h) rfl rfl rfl
      intro x1_29 x2_29 x3_29 M_29 h
      rw [D_X7_winners_29] at h
      refine a_iload_n X dX7_winners_29 rfl ?_
      refine a_aload_n X dX7_winners_30 rfl ?_
      refine a_getr X lf7_40 (by assumption) rfl (by omega) dX7_winners_31 ?_
      refine a_geti X lf7_140 (by assumption) rfl dX7_winners_34 ?_
      refine a_icmp_ge (tgt := 75) X dX7_winners_37 (by decide) (fun h_37 => ?_) (fun h_37 => ?_)
      · replace h := (if_pos h_37).symm.trans h
        refine a_aload_n X dX7_winners_75 rfl ?_
        refine a_iload_n X dX7_winners_76 rfl ?_
        obtain ⟨e_77, f_77, h⟩ := zBx h
        refine a_callVv X dX7_winners_77 miX7_answer lm7_134 (t_X7_answer (by assumption) f_77) (by assumption) rfl rfl rfl (Nat.le_of_ble_eq_true rfl) ⟨by decide, by decide, by decide, by decide⟩ ?_
        refine a_iret X hr dX7_winners_80 ⟨by decide, by decide⟩ ?_
        subst hF
        rw [← Option.some.inj h]
        exact ⟨rfl, rfl⟩
      · replace h := (if_neg h_37).symm.trans h
        refine a_aload_n X dX7_winners_40 rfl ?_
        refine a_getr X lf7_47 (by assumption) rfl (by omega) dX7_winners_41 ?_
        refine a_getr X lf7_250 (by assumption) rfl (by omega) dX7_winners_44 ?_
        refine a_iload_n X dX7_winners_47 rfl ?_
        refine a_callSv X dX7_winners_48 miX7_cell lm7_175 (c_cell (by assumption) (by first | decide | assumption)) rfl rfl (Nat.le_of_ble_eq_true rfl) ⟨by decide, by decide, by decide, by decide⟩ ?_
        refine a_iconst (v := -1) X dX7_winners_51 (by decide) ?_
        refine a_icmp_eq (tgt := 69) X dX7_winners_52 (by decide) (fun h_52 => ?_) (fun h_52 => ?_)
        · replace h := (if_pos h_52).symm.trans h
          exact Zw.to2 (J_69 _ _ _ _ h) rfl rfl rfl
        · replace h := (if_neg h_52).symm.trans h
          refine a_iload_n X dX7_winners_55 rfl ?_
          refine a_aload_n X dX7_winners_56 rfl ?_
          refine a_getr X lf7_40 (by assumption) rfl (by omega) dX7_winners_57 ?_
          refine a_getr X lf7_222 (by assumption) rfl (by omega) dX7_winners_60 ?_
          refine a_iload_n X dX7_winners_63 rfl ?_
          refine a_callSv X dX7_winners_64 miX7_cell lm7_175 (c_cell (by assumption) (by first | decide | assumption)) rfl rfl (Nat.le_of_ble_eq_true rfl) ⟨by decide, by decide, by decide, by decide⟩ ?_
          refine a_ior X dX7_winners_67 ?_
          refine a_istore_n X dX7_winners_68 (by decide) ?_
          exact Zw.to2 (J_69 _ _ _ _ h) rfl rfl rfl
  have H_29 : ∀ (x1_29 : Int32) (x2_29 : Int32) (x3_29 : Int32) (M_29 : zMt), D_X7_winners_29 P zFu x2_29 x3_29 M_29 = some r → Zw p l e { frames := 5, cells := 0, slots := 0, locals := 80 * (5) } s m args below meth c G b 4 (MQ below (zQ G b FQ) args s 0 0 (fun q : Nat => b ≤ q)) 0 0 29 [some (.ref (P)), some (.int x1_29), some (.int x2_29), some (.int x3_29)] [] (L, M_29, N) := L_29 zFu
  unfold D_X7_winners at h
  refine a_iload_n X dX7_winners_0 rfl ?_
  obtain ⟨e_1, f_1, h⟩ := zBx h
  refine a_callSx X dX7_winners_1 miX7_isSeed lm7_237 (t_X7_isSeed f_1) rfl rfl (Nat.le_of_ble_eq_true rfl) ⟨by decide, by decide, by decide, by decide⟩ (fun r_1 S_1 q_1 => ?_)
  obtain ⟨rfl, rfl, b_1⟩ := q_1
  refine a_if_ne (tgt := 13) X dX7_winners_4 (by decide) (fun h_4 => ?_) (fun h_4 => ?_)
  · replace h := (if_neg h_4).symm.trans h
    refine a_aload_n X dX7_winners_13 rfl ?_
    refine a_getr X lf7_47 (by assumption) rfl (by omega) dX7_winners_14 ?_
    refine a_aload_n X dX7_winners_17 rfl ?_
    refine a_getr X lf7_40 (by assumption) rfl (by omega) dX7_winners_18 ?_
    refine a_iload_n X dX7_winners_21 rfl ?_
    obtain ⟨e_22, f_22, h⟩ := zBx h
    refine a_callVu X dX7_winners_22 miX5_bySeed lm7_247 (t_X5_bySeed (by assumption) (by assumption) f_22) (by assumption) rfl rfl rfl (Nat.le_of_ble_eq_true rfl) ⟨by decide, by decide, by decide, by decide⟩ ?_
    refine a_iconst (v := 0) X dX7_winners_25 (by decide) ?_
    refine a_istore_n X dX7_winners_26 (by decide) ?_
    refine a_iconst (v := 0) X dX7_winners_27 (by decide) ?_
    refine a_istore_n X dX7_winners_28 (by decide) ?_
    exact Zw.to2 (H_29 _ _ _ _ h) rfl rfl rfl
  · replace h := (if_pos h_4).symm.trans h
    refine a_aload_n X dX7_winners_7 rfl ?_
    refine a_iconst (v := 1) X dX7_winners_8 (by decide) ?_
    obtain ⟨e_9, f_9, h⟩ := zBx h
    refine a_callVv X dX7_winners_9 miX7_refuse lm7_102 (t_X7_refuse (by assumption) f_9) (by assumption) rfl rfl rfl (Nat.le_of_ble_eq_true rfl) ⟨by decide, by decide, by decide, by decide⟩ ?_
    refine a_iret X hr dX7_winners_12 ⟨by decide, by decide⟩ ?_
    subst hF
    rw [← Option.some.inj h]
    exact ⟨rfl, rfl⟩
noncomputable def D_X7_waits_137 (P : Nat) (y0_137 : Int32) (M_137 : zMt) : Option (Int32 × zMt) :=
  some (y0_137, M_137)
noncomputable def D_X7_waits_112 (P : Nat) (k50 : Int32 → Int32 → Int32 → Int32 → zMt → Option (Int32 × zMt)) (x2_112 : Int32) (x3_112 : Int32) (x4_112 : Int32) (x5_112 : Int32) (M_112 : zMt) : Option (Int32 × zMt) :=
  k50 x2_112 x3_112 x4_112 (x5_112 + 1) M_112
noncomputable def D_X7_waits_50 (P : Nat) : Nat → Int32 → Int32 → Int32 → Int32 → zMt → Option (Int32 × zMt)
  | 0, _, _, _, _, _ => none
  | n + 1, x2_50, x3_50, x4_50, x5_50, M_50 =>
    if (M_50 (P + 91) 1) ≤ x5_50 then
      if x3_50 = (-1 : Int32) then
        zB (D_X7_answer P x4_50 M_50) fun e_126 =>
        D_X7_waits_137 P e_126.1 e_126.2
      else
        zB (D_X7_refuse P (5 : Int32) M_50) fun e_134 =>
        D_X7_waits_137 P e_134.1 e_134.2
    else
      zB (D_X5_isWaiting (P + 104) (P + 91) M_50 (zrd 0 (M_50 (P + 105)) 10 x5_50) x2_50) fun e_87 =>
      if e_87 = 0 then
        D_X7_waits_112 P (D_X7_waits_50 P n) x2_50 x3_50 x4_50 x5_50 M_50
      else
        if x4_50 = x3_50 then
          zB (D_X7_answer P (zrd 0 (M_50 (P + 105)) 10 x5_50) M_50) fun e_105 =>
          some (e_105.1, e_105.2)
        else
          D_X7_waits_112 P (D_X7_waits_50 P n) x2_50 x3_50 (x4_50 + 1) x5_50 M_50
noncomputable def D_X7_waits_12 (P : Nat) (M_12 : zMt) : Option (Int32 × zMt) :=
  zB (D_X7_refuse P (1 : Int32) M_12) fun e_14 =>
  some (e_14.1, e_14.2)
noncomputable def D_X7_waits (P : Nat) (v0 : Int32) (v1 : Int32) (v2 : Int32) (M : zMt) : Option (Int32 × zMt) :=
  zB (D_X7_isSeed v0) fun e_1 =>
  if e_1 = 0 then
    D_X7_waits_12 P M
  else
    if (-1 : Int32) ≤ v2 then
      zB (D_X7_isUnit P M v1) fun e_20 =>
      if e_20 = 0 then
        zB (D_X7_refuse P (2 : Int32) M) fun e_28 =>
        some (e_28.1, e_28.2)
      else
        zB (D_X5_bySeed (P + 104) (P + 91) v0 M) fun e_41 =>
        D_X7_waits_50 P zFu v1 v2 (0 : Int32) (0 : Int32) e_41
    else
      D_X7_waits_12 P M
set_option maxRecDepth 100000 in
set_option maxHeartbeats 4000000 in
theorem t_X7_waits {l : Launch} {G : zG} {b : Nat} {L : List zC} {M : zMt} {N : zNt} {P : Nat} {v0 : Int32} {v1 : Int32} {v2 : Int32} (hP : LX7 L P) {r : Int32 × zMt} (h : D_X7_waits P v0 v1 v2 M = some r) : zM l G b yX7_waits cX7_waits 7 (some .int) 5 0 0 [.ref P, .int v0, .int v1, .int v2] (L, M, N) (fun r2 z => r2 = some (.int r.1) ∧ z = (L, r.2, N)) := by
  refine zM.of miX7_waits (Nat.le_of_ble_eq_true rfl) ?_
  intro p e s m args below meth c X hr hname
  generalize hF : ((fun r2 z => r2 = some (.int r.1) ∧ z = (L, r.2, N)) : Option Value → zS → Prop) = FQ
  change Zw p l e { frames := 5, cells := 0, slots := 0, locals := 80 * (5) } s m args below meth c G b 7 (MQ below (zQ G b FQ) args s 0 0 (fun q : Nat => b ≤ q)) 0 0 0 [some (.ref P), some (.int v0), some (.int v1), some (.int v2), none, none, none] [] (L, M, N)
  obtain ⟨p_lt, p_o, p_tape, p_out, p_reader, p_list, p_past, p_pool, p_result, p_odds, p_paper, p_trial, p_trialPool, p_trialResult, p_trialOdds⟩ := id hP
  obtain ⟨p_reader_lt, p_reader_o, p_reader_draft, p_reader_text, p_reader_unitNames, p_reader_hunterNames, p_reader_partyNames, p_reader_asked⟩ := id p_reader
  obtain ⟨p_list_lt, p_list_o, p_list_quota, p_list_score, p_list_guest, p_list_party, p_list_wishCount, p_list_wishes, p_list_has⟩ := id p_list
  obtain ⟨p_past_lt, p_past_o, p_past_stood, p_past_stood0, p_past_stood1, p_past_stood2, p_past_stood3, p_past_stood4, p_past_stood5, p_past_stood6, p_past_stood7⟩ := id p_past
  obtain ⟨p_pool_lt, p_pool_o, p_pool_quota, p_pool_preferred, p_pool_forGuests, p_pool_applicantOf, p_pool_size, p_pool_guestCount, p_pool_score, p_pool_tickets, p_pool_bits, p_pool_party, p_pool_wishCount, p_pool_wishes⟩ := id p_pool
  obtain ⟨p_result_lt, p_result_o, p_result_line, p_result_unitOf, p_result_roundOf, p_result_leftTags, p_result_leftGuests, p_result_leftPreferred, p_result_ranked⟩ := id p_result
  obtain ⟨p_odds_lt, p_odds_o, p_odds_sets, p_odds_seen, p_odds_atUnit, p_odds_early, p_odds_result⟩ := id p_odds
  obtain ⟨p_paper_lt, p_paper_o, p_paper_times, p_paper_firstWish, p_paper_dry, p_paper_list, p_paper_pool, p_paper_result⟩ := id p_paper
  obtain ⟨p_trial_lt, p_trial_o, p_trial_quota, p_trial_score, p_trial_guest, p_trial_party, p_trial_wishCount, p_trial_wishes, p_trial_has⟩ := id p_trial
  obtain ⟨p_trialPool_lt, p_trialPool_o, p_trialPool_quota, p_trialPool_preferred, p_trialPool_forGuests, p_trialPool_applicantOf, p_trialPool_size, p_trialPool_guestCount, p_trialPool_score, p_trialPool_tickets, p_trialPool_bits, p_trialPool_party, p_trialPool_wishCount, p_trialPool_wishes⟩ := id p_trialPool
  obtain ⟨p_trialResult_lt, p_trialResult_o, p_trialResult_line, p_trialResult_unitOf, p_trialResult_roundOf, p_trialResult_leftTags, p_trialResult_leftGuests, p_trialResult_leftPreferred, p_trialResult_ranked⟩ := id p_trialResult
  obtain ⟨p_trialOdds_lt, p_trialOdds_o, p_trialOdds_sets, p_trialOdds_seen, p_trialOdds_atUnit, p_trialOdds_early, p_trialOdds_result⟩ := id p_trialOdds
  have J_137 : ∀ (x1_137 : Int32) (x2_137 : Int32) (x3_137 : Int32) (x4_137 : Int32) (x5_137 : Int32) (x6_137 : Option Value) (y0_137 : Int32) (M_137 : zMt), D_X7_waits_137 P y0_137 M_137 = some r → Zw p l e { frames := 5, cells := 0, slots := 0, locals := 80 * (5) } s m args below meth c G b 7 (MQ below (zQ G b FQ) args s 0 0 (fun q : Nat => b ≤ q)) 0 0 137 [some (.ref (P)), some (.int x1_137), some (.int x2_137), some (.int x3_137), some (.int x4_137), some (.int x5_137), x6_137] [.int y0_137] (L, M_137, N) := by
    intro x1_137 x2_137 x3_137 x4_137 x5_137 x6_137 y0_137 M_137 h
    unfold D_X7_waits_137 at h
    refine a_iret X hr dX7_waits_137 ⟨by decide, by decide⟩ ?_
    subst hF
    rw [← Option.some.inj h]
    exact ⟨rfl, rfl⟩
  have L_50 : ∀ u : Nat, ∀ (x1_50 : Int32) (x2_50 : Int32) (x3_50 : Int32) (x4_50 : Int32) (x5_50 : Int32) (x6_50 : Option Value) (M_50 : zMt), D_X7_waits_50 P u x2_50 x3_50 x4_50 x5_50 M_50 = some r → Zw p l e { frames := 5, cells := 0, slots := 0, locals := 80 * (5) } s m args below meth c G b 7 (MQ below (zQ G b FQ) args s 0 0 (fun q : Nat => b ≤ q)) 0 0 50 [some (.ref (P)), some (.int x1_50), some (.int x2_50), some (.int x3_50), some (.int x4_50), some (.int x5_50), x6_50] [] (L, M_50, N) := by
    intro u
    induction u with
    | zero => intro x1_50 x2_50 x3_50 x4_50 x5_50 x6_50 M_50 h; cases (show none = some r from h)
    | succ u_50 ih_50 =>
      have J_112 : ∀ (x1_112 : Int32) (x2_112 : Int32) (x3_112 : Int32) (x4_112 : Int32) (x5_112 : Int32) (x6_112 : Int32) (M_112 : zMt), D_X7_waits_112 P (D_X7_waits_50 P u_50) x2_112 x3_112 x4_112 x5_112 M_112 = some r → Zw p l e { frames := 5, cells := 0, slots := 0, locals := 80 * (5) } s m args below meth c G b 7 (MQ below (zQ G b FQ) args s 0 0 (fun q : Nat => b ≤ q)) 0 0 112 [some (.ref (P)), some (.int x1_112), some (.int x2_112), some (.int x3_112), some (.int x4_112), some (.int x5_112), some (.int x6_112)] [] (L, M_112, N) := by
        intro x1_112 x2_112 x3_112 x4_112 x5_112 x6_112 M_112 h
        unfold D_X7_waits_112 at h
        refine a_iinc (v := x5_112 + 1) X dX7_waits_112 (by decide) rfl zi_1 ?_
        refine a_goto (tgt := 50) X dX7_waits_115 (by decide) ?_
        exact Zw.to2 (ih_50 _ _ _ _ _ _ _ h) rfl rfl rfl
      intro x1_50 x2_50 x3_50 x4_50 x5_50 x6_50 M_50 h
      rw [D_X7_waits_50] at h
      refine a_iload X dX7_waits_50 rfl ?_
      refine a_aload_n X dX7_waits_52 rfl ?_
      refine a_getr X lf7_40 (by assumption) rfl (by omega) dX7_waits_53 ?_
      refine a_geti X lf7_140 (by assumption) rfl dX7_waits_56 ?_
      refine a_icmp_ge (tgt := 118) X dX7_waits_59 (by decide) (fun h_59 => ?_) (fun h_59 => ?_)
      · replace h := (if_pos h_59).symm.trans h
        refine a_iload_n X dX7_waits_118 rfl ?_
        refine a_iconst (v := -1) X dX7_waits_119 (by decide) ?_
        refine a_icmp_ne (tgt := 132) X dX7_waits_120 (by decide) (fun h_120 => ?_) (fun h_120 => ?_)
        · replace h := (if_neg h_120).symm.trans h
          refine a_aload_n X dX7_waits_132 rfl ?_
          refine a_iconst (v := 5) X dX7_waits_133 (by decide) ?_
          obtain ⟨e_134, f_134, h⟩ := zBx h
          refine a_callVv X dX7_waits_134 miX7_refuse lm7_102 (t_X7_refuse (by assumption) f_134) (by assumption) rfl rfl rfl (Nat.le_of_ble_eq_true rfl) ⟨by decide, by decide, by decide, by decide⟩ ?_
          exact Zw.to2 (J_137 _ _ _ _ _ _ _ _ h) rfl rfl rfl
        · replace h := (if_pos h_120).symm.trans h
          refine a_aload_n X dX7_waits_123 rfl ?_
          refine a_iload X dX7_waits_124 rfl ?_
          obtain ⟨e_126, f_126, h⟩ := zBx h
          refine a_callVv X dX7_waits_126 miX7_answer lm7_134 (t_X7_answer (by assumption) f_126) (by assumption) rfl rfl rfl (Nat.le_of_ble_eq_true rfl) ⟨by decide, by decide, by decide, by decide⟩ ?_
          refine a_goto (tgt := 137) X dX7_waits_129 (by decide) ?_
          exact Zw.to2 (J_137 _ _ _ _ _ _ _ _ h) rfl rfl rfl
      · replace h := (if_neg h_59).symm.trans h
        refine a_aload_n X dX7_waits_62 rfl ?_
        refine a_getr X lf7_47 (by assumption) rfl (by omega) dX7_waits_63 ?_
        refine a_getr X lf7_244 (by assumption) rfl (by omega) dX7_waits_66 ?_
        refine a_iload X dX7_waits_69 rfl ?_
        refine a_callSv X dX7_waits_71 miX7_cell lm7_175 (c_cell (by assumption) (by first | decide | assumption)) rfl rfl (Nat.le_of_ble_eq_true rfl) ⟨by decide, by decide, by decide, by decide⟩ ?_
        refine a_istore X dX7_waits_74 (by decide) ?_
        refine a_aload_n X dX7_waits_76 rfl ?_
        refine a_getr X lf7_47 (by assumption) rfl (by omega) dX7_waits_77 ?_
        refine a_aload_n X dX7_waits_80 rfl ?_
        refine a_getr X lf7_40 (by assumption) rfl (by omega) dX7_waits_81 ?_
        refine a_iload X dX7_waits_84 rfl ?_
        refine a_iload_n X dX7_waits_86 rfl ?_
        obtain ⟨e_87, f_87, h⟩ := zBx h
        refine a_callVx X dX7_waits_87 miX5_isWaiting lm7_269 (t_X5_isWaiting (by assumption) (by assumption) f_87) (by assumption) rfl rfl rfl (Nat.le_of_ble_eq_true rfl) ⟨by decide, by decide, by decide, by decide⟩ (fun r_87 S_87 q_87 => ?_)
        obtain ⟨rfl, rfl, b_87⟩ := q_87
        refine a_if_ne (tgt := 96) X dX7_waits_90 (by decide) (fun h_90 => ?_) (fun h_90 => ?_)
        · replace h := (if_neg h_90).symm.trans h
          refine a_iload X dX7_waits_96 rfl ?_
          refine a_iload_n X dX7_waits_98 rfl ?_
          refine a_icmp_ne (tgt := 109) X dX7_waits_99 (by decide) (fun h_99 => ?_) (fun h_99 => ?_)
          · replace h := (if_neg h_99).symm.trans h
            refine a_iinc (v := x4_50 + 1) X dX7_waits_109 (by decide) rfl zi_1 ?_
            exact Zw.to2 (J_112 _ _ _ _ _ _ _ h) rfl rfl rfl
          · replace h := (if_pos h_99).symm.trans h
            refine a_aload_n X dX7_waits_102 rfl ?_
            refine a_iload X dX7_waits_103 rfl ?_
            obtain ⟨e_105, f_105, h⟩ := zBx h
            refine a_callVv X dX7_waits_105 miX7_answer lm7_134 (t_X7_answer (by assumption) f_105) (by assumption) rfl rfl rfl (Nat.le_of_ble_eq_true rfl) ⟨by decide, by decide, by decide, by decide⟩ ?_
            refine a_iret X hr dX7_waits_108 ⟨by decide, by decide⟩ ?_
            subst hF
            rw [← Option.some.inj h]
            exact ⟨rfl, rfl⟩
        · replace h := (if_pos h_90).symm.trans h
          refine a_goto (tgt := 112) X dX7_waits_93 (by decide) ?_
          exact Zw.to2 (J_112 _ _ _ _ _ _ _ h) rfl rfl rfl
  have H_50 : ∀ (x1_50 : Int32) (x2_50 : Int32) (x3_50 : Int32) (x4_50 : Int32) (x5_50 : Int32) (x6_50 : Option Value) (M_50 : zMt), D_X7_waits_50 P zFu x2_50 x3_50 x4_50 x5_50 M_50 = some r → Zw p l e { frames := 5, cells := 0, slots := 0, locals := 80 * (5) } s m args below meth c G b 7 (MQ below (zQ G b FQ) args s 0 0 (fun q : Nat => b ≤ q)) 0 0 50 [some (.ref (P)), some (.int x1_50), some (.int x2_50), some (.int x3_50), some (.int x4_50), some (.int x5_50), x6_50] [] (L, M_50, N) := L_50 zFu
  have J_12 : ∀ (x1_12 : Int32) (x2_12 : Int32) (x3_12 : Int32) (x4_12 : Option Value) (x5_12 : Option Value) (x6_12 : Option Value) (M_12 : zMt), D_X7_waits_12 P M_12 = some r → Zw p l e { frames := 5, cells := 0, slots := 0, locals := 80 * (5) } s m args below meth c G b 7 (MQ below (zQ G b FQ) args s 0 0 (fun q : Nat => b ≤ q)) 0 0 12 [some (.ref (P)), some (.int x1_12), some (.int x2_12), some (.int x3_12), x4_12, x5_12, x6_12] [] (L, M_12, N) := by
    intro x1_12 x2_12 x3_12 x4_12 x5_12 x6_12 M_12 h
    unfold D_X7_waits_12 at h
    refine a_aload_n X dX7_waits_12 rfl ?_
    refine a_iconst (v := 1) X dX7_waits_13 (by decide) ?_
    obtain ⟨e_14, f_14, h⟩ := zBx h
    refine a_callVv X dX7_waits_14 miX7_refuse lm7_102 (t_X7_refuse (by assumption) f_14) (by assumption) rfl rfl rfl (Nat.le_of_ble_eq_true rfl) ⟨by decide, by decide, by decide, by decide⟩ ?_
    refine a_iret X hr dX7_waits_17 ⟨by decide, by decide⟩ ?_
    subst hF
    rw [← Option.some.inj h]
    exact ⟨rfl, rfl⟩
  unfold D_X7_waits at h
  refine a_iload_n X dX7_waits_0 rfl ?_
  obtain ⟨e_1, f_1, h⟩ := zBx h
  refine a_callSx X dX7_waits_1 miX7_isSeed lm7_237 (t_X7_isSeed f_1) rfl rfl (Nat.le_of_ble_eq_true rfl) ⟨by decide, by decide, by decide, by decide⟩ (fun r_1 S_1 q_1 => ?_)
  obtain ⟨rfl, rfl, b_1⟩ := q_1
  refine a_if_eq (tgt := 12) X dX7_waits_4 (by decide) (fun h_4 => ?_) (fun h_4 => ?_)
  · replace h := (if_pos h_4).symm.trans h
    exact Zw.to2 (J_12 _ _ _ _ _ _ _ h) rfl rfl rfl
  · replace h := (if_neg h_4).symm.trans h
    refine a_iload_n X dX7_waits_7 rfl ?_
    refine a_iconst (v := -1) X dX7_waits_8 (by decide) ?_
    refine a_icmp_ge (tgt := 18) X dX7_waits_9 (by decide) (fun h_9 => ?_) (fun h_9 => ?_)
    · replace h := (if_pos h_9).symm.trans h
      refine a_aload_n X dX7_waits_18 rfl ?_
      refine a_iload_n X dX7_waits_19 rfl ?_
      obtain ⟨e_20, f_20, h⟩ := zBx h
      refine a_callVx X dX7_waits_20 miX7_isUnit lm7_188 (t_X7_isUnit (by assumption) f_20) (by assumption) rfl rfl rfl (Nat.le_of_ble_eq_true rfl) ⟨by decide, by decide, by decide, by decide⟩ (fun r_20 S_20 q_20 => ?_)
      obtain ⟨rfl, rfl, b_20⟩ := q_20
      refine a_if_ne (tgt := 32) X dX7_waits_23 (by decide) (fun h_23 => ?_) (fun h_23 => ?_)
      · replace h := (if_neg h_23).symm.trans h
        refine a_aload_n X dX7_waits_32 rfl ?_
        refine a_getr X lf7_47 (by assumption) rfl (by omega) dX7_waits_33 ?_
        refine a_aload_n X dX7_waits_36 rfl ?_
        refine a_getr X lf7_40 (by assumption) rfl (by omega) dX7_waits_37 ?_
        refine a_iload_n X dX7_waits_40 rfl ?_
        obtain ⟨e_41, f_41, h⟩ := zBx h
        refine a_callVu X dX7_waits_41 miX5_bySeed lm7_247 (t_X5_bySeed (by assumption) (by assumption) f_41) (by assumption) rfl rfl rfl (Nat.le_of_ble_eq_true rfl) ⟨by decide, by decide, by decide, by decide⟩ ?_
        refine a_iconst (v := 0) X dX7_waits_44 (by decide) ?_
        refine a_istore X dX7_waits_45 (by decide) ?_
        refine a_iconst (v := 0) X dX7_waits_47 (by decide) ?_
        refine a_istore X dX7_waits_48 (by decide) ?_
        exact Zw.to2 (H_50 _ _ _ _ _ _ _ h) rfl rfl rfl
      · replace h := (if_pos h_23).symm.trans h
        refine a_aload_n X dX7_waits_26 rfl ?_
        refine a_iconst (v := 2) X dX7_waits_27 (by decide) ?_
        obtain ⟨e_28, f_28, h⟩ := zBx h
        refine a_callVv X dX7_waits_28 miX7_refuse lm7_102 (t_X7_refuse (by assumption) f_28) (by assumption) rfl rfl rfl (Nat.le_of_ble_eq_true rfl) ⟨by decide, by decide, by decide, by decide⟩ ?_
        refine a_iret X hr dX7_waits_31 ⟨by decide, by decide⟩ ?_
        subst hF
        rw [← Option.some.inj h]
        exact ⟨rfl, rfl⟩
    · replace h := (if_neg h_9).symm.trans h
      exact Zw.to2 (J_12 _ _ _ _ _ _ _ h) rfl rfl rfl
noncomputable def D_X7_next_148 (P : Nat) (k82 : Int32 → Int32 → Int32 → Int32 → zMt → Option (Int32 × zMt)) (x2_148 : Int32) (x4_148 : Int32) (x5_148 : Int32) (x6_148 : Int32) (M_148 : zMt) : Option (Int32 × zMt) :=
  k82 x2_148 x4_148 x5_148 (x6_148 + 1) M_148
noncomputable def D_X7_next_82 (P : Nat) : Nat → Int32 → Int32 → Int32 → Int32 → zMt → Option (Int32 × zMt)
  | 0, _, _, _, _, _ => none
  | n + 1, x2_82, x4_82, x5_82, x6_82, M_82 =>
    if (M_82 (P + 91) 1) ≤ x6_82 then
      zB (D_X7_refuse P (5 : Int32) M_82) fun e_156 =>
      some (e_156.1, e_156.2)
    else
      zB (D_X5_isWaiting (P + 104) (P + 91) M_82 (zrd 0 (M_82 (P + 105)) 10 x6_82) x2_82) fun e_119 =>
      if e_119 = 0 then
        D_X7_next_148 P (D_X7_next_82 P n) x2_82 x4_82 x5_82 x6_82 M_82
      else
        zB (D_X2_fits (P + 91) M_82 (zrd 0 (M_82 (P + 105)) 10 x6_82) x4_82 x5_82) fun e_135 =>
        if e_135 = 0 then
          D_X7_next_148 P (D_X7_next_82 P n) x2_82 x4_82 x5_82 x6_82 M_82
        else
          zB (D_X7_answer P (zrd 0 (M_82 (P + 105)) 10 x6_82) M_82) fun e_144 =>
          some (e_144.1, e_144.2)
noncomputable def D_X7_next_17 (P : Nat) (M_17 : zMt) : Option (Int32 × zMt) :=
  zB (D_X7_refuse P (1 : Int32) M_17) fun e_19 =>
  some (e_19.1, e_19.2)
noncomputable def D_X7_next (P : Nat) (v0 : Int32) (v1 : Int32) (v2 : Int32) (M : zMt) : Option (Int32 × zMt) :=
  zB (D_X7_isSeed v0) fun e_1 =>
  if e_1 = 0 then
    D_X7_next_17 P M
  else
    if v2 < 0 then
      D_X7_next_17 P M
    else
      if v2 ≤ (20 : Int32) then
        zB (D_X7_isUnit P M v1) fun e_25 =>
        if e_25 = 0 then
          zB (D_X7_refuse P (2 : Int32) M) fun e_33 =>
          some (e_33.1, e_33.2)
        else
          zB (D_X5_bySeed (P + 104) (P + 91) v0 M) fun e_46 =>
          D_X7_next_82 P zFu v1 ((zrd 0 (e_46 (P + 108)) 5 v1) + v2) ((zrd 0 (e_46 (P + 109)) 5 v1) + v2) (0 : Int32) e_46
      else
        D_X7_next_17 P M
set_option maxRecDepth 100000 in
set_option maxHeartbeats 4000000 in
theorem t_X7_next {l : Launch} {G : zG} {b : Nat} {L : List zC} {M : zMt} {N : zNt} {P : Nat} {v0 : Int32} {v1 : Int32} {v2 : Int32} (hP : LX7 L P) {r : Int32 × zMt} (h : D_X7_next P v0 v1 v2 M = some r) : zM l G b yX7_next cX7_next 8 (some .int) 5 0 0 [.ref P, .int v0, .int v1, .int v2] (L, M, N) (fun r2 z => r2 = some (.int r.1) ∧ z = (L, r.2, N)) := by
  refine zM.of miX7_next (Nat.le_of_ble_eq_true rfl) ?_
  intro p e s m args below meth c X hr hname
  generalize hF : ((fun r2 z => r2 = some (.int r.1) ∧ z = (L, r.2, N)) : Option Value → zS → Prop) = FQ
  change Zw p l e { frames := 5, cells := 0, slots := 0, locals := 80 * (5) } s m args below meth c G b 8 (MQ below (zQ G b FQ) args s 0 0 (fun q : Nat => b ≤ q)) 0 0 0 [some (.ref P), some (.int v0), some (.int v1), some (.int v2), none, none, none, none] [] (L, M, N)
  obtain ⟨p_lt, p_o, p_tape, p_out, p_reader, p_list, p_past, p_pool, p_result, p_odds, p_paper, p_trial, p_trialPool, p_trialResult, p_trialOdds⟩ := id hP
  obtain ⟨p_reader_lt, p_reader_o, p_reader_draft, p_reader_text, p_reader_unitNames, p_reader_hunterNames, p_reader_partyNames, p_reader_asked⟩ := id p_reader
  obtain ⟨p_list_lt, p_list_o, p_list_quota, p_list_score, p_list_guest, p_list_party, p_list_wishCount, p_list_wishes, p_list_has⟩ := id p_list
  obtain ⟨p_past_lt, p_past_o, p_past_stood, p_past_stood0, p_past_stood1, p_past_stood2, p_past_stood3, p_past_stood4, p_past_stood5, p_past_stood6, p_past_stood7⟩ := id p_past
  obtain ⟨p_pool_lt, p_pool_o, p_pool_quota, p_pool_preferred, p_pool_forGuests, p_pool_applicantOf, p_pool_size, p_pool_guestCount, p_pool_score, p_pool_tickets, p_pool_bits, p_pool_party, p_pool_wishCount, p_pool_wishes⟩ := id p_pool
  obtain ⟨p_result_lt, p_result_o, p_result_line, p_result_unitOf, p_result_roundOf, p_result_leftTags, p_result_leftGuests, p_result_leftPreferred, p_result_ranked⟩ := id p_result
  obtain ⟨p_odds_lt, p_odds_o, p_odds_sets, p_odds_seen, p_odds_atUnit, p_odds_early, p_odds_result⟩ := id p_odds
  obtain ⟨p_paper_lt, p_paper_o, p_paper_times, p_paper_firstWish, p_paper_dry, p_paper_list, p_paper_pool, p_paper_result⟩ := id p_paper
  obtain ⟨p_trial_lt, p_trial_o, p_trial_quota, p_trial_score, p_trial_guest, p_trial_party, p_trial_wishCount, p_trial_wishes, p_trial_has⟩ := id p_trial
  obtain ⟨p_trialPool_lt, p_trialPool_o, p_trialPool_quota, p_trialPool_preferred, p_trialPool_forGuests, p_trialPool_applicantOf, p_trialPool_size, p_trialPool_guestCount, p_trialPool_score, p_trialPool_tickets, p_trialPool_bits, p_trialPool_party, p_trialPool_wishCount, p_trialPool_wishes⟩ := id p_trialPool
  obtain ⟨p_trialResult_lt, p_trialResult_o, p_trialResult_line, p_trialResult_unitOf, p_trialResult_roundOf, p_trialResult_leftTags, p_trialResult_leftGuests, p_trialResult_leftPreferred, p_trialResult_ranked⟩ := id p_trialResult
  obtain ⟨p_trialOdds_lt, p_trialOdds_o, p_trialOdds_sets, p_trialOdds_seen, p_trialOdds_atUnit, p_trialOdds_early, p_trialOdds_result⟩ := id p_trialOdds
  have L_82 : ∀ u : Nat, ∀ (x1_82 : Int32) (x2_82 : Int32) (x3_82 : Int32) (x4_82 : Int32) (x5_82 : Int32) (x6_82 : Int32) (x7_82 : Option Value) (M_82 : zMt), D_X7_next_82 P u x2_82 x4_82 x5_82 x6_82 M_82 = some r → Zw p l e { frames := 5, cells := 0, slots := 0, locals := 80 * (5) } s m args below meth c G b 8 (MQ below (zQ G b FQ) args s 0 0 (fun q : Nat => b ≤ q)) 0 0 82 [some (.ref (P)), some (.int x1_82), some (.int x2_82), some (.int x3_82), some (.int x4_82), some (.int x5_82), some (.int x6_82), x7_82] [] (L, M_82, N) := by
    intro u
    induction u with
    | zero => intro x1_82 x2_82 x3_82 x4_82 x5_82 x6_82 x7_82 M_82 h; cases (show none = some r from h)
    | succ u_82 ih_82 =>
      have J_148 : ∀ (x1_148 : Int32) (x2_148 : Int32) (x3_148 : Int32) (x4_148 : Int32) (x5_148 : Int32) (x6_148 : Int32) (x7_148 : Int32) (M_148 : zMt), D_X7_next_148 P (D_X7_next_82 P u_82) x2_148 x4_148 x5_148 x6_148 M_148 = some r → Zw p l e { frames := 5, cells := 0, slots := 0, locals := 80 * (5) } s m args below meth c G b 8 (MQ below (zQ G b FQ) args s 0 0 (fun q : Nat => b ≤ q)) 0 0 148 [some (.ref (P)), some (.int x1_148), some (.int x2_148), some (.int x3_148), some (.int x4_148), some (.int x5_148), some (.int x6_148), some (.int x7_148)] [] (L, M_148, N) := by
        intro x1_148 x2_148 x3_148 x4_148 x5_148 x6_148 x7_148 M_148 h
        unfold D_X7_next_148 at h
        refine a_iinc (v := x6_148 + 1) X dX7_next_148 (by decide) rfl zi_1 ?_
        refine a_goto (tgt := 82) X dX7_next_151 (by decide) ?_
        exact Zw.to2 (ih_82 _ _ _ _ _ _ _ _ h) rfl rfl rfl
      intro x1_82 x2_82 x3_82 x4_82 x5_82 x6_82 x7_82 M_82 h
      rw [D_X7_next_82] at h
      refine a_iload X dX7_next_82 rfl ?_
      refine a_aload_n X dX7_next_84 rfl ?_
      refine a_getr X lf7_40 (by assumption) rfl (by omega) dX7_next_85 ?_
      refine a_geti X lf7_140 (by assumption) rfl dX7_next_88 ?_
      refine a_icmp_ge (tgt := 154) X dX7_next_91 (by decide) (fun h_91 => ?_) (fun h_91 => ?_)
      · replace h := (if_pos h_91).symm.trans h
        refine a_aload_n X dX7_next_154 rfl ?_
        refine a_iconst (v := 5) X dX7_next_155 (by decide) ?_
        obtain ⟨e_156, f_156, h⟩ := zBx h
        refine a_callVv X dX7_next_156 miX7_refuse lm7_102 (t_X7_refuse (by assumption) f_156) (by assumption) rfl rfl rfl (Nat.le_of_ble_eq_true rfl) ⟨by decide, by decide, by decide, by decide⟩ ?_
        refine a_iret X hr dX7_next_159 ⟨by decide, by decide⟩ ?_
        subst hF
        rw [← Option.some.inj h]
        exact ⟨rfl, rfl⟩
      · replace h := (if_neg h_91).symm.trans h
        refine a_aload_n X dX7_next_94 rfl ?_
        refine a_getr X lf7_47 (by assumption) rfl (by omega) dX7_next_95 ?_
        refine a_getr X lf7_244 (by assumption) rfl (by omega) dX7_next_98 ?_
        refine a_iload X dX7_next_101 rfl ?_
        refine a_callSv X dX7_next_103 miX7_cell lm7_175 (c_cell (by assumption) (by first | decide | assumption)) rfl rfl (Nat.le_of_ble_eq_true rfl) ⟨by decide, by decide, by decide, by decide⟩ ?_
        refine a_istore X dX7_next_106 (by decide) ?_
        refine a_aload_n X dX7_next_108 rfl ?_
        refine a_getr X lf7_47 (by assumption) rfl (by omega) dX7_next_109 ?_
        refine a_aload_n X dX7_next_112 rfl ?_
        refine a_getr X lf7_40 (by assumption) rfl (by omega) dX7_next_113 ?_
        refine a_iload X dX7_next_116 rfl ?_
        refine a_iload_n X dX7_next_118 rfl ?_
        obtain ⟨e_119, f_119, h⟩ := zBx h
        refine a_callVx X dX7_next_119 miX5_isWaiting lm7_269 (t_X5_isWaiting (by assumption) (by assumption) f_119) (by assumption) rfl rfl rfl (Nat.le_of_ble_eq_true rfl) ⟨by decide, by decide, by decide, by decide⟩ (fun r_119 S_119 q_119 => ?_)
        obtain ⟨rfl, rfl, b_119⟩ := q_119
        refine a_if_eq (tgt := 148) X dX7_next_122 (by decide) (fun h_122 => ?_) (fun h_122 => ?_)
        · replace h := (if_pos h_122).symm.trans h
          exact Zw.to2 (J_148 _ _ _ _ _ _ _ _ h) rfl rfl rfl
        · replace h := (if_neg h_122).symm.trans h
          refine a_aload_n X dX7_next_125 rfl ?_
          refine a_getr X lf7_40 (by assumption) rfl (by omega) dX7_next_126 ?_
          refine a_iload X dX7_next_129 rfl ?_
          refine a_iload X dX7_next_131 rfl ?_
          refine a_iload X dX7_next_133 rfl ?_
          obtain ⟨e_135, f_135, h⟩ := zBx h
          refine a_callVx X dX7_next_135 miX2_fits lm7_273 (t_X2_fits (by assumption) f_135) (by assumption) rfl rfl rfl (Nat.le_of_ble_eq_true rfl) ⟨by decide, by decide, by decide, by decide⟩ (fun r_135 S_135 q_135 => ?_)
          obtain ⟨rfl, rfl, b_135⟩ := q_135
          refine a_if_eq (tgt := 148) X dX7_next_138 (by decide) (fun h_138 => ?_) (fun h_138 => ?_)
          · replace h := (if_pos h_138).symm.trans h
            exact Zw.to2 (J_148 _ _ _ _ _ _ _ _ h) rfl rfl rfl
          · replace h := (if_neg h_138).symm.trans h
            refine a_aload_n X dX7_next_141 rfl ?_
            refine a_iload X dX7_next_142 rfl ?_
            obtain ⟨e_144, f_144, h⟩ := zBx h
            refine a_callVv X dX7_next_144 miX7_answer lm7_134 (t_X7_answer (by assumption) f_144) (by assumption) rfl rfl rfl (Nat.le_of_ble_eq_true rfl) ⟨by decide, by decide, by decide, by decide⟩ ?_
            refine a_iret X hr dX7_next_147 ⟨by decide, by decide⟩ ?_
            subst hF
            rw [← Option.some.inj h]
            exact ⟨rfl, rfl⟩
  have H_82 : ∀ (x1_82 : Int32) (x2_82 : Int32) (x3_82 : Int32) (x4_82 : Int32) (x5_82 : Int32) (x6_82 : Int32) (x7_82 : Option Value) (M_82 : zMt), D_X7_next_82 P zFu x2_82 x4_82 x5_82 x6_82 M_82 = some r → Zw p l e { frames := 5, cells := 0, slots := 0, locals := 80 * (5) } s m args below meth c G b 8 (MQ below (zQ G b FQ) args s 0 0 (fun q : Nat => b ≤ q)) 0 0 82 [some (.ref (P)), some (.int x1_82), some (.int x2_82), some (.int x3_82), some (.int x4_82), some (.int x5_82), some (.int x6_82), x7_82] [] (L, M_82, N) := L_82 zFu
  have J_17 : ∀ (x1_17 : Int32) (x2_17 : Int32) (x3_17 : Int32) (x4_17 : Option Value) (x5_17 : Option Value) (x6_17 : Option Value) (x7_17 : Option Value) (M_17 : zMt), D_X7_next_17 P M_17 = some r → Zw p l e { frames := 5, cells := 0, slots := 0, locals := 80 * (5) } s m args below meth c G b 8 (MQ below (zQ G b FQ) args s 0 0 (fun q : Nat => b ≤ q)) 0 0 17 [some (.ref (P)), some (.int x1_17), some (.int x2_17), some (.int x3_17), x4_17, x5_17, x6_17, x7_17] [] (L, M_17, N) := by
    intro x1_17 x2_17 x3_17 x4_17 x5_17 x6_17 x7_17 M_17 h
    unfold D_X7_next_17 at h
    refine a_aload_n X dX7_next_17 rfl ?_
    refine a_iconst (v := 1) X dX7_next_18 (by decide) ?_
    obtain ⟨e_19, f_19, h⟩ := zBx h
    refine a_callVv X dX7_next_19 miX7_refuse lm7_102 (t_X7_refuse (by assumption) f_19) (by assumption) rfl rfl rfl (Nat.le_of_ble_eq_true rfl) ⟨by decide, by decide, by decide, by decide⟩ ?_
    refine a_iret X hr dX7_next_22 ⟨by decide, by decide⟩ ?_
    subst hF
    rw [← Option.some.inj h]
    exact ⟨rfl, rfl⟩
  unfold D_X7_next at h
  refine a_iload_n X dX7_next_0 rfl ?_
  obtain ⟨e_1, f_1, h⟩ := zBx h
  refine a_callSx X dX7_next_1 miX7_isSeed lm7_237 (t_X7_isSeed f_1) rfl rfl (Nat.le_of_ble_eq_true rfl) ⟨by decide, by decide, by decide, by decide⟩ (fun r_1 S_1 q_1 => ?_)
  obtain ⟨rfl, rfl, b_1⟩ := q_1
  refine a_if_eq (tgt := 17) X dX7_next_4 (by decide) (fun h_4 => ?_) (fun h_4 => ?_)
  · replace h := (if_pos h_4).symm.trans h
    exact Zw.to2 (J_17 _ _ _ _ _ _ _ _ h) rfl rfl rfl
  · replace h := (if_neg h_4).symm.trans h
    refine a_iload_n X dX7_next_7 rfl ?_
    refine a_if_lt (tgt := 17) X dX7_next_8 (by decide) (fun h_8 => ?_) (fun h_8 => ?_)
    · replace h := (if_pos h_8).symm.trans h
      exact Zw.to2 (J_17 _ _ _ _ _ _ _ _ h) rfl rfl rfl
    · replace h := (if_neg h_8).symm.trans h
      refine a_iload_n X dX7_next_11 rfl ?_
      refine a_bipush (v := 20) X dX7_next_12 (by decide) ?_
      refine a_icmp_le (tgt := 23) X dX7_next_14 (by decide) (fun h_14 => ?_) (fun h_14 => ?_)
      · replace h := (if_pos h_14).symm.trans h
        refine a_aload_n X dX7_next_23 rfl ?_
        refine a_iload_n X dX7_next_24 rfl ?_
        obtain ⟨e_25, f_25, h⟩ := zBx h
        refine a_callVx X dX7_next_25 miX7_isUnit lm7_188 (t_X7_isUnit (by assumption) f_25) (by assumption) rfl rfl rfl (Nat.le_of_ble_eq_true rfl) ⟨by decide, by decide, by decide, by decide⟩ (fun r_25 S_25 q_25 => ?_)
        obtain ⟨rfl, rfl, b_25⟩ := q_25
        refine a_if_ne (tgt := 37) X dX7_next_28 (by decide) (fun h_28 => ?_) (fun h_28 => ?_)
        · replace h := (if_neg h_28).symm.trans h
          refine a_aload_n X dX7_next_37 rfl ?_
          refine a_getr X lf7_47 (by assumption) rfl (by omega) dX7_next_38 ?_
          refine a_aload_n X dX7_next_41 rfl ?_
          refine a_getr X lf7_40 (by assumption) rfl (by omega) dX7_next_42 ?_
          refine a_iload_n X dX7_next_45 rfl ?_
          obtain ⟨e_46, f_46, h⟩ := zBx h
          refine a_callVu X dX7_next_46 miX5_bySeed lm7_247 (t_X5_bySeed (by assumption) (by assumption) f_46) (by assumption) rfl rfl rfl (Nat.le_of_ble_eq_true rfl) ⟨by decide, by decide, by decide, by decide⟩ ?_
          refine a_aload_n X dX7_next_49 rfl ?_
          refine a_getr X lf7_47 (by assumption) rfl (by omega) dX7_next_50 ?_
          refine a_getr X lf7_256 (by assumption) rfl (by omega) dX7_next_53 ?_
          refine a_iload_n X dX7_next_56 rfl ?_
          refine a_callSv X dX7_next_57 miX7_cell lm7_175 (c_cell (by assumption) (by first | decide | assumption)) rfl rfl (Nat.le_of_ble_eq_true rfl) ⟨by decide, by decide, by decide, by decide⟩ ?_
          refine a_iload_n X dX7_next_60 rfl ?_
          refine a_iadd X dX7_next_61 ?_
          refine a_istore X dX7_next_62 (by decide) ?_
          refine a_aload_n X dX7_next_64 rfl ?_
          refine a_getr X lf7_47 (by assumption) rfl (by omega) dX7_next_65 ?_
          refine a_getr X lf7_259 (by assumption) rfl (by omega) dX7_next_68 ?_
          refine a_iload_n X dX7_next_71 rfl ?_
          refine a_callSv X dX7_next_72 miX7_cell lm7_175 (c_cell (by assumption) (by first | decide | assumption)) rfl rfl (Nat.le_of_ble_eq_true rfl) ⟨by decide, by decide, by decide, by decide⟩ ?_
          refine a_iload_n X dX7_next_75 rfl ?_
          refine a_iadd X dX7_next_76 ?_
          refine a_istore X dX7_next_77 (by decide) ?_
          refine a_iconst (v := 0) X dX7_next_79 (by decide) ?_
          refine a_istore X dX7_next_80 (by decide) ?_
          exact Zw.to2 (H_82 _ _ _ _ _ _ _ _ h) rfl rfl rfl
        · replace h := (if_pos h_28).symm.trans h
          refine a_aload_n X dX7_next_31 rfl ?_
          refine a_iconst (v := 2) X dX7_next_32 (by decide) ?_
          obtain ⟨e_33, f_33, h⟩ := zBx h
          refine a_callVv X dX7_next_33 miX7_refuse lm7_102 (t_X7_refuse (by assumption) f_33) (by assumption) rfl rfl rfl (Nat.le_of_ble_eq_true rfl) ⟨by decide, by decide, by decide, by decide⟩ ?_
          refine a_iret X hr dX7_next_36 ⟨by decide, by decide⟩ ?_
          subst hF
          rw [← Option.some.inj h]
          exact ⟨rfl, rfl⟩
      · replace h := (if_neg h_14).symm.trans h
        exact Zw.to2 (J_17 _ _ _ _ _ _ _ _ h) rfl rfl rfl
