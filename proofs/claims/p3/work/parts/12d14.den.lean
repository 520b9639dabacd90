noncomputable def D_X7_wiseChance_22 (P : Nat) : Nat → Int32 → Int64 → Int32 → zMt → zNt → Option (Int64 × zMt × zNt)
  | 0, _, _, _, _, _ => none
  | n + 1, x1_22, x3_22, x5_22, M_22, N_22 =>
    if (M_22 (P + 17) 0) ≤ x5_22 then
      zB (D_X7_answerParts P x3_22 M_22) fun e_54 =>
      some (e_54.1, e_54.2, N_22)
    else
      zB (D_X7_partsOfOnly P x1_22 x5_22 M_22 N_22) fun e_39 =>
      (D_X7_wiseChance_22 P n) x1_22 (if e_39.1 < x3_22 then x3_22 else e_39.1) (x5_22 + 1) e_39.2.1 e_39.2.2
noncomputable def D_X7_wiseChance (P : Nat) (v0 : Int32) (M : zMt) (N : zNt) : Option (Int64 × zMt × zNt) :=
  zB (D_X7_whyNotWise P M v0) fun e_2 =>
  if e_2 = 0 then
    D_X7_wiseChance_22 P zFu v0 (0 : Int64) (0 : Int32) M N
  else
    zB (D_X7_refuse P e_2 M) fun e_12 =>
    some ((Int32.toInt64 e_12.1), e_12.2, N)
set_option maxRecDepth 100000 in
set_option maxHeartbeats 4000000 in
theorem t_X7_wiseChance {l : Launch} {G : zG} {b : Nat} {L : List zC} {M : zMt} {N : zNt} {P : Nat} (hP : LX7 L P) {v0 : Int32} {r : Int64 × zMt × zNt} (h : D_X7_wiseChance P v0 M N = some r) : zM l G b yX7_wiseChance cX7_wiseChance 6 (some .long) 15 0 0 [.ref P, .int v0] (L, M, N) (fun r2 z => r2 = some (.long r.1) ∧ z = (L, r.2.1, r.2.2)) := by
  refine zM.of miX7_wiseChance (Nat.le_of_ble_eq_true rfl) ?_
  intro p e s m args below meth c X hr hname
  generalize hF : ((fun r2 z => r2 = some (.long r.1) ∧ z = (L, r.2.1, r.2.2)) : Option Value → zS → Prop) = FQ
  change Zw p l e { frames := 15, cells := 0, slots := 0, locals := 80 * (15) } s m args below meth c G b 6 (MQ below (zQ G b FQ) args s 0 0 (fun q : Nat => b ≤ q)) 0 0 0 [some (.ref P), some (.int v0), none, none, none, none] [] (L, M, N)
  obtain ⟨p_lt, p_o, p_tape, p_out, p_reader, p_list, p_past, p_pool, p_result, p_odds, p_paper, p_trial, p_trialPool, p_trialResult, p_trialOdds⟩ := id hP
  obtain ⟨p_reader_lt, p_reader_o, p_reader_draft, p_reader_text, p_reader_unitNames, p_reader_hunterNames, p_reader_partyNames, p_reader_asked⟩ := id p_reader
  obtain ⟨p_list_lt, p_list_o, p_list_quota, p_list_score, p_list_guest, p_list_party, p_list_wishCount, p_list_wishes, p_list_has⟩ := id p_list
  obtain ⟨p_past_lt, p_past_o, p_past_stood, p_past_stood0, p_past_stood1, p_past_stood2, p_past_stood3, p_past_stood4, p_past_stood5, p_past_stood6, p_past_stood7⟩ := id p_past
  obtain ⟨p_pool_lt, p_pool_o, p_pool_quota, p_pool_preferred, p_pool_forGuests, p_pool_applicantOf, p_pool_size, p_pool_guestCount, p_pool_score, p_pool_tickets, p_pool_bits, p_pool_party, p_pool_wishCount, p_pool_wishes⟩ := id p_pool
  obtain ⟨p_result_lt, p_result_o, p_result_line, p_result_unitOf, p_result_roundOf, p_result_leftTags, p_result_leftGuests, p_result_leftPreferred, p_result_ranked⟩ := id p_result
  obtain ⟨p_odds_lt, p_odds_o, p_odds_sets, p_odds_seen, p_odds_atUnit, p_odds_early, p_odds_result⟩ := id p_odds
  obtain ⟨p_paper_lt, p_paper_o, p_paper_times, p_paper_firstWish, p_paper_dry, p_paper_list, p_paper_pool, p_paper_result⟩ := id p_paper
  obtain ⟨p_trial_lt, p_trial_o, p_trial_quota, p_trial_score, p_trial_guest, p_trial_party, p_trial_wishCount, p_trial_wishes, p_trial_has⟩ := id p_trial
  obtain ⟨p_trialPool_lt, p_trialPool_o, p_trialPool_quota, p_trialPool_preferred, p_trialPool_forGuests, p_trialPool_applicantOf, p_trialPool_size, p_trialPool_guestCount, p_trialPool_score, p_trialPool_tickets, p_trialPool_bits, p_trialPool_party, p_trialPool_wishCount, p_trialPool_wishes⟩ := id p_trialPool
  obtain ⟨p_trialResult_lt, p_trialResult_o, p_trialResult_line, p_trialResult_unitOf, p_trialResult_roundOf, p_trialResult_leftTags, p_trialResult_leftGuests, p_trialResult_leftPreferred, p_trialResult_ranked⟩ := id p_trialResult
  obtain ⟨p_trialOdds_lt, p_trialOdds_o, p_trialOdds_sets, p_trialOdds_seen, p_trialOdds_atUnit, p_trialOdds_early, p_trialOdds_result⟩ := id p_trialOdds
  have L_22 : ∀ u : Nat, ∀ (x1_22 : Int32) (x2_22 : Int32) (x3_22 : Int64) (x5_22 : Int32) (M_22 : zMt) (N_22 : zNt), D_X7_wiseChance_22 P u x1_22 x3_22 x5_22 M_22 N_22 = some r → Zw p l e { frames := 15, cells := 0, slots := 0, locals := 80 * (15) } s m args below meth c G b 6 (MQ below (zQ G b FQ) args s 0 0 (fun q : Nat => b ≤ q)) 0 0 22 [some (.ref (P)), some (.int x1_22), some (.int x2_22), some (.long x3_22), none, some (.int x5_22)] [] (L, M_22, N_22) := by
    intro u
    induction u with
    | zero => intro x1_22 x2_22 x3_22 x5_22 M_22 N_22 h; cases (show none = some r from h)
    | succ u_22 ih_22 =>
      intro x1_22 x2_22 x3_22 x5_22 M_22 N_22 h
      rw [D_X7_wiseChance_22] at h
      refine a_iload X dX7_wiseChance_22 rfl ?_
      refine a_aload_n X dX7_wiseChance_24 rfl ?_
      refine a_getr X lf7_26 (by assumption) rfl (by omega) dX7_wiseChance_25 ?_
      refine a_geti X lf7_131 (by assumption) rfl dX7_wiseChance_28 ?_
      refine a_icmp_ge (tgt := 52) X dX7_wiseChance_31 (by decide) (fun h_31 => ?_) (fun h_31 => ?_)
      · replace h := (if_pos h_31).symm.trans h
        refine a_aload_n X dX7_wiseChance_52 rfl ?_
        refine a_lload_n X dX7_wiseChance_53 rfl ?_
        obtain ⟨e_54, f_54, h⟩ := zBx h
        refine a_callVv X dX7_wiseChance_54 miX7_answerParts lm7_303 (t_X7_answerParts (by assumption) f_54) (by assumption) rfl rfl rfl (Nat.le_of_ble_eq_true rfl) ⟨by decide, by decide, by decide, by decide⟩ ?_
        refine a_lret X hr dX7_wiseChance_57 ⟨by decide, by decide⟩ ?_
        subst hF
        rw [← Option.some.inj h]
        exact ⟨rfl, rfl⟩
      · replace h := (if_neg h_31).symm.trans h
        refine a_lload_n X dX7_wiseChance_34 rfl ?_
        refine a_aload_n X dX7_wiseChance_35 rfl ?_
        refine a_iload_n X dX7_wiseChance_36 rfl ?_
        refine a_iload X dX7_wiseChance_37 rfl ?_
        obtain ⟨e_39, f_39, h⟩ := zBx h
        refine a_callVv X dX7_wiseChance_39 miX7_partsOfOnly lm7_349 (t_X7_partsOfOnly (by assumption) f_39) (by assumption) rfl rfl rfl (Nat.le_of_ble_eq_true rfl) ⟨by decide, by decide, by decide, by decide⟩ ?_
        refine a_mmaxl X lm7_352 zmath3 zmath0 zmathc3 ⟨by decide, Nat.le_of_ble_eq_true rfl, by decide, by decide⟩ dX7_wiseChance_42 ?_
        refine a_lstore_n X dX7_wiseChance_45 (by decide) ?_
        refine a_iinc (v := x5_22 + 1) X dX7_wiseChance_46 (by decide) rfl zi_1 ?_
        refine a_goto (tgt := 22) X dX7_wiseChance_49 (by decide) ?_
        exact Zw.to2 (ih_22 _ _ _ _ _ _ h) rfl rfl rfl
  have H_22 : ∀ (x1_22 : Int32) (x2_22 : Int32) (x3_22 : Int64) (x5_22 : Int32) (M_22 : zMt) (N_22 : zNt), D_X7_wiseChance_22 P zFu x1_22 x3_22 x5_22 M_22 N_22 = some r → Zw p l e { frames := 15, cells := 0, slots := 0, locals := 80 * (15) } s m args below meth c G b 6 (MQ below (zQ G b FQ) args s 0 0 (fun q : Nat => b ≤ q)) 0 0 22 [some (.ref (P)), some (.int x1_22), some (.int x2_22), some (.long x3_22), none, some (.int x5_22)] [] (L, M_22, N_22) := L_22 zFu
  unfold D_X7_wiseChance at h
  refine a_aload_n X dX7_wiseChance_0 rfl ?_
  refine a_iload_n X dX7_wiseChance_1 rfl ?_
  obtain ⟨e_2, f_2, h⟩ := zBx h
  refine a_callVv X dX7_wiseChance_2 miX7_whyNotWise lm7_344 (t_X7_whyNotWise (by assumption) f_2) (by assumption) rfl rfl rfl (Nat.le_of_ble_eq_true rfl) ⟨by decide, by decide, by decide, by decide⟩ ?_
  refine a_istore_n X dX7_wiseChance_5 (by decide) ?_
  refine a_iload_n X dX7_wiseChance_6 rfl ?_
  refine a_if_eq (tgt := 17) X dX7_wiseChance_7 (by decide) (fun h_7 => ?_) (fun h_7 => ?_)
  · replace h := (if_pos h_7).symm.trans h
    refine a_lconst (v := 0) X dX7_wiseChance_17 (by decide) ?_
    refine a_lstore_n X dX7_wiseChance_18 (by decide) ?_
    refine a_iconst (v := 0) X dX7_wiseChance_19 (by decide) ?_
    refine a_istore X dX7_wiseChance_20 (by decide) ?_
    exact Zw.to2 (H_22 _ _ _ _ _ _ h) rfl rfl rfl
  · replace h := (if_neg h_7).symm.trans h
    refine a_aload_n X dX7_wiseChance_10 rfl ?_
    refine a_iload_n X dX7_wiseChance_11 rfl ?_
    obtain ⟨e_12, f_12, h⟩ := zBx h
    refine a_callVv X dX7_wiseChance_12 miX7_refuse lm7_102 (t_X7_refuse (by assumption) f_12) (by assumption) rfl rfl rfl (Nat.le_of_ble_eq_true rfl) ⟨by decide, by decide, by decide, by decide⟩ ?_
    refine a_i2l X dX7_wiseChance_15 ?_
    refine a_lret X hr dX7_wiseChance_16 ⟨by decide, by decide⟩ ?_
    subst hF
    rw [← Option.some.inj h]
    exact ⟨rfl, rfl⟩
noncomputable def D_X7_together_65 (P : Nat) (M_65 : zMt) (N_65 : zNt) : Option (Int64 × zMt × zNt) :=
  zB (D_X7_refuse P (7 : Int32) M_65) fun e_68 =>
  some ((Int32.toInt64 e_68.1), e_68.2, N_65)
noncomputable def D_X7_together_16 (P : Nat) (M_16 : zMt) (N_16 : zNt) : Option (Int64 × zMt × zNt) :=
  zB (D_X7_refuse P (2 : Int32) M_16) fun e_18 =>
  some ((Int32.toInt64 e_18.1), e_18.2, N_16)
noncomputable def D_X7_together (P : Nat) (v0 : Int32) (v1 : Int32) (M : zMt) (N : zNt) : Option (Int64 × zMt × zNt) :=
  zB (D_X7_isHunter P M v0) fun e_2 =>
  if e_2 = 0 then
    D_X7_together_16 P M N
  else
    zB (D_X7_isHunter P M v1) fun e_10 =>
    if e_10 = 0 then
      D_X7_together_16 P M N
    else
      if v0 = v1 then
        zB (D_X7_refuse P (4 : Int32) M) fun e_30 =>
        some ((Int32.toInt64 e_30.1), e_30.2, N)
      else
        if (zrd 0 (M (P + 21)) 10 v0) = (-1 : Int32) then
          if (zrd 0 (M (P + 21)) 10 v1) = (-1 : Int32) then
            if (M (P + 91) 1) ≤ (8 : Int32) then
              zB (D_X4_take (P + 158) (P + 17) M) fun e_100 =>
              zB (D_X4_join (P + 158) v0 v1 e_100) fun e_109 =>
              zB (D_X2_gather (P + 166) (P + 158) e_109) fun e_120 =>
              zB (D_X0_reckon (P + 187) (P + 166) e_120 N) fun e_131 =>
              zB (D_X0_anyUnit (P + 187) e_131.2 (zrd 0 (e_131.1 (P + 170)) 10 v0)) fun e_150 =>
              zB (D_X7_answerParts P e_150 e_131.1) fun e_153 =>
              some (e_153.1, e_153.2, e_131.2)
            else
              zB (D_X7_refuse P (3 : Int32) M) fun e_87 =>
              some ((Int32.toInt64 e_87.1), e_87.2, N)
          else
            D_X7_together_65 P M N
        else
          D_X7_together_65 P M N
set_option maxRecDepth 100000 in
set_option maxHeartbeats 4000000 in
theorem t_X7_together {l : Launch} {G : zG} {b : Nat} {L : List zC} {M : zMt} {N : zNt} {P : Nat} (hP : LX7 L P) {v0 : Int32} {v1 : Int32} {r : Int64 × zMt × zNt} (h : D_X7_together P v0 v1 M N = some r) : zM l G b yX7_together cX7_together 3 (some .long) 14 0 0 [.ref P, .int v0, .int v1] (L, M, N) (fun r2 z => r2 = some (.long r.1) ∧ z = (L, r.2.1, r.2.2)) := by
  refine zM.of miX7_together (Nat.le_of_ble_eq_true rfl) ?_
  intro p e s m args below meth c X hr hname
  generalize hF : ((fun r2 z => r2 = some (.long r.1) ∧ z = (L, r.2.1, r.2.2)) : Option Value → zS → Prop) = FQ
  change Zw p l e { frames := 14, cells := 0, slots := 0, locals := 80 * (14) } s m args below meth c G b 3 (MQ below (zQ G b FQ) args s 0 0 (fun q : Nat => b ≤ q)) 0 0 0 [some (.ref P), some (.int v0), some (.int v1)] [] (L, M, N)
  obtain ⟨p_lt, p_o, p_tape, p_out, p_reader, p_list, p_past, p_pool, p_result, p_odds, p_paper, p_trial, p_trialPool, p_trialResult, p_trialOdds⟩ := id hP
  obtain ⟨p_reader_lt, p_reader_o, p_reader_draft, p_reader_text, p_reader_unitNames, p_reader_hunterNames, p_reader_partyNames, p_reader_asked⟩ := id p_reader
  obtain ⟨p_list_lt, p_list_o, p_list_quota, p_list_score, p_list_guest, p_list_party, p_list_wishCount, p_list_wishes, p_list_has⟩ := id p_list
  obtain ⟨p_past_lt, p_past_o, p_past_stood, p_past_stood0, p_past_stood1, p_past_stood2, p_past_stood3, p_past_stood4, p_past_stood5, p_past_stood6, p_past_stood7⟩ := id p_past
  obtain ⟨p_pool_lt, p_pool_o, p_pool_quota, p_pool_preferred, p_pool_forGuests, p_pool_applicantOf, p_pool_size, p_pool_guestCount, p_pool_score, p_pool_tickets, p_pool_bits, p_pool_party, p_pool_wishCount, p_pool_wishes⟩ := id p_pool
  obtain ⟨p_result_lt, p_result_o, p_result_line, p_result_unitOf, p_result_roundOf, p_result_leftTags, p_result_leftGuests, p_result_leftPreferred, p_result_ranked⟩ := id p_result
  obtain ⟨p_odds_lt, p_odds_o, p_odds_sets, p_odds_seen, p_odds_atUnit, p_odds_early, p_odds_result⟩ := id p_odds
  obtain ⟨p_paper_lt, p_paper_o, p_paper_times, p_paper_firstWish, p_paper_dry, p_paper_list, p_paper_pool, p_paper_result⟩ := id p_paper
  obtain ⟨p_trial_lt, p_trial_o, p_trial_quota, p_trial_score, p_trial_guest, p_trial_party, p_trial_wishCount, p_trial_wishes, p_trial_has⟩ := id p_trial
  obtain ⟨p_trialPool_lt, p_trialPool_o, p_trialPool_quota, p_trialPool_preferred, p_trialPool_forGuests, p_trialPool_applicantOf, p_trialPool_size, p_trialPool_guestCount, p_trialPool_score, p_trialPool_tickets, p_trialPool_bits, p_trialPool_party, p_trialPool_wishCount, p_trialPool_wishes⟩ := id p_trialPool
  obtain ⟨p_trialResult_lt, p_trialResult_o, p_trialResult_line, p_trialResult_unitOf, p_trialResult_roundOf, p_trialResult_leftTags, p_trialResult_leftGuests, p_trialResult_leftPreferred, p_trialResult_ranked⟩ := id p_trialResult
  obtain ⟨p_trialOdds_lt, p_trialOdds_o, p_trialOdds_sets, p_trialOdds_seen, p_trialOdds_atUnit, p_trialOdds_early, p_trialOdds_result⟩ := id p_trialOdds
  have J_65 : ∀ (x1_65 : Int32) (x2_65 : Int32) (M_65 : zMt) (N_65 : zNt), D_X7_together_65 P M_65 N_65 = some r → Zw p l e { frames := 14, cells := 0, slots := 0, locals := 80 * (14) } s m args below meth c G b 3 (MQ below (zQ G b FQ) args s 0 0 (fun q : Nat => b ≤ q)) 0 0 65 [some (.ref (P)), some (.int x1_65), some (.int x2_65)] [] (L, M_65, N_65) := by
    intro x1_65 x2_65 M_65 N_65 h
    unfold D_X7_together_65 at h
    refine a_aload_n X dX7_together_65 rfl ?_
    refine a_bipush (v := 7) X dX7_together_66 (by decide) ?_
    obtain ⟨e_68, f_68, h⟩ := zBx h
    refine a_callVv X dX7_together_68 miX7_refuse lm7_102 (t_X7_refuse (by assumption) f_68) (by assumption) rfl rfl rfl (Nat.le_of_ble_eq_true rfl) ⟨by decide, by decide, by decide, by decide⟩ ?_
    refine a_i2l X dX7_together_71 ?_
    refine a_lret X hr dX7_together_72 ⟨by decide, by decide⟩ ?_
    subst hF
    rw [← Option.some.inj h]
    exact ⟨rfl, rfl⟩
  have J_16 : ∀ (x1_16 : Int32) (x2_16 : Int32) (M_16 : zMt) (N_16 : zNt), D_X7_together_16 P M_16 N_16 = some r → Zw p l e { frames := 14, cells := 0, slots := 0, locals := 80 * (14) } s m args below meth c G b 3 (MQ below (zQ G b FQ) args s 0 0 (fun q : Nat => b ≤ q)) 0 0 16 [some (.ref (P)), some (.int x1_16), some (.int x2_16)] [] (L, M_16, N_16) := by
    intro x1_16 x2_16 M_16 N_16 h
    unfold D_X7_together_16 at h
    refine a_aload_n X dX7_together_16 rfl ?_
    refine a_iconst (v := 2) X dX7_together_17 (by decide) ?_
    obtain ⟨e_18, f_18, h⟩ := zBx h
    refine a_callVv X dX7_together_18 miX7_refuse lm7_102 (t_X7_refuse (by assumption) f_18) (by assumption) rfl rfl rfl (Nat.le_of_ble_eq_true rfl) ⟨by decide, by decide, by decide, by decide⟩ ?_
    refine a_i2l X dX7_together_21 ?_
    refine a_lret X hr dX7_together_22 ⟨by decide, by decide⟩ ?_
    subst hF
    rw [← Option.some.inj h]
    exact ⟨rfl, rfl⟩
  unfold D_X7_together at h
  refine a_aload_n X dX7_together_0 rfl ?_
  refine a_iload_n X dX7_together_1 rfl ?_
  obtain ⟨e_2, f_2, h⟩ := zBx h
  refine a_callVx X dX7_together_2 miX7_isHunter lm7_168 (t_X7_isHunter (by assumption) f_2) (by assumption) rfl rfl rfl (Nat.le_of_ble_eq_true rfl) ⟨by decide, by decide, by decide, by decide⟩ (fun r_2 S_2 q_2 => ?_)
  obtain ⟨rfl, rfl, b_2⟩ := q_2
  refine a_if_eq (tgt := 16) X dX7_together_5 (by decide) (fun h_5 => ?_) (fun h_5 => ?_)
  · replace h := (if_pos h_5).symm.trans h
    exact Zw.to2 (J_16 _ _ _ _ h) rfl rfl rfl
  · replace h := (if_neg h_5).symm.trans h
    refine a_aload_n X dX7_together_8 rfl ?_
    refine a_iload_n X dX7_together_9 rfl ?_
    obtain ⟨e_10, f_10, h⟩ := zBx h
    refine a_callVx X dX7_together_10 miX7_isHunter lm7_168 (t_X7_isHunter (by assumption) f_10) (by assumption) rfl rfl rfl (Nat.le_of_ble_eq_true rfl) ⟨by decide, by decide, by decide, by decide⟩ (fun r_10 S_10 q_10 => ?_)
    obtain ⟨rfl, rfl, b_10⟩ := q_10
    refine a_if_ne (tgt := 23) X dX7_together_13 (by decide) (fun h_13 => ?_) (fun h_13 => ?_)
    · replace h := (if_neg h_13).symm.trans h
      refine a_iload_n X dX7_together_23 rfl ?_
      refine a_iload_n X dX7_together_24 rfl ?_
      refine a_icmp_ne (tgt := 35) X dX7_together_25 (by decide) (fun h_25 => ?_) (fun h_25 => ?_)
      · replace h := (if_neg h_25).symm.trans h
        refine a_aload_n X dX7_together_35 rfl ?_
        refine a_getr X lf7_26 (by assumption) rfl (by omega) dX7_together_36 ?_
        refine a_getr X lf7_179 (by assumption) rfl (by omega) dX7_together_39 ?_
        refine a_iload_n X dX7_together_42 rfl ?_
        refine a_callSv X dX7_together_43 miX7_cell lm7_175 (c_cell (by assumption) (by first | decide | assumption)) rfl rfl (Nat.le_of_ble_eq_true rfl) ⟨by decide, by decide, by decide, by decide⟩ ?_
        refine a_iconst (v := -1) X dX7_together_46 (by decide) ?_
        refine a_icmp_ne (tgt := 65) X dX7_together_47 (by decide) (fun h_47 => ?_) (fun h_47 => ?_)
        · replace h := (if_neg h_47).symm.trans h
          exact Zw.to2 (J_65 _ _ _ _ h) rfl rfl rfl
        · replace h := (if_pos h_47).symm.trans h
          refine a_aload_n X dX7_together_50 rfl ?_
          refine a_getr X lf7_26 (by assumption) rfl (by omega) dX7_together_51 ?_
          refine a_getr X lf7_179 (by assumption) rfl (by omega) dX7_together_54 ?_
          refine a_iload_n X dX7_together_57 rfl ?_
          refine a_callSv X dX7_together_58 miX7_cell lm7_175 (c_cell (by assumption) (by first | decide | assumption)) rfl rfl (Nat.le_of_ble_eq_true rfl) ⟨by decide, by decide, by decide, by decide⟩ ?_
          refine a_iconst (v := -1) X dX7_together_61 (by decide) ?_
          refine a_icmp_eq (tgt := 73) X dX7_together_62 (by decide) (fun h_62 => ?_) (fun h_62 => ?_)
          · replace h := (if_pos h_62).symm.trans h
            refine a_aload_n X dX7_together_73 rfl ?_
            refine a_getr X lf7_40 (by assumption) rfl (by omega) dX7_together_74 ?_
            refine a_geti X lf7_140 (by assumption) rfl dX7_together_77 ?_
            refine a_bipush (v := 8) X dX7_together_80 (by decide) ?_
            refine a_icmp_le (tgt := 92) X dX7_together_82 (by decide) (fun h_82 => ?_) (fun h_82 => ?_)
            · replace h := (if_pos h_82).symm.trans h
              refine a_aload_n X dX7_together_92 rfl ?_
              refine a_getr X lf7_65 (by assumption) rfl (by omega) dX7_together_93 ?_
              refine a_aload_n X dX7_together_96 rfl ?_
              refine a_getr X lf7_26 (by assumption) rfl (by omega) dX7_together_97 ?_
              obtain ⟨e_100, f_100, h⟩ := zBx h
              refine a_callVu X dX7_together_100 miX4_take lm7_113 (t_X4_take (by assumption) (by assumption) (by omega) f_100) (by assumption) rfl rfl rfl (Nat.le_of_ble_eq_true rfl) ⟨by decide, by decide, by decide, by decide⟩ ?_
              refine a_aload_n X dX7_together_103 rfl ?_
              refine a_getr X lf7_65 (by assumption) rfl (by omega) dX7_together_104 ?_
              refine a_iload_n X dX7_together_107 rfl ?_
              refine a_iload_n X dX7_together_108 rfl ?_
              obtain ⟨e_109, f_109, h⟩ := zBx h
              refine a_callVu X dX7_together_109 miX4_join lm7_358 (t_X4_join (by assumption) f_109) (by assumption) rfl rfl rfl (Nat.le_of_ble_eq_true rfl) ⟨by decide, by decide, by decide, by decide⟩ ?_
              refine a_aload_n X dX7_together_112 rfl ?_
              refine a_getr X lf7_68 (by assumption) rfl (by omega) dX7_together_113 ?_
              refine a_aload_n X dX7_together_116 rfl ?_
              refine a_getr X lf7_65 (by assumption) rfl (by omega) dX7_together_117 ?_
              obtain ⟨e_120, f_120, h⟩ := zBx h
              refine a_callVu X dX7_together_120 miX2_gather lm7_80 (t_X2_gather (by assumption) (by assumption) f_120) (by assumption) rfl rfl rfl (Nat.le_of_ble_eq_true rfl) ⟨by decide, by decide, by decide, by decide⟩ ?_
              refine a_aload_n X dX7_together_123 rfl ?_
              refine a_getr X lf7_74 (by assumption) rfl (by omega) dX7_together_124 ?_
              refine a_aload_n X dX7_together_127 rfl ?_
              refine a_getr X lf7_68 (by assumption) rfl (by omega) dX7_together_128 ?_
              obtain ⟨e_131, f_131, h⟩ := zBx h
              refine a_callVu X dX7_together_131 miX0_reckon lm7_339 (t_X0_reckon (by assumption) (by assumption) f_131) (by assumption) rfl rfl rfl (Nat.le_of_ble_eq_true rfl) ⟨by decide, by decide, by decide, by decide⟩ ?_
              refine a_aload_n X dX7_together_134 rfl ?_
              refine a_aload_n X dX7_together_135 rfl ?_
              refine a_getr X lf7_74 (by assumption) rfl (by omega) dX7_together_136 ?_
              refine a_aload_n X dX7_together_139 rfl ?_
              refine a_getr X lf7_68 (by assumption) rfl (by omega) dX7_together_140 ?_
              refine a_getr X lf7_182 (by assumption) rfl (by omega) dX7_together_143 ?_
              refine a_iload_n X dX7_together_146 rfl ?_
              refine a_callSv X dX7_together_147 miX7_cell lm7_175 (c_cell (by assumption) (by first | decide | assumption)) rfl rfl (Nat.le_of_ble_eq_true rfl) ⟨by decide, by decide, by decide, by decide⟩ ?_
              obtain ⟨e_150, f_150, h⟩ := zBx h
              refine a_callVv X dX7_together_150 miX0_anyUnit lm7_299 (t_X0_anyUnit (by assumption) f_150) (by assumption) rfl rfl rfl (Nat.le_of_ble_eq_true rfl) ⟨by decide, by decide, by decide, by decide⟩ ?_
              obtain ⟨e_153, f_153, h⟩ := zBx h
              refine a_callVv X dX7_together_153 miX7_answerParts lm7_303 (t_X7_answerParts (by assumption) f_153) (by assumption) rfl rfl rfl (Nat.le_of_ble_eq_true rfl) ⟨by decide, by decide, by decide, by decide⟩ ?_
              refine a_lret X hr dX7_together_156 ⟨by decide, by decide⟩ ?_
              subst hF
              rw [← Option.some.inj h]
              exact ⟨rfl, rfl⟩
            · replace h := (if_neg h_82).symm.trans h
              refine a_aload_n X dX7_together_85 rfl ?_
              refine a_iconst (v := 3) X dX7_together_86 (by decide) ?_
              obtain ⟨e_87, f_87, h⟩ := zBx h
              refine a_callVv X dX7_together_87 miX7_refuse lm7_102 (t_X7_refuse (by assumption) f_87) (by assumption) rfl rfl rfl (Nat.le_of_ble_eq_true rfl) ⟨by decide, by decide, by decide, by decide⟩ ?_
              refine a_i2l X dX7_together_90 ?_
              refine a_lret X hr dX7_together_91 ⟨by decide, by decide⟩ ?_
              subst hF
              rw [← Option.some.inj h]
              exact ⟨rfl, rfl⟩
          · replace h := (if_neg h_62).symm.trans h
            exact Zw.to2 (J_65 _ _ _ _ h) rfl rfl rfl
      · replace h := (if_pos h_25).symm.trans h
        refine a_aload_n X dX7_together_28 rfl ?_
        refine a_iconst (v := 4) X dX7_together_29 (by decide) ?_
        obtain ⟨e_30, f_30, h⟩ := zBx h
        refine a_callVv X dX7_together_30 miX7_refuse lm7_102 (t_X7_refuse (by assumption) f_30) (by assumption) rfl rfl rfl (Nat.le_of_ble_eq_true rfl) ⟨by decide, by decide, by decide, by decide⟩ ?_
        refine a_i2l X dX7_together_33 ?_
        refine a_lret X hr dX7_together_34 ⟨by decide, by decide⟩ ?_
        subst hF
        rw [← Option.some.inj h]
        exact ⟨rfl, rfl⟩
    · replace h := (if_pos h_13).symm.trans h
      exact Zw.to2 (J_16 _ _ _ _ h) rfl rfl rfl
noncomputable def D_X7_isParty_20 (P : Nat) (M : zMt) (y0_20 : Int32) : Option (Int32) :=
  some (y0_20)
noncomputable def D_X7_isParty_19 (P : Nat) (M : zMt)  : Option (Int32) :=
  D_X7_isParty_20 P M (0 : Int32)
noncomputable def D_X7_isParty (P : Nat) (M : zMt) (v0 : Int32) : Option (Int32) :=
  if v0 < 0 then
    D_X7_isParty_19 P M
  else
    if (M (P + 17) 2) ≤ v0 then
      D_X7_isParty_19 P M
    else
      D_X7_isParty_20 P M (1 : Int32)
set_option maxRecDepth 100000 in
set_option maxHeartbeats 4000000 in
theorem t_X7_isParty {l : Launch} {G : zG} {b : Nat} {L : List zC} {M : zMt} {N : zNt} {P : Nat} (hP : LX7 L P) {v0 : Int32} {r : Int32} (h : D_X7_isParty P M v0 = some r) : zM l G b yX7_isParty cX7_isParty 2 (some .boolean) 0 0 0 [.ref P, .int v0] (L, M, N) (fun r2 z => r2 = some (.int r) ∧ z = (L, M, N) ∧ (r = 0 ∨ r = 1)) := by
  refine zM.of miX7_isParty (Nat.le_of_ble_eq_true rfl) ?_
  intro p e s m args below meth c X hr hname
  generalize hF : ((fun r2 z => r2 = some (.int r) ∧ z = (L, M, N) ∧ (r = 0 ∨ r = 1)) : Option Value → zS → Prop) = FQ
  change Zw p l e { frames := 0, cells := 0, slots := 0, locals := 80 * (0) } s m args below meth c G b 2 (MQ below (zQ G b FQ) args s 0 0 (fun q : Nat => b ≤ q)) 0 0 0 [some (.ref P), some (.int v0)] [] (L, M, N)
  obtain ⟨p_lt, p_o, p_tape, p_out, p_reader, p_list, p_past, p_pool, p_result, p_odds, p_paper, p_trial, p_trialPool, p_trialResult, p_trialOdds⟩ := id hP
  obtain ⟨p_reader_lt, p_reader_o, p_reader_draft, p_reader_text, p_reader_unitNames, p_reader_hunterNames, p_reader_partyNames, p_reader_asked⟩ := id p_reader
  obtain ⟨p_list_lt, p_list_o, p_list_quota, p_list_score, p_list_guest, p_list_party, p_list_wishCount, p_list_wishes, p_list_has⟩ := id p_list
  obtain ⟨p_past_lt, p_past_o, p_past_stood, p_past_stood0, p_past_stood1, p_past_stood2, p_past_stood3, p_past_stood4, p_past_stood5, p_past_stood6, p_past_stood7⟩ := id p_past
  obtain ⟨p_pool_lt, p_pool_o, p_pool_quota, p_pool_preferred, p_pool_forGuests, p_pool_applicantOf, p_pool_size, p_pool_guestCount, p_pool_score, p_pool_tickets, p_pool_bits, p_pool_party, p_pool_wishCount, p_pool_wishes⟩ := id p_pool
  obtain ⟨p_result_lt, p_result_o, p_result_line, p_result_unitOf, p_result_roundOf, p_result_leftTags, p_result_leftGuests, p_result_leftPreferred, p_result_ranked⟩ := id p_result
  obtain ⟨p_odds_lt, p_odds_o, p_odds_sets, p_odds_seen, p_odds_atUnit, p_odds_early, p_odds_result⟩ := id p_odds
  obtain ⟨p_paper_lt, p_paper_o, p_paper_times, p_paper_firstWish, p_paper_dry, p_paper_list, p_paper_pool, p_paper_result⟩ := id p_paper
  obtain ⟨p_trial_lt, p_trial_o, p_trial_quota, p_trial_score, p_trial_guest, p_trial_party, p_trial_wishCount, p_trial_wishes, p_trial_has⟩ := id p_trial
  obtain ⟨p_trialPool_lt, p_trialPool_o, p_trialPool_quota, p_trialPool_preferred, p_trialPool_forGuests, p_trialPool_applicantOf, p_trialPool_size, p_trialPool_guestCount, p_trialPool_score, p_trialPool_tickets, p_trialPool_bits, p_trialPool_party, p_trialPool_wishCount, p_trialPool_wishes⟩ := id p_trialPool
  obtain ⟨p_trialResult_lt, p_trialResult_o, p_trialResult_line, p_trialResult_unitOf, p_trialResult_roundOf, p_trialResult_leftTags, p_trialResult_leftGuests, p_trialResult_leftPreferred, p_trialResult_ranked⟩ := id p_trialResult
  obtain ⟨p_trialOdds_lt, p_trialOdds_o, p_trialOdds_sets, p_trialOdds_seen, p_trialOdds_atUnit, p_trialOdds_early, p_trialOdds_result⟩ := id p_trialOdds
  have J_20 : ∀ (x1_20 : Int32) (y0_20 : Int32), (y0_20 = 0 ∨ y0_20 = 1) → D_X7_isParty_20 P M y0_20 = some r → Zw p l e { frames := 0, cells := 0, slots := 0, locals := 80 * (0) } s m args below meth c G b 2 (MQ below (zQ G b FQ) args s 0 0 (fun q : Nat => b ≤ q)) 0 0 20 [some (.ref (P)), some (.int x1_20)] [.int y0_20] (L, M, N) := by
    intro x1_20 y0_20 fb_y0_20 h
    unfold D_X7_isParty_20 at h
    refine a_zret X (by first | exact Or.inl rfl | exact Or.inr rfl | assumption) hr dX7_isParty_20 ⟨by decide, by decide⟩ ?_
    subst hF
    rw [← Option.some.inj h]
    exact ⟨rfl, rfl, (by first | exact Or.inl rfl | exact Or.inr rfl | assumption)⟩
  have J_19 : ∀ (x1_19 : Int32), D_X7_isParty_19 P M = some r → Zw p l e { frames := 0, cells := 0, slots := 0, locals := 80 * (0) } s m args below meth c G b 2 (MQ below (zQ G b FQ) args s 0 0 (fun q : Nat => b ≤ q)) 0 0 19 [some (.ref (P)), some (.int x1_19)] [] (L, M, N) := by
    intro x1_19 h
    unfold D_X7_isParty_19 at h
    refine a_iconst (v := 0) X dX7_isParty_19 (by decide) ?_
    exact Zw.to2 (J_20 _ _ (by first | exact Or.inl rfl | exact Or.inr rfl | assumption) h) rfl rfl rfl
  unfold D_X7_isParty at h
  refine a_iload_n X dX7_isParty_0 rfl ?_
  refine a_if_lt (tgt := 19) X dX7_isParty_1 (by decide) (fun h_1 => ?_) (fun h_1 => ?_)
  · replace h := (if_pos h_1).symm.trans h
    exact Zw.to2 (J_19 _ h) rfl rfl rfl
  · replace h := (if_neg h_1).symm.trans h
    refine a_iload_n X dX7_isParty_4 rfl ?_
    refine a_aload_n X dX7_isParty_5 rfl ?_
    refine a_getr X lf7_26 (by assumption) rfl (by omega) dX7_isParty_6 ?_
    refine a_geti X lf7_137 (by assumption) rfl dX7_isParty_9 ?_
    refine a_icmp_ge (tgt := 19) X dX7_isParty_12 (by decide) (fun h_12 => ?_) (fun h_12 => ?_)
    · replace h := (if_pos h_12).symm.trans h
      exact Zw.to2 (J_19 _ h) rfl rfl rfl
    · replace h := (if_neg h_12).symm.trans h
      refine a_iconst (v := 1) X dX7_isParty_15 (by decide) ?_
      refine a_goto (tgt := 20) X dX7_isParty_16 (by decide) ?_
      exact Zw.to2 (J_20 _ _ (by first | exact Or.inl rfl | exact Or.inr rfl | assumption) h) rfl rfl rfl
noncomputable def D_X7_apart_121 (P : Nat) (k79 : Int32 → Int32 → Int32 → zMt → zNt → Option (Int64 × zMt × zNt)) (x1_121 : Int32) (x2_121 : Int32) (x3_121 : Int32) (M_121 : zMt) (N_121 : zNt) : Option (Int64 × zMt × zNt) :=
  k79 x1_121 x2_121 (x3_121 + 1) M_121 N_121
noncomputable def D_X7_apart_79 (P : Nat) : Nat → Int32 → Int32 → Int32 → zMt → zNt → Option (Int64 × zMt × zNt)
  | 0, _, _, _, _, _ => none
  | n + 1, x1_79, x2_79, x3_79, M_79, N_79 =>
    if (M_79 (P + 17) 1) ≤ x3_79 then
      zB (D_X0_allOf (P + 187) N_79 x2_79) fun e_133 =>
      zB (D_X7_answerParts P e_133 M_79) fun e_136 =>
      some (e_136.1, e_136.2, N_79)
    else
      if (zrd 0 (M_79 (P + 21)) 10 x3_79) = x1_79 then
        D_X7_apart_121 P (D_X7_apart_79 P n) x1_79 (x2_79 ||| ((1 : Int32) <<< ((zrd 0 (M_79 (P + 170)) 10 x3_79) &&& 31))) x3_79 M_79 N_79
      else
        D_X7_apart_121 P (D_X7_apart_79 P n) x1_79 x2_79 x3_79 M_79 N_79
noncomputable def D_X7_apart (P : Nat) (v0 : Int32) (M : zMt) (N : zNt) : Option (Int64 × zMt × zNt) :=
  zB (D_X7_isParty P M v0) fun e_2 =>
  if e_2 = 0 then
    zB (D_X7_refuse P (2 : Int32) M) fun e_10 =>
    some ((Int32.toInt64 e_10.1), e_10.2, N)
  else
    zB (D_X4_take (P + 158) (P + 17) M) fun e_23 =>
    zB (D_X4_dissolve (P + 158) v0 e_23) fun e_31 =>
    zB (D_X2_gather (P + 166) (P + 158) e_31) fun e_42 =>
    if (e_42 (P + 166) 1) ≤ (7 : Int32) then
      zB (D_X0_reckon (P + 187) (P + 166) e_42 N) fun e_72 =>
      D_X7_apart_79 P zFu v0 (0 : Int32) (0 : Int32) e_72.1 e_72.2
    else
      zB (D_X7_refuse P (3 : Int32) e_42) fun e_59 =>
      some ((Int32.toInt64 e_59.1), e_59.2, N)
set_option maxRecDepth 100000 in
set_option maxHeartbeats 4000000 in
theorem t_X7_apart {l : Launch} {G : zG} {b : Nat} {L : List zC} {M : zMt} {N : zNt} {P : Nat} (hP : LX7 L P) {v0 : Int32} {r : Int64 × zMt × zNt} (h : D_X7_apart P v0 M N = some r) : zM l G b yX7_apart cX7_apart 4 (some .long) 14 0 0 [.ref P, .int v0] (L, M, N) (fun r2 z => r2 = some (.long r.1) ∧ z = (L, r.2.1, r.2.2)) := by
  refine zM.of miX7_apart (Nat.le_of_ble_eq_true rfl) ?_
  intro p e s m args below meth c X hr hname
  generalize hF : ((fun r2 z => r2 = some (.long r.1) ∧ z = (L, r.2.1, r.2.2)) : Option Value → zS → Prop) = FQ
  change Zw p l e { frames := 14, cells := 0, slots := 0, locals := 80 * (14) } s m args below meth c G b 4 (MQ below (zQ G b FQ) args s 0 0 (fun q : Nat => b ≤ q)) 0 0 0 [some (.ref P), some (.int v0), none, none] [] (L, M, N)
  obtain ⟨p_lt, p_o, p_tape, p_out, p_reader, p_list, p_past, p_pool, p_result, p_odds, p_paper, p_trial, p_trialPool, p_trialResult, p_trialOdds⟩ := id hP
  obtain ⟨p_reader_lt, p_reader_o, p_reader_draft, p_reader_text, p_reader_unitNames, p_reader_hunterNames, p_reader_partyNames, p_reader_asked⟩ := id p_reader
  obtain ⟨p_list_lt, p_list_o, p_list_quota, p_list_score, p_list_guest, p_list_party, p_list_wishCount, p_list_wishes, p_list_has⟩ := id p_list
  obtain ⟨p_past_lt, p_past_o, p_past_stood, p_past_stood0, p_past_stood1, p_past_stood2, p_past_stood3, p_past_stood4, p_past_stood5, p_past_stood6, p_past_stood7⟩ := id p_past
  obtain ⟨p_pool_lt, p_pool_o, p_pool_quota, p_pool_preferred, p_pool_forGuests, p_pool_applicantOf, p_pool_size, p_pool_guestCount, p_pool_score, p_pool_tickets, p_pool_bits, p_pool_party, p_pool_wishCount, p_pool_wishes⟩ := id p_pool
  obtain ⟨p_result_lt, p_result_o, p_result_line, p_result_unitOf, p_result_roundOf, p_result_leftTags, p_result_leftGuests, p_result_leftPreferred, p_result_ranked⟩ := id p_result
  obtain ⟨p_odds_lt, p_odds_o, p_odds_sets, p_odds_seen, p_odds_atUnit, p_odds_early, p_odds_result⟩ := id p_odds
  obtain ⟨p_paper_lt, p_paper_o, p_paper_times, p_paper_firstWish, p_paper_dry, p_paper_list, p_paper_pool, p_paper_result⟩ := id p_paper
  obtain ⟨p_trial_lt, p_trial_o, p_trial_quota, p_trial_score, p_trial_guest, p_trial_party, p_trial_wishCount, p_trial_wishes, p_trial_has⟩ := id p_trial
  obtain ⟨p_trialPool_lt, p_trialPool_o, p_trialPool_quota, p_trialPool_preferred, p_trialPool_forGuests, p_trialPool_applicantOf, p_trialPool_size, p_trialPool_guestCount, p_trialPool_score, p_trialPool_tickets, p_trialPool_bits, p_trialPool_party, p_trialPool_wishCount, p_trialPool_wishes⟩ := id p_trialPool
  obtain ⟨p_trialResult_lt, p_trialResult_o, p_trialResult_line, p_trialResult_unitOf, p_trialResult_roundOf, p_trialResult_leftTags, p_trialResult_leftGuests, p_trialResult_leftPreferred, p_trialResult_ranked⟩ := id p_trialResult
  obtain ⟨p_trialOdds_lt, p_trialOdds_o, p_trialOdds_sets, p_trialOdds_seen, p_trialOdds_atUnit, p_trialOdds_early, p_trialOdds_result⟩ := id p_trialOdds
  have L_79 : ∀ u : Nat, ∀ (x1_79 : Int32) (x2_79 : Int32) (x3_79 : Int32) (M_79 : zMt) (N_79 : zNt), D_X7_apart_79 P u x1_79 x2_79 x3_79 M_79 N_79 = some r → Zw p l e { frames := 14, cells := 0, slots := 0, locals := 80 * (14) } s m args below meth c G b 4 (MQ below (zQ G b FQ) args s 0 0 (fun q : Nat => b ≤ q)) 0 0 79 [some (.ref (P)), some (.int x1_79), some (.int x2_79), some (.int x3_79)] [] (L, M_79, N_79) := by
    intro u
    induction u with
    | zero => intro x1_79 x2_79 x3_79 M_79 N_79 h; cases (show none = some r from h)
    | succ u_79 ih_79 =>
      have J_121 : ∀ (x1_121 : Int32) (x2_121 : Int32) (x3_121 : Int32) (M_121 : zMt) (N_121 : zNt), D_X7_apart_121 P (D_X7_apart_79 P u_79) x1_121 x2_121 x3_121 M_121 N_121 = some r → Zw p l e { frames := 14, cells := 0, slots := 0, locals := 80 * (14) } s m args below meth c G b 4 (MQ below (zQ G b FQ) args s 0 0 (fun q : Nat => b ≤ q)) 0 0 121 [some (.ref (P)), some (.int x1_121), some (.int x2_121), some (.int x3_121)] [] (L, M_121, N_121) := by
        intro x1_121 x2_121 x3_121 M_121 N_121 h
        unfold D_X7_apart_121 at h
        refine a_iinc (v := x3_121 + 1) X dX7_apart_121 (by decide) rfl zi_1 ?_
        refine a_goto (tgt := 79) X dX7_apart_124 (by decide) ?_
        exact Zw.to2 (ih_79 _ _ _ _ _ h) rfl rfl rfl
      intro x1_79 x2_79 x3_79 M_79 N_79 h
      rw [D_X7_apart_79] at h
      refine a_iload_n X dX7_apart_79 rfl ?_
      refine a_aload_n X dX7_apart_80 rfl ?_
      refine a_getr X lf7_26 (by assumption) rfl (by omega) dX7_apart_81 ?_
      refine a_geti X lf7_119 (by assumption) rfl dX7_apart_84 ?_
      refine a_icmp_ge (tgt := 127) X dX7_apart_87 (by decide) (fun h_87 => ?_) (fun h_87 => ?_)
      · replace h := (if_pos h_87).symm.trans h
        refine a_aload_n X dX7_apart_127 rfl ?_
        refine a_aload_n X dX7_apart_128 rfl ?_
        refine a_getr X lf7_74 (by assumption) rfl (by omega) dX7_apart_129 ?_
        refine a_iload_n X dX7_apart_132 rfl ?_
        obtain ⟨e_133, f_133, h⟩ := zBx h
        refine a_callVv X dX7_apart_133 miX0_allOf lm7_319 (t_X0_allOf (by assumption) f_133) (by assumption) rfl rfl rfl (Nat.le_of_ble_eq_true rfl) ⟨by decide, by decide, by decide, by decide⟩ ?_
        obtain ⟨e_136, f_136, h⟩ := zBx h
        refine a_callVv X dX7_apart_136 miX7_answerParts lm7_303 (t_X7_answerParts (by assumption) f_136) (by assumption) rfl rfl rfl (Nat.le_of_ble_eq_true rfl) ⟨by decide, by decide, by decide, by decide⟩ ?_
        refine a_lret X hr dX7_apart_139 ⟨by decide, by decide⟩ ?_
        subst hF
        rw [← Option.some.inj h]
        exact ⟨rfl, rfl⟩
      · replace h := (if_neg h_87).symm.trans h
        refine a_aload_n X dX7_apart_90 rfl ?_
        refine a_getr X lf7_26 (by assumption) rfl (by omega) dX7_apart_91 ?_
        refine a_getr X lf7_179 (by assumption) rfl (by omega) dX7_apart_94 ?_
        refine a_iload_n X dX7_apart_97 rfl ?_
        refine a_callSv X dX7_apart_98 miX7_cell lm7_175 (c_cell (by assumption) (by first | decide | assumption)) rfl rfl (Nat.le_of_ble_eq_true rfl) ⟨by decide, by decide, by decide, by decide⟩ ?_
        refine a_iload_n X dX7_apart_101 rfl ?_
        refine a_icmp_ne (tgt := 121) X dX7_apart_102 (by decide) (fun h_102 => ?_) (fun h_102 => ?_)
        · replace h := (if_neg h_102).symm.trans h
          exact Zw.to2 (J_121 _ _ _ _ _ h) rfl rfl rfl
        · replace h := (if_pos h_102).symm.trans h
          refine a_iload_n X dX7_apart_105 rfl ?_
          refine a_iconst (v := 1) X dX7_apart_106 (by decide) ?_
          refine a_aload_n X dX7_apart_107 rfl ?_
          refine a_getr X lf7_68 (by assumption) rfl (by omega) dX7_apart_108 ?_
          refine a_getr X lf7_182 (by assumption) rfl (by omega) dX7_apart_111 ?_
          refine a_iload_n X dX7_apart_114 rfl ?_
          refine a_callSv X dX7_apart_115 miX7_cell lm7_175 (c_cell (by assumption) (by first | decide | assumption)) rfl rfl (Nat.le_of_ble_eq_true rfl) ⟨by decide, by decide, by decide, by decide⟩ ?_
          refine a_ishl X dX7_apart_118 ?_
          refine a_ior X dX7_apart_119 ?_
          refine a_istore_n X dX7_apart_120 (by decide) ?_
          exact Zw.to2 (J_121 _ _ _ _ _ h) rfl rfl rfl
  have H_79 : ∀ (x1_79 : Int32) (x2_79 : Int32) (x3_79 : Int32) (M_79 : zMt) (N_79 : zNt), D_X7_apart_79 P zFu x1_79 x2_79 x3_79 M_79 N_79 = some r → Zw p l e { frames := 14, cells := 0, slots := 0, locals := 80 * (14) } s m args below meth c G b 4 (MQ below (zQ G b FQ) args s 0 0 (fun q : Nat => b ≤ q)) 0 0 79 [some (.ref (P)), some (.int x1_79), some (.int x2_79), some (.int x3_79)] [] (L, M_79, N_79) := L_79 zFu
  unfold D_X7_apart at h
  refine a_aload_n X dX7_apart_0 rfl ?_
  refine a_iload_n X dX7_apart_1 rfl ?_
  obtain ⟨e_2, f_2, h⟩ := zBx h
  refine a_callVx X dX7_apart_2 miX7_isParty lm7_362 (t_X7_isParty (by assumption) f_2) (by assumption) rfl rfl rfl (Nat.le_of_ble_eq_true rfl) ⟨by decide, by decide, by decide, by decide⟩ (fun r_2 S_2 q_2 => ?_)
  obtain ⟨rfl, rfl, b_2⟩ := q_2
  refine a_if_ne (tgt := 15) X dX7_apart_5 (by decide) (fun h_5 => ?_) (fun h_5 => ?_)
  · replace h := (if_neg h_5).symm.trans h
    refine a_aload_n X dX7_apart_15 rfl ?_
    refine a_getr X lf7_65 (by assumption) rfl (by omega) dX7_apart_16 ?_
    refine a_aload_n X dX7_apart_19 rfl ?_
    refine a_getr X lf7_26 (by assumption) rfl (by omega) dX7_apart_20 ?_
    obtain ⟨e_23, f_23, h⟩ := zBx h
    refine a_callVu X dX7_apart_23 miX4_take lm7_113 (t_X4_take (by assumption) (by assumption) (by omega) f_23) (by assumption) rfl rfl rfl (Nat.le_of_ble_eq_true rfl) ⟨by decide, by decide, by decide, by decide⟩ ?_
    refine a_aload_n X dX7_apart_26 rfl ?_
    refine a_getr X lf7_65 (by assumption) rfl (by omega) dX7_apart_27 ?_
    refine a_iload_n X dX7_apart_30 rfl ?_
    obtain ⟨e_31, f_31, h⟩ := zBx h
    refine a_callVu X dX7_apart_31 miX4_dissolve lm7_365 (t_X4_dissolve (by assumption) f_31) (by assumption) rfl rfl rfl (Nat.le_of_ble_eq_true rfl) ⟨by decide, by decide, by decide, by decide⟩ ?_
    refine a_aload_n X dX7_apart_34 rfl ?_
    refine a_getr X lf7_68 (by assumption) rfl (by omega) dX7_apart_35 ?_
    refine a_aload_n X dX7_apart_38 rfl ?_
    refine a_getr X lf7_65 (by assumption) rfl (by omega) dX7_apart_39 ?_
    obtain ⟨e_42, f_42, h⟩ := zBx h
    refine a_callVu X dX7_apart_42 miX2_gather lm7_80 (t_X2_gather (by assumption) (by assumption) f_42) (by assumption) rfl rfl rfl (Nat.le_of_ble_eq_true rfl) ⟨by decide, by decide, by decide, by decide⟩ ?_
    refine a_aload_n X dX7_apart_45 rfl ?_
    refine a_getr X lf7_68 (by assumption) rfl (by omega) dX7_apart_46 ?_
    refine a_geti X lf7_140 (by assumption) rfl dX7_apart_49 ?_
    refine a_bipush (v := 7) X dX7_apart_52 (by decide) ?_
    refine a_icmp_le (tgt := 64) X dX7_apart_54 (by decide) (fun h_54 => ?_) (fun h_54 => ?_)
    · replace h := (if_pos h_54).symm.trans h
      refine a_aload_n X dX7_apart_64 rfl ?_
      refine a_getr X lf7_74 (by assumption) rfl (by omega) dX7_apart_65 ?_
      refine a_aload_n X dX7_apart_68 rfl ?_
      refine a_getr X lf7_68 (by assumption) rfl (by omega) dX7_apart_69 ?_
      obtain ⟨e_72, f_72, h⟩ := zBx h
      refine a_callVu X dX7_apart_72 miX0_reckon lm7_339 (t_X0_reckon (by assumption) (by assumption) f_72) (by assumption) rfl rfl rfl (Nat.le_of_ble_eq_true rfl) ⟨by decide, by decide, by decide, by decide⟩ ?_
      refine a_iconst (v := 0) X dX7_apart_75 (by decide) ?_
      refine a_istore_n X dX7_apart_76 (by decide) ?_
      refine a_iconst (v := 0) X dX7_apart_77 (by decide) ?_
      refine a_istore_n X dX7_apart_78 (by decide) ?_
      exact Zw.to2 (H_79 _ _ _ _ _ h) rfl rfl rfl
    · replace h := (if_neg h_54).symm.trans h
      refine a_aload_n X dX7_apart_57 rfl ?_
      refine a_iconst (v := 3) X dX7_apart_58 (by decide) ?_
      obtain ⟨e_59, f_59, h⟩ := zBx h
      refine a_callVv X dX7_apart_59 miX7_refuse lm7_102 (t_X7_refuse (by assumption) f_59) (by assumption) rfl rfl rfl (Nat.le_of_ble_eq_true rfl) ⟨by decide, by decide, by decide, by decide⟩ ?_
      refine a_i2l X dX7_apart_62 ?_
      refine a_lret X hr dX7_apart_63 ⟨by decide, by decide⟩ ?_
      subst hF
      rw [← Option.some.inj h]
      exact ⟨rfl, rfl⟩
  · replace h := (if_pos h_5).symm.trans h
    refine a_aload_n X dX7_apart_8 rfl ?_
    refine a_iconst (v := 2) X dX7_apart_9 (by decide) ?_
    obtain ⟨e_10, f_10, h⟩ := zBx h
    refine a_callVv X dX7_apart_10 miX7_refuse lm7_102 (t_X7_refuse (by assumption) f_10) (by assumption) rfl rfl rfl (Nat.le_of_ble_eq_true rfl) ⟨by decide, by decide, by decide, by decide⟩ ?_
    refine a_i2l X dX7_apart_13 ?_
    refine a_lret X hr dX7_apart_14 ⟨by decide, by decide⟩ ?_
    subst hF
    rw [← Option.some.inj h]
    exact ⟨rfl, rfl⟩
noncomputable def D_X7_likes_112 (P : Nat) (k52 : Int32 → Int32 → Int64 → Int32 → zMt → zNt → Option (Int32 × zMt × zNt)) (x1_112 : Int32) (x2_112 : Int32) (x3_112 : Int64) (x5_112 : Int32) (M_112 : zMt) (N_112 : zNt) : Option (Int32 × zMt × zNt) :=
  k52 x1_112 x2_112 x3_112 (x5_112 + 1) M_112 N_112
noncomputable def D_X7_likes_52 (P : Nat) : Nat → Int32 → Int32 → Int64 → Int32 → zMt → zNt → Option (Int32 × zMt × zNt)
  | 0, _, _, _, _, _, _ => none
  | n + 1, x1_52, x2_52, x3_52, x5_52, M_52, N_52 =>
    if (2 : Int32) < x5_52 then
      zB (D_X7_answer P x2_52 M_52) fun e_120 =>
      some (e_120.1, e_120.2, N_52)
    else
      zLt (zu M_52 (P + 158) 3 x5_52) fun M_64 =>
      zB (D_X2_gather (P + 166) (P + 158) M_64) fun e_75 =>
      zB (D_X0_reckon (P + 187) (P + 166) e_75 N_52) fun e_86 =>
      zB (D_X0_anyUnit (P + 187) e_86.2 x1_52) fun e_94 =>
      if (lg_cmp e_94 x3_52) ≤ 0 then
        D_X7_likes_112 P (D_X7_likes_52 P n) x1_52 x2_52 x3_52 x5_52 e_86.1 e_86.2
      else
        D_X7_likes_112 P (D_X7_likes_52 P n) x1_52 x5_52 e_94 x5_52 e_86.1 e_86.2
noncomputable def D_X7_likes (P : Nat) (v0 : Int32) (M : zMt) (N : zNt) : Option (Int32 × zMt × zNt) :=
  zB (D_X7_isApplicant P M v0) fun e_2 =>
  if e_2 = 0 then
    zB (D_X7_refuse P (2 : Int32) M) fun e_10 =>
    some (e_10.1, e_10.2, N)
  else
    if (M (P + 91) 1) ≤ (7 : Int32) then
      zB (D_X4_take (P + 158) (P + 17) M) fun e_46 =>
      D_X7_likes_52 P zFu v0 (0 : Int32) (-1 : Int64) (0 : Int32) e_46 N
    else
      zB (D_X7_refuse P (3 : Int32) M) fun e_28 =>
      some (e_28.1, e_28.2, N)
set_option maxRecDepth 100000 in
set_option maxHeartbeats 4000000 in
theorem t_X7_likes {l : Launch} {G : zG} {b : Nat} {L : List zC} {M : zMt} {N : zNt} {P : Nat} (hP : LX7 L P) {v0 : Int32} {r : Int32 × zMt × zNt} (h : D_X7_likes P v0 M N = some r) : zM l G b yX7_likes cX7_likes 8 (some .int) 14 0 0 [.ref P, .int v0] (L, M, N) (fun r2 z => r2 = some (.int r.1) ∧ z = (L, r.2.1, r.2.2)) := by
  refine zM.of miX7_likes (Nat.le_of_ble_eq_true rfl) ?_
  intro p e s m args below meth c X hr hname
  generalize hF : ((fun r2 z => r2 = some (.int r.1) ∧ z = (L, r.2.1, r.2.2)) : Option Value → zS → Prop) = FQ
  change Zw p l e { frames := 14, cells := 0, slots := 0, locals := 80 * (14) } s m args below meth c G b 8 (MQ below (zQ G b FQ) args s 0 0 (fun q : Nat => b ≤ q)) 0 0 0 [some (.ref P), some (.int v0), none, none, none, none, none, none] [] (L, M, N)
  obtain ⟨p_lt, p_o, p_tape, p_out, p_reader, p_list, p_past, p_pool, p_result, p_odds, p_paper, p_trial, p_trialPool, p_trialResult, p_trialOdds⟩ := id hP
  obtain ⟨p_reader_lt, p_reader_o, p_reader_draft, p_reader_text, p_reader_unitNames, p_reader_hunterNames, p_reader_partyNames, p_reader_asked⟩ := id p_reader
  obtain ⟨p_list_lt, p_list_o, p_list_quota, p_list_score, p_list_guest, p_list_party, p_list_wishCount, p_list_wishes, p_list_has⟩ := id p_list
  obtain ⟨p_past_lt, p_past_o, p_past_stood, p_past_stood0, p_past_stood1, p_past_stood2, p_past_stood3, p_past_stood4, p_past_stood5, p_past_stood6, p_past_stood7⟩ := id p_past
  obtain ⟨p_pool_lt, p_pool_o, p_pool_quota, p_pool_preferred, p_pool_forGuests, p_pool_applicantOf, p_pool_size, p_pool_guestCount, p_pool_score, p_pool_tickets, p_pool_bits, p_pool_party, p_pool_wishCount, p_pool_wishes⟩ := id p_pool
  obtain ⟨p_result_lt, p_result_o, p_result_line, p_result_unitOf, p_result_roundOf, p_result_leftTags, p_result_leftGuests, p_result_leftPreferred, p_result_ranked⟩ := id p_result
  obtain ⟨p_odds_lt, p_odds_o, p_odds_sets, p_odds_seen, p_odds_atUnit, p_odds_early, p_odds_result⟩ := id p_odds
  obtain ⟨p_paper_lt, p_paper_o, p_paper_times, p_paper_firstWish, p_paper_dry, p_paper_list, p_paper_pool, p_paper_result⟩ := id p_paper
  obtain ⟨p_trial_lt, p_trial_o, p_trial_quota, p_trial_score, p_trial_guest, p_trial_party, p_trial_wishCount, p_trial_wishes, p_trial_has⟩ := id p_trial
  obtain ⟨p_trialPool_lt, p_trialPool_o, p_trialPool_quota, p_trialPool_preferred, p_trialPool_forGuests, p_trialPool_applicantOf, p_trialPool_size, p_trialPool_guestCount, p_trialPool_score, p_trialPool_tickets, p_trialPool_bits, p_trialPool_party, p_trialPool_wishCount, p_trialPool_wishes⟩ := id p_trialPool
  obtain ⟨p_trialResult_lt, p_trialResult_o, p_trialResult_line, p_trialResult_unitOf, p_trialResult_roundOf, p_trialResult_leftTags, p_trialResult_leftGuests, p_trialResult_leftPreferred, p_trialResult_ranked⟩ := id p_trialResult
  obtain ⟨p_trialOdds_lt, p_trialOdds_o, p_trialOdds_sets, p_trialOdds_seen, p_trialOdds_atUnit, p_trialOdds_early, p_trialOdds_result⟩ := id p_trialOdds
  have L_52 : ∀ u : Nat, ∀ (x1_52 : Int32) (x2_52 : Int32) (x3_52 : Int64) (x5_52 : Int32) (x6_52 : Option Value) (x7_52 : Option Value) (M_52 : zMt) (N_52 : zNt), D_X7_likes_52 P u x1_52 x2_52 x3_52 x5_52 M_52 N_52 = some r → Zw p l e { frames := 14, cells := 0, slots := 0, locals := 80 * (14) } s m args below meth c G b 8 (MQ below (zQ G b FQ) args s 0 0 (fun q : Nat => b ≤ q)) 0 0 52 [some (.ref (P)), some (.int x1_52), some (.int x2_52), some (.long x3_52), none, some (.int x5_52), x6_52, x7_52] [] (L, M_52, N_52) := by
    intro u
    induction u with
    | zero => intro x1_52 x2_52 x3_52 x5_52 x6_52 x7_52 M_52 N_52 h; cases (show none = some r from h)
    | succ u_52 ih_52 =>
      have J_112 : ∀ (x1_112 : Int32) (x2_112 : Int32) (x3_112 : Int64) (x5_112 : Int32) (x6_112 : Int64) (M_112 : zMt) (N_112 : zNt), D_X7_likes_112 P (D_X7_likes_52 P u_52) x1_112 x2_112 x3_112 x5_112 M_112 N_112 = some r → Zw p l e { frames := 14, cells := 0, slots := 0, locals := 80 * (14) } s m args below meth c G b 8 (MQ below (zQ G b FQ) args s 0 0 (fun q : Nat => b ≤ q)) 0 0 112 [some (.ref (P)), some (.int x1_112), some (.int x2_112), some (.long x3_112), none, some (.int x5_112), some (.long x6_112), none] [] (L, M_112, N_112) := by
        intro x1_112 x2_112 x3_112 x5_112 x6_112 M_112 N_112 h
        unfold D_X7_likes_112 at h
        refine a_iinc (v := x5_112 + 1) X dX7_likes_112 (by decide) rfl zi_1 ?_
        refine a_goto (tgt := 52) X dX7_likes_115 (by decide) ?_
        exact Zw.to2 (ih_52 _ _ _ _ _ _ _ _ h) rfl rfl rfl
      intro x1_52 x2_52 x3_52 x5_52 x6_52 x7_52 M_52 N_52 h
      rw [D_X7_likes_52] at h
      refine a_iload X dX7_likes_52 rfl ?_
      refine a_iconst (v := 2) X dX7_likes_54 (by decide) ?_
      refine a_icmp_gt (tgt := 118) X dX7_likes_55 (by decide) (fun h_55 => ?_) (fun h_55 => ?_)
      · replace h := (if_pos h_55).symm.trans h
        refine a_aload_n X dX7_likes_118 rfl ?_
        refine a_iload_n X dX7_likes_119 rfl ?_
        obtain ⟨e_120, f_120, h⟩ := zBx h
        refine a_callVv X dX7_likes_120 miX7_answer lm7_134 (t_X7_answer (by assumption) f_120) (by assumption) rfl rfl rfl (Nat.le_of_ble_eq_true rfl) ⟨by decide, by decide, by decide, by decide⟩ ?_
        refine a_iret X hr dX7_likes_123 ⟨by decide, by decide⟩ ?_
        subst hF
        rw [← Option.some.inj h]
        exact ⟨rfl, rfl⟩
      · replace h := (if_neg h_55).symm.trans h
        refine a_aload_n X dX7_likes_58 rfl ?_
        refine a_getr X lf7_65 (by assumption) rfl (by omega) dX7_likes_59 ?_
        refine a_iload X dX7_likes_62 rfl ?_
        obtain ⟨M_64, f_64, h⟩ := zLtx h
        refine d_puti X lf7_143 (by assumption) rfl dX7_likes_64 f_64 ?_
        refine a_aload_n X dX7_likes_67 rfl ?_
        refine a_getr X lf7_68 (by assumption) rfl (by omega) dX7_likes_68 ?_
        refine a_aload_n X dX7_likes_71 rfl ?_
        refine a_getr X lf7_65 (by assumption) rfl (by omega) dX7_likes_72 ?_
        obtain ⟨e_75, f_75, h⟩ := zBx h
        refine a_callVu X dX7_likes_75 miX2_gather lm7_80 (t_X2_gather (by assumption) (by assumption) f_75) (by assumption) rfl rfl rfl (Nat.le_of_ble_eq_true rfl) ⟨by decide, by decide, by decide, by decide⟩ ?_
        refine a_aload_n X dX7_likes_78 rfl ?_
        refine a_getr X lf7_74 (by assumption) rfl (by omega) dX7_likes_79 ?_
        refine a_aload_n X dX7_likes_82 rfl ?_
        refine a_getr X lf7_68 (by assumption) rfl (by omega) dX7_likes_83 ?_
        obtain ⟨e_86, f_86, h⟩ := zBx h
        refine a_callVu X dX7_likes_86 miX0_reckon lm7_339 (t_X0_reckon (by assumption) (by assumption) f_86) (by assumption) rfl rfl rfl (Nat.le_of_ble_eq_true rfl) ⟨by decide, by decide, by decide, by decide⟩ ?_
        refine a_aload_n X dX7_likes_89 rfl ?_
        refine a_getr X lf7_74 (by assumption) rfl (by omega) dX7_likes_90 ?_
        refine a_iload_n X dX7_likes_93 rfl ?_
        obtain ⟨e_94, f_94, h⟩ := zBx h
        refine a_callVv X dX7_likes_94 miX0_anyUnit lm7_299 (t_X0_anyUnit (by assumption) f_94) (by assumption) rfl rfl rfl (Nat.le_of_ble_eq_true rfl) ⟨by decide, by decide, by decide, by decide⟩ ?_
        refine a_lstore X dX7_likes_97 (by decide) ?_
        refine a_lload X dX7_likes_99 rfl ?_
        refine a_lload_n X dX7_likes_101 rfl ?_
        refine a_lcmp X dX7_likes_102 ?_
        refine a_if_le (tgt := 112) X dX7_likes_103 (by decide) (fun h_103 => ?_) (fun h_103 => ?_)
        · replace h := (if_pos h_103).symm.trans h
          exact Zw.to2 (J_112 _ _ _ _ _ _ _ h) rfl rfl rfl
        · replace h := (if_neg h_103).symm.trans h
          refine a_lload X dX7_likes_106 rfl ?_
          refine a_lstore_n X dX7_likes_108 (by decide) ?_
          refine a_iload X dX7_likes_109 rfl ?_
          refine a_istore_n X dX7_likes_111 (by decide) ?_
          exact Zw.to2 (J_112 _ _ _ _ _ _ _ h) rfl rfl rfl
  have H_52 : ∀ (x1_52 : Int32) (x2_52 : Int32) (x3_52 : Int64) (x5_52 : Int32) (x6_52 : Option Value) (x7_52 : Option Value) (M_52 : zMt) (N_52 : zNt), D_X7_likes_52 P zFu x1_52 x2_52 x3_52 x5_52 M_52 N_52 = some r → Zw p l e { frames := 14, cells := 0, slots := 0, locals := 80 * (14) } s m args below meth c G b 8 (MQ below (zQ G b FQ) args s 0 0 (fun q : Nat => b ≤ q)) 0 0 52 [some (.ref (P)), some (.int x1_52), some (.int x2_52), some (.long x3_52), none, some (.int x5_52), x6_52, x7_52] [] (L, M_52, N_52) := L_52 zFu
  unfold D_X7_likes at h
  refine a_aload_n X dX7_likes_0 rfl ?_
  refine a_iload_n X dX7_likes_1 rfl ?_
  obtain ⟨e_2, f_2, h⟩ := zBx h
  refine a_callVx X dX7_likes_2 miX7_isApplicant lm7_206 (t_X7_isApplicant (by assumption) f_2) (by assumption) rfl rfl rfl (Nat.le_of_ble_eq_true rfl) ⟨by decide, by decide, by decide, by decide⟩ (fun r_2 S_2 q_2 => ?_)
  obtain ⟨rfl, rfl, b_2⟩ := q_2
  refine a_if_ne (tgt := 14) X dX7_likes_5 (by decide) (fun h_5 => ?_) (fun h_5 => ?_)
  · replace h := (if_neg h_5).symm.trans h
    refine a_aload_n X dX7_likes_14 rfl ?_
    refine a_getr X lf7_40 (by assumption) rfl (by omega) dX7_likes_15 ?_
    refine a_geti X lf7_140 (by assumption) rfl dX7_likes_18 ?_
    refine a_bipush (v := 7) X dX7_likes_21 (by decide) ?_
    refine a_icmp_le (tgt := 32) X dX7_likes_23 (by decide) (fun h_23 => ?_) (fun h_23 => ?_)
    · replace h := (if_pos h_23).symm.trans h
      refine a_iconst (v := 0) X dX7_likes_32 (by decide) ?_
      refine a_istore_n X dX7_likes_33 (by decide) ?_
      refine a_ldc2 X dX7_likes_34 lk7_347 ?_
      refine a_lstore_n X dX7_likes_37 (by decide) ?_
      refine a_aload_n X dX7_likes_38 rfl ?_
      refine a_getr X lf7_65 (by assumption) rfl (by omega) dX7_likes_39 ?_
      refine a_aload_n X dX7_likes_42 rfl ?_
      refine a_getr X lf7_26 (by assumption) rfl (by omega) dX7_likes_43 ?_
      obtain ⟨e_46, f_46, h⟩ := zBx h
      refine a_callVu X dX7_likes_46 miX4_take lm7_113 (t_X4_take (by assumption) (by assumption) (by omega) f_46) (by assumption) rfl rfl rfl (Nat.le_of_ble_eq_true rfl) ⟨by decide, by decide, by decide, by decide⟩ ?_
      refine a_iconst (v := 0) X dX7_likes_49 (by decide) ?_
      refine a_istore X dX7_likes_50 (by decide) ?_
      exact Zw.to2 (H_52 _ _ _ _ _ _ _ _ h) rfl rfl rfl
    · replace h := (if_neg h_23).symm.trans h
      refine a_aload_n X dX7_likes_26 rfl ?_
      refine a_iconst (v := 3) X dX7_likes_27 (by decide) ?_
      obtain ⟨e_28, f_28, h⟩ := zBx h
      refine a_callVv X dX7_likes_28 miX7_refuse lm7_102 (t_X7_refuse (by assumption) f_28) (by assumption) rfl rfl rfl (Nat.le_of_ble_eq_true rfl) ⟨by decide, by decide, by decide, by decide⟩ ?_
      refine a_iret X hr dX7_likes_31 ⟨by decide, by decide⟩ ?_
      subst hF
      rw [← Option.some.inj h]
      exact ⟨rfl, rfl⟩
  · replace h := (if_pos h_5).symm.trans h
    refine a_aload_n X dX7_likes_8 rfl ?_
    refine a_iconst (v := 2) X dX7_likes_9 (by decide) ?_
    obtain ⟨e_10, f_10, h⟩ := zBx h
    refine a_callVv X dX7_likes_10 miX7_refuse lm7_102 (t_X7_refuse (by assumption) f_10) (by assumption) rfl rfl rfl (Nat.le_of_ble_eq_true rfl) ⟨by decide, by decide, by decide, by decide⟩ ?_
    refine a_iret X hr dX7_likes_13 ⟨by decide, by decide⟩ ?_
    subst hF
    rw [← Option.some.inj h]
    exact ⟨rfl, rfl⟩
noncomputable def D_X7_areYears_32  (y0_32 : Int32) : Option (Int32) :=
  some (y0_32)
noncomputable def D_X7_areYears_31   : Option (Int32) :=
  D_X7_areYears_32 (0 : Int32)
noncomputable def D_X7_areYears  (v0 : Int32) (v1 : Int32) : Option (Int32) :=
  zB (D_X7_isSeed v0) fun e_1 =>
  if e_1 = 0 then
    D_X7_areYears_31
  else
    if v1 < (1 : Int32) then
      D_X7_areYears_31
    else
      if (30 : Int32) < v1 then
        D_X7_areYears_31
      else
        if ((999999999 : Int32) - v1) < v0 then
          D_X7_areYears_31
        else
          D_X7_areYears_32 (1 : Int32)
set_option maxRecDepth 100000 in
set_option maxHeartbeats 4000000 in
theorem t_X7_areYears {l : Launch} {G : zG} {b : Nat} {L : List zC} {M : zMt} {N : zNt}   {v0 : Int32} {v1 : Int32} {r : Int32} (h : D_X7_areYears v0 v1 = some r) : zM l G b yX7_areYears cX7_areYears 2 (some .boolean) 1 0 0 [.int v0, .int v1] (L, M, N) (fun r2 z => r2 = some (.int r) ∧ z = (L, M, N) ∧ (r = 0 ∨ r = 1)) := by
  refine zM.of miX7_areYears (Nat.le_of_ble_eq_true rfl) ?_
  intro p e s m args below meth c X hr hname
  generalize hF : ((fun r2 z => r2 = some (.int r) ∧ z = (L, M, N) ∧ (r = 0 ∨ r = 1)) : Option Value → zS → Prop) = FQ
  change Zw p l e { frames := 1, cells := 0, slots := 0, locals := 80 * (1) } s m args below meth c G b 2 (MQ below (zQ G b FQ) args s 0 0 (fun q : Nat => b ≤ q)) 0 0 0 [some (.int v0), some (.int v1)] [] (L, M, N)
  have J_32 : ∀ (x0_32 : Int32) (x1_32 : Int32) (y0_32 : Int32), (y0_32 = 0 ∨ y0_32 = 1) → D_X7_areYears_32 y0_32 = some r → Zw p l e { frames := 1, cells := 0, slots := 0, locals := 80 * (1) } s m args below meth c G b 2 (MQ below (zQ G b FQ) args s 0 0 (fun q : Nat => b ≤ q)) 0 0 32 [some (.int x0_32), some (.int x1_32)] [.int y0_32] (L, M, N) := by
    intro x0_32 x1_32 y0_32 fb_y0_32 h
    unfold D_X7_areYears_32 at h
    refine a_zret X (by first | exact Or.inl rfl | exact Or.inr rfl | assumption) hr dX7_areYears_32 ⟨by decide, by decide⟩ ?_
    subst hF
    rw [← Option.some.inj h]
    exact ⟨rfl, rfl, (by first | exact Or.inl rfl | exact Or.inr rfl | assumption)⟩
  have J_31 : ∀ (x0_31 : Int32) (x1_31 : Int32), D_X7_areYears_31 = some r → Zw p l e { frames := 1, cells := 0, slots := 0, locals := 80 * (1) } s m args below meth c G b 2 (MQ below (zQ G b FQ) args s 0 0 (fun q : Nat => b ≤ q)) 0 0 31 [some (.int x0_31), some (.int x1_31)] [] (L, M, N) := by
    intro x0_31 x1_31 h
    unfold D_X7_areYears_31 at h
    refine a_iconst (v := 0) X dX7_areYears_31 (by decide) ?_
    exact Zw.to2 (J_32 _ _ _ (by first | exact Or.inl rfl | exact Or.inr rfl | assumption) h) rfl rfl rfl
  unfold D_X7_areYears at h
  refine a_iload_n X dX7_areYears_0 rfl ?_
  obtain ⟨e_1, f_1, h⟩ := zBx h
  refine a_callSx X dX7_areYears_1 miX7_isSeed lm7_237 (t_X7_isSeed f_1) rfl rfl (Nat.le_of_ble_eq_true rfl) ⟨by decide, by decide, by decide, by decide⟩ (fun r_1 S_1 q_1 => ?_)
  obtain ⟨rfl, rfl, b_1⟩ := q_1
  refine a_if_eq (tgt := 31) X dX7_areYears_4 (by decide) (fun h_4 => ?_) (fun h_4 => ?_)
  · replace h := (if_pos h_4).symm.trans h
    exact Zw.to2 (J_31 _ _ h) rfl rfl rfl
  · replace h := (if_neg h_4).symm.trans h
    refine a_iload_n X dX7_areYears_7 rfl ?_
    refine a_iconst (v := 1) X dX7_areYears_8 (by decide) ?_
    refine a_icmp_lt (tgt := 31) X dX7_areYears_9 (by decide) (fun h_9 => ?_) (fun h_9 => ?_)
    · replace h := (if_pos h_9).symm.trans h
      exact Zw.to2 (J_31 _ _ h) rfl rfl rfl
    · replace h := (if_neg h_9).symm.trans h
      refine a_iload_n X dX7_areYears_12 rfl ?_
      refine a_bipush (v := 30) X dX7_areYears_13 (by decide) ?_
      refine a_icmp_gt (tgt := 31) X dX7_areYears_15 (by decide) (fun h_15 => ?_) (fun h_15 => ?_)
      · replace h := (if_pos h_15).symm.trans h
        exact Zw.to2 (J_31 _ _ h) rfl rfl rfl
      · replace h := (if_neg h_15).symm.trans h
        refine a_iload_n X dX7_areYears_18 rfl ?_
        refine a_ldcw X dX7_areYears_19 lk7_395 ?_
        refine a_iload_n X dX7_areYears_22 rfl ?_
        refine a_isub X dX7_areYears_23 ?_
        refine a_icmp_gt (tgt := 31) X dX7_areYears_24 (by decide) (fun h_24 => ?_) (fun h_24 => ?_)
        · replace h := (if_pos h_24).symm.trans h
          exact Zw.to2 (J_31 _ _ h) rfl rfl rfl
        · replace h := (if_neg h_24).symm.trans h
          refine a_iconst (v := 1) X dX7_areYears_27 (by decide) ?_
          refine a_goto (tgt := 32) X dX7_areYears_28 (by decide) ?_
          exact Zw.to2 (J_32 _ _ _ (by first | exact Or.inl rfl | exact Or.inr rfl | assumption) h) rfl rfl rfl
noncomputable def D_X7_years_17 (P : Nat) (M_17 : zMt) : Option (Int32 × zMt) :=
  zB (D_X7_refuse P (1 : Int32) M_17) fun e_19 =>
  some (e_19.1, e_19.2)
noncomputable def D_X7_years (P : Nat) (v0 : Int32) (v1 : Int32) (v2 : Int32) (M : zMt) : Option (Int32 × zMt) :=
  zB (D_X7_areYears v0 v1) fun e_2 =>
  if e_2 = 0 then
    D_X7_years_17 P M
  else
    if v2 < 0 then
      D_X7_years_17 P M
    else
      if v2 ≤ (2 : Int32) then
        zB (D_X6_pass (P + 125) (P + 17) v0 v1 M) fun e_33 =>
        if Int32.toInt v2 = 0 then
          zB (D_X7_answer P (e_33 (P + 125) 0) e_33) fun e_72 =>
          some (e_72.1, e_72.2)
        else if Int32.toInt v2 = 1 then
          zB (D_X6_unserved (P + 125) e_33 (e_33 (P + 17) 1)) fun e_88 =>
          zB (D_X7_answer P e_88 e_33) fun e_91 =>
          some (e_91.1, e_91.2)
        else
          zB (D_X7_answer P (e_33 (P + 125) 1) e_33) fun e_103 =>
          some (e_103.1, e_103.2)
      else
        D_X7_years_17 P M
set_option maxRecDepth 100000 in
set_option maxHeartbeats 4000000 in
theorem t_X7_years {l : Launch} {G : zG} {b : Nat} {L : List zC} {M : zMt} {N : zNt} {P : Nat} (hP : LX7 L P) {v0 : Int32} {v1 : Int32} {v2 : Int32} {r : Int32 × zMt} (h : D_X7_years P v0 v1 v2 M = some r) : zM l G b yX7_years cX7_years 4 (some .int) 6 0 0 [.ref P, .int v0, .int v1, .int v2] (L, M, N) (fun r2 z => r2 = some (.int r.1) ∧ z = (L, r.2, N)) := by
  refine zM.of miX7_years (Nat.le_of_ble_eq_true rfl) ?_
  intro p e s m args below meth c X hr hname
  generalize hF : ((fun r2 z => r2 = some (.int r.1) ∧ z = (L, r.2, N)) : Option Value → zS → Prop) = FQ
  change Zw p l e { frames := 6, cells := 0, slots := 0, locals := 80 * (6) } s m args below meth c G b 4 (MQ below (zQ G b FQ) args s 0 0 (fun q : Nat => b ≤ q)) 0 0 0 [some (.ref P), some (.int v0), some (.int v1), some (.int v2)] [] (L, M, N)
  obtain ⟨p_lt, p_o, p_tape, p_out, p_reader, p_list, p_past, p_pool, p_result, p_odds, p_paper, p_trial, p_trialPool, p_trialResult, p_trialOdds⟩ := id hP
  obtain ⟨p_reader_lt, p_reader_o, p_reader_draft, p_reader_text, p_reader_unitNames, p_reader_hunterNames, p_reader_partyNames, p_reader_asked⟩ := id p_reader
  obtain ⟨p_list_lt, p_list_o, p_list_quota, p_list_score, p_list_guest, p_list_party, p_list_wishCount, p_list_wishes, p_list_has⟩ := id p_list
  obtain ⟨p_past_lt, p_past_o, p_past_stood, p_past_stood0, p_past_stood1, p_past_stood2, p_past_stood3, p_past_stood4, p_past_stood5, p_past_stood6, p_past_stood7⟩ := id p_past
  obtain ⟨p_pool_lt, p_pool_o, p_pool_quota, p_pool_preferred, p_pool_forGuests, p_pool_applicantOf, p_pool_size, p_pool_guestCount, p_pool_score, p_pool_tickets, p_pool_bits, p_pool_party, p_pool_wishCount, p_pool_wishes⟩ := id p_pool
  obtain ⟨p_result_lt, p_result_o, p_result_line, p_result_unitOf, p_result_roundOf, p_result_leftTags, p_result_leftGuests, p_result_leftPreferred, p_result_ranked⟩ := id p_result
  obtain ⟨p_odds_lt, p_odds_o, p_odds_sets, p_odds_seen, p_odds_atUnit, p_odds_early, p_odds_result⟩ := id p_odds
  obtain ⟨p_paper_lt, p_paper_o, p_paper_times, p_paper_firstWish, p_paper_dry, p_paper_list, p_paper_pool, p_paper_result⟩ := id p_paper
  obtain ⟨p_trial_lt, p_trial_o, p_trial_quota, p_trial_score, p_trial_guest, p_trial_party, p_trial_wishCount, p_trial_wishes, p_trial_has⟩ := id p_trial
  obtain ⟨p_trialPool_lt, p_trialPool_o, p_trialPool_quota, p_trialPool_preferred, p_trialPool_forGuests, p_trialPool_applicantOf, p_trialPool_size, p_trialPool_guestCount, p_trialPool_score, p_trialPool_tickets, p_trialPool_bits, p_trialPool_party, p_trialPool_wishCount, p_trialPool_wishes⟩ := id p_trialPool
  obtain ⟨p_trialResult_lt, p_trialResult_o, p_trialResult_line, p_trialResult_unitOf, p_trialResult_roundOf, p_trialResult_leftTags, p_trialResult_leftGuests, p_trialResult_leftPreferred, p_trialResult_ranked⟩ := id p_trialResult
  obtain ⟨p_trialOdds_lt, p_trialOdds_o, p_trialOdds_sets, p_trialOdds_seen, p_trialOdds_atUnit, p_trialOdds_early, p_trialOdds_result⟩ := id p_trialOdds
  have J_17 : ∀ (x1_17 : Int32) (x2_17 : Int32) (x3_17 : Int32) (M_17 : zMt), D_X7_years_17 P M_17 = some r → Zw p l e { frames := 6, cells := 0, slots := 0, locals := 80 * (6) } s m args below meth c G b 4 (MQ below (zQ G b FQ) args s 0 0 (fun q : Nat => b ≤ q)) 0 0 17 [some (.ref (P)), some (.int x1_17), some (.int x2_17), some (.int x3_17)] [] (L, M_17, N) := by
    intro x1_17 x2_17 x3_17 M_17 h
    unfold D_X7_years_17 at h
    refine a_aload_n X dX7_years_17 rfl ?_
    refine a_iconst (v := 1) X dX7_years_18 (by decide) ?_
    obtain ⟨e_19, f_19, h⟩ := zBx h
    refine a_callVv X dX7_years_19 miX7_refuse lm7_102 (t_X7_refuse (by assumption) f_19) (by assumption) rfl rfl rfl (Nat.le_of_ble_eq_true rfl) ⟨by decide, by decide, by decide, by decide⟩ ?_
    refine a_iret X hr dX7_years_22 ⟨by decide, by decide⟩ ?_
    subst hF
    rw [← Option.some.inj h]
    exact ⟨rfl, rfl⟩
  unfold D_X7_years at h
  refine a_iload_n X dX7_years_0 rfl ?_
  refine a_iload_n X dX7_years_1 rfl ?_
  obtain ⟨e_2, f_2, h⟩ := zBx h
  refine a_callSx X dX7_years_2 miX7_areYears lm7_372 (t_X7_areYears f_2) rfl rfl (Nat.le_of_ble_eq_true rfl) ⟨by decide, by decide, by decide, by decide⟩ (fun r_2 S_2 q_2 => ?_)
  obtain ⟨rfl, rfl, b_2⟩ := q_2
  refine a_if_eq (tgt := 17) X dX7_years_5 (by decide) (fun h_5 => ?_) (fun h_5 => ?_)
  · replace h := (if_pos h_5).symm.trans h
    exact Zw.to2 (J_17 _ _ _ _ h) rfl rfl rfl
  · replace h := (if_neg h_5).symm.trans h
    refine a_iload_n X dX7_years_8 rfl ?_
    refine a_if_lt (tgt := 17) X dX7_years_9 (by decide) (fun h_9 => ?_) (fun h_9 => ?_)
    · replace h := (if_pos h_9).symm.trans h
      exact Zw.to2 (J_17 _ _ _ _ h) rfl rfl rfl
    · replace h := (if_neg h_9).symm.trans h
      refine a_iload_n X dX7_years_12 rfl ?_
      refine a_iconst (v := 2) X dX7_years_13 (by decide) ?_
      refine a_icmp_le (tgt := 23) X dX7_years_14 (by decide) (fun h_14 => ?_) (fun h_14 => ?_)
      · replace h := (if_pos h_14).symm.trans h
        refine a_aload_n X dX7_years_23 rfl ?_
        refine a_getr X lf7_61 (by assumption) rfl (by omega) dX7_years_24 ?_
        refine a_aload_n X dX7_years_27 rfl ?_
        refine a_getr X lf7_26 (by assumption) rfl (by omega) dX7_years_28 ?_
        refine a_iload_n X dX7_years_31 rfl ?_
        refine a_iload_n X dX7_years_32 rfl ?_
        obtain ⟨e_33, f_33, h⟩ := zBx h
        refine a_callVu X dX7_years_33 miX6_pass lm7_376 (t_X6_pass (by assumption) (by assumption) (by omega) f_33) (by assumption) rfl rfl rfl (Nat.le_of_ble_eq_true rfl) ⟨by decide, by decide, by decide, by decide⟩ ?_
        refine a_iload_n X dX7_years_36 rfl ?_
        refine a_lsw2 (t1 := 64) (t2 := 76) (td := 95) X dX7_years_37 rfl (by decide) (by decide) (by decide) (by decide) (fun h_37 => ?_) (fun g_37 h_37 => ?_) (fun f_37 g_37 => ?_)
        · replace h := (if_pos h_37).symm.trans h
          refine a_aload_n X dX7_years_64 rfl ?_
          refine a_aload_n X dX7_years_65 rfl ?_
          refine a_getr X lf7_61 (by assumption) rfl (by omega) dX7_years_66 ?_
          refine a_geti X lf7_380 (by assumption) rfl dX7_years_69 ?_
          obtain ⟨e_72, f_72, h⟩ := zBx h
          refine a_callVv X dX7_years_72 miX7_answer lm7_134 (t_X7_answer (by assumption) f_72) (by assumption) rfl rfl rfl (Nat.le_of_ble_eq_true rfl) ⟨by decide, by decide, by decide, by decide⟩ ?_
          refine a_iret X hr dX7_years_75 ⟨by decide, by decide⟩ ?_
          subst hF
          rw [← Option.some.inj h]
          exact ⟨rfl, rfl⟩
        · replace h := (if_neg g_37).symm.trans h
          replace h := (if_pos h_37).symm.trans h
          refine a_aload_n X dX7_years_76 rfl ?_
          refine a_aload_n X dX7_years_77 rfl ?_
          refine a_getr X lf7_61 (by assumption) rfl (by omega) dX7_years_78 ?_
          refine a_aload_n X dX7_years_81 rfl ?_
          refine a_getr X lf7_26 (by assumption) rfl (by omega) dX7_years_82 ?_
          refine a_geti X lf7_119 (by assumption) rfl dX7_years_85 ?_
          obtain ⟨e_88, f_88, h⟩ := zBx h
          refine a_callVv X dX7_years_88 miX6_unserved lm7_383 (t_X6_unserved (by assumption) f_88) (by assumption) rfl rfl rfl (Nat.le_of_ble_eq_true rfl) ⟨by decide, by decide, by decide, by decide⟩ ?_
          obtain ⟨e_91, f_91, h⟩ := zBx h
          refine a_callVv X dX7_years_91 miX7_answer lm7_134 (t_X7_answer (by assumption) f_91) (by assumption) rfl rfl rfl (Nat.le_of_ble_eq_true rfl) ⟨by decide, by decide, by decide, by decide⟩ ?_
          refine a_iret X hr dX7_years_94 ⟨by decide, by decide⟩ ?_
          subst hF
          rw [← Option.some.inj h]
          exact ⟨rfl, rfl⟩
        · replace h := (if_neg f_37).symm.trans h
          replace h := (if_neg g_37).symm.trans h
          refine a_aload_n X dX7_years_95 rfl ?_
          refine a_aload_n X dX7_years_96 rfl ?_
          refine a_getr X lf7_61 (by assumption) rfl (by omega) dX7_years_97 ?_
          refine a_geti X lf7_386 (by assumption) rfl dX7_years_100 ?_
          obtain ⟨e_103, f_103, h⟩ := zBx h
          refine a_callVv X dX7_years_103 miX7_answer lm7_134 (t_X7_answer (by assumption) f_103) (by assumption) rfl rfl rfl (Nat.le_of_ble_eq_true rfl) ⟨by decide, by decide, by decide, by decide⟩ ?_
          refine a_iret X hr dX7_years_106 ⟨by decide, by decide⟩ ?_
          subst hF
          rw [← Option.some.inj h]
          exact ⟨rfl, rfl⟩
      · replace h := (if_neg h_14).symm.trans h
        exact Zw.to2 (J_17 _ _ _ _ h) rfl rfl rfl
