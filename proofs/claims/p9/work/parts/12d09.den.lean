noncomputable def D_X7_mean_43 (P : Nat) : Nat → Int32 → Int64 → Int32 → zMt → zNt → Option (Int64 × zMt × zNt)
  | 0, _, _, _, _, _ => none
  | n + 1, x1_43, x2_43, x4_43, M_43, N_43 =>
    if (M_43 (P + 91) 1) ≤ x4_43 then
      zB (D_X7_answerParts P x2_43 M_43) fun e_90 =>
      some (e_90.1, e_90.2, N_43)
    else
      zB (D_X0_certainUnit (P + 112) N_43 x4_43 x1_43) fun e_76 =>
      (D_X7_mean_43 P n) x1_43 (x2_43 + ((Int32.toInt64 (zrd 0 (M_43 (P + 96)) 10 x4_43)) * e_76)) (x4_43 + 1) M_43 N_43
noncomputable def D_X7_mean (P : Nat) (v0 : Int32) (M : zMt) (N : zNt) : Option (Int64 × zMt × zNt) :=
  zB (D_X7_isUnit P M v0) fun e_2 =>
  if e_2 = 0 then
    zB (D_X7_refuse P (2 : Int32) M) fun e_10 =>
    some ((Int32.toInt64 e_10.1), e_10.2, N)
  else
    if (M (P + 91) 1) ≤ (7 : Int32) then
      zB (D_X7_reckon P M N) fun e_35 =>
      D_X7_mean_43 P zFu v0 (0 : Int64) (0 : Int32) e_35.1 e_35.2
    else
      zB (D_X7_refuse P (3 : Int32) M) fun e_29 =>
      some ((Int32.toInt64 e_29.1), e_29.2, N)
set_option maxRecDepth 100000 in
set_option maxHeartbeats 4000000 in
theorem t_X7_mean {l : Launch} {G : zG} {b : Nat} {L : List zC} {M : zMt} {N : zNt} {P : Nat} {v0 : Int32} (hP : LX7 L P) {r : Int64 × zMt × zNt} (h : D_X7_mean P v0 M N = some r) : zM l G b yX7_mean cX7_mean 5 (some .long) 15 0 0 [.ref P, .int v0] (L, M, N) (fun r2 z => r2 = some (.long r.1) ∧ z = (L, r.2.1, r.2.2)) := by
  refine zM.of miX7_mean (Nat.le_of_ble_eq_true rfl) ?_
  intro p e s m args below meth c X hr hname
  generalize hF : ((fun r2 z => r2 = some (.long r.1) ∧ z = (L, r.2.1, r.2.2)) : Option Value → zS → Prop) = FQ
  change Zw p l e { frames := 15, cells := 0, slots := 0, locals := 80 * (15) } s m args below meth c G b 5 (MQ below (zQ G b FQ) args s 0 0 (fun q : Nat => b ≤ q)) 0 0 0 [some (.ref P), some (.int v0), none, none, none] [] (L, M, N)
  obtain ⟨p_lt, p_o, p_tape, p_out, p_reader, p_list, p_past, p_pool, p_result, p_odds, p_paper, p_trial, p_trialPool, p_trialResult, p_trialOdds⟩ := id hP
  obtain ⟨p_reader_lt, p_reader_o, p_reader_draft, p_reader_text, p_reader_unitNames, p_reader_hunterNames, p_reader_partyNames, p_reader_asked⟩ := id p_reader
  obtain ⟨p_list_lt, p_list_o, p_list_quota, p_list_score, p_list_guest, p_list_party, p_list_wishCount, p_list_wishes, p_list_has⟩ := id p_list
  obtain ⟨p_past_lt, p_past_o, p_past_stood, p_past_stood0, p_past_stood1, p_past_stood2, p_past_stood3, p_past_stood4, p_past_stood5, p_past_stood6, p_past_stood7⟩ := id p_past
  obtain ⟨p_pool_lt, p_pool_o, p_pool_quota, p_pool_preferred, p_pool_forGuests, p_pool_applicantOf, p_pool_size, p_pool_guestCount, p_pool_score, p_pool_tickets, p_pool_bits, p_pool_party, p_pool_wishCount, p_pool_wishes⟩ := id p_pool
  obtain ⟨p_result_lt, p_result_o, p_result_line, p_result_unitOf, p_result_roundOf, p_result_leftTags, p_result_leftGuests, p_result_leftPreferred, p_result_ranked⟩ := id p_result
  obtain ⟨p_odds_lt, p_odds_o, p_odds_sets, p_odds_seen, p_odds_atUnit, p_odds_early, p_odds_result⟩ := id p_odds
  obtain ⟨p_paper_lt, p_paper_o, p_paper_times, p_paper_firstWish, p_paper_dry, p_paper_list, p_paper_pool, p_paper_result⟩ := id p_paper
  obtain ⟨p_trial_lt, p_trial_o, p_trial_quota, p_trial_score, p_trial_guest, p_trial_party, p_trial_wishCount, p_trial_wishes, p_trial_has⟩ := id p_trial
  obtain ⟨p_trialPool_lt, p_trialPool_o, p_trialPool_quota, p_trialPool_preferred, p_trialPool_forGuests, p_trialPool_applicantOf, p_trialPool_size, p_trialPool_guestCount, p_trialPool_score, p_trialPool_tickets, p_trialPool_bits, p_trialPool_party, p_trialPool_wishCount, p_trialPool_wishes⟩ := id p_trialPool
  obtain ⟨p_trialResult_lt, p_trialResult_o, p_trialResult_line, p_trialResult_unitOf, p_trialResult_roundOf, p_trialResult_leftTags, p_trialResult_leftGuests, p_trialResult_leftPreferred, p_trialResult_ranked⟩ := id p_trialResult
  obtain ⟨p_trialOdds_lt, p_trialOdds_o, p_trialOdds_sets, p_trialOdds_seen, p_trialOdds_atUnit, p_trialOdds_early, p_trialOdds_result⟩ := id p_trialOdds
  have L_43 : ∀ u : Nat, ∀ (x1_43 : Int32) (x2_43 : Int64) (x4_43 : Int32) (M_43 : zMt) (N_43 : zNt), D_X7_mean_43 P u x1_43 x2_43 x4_43 M_43 N_43 = some r → Zw p l e { frames := 15, cells := 0, slots := 0, locals := 80 * (15) } s m args below meth c G b 5 (MQ below (zQ G b FQ) args s 0 0 (fun q : Nat => b ≤ q)) 0 0 43 [some (.ref (P)), some (.int x1_43), some (.long x2_43), none, some (.int x4_43)] [] (L, M_43, N_43) := by
    intro u
    induction u with
    | zero => intro x1_43 x2_43 x4_43 M_43 N_43 h; cases (show none = some r from h)
    | succ u_43 ih_43 =>
      intro x1_43 x2_43 x4_43 M_43 N_43 h
      rw [D_X7_mean_43] at h
      refine a_iload X dX7_mean_43 rfl ?_
      refine a_aload_n X dX7_mean_45 rfl ?_
      refine a_getr X lf7_40 (by assumption) rfl (by omega) dX7_mean_46 ?_
      refine a_geti X lf7_140 (by assumption) rfl dX7_mean_49 ?_
      refine a_icmp_ge (tgt := 88) X dX7_mean_52 (by decide) (fun h_52 => ?_) (fun h_52 => ?_)
      · replace h := (if_pos h_52).symm.trans h
        refine a_aload_n X dX7_mean_88 rfl ?_
        refine a_lload_n X dX7_mean_89 rfl ?_
        obtain ⟨e_90, f_90, h⟩ := zBx h
        refine a_callVv X dX7_mean_90 miX7_answerParts lm7_303 (t_X7_answerParts (by assumption) f_90) (by assumption) rfl rfl rfl (Nat.le_of_ble_eq_true rfl) ⟨by decide, by decide, by decide, by decide⟩ ?_
        refine a_lret X hr dX7_mean_93 ⟨by decide, by decide⟩ ?_
        subst hF
        rw [← Option.some.inj h]
        exact ⟨rfl, rfl⟩
      · replace h := (if_neg h_52).symm.trans h
        refine a_lload_n X dX7_mean_55 rfl ?_
        refine a_aload_n X dX7_mean_56 rfl ?_
        refine a_getr X lf7_40 (by assumption) rfl (by omega) dX7_mean_57 ?_
        refine a_getr X lf7_209 (by assumption) rfl (by omega) dX7_mean_60 ?_
        refine a_iload X dX7_mean_63 rfl ?_
        refine a_callSv X dX7_mean_65 miX7_cell lm7_175 (c_cell (by assumption) (by first | decide | assumption)) rfl rfl (Nat.le_of_ble_eq_true rfl) ⟨by decide, by decide, by decide, by decide⟩ ?_
        refine a_i2l X dX7_mean_68 ?_
        refine a_aload_n X dX7_mean_69 rfl ?_
        refine a_getr X lf7_54 (by assumption) rfl (by omega) dX7_mean_70 ?_
        refine a_iload X dX7_mean_73 rfl ?_
        refine a_iload_n X dX7_mean_75 rfl ?_
        obtain ⟨e_76, f_76, h⟩ := zBx h
        refine a_callVv X dX7_mean_76 miX0_certainUnit lm7_307 (t_X0_certainUnit (by assumption) f_76) (by assumption) rfl rfl rfl (Nat.le_of_ble_eq_true rfl) ⟨by decide, by decide, by decide, by decide⟩ ?_
        refine a_lmul X dX7_mean_79 ?_
        refine a_ladd X dX7_mean_80 ?_
        refine a_lstore_n X dX7_mean_81 (by decide) ?_
        refine a_iinc (v := x4_43 + 1) X dX7_mean_82 (by decide) rfl zi_1 ?_
        refine a_goto (tgt := 43) X dX7_mean_85 (by decide) ?_
        exact Zw.to2 (ih_43 _ _ _ _ _ h) rfl rfl rfl
  have H_43 : ∀ (x1_43 : Int32) (x2_43 : Int64) (x4_43 : Int32) (M_43 : zMt) (N_43 : zNt), D_X7_mean_43 P zFu x1_43 x2_43 x4_43 M_43 N_43 = some r → Zw p l e { frames := 15, cells := 0, slots := 0, locals := 80 * (15) } s m args below meth c G b 5 (MQ below (zQ G b FQ) args s 0 0 (fun q : Nat => b ≤ q)) 0 0 43 [some (.ref (P)), some (.int x1_43), some (.long x2_43), none, some (.int x4_43)] [] (L, M_43, N_43) := L_43 zFu
  unfold D_X7_mean at h
  refine a_aload_n X dX7_mean_0 rfl ?_
  refine a_iload_n X dX7_mean_1 rfl ?_
  obtain ⟨e_2, f_2, h⟩ := zBx h
  refine a_callVx X dX7_mean_2 miX7_isUnit lm7_188 (t_X7_isUnit (by assumption) f_2) (by assumption) rfl rfl rfl (Nat.le_of_ble_eq_true rfl) ⟨by decide, by decide, by decide, by decide⟩ (fun r_2 S_2 q_2 => ?_)
  obtain ⟨rfl, rfl, b_2⟩ := q_2
  refine a_if_ne (tgt := 15) X dX7_mean_5 (by decide) (fun h_5 => ?_) (fun h_5 => ?_)
  · replace h := (if_neg h_5).symm.trans h
    refine a_aload_n X dX7_mean_15 rfl ?_
    refine a_getr X lf7_40 (by assumption) rfl (by omega) dX7_mean_16 ?_
    refine a_geti X lf7_140 (by assumption) rfl dX7_mean_19 ?_
    refine a_bipush (v := 7) X dX7_mean_22 (by decide) ?_
    refine a_icmp_le (tgt := 34) X dX7_mean_24 (by decide) (fun h_24 => ?_) (fun h_24 => ?_)
    · replace h := (if_pos h_24).symm.trans h
      refine a_aload_n X dX7_mean_34 rfl ?_
      obtain ⟨e_35, f_35, h⟩ := zBx h
      refine a_callVu X dX7_mean_35 miX7_reckon lm7_296 (t_X7_reckon (by assumption) f_35) (by assumption) rfl rfl rfl (Nat.le_of_ble_eq_true rfl) ⟨by decide, by decide, by decide, by decide⟩ ?_
      refine a_lconst (v := 0) X dX7_mean_38 (by decide) ?_
      refine a_lstore_n X dX7_mean_39 (by decide) ?_
      refine a_iconst (v := 0) X dX7_mean_40 (by decide) ?_
      refine a_istore X dX7_mean_41 (by decide) ?_
      exact Zw.to2 (H_43 _ _ _ _ _ h) rfl rfl rfl
    · replace h := (if_neg h_24).symm.trans h
      refine a_aload_n X dX7_mean_27 rfl ?_
      refine a_iconst (v := 3) X dX7_mean_28 (by decide) ?_
      obtain ⟨e_29, f_29, h⟩ := zBx h
      refine a_callVv X dX7_mean_29 miX7_refuse lm7_102 (t_X7_refuse (by assumption) f_29) (by assumption) rfl rfl rfl (Nat.le_of_ble_eq_true rfl) ⟨by decide, by decide, by decide, by decide⟩ ?_
      refine a_i2l X dX7_mean_32 ?_
      refine a_lret X hr dX7_mean_33 ⟨by decide, by decide⟩ ?_
      subst hF
      rw [← Option.some.inj h]
      exact ⟨rfl, rfl⟩
  · replace h := (if_pos h_5).symm.trans h
    refine a_aload_n X dX7_mean_8 rfl ?_
    refine a_iconst (v := 2) X dX7_mean_9 (by decide) ?_
    obtain ⟨e_10, f_10, h⟩ := zBx h
    refine a_callVv X dX7_mean_10 miX7_refuse lm7_102 (t_X7_refuse (by assumption) f_10) (by assumption) rfl rfl rfl (Nat.le_of_ble_eq_true rfl) ⟨by decide, by decide, by decide, by decide⟩ ?_
    refine a_i2l X dX7_mean_13 ?_
    refine a_lret X hr dX7_mean_14 ⟨by decide, by decide⟩ ?_
    subst hF
    rw [← Option.some.inj h]
    exact ⟨rfl, rfl⟩
noncomputable def D_X7_given_67 (P : Nat) (y1_67 : Int32) (M_67 : zMt) (N_67 : zNt) : Option (Int32 × zMt × zNt) :=
  zB (D_X7_answer P y1_67 M_67) fun e_67 =>
  some (e_67.1, e_67.2, N_67)
noncomputable def D_X7_given_9 (P : Nat) (M_9 : zMt) (N_9 : zNt) : Option (Int32 × zMt × zNt) :=
  zB (D_X7_refuse P (1 : Int32) M_9) fun e_11 =>
  some (e_11.1, e_11.2, N_9)
noncomputable def D_X7_given (P : Nat) (v0 : Int32) (M : zMt) (N : zNt) : Option (Int32 × zMt × zNt) :=
  if v0 < 0 then
    D_X7_given_9 P M N
  else
    if v0 ≤ (1 : Int32) then
      if (M (P + 91) 1) ≤ (7 : Int32) then
        zB (D_X7_reckon P M N) fun e_34 =>
        if v0 = 0 then
          zB (D_X0_fewestTags (P + 112) (P + 91) e_34.1) fun e_50 =>
          D_X7_given_67 P e_50 e_34.1 e_34.2
        else
          zB (D_X0_mostTags (P + 112) (P + 91) e_34.1) fun e_64 =>
          D_X7_given_67 P e_64 e_34.1 e_34.2
      else
        zB (D_X7_refuse P (3 : Int32) M) fun e_29 =>
        some (e_29.1, e_29.2, N)
    else
      D_X7_given_9 P M N
set_option maxRecDepth 100000 in
set_option maxHeartbeats 4000000 in
theorem t_X7_given {l : Launch} {G : zG} {b : Nat} {L : List zC} {M : zMt} {N : zNt} {P : Nat} {v0 : Int32} (hP : LX7 L P) {r : Int32 × zMt × zNt} (h : D_X7_given P v0 M N = some r) : zM l G b yX7_given cX7_given 2 (some .int) 15 0 0 [.ref P, .int v0] (L, M, N) (fun r2 z => r2 = some (.int r.1) ∧ z = (L, r.2.1, r.2.2)) := by
  refine zM.of miX7_given (Nat.le_of_ble_eq_true rfl) ?_
  intro p e s m args below meth c X hr hname
  generalize hF : ((fun r2 z => r2 = some (.int r.1) ∧ z = (L, r.2.1, r.2.2)) : Option Value → zS → Prop) = FQ
  change Zw p l e { frames := 15, cells := 0, slots := 0, locals := 80 * (15) } s m args below meth c G b 2 (MQ below (zQ G b FQ) args s 0 0 (fun q : Nat => b ≤ q)) 0 0 0 [some (.ref P), some (.int v0)] [] (L, M, N)
  obtain ⟨p_lt, p_o, p_tape, p_out, p_reader, p_list, p_past, p_pool, p_result, p_odds, p_paper, p_trial, p_trialPool, p_trialResult, p_trialOdds⟩ := id hP
  obtain ⟨p_reader_lt, p_reader_o, p_reader_draft, p_reader_text, p_reader_unitNames, p_reader_hunterNames, p_reader_partyNames, p_reader_asked⟩ := id p_reader
  obtain ⟨p_list_lt, p_list_o, p_list_quota, p_list_score, p_list_guest, p_list_party, p_list_wishCount, p_list_wishes, p_list_has⟩ := id p_list
  obtain ⟨p_past_lt, p_past_o, p_past_stood, p_past_stood0, p_past_stood1, p_past_stood2, p_past_stood3, p_past_stood4, p_past_stood5, p_past_stood6, p_past_stood7⟩ := id p_past
  obtain ⟨p_pool_lt, p_pool_o, p_pool_quota, p_pool_preferred, p_pool_forGuests, p_pool_applicantOf, p_pool_size, p_pool_guestCount, p_pool_score, p_pool_tickets, p_pool_bits, p_pool_party, p_pool_wishCount, p_pool_wishes⟩ := id p_pool
  obtain ⟨p_result_lt, p_result_o, p_result_line, p_result_unitOf, p_result_roundOf, p_result_leftTags, p_result_leftGuests, p_result_leftPreferred, p_result_ranked⟩ := id p_result
  obtain ⟨p_odds_lt, p_odds_o, p_odds_sets, p_odds_seen, p_odds_atUnit, p_odds_early, p_odds_result⟩ := id p_odds
  obtain ⟨p_paper_lt, p_paper_o, p_paper_times, p_paper_firstWish, p_paper_dry, p_paper_list, p_paper_pool, p_paper_result⟩ := id p_paper
  obtain ⟨p_trial_lt, p_trial_o, p_trial_quota, p_trial_score, p_trial_guest, p_trial_party, p_trial_wishCount, p_trial_wishes, p_trial_has⟩ := id p_trial
  obtain ⟨p_trialPool_lt, p_trialPool_o, p_trialPool_quota, p_trialPool_preferred, p_trialPool_forGuests, p_trialPool_applicantOf, p_trialPool_size, p_trialPool_guestCount, p_trialPool_score, p_trialPool_tickets, p_trialPool_bits, p_trialPool_party, p_trialPool_wishCount, p_trialPool_wishes⟩ := id p_trialPool
  obtain ⟨p_trialResult_lt, p_trialResult_o, p_trialResult_line, p_trialResult_unitOf, p_trialResult_roundOf, p_trialResult_leftTags, p_trialResult_leftGuests, p_trialResult_leftPreferred, p_trialResult_ranked⟩ := id p_trialResult
  obtain ⟨p_trialOdds_lt, p_trialOdds_o, p_trialOdds_sets, p_trialOdds_seen, p_trialOdds_atUnit, p_trialOdds_early, p_trialOdds_result⟩ := id p_trialOdds
  have J_67 : ∀ (x1_67 : Int32) (y1_67 : Int32) (M_67 : zMt) (N_67 : zNt), D_X7_given_67 P y1_67 M_67 N_67 = some r → Zw p l e { frames := 15, cells := 0, slots := 0, locals := 80 * (15) } s m args below meth c G b 2 (MQ below (zQ G b FQ) args s 0 0 (fun q : Nat => b ≤ q)) 0 0 67 [some (.ref (P)), some (.int x1_67)] [.int y1_67, .ref (P)] (L, M_67, N_67) := by
    intro x1_67 y1_67 M_67 N_67 h
    unfold D_X7_given_67 at h
    obtain ⟨e_67, f_67, h⟩ := zBx h
    refine a_callVv X dX7_given_67 miX7_answer lm7_134 (t_X7_answer (by assumption) f_67) (by assumption) rfl rfl rfl (Nat.le_of_ble_eq_true rfl) ⟨by decide, by decide, by decide, by decide⟩ ?_
    refine a_iret X hr dX7_given_70 ⟨by decide, by decide⟩ ?_
    subst hF
    rw [← Option.some.inj h]
    exact ⟨rfl, rfl⟩
  have J_9 : ∀ (x1_9 : Int32) (M_9 : zMt) (N_9 : zNt), D_X7_given_9 P M_9 N_9 = some r → Zw p l e { frames := 15, cells := 0, slots := 0, locals := 80 * (15) } s m args below meth c G b 2 (MQ below (zQ G b FQ) args s 0 0 (fun q : Nat => b ≤ q)) 0 0 9 [some (.ref (P)), some (.int x1_9)] [] (L, M_9, N_9) := by
    intro x1_9 M_9 N_9 h
    unfold D_X7_given_9 at h
    refine a_aload_n X dX7_given_9 rfl ?_
    refine a_iconst (v := 1) X dX7_given_10 (by decide) ?_
    obtain ⟨e_11, f_11, h⟩ := zBx h
    refine a_callVv X dX7_given_11 miX7_refuse lm7_102 (t_X7_refuse (by assumption) f_11) (by assumption) rfl rfl rfl (Nat.le_of_ble_eq_true rfl) ⟨by decide, by decide, by decide, by decide⟩ ?_
    refine a_iret X hr dX7_given_14 ⟨by decide, by decide⟩ ?_
    subst hF
    rw [← Option.some.inj h]
    exact ⟨rfl, rfl⟩
  unfold D_X7_given at h
  refine a_iload_n X dX7_given_0 rfl ?_
  refine a_if_lt (tgt := 9) X dX7_given_1 (by decide) (fun h_1 => ?_) (fun h_1 => ?_)
  · replace h := (if_pos h_1).symm.trans h
    exact Zw.to2 (J_9 _ _ _ h) rfl rfl rfl
  · replace h := (if_neg h_1).symm.trans h
    refine a_iload_n X dX7_given_4 rfl ?_
    refine a_iconst (v := 1) X dX7_given_5 (by decide) ?_
    refine a_icmp_le (tgt := 15) X dX7_given_6 (by decide) (fun h_6 => ?_) (fun h_6 => ?_)
    · replace h := (if_pos h_6).symm.trans h
      refine a_aload_n X dX7_given_15 rfl ?_
      refine a_getr X lf7_40 (by assumption) rfl (by omega) dX7_given_16 ?_
      refine a_geti X lf7_140 (by assumption) rfl dX7_given_19 ?_
      refine a_bipush (v := 7) X dX7_given_22 (by decide) ?_
      refine a_icmp_le (tgt := 33) X dX7_given_24 (by decide) (fun h_24 => ?_) (fun h_24 => ?_)
      · replace h := (if_pos h_24).symm.trans h
        refine a_aload_n X dX7_given_33 rfl ?_
        obtain ⟨e_34, f_34, h⟩ := zBx h
        refine a_callVu X dX7_given_34 miX7_reckon lm7_296 (t_X7_reckon (by assumption) f_34) (by assumption) rfl rfl rfl (Nat.le_of_ble_eq_true rfl) ⟨by decide, by decide, by decide, by decide⟩ ?_
        refine a_aload_n X dX7_given_37 rfl ?_
        refine a_iload_n X dX7_given_38 rfl ?_
        refine a_if_ne (tgt := 56) X dX7_given_39 (by decide) (fun h_39 => ?_) (fun h_39 => ?_)
        · replace h := (if_neg h_39).symm.trans h
          refine a_aload_n X dX7_given_56 rfl ?_
          refine a_getr X lf7_54 (by assumption) rfl (by omega) dX7_given_57 ?_
          refine a_aload_n X dX7_given_60 rfl ?_
          refine a_getr X lf7_40 (by assumption) rfl (by omega) dX7_given_61 ?_
          obtain ⟨e_64, f_64, h⟩ := zBx h
          refine a_callVv X dX7_given_64 miX0_mostTags lm7_333 (t_X0_mostTags (by assumption) (by assumption) f_64) (by assumption) rfl rfl rfl (Nat.le_of_ble_eq_true rfl) ⟨by decide, by decide, by decide, by decide⟩ ?_
          exact Zw.to2 (J_67 _ _ _ _ h) rfl rfl rfl
        · replace h := (if_pos h_39).symm.trans h
          refine a_aload_n X dX7_given_42 rfl ?_
          refine a_getr X lf7_54 (by assumption) rfl (by omega) dX7_given_43 ?_
          refine a_aload_n X dX7_given_46 rfl ?_
          refine a_getr X lf7_40 (by assumption) rfl (by omega) dX7_given_47 ?_
          obtain ⟨e_50, f_50, h⟩ := zBx h
          refine a_callVv X dX7_given_50 miX0_fewestTags lm7_329 (t_X0_fewestTags (by assumption) (by assumption) f_50) (by assumption) rfl rfl rfl (Nat.le_of_ble_eq_true rfl) ⟨by decide, by decide, by decide, by decide⟩ ?_
          refine a_goto (tgt := 67) X dX7_given_53 (by decide) ?_
          exact Zw.to2 (J_67 _ _ _ _ h) rfl rfl rfl
      · replace h := (if_neg h_24).symm.trans h
        refine a_aload_n X dX7_given_27 rfl ?_
        refine a_iconst (v := 3) X dX7_given_28 (by decide) ?_
        obtain ⟨e_29, f_29, h⟩ := zBx h
        refine a_callVv X dX7_given_29 miX7_refuse lm7_102 (t_X7_refuse (by assumption) f_29) (by assumption) rfl rfl rfl (Nat.le_of_ble_eq_true rfl) ⟨by decide, by decide, by decide, by decide⟩ ?_
        refine a_iret X hr dX7_given_32 ⟨by decide, by decide⟩ ?_
        subst hF
        rw [← Option.some.inj h]
        exact ⟨rfl, rfl⟩
    · replace h := (if_neg h_6).symm.trans h
      exact Zw.to2 (J_9 _ _ _ h) rfl rfl rfl
noncomputable def D_X7_ends (P : Nat) (M : zMt) (N : zNt) : Option (Int32 × zMt × zNt) :=
  if (M (P + 91) 1) ≤ (7 : Int32) then
    zB (D_X7_reckon P M N) fun e_19 =>
    zB (D_X7_answer P (zsum (e_19.1 (P + 114)) 128) e_19.1) fun e_33 =>
    some (e_33.1, e_33.2, e_19.2)
  else
    zB (D_X7_refuse P (3 : Int32) M) fun e_14 =>
    some (e_14.1, e_14.2, N)
set_option maxRecDepth 100000 in
set_option maxHeartbeats 4000000 in
theorem t_X7_ends {l : Launch} {G : zG} {b : Nat} {L : List zC} {M : zMt} {N : zNt} {P : Nat}  (hP : LX7 L P) {r : Int32 × zMt × zNt} (h : D_X7_ends P M N = some r) : zM l G b yX7_ends cX7_ends 1 (some .int) 15 0 0 [.ref P] (L, M, N) (fun r2 z => r2 = some (.int r.1) ∧ z = (L, r.2.1, r.2.2)) := by
  refine zM.of miX7_ends (Nat.le_of_ble_eq_true rfl) ?_
  intro p e s m args below meth c X hr hname
  generalize hF : ((fun r2 z => r2 = some (.int r.1) ∧ z = (L, r.2.1, r.2.2)) : Option Value → zS → Prop) = FQ
  change Zw p l e { frames := 15, cells := 0, slots := 0, locals := 80 * (15) } s m args below meth c G b 1 (MQ below (zQ G b FQ) args s 0 0 (fun q : Nat => b ≤ q)) 0 0 0 [some (.ref P)] [] (L, M, N)
  obtain ⟨p_lt, p_o, p_tape, p_out, p_reader, p_list, p_past, p_pool, p_result, p_odds, p_paper, p_trial, p_trialPool, p_trialResult, p_trialOdds⟩ := id hP
  obtain ⟨p_reader_lt, p_reader_o, p_reader_draft, p_reader_text, p_reader_unitNames, p_reader_hunterNames, p_reader_partyNames, p_reader_asked⟩ := id p_reader
  obtain ⟨p_list_lt, p_list_o, p_list_quota, p_list_score, p_list_guest, p_list_party, p_list_wishCount, p_list_wishes, p_list_has⟩ := id p_list
  obtain ⟨p_past_lt, p_past_o, p_past_stood, p_past_stood0, p_past_stood1, p_past_stood2, p_past_stood3, p_past_stood4, p_past_stood5, p_past_stood6, p_past_stood7⟩ := id p_past
  obtain ⟨p_pool_lt, p_pool_o, p_pool_quota, p_pool_preferred, p_pool_forGuests, p_pool_applicantOf, p_pool_size, p_pool_guestCount, p_pool_score, p_pool_tickets, p_pool_bits, p_pool_party, p_pool_wishCount, p_pool_wishes⟩ := id p_pool
  obtain ⟨p_result_lt, p_result_o, p_result_line, p_result_unitOf, p_result_roundOf, p_result_leftTags, p_result_leftGuests, p_result_leftPreferred, p_result_ranked⟩ := id p_result
  obtain ⟨p_odds_lt, p_odds_o, p_odds_sets, p_odds_seen, p_odds_atUnit, p_odds_early, p_odds_result⟩ := id p_odds
  obtain ⟨p_paper_lt, p_paper_o, p_paper_times, p_paper_firstWish, p_paper_dry, p_paper_list, p_paper_pool, p_paper_result⟩ := id p_paper
  obtain ⟨p_trial_lt, p_trial_o, p_trial_quota, p_trial_score, p_trial_guest, p_trial_party, p_trial_wishCount, p_trial_wishes, p_trial_has⟩ := id p_trial
  obtain ⟨p_trialPool_lt, p_trialPool_o, p_trialPool_quota, p_trialPool_preferred, p_trialPool_forGuests, p_trialPool_applicantOf, p_trialPool_size, p_trialPool_guestCount, p_trialPool_score, p_trialPool_tickets, p_trialPool_bits, p_trialPool_party, p_trialPool_wishCount, p_trialPool_wishes⟩ := id p_trialPool
  obtain ⟨p_trialResult_lt, p_trialResult_o, p_trialResult_line, p_trialResult_unitOf, p_trialResult_roundOf, p_trialResult_leftTags, p_trialResult_leftGuests, p_trialResult_leftPreferred, p_trialResult_ranked⟩ := id p_trialResult
  obtain ⟨p_trialOdds_lt, p_trialOdds_o, p_trialOdds_sets, p_trialOdds_seen, p_trialOdds_atUnit, p_trialOdds_early, p_trialOdds_result⟩ := id p_trialOdds
  unfold D_X7_ends at h
  refine a_aload_n X dX7_ends_0 rfl ?_
  refine a_getr X lf7_40 (by assumption) rfl (by omega) dX7_ends_1 ?_
  refine a_geti X lf7_140 (by assumption) rfl dX7_ends_4 ?_
  refine a_bipush (v := 7) X dX7_ends_7 (by decide) ?_
  refine a_icmp_le (tgt := 18) X dX7_ends_9 (by decide) (fun h_9 => ?_) (fun h_9 => ?_)
  · replace h := (if_pos h_9).symm.trans h
    refine a_aload_n X dX7_ends_18 rfl ?_
    obtain ⟨e_19, f_19, h⟩ := zBx h
    refine a_callVu X dX7_ends_19 miX7_reckon lm7_296 (t_X7_reckon (by assumption) f_19) (by assumption) rfl rfl rfl (Nat.le_of_ble_eq_true rfl) ⟨by decide, by decide, by decide, by decide⟩ ?_
    refine a_aload_n X dX7_ends_22 rfl ?_
    refine a_aload_n X dX7_ends_23 rfl ?_
    refine a_getr X lf7_54 (by assumption) rfl (by omega) dX7_ends_24 ?_
    refine a_getr X lf7_336 (by assumption) rfl (by omega) dX7_ends_27 ?_
    refine a_callSv X dX7_ends_30 miX7_sum lm7_161 (c_sum (by assumption) (by first | decide | assumption)) rfl rfl (Nat.le_of_ble_eq_true rfl) ⟨by decide, by decide, by decide, by decide⟩ ?_
    obtain ⟨e_33, f_33, h⟩ := zBx h
    refine a_callVv X dX7_ends_33 miX7_answer lm7_134 (t_X7_answer (by assumption) f_33) (by assumption) rfl rfl rfl (Nat.le_of_ble_eq_true rfl) ⟨by decide, by decide, by decide, by decide⟩ ?_
    refine a_iret X hr dX7_ends_36 ⟨by decide, by decide⟩ ?_
    subst hF
    rw [← Option.some.inj h]
    exact ⟨rfl, rfl⟩
  · replace h := (if_neg h_9).symm.trans h
    refine a_aload_n X dX7_ends_12 rfl ?_
    refine a_iconst (v := 3) X dX7_ends_13 (by decide) ?_
    obtain ⟨e_14, f_14, h⟩ := zBx h
    refine a_callVv X dX7_ends_14 miX7_refuse lm7_102 (t_X7_refuse (by assumption) f_14) (by assumption) rfl rfl rfl (Nat.le_of_ble_eq_true rfl) ⟨by decide, by decide, by decide, by decide⟩ ?_
    refine a_iret X hr dX7_ends_17 ⟨by decide, by decide⟩ ?_
    subst hF
    rw [← Option.some.inj h]
    exact ⟨rfl, rfl⟩
noncomputable def D_X7_need_97 (P : Nat) : Nat → Int32 → Int32 → Int32 → Int32 → zMt → zNt → Option (Int32 × zMt × zNt)
  | 0, _, _, _, _, _, _ => none
  | n + 1, x1_97, x2_97, x3_97, x4_97, M_97, N_97 =>
    if (20 : Int32) < x4_97 then
      zB (D_X7_refuse P (5 : Int32) M_97) fun e_172 =>
      some (e_172.1, e_172.2, N_97)
    else
      zLt (zwr M_97 (P + 160) 10 x1_97 x4_97) fun M_114 =>
      zB (D_X2_gather (P + 166) (P + 158) M_114) fun e_125 =>
      zB (D_X0_reckon (P + 187) (P + 166) e_125 N_97) fun e_136 =>
      zB (D_X0_anyUnit (P + 187) e_136.2 x3_97) fun e_144 =>
      if (lg_cmp (e_144 / (1000000000 : Int64)) (Int32.toInt64 x2_97)) < 0 then
        (D_X7_need_97 P n) x1_97 x2_97 x3_97 (x4_97 + 1) e_136.1 e_136.2
      else
        zB (D_X7_answer P x4_97 e_136.1) fun e_160 =>
        some (e_160.1, e_160.2, e_136.2)
noncomputable def D_X7_need_11 (P : Nat) (M_11 : zMt) (N_11 : zNt) : Option (Int32 × zMt × zNt) :=
  zB (D_X7_refuse P (1 : Int32) M_11) fun e_13 =>
  some (e_13.1, e_13.2, N_11)
noncomputable def D_X7_need (P : Nat) (v0 : Int32) (v1 : Int32) (M : zMt) (N : zNt) : Option (Int32 × zMt × zNt) :=
  if v1 < 0 then
    D_X7_need_11 P M N
  else
    if v1 ≤ (1000 : Int32) then
      zB (D_X7_isHunter P M v0) fun e_19 =>
      if e_19 = 0 then
        zB (D_X7_refuse P (2 : Int32) M) fun e_27 =>
        some (e_27.1, e_27.2, N)
      else
        if (zrd 0 (M (P + 21)) 10 v0) = (-1 : Int32) then
          if (M (P + 91) 1) ≤ (7 : Int32) then
            zB (D_X4_take (P + 158) (P + 17) M) fun e_91 =>
            D_X7_need_97 P zFu v0 v1 (zrd 0 (M (P + 95)) 10 v0) (0 : Int32) e_91 N
          else
            zB (D_X7_refuse P (3 : Int32) M) fun e_67 =>
            some (e_67.1, e_67.2, N)
        else
          zB (D_X7_refuse P (7 : Int32) M) fun e_49 =>
          some (e_49.1, e_49.2, N)
    else
      D_X7_need_11 P M N
set_option maxRecDepth 100000 in
set_option maxHeartbeats 4000000 in
theorem t_X7_need {l : Launch} {G : zG} {b : Nat} {L : List zC} {M : zMt} {N : zNt} {P : Nat} {v0 : Int32} {v1 : Int32} (hP : LX7 L P) {r : Int32 × zMt × zNt} (h : D_X7_need P v0 v1 M N = some r) : zM l G b yX7_need cX7_need 5 (some .int) 14 0 0 [.ref P, .int v0, .int v1] (L, M, N) (fun r2 z => r2 = some (.int r.1) ∧ z = (L, r.2.1, r.2.2)) := by
  refine zM.of miX7_need (Nat.le_of_ble_eq_true rfl) ?_
  intro p e s m args below meth c X hr hname
  generalize hF : ((fun r2 z => r2 = some (.int r.1) ∧ z = (L, r.2.1, r.2.2)) : Option Value → zS → Prop) = FQ
  change Zw p l e { frames := 14, cells := 0, slots := 0, locals := 80 * (14) } s m args below meth c G b 5 (MQ below (zQ G b FQ) args s 0 0 (fun q : Nat => b ≤ q)) 0 0 0 [some (.ref P), some (.int v0), some (.int v1), none, none] [] (L, M, N)
  obtain ⟨p_lt, p_o, p_tape, p_out, p_reader, p_list, p_past, p_pool, p_result, p_odds, p_paper, p_trial, p_trialPool, p_trialResult, p_trialOdds⟩ := id hP
  obtain ⟨p_reader_lt, p_reader_o, p_reader_draft, p_reader_text, p_reader_unitNames, p_reader_hunterNames, p_reader_partyNames, p_reader_asked⟩ := id p_reader
  obtain ⟨p_list_lt, p_list_o, p_list_quota, p_list_score, p_list_guest, p_list_party, p_list_wishCount, p_list_wishes, p_list_has⟩ := id p_list
  obtain ⟨p_past_lt, p_past_o, p_past_stood, p_past_stood0, p_past_stood1, p_past_stood2, p_past_stood3, p_past_stood4, p_past_stood5, p_past_stood6, p_past_stood7⟩ := id p_past
  obtain ⟨p_pool_lt, p_pool_o, p_pool_quota, p_pool_preferred, p_pool_forGuests, p_pool_applicantOf, p_pool_size, p_pool_guestCount, p_pool_score, p_pool_tickets, p_pool_bits, p_pool_party, p_pool_wishCount, p_pool_wishes⟩ := id p_pool
  obtain ⟨p_result_lt, p_result_o, p_result_line, p_result_unitOf, p_result_roundOf, p_result_leftTags, p_result_leftGuests, p_result_leftPreferred, p_result_ranked⟩ := id p_result
  obtain ⟨p_odds_lt, p_odds_o, p_odds_sets, p_odds_seen, p_odds_atUnit, p_odds_early, p_odds_result⟩ := id p_odds
  obtain ⟨p_paper_lt, p_paper_o, p_paper_times, p_paper_firstWish, p_paper_dry, p_paper_list, p_paper_pool, p_paper_result⟩ := id p_paper
  obtain ⟨p_trial_lt, p_trial_o, p_trial_quota, p_trial_score, p_trial_guest, p_trial_party, p_trial_wishCount, p_trial_wishes, p_trial_has⟩ := id p_trial
  obtain ⟨p_trialPool_lt, p_trialPool_o, p_trialPool_quota, p_trialPool_preferred, p_trialPool_forGuests, p_trialPool_applicantOf, p_trialPool_size, p_trialPool_guestCount, p_trialPool_score, p_trialPool_tickets, p_trialPool_bits, p_trialPool_party, p_trialPool_wishCount, p_trialPool_wishes⟩ := id p_trialPool
  obtain ⟨p_trialResult_lt, p_trialResult_o, p_trialResult_line, p_trialResult_unitOf, p_trialResult_roundOf, p_trialResult_leftTags, p_trialResult_leftGuests, p_trialResult_leftPreferred, p_trialResult_ranked⟩ := id p_trialResult
  obtain ⟨p_trialOdds_lt, p_trialOdds_o, p_trialOdds_sets, p_trialOdds_seen, p_trialOdds_atUnit, p_trialOdds_early, p_trialOdds_result⟩ := id p_trialOdds
  have L_97 : ∀ u : Nat, ∀ (x1_97 : Int32) (x2_97 : Int32) (x3_97 : Int32) (x4_97 : Int32) (M_97 : zMt) (N_97 : zNt), D_X7_need_97 P u x1_97 x2_97 x3_97 x4_97 M_97 N_97 = some r → Zw p l e { frames := 14, cells := 0, slots := 0, locals := 80 * (14) } s m args below meth c G b 5 (MQ below (zQ G b FQ) args s 0 0 (fun q : Nat => b ≤ q)) 0 0 97 [some (.ref (P)), some (.int x1_97), some (.int x2_97), some (.int x3_97), some (.int x4_97)] [] (L, M_97, N_97) := by
    intro u
    induction u with
    | zero => intro x1_97 x2_97 x3_97 x4_97 M_97 N_97 h; cases (show none = some r from h)
    | succ u_97 ih_97 =>
      intro x1_97 x2_97 x3_97 x4_97 M_97 N_97 h
      rw [D_X7_need_97] at h
      refine a_iload X dX7_need_97 rfl ?_
      refine a_bipush (v := 20) X dX7_need_99 (by decide) ?_
      refine a_icmp_gt (tgt := 170) X dX7_need_101 (by decide) (fun h_101 => ?_) (fun h_101 => ?_)
      · replace h := (if_pos h_101).symm.trans h
        refine a_aload_n X dX7_need_170 rfl ?_
        refine a_iconst (v := 5) X dX7_need_171 (by decide) ?_
        obtain ⟨e_172, f_172, h⟩ := zBx h
        refine a_callVv X dX7_need_172 miX7_refuse lm7_102 (t_X7_refuse (by assumption) f_172) (by assumption) rfl rfl rfl (Nat.le_of_ble_eq_true rfl) ⟨by decide, by decide, by decide, by decide⟩ ?_
        refine a_iret X hr dX7_need_175 ⟨by decide, by decide⟩ ?_
        subst hF
        rw [← Option.some.inj h]
        exact ⟨rfl, rfl⟩
      · replace h := (if_neg h_101).symm.trans h
        refine a_aload_n X dX7_need_104 rfl ?_
        refine a_getr X lf7_65 (by assumption) rfl (by omega) dX7_need_105 ?_
        refine a_getr X lf7_172 (by assumption) rfl (by omega) dX7_need_108 ?_
        refine a_iload_n X dX7_need_111 rfl ?_
        refine a_iload X dX7_need_112 rfl ?_
        obtain ⟨M_114, f_114, h⟩ := zLtx h
        refine a_callSu X dX7_need_114 miX7_put lm7_98 (zMu (c_put (by assumption) (by first | decide | assumption)) f_114) rfl rfl (Nat.le_of_ble_eq_true rfl) ⟨by decide, by decide, by decide, by decide⟩ ?_
        refine a_aload_n X dX7_need_117 rfl ?_
        refine a_getr X lf7_68 (by assumption) rfl (by omega) dX7_need_118 ?_
        refine a_aload_n X dX7_need_121 rfl ?_
        refine a_getr X lf7_65 (by assumption) rfl (by omega) dX7_need_122 ?_
        obtain ⟨e_125, f_125, h⟩ := zBx h
        refine a_callVu X dX7_need_125 miX2_gather lm7_80 (t_X2_gather (by assumption) (by assumption) f_125) (by assumption) rfl rfl rfl (Nat.le_of_ble_eq_true rfl) ⟨by decide, by decide, by decide, by decide⟩ ?_
        refine a_aload_n X dX7_need_128 rfl ?_
        refine a_getr X lf7_74 (by assumption) rfl (by omega) dX7_need_129 ?_
        refine a_aload_n X dX7_need_132 rfl ?_
        refine a_getr X lf7_68 (by assumption) rfl (by omega) dX7_need_133 ?_
        obtain ⟨e_136, f_136, h⟩ := zBx h
        refine a_callVu X dX7_need_136 miX0_reckon lm7_339 (t_X0_reckon (by assumption) (by assumption) f_136) (by assumption) rfl rfl rfl (Nat.le_of_ble_eq_true rfl) ⟨by decide, by decide, by decide, by decide⟩ ?_
        refine a_aload_n X dX7_need_139 rfl ?_
        refine a_getr X lf7_74 (by assumption) rfl (by omega) dX7_need_140 ?_
        refine a_iload_n X dX7_need_143 rfl ?_
        obtain ⟨e_144, f_144, h⟩ := zBx h
        refine a_callVv X dX7_need_144 miX0_anyUnit lm7_299 (t_X0_anyUnit (by assumption) f_144) (by assumption) rfl rfl rfl (Nat.le_of_ble_eq_true rfl) ⟨by decide, by decide, by decide, by decide⟩ ?_
        refine a_ldc2 X dX7_need_147 lk7_342 ?_
        refine a_ldiv X dX7_need_150 (by decide) ?_
        refine a_iload_n X dX7_need_151 rfl ?_
        refine a_i2l X dX7_need_152 ?_
        refine a_lcmp X dX7_need_153 ?_
        refine a_if_lt (tgt := 164) X dX7_need_154 (by decide) (fun h_154 => ?_) (fun h_154 => ?_)
        · replace h := (if_pos h_154).symm.trans h
          refine a_iinc (v := x4_97 + 1) X dX7_need_164 (by decide) rfl zi_1 ?_
          refine a_goto (tgt := 97) X dX7_need_167 (by decide) ?_
          exact Zw.to2 (ih_97 _ _ _ _ _ _ h) rfl rfl rfl
        · replace h := (if_neg h_154).symm.trans h
          refine a_aload_n X dX7_need_157 rfl ?_
          refine a_iload X dX7_need_158 rfl ?_
          obtain ⟨e_160, f_160, h⟩ := zBx h
          refine a_callVv X dX7_need_160 miX7_answer lm7_134 (t_X7_answer (by assumption) f_160) (by assumption) rfl rfl rfl (Nat.le_of_ble_eq_true rfl) ⟨by decide, by decide, by decide, by decide⟩ ?_
          refine a_iret X hr dX7_need_163 ⟨by decide, by decide⟩ ?_
          subst hF
          rw [← Option.some.inj h]
          exact ⟨rfl, rfl⟩
  have H_97 : ∀ (x1_97 : Int32) (x2_97 : Int32) (x3_97 : Int32) (x4_97 : Int32) (M_97 : zMt) (N_97 : zNt), D_X7_need_97 P zFu x1_97 x2_97 x3_97 x4_97 M_97 N_97 = some r → Zw p l e { frames := 14, cells := 0, slots := 0, locals := 80 * (14) } s m args below meth c G b 5 (MQ below (zQ G b FQ) args s 0 0 (fun q : Nat => b ≤ q)) 0 0 97 [some (.ref (P)), some (.int x1_97), some (.int x2_97), some (.int x3_97), some (.int x4_97)] [] (L, M_97, N_97) := L_97 zFu
  have J_11 : ∀ (x1_11 : Int32) (x2_11 : Int32) (x3_11 : Option Value) (x4_11 : Option Value) (M_11 : zMt) (N_11 : zNt), D_X7_need_11 P M_11 N_11 = some r → Zw p l e { frames := 14, cells := 0, slots := 0, locals := 80 * (14) } s m args below meth c G b 5 (MQ below (zQ G b FQ) args s 0 0 (fun q : Nat => b ≤ q)) 0 0 11 [some (.ref (P)), some (.int x1_11), some (.int x2_11), x3_11, x4_11] [] (L, M_11, N_11) := by
    intro x1_11 x2_11 x3_11 x4_11 M_11 N_11 h
    unfold D_X7_need_11 at h
    refine a_aload_n X dX7_need_11 rfl ?_
    refine a_iconst (v := 1) X dX7_need_12 (by decide) ?_
    obtain ⟨e_13, f_13, h⟩ := zBx h
    refine a_callVv X dX7_need_13 miX7_refuse lm7_102 (t_X7_refuse (by assumption) f_13) (by assumption) rfl rfl rfl (Nat.le_of_ble_eq_true rfl) ⟨by decide, by decide, by decide, by decide⟩ ?_
    refine a_iret X hr dX7_need_16 ⟨by decide, by decide⟩ ?_
    subst hF
    rw [← Option.some.inj h]
    exact ⟨rfl, rfl⟩
  unfold D_X7_need at h
  refine a_iload_n X dX7_need_0 rfl ?_
  refine a_if_lt (tgt := 11) X dX7_need_1 (by decide) (fun h_1 => ?_) (fun h_1 => ?_)
  · replace h := (if_pos h_1).symm.trans h
    exact Zw.to2 (J_11 _ _ _ _ _ _ h) rfl rfl rfl
  · replace h := (if_neg h_1).symm.trans h
    refine a_iload_n X dX7_need_4 rfl ?_
    refine a_sipush (v := 1000) X dX7_need_5 (by decide) ?_
    refine a_icmp_le (tgt := 17) X dX7_need_8 (by decide) (fun h_8 => ?_) (fun h_8 => ?_)
    · replace h := (if_pos h_8).symm.trans h
      refine a_aload_n X dX7_need_17 rfl ?_
      refine a_iload_n X dX7_need_18 rfl ?_
      obtain ⟨e_19, f_19, h⟩ := zBx h
      refine a_callVx X dX7_need_19 miX7_isHunter lm7_168 (t_X7_isHunter (by assumption) f_19) (by assumption) rfl rfl rfl (Nat.le_of_ble_eq_true rfl) ⟨by decide, by decide, by decide, by decide⟩ (fun r_19 S_19 q_19 => ?_)
      obtain ⟨rfl, rfl, b_19⟩ := q_19
      refine a_if_ne (tgt := 31) X dX7_need_22 (by decide) (fun h_22 => ?_) (fun h_22 => ?_)
      · replace h := (if_neg h_22).symm.trans h
        refine a_aload_n X dX7_need_31 rfl ?_
        refine a_getr X lf7_26 (by assumption) rfl (by omega) dX7_need_32 ?_
        refine a_getr X lf7_179 (by assumption) rfl (by omega) dX7_need_35 ?_
        refine a_iload_n X dX7_need_38 rfl ?_
        refine a_callSv X dX7_need_39 miX7_cell lm7_175 (c_cell (by assumption) (by first | decide | assumption)) rfl rfl (Nat.le_of_ble_eq_true rfl) ⟨by decide, by decide, by decide, by decide⟩ ?_
        refine a_iconst (v := -1) X dX7_need_42 (by decide) ?_
        refine a_icmp_eq (tgt := 53) X dX7_need_43 (by decide) (fun h_43 => ?_) (fun h_43 => ?_)
        · replace h := (if_pos h_43).symm.trans h
          refine a_aload_n X dX7_need_53 rfl ?_
          refine a_getr X lf7_40 (by assumption) rfl (by omega) dX7_need_54 ?_
          refine a_geti X lf7_140 (by assumption) rfl dX7_need_57 ?_
          refine a_bipush (v := 7) X dX7_need_60 (by decide) ?_
          refine a_icmp_le (tgt := 71) X dX7_need_62 (by decide) (fun h_62 => ?_) (fun h_62 => ?_)
          · replace h := (if_pos h_62).symm.trans h
            refine a_aload_n X dX7_need_71 rfl ?_
            refine a_getr X lf7_40 (by assumption) rfl (by omega) dX7_need_72 ?_
            refine a_getr X lf7_182 (by assumption) rfl (by omega) dX7_need_75 ?_
            refine a_iload_n X dX7_need_78 rfl ?_
            refine a_callSv X dX7_need_79 miX7_cell lm7_175 (c_cell (by assumption) (by first | decide | assumption)) rfl rfl (Nat.le_of_ble_eq_true rfl) ⟨by decide, by decide, by decide, by decide⟩ ?_
            refine a_istore_n X dX7_need_82 (by decide) ?_
            refine a_aload_n X dX7_need_83 rfl ?_
            refine a_getr X lf7_65 (by assumption) rfl (by omega) dX7_need_84 ?_
            refine a_aload_n X dX7_need_87 rfl ?_
            refine a_getr X lf7_26 (by assumption) rfl (by omega) dX7_need_88 ?_
            obtain ⟨e_91, f_91, h⟩ := zBx h
            refine a_callVu X dX7_need_91 miX4_take lm7_113 (t_X4_take (by assumption) (by assumption) (by omega) f_91) (by assumption) rfl rfl rfl (Nat.le_of_ble_eq_true rfl) ⟨by decide, by decide, by decide, by decide⟩ ?_
            refine a_iconst (v := 0) X dX7_need_94 (by decide) ?_
            refine a_istore X dX7_need_95 (by decide) ?_
            exact Zw.to2 (H_97 _ _ _ _ _ _ h) rfl rfl rfl
          · replace h := (if_neg h_62).symm.trans h
            refine a_aload_n X dX7_need_65 rfl ?_
            refine a_iconst (v := 3) X dX7_need_66 (by decide) ?_
            obtain ⟨e_67, f_67, h⟩ := zBx h
            refine a_callVv X dX7_need_67 miX7_refuse lm7_102 (t_X7_refuse (by assumption) f_67) (by assumption) rfl rfl rfl (Nat.le_of_ble_eq_true rfl) ⟨by decide, by decide, by decide, by decide⟩ ?_
            refine a_iret X hr dX7_need_70 ⟨by decide, by decide⟩ ?_
            subst hF
            rw [← Option.some.inj h]
            exact ⟨rfl, rfl⟩
        · replace h := (if_neg h_43).symm.trans h
          refine a_aload_n X dX7_need_46 rfl ?_
          refine a_bipush (v := 7) X dX7_need_47 (by decide) ?_
          obtain ⟨e_49, f_49, h⟩ := zBx h
          refine a_callVv X dX7_need_49 miX7_refuse lm7_102 (t_X7_refuse (by assumption) f_49) (by assumption) rfl rfl rfl (Nat.le_of_ble_eq_true rfl) ⟨by decide, by decide, by decide, by decide⟩ ?_
          refine a_iret X hr dX7_need_52 ⟨by decide, by decide⟩ ?_
          subst hF
          rw [← Option.some.inj h]
          exact ⟨rfl, rfl⟩
      · replace h := (if_pos h_22).symm.trans h
        refine a_aload_n X dX7_need_25 rfl ?_
        refine a_iconst (v := 2) X dX7_need_26 (by decide) ?_
        obtain ⟨e_27, f_27, h⟩ := zBx h
        refine a_callVv X dX7_need_27 miX7_refuse lm7_102 (t_X7_refuse (by assumption) f_27) (by assumption) rfl rfl rfl (Nat.le_of_ble_eq_true rfl) ⟨by decide, by decide, by decide, by decide⟩ ?_
        refine a_iret X hr dX7_need_30 ⟨by decide, by decide⟩ ?_
        subst hF
        rw [← Option.some.inj h]
        exact ⟨rfl, rfl⟩
    · replace h := (if_neg h_8).symm.trans h
      exact Zw.to2 (J_11 _ _ _ _ _ _ h) rfl rfl rfl
noncomputable def D_X7_whyNotWise_39 (P : Nat) (M : zMt) (y0_39 : Int32) : Option (Int32) :=
  some (y0_39)
noncomputable def D_X7_whyNotWise (P : Nat) (M : zMt) (v0 : Int32) : Option (Int32) :=
  zB (D_X7_isApplicant P M v0) fun e_2 =>
  if e_2 = 0 then
    some ((2 : Int32))
  else
    if (M (P + 91) 1) ≤ (7 : Int32) then
      if (M (P + 17) 0) = 0 then
        D_X7_whyNotWise_39 P M (5 : Int32)
      else
        D_X7_whyNotWise_39 P M (0 : Int32)
    else
      some ((3 : Int32))
set_option maxRecDepth 100000 in
set_option maxHeartbeats 4000000 in
theorem t_X7_whyNotWise {l : Launch} {G : zG} {b : Nat} {L : List zC} {M : zMt} {N : zNt} {P : Nat} {v0 : Int32} (hP : LX7 L P) {r : Int32} (h : D_X7_whyNotWise P M v0 = some r) : zM l G b yX7_whyNotWise cX7_whyNotWise 2 (some .int) 1 0 0 [.ref P, .int v0] (L, M, N) (fun r2 z => r2 = some (.int r) ∧ z = (L, M, N)) := by
  refine zM.of miX7_whyNotWise (Nat.le_of_ble_eq_true rfl) ?_
  intro p e s m args below meth c X hr hname
  generalize hF : ((fun r2 z => r2 = some (.int r) ∧ z = (L, M, N)) : Option Value → zS → Prop) = FQ
  change Zw p l e { frames := 1, cells := 0, slots := 0, locals := 80 * (1) } s m args below meth c G b 2 (MQ below (zQ G b FQ) args s 0 0 (fun q : Nat => b ≤ q)) 0 0 0 [some (.ref P), some (.int v0)] [] (L, M, N)
  obtain ⟨p_lt, p_o, p_tape, p_out, p_reader, p_list, p_past, p_pool, p_result, p_odds, p_paper, p_trial, p_trialPool, p_trialResult, p_trialOdds⟩ := id hP
  obtain ⟨p_reader_lt, p_reader_o, p_reader_draft, p_reader_text, p_reader_unitNames, p_reader_hunterNames, p_reader_partyNames, p_reader_asked⟩ := id p_reader
  obtain ⟨p_list_lt, p_list_o, p_list_quota, p_list_score, p_list_guest, p_list_party, p_list_wishCount, p_list_wishes, p_list_has⟩ := id p_list
  obtain ⟨p_past_lt, p_past_o, p_past_stood, p_past_stood0, p_past_stood1, p_past_stood2, p_past_stood3, p_past_stood4, p_past_stood5, p_past_stood6, p_past_stood7⟩ := id p_past
  obtain ⟨p_pool_lt, p_pool_o, p_pool_quota, p_pool_preferred, p_pool_forGuests, p_pool_applicantOf, p_pool_size, p_pool_guestCount, p_pool_score, p_pool_tickets, p_pool_bits, p_pool_party, p_pool_wishCount, p_pool_wishes⟩ := id p_pool
  obtain ⟨p_result_lt, p_result_o, p_result_line, p_result_unitOf, p_result_roundOf, p_result_leftTags, p_result_leftGuests, p_result_leftPreferred, p_result_ranked⟩ := id p_result
  obtain ⟨p_odds_lt, p_odds_o, p_odds_sets, p_odds_seen, p_odds_atUnit, p_odds_early, p_odds_result⟩ := id p_odds
  obtain ⟨p_paper_lt, p_paper_o, p_paper_times, p_paper_firstWish, p_paper_dry, p_paper_list, p_paper_pool, p_paper_result⟩ := id p_paper
  obtain ⟨p_trial_lt, p_trial_o, p_trial_quota, p_trial_score, p_trial_guest, p_trial_party, p_trial_wishCount, p_trial_wishes, p_trial_has⟩ := id p_trial
  obtain ⟨p_trialPool_lt, p_trialPool_o, p_trialPool_quota, p_trialPool_preferred, p_trialPool_forGuests, p_trialPool_applicantOf, p_trialPool_size, p_trialPool_guestCount, p_trialPool_score, p_trialPool_tickets, p_trialPool_bits, p_trialPool_party, p_trialPool_wishCount, p_trialPool_wishes⟩ := id p_trialPool
  obtain ⟨p_trialResult_lt, p_trialResult_o, p_trialResult_line, p_trialResult_unitOf, p_trialResult_roundOf, p_trialResult_leftTags, p_trialResult_leftGuests, p_trialResult_leftPreferred, p_trialResult_ranked⟩ := id p_trialResult
  obtain ⟨p_trialOdds_lt, p_trialOdds_o, p_trialOdds_sets, p_trialOdds_seen, p_trialOdds_atUnit, p_trialOdds_early, p_trialOdds_result⟩ := id p_trialOdds
  have J_39 : ∀ (x1_39 : Int32) (y0_39 : Int32), D_X7_whyNotWise_39 P M y0_39 = some r → Zw p l e { frames := 1, cells := 0, slots := 0, locals := 80 * (1) } s m args below meth c G b 2 (MQ below (zQ G b FQ) args s 0 0 (fun q : Nat => b ≤ q)) 0 0 39 [some (.ref (P)), some (.int x1_39)] [.int y0_39] (L, M, N) := by
    intro x1_39 y0_39 h
    unfold D_X7_whyNotWise_39 at h
    refine a_iret X hr dX7_whyNotWise_39 ⟨by decide, by decide⟩ ?_
    subst hF
    rw [← Option.some.inj h]
    exact ⟨rfl, rfl⟩
  unfold D_X7_whyNotWise at h
  refine a_aload_n X dX7_whyNotWise_0 rfl ?_
  refine a_iload_n X dX7_whyNotWise_1 rfl ?_
  obtain ⟨e_2, f_2, h⟩ := zBx h
  refine a_callVx X dX7_whyNotWise_2 miX7_isApplicant lm7_206 (t_X7_isApplicant (by assumption) f_2) (by assumption) rfl rfl rfl (Nat.le_of_ble_eq_true rfl) ⟨by decide, by decide, by decide, by decide⟩ (fun r_2 S_2 q_2 => ?_)
  obtain ⟨rfl, rfl, b_2⟩ := q_2
  refine a_if_ne (tgt := 10) X dX7_whyNotWise_5 (by decide) (fun h_5 => ?_) (fun h_5 => ?_)
  · replace h := (if_neg h_5).symm.trans h
    refine a_aload_n X dX7_whyNotWise_10 rfl ?_
    refine a_getr X lf7_40 (by assumption) rfl (by omega) dX7_whyNotWise_11 ?_
    refine a_geti X lf7_140 (by assumption) rfl dX7_whyNotWise_14 ?_
    refine a_bipush (v := 7) X dX7_whyNotWise_17 (by decide) ?_
    refine a_icmp_le (tgt := 24) X dX7_whyNotWise_19 (by decide) (fun h_19 => ?_) (fun h_19 => ?_)
    · replace h := (if_pos h_19).symm.trans h
      refine a_aload_n X dX7_whyNotWise_24 rfl ?_
      refine a_getr X lf7_26 (by assumption) rfl (by omega) dX7_whyNotWise_25 ?_
      refine a_geti X lf7_131 (by assumption) rfl dX7_whyNotWise_28 ?_
      refine a_if_ne (tgt := 38) X dX7_whyNotWise_31 (by decide) (fun h_31 => ?_) (fun h_31 => ?_)
      · replace h := (if_neg h_31).symm.trans h
        refine a_iconst (v := 0) X dX7_whyNotWise_38 (by decide) ?_
        exact Zw.to2 (J_39 _ _ h) rfl rfl rfl
      · replace h := (if_pos h_31).symm.trans h
        refine a_iconst (v := 5) X dX7_whyNotWise_34 (by decide) ?_
        refine a_goto (tgt := 39) X dX7_whyNotWise_35 (by decide) ?_
        exact Zw.to2 (J_39 _ _ h) rfl rfl rfl
    · replace h := (if_neg h_19).symm.trans h
      refine a_iconst (v := 3) X dX7_whyNotWise_22 (by decide) ?_
      refine a_iret X hr dX7_whyNotWise_23 ⟨by decide, by decide⟩ ?_
      subst hF
      rw [← Option.some.inj h]
      exact ⟨rfl, rfl⟩
  · replace h := (if_pos h_5).symm.trans h
    refine a_iconst (v := 2) X dX7_whyNotWise_8 (by decide) ?_
    refine a_iret X hr dX7_whyNotWise_9 ⟨by decide, by decide⟩ ?_
    subst hF
    rw [← Option.some.inj h]
    exact ⟨rfl, rfl⟩
noncomputable def D_X7_partsOfOnly (P : Nat) (v0 : Int32) (v1 : Int32) (M : zMt) (N : zNt) : Option (Int64 × zMt × zNt) :=
  zB (D_X4_take (P + 158) (P + 17) M) fun e_8 =>
  zB (D_X4_wishFor (P + 158) (zrd 0 (e_8 (P + 100)) 10 v0) v1 (-1 : Int32) (-1 : Int32) e_8) fun e_29 =>
  zB (D_X2_gather (P + 166) (P + 158) e_29) fun e_40 =>
  zB (D_X0_reckon (P + 187) (P + 166) e_40 N) fun e_51 =>
  zB (D_X0_anyUnit (P + 187) e_51.2 v0) fun e_59 =>
  some (e_59, e_51.1, e_51.2)
set_option maxRecDepth 100000 in
set_option maxHeartbeats 4000000 in
theorem t_X7_partsOfOnly {l : Launch} {G : zG} {b : Nat} {L : List zC} {M : zMt} {N : zNt} {P : Nat} {v0 : Int32} {v1 : Int32} (hP : LX7 L P) {r : Int64 × zMt × zNt} (h : D_X7_partsOfOnly P v0 v1 M N = some r) : zM l G b yX7_partsOfOnly cX7_partsOfOnly 3 (some .long) 14 0 0 [.ref P, .int v0, .int v1] (L, M, N) (fun r2 z => r2 = some (.long r.1) ∧ z = (L, r.2.1, r.2.2)) := by
  refine zM.of miX7_partsOfOnly (Nat.le_of_ble_eq_true rfl) ?_
  intro p e s m args below meth c X hr hname
  generalize hF : ((fun r2 z => r2 = some (.long r.1) ∧ z = (L, r.2.1, r.2.2)) : Option Value → zS → Prop) = FQ
  change Zw p l e { frames := 14, cells := 0, slots := 0, locals := 80 * (14) } s m args below meth c G b 3 (MQ below (zQ G b FQ) args s 0 0 (fun q : Nat => b ≤ q)) 0 0 0 [some (.ref P), some (.int v0), some (.int v1)] [] (L, M, N)
  obtain ⟨p_lt, p_o, p_tape, p_out, p_reader, p_list, p_past, p_pool, p_result, p_odds, p_paper, p_trial, p_trialPool, p_trialResult, p_trialOdds⟩ := id hP
  obtain ⟨p_reader_lt, p_reader_o, p_reader_draft, p_reader_text, p_reader_unitNames, p_reader_hunterNames, p_reader_partyNames, p_reader_asked⟩ := id p_reader
  obtain ⟨p_list_lt, p_list_o, p_list_quota, p_list_score, p_list_guest, p_list_party, p_list_wishCount, p_list_wishes, p_list_has⟩ := id p_list
  obtain ⟨p_past_lt, p_past_o, p_past_stood, p_past_stood0, p_past_stood1, p_past_stood2, p_past_stood3, p_past_stood4, p_past_stood5, p_past_stood6, p_past_stood7⟩ := id p_past
  obtain ⟨p_pool_lt, p_pool_o, p_pool_quota, p_pool_preferred, p_pool_forGuests, p_pool_applicantOf, p_pool_size, p_pool_guestCount, p_pool_score, p_pool_tickets, p_pool_bits, p_pool_party, p_pool_wishCount, p_pool_wishes⟩ := id p_pool
  obtain ⟨p_result_lt, p_result_o, p_result_line, p_result_unitOf, p_result_roundOf, p_result_leftTags, p_result_leftGuests, p_result_leftPreferred, p_result_ranked⟩ := id p_result
  obtain ⟨p_odds_lt, p_odds_o, p_odds_sets, p_odds_seen, p_odds_atUnit, p_odds_early, p_odds_result⟩ := id p_odds
  obtain ⟨p_paper_lt, p_paper_o, p_paper_times, p_paper_firstWish, p_paper_dry, p_paper_list, p_paper_pool, p_paper_result⟩ := id p_paper
  obtain ⟨p_trial_lt, p_trial_o, p_trial_quota, p_trial_score, p_trial_guest, p_trial_party, p_trial_wishCount, p_trial_wishes, p_trial_has⟩ := id p_trial
  obtain ⟨p_trialPool_lt, p_trialPool_o, p_trialPool_quota, p_trialPool_preferred, p_trialPool_forGuests, p_trialPool_applicantOf, p_trialPool_size, p_trialPool_guestCount, p_trialPool_score, p_trialPool_tickets, p_trialPool_bits, p_trialPool_party, p_trialPool_wishCount, p_trialPool_wishes⟩ := id p_trialPool
  obtain ⟨p_trialResult_lt, p_trialResult_o, p_trialResult_line, p_trialResult_unitOf, p_trialResult_roundOf, p_trialResult_leftTags, p_trialResult_leftGuests, p_trialResult_leftPreferred, p_trialResult_ranked⟩ := id p_trialResult
  obtain ⟨p_trialOdds_lt, p_trialOdds_o, p_trialOdds_sets, p_trialOdds_seen, p_trialOdds_atUnit, p_trialOdds_early, p_trialOdds_result⟩ := id p_trialOdds
  unfold D_X7_partsOfOnly at h
  refine a_aload_n X dX7_partsOfOnly_0 rfl ?_
  refine a_getr X lf7_65 (by assumption) rfl (by omega) dX7_partsOfOnly_1 ?_
  refine a_aload_n X dX7_partsOfOnly_4 rfl ?_
  refine a_getr X lf7_26 (by assumption) rfl (by omega) dX7_partsOfOnly_5 ?_
  obtain ⟨e_8, f_8, h⟩ := zBx h
  refine a_callVu X dX7_partsOfOnly_8 miX4_take lm7_113 (t_X4_take (by assumption) (by assumption) (by omega) f_8) (by assumption) rfl rfl rfl (Nat.le_of_ble_eq_true rfl) ⟨by decide, by decide, by decide, by decide⟩ ?_
  refine a_aload_n X dX7_partsOfOnly_11 rfl ?_
  refine a_getr X lf7_65 (by assumption) rfl (by omega) dX7_partsOfOnly_12 ?_
  refine a_aload_n X dX7_partsOfOnly_15 rfl ?_
  refine a_getr X lf7_40 (by assumption) rfl (by omega) dX7_partsOfOnly_16 ?_
  refine a_getr X lf7_222 (by assumption) rfl (by omega) dX7_partsOfOnly_19 ?_
  refine a_iload_n X dX7_partsOfOnly_22 rfl ?_
  refine a_callSv X dX7_partsOfOnly_23 miX7_cell lm7_175 (c_cell (by assumption) (by first | decide | assumption)) rfl rfl (Nat.le_of_ble_eq_true rfl) ⟨by decide, by decide, by decide, by decide⟩ ?_
  refine a_iload_n X dX7_partsOfOnly_26 rfl ?_
  refine a_iconst (v := -1) X dX7_partsOfOnly_27 (by decide) ?_
  refine a_iconst (v := -1) X dX7_partsOfOnly_28 (by decide) ?_
  obtain ⟨e_29, f_29, h⟩ := zBx h
  refine a_callVu X dX7_partsOfOnly_29 miX4_wishFor lm7_283 (t_X4_wishFor (by assumption) f_29) (by assumption) rfl rfl rfl (Nat.le_of_ble_eq_true rfl) ⟨by decide, by decide, by decide, by decide⟩ ?_
  refine a_aload_n X dX7_partsOfOnly_32 rfl ?_
  refine a_getr X lf7_68 (by assumption) rfl (by omega) dX7_partsOfOnly_33 ?_
  refine a_aload_n X dX7_partsOfOnly_36 rfl ?_
  refine a_getr X lf7_65 (by assumption) rfl (by omega) dX7_partsOfOnly_37 ?_
  obtain ⟨e_40, f_40, h⟩ := zBx h
  refine a_callVu X dX7_partsOfOnly_40 miX2_gather lm7_80 (t_X2_gather (by assumption) (by assumption) f_40) (by assumption) rfl rfl rfl (Nat.le_of_ble_eq_true rfl) ⟨by decide, by decide, by decide, by decide⟩ ?_
  refine a_aload_n X dX7_partsOfOnly_43 rfl ?_
  refine a_getr X lf7_74 (by assumption) rfl (by omega) dX7_partsOfOnly_44 ?_
  refine a_aload_n X dX7_partsOfOnly_47 rfl ?_
  refine a_getr X lf7_68 (by assumption) rfl (by omega) dX7_partsOfOnly_48 ?_
  obtain ⟨e_51, f_51, h⟩ := zBx h
  refine a_callVu X dX7_partsOfOnly_51 miX0_reckon lm7_339 (t_X0_reckon (by assumption) (by assumption) f_51) (by assumption) rfl rfl rfl (Nat.le_of_ble_eq_true rfl) ⟨by decide, by decide, by decide, by decide⟩ ?_
  refine a_aload_n X dX7_partsOfOnly_54 rfl ?_
  refine a_getr X lf7_74 (by assumption) rfl (by omega) dX7_partsOfOnly_55 ?_
  refine a_iload_n X dX7_partsOfOnly_58 rfl ?_
  obtain ⟨e_59, f_59, h⟩ := zBx h
  refine a_callVv X dX7_partsOfOnly_59 miX0_anyUnit lm7_299 (t_X0_anyUnit (by assumption) f_59) (by assumption) rfl rfl rfl (Nat.le_of_ble_eq_true rfl) ⟨by decide, by decide, by decide, by decide⟩ ?_
  refine a_lret X hr dX7_partsOfOnly_62 ⟨by decide, by decide⟩ ?_
  subst hF
  rw [← Option.some.inj h]
  exact ⟨rfl, rfl⟩
noncomputable def D_X7_wise_62 (P : Nat) (k26 : Int32 → Int32 → Int64 → Int32 → zMt → zNt → Option (Int32 × zMt × zNt)) (x1_62 : Int32) (x3_62 : Int32) (x4_62 : Int64) (x6_62 : Int32) (M_62 : zMt) (N_62 : zNt) : Option (Int32 × zMt × zNt) :=
  k26 x1_62 x3_62 x4_62 (x6_62 + 1) M_62 N_62
noncomputable def D_X7_wise_26 (P : Nat) : Nat → Int32 → Int32 → Int64 → Int32 → zMt → zNt → Option (Int32 × zMt × zNt)
  | 0, _, _, _, _, _, _ => none
  | n + 1, x1_26, x3_26, x4_26, x6_26, M_26, N_26 =>
    if (M_26 (P + 17) 0) ≤ x6_26 then
      zB (D_X7_answer P x3_26 M_26) fun e_70 =>
      some (e_70.1, e_70.2, N_26)
    else
      zB (D_X7_partsOfOnly P x1_26 x6_26 M_26 N_26) fun e_42 =>
      if (lg_cmp e_42.1 x4_26) ≤ 0 then
        D_X7_wise_62 P (D_X7_wise_26 P n) x1_26 x3_26 x4_26 x6_26 e_42.2.1 e_42.2.2
      else
        D_X7_wise_62 P (D_X7_wise_26 P n) x1_26 x6_26 e_42.1 x6_26 e_42.2.1 e_42.2.2
noncomputable def D_X7_wise (P : Nat) (v0 : Int32) (M : zMt) (N : zNt) : Option (Int32 × zMt × zNt) :=
  zB (D_X7_whyNotWise P M v0) fun e_2 =>
  if e_2 = 0 then
    D_X7_wise_26 P zFu v0 (0 : Int32) (-1 : Int64) (0 : Int32) M N
  else
    zB (D_X7_refuse P e_2 M) fun e_12 =>
    some (e_12.1, e_12.2, N)
set_option maxRecDepth 100000 in
set_option maxHeartbeats 4000000 in
theorem t_X7_wise {l : Launch} {G : zG} {b : Nat} {L : List zC} {M : zMt} {N : zNt} {P : Nat} {v0 : Int32} (hP : LX7 L P) {r : Int32 × zMt × zNt} (h : D_X7_wise P v0 M N = some r) : zM l G b yX7_wise cX7_wise 9 (some .int) 15 0 0 [.ref P, .int v0] (L, M, N) (fun r2 z => r2 = some (.int r.1) ∧ z = (L, r.2.1, r.2.2)) := by
  refine zM.of miX7_wise (Nat.le_of_ble_eq_true rfl) ?_
  intro p e s m args below meth c X hr hname
  generalize hF : ((fun r2 z => r2 = some (.int r.1) ∧ z = (L, r.2.1, r.2.2)) : Option Value → zS → Prop) = FQ
  change Zw p l e { frames := 15, cells := 0, slots := 0, locals := 80 * (15) } s m args below meth c G b 9 (MQ below (zQ G b FQ) args s 0 0 (fun q : Nat => b ≤ q)) 0 0 0 [some (.ref P), some (.int v0), none, none, none, none, none, none, none] [] (L, M, N)
  obtain ⟨p_lt, p_o, p_tape, p_out, p_reader, p_list, p_past, p_pool, p_result, p_odds, p_paper, p_trial, p_trialPool, p_trialResult, p_trialOdds⟩ := id hP
  obtain ⟨p_reader_lt, p_reader_o, p_reader_draft, p_reader_text, p_reader_unitNames, p_reader_hunterNames, p_reader_partyNames, p_reader_asked⟩ := id p_reader
  obtain ⟨p_list_lt, p_list_o, p_list_quota, p_list_score, p_list_guest, p_list_party, p_list_wishCount, p_list_wishes, p_list_has⟩ := id p_list
  obtain ⟨p_past_lt, p_past_o, p_past_stood, p_past_stood0, p_past_stood1, p_past_stood2, p_past_stood3, p_past_stood4, p_past_stood5, p_past_stood6, p_past_stood7⟩ := id p_past
  obtain ⟨p_pool_lt, p_pool_o, p_pool_quota, p_pool_preferred, p_pool_forGuests, p_pool_applicantOf, p_pool_size, p_pool_guestCount, p_pool_score, p_pool_tickets, p_pool_bits, p_pool_party, p_pool_wishCount, p_pool_wishes⟩ := id p_pool
  obtain ⟨p_result_lt, p_result_o, p_result_line, p_result_unitOf, p_result_roundOf, p_result_leftTags, p_result_leftGuests, p_result_leftPreferred, p_result_ranked⟩ := id p_result
  obtain ⟨p_odds_lt, p_odds_o, p_odds_sets, p_odds_seen, p_odds_atUnit, p_odds_early, p_odds_result⟩ := id p_odds
  obtain ⟨p_paper_lt, p_paper_o, p_paper_times, p_paper_firstWish, p_paper_dry, p_paper_list, p_paper_pool, p_paper_result⟩ := id p_paper
  obtain ⟨p_trial_lt, p_trial_o, p_trial_quota, p_trial_score, p_trial_guest, p_trial_party, p_trial_wishCount, p_trial_wishes, p_trial_has⟩ := id p_trial
  obtain ⟨p_trialPool_lt, p_trialPool_o, p_trialPool_quota, p_trialPool_preferred, p_trialPool_forGuests, p_trialPool_applicantOf, p_trialPool_size, p_trialPool_guestCount, p_trialPool_score, p_trialPool_tickets, p_trialPool_bits, p_trialPool_party, p_trialPool_wishCount, p_trialPool_wishes⟩ := id p_trialPool
  obtain ⟨p_trialResult_lt, p_trialResult_o, p_trialResult_line, p_trialResult_unitOf, p_trialResult_roundOf, p_trialResult_leftTags, p_trialResult_leftGuests, p_trialResult_leftPreferred, p_trialResult_ranked⟩ := id p_trialResult
  obtain ⟨p_trialOdds_lt, p_trialOdds_o, p_trialOdds_sets, p_trialOdds_seen, p_trialOdds_atUnit, p_trialOdds_early, p_trialOdds_result⟩ := id p_trialOdds
  have L_26 : ∀ u : Nat, ∀ (x1_26 : Int32) (x2_26 : Int32) (x3_26 : Int32) (x4_26 : Int64) (x6_26 : Int32) (x7_26 : Option Value) (x8_26 : Option Value) (M_26 : zMt) (N_26 : zNt), D_X7_wise_26 P u x1_26 x3_26 x4_26 x6_26 M_26 N_26 = some r → Zw p l e { frames := 15, cells := 0, slots := 0, locals := 80 * (15) } s m args below meth c G b 9 (MQ below (zQ G b FQ) args s 0 0 (fun q : Nat => b ≤ q)) 0 0 26 [some (.ref (P)), some (.int x1_26), some (.int x2_26), some (.int x3_26), some (.long x4_26), none, some (.int x6_26), x7_26, x8_26] [] (L, M_26, N_26) := by
    intro u
    induction u with
    | zero => intro x1_26 x2_26 x3_26 x4_26 x6_26 x7_26 x8_26 M_26 N_26 h; cases (show none = some r from h)
    | succ u_26 ih_26 =>
      have J_62 : ∀ (x1_62 : Int32) (x2_62 : Int32) (x3_62 : Int32) (x4_62 : Int64) (x6_62 : Int32) (x7_62 : Int64) (M_62 : zMt) (N_62 : zNt), D_X7_wise_62 P (D_X7_wise_26 P u_26) x1_62 x3_62 x4_62 x6_62 M_62 N_62 = some r → Zw p l e { frames := 15, cells := 0, slots := 0, locals := 80 * (15) } s m args below meth c G b 9 (MQ below (zQ G b FQ) args s 0 0 (fun q : Nat => b ≤ q)) 0 0 62 [some (.ref (P)), some (.int x1_62), some (.int x2_62), some (.int x3_62), some (.long x4_62), none, some (.int x6_62), some (.long x7_62), none] [] (L, M_62, N_62) := by
        intro x1_62 x2_62 x3_62 x4_62 x6_62 x7_62 M_62 N_62 h
        unfold D_X7_wise_62 at h
        refine a_iinc (v := x6_62 + 1) X dX7_wise_62 (by decide) rfl zi_1 ?_
        refine a_goto (tgt := 26) X dX7_wise_65 (by decide) ?_
        exact Zw.to2 (ih_26 _ _ _ _ _ _ _ _ _ h) rfl rfl rfl
      intro x1_26 x2_26 x3_26 x4_26 x6_26 x7_26 x8_26 M_26 N_26 h
      rw [D_X7_wise_26] at h
      refine a_iload X dX7_wise_26 rfl ?_
      refine a_aload_n X dX7_wise_28 rfl ?_
      refine a_getr X lf7_26 (by assumption) rfl (by omega) dX7_wise_29 ?_
      refine a_geti X lf7_131 (by assumption) rfl dX7_wise_32 ?_
      refine a_icmp_ge (tgt := 68) X dX7_wise_35 (by decide) (fun h_35 => ?_) (fun h_35 => ?_)
      · replace h := (if_pos h_35).symm.trans h
        refine a_aload_n X dX7_wise_68 rfl ?_
        refine a_iload_n X dX7_wise_69 rfl ?_
        obtain ⟨e_70, f_70, h⟩ := zBx h
        refine a_callVv X dX7_wise_70 miX7_answer lm7_134 (t_X7_answer (by assumption) f_70) (by assumption) rfl rfl rfl (Nat.le_of_ble_eq_true rfl) ⟨by decide, by decide, by decide, by decide⟩ ?_
        refine a_iret X hr dX7_wise_73 ⟨by decide, by decide⟩ ?_
        subst hF
        rw [← Option.some.inj h]
        exact ⟨rfl, rfl⟩
      · replace h := (if_neg h_35).symm.trans h
        refine a_aload_n X dX7_wise_38 rfl ?_
        refine a_iload_n X dX7_wise_39 rfl ?_
        refine a_iload X dX7_wise_40 rfl ?_
        obtain ⟨e_42, f_42, h⟩ := zBx h
        refine a_callVv X dX7_wise_42 miX7_partsOfOnly lm7_349 (t_X7_partsOfOnly (by assumption) f_42) (by assumption) rfl rfl rfl (Nat.le_of_ble_eq_true rfl) ⟨by decide, by decide, by decide, by decide⟩ ?_
        refine a_lstore X dX7_wise_45 (by decide) ?_
        refine a_lload X dX7_wise_47 rfl ?_
        refine a_lload X dX7_wise_49 rfl ?_
        refine a_lcmp X dX7_wise_51 ?_
        refine a_if_le (tgt := 62) X dX7_wise_52 (by decide) (fun h_52 => ?_) (fun h_52 => ?_)
        · replace h := (if_pos h_52).symm.trans h
          exact Zw.to2 (J_62 _ _ _ _ _ _ _ _ h) rfl rfl rfl
        · replace h := (if_neg h_52).symm.trans h
          refine a_lload X dX7_wise_55 rfl ?_
          refine a_lstore X dX7_wise_57 (by decide) ?_
          refine a_iload X dX7_wise_59 rfl ?_
          refine a_istore_n X dX7_wise_61 (by decide) ?_
          exact Zw.to2 (J_62 _ _ _ _ _ _ _ _ h) rfl rfl rfl
  have H_26 : ∀ (x1_26 : Int32) (x2_26 : Int32) (x3_26 : Int32) (x4_26 : Int64) (x6_26 : Int32) (x7_26 : Option Value) (x8_26 : Option Value) (M_26 : zMt) (N_26 : zNt), D_X7_wise_26 P zFu x1_26 x3_26 x4_26 x6_26 M_26 N_26 = some r → Zw p l e { frames := 15, cells := 0, slots := 0, locals := 80 * (15) } s m args below meth c G b 9 (MQ below (zQ G b FQ) args s 0 0 (fun q : Nat => b ≤ q)) 0 0 26 [some (.ref (P)), some (.int x1_26), some (.int x2_26), some (.int x3_26), some (.long x4_26), none, some (.int x6_26), x7_26, x8_26] [] (L, M_26, N_26) := L_26 zFu
  unfold D_X7_wise at h
  refine a_aload_n X dX7_wise_0 rfl ?_
  refine a_iload_n X dX7_wise_1 rfl ?_
  obtain ⟨e_2, f_2, h⟩ := zBx h
  refine a_callVv X dX7_wise_2 miX7_whyNotWise lm7_344 (t_X7_whyNotWise (by assumption) f_2) (by assumption) rfl rfl rfl (Nat.le_of_ble_eq_true rfl) ⟨by decide, by decide, by decide, by decide⟩ ?_
  refine a_istore_n X dX7_wise_5 (by decide) ?_
  refine a_iload_n X dX7_wise_6 rfl ?_
  refine a_if_eq (tgt := 16) X dX7_wise_7 (by decide) (fun h_7 => ?_) (fun h_7 => ?_)
  · replace h := (if_pos h_7).symm.trans h
    refine a_iconst (v := 0) X dX7_wise_16 (by decide) ?_
    refine a_istore_n X dX7_wise_17 (by decide) ?_
    refine a_ldc2 X dX7_wise_18 lk7_347 ?_
    refine a_lstore X dX7_wise_21 (by decide) ?_
    refine a_iconst (v := 0) X dX7_wise_23 (by decide) ?_
    refine a_istore X dX7_wise_24 (by decide) ?_
    exact Zw.to2 (H_26 _ _ _ _ _ _ _ _ _ h) rfl rfl rfl
  · replace h := (if_neg h_7).symm.trans h
    refine a_aload_n X dX7_wise_10 rfl ?_
    refine a_iload_n X dX7_wise_11 rfl ?_
    obtain ⟨e_12, f_12, h⟩ := zBx h
    refine a_callVv X dX7_wise_12 miX7_refuse lm7_102 (t_X7_refuse (by assumption) f_12) (by assumption) rfl rfl rfl (Nat.le_of_ble_eq_true rfl) ⟨by decide, by decide, by decide, by decide⟩ ?_
    refine a_iret X hr dX7_wise_15 ⟨by decide, by decide⟩ ?_
    subst hF
    rw [← Option.some.inj h]
    exact ⟨rfl, rfl⟩
noncomputable def D_X7_wiseChance_22 (P : Nat) : Nat → Int32 → Int64 → Int32 → zMt → zNt → Option (Int64 × zMt × zNt)
  | 0, _, _, _, _, _ => none
  | n + 1, x1_22, x3_22, x5_22, M_22, N_22 =>
    if (M_22 (P + 17) 0) ≤ x5_22 then
      zB (D_X7_answerParts P x3_22 M_22) fun e_54 =>
      some (e_54.1, e_54.2, N_22)
    else
      zB (D_X7_partsOfOnly P x1_22 x5_22 M_22 N_22) fun e_39 =>
      (D_X7_wiseChance_22 P n) x1_22 (if e_39.1 < x3_22 then x3_22 else e_39.1) (x5_22 + 1) e_39.2.1 e_39.2.2
noncomputable def D_X7_wiseChance (P : Nat) (v0 : Int32) (M : zMt) (N : zNt) : Option (Int64 × zMt × zNt) :=
  zB (D_X7_whyNotWise P M v0) fun e_2 =>
  if e_2 = 0 then
    D_X7_wiseChance_22 P zFu v0 (0 : Int64) (0 : Int32) M N
  else
    zB (D_X7_refuse P e_2 M) fun e_12 =>
    some ((Int32.toInt64 e_12.1), e_12.2, N)
set_option maxRecDepth 100000 in
set_option maxHeartbeats 4000000 in
theorem t_X7_wiseChance {l : Launch} {G : zG} {b : Nat} {L : List zC} {M : zMt} {N : zNt} {P : Nat} {v0 : Int32} (hP : LX7 L P) {r : Int64 × zMt × zNt} (h : D_X7_wiseChance P v0 M N = some r) : zM l G b yX7_wiseChance cX7_wiseChance 6 (some .long) 15 0 0 [.ref P, .int v0] (L, M, N) (fun r2 z => r2 = some (.long r.1) ∧ z = (L, r.2.1, r.2.2)) := by
  refine zM.of miX7_wiseChance (Nat.le_of_ble_eq_true rfl) ?_
  intro p e s m args below meth c X hr hname
  generalize hF : ((fun r2 z => r2 = some (.long r.1) ∧ z = (L, r.2.1, r.2.2)) : Option Value → zS → Prop) = FQ
  change Zw p l e { frames := 15, cells := 0, slots := 0, locals := 80 * (15) } s m args below meth c G b 6 (MQ below (zQ G b FQ) args s 0 0 (fun q : Nat => b ≤ q)) 0 0 0 [some (.ref P), some (.int v0), none, none, none, none] [] (L, M, N)
  obtain ⟨p_lt, p_o, p_tape, p_out, p_reader, p_list, p_past, p_pool, p_result, p_odds, p_paper, p_trial, p_trialPool, p_trialResult, p_trialOdds⟩ := id hP
  obtain ⟨p_reader_lt, p_reader_o, p_reader_draft, p_reader_text, p_reader_unitNames, p_reader_hunterNames, p_reader_partyNames, p_reader_asked⟩ := id p_reader
  obtain ⟨p_list_lt, p_list_o, p_list_quota, p_list_score, p_list_guest, p_list_party, p_list_wishCount, p_list_wishes, p_list_has⟩ := id p_list
  obtain ⟨p_past_lt, p_past_o, p_past_stood, p_past_stood0, p_past_stood1, p_past_stood2, p_past_stood3, p_past_stood4, p_past_stood5, p_past_stood6, p_past_stood7⟩ := id p_past
  obtain ⟨p_pool_lt, p_pool_o, p_pool_quota, p_pool_preferred, p_pool_forGuests, p_pool_applicantOf, p_pool_size, p_pool_guestCount, p_pool_score, p_pool_tickets, p_pool_bits, p_pool_party, p_pool_wishCount, p_pool_wishes⟩ := id p_pool
  obtain ⟨p_result_lt, p_result_o, p_result_line, p_result_unitOf, p_result_roundOf, p_result_leftTags, p_result_leftGuests, p_result_leftPreferred, p_result_ranked⟩ := id p_result
  obtain ⟨p_odds_lt, p_odds_o, p_odds_sets, p_odds_seen, p_odds_atUnit, p_odds_early, p_odds_result⟩ := id p_odds
  obtain ⟨p_paper_lt, p_paper_o, p_paper_times, p_paper_firstWish, p_paper_dry, p_paper_list, p_paper_pool, p_paper_result⟩ := id p_paper
  obtain ⟨p_trial_lt, p_trial_o, p_trial_quota, p_trial_score, p_trial_guest, p_trial_party, p_trial_wishCount, p_trial_wishes, p_trial_has⟩ := id p_trial
  obtain ⟨p_trialPool_lt, p_trialPool_o, p_trialPool_quota, p_trialPool_preferred, p_trialPool_forGuests, p_trialPool_applicantOf, p_trialPool_size, p_trialPool_guestCount, p_trialPool_score, p_trialPool_tickets, p_trialPool_bits, p_trialPool_party, p_trialPool_wishCount, p_trialPool_wishes⟩ := id p_trialPool
  obtain ⟨p_trialResult_lt, p_trialResult_o, p_trialResult_line, p_trialResult_unitOf, p_trialResult_roundOf, p_trialResult_leftTags, p_trialResult_leftGuests, p_trialResult_leftPreferred, p_trialResult_ranked⟩ := id p_trialResult
  obtain ⟨p_trialOdds_lt, p_trialOdds_o, p_trialOdds_sets, p_trialOdds_seen, p_trialOdds_atUnit, p_trialOdds_early, p_trialOdds_result⟩ := id p_trialOdds
  have L_22 : ∀ u : Nat, ∀ (x1_22 : Int32) (x2_22 : Int32) (x3_22 : Int64) (x5_22 : Int32) (M_22 : zMt) (N_22 : zNt), D_X7_wiseChance_22 P u x1_22 x3_22 x5_22 M_22 N_22 = some r → Zw p l e { frames := 15, cells := 0, slots := 0, locals := 80 * (15) } s m args below meth c G b 6 (MQ below (zQ G b FQ) args s 0 0 (fun q : Nat => b ≤ q)) 0 0 22 [some (.ref (P)), some (.int x1_22), some (.int x2_22), some (.long x3_22), none, some (.int x5_22)] [] (L, M_22, N_22) := by
    intro u
    induction u with
    | zero => intro x1_22 x2_22 x3_22 x5_22 M_22 N_22 h; cases (show none = some r from h)
    | succ u_22 ih_22 =>
      intro x1_22 x2_22 x3_22 x5_22 M_22 N_22 h
      rw [D_X7_wiseChance_22] at h
      refine a_iload X dX7_wiseChance_22 rfl ?_
      refine a_aload_n X dX7_wiseChance_24 rfl ?_
      refine a_getr X lf7_26 (by assumption) rfl (by omega) dX7_wiseChance_25 ?_
      refine a_geti X lf7_131 (by assumption) rfl dX7_wiseChance_28 ?_
      refine a_icmp_ge (tgt := 52) X dX7_wiseChance_31 (by decide) (fun h_31 => ?_) (fun h_31 => ?_)
      · replace h := (if_pos h_31).symm.trans h
        refine a_aload_n X dX7_wiseChance_52 rfl ?_
        refine a_lload_n X dX7_wiseChance_53 rfl ?_
        obtain ⟨e_54, f_54, h⟩ := zBx h
        refine a_callVv X dX7_wiseChance_54 miX7_answerParts lm7_303 (t_X7_answerParts (by assumption) f_54) (by assumption) rfl rfl rfl (Nat.le_of_ble_eq_true rfl) ⟨by decide, by decide, by decide, by decide⟩ ?_
        refine a_lret X hr dX7_wiseChance_57 ⟨by decide, by decide⟩ ?_
        subst hF
        rw [← Option.some.inj h]
        exact ⟨rfl, rfl⟩
      · replace h := (if_neg h_31).symm.trans h
        refine a_lload_n X dX7_wiseChance_34 rfl ?_
        refine a_aload_n X dX7_wiseChance_35 rfl ?_
        refine a_iload_n X dX7_wiseChance_36 rfl ?_
        refine a_iload X dX7_wiseChance_37 rfl ?_
        obtain ⟨e_39, f_39, h⟩ := zBx h
        refine a_callVv X dX7_wiseChance_39 miX7_partsOfOnly lm7_349 (t_X7_partsOfOnly (by assumption) f_39) (by assumption) rfl rfl rfl (Nat.le_of_ble_eq_true rfl) ⟨by decide, by decide, by decide, by decide⟩ ?_
        refine a_mmaxl X lm7_352 zmath3 zmath0 zmathc3 ⟨by decide, Nat.le_of_ble_eq_true rfl, by decide, by decide⟩ dX7_wiseChance_42 ?_
        refine a_lstore_n X dX7_wiseChance_45 (by decide) ?_
        refine a_iinc (v := x5_22 + 1) X dX7_wiseChance_46 (by decide) rfl zi_1 ?_
        refine a_goto (tgt := 22) X dX7_wiseChance_49 (by decide) ?_
        exact Zw.to2 (ih_22 _ _ _ _ _ _ h) rfl rfl rfl
  have H_22 : ∀ (x1_22 : Int32) (x2_22 : Int32) (x3_22 : Int64) (x5_22 : Int32) (M_22 : zMt) (N_22 : zNt), D_X7_wiseChance_22 P zFu x1_22 x3_22 x5_22 M_22 N_22 = some r → Zw p l e { frames := 15, cells := 0, slots := 0, locals := 80 * (15) } s m args below meth c G b 6 (MQ below (zQ G b FQ) args s 0 0 (fun q : Nat => b ≤ q)) 0 0 22 [some (.ref (P)), some (.int x1_22), some (.int x2_22), some (.long x3_22), none, some (.int x5_22)] [] (L, M_22, N_22) := L_22 zFu
  unfold D_X7_wiseChance at h
  refine a_aload_n X dX7_wiseChance_0 rfl ?_
  refine a_iload_n X dX7_wiseChance_1 rfl ?_
  obtain ⟨e_2, f_2, h⟩ := zBx h
  refine a_callVv X dX7_wiseChance_2 miX7_whyNotWise lm7_344 (t_X7_whyNotWise (by assumption) f_2) (by assumption) rfl rfl rfl (Nat.le_of_ble_eq_true rfl) ⟨by decide, by decide, by decide, by decide⟩ ?_
  refine a_istore_n X dX7_wiseChance_5 (by decide) ?_
  refine a_iload_n X dX7_wiseChance_6 rfl ?_
  refine a_if_eq (tgt := 17) X dX7_wiseChance_7 (by decide) (fun h_7 => ?_) (fun h_7 => ?_)
  · replace h := (if_pos h_7).symm.trans h
    refine a_lconst (v := 0) X dX7_wiseChance_17 (by decide) ?_
    refine a_lstore_n X dX7_wiseChance_18 (by decide) ?_
    refine a_iconst (v := 0) X dX7_wiseChance_19 (by decide) ?_
    refine a_istore X dX7_wiseChance_20 (by decide) ?_
    exact Zw.to2 (H_22 _ _ _ _ _ _ h) rfl rfl rfl
  · replace h := (if_neg h_7).symm.trans h
    refine a_aload_n X dX7_wiseChance_10 rfl ?_
    refine a_iload_n X dX7_wiseChance_11 rfl ?_
    obtain ⟨e_12, f_12, h⟩ := zBx h
    refine a_callVv X dX7_wiseChance_12 miX7_refuse lm7_102 (t_X7_refuse (by assumption) f_12) (by assumption) rfl rfl rfl (Nat.le_of_ble_eq_true rfl) ⟨by decide, by decide, by decide, by decide⟩ ?_
    refine a_i2l X dX7_wiseChance_15 ?_
    refine a_lret X hr dX7_wiseChance_16 ⟨by decide, by decide⟩ ?_
    subst hF
    rw [← Option.some.inj h]
    exact ⟨rfl, rfl⟩
noncomputable def D_X7_together_65 (P : Nat) (M_65 : zMt) (N_65 : zNt) : Option (Int64 × zMt × zNt) :=
  zB (D_X7_refuse P (7 : Int32) M_65) fun e_68 =>
  some ((Int32.toInt64 e_68.1), e_68.2, N_65)
noncomputable def D_X7_together_16 (P : Nat) (M_16 : zMt) (N_16 : zNt) : Option (Int64 × zMt × zNt) :=
  zB (D_X7_refuse P (2 : Int32) M_16) fun e_18 =>
  some ((Int32.toInt64 e_18.1), e_18.2, N_16)
noncomputable def D_X7_together (P : Nat) (v0 : Int32) (v1 : Int32) (M : zMt) (N : zNt) : Option (Int64 × zMt × zNt) :=
  zB (D_X7_isHunter P M v0) fun e_2 =>
  if e_2 = 0 then
    D_X7_together_16 P M N
  else
    zB (D_X7_isHunter P M v1) fun e_10 =>
    if e_10 = 0 then
      D_X7_together_16 P M N
    else
      if v0 = v1 then
        zB (D_X7_refuse P (4 : Int32) M) fun e_30 =>
        some ((Int32.toInt64 e_30.1), e_30.2, N)
      else
        if (zrd 0 (M (P + 21)) 10 v0) = (-1 : Int32) then
          if (zrd 0 (M (P + 21)) 10 v1) = (-1 : Int32) then
            if (M (P + 91) 1) ≤ (8 : Int32) then
              zB (D_X4_take (P + 158) (P + 17) M) fun e_100 =>
              zB (D_X4_join (P + 158) v0 v1 e_100) fun e_109 =>
              zB (D_X2_gather (P + 166) (P + 158) e_109) fun e_120 =>
              zB (D_X0_reckon (P + 187) (P + 166) e_120 N) fun e_131 =>
              zB (D_X0_anyUnit (P + 187) e_131.2 (zrd 0 (e_131.1 (P + 170)) 10 v0)) fun e_150 =>
              zB (D_X7_answerParts P e_150 e_131.1) fun e_153 =>
              some (e_153.1, e_153.2, e_131.2)
            else
              zB (D_X7_refuse P (3 : Int32) M) fun e_87 =>
              some ((Int32.toInt64 e_87.1), e_87.2, N)
          else
            D_X7_together_65 P M N
        else
          D_X7_together_65 P M N
set_option maxRecDepth 100000 in
set_option maxHeartbeats 4000000 in
theorem t_X7_together {l : Launch} {G : zG} {b : Nat} {L : List zC} {M : zMt} {N : zNt} {P : Nat} {v0 : Int32} {v1 : Int32} (hP : LX7 L P) {r : Int64 × zMt × zNt} (h : D_X7_together P v0 v1 M N = some r) : zM l G b yX7_together cX7_together 3 (some .long) 14 0 0 [.ref P, .int v0, .int v1] (L, M, N) (fun r2 z => r2 = some (.long r.1) ∧ z = (L, r.2.1, r.2.2)) := by
  refine zM.of miX7_together (Nat.le_of_ble_eq_true rfl) ?_
  intro p e s m args below meth c X hr hname
  generalize hF : ((fun r2 z => r2 = some (.long r.1) ∧ z = (L, r.2.1, r.2.2)) : Option Value → zS → Prop) = FQ
  change Zw p l e { frames := 14, cells := 0, slots := 0, locals := 80 * (14) } s m args below meth c G b 3 (MQ below (zQ G b FQ) args s 0 0 (fun q : Nat => b ≤ q)) 0 0 0 [some (.ref P), some (.int v0), some (.int v1)] [] (L, M, N)
  obtain ⟨p_lt, p_o, p_tape, p_out, p_reader, p_list, p_past, p_pool, p_result, p_odds, p_paper, p_trial, p_trialPool, p_trialResult, p_trialOdds⟩ := id hP
  obtain ⟨p_reader_lt, p_reader_o, p_reader_draft, p_reader_text, p_reader_unitNames, p_reader_hunterNames, p_reader_partyNames, p_reader_asked⟩ := id p_reader
  obtain ⟨p_list_lt, p_list_o, p_list_quota, p_list_score, p_list_guest, p_list_party, p_list_wishCount, p_list_wishes, p_list_has⟩ := id p_list
  obtain ⟨p_past_lt, p_past_o, p_past_stood, p_past_stood0, p_past_stood1, p_past_stood2, p_past_stood3, p_past_stood4, p_past_stood5, p_past_stood6, p_past_stood7⟩ := id p_past
  obtain ⟨p_pool_lt, p_pool_o, p_pool_quota, p_pool_preferred, p_pool_forGuests, p_pool_applicantOf, p_pool_size, p_pool_guestCount, p_pool_score, p_pool_tickets, p_pool_bits, p_pool_party, p_pool_wishCount, p_pool_wishes⟩ := id p_pool
  obtain ⟨p_result_lt, p_result_o, p_result_line, p_result_unitOf, p_result_roundOf, p_result_leftTags, p_result_leftGuests, p_result_leftPreferred, p_result_ranked⟩ := id p_result
  obtain ⟨p_odds_lt, p_odds_o, p_odds_sets, p_odds_seen, p_odds_atUnit, p_odds_early, p_odds_result⟩ := id p_odds
  obtain ⟨p_paper_lt, p_paper_o, p_paper_times, p_paper_firstWish, p_paper_dry, p_paper_list, p_paper_pool, p_paper_result⟩ := id p_paper
  obtain ⟨p_trial_lt, p_trial_o, p_trial_quota, p_trial_score, p_trial_guest, p_trial_party, p_trial_wishCount, p_trial_wishes, p_trial_has⟩ := id p_trial
  obtain ⟨p_trialPool_lt, p_trialPool_o, p_trialPool_quota, p_trialPool_preferred, p_trialPool_forGuests, p_trialPool_applicantOf, p_trialPool_size, p_trialPool_guestCount, p_trialPool_score, p_trialPool_tickets, p_trialPool_bits, p_trialPool_party, p_trialPool_wishCount, p_trialPool_wishes⟩ := id p_trialPool
  obtain ⟨p_trialResult_lt, p_trialResult_o, p_trialResult_line, p_trialResult_unitOf, p_trialResult_roundOf, p_trialResult_leftTags, p_trialResult_leftGuests, p_trialResult_leftPreferred, p_trialResult_ranked⟩ := id p_trialResult
  obtain ⟨p_trialOdds_lt, p_trialOdds_o, p_trialOdds_sets, p_trialOdds_seen, p_trialOdds_atUnit, p_trialOdds_early, p_trialOdds_result⟩ := id p_trialOdds
  have J_65 : ∀ (x1_65 : Int32) (x2_65 : Int32) (M_65 : zMt) (N_65 : zNt), D_X7_together_65 P M_65 N_65 = some r → Zw p l e { frames := 14, cells := 0, slots := 0, locals := 80 * (14) } s m args below meth c G b 3 (MQ below (zQ G b FQ) args s 0 0 (fun q : Nat => b ≤ q)) 0 0 65 [some (.ref (P)), some (.int x1_65), some (.int x2_65)] [] (L, M_65, N_65) := by
    intro x1_65 x2_65 M_65 N_65 h
    unfold D_X7_together_65 at h
    refine a_aload_n X dX7_together_65 rfl ?_
    refine a_bipush (v := 7) X dX7_together_66 (by decide) ?_
    obtain ⟨e_68, f_68, h⟩ := zBx h
    refine a_callVv X dX7_together_68 miX7_refuse lm7_102 (t_X7_refuse (by assumption) f_68) (by assumption) rfl rfl rfl (Nat.le_of_ble_eq_true rfl) ⟨by decide, by decide, by decide, by decide⟩ ?_
    refine a_i2l X dX7_together_71 ?_
    refine a_lret X hr dX7_together_72 ⟨by decide, by decide⟩ ?_
    subst hF
    rw [← Option.some.inj h]
    exact ⟨rfl, rfl⟩
  have J_16 : ∀ (x1_16 : Int32) (x2_16 : Int32) (M_16 : zMt) (N_16 : zNt), D_X7_together_16 P M_16 N_16 = some r → Zw p l e { frames := 14, cells := 0, slots := 0, locals := 80 * (14) } s m args below meth c G b 3 (MQ below (zQ G b FQ) args s 0 0 (fun q : Nat => b ≤ q)) 0 0 16 [some (.ref (P)), some (.int x1_16), some (.int x2_16)] [] (L, M_16, N_16) := by
    intro x1_16 x2_16 M_16 N_16 h
    unfold D_X7_together_16 at h
    refine a_aload_n X dX7_together_16 rfl ?_
    refine a_iconst (v := 2) X dX7_together_17 (by decide) ?_
    obtain ⟨e_18, f_18, h⟩ := zBx h
    refine a_callVv X dX7_together_18 miX7_refuse lm7_102 (t_X7_refuse (by assumption) f_18) (by assumption) rfl rfl rfl (Nat.le_of_ble_eq_true rfl) ⟨by decide, by decide, by decide, by decide⟩ ?_
    refine a_i2l X dX7_together_21 ?_
    refine a_lret X hr dX7_together_22 ⟨by decide, by decide⟩ ?_
    subst hF
    rw [← Option.some.inj h]
    exact ⟨rfl, rfl⟩
  unfold D_X7_together at h
  refine a_aload_n X dX7_together_0 rfl ?_
  refine a_iload_n X dX7_together_1 rfl ?_
  obtain ⟨e_2, f_2, h⟩ := zBx h
  refine a_callVx X dX7_together_2 miX7_isHunter lm7_168 (t_X7_isHunter (by assumption) f_2) (by assumption) rfl rfl rfl (Nat.le_of_ble_eq_true rfl) ⟨by decide, by decide, by decide, by decide⟩ (fun r_2 S_2 q_2 => ?_)
  obtain ⟨rfl, rfl, b_2⟩ := q_2
  refine a_if_eq (tgt := 16) X dX7_together_5 (by decide) (fun h_5 => ?_) (fun h_5 => ?_)
  · replace h := (if_pos h_5).symm.trans h
    exact Zw.to2 (J_16 _ _ _ _ h) rfl rfl rfl
  · replace h := (if_neg h_5).symm.trans h
    refine a_aload_n X dX7_together_8 rfl ?_
    refine a_iload_n X dX7_together_9 rfl ?_
    obtain ⟨e_10, f_10, h⟩ := zBx h
    refine a_callVx X dX7_together_10 miX7_isHunter lm7_168 (t_X7_isHunter (by assumption) f_10) (by assumption) rfl rfl rfl (Nat.le_of_ble_eq_true rfl) ⟨by decide, by decide, by decide, by decide⟩ (fun r_10 S_10 q_10 => ?_)
    obtain ⟨rfl, rfl, b_10⟩ := q_10
    refine a_if_ne (tgt := 23) X dX7_together_13 (by decide) (fun h_13 => ?_) (fun h_13 => ?_)
    · replace h := (if_neg h_13).symm.trans h
      refine a_iload_n X dX7_together_23 rfl ?_
      refine a_iload_n X dX7_together_24 rfl ?_
      refine a_icmp_ne (tgt := 35) X dX7_together_25 (by decide) (fun h_25 => ?_) (fun h_25 => ?_)
      · replace h := (if_neg h_25).symm.trans h
        refine a_aload_n X dX7_together_35 rfl ?_
        refine a_getr X lf7_26 (by assumption) rfl (by omega) dX7_together_36 ?_
        refine a_getr X lf7_179 (by assumption) rfl (by omega) dX7_together_39 ?_
        refine a_iload_n X dX7_together_42 rfl ?_
        refine a_callSv X dX7_together_43 miX7_cell lm7_175 (c_cell (by assumption) (by first | decide | assumption)) rfl rfl (Nat.le_of_ble_eq_true rfl) ⟨by decide, by decide, by decide, by decide⟩ ?_
        refine a_iconst (v := -1) X dX7_together_46 (by decide) ?_
        refine a_icmp_ne (tgt := 65) X dX7_together_47 (by decide) (fun h_47 => ?_) (fun h_47 => ?_)
        · replace h := (if_neg h_47).symm.trans h
          exact Zw.to2 (J_65 _ _ _ _ h) rfl rfl rfl
        · replace h := (if_pos h_47).symm.trans h
          refine a_aload_n X dX7_together_50 rfl ?_
          refine a_getr X lf7_26 (by assumption) rfl (by omega) dX7_together_51 ?_
          refine a_getr X lf7_179 (by assumption) rfl (by omega) dX7_together_54 ?_
          refine a_iload_n X dX7_together_57 rfl ?_
          refine a_callSv X dX7_together_58 miX7_cell lm7_175 (c_cell (by assumption) (by first | decide | assumption)) rfl rfl (Nat.le_of_ble_eq_true rfl) ⟨by decide, by decide, by decide, by decide⟩ ?_
          refine a_iconst (v := -1) X dX7_together_61 (by decide) ?_
          refine a_icmp_eq (tgt := 73) X dX7_together_62 (by decide) (fun h_62 => ?_) (fun h_62 => ?_)
          · replace h := (if_pos h_62).symm.trans h
            refine a_aload_n X dX7_together_73 rfl ?_
            refine a_getr X lf7_40 (by assumption) rfl (by omega) dX7_together_74 ?_
            refine a_geti X lf7_140 (by assumption) rfl dX7_together_77 ?_
            refine a_bipush (v := 8) X dX7_together_80 (by decide) ?_
            refine a_icmp_le (tgt := 92) X dX7_together_82 (by decide) (fun h_82 => ?_) (fun h_82 => ?_)
            · replace h := (if_pos h_82).symm.trans h
              refine a_aload_n X dX7_together_92 rfl ?_
              refine a_getr X lf7_65 (by assumption) rfl (by omega) dX7_together_93 ?_
              refine a_aload_n X dX7_together_96 rfl ?_
              refine a_getr X lf7_26 (by assumption) rfl (by omega) dX7_together_97 ?_
              obtain ⟨e_100, f_100, h⟩ := zBx h
              refine a_callVu X dX7_together_100 miX4_take lm7_113 (t_X4_take (by assumption) (by assumption) (by omega) f_100) (by assumption) rfl rfl rfl (Nat.le_of_ble_eq_true rfl) ⟨by decide, by decide, by decide, by decide⟩ ?_
              refine a_aload_n X dX7_together_103 rfl ?_
              refine a_getr X lf7_65 (by assumption) rfl (by omega) dX7_together_104 ?_
              refine a_iload_n X dX7_together_107 rfl ?_
              refine a_iload_n X dX7_together_108 rfl ?_
              obtain ⟨e_109, f_109, h⟩ := zBx h
              refine a_callVu X dX7_together_109 miX4_join lm7_358 (t_X4_join (by assumption) f_109) (by assumption) rfl rfl rfl (Nat.le_of_ble_eq_true rfl) ⟨by decide, by decide, by decide, by decide⟩ ?_
              refine a_aload_n X dX7_together_112 rfl ?_
              refine a_getr X lf7_68 (by assumption) rfl (by omega) dX7_together_113 ?_
              refine a_aload_n X dX7_together_116 rfl ?_
              refine a_getr X lf7_65 (by assumption) rfl (by omega) dX7_together_117 ?_
              obtain ⟨e_120, f_120, h⟩ := zBx h
              refine a_callVu X dX7_together_120 miX2_gather lm7_80 (t_X2_gather (by assumption) (by assumption) f_120) (by assumption) rfl rfl rfl (Nat.le_of_ble_eq_true rfl) ⟨by decide, by decide, by decide, by decide⟩ ?_
              refine a_aload_n X dX7_together_123 rfl ?_
              refine a_getr X lf7_74 (by assumption) rfl (by omega) dX7_together_124 ?_
              refine a_aload_n X dX7_together_127 rfl ?_
              refine a_getr X lf7_68 (by assumption) rfl (by omega) dX7_together_128 ?_
              obtain ⟨e_131, f_131, h⟩ := zBx h
              refine a_callVu X dX7_together_131 miX0_reckon lm7_339 (t_X0_reckon (by assumption) (by assumption) f_131) (by assumption) rfl rfl rfl (Nat.le_of_ble_eq_true rfl) ⟨by decide, by decide, by decide, by decide⟩ ?_
              refine a_aload_n X dX7_together_134 rfl ?_
              refine a_aload_n X dX7_together_135 rfl ?_
              refine a_getr X lf7_74 (by assumption) rfl (by omega) dX7_together_136 ?_
              refine a_aload_n X dX7_together_139 rfl ?_
              refine a_getr X lf7_68 (by assumption) rfl (by omega) dX7_together_140 ?_
              refine a_getr X lf7_182 (by assumption) rfl (by omega) dX7_together_143 ?_
              refine a_iload_n X dX7_together_146 rfl ?_
              refine a_callSv X dX7_together_147 miX7_cell lm7_175 (c_cell (by assumption) (by first | decide | assumption)) rfl rfl (Nat.le_of_ble_eq_true rfl) ⟨by decide, by decide, by decide, by decide⟩ ?_
              obtain ⟨e_150, f_150, h⟩ := zBx h
              refine a_callVv X dX7_together_150 miX0_anyUnit lm7_299 (t_X0_anyUnit (by assumption) f_150) (by assumption) rfl rfl rfl (Nat.le_of_ble_eq_true rfl) ⟨by decide, by decide, by decide, by decide⟩ ?_
              obtain ⟨e_153, f_153, h⟩ := zBx h
              refine a_callVv X dX7_together_153 miX7_answerParts lm7_303 (t_X7_answerParts (by assumption) f_153) (by assumption) rfl rfl rfl (Nat.le_of_ble_eq_true rfl) ⟨by decide, by decide, by decide, by decide⟩ ?_
              refine a_lret X hr dX7_together_156 ⟨by decide, by decide⟩ ?_
              subst hF
              rw [← Option.some.inj h]
              exact ⟨rfl, rfl⟩
            · replace h := (if_neg h_82).symm.trans h
              refine a_aload_n X dX7_together_85 rfl ?_
              refine a_iconst (v := 3) X dX7_together_86 (by decide) ?_
              obtain ⟨e_87, f_87, h⟩ := zBx h
              refine a_callVv X dX7_together_87 miX7_refuse lm7_102 (t_X7_refuse (by assumption) f_87) (by assumption) rfl rfl rfl (Nat.le_of_ble_eq_true rfl) ⟨by decide, by decide, by decide, by decide⟩ ?_
              refine a_i2l X dX7_together_90 ?_
              refine a_lret X hr dX7_together_91 ⟨by decide, by decide⟩ ?_
              subst hF
              rw [← Option.some.inj h]
              exact ⟨rfl, rfl⟩
          · replace h := (if_neg h_62).symm.trans h
            exact Zw.to2 (J_65 _ _ _ _ h) rfl rfl rfl
      · replace h := (if_pos h_25).symm.trans h
        refine a_aload_n X dX7_together_28 rfl ?_
        refine a_iconst (v := 4) X dX7_together_29 (by decide) ?_
        obtain ⟨e_30, f_30, h⟩ := zBx h
        refine a_callVv X dX7_together_30 miX7_refuse lm7_102 (t_X7_refuse (by assumption) f_30) (by assumption) rfl rfl rfl (Nat.le_of_ble_eq_true rfl) ⟨by decide, by decide, by decide, by decide⟩ ?_
        refine a_i2l X dX7_together_33 ?_
        refine a_lret X hr dX7_together_34 ⟨by decide, by decide⟩ ?_
        subst hF
        rw [← Option.some.inj h]
        exact ⟨rfl, rfl⟩
    · replace h := (if_pos h_13).symm.trans h
      exact Zw.to2 (J_16 _ _ _ _ h) rfl rfl rfl
noncomputable def D_X7_isParty_20 (P : Nat) (M : zMt) (y0_20 : Int32) : Option (Int32) :=
  some (y0_20)
noncomputable def D_X7_isParty_19 (P : Nat) (M : zMt)  : Option (Int32) :=
  D_X7_isParty_20 P M (0 : Int32)
noncomputable def D_X7_isParty (P : Nat) (M : zMt) (v0 : Int32) : Option (Int32) :=
  if v0 < 0 then
    D_X7_isParty_19 P M
  else
    if (M (P + 17) 2) ≤ v0 then
      D_X7_isParty_19 P M
    else
      D_X7_isParty_20 P M (1 : Int32)
set_option maxRecDepth 100000 in
set_option maxHeartbeats 4000000 in
theorem t_X7_isParty {l : Launch} {G : zG} {b : Nat} {L : List zC} {M : zMt} {N : zNt} {P : Nat} {v0 : Int32} (hP : LX7 L P) {r : Int32} (h : D_X7_isParty P M v0 = some r) : zM l G b yX7_isParty cX7_isParty 2 (some .boolean) 0 0 0 [.ref P, .int v0] (L, M, N) (fun r2 z => r2 = some (.int r) ∧ z = (L, M, N) ∧ (r = 0 ∨ r = 1)) := by
  refine zM.of miX7_isParty (Nat.le_of_ble_eq_true rfl) ?_
  intro p e s m args below meth c X hr hname
  generalize hF : ((fun r2 z => r2 = some (.int r) ∧ z = (L, M, N) ∧ (r = 0 ∨ r = 1)) : Option Value → zS → Prop) = FQ
  change Zw p l e { frames := 0, cells := 0, slots := 0, locals := 80 * (0) } s m args below meth c G b 2 (MQ below (zQ G b FQ) args s 0 0 (fun q : Nat => b ≤ q)) 0 0 0 [some (.ref P), some (.int v0)] [] (L, M, N)
  obtain ⟨p_lt, p_o, p_tape, p_out, p_reader, p_list, p_past, p_pool, p_result, p_odds, p_paper, p_trial, p_trialPool, p_trialResult, p_trialOdds⟩ := id hP
  obtain ⟨p_reader_lt, p_reader_o, p_reader_draft, p_reader_text, p_reader_unitNames, p_reader_hunterNames, p_reader_partyNames, p_reader_asked⟩ := id p_reader
  obtain ⟨p_list_lt, p_list_o, p_list_quota, p_list_score, p_list_guest, p_list_party, p_list_wishCount, p_list_wishes, p_list_has⟩ := id p_list
  obtain ⟨p_past_lt, p_past_o, p_past_stood, p_past_stood0, p_past_stood1, p_past_stood2, p_past_stood3, p_past_stood4, p_past_stood5, p_past_stood6, p_past_stood7⟩ := id p_past
  obtain ⟨p_pool_lt, p_pool_o, p_pool_quota, p_pool_preferred, p_pool_forGuests, p_pool_applicantOf, p_pool_size, p_pool_guestCount, p_pool_score, p_pool_tickets, p_pool_bits, p_pool_party, p_pool_wishCount, p_pool_wishes⟩ := id p_pool
  obtain ⟨p_result_lt, p_result_o, p_result_line, p_result_unitOf, p_result_roundOf, p_result_leftTags, p_result_leftGuests, p_result_leftPreferred, p_result_ranked⟩ := id p_result
  obtain ⟨p_odds_lt, p_odds_o, p_odds_sets, p_odds_seen, p_odds_atUnit, p_odds_early, p_odds_result⟩ := id p_odds
  obtain ⟨p_paper_lt, p_paper_o, p_paper_times, p_paper_firstWish, p_paper_dry, p_paper_list, p_paper_pool, p_paper_result⟩ := id p_paper
  obtain ⟨p_trial_lt, p_trial_o, p_trial_quota, p_trial_score, p_trial_guest, p_trial_party, p_trial_wishCount, p_trial_wishes, p_trial_has⟩ := id p_trial
  obtain ⟨p_trialPool_lt, p_trialPool_o, p_trialPool_quota, p_trialPool_preferred, p_trialPool_forGuests, p_trialPool_applicantOf, p_trialPool_size, p_trialPool_guestCount, p_trialPool_score, p_trialPool_tickets, p_trialPool_bits, p_trialPool_party, p_trialPool_wishCount, p_trialPool_wishes⟩ := id p_trialPool
  obtain ⟨p_trialResult_lt, p_trialResult_o, p_trialResult_line, p_trialResult_unitOf, p_trialResult_roundOf, p_trialResult_leftTags, p_trialResult_leftGuests, p_trialResult_leftPreferred, p_trialResult_ranked⟩ := id p_trialResult
  obtain ⟨p_trialOdds_lt, p_trialOdds_o, p_trialOdds_sets, p_trialOdds_seen, p_trialOdds_atUnit, p_trialOdds_early, p_trialOdds_result⟩ := id p_trialOdds
  have J_20 : ∀ (x1_20 : Int32) (y0_20 : Int32), (y0_20 = 0 ∨ y0_20 = 1) → D_X7_isParty_20 P M y0_20 = some r → Zw p l e { frames := 0, cells := 0, slots := 0, locals := 80 * (0) } s m args below meth c G b 2 (MQ below (zQ G b FQ) args s 0 0 (fun q : Nat => b ≤ q)) 0 0 20 [some (.ref (P)), some (.int x1_20)] [.int y0_20] (L, M, N) := by
    intro x1_20 y0_20 fb_y0_20 h
    unfold D_X7_isParty_20 at h
    refine a_zret X (by first | exact Or.inl rfl | exact Or.inr rfl | assumption) hr dX7_isParty_20 ⟨by decide, by decide⟩ ?_
    subst hF
    rw [← Option.some.inj h]
    exact ⟨rfl, rfl, (by first | exact Or.inl rfl | exact Or.inr rfl | assumption)⟩
  have J_19 : ∀ (x1_19 : Int32), D_X7_isParty_19 P M = some r → Zw p l e { frames := 0, cells := 0, slots := 0, locals := 80 * (0) } s m args below meth c G b 2 (MQ below (zQ G b FQ) args s 0 0 (fun q : Nat => b ≤ q)) 0 0 19 [some (.ref (P)), some (.int x1_19)] [] (L, M, N) := by
    intro x1_19 h
    unfold D_X7_isParty_19 at h
    refine a_iconst (v := 0) X dX7_isParty_19 (by decide) ?_
    exact Zw.to2 (J_20 _ _ (by first | exact Or.inl rfl | exact Or.inr rfl | assumption) h) rfl rfl rfl
  unfold D_X7_isParty at h
  refine a_iload_n X dX7_isParty_0 rfl ?_
  refine a_if_lt (tgt := 19) X dX7_isParty_1 (by decide) (fun h_1 => ?_) (fun h_1 => ?_)
  · replace h := (if_pos h_1).symm.trans h
    exact Zw.to2 (J_19 _ h) rfl rfl rfl
  · replace h := (if_neg h_1).symm.trans h
    refine a_iload_n X dX7_isParty_4 rfl ?_
    refine a_aload_n X dX7_isParty_5 rfl ?_
    refine a_getr X lf7_26 (by assumption) rfl (by omega) dX7_isParty_6 ?_
    refine a_geti X lf7_137 (by assumption) rfl dX7_isParty_9 ?_
    refine a_icmp_ge (tgt := 19) X dX7_isParty_12 (by decide) (fun h_12 => ?_) (fun h_12 => ?_)
    · replace h := (if_pos h_12).symm.trans h
      exact Zw.to2 (J_19 _ h) rfl rfl rfl
    · replace h := (if_neg h_12).symm.trans h
      refine a_iconst (v := 1) X dX7_isParty_15 (by decide) ?_
      refine a_goto (tgt := 20) X dX7_isParty_16 (by decide) ?_
      exact Zw.to2 (J_20 _ _ (by first | exact Or.inl rfl | exact Or.inr rfl | assumption) h) rfl rfl rfl
