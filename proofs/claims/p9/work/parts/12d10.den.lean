noncomputable def D_X7_apart_121 (P : Nat) (k79 : Int32 → Int32 → Int32 → zMt → zNt → Option (Int64 × zMt × zNt)) (x1_121 : Int32) (x2_121 : Int32) (x3_121 : Int32) (M_121 : zMt) (N_121 : zNt) : Option (Int64 × zMt × zNt) :=
  k79 x1_121 x2_121 (x3_121 + 1) M_121 N_121
noncomputable def D_X7_apart_79 (P : Nat) : Nat → Int32 → Int32 → Int32 → zMt → zNt → Option (Int64 × zMt × zNt)
  | 0, _, _, _, _, _ => none
  | n + 1, x1_79, x2_79, x3_79, M_79, N_79 =>
    if (M_79 (P + 17) 1) ≤ x3_79 then
      zB (D_X0_allOf (P + 187) N_79 x2_79) fun e_133 =>
      zB (D_X7_answerParts P e_133 M_79) fun e_136 =>
      some (e_136.1, e_136.2, N_79)
    else
      if (zrd 0 (M_79 (P + 21)) 10 x3_79) = x1_79 then
        D_X7_apart_121 P (D_X7_apart_79 P n) x1_79 (x2_79 ||| ((1 : Int32) <<< ((zrd 0 (M_79 (P + 170)) 10 x3_79) &&& 31))) x3_79 M_79 N_79
      else
        D_X7_apart_121 P (D_X7_apart_79 P n) x1_79 x2_79 x3_79 M_79 N_79
noncomputable def D_X7_apart (P : Nat) (v0 : Int32) (M : zMt) (N : zNt) : Option (Int64 × zMt × zNt) :=
  zB (D_X7_isParty P M v0) fun e_2 =>
  if e_2 = 0 then
    zB (D_X7_refuse P (2 : Int32) M) fun e_10 =>
    some ((Int32.toInt64 e_10.1), e_10.2, N)
  else
    zB (D_X4_take (P + 158) (P + 17) M) fun e_23 =>
    zB (D_X4_dissolve (P + 158) v0 e_23) fun e_31 =>
    zB (D_X2_gather (P + 166) (P + 158) e_31) fun e_42 =>
    if (e_42 (P + 166) 1) ≤ (7 : Int32) then
      zB (D_X0_reckon (P + 187) (P + 166) e_42 N) fun e_72 =>
      D_X7_apart_79 P zFu v0 (0 : Int32) (0 : Int32) e_72.1 e_72.2
    else
      zB (D_X7_refuse P (3 : Int32) e_42) fun e_59 =>
      some ((Int32.toInt64 e_59.1), e_59.2, N)
set_option maxRecDepth 100000 in
set_option maxHeartbeats 4000000 in
theorem t_X7_apart {l : Launch} {G : zG} {b : Nat} {L : List zC} {M : zMt} {N : zNt} {P : Nat} {v0 : Int32} (hP : LX7 L P) {r : Int64 × zMt × zNt} (h : D_X7_apart P v0 M N = some r) : zM l G b yX7_apart cX7_apart 4 (some .long) 14 0 0 [.ref P, .int v0] (L, M, N) (fun r2 z => r2 = some (.long r.1) ∧ z = (L, r.2.1, r.2.2)) := by
  refine zM.of miX7_apart (Nat.le_of_ble_eq_true rfl) ?_
  intro p e s m args below meth c X hr hname
  generalize hF : ((fun r2 z => r2 = some (.long r.1) ∧ z = (L, r.2.1, r.2.2)) : Option Value → zS → Prop) = FQ
  change Zw p l e { frames := 14, cells := 0, slots := 0, locals := 80 * (14) } s m args below meth c G b 4 (MQ below (zQ G b FQ) args s 0 0 (fun q : Nat => b ≤ q)) 0 0 0 [some (.ref P), some (.int v0), none, none] [] (L, M, N)
  obtain ⟨p_lt, p_o, p_tape, p_out, p_reader, p_list, p_past, p_pool, p_result, p_odds, p_paper, p_trial, p_trialPool, p_trialResult, p_trialOdds⟩ := id hP
  obtain ⟨p_reader_lt, p_reader_o, p_reader_draft, p_reader_text, p_reader_unitNames, p_reader_hunterNames, p_reader_partyNames, p_reader_asked⟩ := id p_reader
  obtain ⟨p_list_lt, p_list_o, p_list_quota, p_list_score, p_list_guest, p_list_party, p_list_wishCount, p_list_wishes, p_list_has⟩ := id p_list
  obtain ⟨p_past_lt, p_past_o, p_past_stood, p_past_stood0, p_past_stood1, p_past_stood2, p_past_stood3, p_past_stood4, p_past_stood5, p_past_stood6, p_past_stood7⟩ := id p_past
  obtain ⟨p_pool_lt, p_pool_o, p_pool_quota, p_pool_preferred, p_pool_forGuests, p_pool_applicantOf, p_pool_size, p_pool_guestCount, p_pool_score, p_pool_tickets, p_pool_bits, p_pool_party, p_pool_wishCount, p_pool_wishes⟩ := id p_pool
  obtain ⟨p_result_lt, p_result_o, p_result_line, p_result_unitOf, p_result_roundOf, p_result_leftTags, p_result_leftGuests, p_result_leftPreferred, p_result_ranked⟩ := id p_result
  obtain ⟨p_odds_lt, p_odds_o, p_odds_sets, p_odds_seen, p_odds_atUnit, p_odds_early, p_odds_result⟩ := id p_odds
  obtain ⟨p_paper_lt, p_paper_o, p_paper_times, p_paper_firstWish, p_paper_dry, p_paper_list, p_paper_pool, p_paper_result⟩ := id p_paper
  obtain ⟨p_trial_lt, p_trial_o, p_trial_quota, p_trial_score, p_trial_guest, p_trial_party, p_trial_wishCount, p_trial_wishes, p_trial_has⟩ := id p_trial
  obtain ⟨p_trialPool_lt, p_trialPool_o, p_trialPool_quota, p_trialPool_preferred, p_trialPool_forGuests, p_trialPool_applicantOf, p_trialPool_size, p_trialPool_guestCount, p_trialPool_score, p_trialPool_tickets, p_trialPool_bits, p_trialPool_party, p_trialPool_wishCount, p_trialPool_wishes⟩ := id p_trialPool
  obtain ⟨p_trialResult_lt, p_trialResult_o, p_trialResult_line, p_trialResult_unitOf, p_trialResult_roundOf, p_trialResult_leftTags, p_trialResult_leftGuests, p_trialResult_leftPreferred, p_trialResult_ranked⟩ := id p_trialResult
  obtain ⟨p_trialOdds_lt, p_trialOdds_o, p_trialOdds_sets, p_trialOdds_seen, p_trialOdds_atUnit, p_trialOdds_early, p_trialOdds_result⟩ := id p_trialOdds
  have L_79 : ∀ u : Nat, ∀ (x1_79 : Int32) (x2_79 : Int32) (x3_79 : Int32) (M_79 : zMt) (N_79 : zNt), D_X7_apart_79 P u x1_79 x2_79 x3_79 M_79 N_79 = some r → Zw p l e { frames := 14, cells := 0, slots := 0, locals := 80 * (14) } s m args below meth c G b 4 (MQ below (zQ G b FQ) args s 0 0 (fun q : Nat => b ≤ q)) 0 0 79 [some (.ref (P)), some (.int x1_79), some (.int x2_79), some (.int x3_79)] [] (L, M_79, N_79) := by
    intro u
    induction u with
    | zero => intro x1_79 x2_79 x3_79 M_79 N_79 h; cases (show none = some r from h)
    | succ u_79 ih_79 =>
      have J_121 : ∀ (x1_121 : Int32) (x2_121 : Int32) (x3_121 : Int32) (M_121 : zMt) (N_121 : zNt), D_X7_apart_121 P (D_X7_apart_79 P u_79) x1_121 x2_121 x3_121 M_121 N_121 = some r → Zw p l e { frames := 14, cells := 0, slots := 0, locals := 80 * (14) } s m args below meth c G b 4 (MQ below (zQ G b FQ) args s 0 0 (fun q : Nat => b ≤ q)) 0 0 121 [some (.ref (P)), some (.int x1_121), some (.int x2_121), some (.int x3_121)] [] (L, M_121, N_121) := by
        intro x1_121 x2_121 x3_121 M_121 N_121 h
        unfold D_X7_apart_121 at h
        refine a_iinc (v := x3_121 + 1) X dX7_apart_121 (by decide) rfl zi_1 ?_
        refine a_goto (tgt := 79) X dX7_apart_124 (by decide) ?_
        exact Zw.to2 (ih_79 _ _ _ _ _ h) rfl rfl rfl
      intro x1_79 x2_79 x3_79 M_79 N_79 h
      rw [D_X7_apart_79] at h
      refine a_iload_n X dX7_apart_79 rfl ?_
      refine a_aload_n X dX7_apart_80 rfl ?_
      refine a_getr X lf7_26 (by assumption) rfl (by omega) dX7_apart_81 ?_
      refine a_geti X lf7_119 (by assumption) rfl dX7_apart_84 ?_
      refine a_icmp_ge (tgt := 127) X dX7_apart_87 (by decide) (fun h_87 => ?_) (fun h_87 => ?_)
      · replace h := (if_pos h_87).symm.trans h
        refine a_aload_n X dX7_apart_127 rfl ?_
        refine a_aload_n X dX7_apart_128 rfl ?_
        refine a_getr X lf7_74 (by assumption) rfl (by omega) dX7_apart_129 ?_
        refine a_iload_n X dX7_apart_132 rfl ?_
        obtain ⟨e_133, f_133, h⟩ := zBx h
        refine a_callVv X dX7_apart_133 miX0_allOf lm7_319 (t_X0_allOf (by assumption) f_133) (by assumption) rfl rfl rfl (Nat.le_of_ble_eq_true rfl) ⟨by decide, by decide, by decide, by decide⟩ ?_
        obtain ⟨e_136, f_136, h⟩ := zBx h
        refine a_callVv X dX7_apart_136 miX7_answerParts lm7_303 (t_X7_answerParts (by assumption) f_136) (by assumption) rfl rfl rfl (Nat.le_of_ble_eq_true rfl) ⟨by decide, by decide, by decide, by decide⟩ ?_
        refine a_lret X hr dX7_apart_139 ⟨by decide, by decide⟩ ?_
        subst hF
        rw [← Option.some.inj h]
        exact ⟨rfl, rfl⟩
      · replace h := (if_neg h_87).symm.trans h
        refine a_aload_n X dX7_apart_90 rfl ?_
        refine a_getr X lf7_26 (by assumption) rfl (by omega) dX7_apart_91 ?_
        refine a_getr X lf7_179 (by assumption) rfl (by omega) dX7_apart_94 ?_
        refine a_iload_n X dX7_apart_97 rfl ?_
        refine a_callSv X dX7_apart_98 miX7_cell lm7_175 (c_cell (by assumption) (by first | decide | assumption)) rfl rfl (Nat.le_of_ble_eq_true rfl) ⟨by decide, by decide, by decide, by decide⟩ ?_
        refine a_iload_n X dX7_apart_101 rfl ?_
        refine a_icmp_ne (tgt := 121) X dX7_apart_102 (by decide) (fun h_102 => ?_) (fun h_102 => ?_)
        · replace h := (if_neg h_102).symm.trans h
          exact Zw.to2 (J_121 _ _ _ _ _ h) rfl rfl rfl
        · replace h := (if_pos h_102).symm.trans h
          refine a_iload_n X dX7_apart_105 rfl ?_
          refine a_iconst (v := 1) X dX7_apart_106 (by decide) ?_
          refine a_aload_n X dX7_apart_107 rfl ?_
          refine a_getr X lf7_68 (by assumption) rfl (by omega) dX7_apart_108 ?_
          refine a_getr X lf7_182 (by assumption) rfl (by omega) dX7_apart_111 ?_
          refine a_iload_n X dX7_apart_114 rfl ?_
          refine a_callSv X dX7_apart_115 miX7_cell lm7_175 (c_cell (by assumption) (by first | decide | assumption)) rfl rfl (Nat.le_of_ble_eq_true rfl) ⟨by decide, by decide, by decide, by decide⟩ ?_
          refine a_ishl X dX7_apart_118 ?_
          refine a_ior X dX7_apart_119 ?_
          refine a_istore_n X dX7_apart_120 (by decide) ?_
          exact Zw.to2 (J_121 _ _ _ _ _ h) rfl rfl rfl
  have H_79 : ∀ (x1_79 : Int32) (x2_79 : Int32) (x3_79 : Int32) (M_79 : zMt) (N_79 : zNt), D_X7_apart_79 P zFu x1_79 x2_79 x3_79 M_79 N_79 = some r → Zw p l e { frames := 14, cells := 0, slots := 0, locals := 80 * (14) } s m args below meth c G b 4 (MQ below (zQ G b FQ) args s 0 0 (fun q : Nat => b ≤ q)) 0 0 79 [some (.ref (P)), some (.int x1_79), some (.int x2_79), some (.int x3_79)] [] (L, M_79, N_79) := L_79 zFu
  unfold D_X7_apart at h
  refine a_aload_n X dX7_apart_0 rfl ?_
  refine a_iload_n X dX7_apart_1 rfl ?_
  obtain ⟨e_2, f_2, h⟩ := zBx h
  refine a_callVx X dX7_apart_2 miX7_isParty lm7_362 (t_X7_isParty (by assumption) f_2) (by assumption) rfl rfl rfl (Nat.le_of_ble_eq_true rfl) ⟨by decide, by decide, by decide, by decide⟩ (fun r_2 S_2 q_2 => ?_)
  obtain ⟨rfl, rfl, b_2⟩ := q_2
  refine a_if_ne (tgt := 15) X dX7_apart_5 (by decide) (fun h_5 => ?_) (fun h_5 => ?_)
  · replace h := (if_neg h_5).symm.trans h
    refine a_aload_n X dX7_apart_15 rfl ?_
    refine a_getr X lf7_65 (by assumption) rfl (by omega) dX7_apart_16 ?_
    refine a_aload_n X dX7_apart_19 rfl ?_
    refine a_getr X lf7_26 (by assumption) rfl (by omega) dX7_apart_20 ?_
    obtain ⟨e_23, f_23, h⟩ := zBx h
    refine a_callVu X dX7_apart_23 miX4_take lm7_113 (t_X4_take (by assumption) (by assumption) (by omega) f_23) (by assumption) rfl rfl rfl (Nat.le_of_ble_eq_true rfl) ⟨by decide, by decide, by decide, by decide⟩ ?_
    refine a_aload_n X dX7_apart_26 rfl ?_
    refine a_getr X lf7_65 (by assumption) rfl (by omega) dX7_apart_27 ?_
    refine a_iload_n X dX7_apart_30 rfl ?_
    obtain ⟨e_31, f_31, h⟩ := zBx h
    refine a_callVu X dX7_apart_31 miX4_dissolve lm7_365 (t_X4_dissolve (by assumption) f_31) (by assumption) rfl rfl rfl (Nat.le_of_ble_eq_true rfl) ⟨by decide, by decide, by decide, by decide⟩ ?_
    refine a_aload_n X dX7_apart_34 rfl ?_
    refine a_getr X lf7_68 (by assumption) rfl (by omega) dX7_apart_35 ?_
    refine a_aload_n X dX7_apart_38 rfl ?_
    refine a_getr X lf7_65 (by assumption) rfl (by omega) dX7_apart_39 ?_
    obtain ⟨e_42, f_42, h⟩ := zBx h
    refine a_callVu X dX7_apart_42 miX2_gather lm7_80 (t_X2_gather (by assumption) (by assumption) f_42) (by assumption) rfl rfl rfl (Nat.le_of_ble_eq_true rfl) ⟨by decide, by decide, by decide, by decide⟩ ?_
    refine a_aload_n X dX7_apart_45 rfl ?_
    refine a_getr X lf7_68 (by assumption) rfl (by omega) dX7_apart_46 ?_
    refine a_geti X lf7_140 (by assumption) rfl dX7_apart_49 ?_
    refine a_bipush (v := 7) X dX7_apart_52 (by decide) ?_
    refine a_icmp_le (tgt := 64) X dX7_apart_54 (by decide) (fun h_54 => ?_) (fun h_54 => ?_)
    · replace h := (if_pos h_54).symm.trans h
      refine a_aload_n X dX7_apart_64 rfl ?_
      refine a_getr X lf7_74 (by assumption) rfl (by omega) dX7_apart_65 ?_
      refine a_aload_n X dX7_apart_68 rfl ?_
      refine a_getr X lf7_68 (by assumption) rfl (by omega) dX7_apart_69 ?_
      obtain ⟨e_72, f_72, h⟩ := zBx h
      refine a_callVu X dX7_apart_72 miX0_reckon lm7_339 (t_X0_reckon (by assumption) (by assumption) f_72) (by assumption) rfl rfl rfl (Nat.le_of_ble_eq_true rfl) ⟨by decide, by decide, by decide, by decide⟩ ?_
      refine a_iconst (v := 0) X dX7_apart_75 (by decide) ?_
      refine a_istore_n X dX7_apart_76 (by decide) ?_
      refine a_iconst (v := 0) X dX7_apart_77 (by decide) ?_
      refine a_istore_n X dX7_apart_78 (by decide) ?_
      exact Zw.to2 (H_79 _ _ _ _ _ h) rfl rfl rfl
    · replace h := (if_neg h_54).symm.trans h
      refine a_aload_n X dX7_apart_57 rfl ?_
      refine a_iconst (v := 3) X dX7_apart_58 (by decide) ?_
      obtain ⟨e_59, f_59, h⟩ := zBx h
      refine a_callVv X dX7_apart_59 miX7_refuse lm7_102 (t_X7_refuse (by assumption) f_59) (by assumption) rfl rfl rfl (Nat.le_of_ble_eq_true rfl) ⟨by decide, by decide, by decide, by decide⟩ ?_
      refine a_i2l X dX7_apart_62 ?_
      refine a_lret X hr dX7_apart_63 ⟨by decide, by decide⟩ ?_
      subst hF
      rw [← Option.some.inj h]
      exact ⟨rfl, rfl⟩
  · replace h := (if_pos h_5).symm.trans h
    refine a_aload_n X dX7_apart_8 rfl ?_
    refine a_iconst (v := 2) X dX7_apart_9 (by decide) ?_
    obtain ⟨e_10, f_10, h⟩ := zBx h
    refine a_callVv X dX7_apart_10 miX7_refuse lm7_102 (t_X7_refuse (by assumption) f_10) (by assumption) rfl rfl rfl (Nat.le_of_ble_eq_true rfl) ⟨by decide, by decide, by decide, by decide⟩ ?_
    refine a_i2l X dX7_apart_13 ?_
    refine a_lret X hr dX7_apart_14 ⟨by decide, by decide⟩ ?_
    subst hF
    rw [← Option.some.inj h]
    exact ⟨rfl, rfl⟩
noncomputable def D_X7_likes_112 (P : Nat) (k52 : Int32 → Int32 → Int64 → Int32 → zMt → zNt → Option (Int32 × zMt × zNt)) (x1_112 : Int32) (x2_112 : Int32) (x3_112 : Int64) (x5_112 : Int32) (M_112 : zMt) (N_112 : zNt) : Option (Int32 × zMt × zNt) :=
  k52 x1_112 x2_112 x3_112 (x5_112 + 1) M_112 N_112
noncomputable def D_X7_likes_52 (P : Nat) : Nat → Int32 → Int32 → Int64 → Int32 → zMt → zNt → Option (Int32 × zMt × zNt)
  | 0, _, _, _, _, _, _ => none
  | n + 1, x1_52, x2_52, x3_52, x5_52, M_52, N_52 =>
    if (2 : Int32) < x5_52 then
      zB (D_X7_answer P x2_52 M_52) fun e_120 =>
      some (e_120.1, e_120.2, N_52)
    else
      zLt (zu M_52 (P + 158) 3 x5_52) fun M_64 =>
      zB (D_X2_gather (P + 166) (P + 158) M_64) fun e_75 =>
      zB (D_X0_reckon (P + 187) (P + 166) e_75 N_52) fun e_86 =>
      zB (D_X0_anyUnit (P + 187) e_86.2 x1_52) fun e_94 =>
      if (lg_cmp e_94 x3_52) ≤ 0 then
        D_X7_likes_112 P (D_X7_likes_52 P n) x1_52 x2_52 x3_52 x5_52 e_86.1 e_86.2
      else
        D_X7_likes_112 P (D_X7_likes_52 P n) x1_52 x5_52 e_94 x5_52 e_86.1 e_86.2
noncomputable def D_X7_likes (P : Nat) (v0 : Int32) (M : zMt) (N : zNt) : Option (Int32 × zMt × zNt) :=
  zB (D_X7_isApplicant P M v0) fun e_2 =>
  if e_2 = 0 then
    zB (D_X7_refuse P (2 : Int32) M) fun e_10 =>
    some (e_10.1, e_10.2, N)
  else
    if (M (P + 91) 1) ≤ (7 : Int32) then
      zB (D_X4_take (P + 158) (P + 17) M) fun e_46 =>
      D_X7_likes_52 P zFu v0 (0 : Int32) (-1 : Int64) (0 : Int32) e_46 N
    else
      zB (D_X7_refuse P (3 : Int32) M) fun e_28 =>
      some (e_28.1, e_28.2, N)
set_option maxRecDepth 100000 in
set_option maxHeartbeats 4000000 in
theorem t_X7_likes {l : Launch} {G : zG} {b : Nat} {L : List zC} {M : zMt} {N : zNt} {P : Nat} {v0 : Int32} (hP : LX7 L P) {r : Int32 × zMt × zNt} (h : D_X7_likes P v0 M N = some r) : zM l G b yX7_likes cX7_likes 8 (some .int) 14 0 0 [.ref P, .int v0] (L, M, N) (fun r2 z => r2 = some (.int r.1) ∧ z = (L, r.2.1, r.2.2)) := by
  refine zM.of miX7_likes (Nat.le_of_ble_eq_true rfl) ?_
  intro p e s m args below meth c X hr hname
  generalize hF : ((fun r2 z => r2 = some (.int r.1) ∧ z = (L, r.2.1, r.2.2)) : Option Value → zS → Prop) = FQ
  change Zw p l e { frames := 14, cells := 0, slots := 0, locals := 80 * (14) } s m args below meth c G b 8 (MQ below (zQ G b FQ) args s 0 0 (fun q : Nat => b ≤ q)) 0 0 0 [some (.ref P), some (.int v0), none, none, none, none, none, none] [] (L, M, N)
  obtain ⟨p_lt, p_o, p_tape, p_out, p_reader, p_list, p_past, p_pool, p_result, p_odds, p_paper, p_trial, p_trialPool, p_trialResult, p_trialOdds⟩ := id hP
  obtain ⟨p_reader_lt, p_reader_o, p_reader_draft, p_reader_text, p_reader_unitNames, p_reader_hunterNames, p_reader_partyNames, p_reader_asked⟩ := id p_reader
  obtain ⟨p_list_lt, p_list_o, p_list_quota, p_list_score, p_list_guest, p_list_party, p_list_wishCount, p_list_wishes, p_list_has⟩ := id p_list
  obtain ⟨p_past_lt, p_past_o, p_past_stood, p_past_stood0, p_past_stood1, p_past_stood2, p_past_stood3, p_past_stood4, p_past_stood5, p_past_stood6, p_past_stood7⟩ := id p_past
  obtain ⟨p_pool_lt, p_pool_o, p_pool_quota, p_pool_preferred, p_pool_forGuests, p_pool_applicantOf, p_pool_size, p_pool_guestCount, p_pool_score, p_pool_tickets, p_pool_bits, p_pool_party, p_pool_wishCount, p_pool_wishes⟩ := id p_pool
  obtain ⟨p_result_lt, p_result_o, p_result_line, p_result_unitOf, p_result_roundOf, p_result_leftTags, p_result_leftGuests, p_result_leftPreferred, p_result_ranked⟩ := id p_result
  obtain ⟨p_odds_lt, p_odds_o, p_odds_sets, p_odds_seen, p_odds_atUnit, p_odds_early, p_odds_result⟩ := id p_odds
  obtain ⟨p_paper_lt, p_paper_o, p_paper_times, p_paper_firstWish, p_paper_dry, p_paper_list, p_paper_pool, p_paper_result⟩ := id p_paper
  obtain ⟨p_trial_lt, p_trial_o, p_trial_quota, p_trial_score, p_trial_guest, p_trial_party, p_trial_wishCount, p_trial_wishes, p_trial_has⟩ := id p_trial
  obtain ⟨p_trialPool_lt, p_trialPool_o, p_trialPool_quota, p_trialPool_preferred, p_trialPool_forGuests, p_trialPool_applicantOf, p_trialPool_size, p_trialPool_guestCount, p_trialPool_score, p_trialPool_tickets, p_trialPool_bits, p_trialPool_party, p_trialPool_wishCount, p_trialPool_wishes⟩ := id p_trialPool
  obtain ⟨p_trialResult_lt, p_trialResult_o, p_trialResult_line, p_trialResult_unitOf, p_trialResult_roundOf, p_trialResult_leftTags, p_trialResult_leftGuests, p_trialResult_leftPreferred, p_trialResult_ranked⟩ := id p_trialResult
  obtain ⟨p_trialOdds_lt, p_trialOdds_o, p_trialOdds_sets, p_trialOdds_seen, p_trialOdds_atUnit, p_trialOdds_early, p_trialOdds_result⟩ := id p_trialOdds
  have L_52 : ∀ u : Nat, ∀ (x1_52 : Int32) (x2_52 : Int32) (x3_52 : Int64) (x5_52 : Int32) (x6_52 : Option Value) (x7_52 : Option Value) (M_52 : zMt) (N_52 : zNt), D_X7_likes_52 P u x1_52 x2_52 x3_52 x5_52 M_52 N_52 = some r → Zw p l e { frames := 14, cells := 0, slots := 0, locals := 80 * (14) } s m args below meth c G b 8 (MQ below (zQ G b FQ) args s 0 0 (fun q : Nat => b ≤ q)) 0 0 52 [some (.ref (P)), some (.int x1_52), some (.int x2_52), some (.long x3_52), none, some (.int x5_52), x6_52, x7_52] [] (L, M_52, N_52) := by
    intro u
    induction u with
    | zero => intro x1_52 x2_52 x3_52 x5_52 x6_52 x7_52 M_52 N_52 h; cases (show none = some r from h)
    | succ u_52 ih_52 =>
      have J_112 : ∀ (x1_112 : Int32) (x2_112 : Int32) (x3_112 : Int64) (x5_112 : Int32) (x6_112 : Int64) (M_112 : zMt) (N_112 : zNt), D_X7_likes_112 P (D_X7_likes_52 P u_52) x1_112 x2_112 x3_112 x5_112 M_112 N_112 = some r → Zw p l e { frames := 14, cells := 0, slots := 0, locals := 80 * (14) } s m args below meth c G b 8 (MQ below (zQ G b FQ) args s 0 0 (fun q : Nat => b ≤ q)) 0 0 112 [some (.ref (P)), some (.int x1_112), some (.int x2_112), some (.long x3_112), none, some (.int x5_112), some (.long x6_112), none] [] (L, M_112, N_112) := by
        intro x1_112 x2_112 x3_112 x5_112 x6_112 M_112 N_112 h
        unfold D_X7_likes_112 at h
        refine a_iinc (v := x5_112 + 1) X dX7_likes_112 (by decide) rfl zi_1 ?_
        refine a_goto (tgt := 52) X dX7_likes_115 (by decide) ?_
        exact Zw.to2 (ih_52 _ _ _ _ _ _ _ _ h) rfl rfl rfl
      intro x1_52 x2_52 x3_52 x5_52 x6_52 x7_52 M_52 N_52 h
      rw [D_X7_likes_52] at h
      refine a_iload X dX7_likes_52 rfl ?_
      refine a_iconst (v := 2) X dX7_likes_54 (by decide) ?_
      refine a_icmp_gt (tgt := 118) X dX7_likes_55 (by decide) (fun h_55 => ?_) (fun h_55 => ?_)
      · replace h := (if_pos h_55).symm.trans h
        refine a_aload_n X dX7_likes_118 rfl ?_
        refine a_iload_n X dX7_likes_119 rfl ?_
        obtain ⟨e_120, f_120, h⟩ := zBx h
        refine a_callVv X dX7_likes_120 miX7_answer lm7_134 (t_X7_answer (by assumption) f_120) (by assumption) rfl rfl rfl (Nat.le_of_ble_eq_true rfl) ⟨by decide, by decide, by decide, by decide⟩ ?_
        refine a_iret X hr dX7_likes_123 ⟨by decide, by decide⟩ ?_
        subst hF
        rw [← Option.some.inj h]
        exact ⟨rfl, rfl⟩
      · replace h := (if_neg h_55).symm.trans h
        refine a_aload_n X dX7_likes_58 rfl ?_
        refine a_getr X lf7_65 (by assumption) rfl (by omega) dX7_likes_59 ?_
        refine a_iload X dX7_likes_62 rfl ?_
        obtain ⟨M_64, f_64, h⟩ := zLtx h
        refine d_puti X lf7_143 (by assumption) rfl dX7_likes_64 f_64 ?_
        refine a_aload_n X dX7_likes_67 rfl ?_
        refine a_getr X lf7_68 (by assumption) rfl (by omega) dX7_likes_68 ?_
        refine a_aload_n X dX7_likes_71 rfl ?_
        refine a_getr X lf7_65 (by assumption) rfl (by omega) dX7_likes_72 ?_
        obtain ⟨e_75, f_75, h⟩ := zBx h
        refine a_callVu X dX7_likes_75 miX2_gather lm7_80 (t_X2_gather (by assumption) (by assumption) f_75) (by assumption) rfl rfl rfl (Nat.le_of_ble_eq_true rfl) ⟨by decide, by decide, by decide, by decide⟩ ?_
        refine a_aload_n X dX7_likes_78 rfl ?_
        refine a_getr X lf7_74 (by assumption) rfl (by omega) dX7_likes_79 ?_
        refine a_aload_n X dX7_likes_82 rfl ?_
        refine a_getr X lf7_68 (by assumption) rfl (by omega) dX7_likes_83 ?_
        obtain ⟨e_86, f_86, h⟩ := zBx h
        refine a_callVu X dX7_likes_86 miX0_reckon lm7_339 (t_X0_reckon (by assumption) (by assumption) f_86) (by assumption) rfl rfl rfl (Nat.le_of_ble_eq_true rfl) ⟨by decide, by decide, by decide, by decide⟩ ?_
        refine a_aload_n X dX7_likes_89 rfl ?_
        refine a_getr X lf7_74 (by assumption) rfl (by omega) dX7_likes_90 ?_
        refine a_iload_n X dX7_likes_93 rfl ?_
        obtain ⟨e_94, f_94, h⟩ := zBx h
        refine a_callVv X dX7_likes_94 miX0_anyUnit lm7_299 (t_X0_anyUnit (by assumption) f_94) (by assumption) rfl rfl rfl (Nat.le_of_ble_eq_true rfl) ⟨by decide, by decide, by decide, by decide⟩ ?_
        refine a_lstore X dX7_likes_97 (by decide) ?_
        refine a_lload X dX7_likes_99 rfl ?_
        refine a_lload_n X dX7_likes_101 rfl ?_
        refine a_lcmp X dX7_likes_102 ?_
        refine a_if_le (tgt := 112) X dX7_likes_103 (by decide) (fun h_103 => ?_) (fun h_103 => ?_)
        · replace h := (if_pos h_103).symm.trans h
          exact Zw.to2 (J_112 _ _ _ _ _ _ _ h) rfl rfl rfl
        · replace h := (if_neg h_103).symm.trans h
          refine a_lload X dX7_likes_106 rfl ?_
          refine a_lstore_n X dX7_likes_108 (by decide) ?_
          refine a_iload X dX7_likes_109 rfl ?_
          refine a_istore_n X dX7_likes_111 (by decide) ?_
          exact Zw.to2 (J_112 _ _ _ _ _ _ _ h) rfl rfl rfl
  have H_52 : ∀ (x1_52 : Int32) (x2_52 : Int32) (x3_52 : Int64) (x5_52 : Int32) (x6_52 : Option Value) (x7_52 : Option Value) (M_52 : zMt) (N_52 : zNt), D_X7_likes_52 P zFu x1_52 x2_52 x3_52 x5_52 M_52 N_52 = some r → Zw p l e { frames := 14, cells := 0, slots := 0, locals := 80 * (14) } s m args below meth c G b 8 (MQ below (zQ G b FQ) args s 0 0 (fun q : Nat => b ≤ q)) 0 0 52 [some (.ref (P)), some (.int x1_52), some (.int x2_52), some (.long x3_52), none, some (.int x5_52), x6_52, x7_52] [] (L, M_52, N_52) := L_52 zFu
  unfold D_X7_likes at h
  refine a_aload_n X dX7_likes_0 rfl ?_
  refine a_iload_n X dX7_likes_1 rfl ?_
  obtain ⟨e_2, f_2, h⟩ := zBx h
  refine a_callVx X dX7_likes_2 miX7_isApplicant lm7_206 (t_X7_isApplicant (by assumption) f_2) (by assumption) rfl rfl rfl (Nat.le_of_ble_eq_true rfl) ⟨by decide, by decide, by decide, by decide⟩ (fun r_2 S_2 q_2 => ?_)
  obtain ⟨rfl, rfl, b_2⟩ := q_2
  refine a_if_ne (tgt := 14) X dX7_likes_5 (by decide) (fun h_5 => ?_) (fun h_5 => ?_)
  · replace h := (if_neg h_5).symm.trans h
    refine a_aload_n X dX7_likes_14 rfl ?_
    refine a_getr X lf7_40 (by assumption) rfl (by omega) dX7_likes_15 ?_
    refine a_geti X lf7_140 (by assumption) rfl dX7_likes_18 ?_
    refine a_bipush (v := 7) X dX7_likes_21 (by decide) ?_
    refine a_icmp_le (tgt := 32) X dX7_likes_23 (by decide) (fun h_23 => ?_) (fun h_23 => ?_)
    · replace h := (if_pos h_23).symm.trans h
      refine a_iconst (v := 0) X dX7_likes_32 (by decide) ?_
      refine a_istore_n X dX7_likes_33 (by decide) ?_
      refine a_ldc2 X dX7_likes_34 lk7_347 ?_
      refine a_lstore_n X dX7_likes_37 (by decide) ?_
      refine a_aload_n X dX7_likes_38 rfl ?_
      refine a_getr X lf7_65 (by assumption) rfl (by omega) dX7_likes_39 ?_
      refine a_aload_n X dX7_likes_42 rfl ?_
      refine a_getr X lf7_26 (by assumption) rfl (by omega) dX7_likes_43 ?_
      obtain ⟨e_46, f_46, h⟩ := zBx h
      refine a_callVu X dX7_likes_46 miX4_take lm7_113 (t_X4_take (by assumption) (by assumption) (by omega) f_46) (by assumption) rfl rfl rfl (Nat.le_of_ble_eq_true rfl) ⟨by decide, by decide, by decide, by decide⟩ ?_
      refine a_iconst (v := 0) X dX7_likes_49 (by decide) ?_
      refine a_istore X dX7_likes_50 (by decide) ?_
      exact Zw.to2 (H_52 _ _ _ _ _ _ _ _ h) rfl rfl rfl
    · replace h := (if_neg h_23).symm.trans h
      refine a_aload_n X dX7_likes_26 rfl ?_
      refine a_iconst (v := 3) X dX7_likes_27 (by decide) ?_
      obtain ⟨e_28, f_28, h⟩ := zBx h
      refine a_callVv X dX7_likes_28 miX7_refuse lm7_102 (t_X7_refuse (by assumption) f_28) (by assumption) rfl rfl rfl (Nat.le_of_ble_eq_true rfl) ⟨by decide, by decide, by decide, by decide⟩ ?_
      refine a_iret X hr dX7_likes_31 ⟨by decide, by decide⟩ ?_
      subst hF
      rw [← Option.some.inj h]
      exact ⟨rfl, rfl⟩
  · replace h := (if_pos h_5).symm.trans h
    refine a_aload_n X dX7_likes_8 rfl ?_
    refine a_iconst (v := 2) X dX7_likes_9 (by decide) ?_
    obtain ⟨e_10, f_10, h⟩ := zBx h
    refine a_callVv X dX7_likes_10 miX7_refuse lm7_102 (t_X7_refuse (by assumption) f_10) (by assumption) rfl rfl rfl (Nat.le_of_ble_eq_true rfl) ⟨by decide, by decide, by decide, by decide⟩ ?_
    refine a_iret X hr dX7_likes_13 ⟨by decide, by decide⟩ ?_
    subst hF
    rw [← Option.some.inj h]
    exact ⟨rfl, rfl⟩
noncomputable def D_X7_areYears_32  (y0_32 : Int32) : Option (Int32) :=
  some (y0_32)
noncomputable def D_X7_areYears_31   : Option (Int32) :=
  D_X7_areYears_32 (0 : Int32)
noncomputable def D_X7_areYears  (v0 : Int32) (v1 : Int32) : Option (Int32) :=
  zB (D_X7_isSeed v0) fun e_1 =>
  if e_1 = 0 then
    D_X7_areYears_31
  else
    if v1 < (1 : Int32) then
      D_X7_areYears_31
    else
      if (30 : Int32) < v1 then
        D_X7_areYears_31
      else
        if ((999999999 : Int32) - v1) < v0 then
          D_X7_areYears_31
        else
          D_X7_areYears_32 (1 : Int32)
set_option maxRecDepth 100000 in
set_option maxHeartbeats 4000000 in
theorem t_X7_areYears {l : Launch} {G : zG} {b : Nat} {L : List zC} {M : zMt} {N : zNt}  {v0 : Int32} {v1 : Int32}  {r : Int32} (h : D_X7_areYears v0 v1 = some r) : zM l G b yX7_areYears cX7_areYears 2 (some .boolean) 1 0 0 [.int v0, .int v1] (L, M, N) (fun r2 z => r2 = some (.int r) ∧ z = (L, M, N) ∧ (r = 0 ∨ r = 1)) := by
  refine zM.of miX7_areYears (Nat.le_of_ble_eq_true rfl) ?_
  intro p e s m args below meth c X hr hname
  generalize hF : ((fun r2 z => r2 = some (.int r) ∧ z = (L, M, N) ∧ (r = 0 ∨ r = 1)) : Option Value → zS → Prop) = FQ
  change Zw p l e { frames := 1, cells := 0, slots := 0, locals := 80 * (1) } s m args below meth c G b 2 (MQ below (zQ G b FQ) args s 0 0 (fun q : Nat => b ≤ q)) 0 0 0 [some (.int v0), some (.int v1)] [] (L, M, N)
  have J_32 : ∀ (x0_32 : Int32) (x1_32 : Int32) (y0_32 : Int32), (y0_32 = 0 ∨ y0_32 = 1) → D_X7_areYears_32 y0_32 = some r → Zw p l e { frames := 1, cells := 0, slots := 0, locals := 80 * (1) } s m args below meth c G b 2 (MQ below (zQ G b FQ) args s 0 0 (fun q : Nat => b ≤ q)) 0 0 32 [some (.int x0_32), some (.int x1_32)] [.int y0_32] (L, M, N) := by
    intro x0_32 x1_32 y0_32 fb_y0_32 h
    unfold D_X7_areYears_32 at h
    refine a_zret X (by first | exact Or.inl rfl | exact Or.inr rfl | assumption) hr dX7_areYears_32 ⟨by decide, by decide⟩ ?_
    subst hF
    rw [← Option.some.inj h]
    exact ⟨rfl, rfl, (by first | exact Or.inl rfl | exact Or.inr rfl | assumption)⟩
  have J_31 : ∀ (x0_31 : Int32) (x1_31 : Int32), D_X7_areYears_31 = some r → Zw p l e { frames := 1, cells := 0, slots := 0, locals := 80 * (1) } s m args below meth c G b 2 (MQ below (zQ G b FQ) args s 0 0 (fun q : Nat => b ≤ q)) 0 0 31 [some (.int x0_31), some (.int x1_31)] [] (L, M, N) := by
    intro x0_31 x1_31 h
    unfold D_X7_areYears_31 at h
    refine a_iconst (v := 0) X dX7_areYears_31 (by decide) ?_
    exact Zw.to2 (J_32 _ _ _ (by first | exact Or.inl rfl | exact Or.inr rfl | assumption) h) rfl rfl rfl
  unfold D_X7_areYears at h
  refine a_iload_n X dX7_areYears_0 rfl ?_
  obtain ⟨e_1, f_1, h⟩ := zBx h
  refine a_callSx X dX7_areYears_1 miX7_isSeed lm7_237 (t_X7_isSeed f_1) rfl rfl (Nat.le_of_ble_eq_true rfl) ⟨by decide, by decide, by decide, by decide⟩ (fun r_1 S_1 q_1 => ?_)
  obtain ⟨rfl, rfl, b_1⟩ := q_1
  refine a_if_eq (tgt := 31) X dX7_areYears_4 (by decide) (fun h_4 => ?_) (fun h_4 => ?_)
  · replace h := (if_pos h_4).symm.trans h
    exact Zw.to2 (J_31 _ _ h) rfl rfl rfl
  · replace h := (if_neg h_4).symm.trans h
    refine a_iload_n X dX7_areYears_7 rfl ?_
    refine a_iconst (v := 1) X dX7_areYears_8 (by decide) ?_
    refine a_icmp_lt (tgt := 31) X dX7_areYears_9 (by decide) (fun h_9 => ?_) (fun h_9 => ?_)
    · replace h := (if_pos h_9).symm.trans h
      exact Zw.to2 (J_31 _ _ h) rfl rfl rfl
    · replace h := (if_neg h_9).symm.trans h
      refine a_iload_n X dX7_areYears_12 rfl ?_
      refine a_bipush (v := 30) X dX7_areYears_13 (by decide) ?_
      refine a_icmp_gt (tgt := 31) X dX7_areYears_15 (by decide) (fun h_15 => ?_) (fun h_15 => ?_)
      · replace h := (if_pos h_15).symm.trans h
        exact Zw.to2 (J_31 _ _ h) rfl rfl rfl
      · replace h := (if_neg h_15).symm.trans h
        refine a_iload_n X dX7_areYears_18 rfl ?_
        refine a_ldcw X dX7_areYears_19 lk7_395 ?_
        refine a_iload_n X dX7_areYears_22 rfl ?_
        refine a_isub X dX7_areYears_23 ?_
        refine a_icmp_gt (tgt := 31) X dX7_areYears_24 (by decide) (fun h_24 => ?_) (fun h_24 => ?_)
        · replace h := (if_pos h_24).symm.trans h
          exact Zw.to2 (J_31 _ _ h) rfl rfl rfl
        · replace h := (if_neg h_24).symm.trans h
          refine a_iconst (v := 1) X dX7_areYears_27 (by decide) ?_
          refine a_goto (tgt := 32) X dX7_areYears_28 (by decide) ?_
          exact Zw.to2 (J_32 _ _ _ (by first | exact Or.inl rfl | exact Or.inr rfl | assumption) h) rfl rfl rfl
noncomputable def D_X7_years_17 (P : Nat) (M_17 : zMt) : Option (Int32 × zMt) :=
  zB (D_X7_refuse P (1 : Int32) M_17) fun e_19 =>
  some (e_19.1, e_19.2)
noncomputable def D_X7_years (P : Nat) (v0 : Int32) (v1 : Int32) (v2 : Int32) (M : zMt) : Option (Int32 × zMt) :=
  zB (D_X7_areYears v0 v1) fun e_2 =>
  if e_2 = 0 then
    D_X7_years_17 P M
  else
    if v2 < 0 then
      D_X7_years_17 P M
    else
      if v2 ≤ (2 : Int32) then
        zB (D_X6_pass (P + 125) (P + 17) v0 v1 M) fun e_33 =>
        if Int32.toInt v2 = 0 then
          zB (D_X7_answer P (e_33 (P + 125) 0) e_33) fun e_72 =>
          some (e_72.1, e_72.2)
        else if Int32.toInt v2 = 1 then
          zB (D_X6_unserved (P + 125) e_33 (e_33 (P + 17) 1)) fun e_88 =>
          zB (D_X7_answer P e_88 e_33) fun e_91 =>
          some (e_91.1, e_91.2)
        else
          zB (D_X7_answer P (e_33 (P + 125) 1) e_33) fun e_103 =>
          some (e_103.1, e_103.2)
      else
        D_X7_years_17 P M
set_option maxRecDepth 100000 in
set_option maxHeartbeats 4000000 in
theorem t_X7_years {l : Launch} {G : zG} {b : Nat} {L : List zC} {M : zMt} {N : zNt} {P : Nat} {v0 : Int32} {v1 : Int32} {v2 : Int32} (hP : LX7 L P) {r : Int32 × zMt} (h : D_X7_years P v0 v1 v2 M = some r) : zM l G b yX7_years cX7_years 4 (some .int) 6 0 0 [.ref P, .int v0, .int v1, .int v2] (L, M, N) (fun r2 z => r2 = some (.int r.1) ∧ z = (L, r.2, N)) := by
  refine zM.of miX7_years (Nat.le_of_ble_eq_true rfl) ?_
  intro p e s m args below meth c X hr hname
  generalize hF : ((fun r2 z => r2 = some (.int r.1) ∧ z = (L, r.2, N)) : Option Value → zS → Prop) = FQ
  change Zw p l e { frames := 6, cells := 0, slots := 0, locals := 80 * (6) } s m args below meth c G b 4 (MQ below (zQ G b FQ) args s 0 0 (fun q : Nat => b ≤ q)) 0 0 0 [some (.ref P), some (.int v0), some (.int v1), some (.int v2)] [] (L, M, N)
  obtain ⟨p_lt, p_o, p_tape, p_out, p_reader, p_list, p_past, p_pool, p_result, p_odds, p_paper, p_trial, p_trialPool, p_trialResult, p_trialOdds⟩ := id hP
  obtain ⟨p_reader_lt, p_reader_o, p_reader_draft, p_reader_text, p_reader_unitNames, p_reader_hunterNames, p_reader_partyNames, p_reader_asked⟩ := id p_reader
  obtain ⟨p_list_lt, p_list_o, p_list_quota, p_list_score, p_list_guest, p_list_party, p_list_wishCount, p_list_wishes, p_list_has⟩ := id p_list
  obtain ⟨p_past_lt, p_past_o, p_past_stood, p_past_stood0, p_past_stood1, p_past_stood2, p_past_stood3, p_past_stood4, p_past_stood5, p_past_stood6, p_past_stood7⟩ := id p_past
  obtain ⟨p_pool_lt, p_pool_o, p_pool_quota, p_pool_preferred, p_pool_forGuests, p_pool_applicantOf, p_pool_size, p_pool_guestCount, p_pool_score, p_pool_tickets, p_pool_bits, p_pool_party, p_pool_wishCount, p_pool_wishes⟩ := id p_pool
  obtain ⟨p_result_lt, p_result_o, p_result_line, p_result_unitOf, p_result_roundOf, p_result_leftTags, p_result_leftGuests, p_result_leftPreferred, p_result_ranked⟩ := id p_result
  obtain ⟨p_odds_lt, p_odds_o, p_odds_sets, p_odds_seen, p_odds_atUnit, p_odds_early, p_odds_result⟩ := id p_odds
  obtain ⟨p_paper_lt, p_paper_o, p_paper_times, p_paper_firstWish, p_paper_dry, p_paper_list, p_paper_pool, p_paper_result⟩ := id p_paper
  obtain ⟨p_trial_lt, p_trial_o, p_trial_quota, p_trial_score, p_trial_guest, p_trial_party, p_trial_wishCount, p_trial_wishes, p_trial_has⟩ := id p_trial
  obtain ⟨p_trialPool_lt, p_trialPool_o, p_trialPool_quota, p_trialPool_preferred, p_trialPool_forGuests, p_trialPool_applicantOf, p_trialPool_size, p_trialPool_guestCount, p_trialPool_score, p_trialPool_tickets, p_trialPool_bits, p_trialPool_party, p_trialPool_wishCount, p_trialPool_wishes⟩ := id p_trialPool
  obtain ⟨p_trialResult_lt, p_trialResult_o, p_trialResult_line, p_trialResult_unitOf, p_trialResult_roundOf, p_trialResult_leftTags, p_trialResult_leftGuests, p_trialResult_leftPreferred, p_trialResult_ranked⟩ := id p_trialResult
  obtain ⟨p_trialOdds_lt, p_trialOdds_o, p_trialOdds_sets, p_trialOdds_seen, p_trialOdds_atUnit, p_trialOdds_early, p_trialOdds_result⟩ := id p_trialOdds
  have J_17 : ∀ (x1_17 : Int32) (x2_17 : Int32) (x3_17 : Int32) (M_17 : zMt), D_X7_years_17 P M_17 = some r → Zw p l e { frames := 6, cells := 0, slots := 0, locals := 80 * (6) } s m args below meth c G b 4 (MQ below (zQ G b FQ) args s 0 0 (fun q : Nat => b ≤ q)) 0 0 17 [some (.ref (P)), some (.int x1_17), some (.int x2_17), some (.int x3_17)] [] (L, M_17, N) := by
    intro x1_17 x2_17 x3_17 M_17 h
    unfold D_X7_years_17 at h
    refine a_aload_n X dX7_years_17 rfl ?_
    refine a_iconst (v := 1) X dX7_years_18 (by decide) ?_
    obtain ⟨e_19, f_19, h⟩ := zBx h
    refine a_callVv X dX7_years_19 miX7_refuse lm7_102 (t_X7_refuse (by assumption) f_19) (by assumption) rfl rfl rfl (Nat.le_of_ble_eq_true rfl) ⟨by decide, by decide, by decide, by decide⟩ ?_
    refine a_iret X hr dX7_years_22 ⟨by decide, by decide⟩ ?_
    subst hF
    rw [← Option.some.inj h]
    exact ⟨rfl, rfl⟩
  unfold D_X7_years at h
  refine a_iload_n X dX7_years_0 rfl ?_
  refine a_iload_n X dX7_years_1 rfl ?_
  obtain ⟨e_2, f_2, h⟩ := zBx h
  refine a_callSx X dX7_years_2 miX7_areYears lm7_372 (t_X7_areYears f_2) rfl rfl (Nat.le_of_ble_eq_true rfl) ⟨by decide, by decide, by decide, by decide⟩ (fun r_2 S_2 q_2 => ?_)
  obtain ⟨rfl, rfl, b_2⟩ := q_2
  refine a_if_eq (tgt := 17) X dX7_years_5 (by decide) (fun h_5 => ?_) (fun h_5 => ?_)
  · replace h := (if_pos h_5).symm.trans h
    exact Zw.to2 (J_17 _ _ _ _ h) rfl rfl rfl
  · replace h := (if_neg h_5).symm.trans h
    refine a_iload_n X dX7_years_8 rfl ?_
    refine a_if_lt (tgt := 17) X dX7_years_9 (by decide) (fun h_9 => ?_) (fun h_9 => ?_)
    · replace h := (if_pos h_9).symm.trans h
      exact Zw.to2 (J_17 _ _ _ _ h) rfl rfl rfl
    · replace h := (if_neg h_9).symm.trans h
      refine a_iload_n X dX7_years_12 rfl ?_
      refine a_iconst (v := 2) X dX7_years_13 (by decide) ?_
      refine a_icmp_le (tgt := 23) X dX7_years_14 (by decide) (fun h_14 => ?_) (fun h_14 => ?_)
      · replace h := (if_pos h_14).symm.trans h
        refine a_aload_n X dX7_years_23 rfl ?_
        refine a_getr X lf7_61 (by assumption) rfl (by omega) dX7_years_24 ?_
        refine a_aload_n X dX7_years_27 rfl ?_
        refine a_getr X lf7_26 (by assumption) rfl (by omega) dX7_years_28 ?_
        refine a_iload_n X dX7_years_31 rfl ?_
        refine a_iload_n X dX7_years_32 rfl ?_
        obtain ⟨e_33, f_33, h⟩ := zBx h
        refine a_callVu X dX7_years_33 miX6_pass lm7_376 (t_X6_pass (by assumption) (by assumption) (by omega) f_33) (by assumption) rfl rfl rfl (Nat.le_of_ble_eq_true rfl) ⟨by decide, by decide, by decide, by decide⟩ ?_
        refine a_iload_n X dX7_years_36 rfl ?_
        refine a_lsw2 (t1 := 64) (t2 := 76) (td := 95) X dX7_years_37 rfl (by decide) (by decide) (by decide) (by decide) (fun h_37 => ?_) (fun g_37 h_37 => ?_) (fun f_37 g_37 => ?_)
        · replace h := (if_pos h_37).symm.trans h
          refine a_aload_n X dX7_years_64 rfl ?_
          refine a_aload_n X dX7_years_65 rfl ?_
          refine a_getr X lf7_61 (by assumption) rfl (by omega) dX7_years_66 ?_
          refine a_geti X lf7_380 (by assumption) rfl dX7_years_69 ?_
          obtain ⟨e_72, f_72, h⟩ := zBx h
          refine a_callVv X dX7_years_72 miX7_answer lm7_134 (t_X7_answer (by assumption) f_72) (by assumption) rfl rfl rfl (Nat.le_of_ble_eq_true rfl) ⟨by decide, by decide, by decide, by decide⟩ ?_
          refine a_iret X hr dX7_years_75 ⟨by decide, by decide⟩ ?_
          subst hF
          rw [← Option.some.inj h]
          exact ⟨rfl, rfl⟩
        · replace h := (if_neg g_37).symm.trans h
          replace h := (if_pos h_37).symm.trans h
          refine a_aload_n X dX7_years_76 rfl ?_
          refine a_aload_n X dX7_years_77 rfl ?_
          refine a_getr X lf7_61 (by assumption) rfl (by omega) dX7_years_78 ?_
          refine a_aload_n X dX7_years_81 rfl ?_
          refine a_getr X lf7_26 (by assumption) rfl (by omega) dX7_years_82 ?_
          refine a_geti X lf7_119 (by assumption) rfl dX7_years_85 ?_
          obtain ⟨e_88, f_88, h⟩ := zBx h
          refine a_callVv X dX7_years_88 miX6_unserved lm7_383 (t_X6_unserved (by assumption) f_88) (by assumption) rfl rfl rfl (Nat.le_of_ble_eq_true rfl) ⟨by decide, by decide, by decide, by decide⟩ ?_
          obtain ⟨e_91, f_91, h⟩ := zBx h
          refine a_callVv X dX7_years_91 miX7_answer lm7_134 (t_X7_answer (by assumption) f_91) (by assumption) rfl rfl rfl (Nat.le_of_ble_eq_true rfl) ⟨by decide, by decide, by decide, by decide⟩ ?_
          refine a_iret X hr dX7_years_94 ⟨by decide, by decide⟩ ?_
          subst hF
          rw [← Option.some.inj h]
          exact ⟨rfl, rfl⟩
        · replace h := (if_neg f_37).symm.trans h
          replace h := (if_neg g_37).symm.trans h
          refine a_aload_n X dX7_years_95 rfl ?_
          refine a_aload_n X dX7_years_96 rfl ?_
          refine a_getr X lf7_61 (by assumption) rfl (by omega) dX7_years_97 ?_
          refine a_geti X lf7_386 (by assumption) rfl dX7_years_100 ?_
          obtain ⟨e_103, f_103, h⟩ := zBx h
          refine a_callVv X dX7_years_103 miX7_answer lm7_134 (t_X7_answer (by assumption) f_103) (by assumption) rfl rfl rfl (Nat.le_of_ble_eq_true rfl) ⟨by decide, by decide, by decide, by decide⟩ ?_
          refine a_iret X hr dX7_years_106 ⟨by decide, by decide⟩ ?_
          subst hF
          rw [← Option.some.inj h]
          exact ⟨rfl, rfl⟩
      · replace h := (if_neg h_14).symm.trans h
        exact Zw.to2 (J_17 _ _ _ _ h) rfl rfl rfl
noncomputable def D_X7_often (P : Nat) (v0 : Int32) (v1 : Int32) (v2 : Int32) (M : zMt) : Option (Int32 × zMt) :=
  zB (D_X7_areYears v0 v1) fun e_2 =>
  if e_2 = 0 then
    zB (D_X7_refuse P (1 : Int32) M) fun e_10 =>
    some (e_10.1, e_10.2)
  else
    zB (D_X7_isHunter P M v2) fun e_16 =>
    if e_16 = 0 then
      zB (D_X7_refuse P (2 : Int32) M) fun e_24 =>
      some (e_24.1, e_24.2)
    else
      zB (D_X6_pass (P + 125) (P + 17) v0 v1 M) fun e_38 =>
      zB (D_X7_answer P (zrd 0 (e_38 (P + 126)) 10 v2) e_38) fun e_53 =>
      some (e_53.1, e_53.2)
set_option maxRecDepth 100000 in
set_option maxHeartbeats 4000000 in
theorem t_X7_often {l : Launch} {G : zG} {b : Nat} {L : List zC} {M : zMt} {N : zNt} {P : Nat} {v0 : Int32} {v1 : Int32} {v2 : Int32} (hP : LX7 L P) {r : Int32 × zMt} (h : D_X7_often P v0 v1 v2 M = some r) : zM l G b yX7_often cX7_often 4 (some .int) 6 0 0 [.ref P, .int v0, .int v1, .int v2] (L, M, N) (fun r2 z => r2 = some (.int r.1) ∧ z = (L, r.2, N)) := by
  refine zM.of miX7_often (Nat.le_of_ble_eq_true rfl) ?_
  intro p e s m args below meth c X hr hname
  generalize hF : ((fun r2 z => r2 = some (.int r.1) ∧ z = (L, r.2, N)) : Option Value → zS → Prop) = FQ
  change Zw p l e { frames := 6, cells := 0, slots := 0, locals := 80 * (6) } s m args below meth c G b 4 (MQ below (zQ G b FQ) args s 0 0 (fun q : Nat => b ≤ q)) 0 0 0 [some (.ref P), some (.int v0), some (.int v1), some (.int v2)] [] (L, M, N)
  obtain ⟨p_lt, p_o, p_tape, p_out, p_reader, p_list, p_past, p_pool, p_result, p_odds, p_paper, p_trial, p_trialPool, p_trialResult, p_trialOdds⟩ := id hP
  obtain ⟨p_reader_lt, p_reader_o, p_reader_draft, p_reader_text, p_reader_unitNames, p_reader_hunterNames, p_reader_partyNames, p_reader_asked⟩ := id p_reader
  obtain ⟨p_list_lt, p_list_o, p_list_quota, p_list_score, p_list_guest, p_list_party, p_list_wishCount, p_list_wishes, p_list_has⟩ := id p_list
  obtain ⟨p_past_lt, p_past_o, p_past_stood, p_past_stood0, p_past_stood1, p_past_stood2, p_past_stood3, p_past_stood4, p_past_stood5, p_past_stood6, p_past_stood7⟩ := id p_past
  obtain ⟨p_pool_lt, p_pool_o, p_pool_quota, p_pool_preferred, p_pool_forGuests, p_pool_applicantOf, p_pool_size, p_pool_guestCount, p_pool_score, p_pool_tickets, p_pool_bits, p_pool_party, p_pool_wishCount, p_pool_wishes⟩ := id p_pool
  obtain ⟨p_result_lt, p_result_o, p_result_line, p_result_unitOf, p_result_roundOf, p_result_leftTags, p_result_leftGuests, p_result_leftPreferred, p_result_ranked⟩ := id p_result
  obtain ⟨p_odds_lt, p_odds_o, p_odds_sets, p_odds_seen, p_odds_atUnit, p_odds_early, p_odds_result⟩ := id p_odds
  obtain ⟨p_paper_lt, p_paper_o, p_paper_times, p_paper_firstWish, p_paper_dry, p_paper_list, p_paper_pool, p_paper_result⟩ := id p_paper
  obtain ⟨p_trial_lt, p_trial_o, p_trial_quota, p_trial_score, p_trial_guest, p_trial_party, p_trial_wishCount, p_trial_wishes, p_trial_has⟩ := id p_trial
  obtain ⟨p_trialPool_lt, p_trialPool_o, p_trialPool_quota, p_trialPool_preferred, p_trialPool_forGuests, p_trialPool_applicantOf, p_trialPool_size, p_trialPool_guestCount, p_trialPool_score, p_trialPool_tickets, p_trialPool_bits, p_trialPool_party, p_trialPool_wishCount, p_trialPool_wishes⟩ := id p_trialPool
  obtain ⟨p_trialResult_lt, p_trialResult_o, p_trialResult_line, p_trialResult_unitOf, p_trialResult_roundOf, p_trialResult_leftTags, p_trialResult_leftGuests, p_trialResult_leftPreferred, p_trialResult_ranked⟩ := id p_trialResult
  obtain ⟨p_trialOdds_lt, p_trialOdds_o, p_trialOdds_sets, p_trialOdds_seen, p_trialOdds_atUnit, p_trialOdds_early, p_trialOdds_result⟩ := id p_trialOdds
  unfold D_X7_often at h
  refine a_iload_n X dX7_often_0 rfl ?_
  refine a_iload_n X dX7_often_1 rfl ?_
  obtain ⟨e_2, f_2, h⟩ := zBx h
  refine a_callSx X dX7_often_2 miX7_areYears lm7_372 (t_X7_areYears f_2) rfl rfl (Nat.le_of_ble_eq_true rfl) ⟨by decide, by decide, by decide, by decide⟩ (fun r_2 S_2 q_2 => ?_)
  obtain ⟨rfl, rfl, b_2⟩ := q_2
  refine a_if_ne (tgt := 14) X dX7_often_5 (by decide) (fun h_5 => ?_) (fun h_5 => ?_)
  · replace h := (if_neg h_5).symm.trans h
    refine a_aload_n X dX7_often_14 rfl ?_
    refine a_iload_n X dX7_often_15 rfl ?_
    obtain ⟨e_16, f_16, h⟩ := zBx h
    refine a_callVx X dX7_often_16 miX7_isHunter lm7_168 (t_X7_isHunter (by assumption) f_16) (by assumption) rfl rfl rfl (Nat.le_of_ble_eq_true rfl) ⟨by decide, by decide, by decide, by decide⟩ (fun r_16 S_16 q_16 => ?_)
    obtain ⟨rfl, rfl, b_16⟩ := q_16
    refine a_if_ne (tgt := 28) X dX7_often_19 (by decide) (fun h_19 => ?_) (fun h_19 => ?_)
    · replace h := (if_neg h_19).symm.trans h
      refine a_aload_n X dX7_often_28 rfl ?_
      refine a_getr X lf7_61 (by assumption) rfl (by omega) dX7_often_29 ?_
      refine a_aload_n X dX7_often_32 rfl ?_
      refine a_getr X lf7_26 (by assumption) rfl (by omega) dX7_often_33 ?_
      refine a_iload_n X dX7_often_36 rfl ?_
      refine a_iload_n X dX7_often_37 rfl ?_
      obtain ⟨e_38, f_38, h⟩ := zBx h
      refine a_callVu X dX7_often_38 miX6_pass lm7_376 (t_X6_pass (by assumption) (by assumption) (by omega) f_38) (by assumption) rfl rfl rfl (Nat.le_of_ble_eq_true rfl) ⟨by decide, by decide, by decide, by decide⟩ ?_
      refine a_aload_n X dX7_often_41 rfl ?_
      refine a_aload_n X dX7_often_42 rfl ?_
      refine a_getr X lf7_61 (by assumption) rfl (by omega) dX7_often_43 ?_
      refine a_getr X lf7_389 (by assumption) rfl (by omega) dX7_often_46 ?_
      refine a_iload_n X dX7_often_49 rfl ?_
      refine a_callSv X dX7_often_50 miX7_cell lm7_175 (c_cell (by assumption) (by first | decide | assumption)) rfl rfl (Nat.le_of_ble_eq_true rfl) ⟨by decide, by decide, by decide, by decide⟩ ?_
      obtain ⟨e_53, f_53, h⟩ := zBx h
      refine a_callVv X dX7_often_53 miX7_answer lm7_134 (t_X7_answer (by assumption) f_53) (by assumption) rfl rfl rfl (Nat.le_of_ble_eq_true rfl) ⟨by decide, by decide, by decide, by decide⟩ ?_
      refine a_iret X hr dX7_often_56 ⟨by decide, by decide⟩ ?_
      subst hF
      rw [← Option.some.inj h]
      exact ⟨rfl, rfl⟩
    · replace h := (if_pos h_19).symm.trans h
      refine a_aload_n X dX7_often_22 rfl ?_
      refine a_iconst (v := 2) X dX7_often_23 (by decide) ?_
      obtain ⟨e_24, f_24, h⟩ := zBx h
      refine a_callVv X dX7_often_24 miX7_refuse lm7_102 (t_X7_refuse (by assumption) f_24) (by assumption) rfl rfl rfl (Nat.le_of_ble_eq_true rfl) ⟨by decide, by decide, by decide, by decide⟩ ?_
      refine a_iret X hr dX7_often_27 ⟨by decide, by decide⟩ ?_
      subst hF
      rw [← Option.some.inj h]
      exact ⟨rfl, rfl⟩
  · replace h := (if_pos h_5).symm.trans h
    refine a_aload_n X dX7_often_8 rfl ?_
    refine a_iconst (v := 1) X dX7_often_9 (by decide) ?_
    obtain ⟨e_10, f_10, h⟩ := zBx h
    refine a_callVv X dX7_often_10 miX7_refuse lm7_102 (t_X7_refuse (by assumption) f_10) (by assumption) rfl rfl rfl (Nat.le_of_ble_eq_true rfl) ⟨by decide, by decide, by decide, by decide⟩ ?_
    refine a_iret X hr dX7_often_13 ⟨by decide, by decide⟩ ?_
    subst hF
    rw [← Option.some.inj h]
    exact ⟨rfl, rfl⟩
noncomputable def D_X7_soonest_73 (P : Nat) (y0_73 : Int32) (M_73 : zMt) : Option (Int32 × zMt) :=
  some (y0_73, M_73)
noncomputable def D_X7_soonest (P : Nat) (v0 : Int32) (v1 : Int32) (v2 : Int32) (M : zMt) : Option (Int32 × zMt) :=
  zB (D_X7_areYears v0 v1) fun e_2 =>
  if e_2 = 0 then
    zB (D_X7_refuse P (1 : Int32) M) fun e_10 =>
    some (e_10.1, e_10.2)
  else
    zB (D_X7_isHunter P M v2) fun e_16 =>
    if e_16 = 0 then
      zB (D_X7_refuse P (2 : Int32) M) fun e_24 =>
      some (e_24.1, e_24.2)
    else
      zB (D_X6_pass (P + 125) (P + 17) v0 v1 M) fun e_38 =>
      if (zrd 0 (e_38 (P + 127)) 10 v2) = 0 then
        zB (D_X7_refuse P (5 : Int32) e_38) fun e_61 =>
        D_X7_soonest_73 P e_61.1 e_61.2
      else
        zB (D_X7_answer P (zrd 0 (e_38 (P + 127)) 10 v2) e_38) fun e_70 =>
        D_X7_soonest_73 P e_70.1 e_70.2
set_option maxRecDepth 100000 in
set_option maxHeartbeats 4000000 in
theorem t_X7_soonest {l : Launch} {G : zG} {b : Nat} {L : List zC} {M : zMt} {N : zNt} {P : Nat} {v0 : Int32} {v1 : Int32} {v2 : Int32} (hP : LX7 L P) {r : Int32 × zMt} (h : D_X7_soonest P v0 v1 v2 M = some r) : zM l G b yX7_soonest cX7_soonest 5 (some .int) 6 0 0 [.ref P, .int v0, .int v1, .int v2] (L, M, N) (fun r2 z => r2 = some (.int r.1) ∧ z = (L, r.2, N)) := by
  refine zM.of miX7_soonest (Nat.le_of_ble_eq_true rfl) ?_
  intro p e s m args below meth c X hr hname
  generalize hF : ((fun r2 z => r2 = some (.int r.1) ∧ z = (L, r.2, N)) : Option Value → zS → Prop) = FQ
  change Zw p l e { frames := 6, cells := 0, slots := 0, locals := 80 * (6) } s m args below meth c G b 5 (MQ below (zQ G b FQ) args s 0 0 (fun q : Nat => b ≤ q)) 0 0 0 [some (.ref P), some (.int v0), some (.int v1), some (.int v2), none] [] (L, M, N)
  obtain ⟨p_lt, p_o, p_tape, p_out, p_reader, p_list, p_past, p_pool, p_result, p_odds, p_paper, p_trial, p_trialPool, p_trialResult, p_trialOdds⟩ := id hP
  obtain ⟨p_reader_lt, p_reader_o, p_reader_draft, p_reader_text, p_reader_unitNames, p_reader_hunterNames, p_reader_partyNames, p_reader_asked⟩ := id p_reader
  obtain ⟨p_list_lt, p_list_o, p_list_quota, p_list_score, p_list_guest, p_list_party, p_list_wishCount, p_list_wishes, p_list_has⟩ := id p_list
  obtain ⟨p_past_lt, p_past_o, p_past_stood, p_past_stood0, p_past_stood1, p_past_stood2, p_past_stood3, p_past_stood4, p_past_stood5, p_past_stood6, p_past_stood7⟩ := id p_past
  obtain ⟨p_pool_lt, p_pool_o, p_pool_quota, p_pool_preferred, p_pool_forGuests, p_pool_applicantOf, p_pool_size, p_pool_guestCount, p_pool_score, p_pool_tickets, p_pool_bits, p_pool_party, p_pool_wishCount, p_pool_wishes⟩ := id p_pool
  obtain ⟨p_result_lt, p_result_o, p_result_line, p_result_unitOf, p_result_roundOf, p_result_leftTags, p_result_leftGuests, p_result_leftPreferred, p_result_ranked⟩ := id p_result
  obtain ⟨p_odds_lt, p_odds_o, p_odds_sets, p_odds_seen, p_odds_atUnit, p_odds_early, p_odds_result⟩ := id p_odds
  obtain ⟨p_paper_lt, p_paper_o, p_paper_times, p_paper_firstWish, p_paper_dry, p_paper_list, p_paper_pool, p_paper_result⟩ := id p_paper
  obtain ⟨p_trial_lt, p_trial_o, p_trial_quota, p_trial_score, p_trial_guest, p_trial_party, p_trial_wishCount, p_trial_wishes, p_trial_has⟩ := id p_trial
  obtain ⟨p_trialPool_lt, p_trialPool_o, p_trialPool_quota, p_trialPool_preferred, p_trialPool_forGuests, p_trialPool_applicantOf, p_trialPool_size, p_trialPool_guestCount, p_trialPool_score, p_trialPool_tickets, p_trialPool_bits, p_trialPool_party, p_trialPool_wishCount, p_trialPool_wishes⟩ := id p_trialPool
  obtain ⟨p_trialResult_lt, p_trialResult_o, p_trialResult_line, p_trialResult_unitOf, p_trialResult_roundOf, p_trialResult_leftTags, p_trialResult_leftGuests, p_trialResult_leftPreferred, p_trialResult_ranked⟩ := id p_trialResult
  obtain ⟨p_trialOdds_lt, p_trialOdds_o, p_trialOdds_sets, p_trialOdds_seen, p_trialOdds_atUnit, p_trialOdds_early, p_trialOdds_result⟩ := id p_trialOdds
  have J_73 : ∀ (x1_73 : Int32) (x2_73 : Int32) (x3_73 : Int32) (x4_73 : Int32) (y0_73 : Int32) (M_73 : zMt), D_X7_soonest_73 P y0_73 M_73 = some r → Zw p l e { frames := 6, cells := 0, slots := 0, locals := 80 * (6) } s m args below meth c G b 5 (MQ below (zQ G b FQ) args s 0 0 (fun q : Nat => b ≤ q)) 0 0 73 [some (.ref (P)), some (.int x1_73), some (.int x2_73), some (.int x3_73), some (.int x4_73)] [.int y0_73] (L, M_73, N) := by
    intro x1_73 x2_73 x3_73 x4_73 y0_73 M_73 h
    unfold D_X7_soonest_73 at h
    refine a_iret X hr dX7_soonest_73 ⟨by decide, by decide⟩ ?_
    subst hF
    rw [← Option.some.inj h]
    exact ⟨rfl, rfl⟩
  unfold D_X7_soonest at h
  refine a_iload_n X dX7_soonest_0 rfl ?_
  refine a_iload_n X dX7_soonest_1 rfl ?_
  obtain ⟨e_2, f_2, h⟩ := zBx h
  refine a_callSx X dX7_soonest_2 miX7_areYears lm7_372 (t_X7_areYears f_2) rfl rfl (Nat.le_of_ble_eq_true rfl) ⟨by decide, by decide, by decide, by decide⟩ (fun r_2 S_2 q_2 => ?_)
  obtain ⟨rfl, rfl, b_2⟩ := q_2
  refine a_if_ne (tgt := 14) X dX7_soonest_5 (by decide) (fun h_5 => ?_) (fun h_5 => ?_)
  · replace h := (if_neg h_5).symm.trans h
    refine a_aload_n X dX7_soonest_14 rfl ?_
    refine a_iload_n X dX7_soonest_15 rfl ?_
    obtain ⟨e_16, f_16, h⟩ := zBx h
    refine a_callVx X dX7_soonest_16 miX7_isHunter lm7_168 (t_X7_isHunter (by assumption) f_16) (by assumption) rfl rfl rfl (Nat.le_of_ble_eq_true rfl) ⟨by decide, by decide, by decide, by decide⟩ (fun r_16 S_16 q_16 => ?_)
    obtain ⟨rfl, rfl, b_16⟩ := q_16
    refine a_if_ne (tgt := 28) X dX7_soonest_19 (by decide) (fun h_19 => ?_) (fun h_19 => ?_)
    · replace h := (if_neg h_19).symm.trans h
      refine a_aload_n X dX7_soonest_28 rfl ?_
      refine a_getr X lf7_61 (by assumption) rfl (by omega) dX7_soonest_29 ?_
      refine a_aload_n X dX7_soonest_32 rfl ?_
      refine a_getr X lf7_26 (by assumption) rfl (by omega) dX7_soonest_33 ?_
      refine a_iload_n X dX7_soonest_36 rfl ?_
      refine a_iload_n X dX7_soonest_37 rfl ?_
      obtain ⟨e_38, f_38, h⟩ := zBx h
      refine a_callVu X dX7_soonest_38 miX6_pass lm7_376 (t_X6_pass (by assumption) (by assumption) (by omega) f_38) (by assumption) rfl rfl rfl (Nat.le_of_ble_eq_true rfl) ⟨by decide, by decide, by decide, by decide⟩ ?_
      refine a_aload_n X dX7_soonest_41 rfl ?_
      refine a_getr X lf7_61 (by assumption) rfl (by omega) dX7_soonest_42 ?_
      refine a_getr X lf7_392 (by assumption) rfl (by omega) dX7_soonest_45 ?_
      refine a_iload_n X dX7_soonest_48 rfl ?_
      refine a_callSv X dX7_soonest_49 miX7_cell lm7_175 (c_cell (by assumption) (by first | decide | assumption)) rfl rfl (Nat.le_of_ble_eq_true rfl) ⟨by decide, by decide, by decide, by decide⟩ ?_
      refine a_istore X dX7_soonest_52 (by decide) ?_
      refine a_iload X dX7_soonest_54 rfl ?_
      refine a_if_ne (tgt := 67) X dX7_soonest_56 (by decide) (fun h_56 => ?_) (fun h_56 => ?_)
      · replace h := (if_neg h_56).symm.trans h
        refine a_aload_n X dX7_soonest_67 rfl ?_
        refine a_iload X dX7_soonest_68 rfl ?_
        obtain ⟨e_70, f_70, h⟩ := zBx h
        refine a_callVv X dX7_soonest_70 miX7_answer lm7_134 (t_X7_answer (by assumption) f_70) (by assumption) rfl rfl rfl (Nat.le_of_ble_eq_true rfl) ⟨by decide, by decide, by decide, by decide⟩ ?_
        exact Zw.to2 (J_73 _ _ _ _ _ _ h) rfl rfl rfl
      · replace h := (if_pos h_56).symm.trans h
        refine a_aload_n X dX7_soonest_59 rfl ?_
        refine a_iconst (v := 5) X dX7_soonest_60 (by decide) ?_
        obtain ⟨e_61, f_61, h⟩ := zBx h
        refine a_callVv X dX7_soonest_61 miX7_refuse lm7_102 (t_X7_refuse (by assumption) f_61) (by assumption) rfl rfl rfl (Nat.le_of_ble_eq_true rfl) ⟨by decide, by decide, by decide, by decide⟩ ?_
        refine a_goto (tgt := 73) X dX7_soonest_64 (by decide) ?_
        exact Zw.to2 (J_73 _ _ _ _ _ _ h) rfl rfl rfl
    · replace h := (if_pos h_19).symm.trans h
      refine a_aload_n X dX7_soonest_22 rfl ?_
      refine a_iconst (v := 2) X dX7_soonest_23 (by decide) ?_
      obtain ⟨e_24, f_24, h⟩ := zBx h
      refine a_callVv X dX7_soonest_24 miX7_refuse lm7_102 (t_X7_refuse (by assumption) f_24) (by assumption) rfl rfl rfl (Nat.le_of_ble_eq_true rfl) ⟨by decide, by decide, by decide, by decide⟩ ?_
      refine a_iret X hr dX7_soonest_27 ⟨by decide, by decide⟩ ?_
      subst hF
      rw [← Option.some.inj h]
      exact ⟨rfl, rfl⟩
  · replace h := (if_pos h_5).symm.trans h
    refine a_aload_n X dX7_soonest_8 rfl ?_
    refine a_iconst (v := 1) X dX7_soonest_9 (by decide) ?_
    obtain ⟨e_10, f_10, h⟩ := zBx h
    refine a_callVv X dX7_soonest_10 miX7_refuse lm7_102 (t_X7_refuse (by assumption) f_10) (by assumption) rfl rfl rfl (Nat.le_of_ble_eq_true rfl) ⟨by decide, by decide, by decide, by decide⟩ ?_
    refine a_iret X hr dX7_soonest_13 ⟨by decide, by decide⟩ ?_
    subst hF
    rw [← Option.some.inj h]
    exact ⟨rfl, rfl⟩
noncomputable def D_X7_draw (P : Nat) (v0 : Int32) (M : zMt) : Option (Int32 × zMt) :=
  zB (D_X7_isSeed v0) fun e_1 =>
  if e_1 = 0 then
    zB (D_X7_refuse P (1 : Int32) M) fun e_9 =>
    some (e_9.1, e_9.2)
  else
    zB (D_X1_keep (P + 25) (P + 17) M) fun e_21 =>
    zB (D_X5_bySeed (P + 104) (P + 91) v0 e_21) fun e_33 =>
    zB (D_X4_live (P + 17) (P + 91) (P + 104) e_33) fun e_48 =>
    zLt (zu e_48 (P + 17) 6 ((e_48 (P + 17) 6) + (1 : Int32))) fun M_61 =>
    zB (D_X5_tagsGiven (P + 104) (P + 91) M_61) fun e_73 =>
    zB (D_X7_changed P e_73 M_61) fun e_76 =>
    some (e_76.1, e_76.2)
set_option maxRecDepth 100000 in
set_option maxHeartbeats 4000000 in
theorem t_X7_draw {l : Launch} {G : zG} {b : Nat} {L : List zC} {M : zMt} {N : zNt} {P : Nat} {v0 : Int32} (hP : LX7 L P) {r : Int32 × zMt} (h : D_X7_draw P v0 M = some r) : zM l G b yX7_draw cX7_draw 2 (some .int) 5 0 0 [.ref P, .int v0] (L, M, N) (fun r2 z => r2 = some (.int r.1) ∧ z = (L, r.2, N)) := by
  refine zM.of miX7_draw (Nat.le_of_ble_eq_true rfl) ?_
  intro p e s m args below meth c X hr hname
  generalize hF : ((fun r2 z => r2 = some (.int r.1) ∧ z = (L, r.2, N)) : Option Value → zS → Prop) = FQ
  change Zw p l e { frames := 5, cells := 0, slots := 0, locals := 80 * (5) } s m args below meth c G b 2 (MQ below (zQ G b FQ) args s 0 0 (fun q : Nat => b ≤ q)) 0 0 0 [some (.ref P), some (.int v0)] [] (L, M, N)
  obtain ⟨p_lt, p_o, p_tape, p_out, p_reader, p_list, p_past, p_pool, p_result, p_odds, p_paper, p_trial, p_trialPool, p_trialResult, p_trialOdds⟩ := id hP
  obtain ⟨p_reader_lt, p_reader_o, p_reader_draft, p_reader_text, p_reader_unitNames, p_reader_hunterNames, p_reader_partyNames, p_reader_asked⟩ := id p_reader
  obtain ⟨p_list_lt, p_list_o, p_list_quota, p_list_score, p_list_guest, p_list_party, p_list_wishCount, p_list_wishes, p_list_has⟩ := id p_list
  obtain ⟨p_past_lt, p_past_o, p_past_stood, p_past_stood0, p_past_stood1, p_past_stood2, p_past_stood3, p_past_stood4, p_past_stood5, p_past_stood6, p_past_stood7⟩ := id p_past
  obtain ⟨p_pool_lt, p_pool_o, p_pool_quota, p_pool_preferred, p_pool_forGuests, p_pool_applicantOf, p_pool_size, p_pool_guestCount, p_pool_score, p_pool_tickets, p_pool_bits, p_pool_party, p_pool_wishCount, p_pool_wishes⟩ := id p_pool
  obtain ⟨p_result_lt, p_result_o, p_result_line, p_result_unitOf, p_result_roundOf, p_result_leftTags, p_result_leftGuests, p_result_leftPreferred, p_result_ranked⟩ := id p_result
  obtain ⟨p_odds_lt, p_odds_o, p_odds_sets, p_odds_seen, p_odds_atUnit, p_odds_early, p_odds_result⟩ := id p_odds
  obtain ⟨p_paper_lt, p_paper_o, p_paper_times, p_paper_firstWish, p_paper_dry, p_paper_list, p_paper_pool, p_paper_result⟩ := id p_paper
  obtain ⟨p_trial_lt, p_trial_o, p_trial_quota, p_trial_score, p_trial_guest, p_trial_party, p_trial_wishCount, p_trial_wishes, p_trial_has⟩ := id p_trial
  obtain ⟨p_trialPool_lt, p_trialPool_o, p_trialPool_quota, p_trialPool_preferred, p_trialPool_forGuests, p_trialPool_applicantOf, p_trialPool_size, p_trialPool_guestCount, p_trialPool_score, p_trialPool_tickets, p_trialPool_bits, p_trialPool_party, p_trialPool_wishCount, p_trialPool_wishes⟩ := id p_trialPool
  obtain ⟨p_trialResult_lt, p_trialResult_o, p_trialResult_line, p_trialResult_unitOf, p_trialResult_roundOf, p_trialResult_leftTags, p_trialResult_leftGuests, p_trialResult_leftPreferred, p_trialResult_ranked⟩ := id p_trialResult
  obtain ⟨p_trialOdds_lt, p_trialOdds_o, p_trialOdds_sets, p_trialOdds_seen, p_trialOdds_atUnit, p_trialOdds_early, p_trialOdds_result⟩ := id p_trialOdds
  unfold D_X7_draw at h
  refine a_iload_n X dX7_draw_0 rfl ?_
  obtain ⟨e_1, f_1, h⟩ := zBx h
  refine a_callSx X dX7_draw_1 miX7_isSeed lm7_237 (t_X7_isSeed f_1) rfl rfl (Nat.le_of_ble_eq_true rfl) ⟨by decide, by decide, by decide, by decide⟩ (fun r_1 S_1 q_1 => ?_)
  obtain ⟨rfl, rfl, b_1⟩ := q_1
  refine a_if_ne (tgt := 13) X dX7_draw_4 (by decide) (fun h_4 => ?_) (fun h_4 => ?_)
  · replace h := (if_neg h_4).symm.trans h
    refine a_aload_n X dX7_draw_13 rfl ?_
    refine a_getr X lf7_33 (by assumption) rfl (by omega) dX7_draw_14 ?_
    refine a_aload_n X dX7_draw_17 rfl ?_
    refine a_getr X lf7_26 (by assumption) rfl (by omega) dX7_draw_18 ?_
    obtain ⟨e_21, f_21, h⟩ := zBx h
    refine a_callVu X dX7_draw_21 miX1_keep lm7_396 (t_X1_keep (by assumption) (by assumption) (by omega) f_21) (by assumption) rfl rfl rfl (Nat.le_of_ble_eq_true rfl) ⟨by decide, by decide, by decide, by decide⟩ ?_
    refine a_aload_n X dX7_draw_24 rfl ?_
    refine a_getr X lf7_47 (by assumption) rfl (by omega) dX7_draw_25 ?_
    refine a_aload_n X dX7_draw_28 rfl ?_
    refine a_getr X lf7_40 (by assumption) rfl (by omega) dX7_draw_29 ?_
    refine a_iload_n X dX7_draw_32 rfl ?_
    obtain ⟨e_33, f_33, h⟩ := zBx h
    refine a_callVu X dX7_draw_33 miX5_bySeed lm7_247 (t_X5_bySeed (by assumption) (by assumption) f_33) (by assumption) rfl rfl rfl (Nat.le_of_ble_eq_true rfl) ⟨by decide, by decide, by decide, by decide⟩ ?_
    refine a_aload_n X dX7_draw_36 rfl ?_
    refine a_getr X lf7_26 (by assumption) rfl (by omega) dX7_draw_37 ?_
    refine a_aload_n X dX7_draw_40 rfl ?_
    refine a_getr X lf7_40 (by assumption) rfl (by omega) dX7_draw_41 ?_
    refine a_aload_n X dX7_draw_44 rfl ?_
    refine a_getr X lf7_47 (by assumption) rfl (by omega) dX7_draw_45 ?_
    obtain ⟨e_48, f_48, h⟩ := zBx h
    refine a_callVu X dX7_draw_48 miX4_live lm7_399 (t_X4_live (by assumption) (by assumption) (by assumption) f_48) (by assumption) rfl rfl rfl (Nat.le_of_ble_eq_true rfl) ⟨by decide, by decide, by decide, by decide⟩ ?_
    refine a_aload_n X dX7_draw_51 rfl ?_
    refine a_getr X lf7_26 (by assumption) rfl (by omega) dX7_draw_52 ?_
    refine a_dup X dX7_draw_55 rfl ?_
    refine a_geti X lf7_152 (by assumption) rfl dX7_draw_56 ?_
    refine a_iconst (v := 1) X dX7_draw_59 (by decide) ?_
    refine a_iadd X dX7_draw_60 ?_
    obtain ⟨M_61, f_61, h⟩ := zLtx h
    refine d_puti X lf7_152 (by assumption) rfl dX7_draw_61 f_61 ?_
    refine a_aload_n X dX7_draw_64 rfl ?_
    refine a_aload_n X dX7_draw_65 rfl ?_
    refine a_getr X lf7_47 (by assumption) rfl (by omega) dX7_draw_66 ?_
    refine a_aload_n X dX7_draw_69 rfl ?_
    refine a_getr X lf7_40 (by assumption) rfl (by omega) dX7_draw_70 ?_
    obtain ⟨e_73, f_73, h⟩ := zBx h
    refine a_callVv X dX7_draw_73 miX5_tagsGiven lm7_403 (t_X5_tagsGiven (by assumption) (by assumption) f_73) (by assumption) rfl rfl rfl (Nat.le_of_ble_eq_true rfl) ⟨by decide, by decide, by decide, by decide⟩ ?_
    obtain ⟨e_76, f_76, h⟩ := zBx h
    refine a_callVv X dX7_draw_76 miX7_changed lm7_122 (t_X7_changed (by assumption) f_76) (by assumption) rfl rfl rfl (Nat.le_of_ble_eq_true rfl) ⟨by decide, by decide, by decide, by decide⟩ ?_
    refine a_iret X hr dX7_draw_79 ⟨by decide, by decide⟩ ?_
    subst hF
    rw [← Option.some.inj h]
    exact ⟨rfl, rfl⟩
  · replace h := (if_pos h_4).symm.trans h
    refine a_aload_n X dX7_draw_7 rfl ?_
    refine a_iconst (v := 1) X dX7_draw_8 (by decide) ?_
    obtain ⟨e_9, f_9, h⟩ := zBx h
    refine a_callVv X dX7_draw_9 miX7_refuse lm7_102 (t_X7_refuse (by assumption) f_9) (by assumption) rfl rfl rfl (Nat.le_of_ble_eq_true rfl) ⟨by decide, by decide, by decide, by decide⟩ ?_
    refine a_iret X hr dX7_draw_12 ⟨by decide, by decide⟩ ?_
    subst hF
    rw [← Option.some.inj h]
    exact ⟨rfl, rfl⟩
noncomputable def D_X7_points_10 (P : Nat) (M_10 : zMt) : Option (Int32 × zMt) :=
  zB (D_X7_refuse P (1 : Int32) M_10) fun e_12 =>
  some (e_12.1, e_12.2)
noncomputable def D_X7_points (P : Nat) (v0 : Int32) (v1 : Int32) (M : zMt) : Option (Int32 × zMt) :=
  if v1 < 0 then
    D_X7_points_10 P M
  else
    if v1 ≤ (20 : Int32) then
      zB (D_X7_isHunter P M v0) fun e_18 =>
      if e_18 = 0 then
        zB (D_X7_refuse P (2 : Int32) M) fun e_26 =>
        some (e_26.1, e_26.2)
      else
        if (zrd 0 (M (P + 19)) 10 v0) = v1 then
          zB (D_X7_refuse P (4 : Int32) M) fun e_49 =>
          some (e_49.1, e_49.2)
        else
          zB (D_X1_keep (P + 25) (P + 17) M) fun e_61 =>
          zLt (zwr e_61 (P + 19) 10 v0 v1) fun M_73 =>
          zB (D_X7_changed P (zrd 0 (M (P + 19)) 10 v0) M_73) fun e_78 =>
          some (e_78.1, e_78.2)
    else
      D_X7_points_10 P M
set_option maxRecDepth 100000 in
set_option maxHeartbeats 4000000 in
theorem t_X7_points {l : Launch} {G : zG} {b : Nat} {L : List zC} {M : zMt} {N : zNt} {P : Nat} {v0 : Int32} {v1 : Int32} (hP : LX7 L P) {r : Int32 × zMt} (h : D_X7_points P v0 v1 M = some r) : zM l G b yX7_points cX7_points 4 (some .int) 4 0 0 [.ref P, .int v0, .int v1] (L, M, N) (fun r2 z => r2 = some (.int r.1) ∧ z = (L, r.2, N)) := by
  refine zM.of miX7_points (Nat.le_of_ble_eq_true rfl) ?_
  intro p e s m args below meth c X hr hname
  generalize hF : ((fun r2 z => r2 = some (.int r.1) ∧ z = (L, r.2, N)) : Option Value → zS → Prop) = FQ
  change Zw p l e { frames := 4, cells := 0, slots := 0, locals := 80 * (4) } s m args below meth c G b 4 (MQ below (zQ G b FQ) args s 0 0 (fun q : Nat => b ≤ q)) 0 0 0 [some (.ref P), some (.int v0), some (.int v1), none] [] (L, M, N)
  obtain ⟨p_lt, p_o, p_tape, p_out, p_reader, p_list, p_past, p_pool, p_result, p_odds, p_paper, p_trial, p_trialPool, p_trialResult, p_trialOdds⟩ := id hP
  obtain ⟨p_reader_lt, p_reader_o, p_reader_draft, p_reader_text, p_reader_unitNames, p_reader_hunterNames, p_reader_partyNames, p_reader_asked⟩ := id p_reader
  obtain ⟨p_list_lt, p_list_o, p_list_quota, p_list_score, p_list_guest, p_list_party, p_list_wishCount, p_list_wishes, p_list_has⟩ := id p_list
  obtain ⟨p_past_lt, p_past_o, p_past_stood, p_past_stood0, p_past_stood1, p_past_stood2, p_past_stood3, p_past_stood4, p_past_stood5, p_past_stood6, p_past_stood7⟩ := id p_past
  obtain ⟨p_pool_lt, p_pool_o, p_pool_quota, p_pool_preferred, p_pool_forGuests, p_pool_applicantOf, p_pool_size, p_pool_guestCount, p_pool_score, p_pool_tickets, p_pool_bits, p_pool_party, p_pool_wishCount, p_pool_wishes⟩ := id p_pool
  obtain ⟨p_result_lt, p_result_o, p_result_line, p_result_unitOf, p_result_roundOf, p_result_leftTags, p_result_leftGuests, p_result_leftPreferred, p_result_ranked⟩ := id p_result
  obtain ⟨p_odds_lt, p_odds_o, p_odds_sets, p_odds_seen, p_odds_atUnit, p_odds_early, p_odds_result⟩ := id p_odds
  obtain ⟨p_paper_lt, p_paper_o, p_paper_times, p_paper_firstWish, p_paper_dry, p_paper_list, p_paper_pool, p_paper_result⟩ := id p_paper
  obtain ⟨p_trial_lt, p_trial_o, p_trial_quota, p_trial_score, p_trial_guest, p_trial_party, p_trial_wishCount, p_trial_wishes, p_trial_has⟩ := id p_trial
  obtain ⟨p_trialPool_lt, p_trialPool_o, p_trialPool_quota, p_trialPool_preferred, p_trialPool_forGuests, p_trialPool_applicantOf, p_trialPool_size, p_trialPool_guestCount, p_trialPool_score, p_trialPool_tickets, p_trialPool_bits, p_trialPool_party, p_trialPool_wishCount, p_trialPool_wishes⟩ := id p_trialPool
  obtain ⟨p_trialResult_lt, p_trialResult_o, p_trialResult_line, p_trialResult_unitOf, p_trialResult_roundOf, p_trialResult_leftTags, p_trialResult_leftGuests, p_trialResult_leftPreferred, p_trialResult_ranked⟩ := id p_trialResult
  obtain ⟨p_trialOdds_lt, p_trialOdds_o, p_trialOdds_sets, p_trialOdds_seen, p_trialOdds_atUnit, p_trialOdds_early, p_trialOdds_result⟩ := id p_trialOdds
  have J_10 : ∀ (x1_10 : Int32) (x2_10 : Int32) (x3_10 : Option Value) (M_10 : zMt), D_X7_points_10 P M_10 = some r → Zw p l e { frames := 4, cells := 0, slots := 0, locals := 80 * (4) } s m args below meth c G b 4 (MQ below (zQ G b FQ) args s 0 0 (fun q : Nat => b ≤ q)) 0 0 10 [some (.ref (P)), some (.int x1_10), some (.int x2_10), x3_10] [] (L, M_10, N) := by
    intro x1_10 x2_10 x3_10 M_10 h
    unfold D_X7_points_10 at h
    refine a_aload_n X dX7_points_10 rfl ?_
    refine a_iconst (v := 1) X dX7_points_11 (by decide) ?_
    obtain ⟨e_12, f_12, h⟩ := zBx h
    refine a_callVv X dX7_points_12 miX7_refuse lm7_102 (t_X7_refuse (by assumption) f_12) (by assumption) rfl rfl rfl (Nat.le_of_ble_eq_true rfl) ⟨by decide, by decide, by decide, by decide⟩ ?_
    refine a_iret X hr dX7_points_15 ⟨by decide, by decide⟩ ?_
    subst hF
    rw [← Option.some.inj h]
    exact ⟨rfl, rfl⟩
  unfold D_X7_points at h
  refine a_iload_n X dX7_points_0 rfl ?_
  refine a_if_lt (tgt := 10) X dX7_points_1 (by decide) (fun h_1 => ?_) (fun h_1 => ?_)
  · replace h := (if_pos h_1).symm.trans h
    exact Zw.to2 (J_10 _ _ _ _ h) rfl rfl rfl
  · replace h := (if_neg h_1).symm.trans h
    refine a_iload_n X dX7_points_4 rfl ?_
    refine a_bipush (v := 20) X dX7_points_5 (by decide) ?_
    refine a_icmp_le (tgt := 16) X dX7_points_7 (by decide) (fun h_7 => ?_) (fun h_7 => ?_)
    · replace h := (if_pos h_7).symm.trans h
      refine a_aload_n X dX7_points_16 rfl ?_
      refine a_iload_n X dX7_points_17 rfl ?_
      obtain ⟨e_18, f_18, h⟩ := zBx h
      refine a_callVx X dX7_points_18 miX7_isHunter lm7_168 (t_X7_isHunter (by assumption) f_18) (by assumption) rfl rfl rfl (Nat.le_of_ble_eq_true rfl) ⟨by decide, by decide, by decide, by decide⟩ (fun r_18 S_18 q_18 => ?_)
      obtain ⟨rfl, rfl, b_18⟩ := q_18
      refine a_if_ne (tgt := 30) X dX7_points_21 (by decide) (fun h_21 => ?_) (fun h_21 => ?_)
      · replace h := (if_neg h_21).symm.trans h
        refine a_aload_n X dX7_points_30 rfl ?_
        refine a_getr X lf7_26 (by assumption) rfl (by omega) dX7_points_31 ?_
        refine a_getr X lf7_172 (by assumption) rfl (by omega) dX7_points_34 ?_
        refine a_iload_n X dX7_points_37 rfl ?_
        refine a_callSv X dX7_points_38 miX7_cell lm7_175 (c_cell (by assumption) (by first | decide | assumption)) rfl rfl (Nat.le_of_ble_eq_true rfl) ⟨by decide, by decide, by decide, by decide⟩ ?_
        refine a_istore_n X dX7_points_41 (by decide) ?_
        refine a_iload_n X dX7_points_42 rfl ?_
        refine a_iload_n X dX7_points_43 rfl ?_
        refine a_icmp_ne (tgt := 53) X dX7_points_44 (by decide) (fun h_44 => ?_) (fun h_44 => ?_)
        · replace h := (if_neg h_44).symm.trans h
          refine a_aload_n X dX7_points_53 rfl ?_
          refine a_getr X lf7_33 (by assumption) rfl (by omega) dX7_points_54 ?_
          refine a_aload_n X dX7_points_57 rfl ?_
          refine a_getr X lf7_26 (by assumption) rfl (by omega) dX7_points_58 ?_
          obtain ⟨e_61, f_61, h⟩ := zBx h
          refine a_callVu X dX7_points_61 miX1_keep lm7_396 (t_X1_keep (by assumption) (by assumption) (by omega) f_61) (by assumption) rfl rfl rfl (Nat.le_of_ble_eq_true rfl) ⟨by decide, by decide, by decide, by decide⟩ ?_
          refine a_aload_n X dX7_points_64 rfl ?_
          refine a_getr X lf7_26 (by assumption) rfl (by omega) dX7_points_65 ?_
          refine a_getr X lf7_172 (by assumption) rfl (by omega) dX7_points_68 ?_
          refine a_iload_n X dX7_points_71 rfl ?_
          refine a_iload_n X dX7_points_72 rfl ?_
          obtain ⟨M_73, f_73, h⟩ := zLtx h
          refine a_callSu X dX7_points_73 miX7_put lm7_98 (zMu (c_put (by assumption) (by first | decide | assumption)) f_73) rfl rfl (Nat.le_of_ble_eq_true rfl) ⟨by decide, by decide, by decide, by decide⟩ ?_
          refine a_aload_n X dX7_points_76 rfl ?_
          refine a_iload_n X dX7_points_77 rfl ?_
          obtain ⟨e_78, f_78, h⟩ := zBx h
          refine a_callVv X dX7_points_78 miX7_changed lm7_122 (t_X7_changed (by assumption) f_78) (by assumption) rfl rfl rfl (Nat.le_of_ble_eq_true rfl) ⟨by decide, by decide, by decide, by decide⟩ ?_
          refine a_iret X hr dX7_points_81 ⟨by decide, by decide⟩ ?_
          subst hF
          rw [← Option.some.inj h]
          exact ⟨rfl, rfl⟩
        · replace h := (if_pos h_44).symm.trans h
          refine a_aload_n X dX7_points_47 rfl ?_
          refine a_iconst (v := 4) X dX7_points_48 (by decide) ?_
          obtain ⟨e_49, f_49, h⟩ := zBx h
          refine a_callVv X dX7_points_49 miX7_refuse lm7_102 (t_X7_refuse (by assumption) f_49) (by assumption) rfl rfl rfl (Nat.le_of_ble_eq_true rfl) ⟨by decide, by decide, by decide, by decide⟩ ?_
          refine a_iret X hr dX7_points_52 ⟨by decide, by decide⟩ ?_
          subst hF
          rw [← Option.some.inj h]
          exact ⟨rfl, rfl⟩
      · replace h := (if_pos h_21).symm.trans h
        refine a_aload_n X dX7_points_24 rfl ?_
        refine a_iconst (v := 2) X dX7_points_25 (by decide) ?_
        obtain ⟨e_26, f_26, h⟩ := zBx h
        refine a_callVv X dX7_points_26 miX7_refuse lm7_102 (t_X7_refuse (by assumption) f_26) (by assumption) rfl rfl rfl (Nat.le_of_ble_eq_true rfl) ⟨by decide, by decide, by decide, by decide⟩ ?_
        refine a_iret X hr dX7_points_29 ⟨by decide, by decide⟩ ?_
        subst hF
        rw [← Option.some.inj h]
        exact ⟨rfl, rfl⟩
    · replace h := (if_neg h_7).symm.trans h
      exact Zw.to2 (J_10 _ _ _ _ h) rfl rfl rfl
noncomputable def D_X7_quota_10 (P : Nat) (M_10 : zMt) : Option (Int32 × zMt) :=
  zB (D_X7_refuse P (1 : Int32) M_10) fun e_12 =>
  some (e_12.1, e_12.2)
noncomputable def D_X7_quota (P : Nat) (v0 : Int32) (v1 : Int32) (M : zMt) : Option (Int32 × zMt) :=
  if v1 < 0 then
    D_X7_quota_10 P M
  else
    if v1 ≤ (20 : Int32) then
      zB (D_X7_isUnit P M v0) fun e_18 =>
      if e_18 = 0 then
        zB (D_X7_refuse P (2 : Int32) M) fun e_26 =>
        some (e_26.1, e_26.2)
      else
        if (zrd 0 (M (P + 18)) 5 v0) = v1 then
          zB (D_X7_refuse P (4 : Int32) M) fun e_49 =>
          some (e_49.1, e_49.2)
        else
          zB (D_X1_keep (P + 25) (P + 17) M) fun e_61 =>
          zLt (zwr e_61 (P + 18) 5 v0 v1) fun M_73 =>
          zB (D_X7_changed P (zrd 0 (M (P + 18)) 5 v0) M_73) fun e_78 =>
          some (e_78.1, e_78.2)
    else
      D_X7_quota_10 P M
set_option maxRecDepth 100000 in
set_option maxHeartbeats 4000000 in
theorem t_X7_quota {l : Launch} {G : zG} {b : Nat} {L : List zC} {M : zMt} {N : zNt} {P : Nat} {v0 : Int32} {v1 : Int32} (hP : LX7 L P) {r : Int32 × zMt} (h : D_X7_quota P v0 v1 M = some r) : zM l G b yX7_quota cX7_quota 4 (some .int) 4 0 0 [.ref P, .int v0, .int v1] (L, M, N) (fun r2 z => r2 = some (.int r.1) ∧ z = (L, r.2, N)) := by
  refine zM.of miX7_quota (Nat.le_of_ble_eq_true rfl) ?_
  intro p e s m args below meth c X hr hname
  generalize hF : ((fun r2 z => r2 = some (.int r.1) ∧ z = (L, r.2, N)) : Option Value → zS → Prop) = FQ
  change Zw p l e { frames := 4, cells := 0, slots := 0, locals := 80 * (4) } s m args below meth c G b 4 (MQ below (zQ G b FQ) args s 0 0 (fun q : Nat => b ≤ q)) 0 0 0 [some (.ref P), some (.int v0), some (.int v1), none] [] (L, M, N)
  obtain ⟨p_lt, p_o, p_tape, p_out, p_reader, p_list, p_past, p_pool, p_result, p_odds, p_paper, p_trial, p_trialPool, p_trialResult, p_trialOdds⟩ := id hP
  obtain ⟨p_reader_lt, p_reader_o, p_reader_draft, p_reader_text, p_reader_unitNames, p_reader_hunterNames, p_reader_partyNames, p_reader_asked⟩ := id p_reader
  obtain ⟨p_list_lt, p_list_o, p_list_quota, p_list_score, p_list_guest, p_list_party, p_list_wishCount, p_list_wishes, p_list_has⟩ := id p_list
  obtain ⟨p_past_lt, p_past_o, p_past_stood, p_past_stood0, p_past_stood1, p_past_stood2, p_past_stood3, p_past_stood4, p_past_stood5, p_past_stood6, p_past_stood7⟩ := id p_past
  obtain ⟨p_pool_lt, p_pool_o, p_pool_quota, p_pool_preferred, p_pool_forGuests, p_pool_applicantOf, p_pool_size, p_pool_guestCount, p_pool_score, p_pool_tickets, p_pool_bits, p_pool_party, p_pool_wishCount, p_pool_wishes⟩ := id p_pool
  obtain ⟨p_result_lt, p_result_o, p_result_line, p_result_unitOf, p_result_roundOf, p_result_leftTags, p_result_leftGuests, p_result_leftPreferred, p_result_ranked⟩ := id p_result
  obtain ⟨p_odds_lt, p_odds_o, p_odds_sets, p_odds_seen, p_odds_atUnit, p_odds_early, p_odds_result⟩ := id p_odds
  obtain ⟨p_paper_lt, p_paper_o, p_paper_times, p_paper_firstWish, p_paper_dry, p_paper_list, p_paper_pool, p_paper_result⟩ := id p_paper
  obtain ⟨p_trial_lt, p_trial_o, p_trial_quota, p_trial_score, p_trial_guest, p_trial_party, p_trial_wishCount, p_trial_wishes, p_trial_has⟩ := id p_trial
  obtain ⟨p_trialPool_lt, p_trialPool_o, p_trialPool_quota, p_trialPool_preferred, p_trialPool_forGuests, p_trialPool_applicantOf, p_trialPool_size, p_trialPool_guestCount, p_trialPool_score, p_trialPool_tickets, p_trialPool_bits, p_trialPool_party, p_trialPool_wishCount, p_trialPool_wishes⟩ := id p_trialPool
  obtain ⟨p_trialResult_lt, p_trialResult_o, p_trialResult_line, p_trialResult_unitOf, p_trialResult_roundOf, p_trialResult_leftTags, p_trialResult_leftGuests, p_trialResult_leftPreferred, p_trialResult_ranked⟩ := id p_trialResult
  obtain ⟨p_trialOdds_lt, p_trialOdds_o, p_trialOdds_sets, p_trialOdds_seen, p_trialOdds_atUnit, p_trialOdds_early, p_trialOdds_result⟩ := id p_trialOdds
  have J_10 : ∀ (x1_10 : Int32) (x2_10 : Int32) (x3_10 : Option Value) (M_10 : zMt), D_X7_quota_10 P M_10 = some r → Zw p l e { frames := 4, cells := 0, slots := 0, locals := 80 * (4) } s m args below meth c G b 4 (MQ below (zQ G b FQ) args s 0 0 (fun q : Nat => b ≤ q)) 0 0 10 [some (.ref (P)), some (.int x1_10), some (.int x2_10), x3_10] [] (L, M_10, N) := by
    intro x1_10 x2_10 x3_10 M_10 h
    unfold D_X7_quota_10 at h
    refine a_aload_n X dX7_quota_10 rfl ?_
    refine a_iconst (v := 1) X dX7_quota_11 (by decide) ?_
    obtain ⟨e_12, f_12, h⟩ := zBx h
    refine a_callVv X dX7_quota_12 miX7_refuse lm7_102 (t_X7_refuse (by assumption) f_12) (by assumption) rfl rfl rfl (Nat.le_of_ble_eq_true rfl) ⟨by decide, by decide, by decide, by decide⟩ ?_
    refine a_iret X hr dX7_quota_15 ⟨by decide, by decide⟩ ?_
    subst hF
    rw [← Option.some.inj h]
    exact ⟨rfl, rfl⟩
  unfold D_X7_quota at h
  refine a_iload_n X dX7_quota_0 rfl ?_
  refine a_if_lt (tgt := 10) X dX7_quota_1 (by decide) (fun h_1 => ?_) (fun h_1 => ?_)
  · replace h := (if_pos h_1).symm.trans h
    exact Zw.to2 (J_10 _ _ _ _ h) rfl rfl rfl
  · replace h := (if_neg h_1).symm.trans h
    refine a_iload_n X dX7_quota_4 rfl ?_
    refine a_bipush (v := 20) X dX7_quota_5 (by decide) ?_
    refine a_icmp_le (tgt := 16) X dX7_quota_7 (by decide) (fun h_7 => ?_) (fun h_7 => ?_)
    · replace h := (if_pos h_7).symm.trans h
      refine a_aload_n X dX7_quota_16 rfl ?_
      refine a_iload_n X dX7_quota_17 rfl ?_
      obtain ⟨e_18, f_18, h⟩ := zBx h
      refine a_callVx X dX7_quota_18 miX7_isUnit lm7_188 (t_X7_isUnit (by assumption) f_18) (by assumption) rfl rfl rfl (Nat.le_of_ble_eq_true rfl) ⟨by decide, by decide, by decide, by decide⟩ (fun r_18 S_18 q_18 => ?_)
      obtain ⟨rfl, rfl, b_18⟩ := q_18
      refine a_if_ne (tgt := 30) X dX7_quota_21 (by decide) (fun h_21 => ?_) (fun h_21 => ?_)
      · replace h := (if_neg h_21).symm.trans h
        refine a_aload_n X dX7_quota_30 rfl ?_
        refine a_getr X lf7_26 (by assumption) rfl (by omega) dX7_quota_31 ?_
        refine a_getr X lf7_158 (by assumption) rfl (by omega) dX7_quota_34 ?_
        refine a_iload_n X dX7_quota_37 rfl ?_
        refine a_callSv X dX7_quota_38 miX7_cell lm7_175 (c_cell (by assumption) (by first | decide | assumption)) rfl rfl (Nat.le_of_ble_eq_true rfl) ⟨by decide, by decide, by decide, by decide⟩ ?_
        refine a_istore_n X dX7_quota_41 (by decide) ?_
        refine a_iload_n X dX7_quota_42 rfl ?_
        refine a_iload_n X dX7_quota_43 rfl ?_
        refine a_icmp_ne (tgt := 53) X dX7_quota_44 (by decide) (fun h_44 => ?_) (fun h_44 => ?_)
        · replace h := (if_neg h_44).symm.trans h
          refine a_aload_n X dX7_quota_53 rfl ?_
          refine a_getr X lf7_33 (by assumption) rfl (by omega) dX7_quota_54 ?_
          refine a_aload_n X dX7_quota_57 rfl ?_
          refine a_getr X lf7_26 (by assumption) rfl (by omega) dX7_quota_58 ?_
          obtain ⟨e_61, f_61, h⟩ := zBx h
          refine a_callVu X dX7_quota_61 miX1_keep lm7_396 (t_X1_keep (by assumption) (by assumption) (by omega) f_61) (by assumption) rfl rfl rfl (Nat.le_of_ble_eq_true rfl) ⟨by decide, by decide, by decide, by decide⟩ ?_
          refine a_aload_n X dX7_quota_64 rfl ?_
          refine a_getr X lf7_26 (by assumption) rfl (by omega) dX7_quota_65 ?_
          refine a_getr X lf7_158 (by assumption) rfl (by omega) dX7_quota_68 ?_
          refine a_iload_n X dX7_quota_71 rfl ?_
          refine a_iload_n X dX7_quota_72 rfl ?_
          obtain ⟨M_73, f_73, h⟩ := zLtx h
          refine a_callSu X dX7_quota_73 miX7_put lm7_98 (zMu (c_put (by assumption) (by first | decide | assumption)) f_73) rfl rfl (Nat.le_of_ble_eq_true rfl) ⟨by decide, by decide, by decide, by decide⟩ ?_
          refine a_aload_n X dX7_quota_76 rfl ?_
          refine a_iload_n X dX7_quota_77 rfl ?_
          obtain ⟨e_78, f_78, h⟩ := zBx h
          refine a_callVv X dX7_quota_78 miX7_changed lm7_122 (t_X7_changed (by assumption) f_78) (by assumption) rfl rfl rfl (Nat.le_of_ble_eq_true rfl) ⟨by decide, by decide, by decide, by decide⟩ ?_
          refine a_iret X hr dX7_quota_81 ⟨by decide, by decide⟩ ?_
          subst hF
          rw [← Option.some.inj h]
          exact ⟨rfl, rfl⟩
        · replace h := (if_pos h_44).symm.trans h
          refine a_aload_n X dX7_quota_47 rfl ?_
          refine a_iconst (v := 4) X dX7_quota_48 (by decide) ?_
          obtain ⟨e_49, f_49, h⟩ := zBx h
          refine a_callVv X dX7_quota_49 miX7_refuse lm7_102 (t_X7_refuse (by assumption) f_49) (by assumption) rfl rfl rfl (Nat.le_of_ble_eq_true rfl) ⟨by decide, by decide, by decide, by decide⟩ ?_
          refine a_iret X hr dX7_quota_52 ⟨by decide, by decide⟩ ?_
          subst hF
          rw [← Option.some.inj h]
          exact ⟨rfl, rfl⟩
      · replace h := (if_pos h_21).symm.trans h
        refine a_aload_n X dX7_quota_24 rfl ?_
        refine a_iconst (v := 2) X dX7_quota_25 (by decide) ?_
        obtain ⟨e_26, f_26, h⟩ := zBx h
        refine a_callVv X dX7_quota_26 miX7_refuse lm7_102 (t_X7_refuse (by assumption) f_26) (by assumption) rfl rfl rfl (Nat.le_of_ble_eq_true rfl) ⟨by decide, by decide, by decide, by decide⟩ ?_
        refine a_iret X hr dX7_quota_29 ⟨by decide, by decide⟩ ?_
        subst hF
        rw [← Option.some.inj h]
        exact ⟨rfl, rfl⟩
    · replace h := (if_neg h_7).symm.trans h
      exact Zw.to2 (J_10 _ _ _ _ h) rfl rfl rfl
noncomputable def D_X7_isUnitOrNone_18 (P : Nat) (M : zMt) (y0_18 : Int32) : Option (Int32) :=
  some (y0_18)
noncomputable def D_X7_isUnitOrNone_13 (P : Nat) (M : zMt)  : Option (Int32) :=
  D_X7_isUnitOrNone_18 P M (1 : Int32)
noncomputable def D_X7_isUnitOrNone (P : Nat) (M : zMt) (v0 : Int32) : Option (Int32) :=
  if v0 = (-1 : Int32) then
    D_X7_isUnitOrNone_13 P M
  else
    zB (D_X7_isUnit P M v0) fun e_7 =>
    if e_7 = 0 then
      D_X7_isUnitOrNone_18 P M (0 : Int32)
    else
      D_X7_isUnitOrNone_13 P M
set_option maxRecDepth 100000 in
set_option maxHeartbeats 4000000 in
theorem t_X7_isUnitOrNone {l : Launch} {G : zG} {b : Nat} {L : List zC} {M : zMt} {N : zNt} {P : Nat} {v0 : Int32} (hP : LX7 L P) {r : Int32} (h : D_X7_isUnitOrNone P M v0 = some r) : zM l G b yX7_isUnitOrNone cX7_isUnitOrNone 2 (some .boolean) 1 0 0 [.ref P, .int v0] (L, M, N) (fun r2 z => r2 = some (.int r) ∧ z = (L, M, N) ∧ (r = 0 ∨ r = 1)) := by
  refine zM.of miX7_isUnitOrNone (Nat.le_of_ble_eq_true rfl) ?_
  intro p e s m args below meth c X hr hname
  generalize hF : ((fun r2 z => r2 = some (.int r) ∧ z = (L, M, N) ∧ (r = 0 ∨ r = 1)) : Option Value → zS → Prop) = FQ
  change Zw p l e { frames := 1, cells := 0, slots := 0, locals := 80 * (1) } s m args below meth c G b 2 (MQ below (zQ G b FQ) args s 0 0 (fun q : Nat => b ≤ q)) 0 0 0 [some (.ref P), some (.int v0)] [] (L, M, N)
  obtain ⟨p_lt, p_o, p_tape, p_out, p_reader, p_list, p_past, p_pool, p_result, p_odds, p_paper, p_trial, p_trialPool, p_trialResult, p_trialOdds⟩ := id hP
  obtain ⟨p_reader_lt, p_reader_o, p_reader_draft, p_reader_text, p_reader_unitNames, p_reader_hunterNames, p_reader_partyNames, p_reader_asked⟩ := id p_reader
  obtain ⟨p_list_lt, p_list_o, p_list_quota, p_list_score, p_list_guest, p_list_party, p_list_wishCount, p_list_wishes, p_list_has⟩ := id p_list
  obtain ⟨p_past_lt, p_past_o, p_past_stood, p_past_stood0, p_past_stood1, p_past_stood2, p_past_stood3, p_past_stood4, p_past_stood5, p_past_stood6, p_past_stood7⟩ := id p_past
  obtain ⟨p_pool_lt, p_pool_o, p_pool_quota, p_pool_preferred, p_pool_forGuests, p_pool_applicantOf, p_pool_size, p_pool_guestCount, p_pool_score, p_pool_tickets, p_pool_bits, p_pool_party, p_pool_wishCount, p_pool_wishes⟩ := id p_pool
  obtain ⟨p_result_lt, p_result_o, p_result_line, p_result_unitOf, p_result_roundOf, p_result_leftTags, p_result_leftGuests, p_result_leftPreferred, p_result_ranked⟩ := id p_result
  obtain ⟨p_odds_lt, p_odds_o, p_odds_sets, p_odds_seen, p_odds_atUnit, p_odds_early, p_odds_result⟩ := id p_odds
  obtain ⟨p_paper_lt, p_paper_o, p_paper_times, p_paper_firstWish, p_paper_dry, p_paper_list, p_paper_pool, p_paper_result⟩ := id p_paper
  obtain ⟨p_trial_lt, p_trial_o, p_trial_quota, p_trial_score, p_trial_guest, p_trial_party, p_trial_wishCount, p_trial_wishes, p_trial_has⟩ := id p_trial
  obtain ⟨p_trialPool_lt, p_trialPool_o, p_trialPool_quota, p_trialPool_preferred, p_trialPool_forGuests, p_trialPool_applicantOf, p_trialPool_size, p_trialPool_guestCount, p_trialPool_score, p_trialPool_tickets, p_trialPool_bits, p_trialPool_party, p_trialPool_wishCount, p_trialPool_wishes⟩ := id p_trialPool
  obtain ⟨p_trialResult_lt, p_trialResult_o, p_trialResult_line, p_trialResult_unitOf, p_trialResult_roundOf, p_trialResult_leftTags, p_trialResult_leftGuests, p_trialResult_leftPreferred, p_trialResult_ranked⟩ := id p_trialResult
  obtain ⟨p_trialOdds_lt, p_trialOdds_o, p_trialOdds_sets, p_trialOdds_seen, p_trialOdds_atUnit, p_trialOdds_early, p_trialOdds_result⟩ := id p_trialOdds
  have J_18 : ∀ (x1_18 : Int32) (y0_18 : Int32), (y0_18 = 0 ∨ y0_18 = 1) → D_X7_isUnitOrNone_18 P M y0_18 = some r → Zw p l e { frames := 1, cells := 0, slots := 0, locals := 80 * (1) } s m args below meth c G b 2 (MQ below (zQ G b FQ) args s 0 0 (fun q : Nat => b ≤ q)) 0 0 18 [some (.ref (P)), some (.int x1_18)] [.int y0_18] (L, M, N) := by
    intro x1_18 y0_18 fb_y0_18 h
    unfold D_X7_isUnitOrNone_18 at h
    refine a_zret X (by first | exact Or.inl rfl | exact Or.inr rfl | assumption) hr dX7_isUnitOrNone_18 ⟨by decide, by decide⟩ ?_
    subst hF
    rw [← Option.some.inj h]
    exact ⟨rfl, rfl, (by first | exact Or.inl rfl | exact Or.inr rfl | assumption)⟩
  have J_13 : ∀ (x1_13 : Int32), D_X7_isUnitOrNone_13 P M = some r → Zw p l e { frames := 1, cells := 0, slots := 0, locals := 80 * (1) } s m args below meth c G b 2 (MQ below (zQ G b FQ) args s 0 0 (fun q : Nat => b ≤ q)) 0 0 13 [some (.ref (P)), some (.int x1_13)] [] (L, M, N) := by
    intro x1_13 h
    unfold D_X7_isUnitOrNone_13 at h
    refine a_iconst (v := 1) X dX7_isUnitOrNone_13 (by decide) ?_
    refine a_goto (tgt := 18) X dX7_isUnitOrNone_14 (by decide) ?_
    exact Zw.to2 (J_18 _ _ (by first | exact Or.inl rfl | exact Or.inr rfl | assumption) h) rfl rfl rfl
  unfold D_X7_isUnitOrNone at h
  refine a_iload_n X dX7_isUnitOrNone_0 rfl ?_
  refine a_iconst (v := -1) X dX7_isUnitOrNone_1 (by decide) ?_
  refine a_icmp_eq (tgt := 13) X dX7_isUnitOrNone_2 (by decide) (fun h_2 => ?_) (fun h_2 => ?_)
  · replace h := (if_pos h_2).symm.trans h
    exact Zw.to2 (J_13 _ h) rfl rfl rfl
  · replace h := (if_neg h_2).symm.trans h
    refine a_aload_n X dX7_isUnitOrNone_5 rfl ?_
    refine a_iload_n X dX7_isUnitOrNone_6 rfl ?_
    obtain ⟨e_7, f_7, h⟩ := zBx h
    refine a_callVx X dX7_isUnitOrNone_7 miX7_isUnit lm7_188 (t_X7_isUnit (by assumption) f_7) (by assumption) rfl rfl rfl (Nat.le_of_ble_eq_true rfl) ⟨by decide, by decide, by decide, by decide⟩ (fun r_7 S_7 q_7 => ?_)
    obtain ⟨rfl, rfl, b_7⟩ := q_7
    refine a_if_eq (tgt := 17) X dX7_isUnitOrNone_10 (by decide) (fun h_10 => ?_) (fun h_10 => ?_)
    · replace h := (if_pos h_10).symm.trans h
      refine a_iconst (v := 0) X dX7_isUnitOrNone_17 (by decide) ?_
      exact Zw.to2 (J_18 _ _ (by first | exact Or.inl rfl | exact Or.inr rfl | assumption) h) rfl rfl rfl
    · replace h := (if_neg h_10).symm.trans h
      exact Zw.to2 (J_13 _ h) rfl rfl rfl
noncomputable def D_X7_choose_145 (P : Nat) (x1_145 : Int32) (x2_145 : Int32) (x3_145 : Int32) (x4_145 : Int32) (M_145 : zMt) : Option (Int32 × zMt) :=
  zB (D_X1_keep (P + 25) (P + 17) M_145) fun e_166 =>
  zB (D_X4_wishFor (P + 17) (zrd 0 (e_166 (P + 100)) 10 x1_145) x2_145 x3_145 x4_145 e_166) fun e_188 =>
  zB (D_X7_changed P (zrd 0 (M_145 (P + 102)) 10 x1_145) e_188) fun e_194 =>
  some (e_194.1, e_194.2)
noncomputable def D_X7_choose_93 (P : Nat) (M_93 : zMt) : Option (Int32 × zMt) :=
  zB (D_X7_refuse P (2 : Int32) M_93) fun e_95 =>
  some (e_95.1, e_95.2)
noncomputable def D_X7_choose_60 (P : Nat) (x1_60 : Int32) (x2_60 : Int32) (x3_60 : Int32) (x4_60 : Int32) (M_60 : zMt) : Option (Int32 × zMt) :=
  zB (D_X7_isApplicant P M_60 x1_60) fun e_62 =>
  if e_62 = 0 then
    D_X7_choose_93 P M_60
  else
    zB (D_X7_isUnitOrNone P M_60 x2_60) fun e_70 =>
    if e_70 = 0 then
      D_X7_choose_93 P M_60
    else
      zB (D_X7_isUnitOrNone P M_60 x3_60) fun e_78 =>
      if e_78 = 0 then
        D_X7_choose_93 P M_60
      else
        zB (D_X7_isUnitOrNone P M_60 x4_60) fun e_87 =>
        if e_87 = 0 then
          D_X7_choose_93 P M_60
        else
          zB (D_X2_wish (P + 91) M_60 x1_60 (0 : Int32)) fun e_105 =>
          if e_105 = x2_60 then
            zB (D_X2_wish (P + 91) M_60 x1_60 (1 : Int32)) fun e_118 =>
            if e_118 = x3_60 then
              zB (D_X2_wish (P + 91) M_60 x1_60 (2 : Int32)) fun e_131 =>
              if e_131 = x4_60 then
                zB (D_X7_refuse P (4 : Int32) M_60) fun e_141 =>
                some (e_141.1, e_141.2)
              else
                D_X7_choose_145 P x1_60 x2_60 x3_60 x4_60 M_60
            else
              D_X7_choose_145 P x1_60 x2_60 x3_60 x4_60 M_60
          else
            D_X7_choose_145 P x1_60 x2_60 x3_60 x4_60 M_60
noncomputable def D_X7_choose_54 (P : Nat) (M_54 : zMt) : Option (Int32 × zMt) :=
  zB (D_X7_refuse P (1 : Int32) M_54) fun e_56 =>
  some (e_56.1, e_56.2)
noncomputable def D_X7_choose_43 (P : Nat) (x1_43 : Int32) (x2_43 : Int32) (x3_43 : Int32) (x4_43 : Int32) (M_43 : zMt) : Option (Int32 × zMt) :=
  if x3_43 = (-1 : Int32) then
    D_X7_choose_60 P x1_43 x2_43 x3_43 x4_43 M_43
  else
    if x3_43 = x4_43 then
      D_X7_choose_54 P M_43
    else
      D_X7_choose_60 P x1_43 x2_43 x3_43 x4_43 M_43
noncomputable def D_X7_choose_27 (P : Nat) (x1_27 : Int32) (x2_27 : Int32) (x3_27 : Int32) (x4_27 : Int32) (M_27 : zMt) : Option (Int32 × zMt) :=
  if x2_27 = (-1 : Int32) then
    D_X7_choose_43 P x1_27 x2_27 x3_27 x4_27 M_27
  else
    if x2_27 = x3_27 then
      D_X7_choose_54 P M_27
    else
      if x2_27 = x4_27 then
        D_X7_choose_54 P M_27
      else
        D_X7_choose_43 P x1_27 x2_27 x3_27 x4_27 M_27
noncomputable def D_X7_choose_21 (P : Nat) (M_21 : zMt) : Option (Int32 × zMt) :=
  zB (D_X7_refuse P (1 : Int32) M_21) fun e_23 =>
  some (e_23.1, e_23.2)
noncomputable def D_X7_choose_10 (P : Nat) (x1_10 : Int32) (x2_10 : Int32) (x3_10 : Int32) (x4_10 : Int32) (M_10 : zMt) : Option (Int32 × zMt) :=
  if x3_10 = (-1 : Int32) then
    if x4_10 = (-1 : Int32) then
      D_X7_choose_27 P x1_10 x2_10 x3_10 x4_10 M_10
    else
      D_X7_choose_21 P M_10
  else
    D_X7_choose_27 P x1_10 x2_10 x3_10 x4_10 M_10
noncomputable def D_X7_choose (P : Nat) (v0 : Int32) (v1 : Int32) (v2 : Int32) (v3 : Int32) (M : zMt) : Option (Int32 × zMt) :=
  if v1 = (-1 : Int32) then
    if v2 = (-1 : Int32) then
      D_X7_choose_10 P v0 v1 v2 v3 M
    else
      D_X7_choose_21 P M
  else
    D_X7_choose_10 P v0 v1 v2 v3 M
set_option maxRecDepth 100000 in
set_option maxHeartbeats 4000000 in
theorem t_X7_choose {l : Launch} {G : zG} {b : Nat} {L : List zC} {M : zMt} {N : zNt} {P : Nat} {v0 : Int32} {v1 : Int32} {v2 : Int32} {v3 : Int32} (hP : LX7 L P) {r : Int32 × zMt} (h : D_X7_choose P v0 v1 v2 v3 M = some r) : zM l G b yX7_choose cX7_choose 6 (some .int) 4 0 0 [.ref P, .int v0, .int v1, .int v2, .int v3] (L, M, N) (fun r2 z => r2 = some (.int r.1) ∧ z = (L, r.2, N)) := by
  refine zM.of miX7_choose (Nat.le_of_ble_eq_true rfl) ?_
  intro p e s m args below meth c X hr hname
  generalize hF : ((fun r2 z => r2 = some (.int r.1) ∧ z = (L, r.2, N)) : Option Value → zS → Prop) = FQ
  change Zw p l e { frames := 4, cells := 0, slots := 0, locals := 80 * (4) } s m args below meth c G b 6 (MQ below (zQ G b FQ) args s 0 0 (fun q : Nat => b ≤ q)) 0 0 0 [some (.ref P), some (.int v0), some (.int v1), some (.int v2), some (.int v3), none] [] (L, M, N)
  obtain ⟨p_lt, p_o, p_tape, p_out, p_reader, p_list, p_past, p_pool, p_result, p_odds, p_paper, p_trial, p_trialPool, p_trialResult, p_trialOdds⟩ := id hP
  obtain ⟨p_reader_lt, p_reader_o, p_reader_draft, p_reader_text, p_reader_unitNames, p_reader_hunterNames, p_reader_partyNames, p_reader_asked⟩ := id p_reader
  obtain ⟨p_list_lt, p_list_o, p_list_quota, p_list_score, p_list_guest, p_list_party, p_list_wishCount, p_list_wishes, p_list_has⟩ := id p_list
  obtain ⟨p_past_lt, p_past_o, p_past_stood, p_past_stood0, p_past_stood1, p_past_stood2, p_past_stood3, p_past_stood4, p_past_stood5, p_past_stood6, p_past_stood7⟩ := id p_past
  obtain ⟨p_pool_lt, p_pool_o, p_pool_quota, p_pool_preferred, p_pool_forGuests, p_pool_applicantOf, p_pool_size, p_pool_guestCount, p_pool_score, p_pool_tickets, p_pool_bits, p_pool_party, p_pool_wishCount, p_pool_wishes⟩ := id p_pool
  obtain ⟨p_result_lt, p_result_o, p_result_line, p_result_unitOf, p_result_roundOf, p_result_leftTags, p_result_leftGuests, p_result_leftPreferred, p_result_ranked⟩ := id p_result
  obtain ⟨p_odds_lt, p_odds_o, p_odds_sets, p_odds_seen, p_odds_atUnit, p_odds_early, p_odds_result⟩ := id p_odds
  obtain ⟨p_paper_lt, p_paper_o, p_paper_times, p_paper_firstWish, p_paper_dry, p_paper_list, p_paper_pool, p_paper_result⟩ := id p_paper
  obtain ⟨p_trial_lt, p_trial_o, p_trial_quota, p_trial_score, p_trial_guest, p_trial_party, p_trial_wishCount, p_trial_wishes, p_trial_has⟩ := id p_trial
  obtain ⟨p_trialPool_lt, p_trialPool_o, p_trialPool_quota, p_trialPool_preferred, p_trialPool_forGuests, p_trialPool_applicantOf, p_trialPool_size, p_trialPool_guestCount, p_trialPool_score, p_trialPool_tickets, p_trialPool_bits, p_trialPool_party, p_trialPool_wishCount, p_trialPool_wishes⟩ := id p_trialPool
  obtain ⟨p_trialResult_lt, p_trialResult_o, p_trialResult_line, p_trialResult_unitOf, p_trialResult_roundOf, p_trialResult_leftTags, p_trialResult_leftGuests, p_trialResult_leftPreferred, p_trialResult_ranked⟩ := id p_trialResult
  obtain ⟨p_trialOdds_lt, p_trialOdds_o, p_trialOdds_sets, p_trialOdds_seen, p_trialOdds_atUnit, p_trialOdds_early, p_trialOdds_result⟩ := id p_trialOdds
  have J_145 : ∀ (x1_145 : Int32) (x2_145 : Int32) (x3_145 : Int32) (x4_145 : Int32) (x5_145 : Option Value) (M_145 : zMt), D_X7_choose_145 P x1_145 x2_145 x3_145 x4_145 M_145 = some r → Zw p l e { frames := 4, cells := 0, slots := 0, locals := 80 * (4) } s m args below meth c G b 6 (MQ below (zQ G b FQ) args s 0 0 (fun q : Nat => b ≤ q)) 0 0 145 [some (.ref (P)), some (.int x1_145), some (.int x2_145), some (.int x3_145), some (.int x4_145), x5_145] [] (L, M_145, N) := by
    intro x1_145 x2_145 x3_145 x4_145 x5_145 M_145 h
    unfold D_X7_choose_145 at h
    refine a_aload_n X dX7_choose_145 rfl ?_
    refine a_getr X lf7_40 (by assumption) rfl (by omega) dX7_choose_146 ?_
    refine a_getr X lf7_219 (by assumption) rfl (by omega) dX7_choose_149 ?_
    refine a_iload_n X dX7_choose_152 rfl ?_
    refine a_callSv X dX7_choose_153 miX7_cell lm7_175 (c_cell (by assumption) (by first | decide | assumption)) rfl rfl (Nat.le_of_ble_eq_true rfl) ⟨by decide, by decide, by decide, by decide⟩ ?_
    refine a_istore X dX7_choose_156 (by decide) ?_
    refine a_aload_n X dX7_choose_158 rfl ?_
    refine a_getr X lf7_33 (by assumption) rfl (by omega) dX7_choose_159 ?_
    refine a_aload_n X dX7_choose_162 rfl ?_
    refine a_getr X lf7_26 (by assumption) rfl (by omega) dX7_choose_163 ?_
    obtain ⟨e_166, f_166, h⟩ := zBx h
    refine a_callVu X dX7_choose_166 miX1_keep lm7_396 (t_X1_keep (by assumption) (by assumption) (by omega) f_166) (by assumption) rfl rfl rfl (Nat.le_of_ble_eq_true rfl) ⟨by decide, by decide, by decide, by decide⟩ ?_
    refine a_aload_n X dX7_choose_169 rfl ?_
    refine a_getr X lf7_26 (by assumption) rfl (by omega) dX7_choose_170 ?_
    refine a_aload_n X dX7_choose_173 rfl ?_
    refine a_getr X lf7_40 (by assumption) rfl (by omega) dX7_choose_174 ?_
    refine a_getr X lf7_222 (by assumption) rfl (by omega) dX7_choose_177 ?_
    refine a_iload_n X dX7_choose_180 rfl ?_
    refine a_callSv X dX7_choose_181 miX7_cell lm7_175 (c_cell (by assumption) (by first | decide | assumption)) rfl rfl (Nat.le_of_ble_eq_true rfl) ⟨by decide, by decide, by decide, by decide⟩ ?_
    refine a_iload_n X dX7_choose_184 rfl ?_
    refine a_iload_n X dX7_choose_185 rfl ?_
    refine a_iload X dX7_choose_186 rfl ?_
    obtain ⟨e_188, f_188, h⟩ := zBx h
    refine a_callVu X dX7_choose_188 miX4_wishFor lm7_283 (t_X4_wishFor (by assumption) f_188) (by assumption) rfl rfl rfl (Nat.le_of_ble_eq_true rfl) ⟨by decide, by decide, by decide, by decide⟩ ?_
    refine a_aload_n X dX7_choose_191 rfl ?_
    refine a_iload X dX7_choose_192 rfl ?_
    obtain ⟨e_194, f_194, h⟩ := zBx h
    refine a_callVv X dX7_choose_194 miX7_changed lm7_122 (t_X7_changed (by assumption) f_194) (by assumption) rfl rfl rfl (Nat.le_of_ble_eq_true rfl) ⟨by decide, by decide, by decide, by decide⟩ ?_
    refine a_iret X hr dX7_choose_197 ⟨by decide, by decide⟩ ?_
    subst hF
    rw [← Option.some.inj h]
    exact ⟨rfl, rfl⟩
  have J_93 : ∀ (x1_93 : Int32) (x2_93 : Int32) (x3_93 : Int32) (x4_93 : Int32) (x5_93 : Option Value) (M_93 : zMt), D_X7_choose_93 P M_93 = some r → Zw p l e { frames := 4, cells := 0, slots := 0, locals := 80 * (4) } s m args below meth c G b 6 (MQ below (zQ G b FQ) args s 0 0 (fun q : Nat => b ≤ q)) 0 0 93 [some (.ref (P)), some (.int x1_93), some (.int x2_93), some (.int x3_93), some (.int x4_93), x5_93] [] (L, M_93, N) := by
    intro x1_93 x2_93 x3_93 x4_93 x5_93 M_93 h
    unfold D_X7_choose_93 at h
    refine a_aload_n X dX7_choose_93 rfl ?_
    refine a_iconst (v := 2) X dX7_choose_94 (by decide) ?_
    obtain ⟨e_95, f_95, h⟩ := zBx h
    refine a_callVv X dX7_choose_95 miX7_refuse lm7_102 (t_X7_refuse (by assumption) f_95) (by assumption) rfl rfl rfl (Nat.le_of_ble_eq_true rfl) ⟨by decide, by decide, by decide, by decide⟩ ?_
    refine a_iret X hr dX7_choose_98 ⟨by decide, by decide⟩ ?_
    subst hF
    rw [← Option.some.inj h]
    exact ⟨rfl, rfl⟩
  have J_60 : ∀ (x1_60 : Int32) (x2_60 : Int32) (x3_60 : Int32) (x4_60 : Int32) (x5_60 : Option Value) (M_60 : zMt), D_X7_choose_60 P x1_60 x2_60 x3_60 x4_60 M_60 = some r → Zw p l e { frames := 4, cells := 0, slots := 0, locals := 80 * (4) } s m args below meth c G b 6 (MQ below (zQ G b FQ) args s 0 0 (fun q : Nat => b ≤ q)) 0 0 60 [some (.ref (P)), some (.int x1_60), some (.int x2_60), some (.int x3_60), some (.int x4_60), x5_60] [] (L, M_60, N) := by
    intro x1_60 x2_60 x3_60 x4_60 x5_60 M_60 h
    unfold D_X7_choose_60 at h
    refine a_aload_n X dX7_choose_60 rfl ?_
    refine a_iload_n X dX7_choose_61 rfl ?_
    obtain ⟨e_62, f_62, h⟩ := zBx h
    refine a_callVx X dX7_choose_62 miX7_isApplicant lm7_206 (t_X7_isApplicant (by assumption) f_62) (by assumption) rfl rfl rfl (Nat.le_of_ble_eq_true rfl) ⟨by decide, by decide, by decide, by decide⟩ (fun r_62 S_62 q_62 => ?_)
    obtain ⟨rfl, rfl, b_62⟩ := q_62
    refine a_if_eq (tgt := 93) X dX7_choose_65 (by decide) (fun h_65 => ?_) (fun h_65 => ?_)
    · replace h := (if_pos h_65).symm.trans h
      exact Zw.to2 (J_93 _ _ _ _ _ _ h) rfl rfl rfl
    · replace h := (if_neg h_65).symm.trans h
      refine a_aload_n X dX7_choose_68 rfl ?_
      refine a_iload_n X dX7_choose_69 rfl ?_
      obtain ⟨e_70, f_70, h⟩ := zBx h
      refine a_callVx X dX7_choose_70 miX7_isUnitOrNone lm7_406 (t_X7_isUnitOrNone (by assumption) f_70) (by assumption) rfl rfl rfl (Nat.le_of_ble_eq_true rfl) ⟨by decide, by decide, by decide, by decide⟩ (fun r_70 S_70 q_70 => ?_)
      obtain ⟨rfl, rfl, b_70⟩ := q_70
      refine a_if_eq (tgt := 93) X dX7_choose_73 (by decide) (fun h_73 => ?_) (fun h_73 => ?_)
      · replace h := (if_pos h_73).symm.trans h
        exact Zw.to2 (J_93 _ _ _ _ _ _ h) rfl rfl rfl
      · replace h := (if_neg h_73).symm.trans h
        refine a_aload_n X dX7_choose_76 rfl ?_
        refine a_iload_n X dX7_choose_77 rfl ?_
        obtain ⟨e_78, f_78, h⟩ := zBx h
        refine a_callVx X dX7_choose_78 miX7_isUnitOrNone lm7_406 (t_X7_isUnitOrNone (by assumption) f_78) (by assumption) rfl rfl rfl (Nat.le_of_ble_eq_true rfl) ⟨by decide, by decide, by decide, by decide⟩ (fun r_78 S_78 q_78 => ?_)
        obtain ⟨rfl, rfl, b_78⟩ := q_78
        refine a_if_eq (tgt := 93) X dX7_choose_81 (by decide) (fun h_81 => ?_) (fun h_81 => ?_)
        · replace h := (if_pos h_81).symm.trans h
          exact Zw.to2 (J_93 _ _ _ _ _ _ h) rfl rfl rfl
        · replace h := (if_neg h_81).symm.trans h
          refine a_aload_n X dX7_choose_84 rfl ?_
          refine a_iload X dX7_choose_85 rfl ?_
          obtain ⟨e_87, f_87, h⟩ := zBx h
          refine a_callVx X dX7_choose_87 miX7_isUnitOrNone lm7_406 (t_X7_isUnitOrNone (by assumption) f_87) (by assumption) rfl rfl rfl (Nat.le_of_ble_eq_true rfl) ⟨by decide, by decide, by decide, by decide⟩ (fun r_87 S_87 q_87 => ?_)
          obtain ⟨rfl, rfl, b_87⟩ := q_87
          refine a_if_ne (tgt := 99) X dX7_choose_90 (by decide) (fun h_90 => ?_) (fun h_90 => ?_)
          · replace h := (if_neg h_90).symm.trans h
            refine a_aload_n X dX7_choose_99 rfl ?_
            refine a_getr X lf7_40 (by assumption) rfl (by omega) dX7_choose_100 ?_
            refine a_iload_n X dX7_choose_103 rfl ?_
            refine a_iconst (v := 0) X dX7_choose_104 (by decide) ?_
            obtain ⟨e_105, f_105, h⟩ := zBx h
            refine a_callVv X dX7_choose_105 miX2_wish lm7_226 (t_X2_wish (by assumption) f_105) (by assumption) rfl rfl rfl (Nat.le_of_ble_eq_true rfl) ⟨by decide, by decide, by decide, by decide⟩ ?_
            refine a_iload_n X dX7_choose_108 rfl ?_
            refine a_icmp_ne (tgt := 145) X dX7_choose_109 (by decide) (fun h_109 => ?_) (fun h_109 => ?_)
            · replace h := (if_neg h_109).symm.trans h
              exact Zw.to2 (J_145 _ _ _ _ _ _ h) rfl rfl rfl
            · replace h := (if_pos h_109).symm.trans h
              refine a_aload_n X dX7_choose_112 rfl ?_
              refine a_getr X lf7_40 (by assumption) rfl (by omega) dX7_choose_113 ?_
              refine a_iload_n X dX7_choose_116 rfl ?_
              refine a_iconst (v := 1) X dX7_choose_117 (by decide) ?_
              obtain ⟨e_118, f_118, h⟩ := zBx h
              refine a_callVv X dX7_choose_118 miX2_wish lm7_226 (t_X2_wish (by assumption) f_118) (by assumption) rfl rfl rfl (Nat.le_of_ble_eq_true rfl) ⟨by decide, by decide, by decide, by decide⟩ ?_
              refine a_iload_n X dX7_choose_121 rfl ?_
              refine a_icmp_ne (tgt := 145) X dX7_choose_122 (by decide) (fun h_122 => ?_) (fun h_122 => ?_)
              · replace h := (if_neg h_122).symm.trans h
                exact Zw.to2 (J_145 _ _ _ _ _ _ h) rfl rfl rfl
              · replace h := (if_pos h_122).symm.trans h
                refine a_aload_n X dX7_choose_125 rfl ?_
                refine a_getr X lf7_40 (by assumption) rfl (by omega) dX7_choose_126 ?_
                refine a_iload_n X dX7_choose_129 rfl ?_
                refine a_iconst (v := 2) X dX7_choose_130 (by decide) ?_
                obtain ⟨e_131, f_131, h⟩ := zBx h
                refine a_callVv X dX7_choose_131 miX2_wish lm7_226 (t_X2_wish (by assumption) f_131) (by assumption) rfl rfl rfl (Nat.le_of_ble_eq_true rfl) ⟨by decide, by decide, by decide, by decide⟩ ?_
                refine a_iload X dX7_choose_134 rfl ?_
                refine a_icmp_ne (tgt := 145) X dX7_choose_136 (by decide) (fun h_136 => ?_) (fun h_136 => ?_)
                · replace h := (if_neg h_136).symm.trans h
                  exact Zw.to2 (J_145 _ _ _ _ _ _ h) rfl rfl rfl
                · replace h := (if_pos h_136).symm.trans h
                  refine a_aload_n X dX7_choose_139 rfl ?_
                  refine a_iconst (v := 4) X dX7_choose_140 (by decide) ?_
                  obtain ⟨e_141, f_141, h⟩ := zBx h
                  refine a_callVv X dX7_choose_141 miX7_refuse lm7_102 (t_X7_refuse (by assumption) f_141) (by assumption) rfl rfl rfl (Nat.le_of_ble_eq_true rfl) ⟨by decide, by decide, by decide, by decide⟩ ?_
                  refine a_iret X hr dX7_choose_144 ⟨by decide, by decide⟩ ?_
                  subst hF
                  rw [← Option.some.inj h]
                  exact ⟨rfl, rfl⟩
          · replace h := (if_pos h_90).symm.trans h
            exact Zw.to2 (J_93 _ _ _ _ _ _ h) rfl rfl rfl
  have J_54 : ∀ (x1_54 : Int32) (x2_54 : Int32) (x3_54 : Int32) (x4_54 : Int32) (x5_54 : Option Value) (M_54 : zMt), D_X7_choose_54 P M_54 = some r → Zw p l e { frames := 4, cells := 0, slots := 0, locals := 80 * (4) } s m args below meth c G b 6 (MQ below (zQ G b FQ) args s 0 0 (fun q : Nat => b ≤ q)) 0 0 54 [some (.ref (P)), some (.int x1_54), some (.int x2_54), some (.int x3_54), some (.int x4_54), x5_54] [] (L, M_54, N) := by
    intro x1_54 x2_54 x3_54 x4_54 x5_54 M_54 h
    unfold D_X7_choose_54 at h
    refine a_aload_n X dX7_choose_54 rfl ?_
    refine a_iconst (v := 1) X dX7_choose_55 (by decide) ?_
    obtain ⟨e_56, f_56, h⟩ := zBx h
    refine a_callVv X dX7_choose_56 miX7_refuse lm7_102 (t_X7_refuse (by assumption) f_56) (by assumption) rfl rfl rfl (Nat.le_of_ble_eq_true rfl) ⟨by decide, by decide, by decide, by decide⟩ ?_
    refine a_iret X hr dX7_choose_59 ⟨by decide, by decide⟩ ?_
    subst hF
    rw [← Option.some.inj h]
    exact ⟨rfl, rfl⟩
  have J_43 : ∀ (x1_43 : Int32) (x2_43 : Int32) (x3_43 : Int32) (x4_43 : Int32) (x5_43 : Option Value) (M_43 : zMt), D_X7_choose_43 P x1_43 x2_43 x3_43 x4_43 M_43 = some r → Zw p l e { frames := 4, cells := 0, slots := 0, locals := 80 * (4) } s m args below meth c G b 6 (MQ below (zQ G b FQ) args s 0 0 (fun q : Nat => b ≤ q)) 0 0 43 [some (.ref (P)), some (.int x1_43), some (.int x2_43), some (.int x3_43), some (.int x4_43), x5_43] [] (L, M_43, N) := by
    intro x1_43 x2_43 x3_43 x4_43 x5_43 M_43 h
    unfold D_X7_choose_43 at h
    refine a_iload_n X dX7_choose_43 rfl ?_
    refine a_iconst (v := -1) X dX7_choose_44 (by decide) ?_
    refine a_icmp_eq (tgt := 60) X dX7_choose_45 (by decide) (fun h_45 => ?_) (fun h_45 => ?_)
    · replace h := (if_pos h_45).symm.trans h
      exact Zw.to2 (J_60 _ _ _ _ _ _ h) rfl rfl rfl
    · replace h := (if_neg h_45).symm.trans h
      refine a_iload_n X dX7_choose_48 rfl ?_
      refine a_iload X dX7_choose_49 rfl ?_
      refine a_icmp_ne (tgt := 60) X dX7_choose_51 (by decide) (fun h_51 => ?_) (fun h_51 => ?_)
      · replace h := (if_neg h_51).symm.trans h
        exact Zw.to2 (J_60 _ _ _ _ _ _ h) rfl rfl rfl
      · replace h := (if_pos h_51).symm.trans h
        exact Zw.to2 (J_54 _ _ _ _ _ _ h) rfl rfl rfl
  have J_27 : ∀ (x1_27 : Int32) (x2_27 : Int32) (x3_27 : Int32) (x4_27 : Int32) (x5_27 : Option Value) (M_27 : zMt), D_X7_choose_27 P x1_27 x2_27 x3_27 x4_27 M_27 = some r → Zw p l e { frames := 4, cells := 0, slots := 0, locals := 80 * (4) } s m args below meth c G b 6 (MQ below (zQ G b FQ) args s 0 0 (fun q : Nat => b ≤ q)) 0 0 27 [some (.ref (P)), some (.int x1_27), some (.int x2_27), some (.int x3_27), some (.int x4_27), x5_27] [] (L, M_27, N) := by
    intro x1_27 x2_27 x3_27 x4_27 x5_27 M_27 h
    unfold D_X7_choose_27 at h
    refine a_iload_n X dX7_choose_27 rfl ?_
    refine a_iconst (v := -1) X dX7_choose_28 (by decide) ?_
    refine a_icmp_eq (tgt := 43) X dX7_choose_29 (by decide) (fun h_29 => ?_) (fun h_29 => ?_)
    · replace h := (if_pos h_29).symm.trans h
      exact Zw.to2 (J_43 _ _ _ _ _ _ h) rfl rfl rfl
    · replace h := (if_neg h_29).symm.trans h
      refine a_iload_n X dX7_choose_32 rfl ?_
      refine a_iload_n X dX7_choose_33 rfl ?_
      refine a_icmp_eq (tgt := 54) X dX7_choose_34 (by decide) (fun h_34 => ?_) (fun h_34 => ?_)
      · replace h := (if_pos h_34).symm.trans h
        exact Zw.to2 (J_54 _ _ _ _ _ _ h) rfl rfl rfl
      · replace h := (if_neg h_34).symm.trans h
        refine a_iload_n X dX7_choose_37 rfl ?_
        refine a_iload X dX7_choose_38 rfl ?_
        refine a_icmp_eq (tgt := 54) X dX7_choose_40 (by decide) (fun h_40 => ?_) (fun h_40 => ?_)
        · replace h := (if_pos h_40).symm.trans h
          exact Zw.to2 (J_54 _ _ _ _ _ _ h) rfl rfl rfl
        · replace h := (if_neg h_40).symm.trans h
          exact Zw.to2 (J_43 _ _ _ _ _ _ h) rfl rfl rfl
  have J_21 : ∀ (x1_21 : Int32) (x2_21 : Int32) (x3_21 : Int32) (x4_21 : Int32) (x5_21 : Option Value) (M_21 : zMt), D_X7_choose_21 P M_21 = some r → Zw p l e { frames := 4, cells := 0, slots := 0, locals := 80 * (4) } s m args below meth c G b 6 (MQ below (zQ G b FQ) args s 0 0 (fun q : Nat => b ≤ q)) 0 0 21 [some (.ref (P)), some (.int x1_21), some (.int x2_21), some (.int x3_21), some (.int x4_21), x5_21] [] (L, M_21, N) := by
    intro x1_21 x2_21 x3_21 x4_21 x5_21 M_21 h
    unfold D_X7_choose_21 at h
    refine a_aload_n X dX7_choose_21 rfl ?_
    refine a_iconst (v := 1) X dX7_choose_22 (by decide) ?_
    obtain ⟨e_23, f_23, h⟩ := zBx h
    refine a_callVv X dX7_choose_23 miX7_refuse lm7_102 (t_X7_refuse (by assumption) f_23) (by assumption) rfl rfl rfl (Nat.le_of_ble_eq_true rfl) ⟨by decide, by decide, by decide, by decide⟩ ?_
    refine a_iret X hr dX7_choose_26 ⟨by decide, by decide⟩ ?_
    subst hF
    rw [← Option.some.inj h]
    exact ⟨rfl, rfl⟩
  have J_10 : ∀ (x1_10 : Int32) (x2_10 : Int32) (x3_10 : Int32) (x4_10 : Int32) (x5_10 : Option Value) (M_10 : zMt), D_X7_choose_10 P x1_10 x2_10 x3_10 x4_10 M_10 = some r → Zw p l e { frames := 4, cells := 0, slots := 0, locals := 80 * (4) } s m args below meth c G b 6 (MQ below (zQ G b FQ) args s 0 0 (fun q : Nat => b ≤ q)) 0 0 10 [some (.ref (P)), some (.int x1_10), some (.int x2_10), some (.int x3_10), some (.int x4_10), x5_10] [] (L, M_10, N) := by
    intro x1_10 x2_10 x3_10 x4_10 x5_10 M_10 h
    unfold D_X7_choose_10 at h
    refine a_iload_n X dX7_choose_10 rfl ?_
    refine a_iconst (v := -1) X dX7_choose_11 (by decide) ?_
    refine a_icmp_ne (tgt := 27) X dX7_choose_12 (by decide) (fun h_12 => ?_) (fun h_12 => ?_)
    · replace h := (if_neg h_12).symm.trans h
      exact Zw.to2 (J_27 _ _ _ _ _ _ h) rfl rfl rfl
    · replace h := (if_pos h_12).symm.trans h
      refine a_iload X dX7_choose_15 rfl ?_
      refine a_iconst (v := -1) X dX7_choose_17 (by decide) ?_
      refine a_icmp_eq (tgt := 27) X dX7_choose_18 (by decide) (fun h_18 => ?_) (fun h_18 => ?_)
      · replace h := (if_pos h_18).symm.trans h
        exact Zw.to2 (J_27 _ _ _ _ _ _ h) rfl rfl rfl
      · replace h := (if_neg h_18).symm.trans h
        exact Zw.to2 (J_21 _ _ _ _ _ _ h) rfl rfl rfl
  unfold D_X7_choose at h
  refine a_iload_n X dX7_choose_0 rfl ?_
  refine a_iconst (v := -1) X dX7_choose_1 (by decide) ?_
  refine a_icmp_ne (tgt := 10) X dX7_choose_2 (by decide) (fun h_2 => ?_) (fun h_2 => ?_)
  · replace h := (if_neg h_2).symm.trans h
    exact Zw.to2 (J_10 _ _ _ _ _ _ h) rfl rfl rfl
  · replace h := (if_pos h_2).symm.trans h
    refine a_iload_n X dX7_choose_5 rfl ?_
    refine a_iconst (v := -1) X dX7_choose_6 (by decide) ?_
    refine a_icmp_ne (tgt := 21) X dX7_choose_7 (by decide) (fun h_7 => ?_) (fun h_7 => ?_)
    · replace h := (if_neg h_7).symm.trans h
      exact Zw.to2 (J_21 _ _ _ _ _ _ h) rfl rfl rfl
    · replace h := (if_pos h_7).symm.trans h
      exact Zw.to2 (J_10 _ _ _ _ _ _ h) rfl rfl rfl
