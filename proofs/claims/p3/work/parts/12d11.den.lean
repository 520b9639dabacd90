noncomputable def D_X7_waits_137 (P : Nat) (y0_137 : Int32) (M_137 : zMt) : Option (Int32 × zMt) :=
  some (y0_137, M_137)
noncomputable def D_X7_waits_112 (P : Nat) (k50 : Int32 → Int32 → Int32 → Int32 → zMt → Option (Int32 × zMt)) (x2_112 : Int32) (x3_112 : Int32) (x4_112 : Int32) (x5_112 : Int32) (M_112 : zMt) : Option (Int32 × zMt) :=
  k50 x2_112 x3_112 x4_112 (x5_112 + 1) M_112
noncomputable def D_X7_waits_50 (P : Nat) : Nat → Int32 → Int32 → Int32 → Int32 → zMt → Option (Int32 × zMt)
  | 0, _, _, _, _, _ => none
  | n + 1, x2_50, x3_50, x4_50, x5_50, M_50 =>
    if (M_50 (P + 91) 1) ≤ x5_50 then
      if x3_50 = (-1 : Int32) then
        zB (D_X7_answer P x4_50 M_50) fun e_126 =>
        D_X7_waits_137 P e_126.1 e_126.2
      else
        zB (D_X7_refuse P (5 : Int32) M_50) fun e_134 =>
        D_X7_waits_137 P e_134.1 e_134.2
    else
      zB (D_X5_isWaiting (P + 104) (P + 91) M_50 (zrd 0 (M_50 (P + 105)) 10 x5_50) x2_50) fun e_87 =>
      if e_87 = 0 then
        D_X7_waits_112 P (D_X7_waits_50 P n) x2_50 x3_50 x4_50 x5_50 M_50
      else
        if x4_50 = x3_50 then
          zB (D_X7_answer P (zrd 0 (M_50 (P + 105)) 10 x5_50) M_50) fun e_105 =>
          some (e_105.1, e_105.2)
        else
          D_X7_waits_112 P (D_X7_waits_50 P n) x2_50 x3_50 (x4_50 + 1) x5_50 M_50
noncomputable def D_X7_waits_12 (P : Nat) (M_12 : zMt) : Option (Int32 × zMt) :=
  zB (D_X7_refuse P (1 : Int32) M_12) fun e_14 =>
  some (e_14.1, e_14.2)
noncomputable def D_X7_waits (P : Nat) (v0 : Int32) (v1 : Int32) (v2 : Int32) (M : zMt) : Option (Int32 × zMt) :=
  zB (D_X7_isSeed v0) fun e_1 =>
  if e_1 = 0 then
    D_X7_waits_12 P M
  else
    if (-1 : Int32) ≤ v2 then
      zB (D_X7_isUnit P M v1) fun e_20 =>
      if e_20 = 0 then
        zB (D_X7_refuse P (2 : Int32) M) fun e_28 =>
        some (e_28.1, e_28.2)
      else
        zB (D_X5_bySeed (P + 104) (P + 91) v0 M) fun e_41 =>
        D_X7_waits_50 P zFu v1 v2 (0 : Int32) (0 : Int32) e_41
    else
      D_X7_waits_12 P M
set_option maxRecDepth 100000 in
set_option maxHeartbeats 4000000 in
theorem t_X7_waits {l : Launch} {G : zG} {b : Nat} {L : List zC} {M : zMt} {N : zNt} {P : Nat} (hP : LX7 L P) {v0 : Int32} {v1 : Int32} {v2 : Int32} {r : Int32 × zMt} (h : D_X7_waits P v0 v1 v2 M = some r) : zM l G b yX7_waits cX7_waits 7 (some .int) 5 0 0 [.ref P, .int v0, .int v1, .int v2] (L, M, N) (fun r2 z => r2 = some (.int r.1) ∧ z = (L, r.2, N)) := by
  refine zM.of miX7_waits (Nat.le_of_ble_eq_true rfl) ?_
  intro p e s m args below meth c X hr hname
  generalize hF : ((fun r2 z => r2 = some (.int r.1) ∧ z = (L, r.2, N)) : Option Value → zS → Prop) = FQ
  change Zw p l e { frames := 5, cells := 0, slots := 0, locals := 80 * (5) } s m args below meth c G b 7 (MQ below (zQ G b FQ) args s 0 0 (fun q : Nat => b ≤ q)) 0 0 0 [some (.ref P), some (.int v0), some (.int v1), some (.int v2), none, none, none] [] (L, M, N)
  obtain ⟨p_lt, p_o, p_tape, p_out, p_reader, p_list, p_past, p_pool, p_result, p_odds, p_paper, p_trial, p_trialPool, p_trialResult, p_trialOdds⟩ := id hP
  obtain ⟨p_reader_lt, p_reader_o, p_reader_draft, p_reader_text, p_reader_unitNames, p_reader_hunterNames, p_reader_partyNames, p_reader_asked⟩ := id p_reader
  obtain ⟨p_list_lt, p_list_o, p_list_quota, p_list_score, p_list_guest, p_list_party, p_list_wishCount, p_list_wishes, p_list_has⟩ := id p_list
  obtain ⟨p_past_lt, p_past_o, p_past_stood, p_past_stood0, p_past_stood1, p_past_stood2, p_past_stood3, p_past_stood4, p_past_stood5, p_past_stood6, p_past_stood7⟩ := id p_past
  obtain ⟨p_pool_lt, p_pool_o, p_pool_quota, p_pool_preferred, p_pool_forGuests, p_pool_applicantOf, p_pool_size, p_pool_guestCount, p_pool_score, p_pool_tickets, p_pool_bits, p_pool_party, p_pool_wishCount, p_pool_wishes⟩ := id p_pool
  obtain ⟨p_result_lt, p_result_o, p_result_line, p_result_unitOf, p_result_roundOf, p_result_leftTags, p_result_leftGuests, p_result_leftPreferred, p_result_ranked⟩ := id p_result
  obtain ⟨p_odds_lt, p_odds_o, p_odds_sets, p_odds_seen, p_odds_atUnit, p_odds_early, p_odds_result⟩ := id p_odds
  obtain ⟨p_paper_lt, p_paper_o, p_paper_times, p_paper_firstWish, p_paper_dry, p_paper_list, p_paper_pool, p_paper_result⟩ := id p_paper
  obtain ⟨p_trial_lt, p_trial_o, p_trial_quota, p_trial_score, p_trial_guest, p_trial_party, p_trial_wishCount, p_trial_wishes, p_trial_has⟩ := id p_trial
  obtain ⟨p_trialPool_lt, p_trialPool_o, p_trialPool_quota, p_trialPool_preferred, p_trialPool_forGuests, p_trialPool_applicantOf, p_trialPool_size, p_trialPool_guestCount, p_trialPool_score, p_trialPool_tickets, p_trialPool_bits, p_trialPool_party, p_trialPool_wishCount, p_trialPool_wishes⟩ := id p_trialPool
  obtain ⟨p_trialResult_lt, p_trialResult_o, p_trialResult_line, p_trialResult_unitOf, p_trialResult_roundOf, p_trialResult_leftTags, p_trialResult_leftGuests, p_trialResult_leftPreferred, p_trialResult_ranked⟩ := id p_trialResult
  obtain ⟨p_trialOdds_lt, p_trialOdds_o, p_trialOdds_sets, p_trialOdds_seen, p_trialOdds_atUnit, p_trialOdds_early, p_trialOdds_result⟩ := id p_trialOdds
  have J_137 : ∀ (x1_137 : Int32) (x2_137 : Int32) (x3_137 : Int32) (x4_137 : Int32) (x5_137 : Int32) (x6_137 : Option Value) (y0_137 : Int32) (M_137 : zMt), D_X7_waits_137 P y0_137 M_137 = some r → Zw p l e { frames := 5, cells := 0, slots := 0, locals := 80 * (5) } s m args below meth c G b 7 (MQ below (zQ G b FQ) args s 0 0 (fun q : Nat => b ≤ q)) 0 0 137 [some (.ref (P)), some (.int x1_137), some (.int x2_137), some (.int x3_137), some (.int x4_137), some (.int x5_137), x6_137] [.int y0_137] (L, M_137, N) := by
    intro x1_137 x2_137 x3_137 x4_137 x5_137 x6_137 y0_137 M_137 h
    unfold D_X7_waits_137 at h
    refine a_iret X hr dX7_waits_137 ⟨by decide, by decide⟩ ?_
    subst hF
    rw [← Option.some.inj h]
    exact ⟨rfl, rfl⟩
  have L_50 : ∀ u : Nat, ∀ (x1_50 : Int32) (x2_50 : Int32) (x3_50 : Int32) (x4_50 : Int32) (x5_50 : Int32) (x6_50 : Option Value) (M_50 : zMt), D_X7_waits_50 P u x2_50 x3_50 x4_50 x5_50 M_50 = some r → Zw p l e { frames := 5, cells := 0, slots := 0, locals := 80 * (5) } s m args below meth c G b 7 (MQ below (zQ G b FQ) args s 0 0 (fun q : Nat => b ≤ q)) 0 0 50 [some (.ref (P)), some (.int x1_50), some (.int x2_50), some (.int x3_50), some (.int x4_50), some (.int x5_50), x6_50] [] (L, M_50, N) := by
    intro u
    induction u with
    | zero => intro x1_50 x2_50 x3_50 x4_50 x5_50 x6_50 M_50 h; cases (show none = some r from h)
    | succ u_50 ih_50 =>
      have J_112 : ∀ (x1_112 : Int32) (x2_112 : Int32) (x3_112 : Int32) (x4_112 : Int32) (x5_112 : Int32) (x6_112 : Int32) (M_112 : zMt), D_X7_waits_112 P (D_X7_waits_50 P u_50) x2_112 x3_112 x4_112 x5_112 M_112 = some r → Zw p l e { frames := 5, cells := 0, slots := 0, locals := 80 * (5) } s m args below meth c G b 7 (MQ below (zQ G b FQ) args s 0 0 (fun q : Nat => b ≤ q)) 0 0 112 [some (.ref (P)), some (.int x1_112), some (.int x2_112), some (.int x3_112), some (.int x4_112), some (.int x5_112), some (.int x6_112)] [] (L, M_112, N) := by
        intro x1_112 x2_112 x3_112 x4_112 x5_112 x6_112 M_112 h
        unfold D_X7_waits_112 at h
        refine a_iinc (v := x5_112 + 1) X dX7_waits_112 (by decide) rfl zi_1 ?_
        refine a_goto (tgt := 50) X dX7_waits_115 (by decide) ?_
        exact Zw.to2 (ih_50 _ _ _ _ _ _ _ h) rfl rfl rfl
      intro x1_50 x2_50 x3_50 x4_50 x5_50 x6_50 M_50 h
      rw [D_X7_waits_50] at h
      refine a_iload X dX7_waits_50 rfl ?_
      refine a_aload_n X dX7_waits_52 rfl ?_
      refine a_getr X lf7_40 (by assumption) rfl (by omega) dX7_waits_53 ?_
      refine a_geti X lf7_140 (by assumption) rfl dX7_waits_56 ?_
      refine a_icmp_ge (tgt := 118) X dX7_waits_59 (by decide) (fun h_59 => ?_) (fun h_59 => ?_)
      · replace h := (if_pos h_59).symm.trans h
        refine a_iload_n X dX7_waits_118 rfl ?_
        refine a_iconst (v := -1) X dX7_waits_119 (by decide) ?_
        refine a_icmp_ne (tgt := 132) X dX7_waits_120 (by decide) (fun h_120 => ?_) (fun h_120 => ?_)
        · replace h := (if_neg h_120).symm.trans h
          refine a_aload_n X dX7_waits_132 rfl ?_
          refine a_iconst (v := 5) X dX7_waits_133 (by decide) ?_
          obtain ⟨e_134, f_134, h⟩ := zBx h
          refine a_callVv X dX7_waits_134 miX7_refuse lm7_102 (t_X7_refuse (by assumption) f_134) (by assumption) rfl rfl rfl (Nat.le_of_ble_eq_true rfl) ⟨by decide, by decide, by decide, by decide⟩ ?_
          exact Zw.to2 (J_137 _ _ _ _ _ _ _ _ h) rfl rfl rfl
        · replace h := (if_pos h_120).symm.trans h
          refine a_aload_n X dX7_waits_123 rfl ?_
          refine a_iload X dX7_waits_124 rfl ?_
          obtain ⟨e_126, f_126, h⟩ := zBx h
          refine a_callVv X dX7_waits_126 miX7_answer lm7_134 (t_X7_answer (by assumption) f_126) (by assumption) rfl rfl rfl (Nat.le_of_ble_eq_true rfl) ⟨by decide, by decide, by decide, by decide⟩ ?_
          refine a_goto (tgt := 137) X dX7_waits_129 (by decide) ?_
          exact Zw.to2 (J_137 _ _ _ _ _ _ _ _ h) rfl rfl rfl
      · replace h := (if_neg h_59).symm.trans h
        refine a_aload_n X dX7_waits_62 rfl ?_
        refine a_getr X lf7_47 (by assumption) rfl (by omega) dX7_waits_63 ?_
        refine a_getr X lf7_244 (by assumption) rfl (by omega) dX7_waits_66 ?_
        refine a_iload X dX7_waits_69 rfl ?_
        refine a_callSv X dX7_waits_71 miX7_cell lm7_175 (c_cell (by assumption) (by first | decide | assumption)) rfl rfl (Nat.le_of_ble_eq_true rfl) ⟨by decide, by decide, by decide, by decide⟩ ?_
        refine a_istore X dX7_waits_74 (by decide) ?_
        refine a_aload_n X dX7_waits_76 rfl ?_
        refine a_getr X lf7_47 (by assumption) rfl (by omega) dX7_waits_77 ?_
        refine a_aload_n X dX7_waits_80 rfl ?_
        refine a_getr X lf7_40 (by assumption) rfl (by omega) dX7_waits_81 ?_
        refine a_iload X dX7_waits_84 rfl ?_
        refine a_iload_n X dX7_waits_86 rfl ?_
        obtain ⟨e_87, f_87, h⟩ := zBx h
        refine a_callVx X dX7_waits_87 miX5_isWaiting lm7_269 (t_X5_isWaiting (by assumption) (by assumption) f_87) (by assumption) rfl rfl rfl (Nat.le_of_ble_eq_true rfl) ⟨by decide, by decide, by decide, by decide⟩ (fun r_87 S_87 q_87 => ?_)
        obtain ⟨rfl, rfl, b_87⟩ := q_87
        refine a_if_ne (tgt := 96) X dX7_waits_90 (by decide) (fun h_90 => ?_) (fun h_90 => ?_)
        · replace h := (if_neg h_90).symm.trans h
          refine a_iload X dX7_waits_96 rfl ?_
          refine a_iload_n X dX7_waits_98 rfl ?_
          refine a_icmp_ne (tgt := 109) X dX7_waits_99 (by decide) (fun h_99 => ?_) (fun h_99 => ?_)
          · replace h := (if_neg h_99).symm.trans h
            refine a_iinc (v := x4_50 + 1) X dX7_waits_109 (by decide) rfl zi_1 ?_
            exact Zw.to2 (J_112 _ _ _ _ _ _ _ h) rfl rfl rfl
          · replace h := (if_pos h_99).symm.trans h
            refine a_aload_n X dX7_waits_102 rfl ?_
            refine a_iload X dX7_waits_103 rfl ?_
            obtain ⟨e_105, f_105, h⟩ := zBx h
            refine a_callVv X dX7_waits_105 miX7_answer lm7_134 (t_X7_answer (by assumption) f_105) (by assumption) rfl rfl rfl (Nat.le_of_ble_eq_true rfl) ⟨by decide, by decide, by decide, by decide⟩ ?_
            refine a_iret X hr dX7_waits_108 ⟨by decide, by decide⟩ ?_
            subst hF
            rw [← Option.some.inj h]
            exact ⟨rfl, rfl⟩
        · replace h := (if_pos h_90).symm.trans h
          refine a_goto (tgt := 112) X dX7_waits_93 (by decide) ?_
          exact Zw.to2 (J_112 _ _ _ _ _ _ _ h) rfl rfl rfl
  have H_50 : ∀ (x1_50 : Int32) (x2_50 : Int32) (x3_50 : Int32) (x4_50 : Int32) (x5_50 : Int32) (x6_50 : Option Value) (M_50 : zMt), D_X7_waits_50 P zFu x2_50 x3_50 x4_50 x5_50 M_50 = some r → Zw p l e { frames := 5, cells := 0, slots := 0, locals := 80 * (5) } s m args below meth c G b 7 (MQ below (zQ G b FQ) args s 0 0 (fun q : Nat => b ≤ q)) 0 0 50 [some (.ref (P)), some (.int x1_50), some (.int x2_50), some (.int x3_50), some (.int x4_50), some (.int x5_50), x6_50] [] (L, M_50, N) := L_50 zFu
  have J_12 : ∀ (x1_12 : Int32) (x2_12 : Int32) (x3_12 : Int32) (x4_12 : Option Value) (x5_12 : Option Value) (x6_12 : Option Value) (M_12 : zMt), D_X7_waits_12 P M_12 = some r → Zw p l e { frames := 5, cells := 0, slots := 0, locals := 80 * (5) } s m args below meth c G b 7 (MQ below (zQ G b FQ) args s 0 0 (fun q : Nat => b ≤ q)) 0 0 12 [some (.ref (P)), some (.int x1_12), some (.int x2_12), some (.int x3_12), x4_12, x5_12, x6_12] [] (L, M_12, N) := by
    intro x1_12 x2_12 x3_12 x4_12 x5_12 x6_12 M_12 h
    unfold D_X7_waits_12 at h
    refine a_aload_n X dX7_waits_12 rfl ?_
    refine a_iconst (v := 1) X dX7_waits_13 (by decide) ?_
    obtain ⟨e_14, f_14, h⟩ := zBx h
    refine a_callVv X dX7_waits_14 miX7_refuse lm7_102 (t_X7_refuse (by assumption) f_14) (by assumption) rfl rfl rfl (Nat.le_of_ble_eq_true rfl) ⟨by decide, by decide, by decide, by decide⟩ ?_
    refine a_iret X hr dX7_waits_17 ⟨by decide, by decide⟩ ?_
    subst hF
    rw [← Option.some.inj h]
    exact ⟨rfl, rfl⟩
  unfold D_X7_waits at h
  refine a_iload_n X dX7_waits_0 rfl ?_
  obtain ⟨e_1, f_1, h⟩ := zBx h
  refine a_callSx X dX7_waits_1 miX7_isSeed lm7_237 (t_X7_isSeed f_1) rfl rfl (Nat.le_of_ble_eq_true rfl) ⟨by decide, by decide, by decide, by decide⟩ (fun r_1 S_1 q_1 => ?_)
  obtain ⟨rfl, rfl, b_1⟩ := q_1
  refine a_if_eq (tgt := 12) X dX7_waits_4 (by decide) (fun h_4 => ?_) (fun h_4 => ?_)
  · replace h := (if_pos h_4).symm.trans h
    exact Zw.to2 (J_12 _ _ _ _ _ _ _ h) rfl rfl rfl
  · replace h := (if_neg h_4).symm.trans h
    refine a_iload_n X dX7_waits_7 rfl ?_
    refine a_iconst (v := -1) X dX7_waits_8 (by decide) ?_
    refine a_icmp_ge (tgt := 18) X dX7_waits_9 (by decide) (fun h_9 => ?_) (fun h_9 => ?_)
    · replace h := (if_pos h_9).symm.trans h
      refine a_aload_n X dX7_waits_18 rfl ?_
      refine a_iload_n X dX7_waits_19 rfl ?_
      obtain ⟨e_20, f_20, h⟩ := zBx h
      refine a_callVx X dX7_waits_20 miX7_isUnit lm7_188 (t_X7_isUnit (by assumption) f_20) (by assumption) rfl rfl rfl (Nat.le_of_ble_eq_true rfl) ⟨by decide, by decide, by decide, by decide⟩ (fun r_20 S_20 q_20 => ?_)
      obtain ⟨rfl, rfl, b_20⟩ := q_20
      refine a_if_ne (tgt := 32) X dX7_waits_23 (by decide) (fun h_23 => ?_) (fun h_23 => ?_)
      · replace h := (if_neg h_23).symm.trans h
        refine a_aload_n X dX7_waits_32 rfl ?_
        refine a_getr X lf7_47 (by assumption) rfl (by omega) dX7_waits_33 ?_
        refine a_aload_n X dX7_waits_36 rfl ?_
        refine a_getr X lf7_40 (by assumption) rfl (by omega) dX7_waits_37 ?_
        refine a_iload_n X dX7_waits_40 rfl ?_
        obtain ⟨e_41, f_41, h⟩ := zBx h
        refine a_callVu X dX7_waits_41 miX5_bySeed lm7_247 (t_X5_bySeed (by assumption) (by assumption) f_41) (by assumption) rfl rfl rfl (Nat.le_of_ble_eq_true rfl) ⟨by decide, by decide, by decide, by decide⟩ ?_
        refine a_iconst (v := 0) X dX7_waits_44 (by decide) ?_
        refine a_istore X dX7_waits_45 (by decide) ?_
        refine a_iconst (v := 0) X dX7_waits_47 (by decide) ?_
        refine a_istore X dX7_waits_48 (by decide) ?_
        exact Zw.to2 (H_50 _ _ _ _ _ _ _ h) rfl rfl rfl
      · replace h := (if_pos h_23).symm.trans h
        refine a_aload_n X dX7_waits_26 rfl ?_
        refine a_iconst (v := 2) X dX7_waits_27 (by decide) ?_
        obtain ⟨e_28, f_28, h⟩ := zBx h
        refine a_callVv X dX7_waits_28 miX7_refuse lm7_102 (t_X7_refuse (by assumption) f_28) (by assumption) rfl rfl rfl (Nat.le_of_ble_eq_true rfl) ⟨by decide, by decide, by decide, by decide⟩ ?_
        refine a_iret X hr dX7_waits_31 ⟨by decide, by decide⟩ ?_
        subst hF
        rw [← Option.some.inj h]
        exact ⟨rfl, rfl⟩
    · replace h := (if_neg h_9).symm.trans h
      exact Zw.to2 (J_12 _ _ _ _ _ _ _ h) rfl rfl rfl
noncomputable def D_X7_next_148 (P : Nat) (k82 : Int32 → Int32 → Int32 → Int32 → zMt → Option (Int32 × zMt)) (x2_148 : Int32) (x4_148 : Int32) (x5_148 : Int32) (x6_148 : Int32) (M_148 : zMt) : Option (Int32 × zMt) :=
  k82 x2_148 x4_148 x5_148 (x6_148 + 1) M_148
noncomputable def D_X7_next_82 (P : Nat) : Nat → Int32 → Int32 → Int32 → Int32 → zMt → Option (Int32 × zMt)
  | 0, _, _, _, _, _ => none
  | n + 1, x2_82, x4_82, x5_82, x6_82, M_82 =>
    if (M_82 (P + 91) 1) ≤ x6_82 then
      zB (D_X7_refuse P (5 : Int32) M_82) fun e_156 =>
      some (e_156.1, e_156.2)
    else
      zB (D_X5_isWaiting (P + 104) (P + 91) M_82 (zrd 0 (M_82 (P + 105)) 10 x6_82) x2_82) fun e_119 =>
      if e_119 = 0 then
        D_X7_next_148 P (D_X7_next_82 P n) x2_82 x4_82 x5_82 x6_82 M_82
      else
        zB (D_X2_fits (P + 91) M_82 (zrd 0 (M_82 (P + 105)) 10 x6_82) x4_82 x5_82) fun e_135 =>
        if e_135 = 0 then
          D_X7_next_148 P (D_X7_next_82 P n) x2_82 x4_82 x5_82 x6_82 M_82
        else
          zB (D_X7_answer P (zrd 0 (M_82 (P + 105)) 10 x6_82) M_82) fun e_144 =>
          some (e_144.1, e_144.2)
noncomputable def D_X7_next_17 (P : Nat) (M_17 : zMt) : Option (Int32 × zMt) :=
  zB (D_X7_refuse P (1 : Int32) M_17) fun e_19 =>
  some (e_19.1, e_19.2)
noncomputable def D_X7_next (P : Nat) (v0 : Int32) (v1 : Int32) (v2 : Int32) (M : zMt) : Option (Int32 × zMt) :=
  zB (D_X7_isSeed v0) fun e_1 =>
  if e_1 = 0 then
    D_X7_next_17 P M
  else
    if v2 < 0 then
      D_X7_next_17 P M
    else
      if v2 ≤ (20 : Int32) then
        zB (D_X7_isUnit P M v1) fun e_25 =>
        if e_25 = 0 then
          zB (D_X7_refuse P (2 : Int32) M) fun e_33 =>
          some (e_33.1, e_33.2)
        else
          zB (D_X5_bySeed (P + 104) (P + 91) v0 M) fun e_46 =>
          D_X7_next_82 P zFu v1 ((zrd 0 (e_46 (P + 108)) 5 v1) + v2) ((zrd 0 (e_46 (P + 109)) 5 v1) + v2) (0 : Int32) e_46
      else
        D_X7_next_17 P M
set_option maxRecDepth 100000 in
set_option maxHeartbeats 4000000 in
theorem t_X7_next {l : Launch} {G : zG} {b : Nat} {L : List zC} {M : zMt} {N : zNt} {P : Nat} (hP : LX7 L P) {v0 : Int32} {v1 : Int32} {v2 : Int32} {r : Int32 × zMt} (h : D_X7_next P v0 v1 v2 M = some r) : zM l G b yX7_next cX7_next 8 (some .int) 5 0 0 [.ref P, .int v0, .int v1, .int v2] (L, M, N) (fun r2 z => r2 = some (.int r.1) ∧ z = (L, r.2, N)) := by
  refine zM.of miX7_next (Nat.le_of_ble_eq_true rfl) ?_
  intro p e s m args below meth c X hr hname
  generalize hF : ((fun r2 z => r2 = some (.int r.1) ∧ z = (L, r.2, N)) : Option Value → zS → Prop) = FQ
  change Zw p l e { frames := 5, cells := 0, slots := 0, locals := 80 * (5) } s m args below meth c G b 8 (MQ below (zQ G b FQ) args s 0 0 (fun q : Nat => b ≤ q)) 0 0 0 [some (.ref P), some (.int v0), some (.int v1), some (.int v2), none, none, none, none] [] (L, M, N)
  obtain ⟨p_lt, p_o, p_tape, p_out, p_reader, p_list, p_past, p_pool, p_result, p_odds, p_paper, p_trial, p_trialPool, p_trialResult, p_trialOdds⟩ := id hP
  obtain ⟨p_reader_lt, p_reader_o, p_reader_draft, p_reader_text, p_reader_unitNames, p_reader_hunterNames, p_reader_partyNames, p_reader_asked⟩ := id p_reader
  obtain ⟨p_list_lt, p_list_o, p_list_quota, p_list_score, p_list_guest, p_list_party, p_list_wishCount, p_list_wishes, p_list_has⟩ := id p_list
  obtain ⟨p_past_lt, p_past_o, p_past_stood, p_past_stood0, p_past_stood1, p_past_stood2, p_past_stood3, p_past_stood4, p_past_stood5, p_past_stood6, p_past_stood7⟩ := id p_past
  obtain ⟨p_pool_lt, p_pool_o, p_pool_quota, p_pool_preferred, p_pool_forGuests, p_pool_applicantOf, p_pool_size, p_pool_guestCount, p_pool_score, p_pool_tickets, p_pool_bits, p_pool_party, p_pool_wishCount, p_pool_wishes⟩ := id p_pool
  obtain ⟨p_result_lt, p_result_o, p_result_line, p_result_unitOf, p_result_roundOf, p_result_leftTags, p_result_leftGuests, p_result_leftPreferred, p_result_ranked⟩ := id p_result
  obtain ⟨p_odds_lt, p_odds_o, p_odds_sets, p_odds_seen, p_odds_atUnit, p_odds_early, p_odds_result⟩ := id p_odds
  obtain ⟨p_paper_lt, p_paper_o, p_paper_times, p_paper_firstWish, p_paper_dry, p_paper_list, p_paper_pool, p_paper_result⟩ := id p_paper
  obtain ⟨p_trial_lt, p_trial_o, p_trial_quota, p_trial_score, p_trial_guest, p_trial_party, p_trial_wishCount, p_trial_wishes, p_trial_has⟩ := id p_trial
  obtain ⟨p_trialPool_lt, p_trialPool_o, p_trialPool_quota, p_trialPool_preferred, p_trialPool_forGuests, p_trialPool_applicantOf, p_trialPool_size, p_trialPool_guestCount, p_trialPool_score, p_trialPool_tickets, p_trialPool_bits, p_trialPool_party, p_trialPool_wishCount, p_trialPool_wishes⟩ := id p_trialPool
  obtain ⟨p_trialResult_lt, p_trialResult_o, p_trialResult_line, p_trialResult_unitOf, p_trialResult_roundOf, p_trialResult_leftTags, p_trialResult_leftGuests, p_trialResult_leftPreferred, p_trialResult_ranked⟩ := id p_trialResult
  obtain ⟨p_trialOdds_lt, p_trialOdds_o, p_trialOdds_sets, p_trialOdds_seen, p_trialOdds_atUnit, p_trialOdds_early, p_trialOdds_result⟩ := id p_trialOdds
  have L_82 : ∀ u : Nat, ∀ (x1_82 : Int32) (x2_82 : Int32) (x3_82 : Int32) (x4_82 : Int32) (x5_82 : Int32) (x6_82 : Int32) (x7_82 : Option Value) (M_82 : zMt), D_X7_next_82 P u x2_82 x4_82 x5_82 x6_82 M_82 = some r → Zw p l e { frames := 5, cells := 0, slots := 0, locals := 80 * (5) } s m args below meth c G b 8 (MQ below (zQ G b FQ) args s 0 0 (fun q : Nat => b ≤ q)) 0 0 82 [some (.ref (P)), some (.int x1_82), some (.int x2_82), some (.int x3_82), some (.int x4_82), some (.int x5_82), some (.int x6_82), x7_82] [] (L, M_82, N) := by
    intro u
    induction u with
    | zero => intro x1_82 x2_82 x3_82 x4_82 x5_82 x6_82 x7_82 M_82 h; cases (show none = some r from h)
    | succ u_82 ih_82 =>
      have J_148 : ∀ (x1_148 : Int32) (x2_148 : Int32) (x3_148 : Int32) (x4_148 : Int32) (x5_148 : Int32) (x6_148 : Int32) (x7_148 : Int32) (M_148 : zMt), D_X7_next_148 P (D_X7_next_82 P u_82) x2_148 x4_148 x5_148 x6_148 M_148 = some r → Zw p l e { frames := 5, cells := 0, slots := 0, locals := 80 * (5) } s m args below meth c G b 8 (MQ below (zQ G b FQ) args s 0 0 (fun q : Nat => b ≤ q)) 0 0 148 [some (.ref (P)), some (.int x1_148), some (.int x2_148), some (.int x3_148), some (.int x4_148), some (.int x5_148), some (.int x6_148), some (.int x7_148)] [] (L, M_148, N) := by
        intro x1_148 x2_148 x3_148 x4_148 x5_148 x6_148 x7_148 M_148 h
        unfold D_X7_next_148 at h
        refine a_iinc (v := x6_148 + 1) X dX7_next_148 (by decide) rfl zi_1 ?_
        refine a_goto (tgt := 82) X dX7_next_151 (by decide) ?_
        exact Zw.to2 (ih_82 _ _ _ _ _ _ _ _ h) rfl rfl rfl
      intro x1_82 x2_82 x3_82 x4_82 x5_82 x6_82 x7_82 M_82 h
      rw [D_X7_next_82] at h
      refine a_iload X dX7_next_82 rfl ?_
      refine a_aload_n X dX7_next_84 rfl ?_
      refine a_getr X lf7_40 (by assumption) rfl (by omega) dX7_next_85 ?_
      refine a_geti X lf7_140 (by assumption) rfl dX7_next_88 ?_
      refine a_icmp_ge (tgt := 154) X dX7_next_91 (by decide) (fun h_91 => ?_) (fun h_91 => ?_)
      · replace h := (if_pos h_91).symm.trans h
        refine a_aload_n X dX7_next_154 rfl ?_
        refine a_iconst (v := 5) X dX7_next_155 (by decide) ?_
        obtain ⟨e_156, f_156, h⟩ := zBx h
        refine a_callVv X dX7_next_156 miX7_refuse lm7_102 (t_X7_refuse (by assumption) f_156) (by assumption) rfl rfl rfl (Nat.le_of_ble_eq_true rfl) ⟨by decide, by decide, by decide, by decide⟩ ?_
        refine a_iret X hr dX7_next_159 ⟨by decide, by decide⟩ ?_
        subst hF
        rw [← Option.some.inj h]
        exact ⟨rfl, rfl⟩
      · replace h := (if_neg h_91).symm.trans h
        refine a_aload_n X dX7_next_94 rfl ?_
        refine a_getr X lf7_47 (by assumption) rfl (by omega) dX7_next_95 ?_
        refine a_getr X lf7_244 (by assumption) rfl (by omega) dX7_next_98 ?_
        refine a_iload X dX7_next_101 rfl ?_
        refine a_callSv X dX7_next_103 miX7_cell lm7_175 (c_cell (by assumption) (by first | decide | assumption)) rfl rfl (Nat.le_of_ble_eq_true rfl) ⟨by decide, by decide, by decide, by decide⟩ ?_
        refine a_istore X dX7_next_106 (by decide) ?_
        refine a_aload_n X dX7_next_108 rfl ?_
        refine a_getr X lf7_47 (by assumption) rfl (by omega) dX7_next_109 ?_
        refine a_aload_n X dX7_next_112 rfl ?_
        refine a_getr X lf7_40 (by assumption) rfl (by omega) dX7_next_113 ?_
        refine a_iload X dX7_next_116 rfl ?_
        refine a_iload_n X dX7_next_118 rfl ?_
        obtain ⟨e_119, f_119, h⟩ := zBx h
        refine a_callVx X dX7_next_119 miX5_isWaiting lm7_269 (t_X5_isWaiting (by assumption) (by assumption) f_119) (by assumption) rfl rfl rfl (Nat.le_of_ble_eq_true rfl) ⟨by decide, by decide, by decide, by decide⟩ (fun r_119 S_119 q_119 => ?_)
        obtain ⟨rfl, rfl, b_119⟩ := q_119
        refine a_if_eq (tgt := 148) X dX7_next_122 (by decide) (fun h_122 => ?_) (fun h_122 => ?_)
        · replace h := (if_pos h_122).symm.trans h
          exact Zw.to2 (J_148 _ _ _ _ _ _ _ _ h) rfl rfl rfl
        · replace h := (if_neg h_122).symm.trans h
          refine a_aload_n X dX7_next_125 rfl ?_
          refine a_getr X lf7_40 (by assumption) rfl (by omega) dX7_next_126 ?_
          refine a_iload X dX7_next_129 rfl ?_
          refine a_iload X dX7_next_131 rfl ?_
          refine a_iload X dX7_next_133 rfl ?_
          obtain ⟨e_135, f_135, h⟩ := zBx h
          refine a_callVx X dX7_next_135 miX2_fits lm7_273 (t_X2_fits (by assumption) f_135) (by assumption) rfl rfl rfl (Nat.le_of_ble_eq_true rfl) ⟨by decide, by decide, by decide, by decide⟩ (fun r_135 S_135 q_135 => ?_)
          obtain ⟨rfl, rfl, b_135⟩ := q_135
          refine a_if_eq (tgt := 148) X dX7_next_138 (by decide) (fun h_138 => ?_) (fun h_138 => ?_)
          · replace h := (if_pos h_138).symm.trans h
            exact Zw.to2 (J_148 _ _ _ _ _ _ _ _ h) rfl rfl rfl
          · replace h := (if_neg h_138).symm.trans h
            refine a_aload_n X dX7_next_141 rfl ?_
            refine a_iload X dX7_next_142 rfl ?_
            obtain ⟨e_144, f_144, h⟩ := zBx h
            refine a_callVv X dX7_next_144 miX7_answer lm7_134 (t_X7_answer (by assumption) f_144) (by assumption) rfl rfl rfl (Nat.le_of_ble_eq_true rfl) ⟨by decide, by decide, by decide, by decide⟩ ?_
            refine a_iret X hr dX7_next_147 ⟨by decide, by decide⟩ ?_
            subst hF
            rw [← Option.some.inj h]
            exact ⟨rfl, rfl⟩
  have H_82 : ∀ (x1_82 : Int32) (x2_82 : Int32) (x3_82 : Int32) (x4_82 : Int32) (x5_82 : Int32) (x6_82 : Int32) (x7_82 : Option Value) (M_82 : zMt), D_X7_next_82 P zFu x2_82 x4_82 x5_82 x6_82 M_82 = some r → Zw p l e { frames := 5, cells := 0, slots := 0, locals := 80 * (5) } s m args below meth c G b 8 (MQ below (zQ G b FQ) args s 0 0 (fun q : Nat => b ≤ q)) 0 0 82 [some (.ref (P)), some (.int x1_82), some (.int x2_82), some (.int x3_82), some (.int x4_82), some (.int x5_82), some (.int x6_82), x7_82] [] (L, M_82, N) := L_82 zFu
  have J_17 : ∀ (x1_17 : Int32) (x2_17 : Int32) (x3_17 : Int32) (x4_17 : Option Value) (x5_17 : Option Value) (x6_17 : Option Value) (x7_17 : Option Value) (M_17 : zMt), D_X7_next_17 P M_17 = some r → Zw p l e { frames := 5, cells := 0, slots := 0, locals := 80 * (5) } s m args below meth c G b 8 (MQ below (zQ G b FQ) args s 0 0 (fun q : Nat => b ≤ q)) 0 0 17 [some (.ref (P)), some (.int x1_17), some (.int x2_17), some (.int x3_17), x4_17, x5_17, x6_17, x7_17] [] (L, M_17, N) := by
    intro x1_17 x2_17 x3_17 x4_17 x5_17 x6_17 x7_17 M_17 h
    unfold D_X7_next_17 at h
    refine a_aload_n X dX7_next_17 rfl ?_
    refine a_iconst (v := 1) X dX7_next_18 (by decide) ?_
    obtain ⟨e_19, f_19, h⟩ := zBx h
    refine a_callVv X dX7_next_19 miX7_refuse lm7_102 (t_X7_refuse (by assumption) f_19) (by assumption) rfl rfl rfl (Nat.le_of_ble_eq_true rfl) ⟨by decide, by decide, by decide, by decide⟩ ?_
    refine a_iret X hr dX7_next_22 ⟨by decide, by decide⟩ ?_
    subst hF
    rw [← Option.some.inj h]
    exact ⟨rfl, rfl⟩
  unfold D_X7_next at h
  refine a_iload_n X dX7_next_0 rfl ?_
  obtain ⟨e_1, f_1, h⟩ := zBx h
  refine a_callSx X dX7_next_1 miX7_isSeed lm7_237 (t_X7_isSeed f_1) rfl rfl (Nat.le_of_ble_eq_true rfl) ⟨by decide, by decide, by decide, by decide⟩ (fun r_1 S_1 q_1 => ?_)
  obtain ⟨rfl, rfl, b_1⟩ := q_1
  refine a_if_eq (tgt := 17) X dX7_next_4 (by decide) (fun h_4 => ?_) (fun h_4 => ?_)
  · replace h := (if_pos h_4).symm.trans h
    exact Zw.to2 (J_17 _ _ _ _ _ _ _ _ h) rfl rfl rfl
  · replace h := (if_neg h_4).symm.trans h
    refine a_iload_n X dX7_next_7 rfl ?_
    refine a_if_lt (tgt := 17) X dX7_next_8 (by decide) (fun h_8 => ?_) (fun h_8 => ?_)
    · replace h := (if_pos h_8).symm.trans h
      exact Zw.to2 (J_17 _ _ _ _ _ _ _ _ h) rfl rfl rfl
    · replace h := (if_neg h_8).symm.trans h
      refine a_iload_n X dX7_next_11 rfl ?_
      refine a_bipush (v := 20) X dX7_next_12 (by decide) ?_
      refine a_icmp_le (tgt := 23) X dX7_next_14 (by decide) (fun h_14 => ?_) (fun h_14 => ?_)
      · replace h := (if_pos h_14).symm.trans h
        refine a_aload_n X dX7_next_23 rfl ?_
        refine a_iload_n X dX7_next_24 rfl ?_
        obtain ⟨e_25, f_25, h⟩ := zBx h
        refine a_callVx X dX7_next_25 miX7_isUnit lm7_188 (t_X7_isUnit (by assumption) f_25) (by assumption) rfl rfl rfl (Nat.le_of_ble_eq_true rfl) ⟨by decide, by decide, by decide, by decide⟩ (fun r_25 S_25 q_25 => ?_)
        obtain ⟨rfl, rfl, b_25⟩ := q_25
        refine a_if_ne (tgt := 37) X dX7_next_28 (by decide) (fun h_28 => ?_) (fun h_28 => ?_)
        · replace h := (if_neg h_28).symm.trans h
          refine a_aload_n X dX7_next_37 rfl ?_
          refine a_getr X lf7_47 (by assumption) rfl (by omega) dX7_next_38 ?_
          refine a_aload_n X dX7_next_41 rfl ?_
          refine a_getr X lf7_40 (by assumption) rfl (by omega) dX7_next_42 ?_
          refine a_iload_n X dX7_next_45 rfl ?_
          obtain ⟨e_46, f_46, h⟩ := zBx h
          refine a_callVu X dX7_next_46 miX5_bySeed lm7_247 (t_X5_bySeed (by assumption) (by assumption) f_46) (by assumption) rfl rfl rfl (Nat.le_of_ble_eq_true rfl) ⟨by decide, by decide, by decide, by decide⟩ ?_
          refine a_aload_n X dX7_next_49 rfl ?_
          refine a_getr X lf7_47 (by assumption) rfl (by omega) dX7_next_50 ?_
          refine a_getr X lf7_256 (by assumption) rfl (by omega) dX7_next_53 ?_
          refine a_iload_n X dX7_next_56 rfl ?_
          refine a_callSv X dX7_next_57 miX7_cell lm7_175 (c_cell (by assumption) (by first | decide | assumption)) rfl rfl (Nat.le_of_ble_eq_true rfl) ⟨by decide, by decide, by decide, by decide⟩ ?_
          refine a_iload_n X dX7_next_60 rfl ?_
          refine a_iadd X dX7_next_61 ?_
          refine a_istore X dX7_next_62 (by decide) ?_
          refine a_aload_n X dX7_next_64 rfl ?_
          refine a_getr X lf7_47 (by assumption) rfl (by omega) dX7_next_65 ?_
          refine a_getr X lf7_259 (by assumption) rfl (by omega) dX7_next_68 ?_
          refine a_iload_n X dX7_next_71 rfl ?_
          refine a_callSv X dX7_next_72 miX7_cell lm7_175 (c_cell (by assumption) (by first | decide | assumption)) rfl rfl (Nat.le_of_ble_eq_true rfl) ⟨by decide, by decide, by decide, by decide⟩ ?_
          refine a_iload_n X dX7_next_75 rfl ?_
          refine a_iadd X dX7_next_76 ?_
          refine a_istore X dX7_next_77 (by decide) ?_
          refine a_iconst (v := 0) X dX7_next_79 (by decide) ?_
          refine a_istore X dX7_next_80 (by decide) ?_
          exact Zw.to2 (H_82 _ _ _ _ _ _ _ _ h) rfl rfl rfl
        · replace h := (if_pos h_28).symm.trans h
          refine a_aload_n X dX7_next_31 rfl ?_
          refine a_iconst (v := 2) X dX7_next_32 (by decide) ?_
          obtain ⟨e_33, f_33, h⟩ := zBx h
          refine a_callVv X dX7_next_33 miX7_refuse lm7_102 (t_X7_refuse (by assumption) f_33) (by assumption) rfl rfl rfl (Nat.le_of_ble_eq_true rfl) ⟨by decide, by decide, by decide, by decide⟩ ?_
          refine a_iret X hr dX7_next_36 ⟨by decide, by decide⟩ ?_
          subst hF
          rw [← Option.some.inj h]
          exact ⟨rfl, rfl⟩
      · replace h := (if_neg h_14).symm.trans h
        exact Zw.to2 (J_17 _ _ _ _ _ _ _ _ h) rfl rfl rfl
noncomputable def D_X7_envies_147 (P : Nat) (k44 : Int32 → Int32 → Int32 → zMt → Option (Int32 × zMt)) (x2_147 : Int32) (x3_147 : Int32) (x4_147 : Int32) (M_147 : zMt) : Option (Int32 × zMt) :=
  k44 x2_147 x3_147 (x4_147 + 1) M_147
noncomputable def D_X7_envies_44 (P : Nat) : Nat → Int32 → Int32 → Int32 → zMt → Option (Int32 × zMt)
  | 0, _, _, _, _ => none
  | n + 1, x2_44, x3_44, x4_44, M_44 =>
    if (M_44 (P + 91) 1) ≤ x4_44 then
      zB (D_X7_answer P x3_44 M_44) fun e_155 =>
      some (e_155.1, e_155.2)
    else
      if (zrd 0 (M_44 (P + 106)) 10 x4_44) = (-1 : Int32) then
        D_X7_envies_147 P (D_X7_envies_44 P n) x2_44 x3_44 x4_44 M_44
      else
        if (zrd 0 (M_44 (P + 98)) 10 x4_44) < (zrd 0 (M_44 (P + 98)) 10 x2_44) then
          zB (D_X2_rankOf (P + 91) M_44 x2_44 (zrd 0 (M_44 (P + 106)) 10 x4_44)) fun e_112 =>
          if e_112 = (-1 : Int32) then
            D_X7_envies_147 P (D_X7_envies_44 P n) x2_44 x3_44 x4_44 M_44
          else
            zB (D_X5_rankHeld (P + 104) (P + 91) M_44 x2_44) fun e_134 =>
            if e_134 ≤ e_112 then
              D_X7_envies_147 P (D_X7_envies_44 P n) x2_44 x3_44 x4_44 M_44
            else
              D_X7_envies_147 P (D_X7_envies_44 P n) x2_44 (x3_44 ||| ((1 : Int32) <<< (x4_44 &&& 31))) x4_44 M_44
        else
          D_X7_envies_147 P (D_X7_envies_44 P n) x2_44 x3_44 x4_44 M_44
noncomputable def D_X7_envies (P : Nat) (v0 : Int32) (v1 : Int32) (M : zMt) : Option (Int32 × zMt) :=
  zB (D_X7_isSeed v0) fun e_1 =>
  if e_1 = 0 then
    zB (D_X7_refuse P (1 : Int32) M) fun e_9 =>
    some (e_9.1, e_9.2)
  else
    zB (D_X7_isApplicant P M v1) fun e_15 =>
    if e_15 = 0 then
      zB (D_X7_refuse P (2 : Int32) M) fun e_23 =>
      some (e_23.1, e_23.2)
    else
      zB (D_X5_bySeed (P + 104) (P + 91) v0 M) fun e_36 =>
      D_X7_envies_44 P zFu v1 (0 : Int32) (0 : Int32) e_36
set_option maxRecDepth 100000 in
set_option maxHeartbeats 4000000 in
theorem t_X7_envies {l : Launch} {G : zG} {b : Nat} {L : List zC} {M : zMt} {N : zNt} {P : Nat} (hP : LX7 L P) {v0 : Int32} {v1 : Int32} {r : Int32 × zMt} (h : D_X7_envies P v0 v1 M = some r) : zM l G b yX7_envies cX7_envies 7 (some .int) 5 0 0 [.ref P, .int v0, .int v1] (L, M, N) (fun r2 z => r2 = some (.int r.1) ∧ z = (L, r.2, N)) := by
  refine zM.of miX7_envies (Nat.le_of_ble_eq_true rfl) ?_
  intro p e s m args below meth c X hr hname
  generalize hF : ((fun r2 z => r2 = some (.int r.1) ∧ z = (L, r.2, N)) : Option Value → zS → Prop) = FQ
  change Zw p l e { frames := 5, cells := 0, slots := 0, locals := 80 * (5) } s m args below meth c G b 7 (MQ below (zQ G b FQ) args s 0 0 (fun q : Nat => b ≤ q)) 0 0 0 [some (.ref P), some (.int v0), some (.int v1), none, none, none, none] [] (L, M, N)
  obtain ⟨p_lt, p_o, p_tape, p_out, p_reader, p_list, p_past, p_pool, p_result, p_odds, p_paper, p_trial, p_trialPool, p_trialResult, p_trialOdds⟩ := id hP
  obtain ⟨p_reader_lt, p_reader_o, p_reader_draft, p_reader_text, p_reader_unitNames, p_reader_hunterNames, p_reader_partyNames, p_reader_asked⟩ := id p_reader
  obtain ⟨p_list_lt, p_list_o, p_list_quota, p_list_score, p_list_guest, p_list_party, p_list_wishCount, p_list_wishes, p_list_has⟩ := id p_list
  obtain ⟨p_past_lt, p_past_o, p_past_stood, p_past_stood0, p_past_stood1, p_past_stood2, p_past_stood3, p_past_stood4, p_past_stood5, p_past_stood6, p_past_stood7⟩ := id p_past
  obtain ⟨p_pool_lt, p_pool_o, p_pool_quota, p_pool_preferred, p_pool_forGuests, p_pool_applicantOf, p_pool_size, p_pool_guestCount, p_pool_score, p_pool_tickets, p_pool_bits, p_pool_party, p_pool_wishCount, p_pool_wishes⟩ := id p_pool
  obtain ⟨p_result_lt, p_result_o, p_result_line, p_result_unitOf, p_result_roundOf, p_result_leftTags, p_result_leftGuests, p_result_leftPreferred, p_result_ranked⟩ := id p_result
  obtain ⟨p_odds_lt, p_odds_o, p_odds_sets, p_odds_seen, p_odds_atUnit, p_odds_early, p_odds_result⟩ := id p_odds
  obtain ⟨p_paper_lt, p_paper_o, p_paper_times, p_paper_firstWish, p_paper_dry, p_paper_list, p_paper_pool, p_paper_result⟩ := id p_paper
  obtain ⟨p_trial_lt, p_trial_o, p_trial_quota, p_trial_score, p_trial_guest, p_trial_party, p_trial_wishCount, p_trial_wishes, p_trial_has⟩ := id p_trial
  obtain ⟨p_trialPool_lt, p_trialPool_o, p_trialPool_quota, p_trialPool_preferred, p_trialPool_forGuests, p_trialPool_applicantOf, p_trialPool_size, p_trialPool_guestCount, p_trialPool_score, p_trialPool_tickets, p_trialPool_bits, p_trialPool_party, p_trialPool_wishCount, p_trialPool_wishes⟩ := id p_trialPool
  obtain ⟨p_trialResult_lt, p_trialResult_o, p_trialResult_line, p_trialResult_unitOf, p_trialResult_roundOf, p_trialResult_leftTags, p_trialResult_leftGuests, p_trialResult_leftPreferred, p_trialResult_ranked⟩ := id p_trialResult
  obtain ⟨p_trialOdds_lt, p_trialOdds_o, p_trialOdds_sets, p_trialOdds_seen, p_trialOdds_atUnit, p_trialOdds_early, p_trialOdds_result⟩ := id p_trialOdds
  have L_44 : ∀ u : Nat, ∀ (x1_44 : Int32) (x2_44 : Int32) (x3_44 : Int32) (x4_44 : Int32) (x5_44 : Option Value) (x6_44 : Option Value) (M_44 : zMt), D_X7_envies_44 P u x2_44 x3_44 x4_44 M_44 = some r → Zw p l e { frames := 5, cells := 0, slots := 0, locals := 80 * (5) } s m args below meth c G b 7 (MQ below (zQ G b FQ) args s 0 0 (fun q : Nat => b ≤ q)) 0 0 44 [some (.ref (P)), some (.int x1_44), some (.int x2_44), some (.int x3_44), some (.int x4_44), x5_44, x6_44] [] (L, M_44, N) := by
    intro u
    induction u with
    | zero => intro x1_44 x2_44 x3_44 x4_44 x5_44 x6_44 M_44 h; cases (show none = some r from h)
    | succ u_44 ih_44 =>
      have J_147 : ∀ (x1_147 : Int32) (x2_147 : Int32) (x3_147 : Int32) (x4_147 : Int32) (x5_147 : Int32) (x6_147 : Option Value) (M_147 : zMt), D_X7_envies_147 P (D_X7_envies_44 P u_44) x2_147 x3_147 x4_147 M_147 = some r → Zw p l e { frames := 5, cells := 0, slots := 0, locals := 80 * (5) } s m args below meth c G b 7 (MQ below (zQ G b FQ) args s 0 0 (fun q : Nat => b ≤ q)) 0 0 147 [some (.ref (P)), some (.int x1_147), some (.int x2_147), some (.int x3_147), some (.int x4_147), some (.int x5_147), x6_147] [] (L, M_147, N) := by
        intro x1_147 x2_147 x3_147 x4_147 x5_147 x6_147 M_147 h
        unfold D_X7_envies_147 at h
        refine a_iinc (v := x4_147 + 1) X dX7_envies_147 (by decide) rfl zi_1 ?_
        refine a_goto (tgt := 44) X dX7_envies_150 (by decide) ?_
        exact Zw.to2 (ih_44 _ _ _ _ _ _ _ h) rfl rfl rfl
      intro x1_44 x2_44 x3_44 x4_44 x5_44 x6_44 M_44 h
      rw [D_X7_envies_44] at h
      refine a_iload X dX7_envies_44 rfl ?_
      refine a_aload_n X dX7_envies_46 rfl ?_
      refine a_getr X lf7_40 (by assumption) rfl (by omega) dX7_envies_47 ?_
      refine a_geti X lf7_140 (by assumption) rfl dX7_envies_50 ?_
      refine a_icmp_ge (tgt := 153) X dX7_envies_53 (by decide) (fun h_53 => ?_) (fun h_53 => ?_)
      · replace h := (if_pos h_53).symm.trans h
        refine a_aload_n X dX7_envies_153 rfl ?_
        refine a_iload_n X dX7_envies_154 rfl ?_
        obtain ⟨e_155, f_155, h⟩ := zBx h
        refine a_callVv X dX7_envies_155 miX7_answer lm7_134 (t_X7_answer (by assumption) f_155) (by assumption) rfl rfl rfl (Nat.le_of_ble_eq_true rfl) ⟨by decide, by decide, by decide, by decide⟩ ?_
        refine a_iret X hr dX7_envies_158 ⟨by decide, by decide⟩ ?_
        subst hF
        rw [← Option.some.inj h]
        exact ⟨rfl, rfl⟩
      · replace h := (if_neg h_53).symm.trans h
        refine a_aload_n X dX7_envies_56 rfl ?_
        refine a_getr X lf7_47 (by assumption) rfl (by omega) dX7_envies_57 ?_
        refine a_getr X lf7_250 (by assumption) rfl (by omega) dX7_envies_60 ?_
        refine a_iload X dX7_envies_63 rfl ?_
        refine a_callSv X dX7_envies_65 miX7_cell lm7_175 (c_cell (by assumption) (by first | decide | assumption)) rfl rfl (Nat.le_of_ble_eq_true rfl) ⟨by decide, by decide, by decide, by decide⟩ ?_
        refine a_istore X dX7_envies_68 (by decide) ?_
        refine a_iload X dX7_envies_70 rfl ?_
        refine a_iconst (v := -1) X dX7_envies_72 (by decide) ?_
        refine a_icmp_eq (tgt := 147) X dX7_envies_73 (by decide) (fun h_73 => ?_) (fun h_73 => ?_)
        · replace h := (if_pos h_73).symm.trans h
          exact Zw.to2 (J_147 _ _ _ _ _ _ _ h) rfl rfl rfl
        · replace h := (if_neg h_73).symm.trans h
          refine a_aload_n X dX7_envies_76 rfl ?_
          refine a_getr X lf7_40 (by assumption) rfl (by omega) dX7_envies_77 ?_
          refine a_getr X lf7_215 (by assumption) rfl (by omega) dX7_envies_80 ?_
          refine a_iload X dX7_envies_83 rfl ?_
          refine a_callSv X dX7_envies_85 miX7_cell lm7_175 (c_cell (by assumption) (by first | decide | assumption)) rfl rfl (Nat.le_of_ble_eq_true rfl) ⟨by decide, by decide, by decide, by decide⟩ ?_
          refine a_aload_n X dX7_envies_88 rfl ?_
          refine a_getr X lf7_40 (by assumption) rfl (by omega) dX7_envies_89 ?_
          refine a_getr X lf7_215 (by assumption) rfl (by omega) dX7_envies_92 ?_
          refine a_iload_n X dX7_envies_95 rfl ?_
          refine a_callSv X dX7_envies_96 miX7_cell lm7_175 (c_cell (by assumption) (by first | decide | assumption)) rfl rfl (Nat.le_of_ble_eq_true rfl) ⟨by decide, by decide, by decide, by decide⟩ ?_
          refine a_icmp_lt (tgt := 105) X dX7_envies_99 (by decide) (fun h_99 => ?_) (fun h_99 => ?_)
          · replace h := (if_pos h_99).symm.trans h
            refine a_aload_n X dX7_envies_105 rfl ?_
            refine a_getr X lf7_40 (by assumption) rfl (by omega) dX7_envies_106 ?_
            refine a_iload_n X dX7_envies_109 rfl ?_
            refine a_iload X dX7_envies_110 rfl ?_
            obtain ⟨e_112, f_112, h⟩ := zBx h
            refine a_callVv X dX7_envies_112 miX2_rankOf lm7_277 (t_X2_rankOf (by assumption) f_112) (by assumption) rfl rfl rfl (Nat.le_of_ble_eq_true rfl) ⟨by decide, by decide, by decide, by decide⟩ ?_
            refine a_istore X dX7_envies_115 (by decide) ?_
            refine a_iload X dX7_envies_117 rfl ?_
            refine a_iconst (v := -1) X dX7_envies_119 (by decide) ?_
            refine a_icmp_eq (tgt := 147) X dX7_envies_120 (by decide) (fun h_120 => ?_) (fun h_120 => ?_)
            · replace h := (if_pos h_120).symm.trans h
              exact Zw.to2 (J_147 _ _ _ _ _ _ _ h) rfl rfl rfl
            · replace h := (if_neg h_120).symm.trans h
              refine a_iload X dX7_envies_123 rfl ?_
              refine a_aload_n X dX7_envies_125 rfl ?_
              refine a_getr X lf7_47 (by assumption) rfl (by omega) dX7_envies_126 ?_
              refine a_aload_n X dX7_envies_129 rfl ?_
              refine a_getr X lf7_40 (by assumption) rfl (by omega) dX7_envies_130 ?_
              refine a_iload_n X dX7_envies_133 rfl ?_
              obtain ⟨e_134, f_134, h⟩ := zBx h
              refine a_callVv X dX7_envies_134 miX5_rankHeld lm7_280 (t_X5_rankHeld (by assumption) (by assumption) f_134) (by assumption) rfl rfl rfl (Nat.le_of_ble_eq_true rfl) ⟨by decide, by decide, by decide, by decide⟩ ?_
              refine a_icmp_ge (tgt := 147) X dX7_envies_137 (by decide) (fun h_137 => ?_) (fun h_137 => ?_)
              · replace h := (if_pos h_137).symm.trans h
                exact Zw.to2 (J_147 _ _ _ _ _ _ _ h) rfl rfl rfl
              · replace h := (if_neg h_137).symm.trans h
                refine a_iload_n X dX7_envies_140 rfl ?_
                refine a_iconst (v := 1) X dX7_envies_141 (by decide) ?_
                refine a_iload X dX7_envies_142 rfl ?_
                refine a_ishl X dX7_envies_144 ?_
                refine a_ior X dX7_envies_145 ?_
                refine a_istore_n X dX7_envies_146 (by decide) ?_
                exact Zw.to2 (J_147 _ _ _ _ _ _ _ h) rfl rfl rfl
          · replace h := (if_neg h_99).symm.trans h
            refine a_goto (tgt := 147) X dX7_envies_102 (by decide) ?_
            exact Zw.to2 (J_147 _ _ _ _ _ _ _ h) rfl rfl rfl
  have H_44 : ∀ (x1_44 : Int32) (x2_44 : Int32) (x3_44 : Int32) (x4_44 : Int32) (x5_44 : Option Value) (x6_44 : Option Value) (M_44 : zMt), D_X7_envies_44 P zFu x2_44 x3_44 x4_44 M_44 = some r → Zw p l e { frames := 5, cells := 0, slots := 0, locals := 80 * (5) } s m args below meth c G b 7 (MQ below (zQ G b FQ) args s 0 0 (fun q : Nat => b ≤ q)) 0 0 44 [some (.ref (P)), some (.int x1_44), some (.int x2_44), some (.int x3_44), some (.int x4_44), x5_44, x6_44] [] (L, M_44, N) := L_44 zFu
  unfold D_X7_envies at h
  refine a_iload_n X dX7_envies_0 rfl ?_
  obtain ⟨e_1, f_1, h⟩ := zBx h
  refine a_callSx X dX7_envies_1 miX7_isSeed lm7_237 (t_X7_isSeed f_1) rfl rfl (Nat.le_of_ble_eq_true rfl) ⟨by decide, by decide, by decide, by decide⟩ (fun r_1 S_1 q_1 => ?_)
  obtain ⟨rfl, rfl, b_1⟩ := q_1
  refine a_if_ne (tgt := 13) X dX7_envies_4 (by decide) (fun h_4 => ?_) (fun h_4 => ?_)
  · replace h := (if_neg h_4).symm.trans h
    refine a_aload_n X dX7_envies_13 rfl ?_
    refine a_iload_n X dX7_envies_14 rfl ?_
    obtain ⟨e_15, f_15, h⟩ := zBx h
    refine a_callVx X dX7_envies_15 miX7_isApplicant lm7_206 (t_X7_isApplicant (by assumption) f_15) (by assumption) rfl rfl rfl (Nat.le_of_ble_eq_true rfl) ⟨by decide, by decide, by decide, by decide⟩ (fun r_15 S_15 q_15 => ?_)
    obtain ⟨rfl, rfl, b_15⟩ := q_15
    refine a_if_ne (tgt := 27) X dX7_envies_18 (by decide) (fun h_18 => ?_) (fun h_18 => ?_)
    · replace h := (if_neg h_18).symm.trans h
      refine a_aload_n X dX7_envies_27 rfl ?_
      refine a_getr X lf7_47 (by assumption) rfl (by omega) dX7_envies_28 ?_
      refine a_aload_n X dX7_envies_31 rfl ?_
      refine a_getr X lf7_40 (by assumption) rfl (by omega) dX7_envies_32 ?_
      refine a_iload_n X dX7_envies_35 rfl ?_
      obtain ⟨e_36, f_36, h⟩ := zBx h
      refine a_callVu X dX7_envies_36 miX5_bySeed lm7_247 (t_X5_bySeed (by assumption) (by assumption) f_36) (by assumption) rfl rfl rfl (Nat.le_of_ble_eq_true rfl) ⟨by decide, by decide, by decide, by decide⟩ ?_
      refine a_iconst (v := 0) X dX7_envies_39 (by decide) ?_
      refine a_istore_n X dX7_envies_40 (by decide) ?_
      refine a_iconst (v := 0) X dX7_envies_41 (by decide) ?_
      refine a_istore X dX7_envies_42 (by decide) ?_
      exact Zw.to2 (H_44 _ _ _ _ _ _ _ h) rfl rfl rfl
    · replace h := (if_pos h_18).symm.trans h
      refine a_aload_n X dX7_envies_21 rfl ?_
      refine a_iconst (v := 2) X dX7_envies_22 (by decide) ?_
      obtain ⟨e_23, f_23, h⟩ := zBx h
      refine a_callVv X dX7_envies_23 miX7_refuse lm7_102 (t_X7_refuse (by assumption) f_23) (by assumption) rfl rfl rfl (Nat.le_of_ble_eq_true rfl) ⟨by decide, by decide, by decide, by decide⟩ ?_
      refine a_iret X hr dX7_envies_26 ⟨by decide, by decide⟩ ?_
      subst hF
      rw [← Option.some.inj h]
      exact ⟨rfl, rfl⟩
  · replace h := (if_pos h_4).symm.trans h
    refine a_aload_n X dX7_envies_7 rfl ?_
    refine a_iconst (v := 1) X dX7_envies_8 (by decide) ?_
    obtain ⟨e_9, f_9, h⟩ := zBx h
    refine a_callVv X dX7_envies_9 miX7_refuse lm7_102 (t_X7_refuse (by assumption) f_9) (by assumption) rfl rfl rfl (Nat.le_of_ble_eq_true rfl) ⟨by decide, by decide, by decide, by decide⟩ ?_
    refine a_iret X hr dX7_envies_12 ⟨by decide, by decide⟩ ?_
    subst hF
    rw [← Option.some.inj h]
    exact ⟨rfl, rfl⟩
noncomputable def D_X7_spoils_153 (P : Nat) (k99 : Int32 → Int32 → Int32 → zMt → Option (Int32 × zMt)) (x2_153 : Int32) (x3_153 : Int32) (x4_153 : Int32) (M_153 : zMt) : Option (Int32 × zMt) :=
  k99 x2_153 x3_153 (x4_153 + 1) M_153
noncomputable def D_X7_spoils_99 (P : Nat) : Nat → Int32 → Int32 → Int32 → zMt → Option (Int32 × zMt)
  | 0, _, _, _, _ => none
  | n + 1, x2_99, x3_99, x4_99, M_99 =>
    if (M_99 (P + 91) 1) ≤ x4_99 then
      zB (D_X7_answer P x3_99 M_99) fun e_161 =>
      some (e_161.1, e_161.2)
    else
      if x4_99 = x2_99 then
        D_X7_spoils_153 P (D_X7_spoils_99 P n) x2_99 x3_99 x4_99 M_99
      else
        zB (D_X5_rankHeld (P + 179) (P + 166) M_99 x4_99) fun e_127 =>
        zB (D_X5_rankHeld (P + 104) (P + 91) M_99 x4_99) fun e_140 =>
        if e_140 ≤ e_127 then
          D_X7_spoils_153 P (D_X7_spoils_99 P n) x2_99 x3_99 x4_99 M_99
        else
          D_X7_spoils_153 P (D_X7_spoils_99 P n) x2_99 (x3_99 ||| ((1 : Int32) <<< (x4_99 &&& 31))) x4_99 M_99
noncomputable def D_X7_spoils (P : Nat) (v0 : Int32) (v1 : Int32) (M : zMt) : Option (Int32 × zMt) :=
  zB (D_X7_isSeed v0) fun e_1 =>
  if e_1 = 0 then
    zB (D_X7_refuse P (1 : Int32) M) fun e_9 =>
    some (e_9.1, e_9.2)
  else
    zB (D_X7_isApplicant P M v1) fun e_15 =>
    if e_15 = 0 then
      zB (D_X7_refuse P (2 : Int32) M) fun e_23 =>
      some (e_23.1, e_23.2)
    else
      zB (D_X5_bySeed (P + 104) (P + 91) v0 M) fun e_36 =>
      zB (D_X4_take (P + 158) (P + 17) e_36) fun e_47 =>
      zB (D_X4_wishFor (P + 158) (zrd 0 (e_47 (P + 100)) 10 v1) (-1 : Int32) (-1 : Int32) (-1 : Int32) e_47) fun e_68 =>
      zB (D_X2_gather (P + 166) (P + 158) e_68) fun e_79 =>
      zB (D_X5_bySeed (P + 179) (P + 166) v0 e_79) fun e_91 =>
      D_X7_spoils_99 P zFu v1 (0 : Int32) (0 : Int32) e_91
set_option maxRecDepth 100000 in
set_option maxHeartbeats 4000000 in
theorem t_X7_spoils {l : Launch} {G : zG} {b : Nat} {L : List zC} {M : zMt} {N : zNt} {P : Nat} (hP : LX7 L P) {v0 : Int32} {v1 : Int32} {r : Int32 × zMt} (h : D_X7_spoils P v0 v1 M = some r) : zM l G b yX7_spoils cX7_spoils 5 (some .int) 5 0 0 [.ref P, .int v0, .int v1] (L, M, N) (fun r2 z => r2 = some (.int r.1) ∧ z = (L, r.2, N)) := by
  refine zM.of miX7_spoils (Nat.le_of_ble_eq_true rfl) ?_
  intro p e s m args below meth c X hr hname
  generalize hF : ((fun r2 z => r2 = some (.int r.1) ∧ z = (L, r.2, N)) : Option Value → zS → Prop) = FQ
  change Zw p l e { frames := 5, cells := 0, slots := 0, locals := 80 * (5) } s m args below meth c G b 5 (MQ below (zQ G b FQ) args s 0 0 (fun q : Nat => b ≤ q)) 0 0 0 [some (.ref P), some (.int v0), some (.int v1), none, none] [] (L, M, N)
  obtain ⟨p_lt, p_o, p_tape, p_out, p_reader, p_list, p_past, p_pool, p_result, p_odds, p_paper, p_trial, p_trialPool, p_trialResult, p_trialOdds⟩ := id hP
  obtain ⟨p_reader_lt, p_reader_o, p_reader_draft, p_reader_text, p_reader_unitNames, p_reader_hunterNames, p_reader_partyNames, p_reader_asked⟩ := id p_reader
  obtain ⟨p_list_lt, p_list_o, p_list_quota, p_list_score, p_list_guest, p_list_party, p_list_wishCount, p_list_wishes, p_list_has⟩ := id p_list
  obtain ⟨p_past_lt, p_past_o, p_past_stood, p_past_stood0, p_past_stood1, p_past_stood2, p_past_stood3, p_past_stood4, p_past_stood5, p_past_stood6, p_past_stood7⟩ := id p_past
  obtain ⟨p_pool_lt, p_pool_o, p_pool_quota, p_pool_preferred, p_pool_forGuests, p_pool_applicantOf, p_pool_size, p_pool_guestCount, p_pool_score, p_pool_tickets, p_pool_bits, p_pool_party, p_pool_wishCount, p_pool_wishes⟩ := id p_pool
  obtain ⟨p_result_lt, p_result_o, p_result_line, p_result_unitOf, p_result_roundOf, p_result_leftTags, p_result_leftGuests, p_result_leftPreferred, p_result_ranked⟩ := id p_result
  obtain ⟨p_odds_lt, p_odds_o, p_odds_sets, p_odds_seen, p_odds_atUnit, p_odds_early, p_odds_result⟩ := id p_odds
  obtain ⟨p_paper_lt, p_paper_o, p_paper_times, p_paper_firstWish, p_paper_dry, p_paper_list, p_paper_pool, p_paper_result⟩ := id p_paper
  obtain ⟨p_trial_lt, p_trial_o, p_trial_quota, p_trial_score, p_trial_guest, p_trial_party, p_trial_wishCount, p_trial_wishes, p_trial_has⟩ := id p_trial
  obtain ⟨p_trialPool_lt, p_trialPool_o, p_trialPool_quota, p_trialPool_preferred, p_trialPool_forGuests, p_trialPool_applicantOf, p_trialPool_size, p_trialPool_guestCount, p_trialPool_score, p_trialPool_tickets, p_trialPool_bits, p_trialPool_party, p_trialPool_wishCount, p_trialPool_wishes⟩ := id p_trialPool
  obtain ⟨p_trialResult_lt, p_trialResult_o, p_trialResult_line, p_trialResult_unitOf, p_trialResult_roundOf, p_trialResult_leftTags, p_trialResult_leftGuests, p_trialResult_leftPreferred, p_trialResult_ranked⟩ := id p_trialResult
  obtain ⟨p_trialOdds_lt, p_trialOdds_o, p_trialOdds_sets, p_trialOdds_seen, p_trialOdds_atUnit, p_trialOdds_early, p_trialOdds_result⟩ := id p_trialOdds
  have L_99 : ∀ u : Nat, ∀ (x1_99 : Int32) (x2_99 : Int32) (x3_99 : Int32) (x4_99 : Int32) (M_99 : zMt), D_X7_spoils_99 P u x2_99 x3_99 x4_99 M_99 = some r → Zw p l e { frames := 5, cells := 0, slots := 0, locals := 80 * (5) } s m args below meth c G b 5 (MQ below (zQ G b FQ) args s 0 0 (fun q : Nat => b ≤ q)) 0 0 99 [some (.ref (P)), some (.int x1_99), some (.int x2_99), some (.int x3_99), some (.int x4_99)] [] (L, M_99, N) := by
    intro u
    induction u with
    | zero => intro x1_99 x2_99 x3_99 x4_99 M_99 h; cases (show none = some r from h)
    | succ u_99 ih_99 =>
      have J_153 : ∀ (x1_153 : Int32) (x2_153 : Int32) (x3_153 : Int32) (x4_153 : Int32) (M_153 : zMt), D_X7_spoils_153 P (D_X7_spoils_99 P u_99) x2_153 x3_153 x4_153 M_153 = some r → Zw p l e { frames := 5, cells := 0, slots := 0, locals := 80 * (5) } s m args below meth c G b 5 (MQ below (zQ G b FQ) args s 0 0 (fun q : Nat => b ≤ q)) 0 0 153 [some (.ref (P)), some (.int x1_153), some (.int x2_153), some (.int x3_153), some (.int x4_153)] [] (L, M_153, N) := by
        intro x1_153 x2_153 x3_153 x4_153 M_153 h
        unfold D_X7_spoils_153 at h
        refine a_iinc (v := x4_153 + 1) X dX7_spoils_153 (by decide) rfl zi_1 ?_
        refine a_goto (tgt := 99) X dX7_spoils_156 (by decide) ?_
        exact Zw.to2 (ih_99 _ _ _ _ _ h) rfl rfl rfl
      intro x1_99 x2_99 x3_99 x4_99 M_99 h
      rw [D_X7_spoils_99] at h
      refine a_iload X dX7_spoils_99 rfl ?_
      refine a_aload_n X dX7_spoils_101 rfl ?_
      refine a_getr X lf7_40 (by assumption) rfl (by omega) dX7_spoils_102 ?_
      refine a_geti X lf7_140 (by assumption) rfl dX7_spoils_105 ?_
      refine a_icmp_ge (tgt := 159) X dX7_spoils_108 (by decide) (fun h_108 => ?_) (fun h_108 => ?_)
      · replace h := (if_pos h_108).symm.trans h
        refine a_aload_n X dX7_spoils_159 rfl ?_
        refine a_iload_n X dX7_spoils_160 rfl ?_
        obtain ⟨e_161, f_161, h⟩ := zBx h
        refine a_callVv X dX7_spoils_161 miX7_answer lm7_134 (t_X7_answer (by assumption) f_161) (by assumption) rfl rfl rfl (Nat.le_of_ble_eq_true rfl) ⟨by decide, by decide, by decide, by decide⟩ ?_
        refine a_iret X hr dX7_spoils_164 ⟨by decide, by decide⟩ ?_
        subst hF
        rw [← Option.some.inj h]
        exact ⟨rfl, rfl⟩
      · replace h := (if_neg h_108).symm.trans h
        refine a_iload X dX7_spoils_111 rfl ?_
        refine a_iload_n X dX7_spoils_113 rfl ?_
        refine a_icmp_eq (tgt := 153) X dX7_spoils_114 (by decide) (fun h_114 => ?_) (fun h_114 => ?_)
        · replace h := (if_pos h_114).symm.trans h
          exact Zw.to2 (J_153 _ _ _ _ _ h) rfl rfl rfl
        · replace h := (if_neg h_114).symm.trans h
          refine a_aload_n X dX7_spoils_117 rfl ?_
          refine a_getr X lf7_71 (by assumption) rfl (by omega) dX7_spoils_118 ?_
          refine a_aload_n X dX7_spoils_121 rfl ?_
          refine a_getr X lf7_68 (by assumption) rfl (by omega) dX7_spoils_122 ?_
          refine a_iload X dX7_spoils_125 rfl ?_
          obtain ⟨e_127, f_127, h⟩ := zBx h
          refine a_callVv X dX7_spoils_127 miX5_rankHeld lm7_280 (t_X5_rankHeld (by assumption) (by assumption) f_127) (by assumption) rfl rfl rfl (Nat.le_of_ble_eq_true rfl) ⟨by decide, by decide, by decide, by decide⟩ ?_
          refine a_aload_n X dX7_spoils_130 rfl ?_
          refine a_getr X lf7_47 (by assumption) rfl (by omega) dX7_spoils_131 ?_
          refine a_aload_n X dX7_spoils_134 rfl ?_
          refine a_getr X lf7_40 (by assumption) rfl (by omega) dX7_spoils_135 ?_
          refine a_iload X dX7_spoils_138 rfl ?_
          obtain ⟨e_140, f_140, h⟩ := zBx h
          refine a_callVv X dX7_spoils_140 miX5_rankHeld lm7_280 (t_X5_rankHeld (by assumption) (by assumption) f_140) (by assumption) rfl rfl rfl (Nat.le_of_ble_eq_true rfl) ⟨by decide, by decide, by decide, by decide⟩ ?_
          refine a_icmp_ge (tgt := 153) X dX7_spoils_143 (by decide) (fun h_143 => ?_) (fun h_143 => ?_)
          · replace h := (if_pos h_143).symm.trans h
            exact Zw.to2 (J_153 _ _ _ _ _ h) rfl rfl rfl
          · replace h := (if_neg h_143).symm.trans h
            refine a_iload_n X dX7_spoils_146 rfl ?_
            refine a_iconst (v := 1) X dX7_spoils_147 (by decide) ?_
            refine a_iload X dX7_spoils_148 rfl ?_
            refine a_ishl X dX7_spoils_150 ?_
            refine a_ior X dX7_spoils_151 ?_
            refine a_istore_n X dX7_spoils_152 (by decide) ?_
            exact Zw.to2 (J_153 _ _ _ _ _ h) rfl rfl rfl
  have H_99 : ∀ (x1_99 : Int32) (x2_99 : Int32) (x3_99 : Int32) (x4_99 : Int32) (M_99 : zMt), D_X7_spoils_99 P zFu x2_99 x3_99 x4_99 M_99 = some r → Zw p l e { frames := 5, cells := 0, slots := 0, locals := 80 * (5) } s m args below meth c G b 5 (MQ below (zQ G b FQ) args s 0 0 (fun q : Nat => b ≤ q)) 0 0 99 [some (.ref (P)), some (.int x1_99), some (.int x2_99), some (.int x3_99), some (.int x4_99)] [] (L, M_99, N) := L_99 zFu
  unfold D_X7_spoils at h
  refine a_iload_n X dX7_spoils_0 rfl ?_
  obtain ⟨e_1, f_1, h⟩ := zBx h
  refine a_callSx X dX7_spoils_1 miX7_isSeed lm7_237 (t_X7_isSeed f_1) rfl rfl (Nat.le_of_ble_eq_true rfl) ⟨by decide, by decide, by decide, by decide⟩ (fun r_1 S_1 q_1 => ?_)
  obtain ⟨rfl, rfl, b_1⟩ := q_1
  refine a_if_ne (tgt := 13) X dX7_spoils_4 (by decide) (fun h_4 => ?_) (fun h_4 => ?_)
  · replace h := (if_neg h_4).symm.trans h
    refine a_aload_n X dX7_spoils_13 rfl ?_
    refine a_iload_n X dX7_spoils_14 rfl ?_
    obtain ⟨e_15, f_15, h⟩ := zBx h
    refine a_callVx X dX7_spoils_15 miX7_isApplicant lm7_206 (t_X7_isApplicant (by assumption) f_15) (by assumption) rfl rfl rfl (Nat.le_of_ble_eq_true rfl) ⟨by decide, by decide, by decide, by decide⟩ (fun r_15 S_15 q_15 => ?_)
    obtain ⟨rfl, rfl, b_15⟩ := q_15
    refine a_if_ne (tgt := 27) X dX7_spoils_18 (by decide) (fun h_18 => ?_) (fun h_18 => ?_)
    · replace h := (if_neg h_18).symm.trans h
      refine a_aload_n X dX7_spoils_27 rfl ?_
      refine a_getr X lf7_47 (by assumption) rfl (by omega) dX7_spoils_28 ?_
      refine a_aload_n X dX7_spoils_31 rfl ?_
      refine a_getr X lf7_40 (by assumption) rfl (by omega) dX7_spoils_32 ?_
      refine a_iload_n X dX7_spoils_35 rfl ?_
      obtain ⟨e_36, f_36, h⟩ := zBx h
      refine a_callVu X dX7_spoils_36 miX5_bySeed lm7_247 (t_X5_bySeed (by assumption) (by assumption) f_36) (by assumption) rfl rfl rfl (Nat.le_of_ble_eq_true rfl) ⟨by decide, by decide, by decide, by decide⟩ ?_
      refine a_aload_n X dX7_spoils_39 rfl ?_
      refine a_getr X lf7_65 (by assumption) rfl (by omega) dX7_spoils_40 ?_
      refine a_aload_n X dX7_spoils_43 rfl ?_
      refine a_getr X lf7_26 (by assumption) rfl (by omega) dX7_spoils_44 ?_
      obtain ⟨e_47, f_47, h⟩ := zBx h
      refine a_callVu X dX7_spoils_47 miX4_take lm7_113 (t_X4_take (by assumption) (by assumption) (by omega) f_47) (by assumption) rfl rfl rfl (Nat.le_of_ble_eq_true rfl) ⟨by decide, by decide, by decide, by decide⟩ ?_
      refine a_aload_n X dX7_spoils_50 rfl ?_
      refine a_getr X lf7_65 (by assumption) rfl (by omega) dX7_spoils_51 ?_
      refine a_aload_n X dX7_spoils_54 rfl ?_
      refine a_getr X lf7_40 (by assumption) rfl (by omega) dX7_spoils_55 ?_
      refine a_getr X lf7_222 (by assumption) rfl (by omega) dX7_spoils_58 ?_
      refine a_iload_n X dX7_spoils_61 rfl ?_
      refine a_callSv X dX7_spoils_62 miX7_cell lm7_175 (c_cell (by assumption) (by first | decide | assumption)) rfl rfl (Nat.le_of_ble_eq_true rfl) ⟨by decide, by decide, by decide, by decide⟩ ?_
      refine a_iconst (v := -1) X dX7_spoils_65 (by decide) ?_
      refine a_iconst (v := -1) X dX7_spoils_66 (by decide) ?_
      refine a_iconst (v := -1) X dX7_spoils_67 (by decide) ?_
      obtain ⟨e_68, f_68, h⟩ := zBx h
      refine a_callVu X dX7_spoils_68 miX4_wishFor lm7_283 (t_X4_wishFor (by assumption) f_68) (by assumption) rfl rfl rfl (Nat.le_of_ble_eq_true rfl) ⟨by decide, by decide, by decide, by decide⟩ ?_
      refine a_aload_n X dX7_spoils_71 rfl ?_
      refine a_getr X lf7_68 (by assumption) rfl (by omega) dX7_spoils_72 ?_
      refine a_aload_n X dX7_spoils_75 rfl ?_
      refine a_getr X lf7_65 (by assumption) rfl (by omega) dX7_spoils_76 ?_
      obtain ⟨e_79, f_79, h⟩ := zBx h
      refine a_callVu X dX7_spoils_79 miX2_gather lm7_80 (t_X2_gather (by assumption) (by assumption) f_79) (by assumption) rfl rfl rfl (Nat.le_of_ble_eq_true rfl) ⟨by decide, by decide, by decide, by decide⟩ ?_
      refine a_aload_n X dX7_spoils_82 rfl ?_
      refine a_getr X lf7_71 (by assumption) rfl (by omega) dX7_spoils_83 ?_
      refine a_aload_n X dX7_spoils_86 rfl ?_
      refine a_getr X lf7_68 (by assumption) rfl (by omega) dX7_spoils_87 ?_
      refine a_iload_n X dX7_spoils_90 rfl ?_
      obtain ⟨e_91, f_91, h⟩ := zBx h
      refine a_callVu X dX7_spoils_91 miX5_bySeed lm7_247 (t_X5_bySeed (by assumption) (by assumption) f_91) (by assumption) rfl rfl rfl (Nat.le_of_ble_eq_true rfl) ⟨by decide, by decide, by decide, by decide⟩ ?_
      refine a_iconst (v := 0) X dX7_spoils_94 (by decide) ?_
      refine a_istore_n X dX7_spoils_95 (by decide) ?_
      refine a_iconst (v := 0) X dX7_spoils_96 (by decide) ?_
      refine a_istore X dX7_spoils_97 (by decide) ?_
      exact Zw.to2 (H_99 _ _ _ _ _ h) rfl rfl rfl
    · replace h := (if_pos h_18).symm.trans h
      refine a_aload_n X dX7_spoils_21 rfl ?_
      refine a_iconst (v := 2) X dX7_spoils_22 (by decide) ?_
      obtain ⟨e_23, f_23, h⟩ := zBx h
      refine a_callVv X dX7_spoils_23 miX7_refuse lm7_102 (t_X7_refuse (by assumption) f_23) (by assumption) rfl rfl rfl (Nat.le_of_ble_eq_true rfl) ⟨by decide, by decide, by decide, by decide⟩ ?_
      refine a_iret X hr dX7_spoils_26 ⟨by decide, by decide⟩ ?_
      subst hF
      rw [← Option.some.inj h]
      exact ⟨rfl, rfl⟩
  · replace h := (if_pos h_4).symm.trans h
    refine a_aload_n X dX7_spoils_7 rfl ?_
    refine a_iconst (v := 1) X dX7_spoils_8 (by decide) ?_
    obtain ⟨e_9, f_9, h⟩ := zBx h
    refine a_callVv X dX7_spoils_9 miX7_refuse lm7_102 (t_X7_refuse (by assumption) f_9) (by assumption) rfl rfl rfl (Nat.le_of_ble_eq_true rfl) ⟨by decide, by decide, by decide, by decide⟩ ?_
    refine a_iret X hr dX7_spoils_12 ⟨by decide, by decide⟩ ?_
    subst hF
    rw [← Option.some.inj h]
    exact ⟨rfl, rfl⟩
