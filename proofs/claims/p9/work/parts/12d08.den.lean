noncomputable def D_X7_envies_147 (P : Nat) (k44 : Int32 → Int32 → Int32 → zMt → Option (Int32 × zMt)) (x2_147 : Int32) (x3_147 : Int32) (x4_147 : Int32) (M_147 : zMt) : Option (Int32 × zMt) :=
  k44 x2_147 x3_147 (x4_147 + 1) M_147
noncomputable def D_X7_envies_44 (P : Nat) : Nat → Int32 → Int32 → Int32 → zMt → Option (Int32 × zMt)
  | 0, _, _, _, _ => none
  | n + 1, x2_44, x3_44, x4_44, M_44 =>
    if (M_44 (P + 91) 1) ≤ x4_44 then
      zB (D_X7_answer P x3_44 M_44) fun e_155 =>
      some (e_155.1, e_155.2)
    else
      if (zrd 0 (M_44 (P + 106)) 10 x4_44) = (-1 : Int32) then
        D_X7_envies_147 P (D_X7_envies_44 P n) x2_44 x3_44 x4_44 M_44
      else
        if (zrd 0 (M_44 (P + 98)) 10 x4_44) < (zrd 0 (M_44 (P + 98)) 10 x2_44) then
          zB (D_X2_rankOf (P + 91) M_44 x2_44 (zrd 0 (M_44 (P + 106)) 10 x4_44)) fun e_112 =>
          if e_112 = (-1 : Int32) then
            D_X7_envies_147 P (D_X7_envies_44 P n) x2_44 x3_44 x4_44 M_44
          else
            zB (D_X5_rankHeld (P + 104) (P + 91) M_44 x2_44) fun e_134 =>
            if e_134 ≤ e_112 then
              D_X7_envies_147 P (D_X7_envies_44 P n) x2_44 x3_44 x4_44 M_44
            else
              D_X7_envies_147 P (D_X7_envies_44 P n) x2_44 (x3_44 ||| ((1 : Int32) <<< (x4_44 &&& 31))) x4_44 M_44
        else
          D_X7_envies_147 P (D_X7_envies_44 P n) x2_44 x3_44 x4_44 M_44
noncomputable def D_X7_envies (P : Nat) (v0 : Int32) (v1 : Int32) (M : zMt) : Option (Int32 × zMt) :=
  zB (D_X7_isSeed v0) fun e_1 =>
  if e_1 = 0 then
    zB (D_X7_refuse P (1 : Int32) M) fun e_9 =>
    some (e_9.1, e_9.2)
  else
    zB (D_X7_isApplicant P M v1) fun e_15 =>
    if e_15 = 0 then
      zB (D_X7_refuse P (2 : Int32) M) fun e_23 =>
      some (e_23.1, e_23.2)
    else
      zB (D_X5_bySeed (P + 104) (P + 91) v0 M) fun e_36 =>
      D_X7_envies_44 P zFu v1 (0 : Int32) (0 : Int32) e_36
set_option maxRecDepth 100000 in
set_option maxHeartbeats 4000000 in
theorem t_X7_envies {l : Launch} {G : zG} {b : Nat} {L : List zC} {M : zMt} {N : zNt} {P : Nat} {v0 : Int32} {v1 : Int32} (hP : LX7 L P) {r : Int32 × zMt} (h : D_X7_envies P v0 v1 M = some r) : zM l G b yX7_envies cX7_envies 7 (some .int) 5 0 0 [.ref P, .int v0, .int v1] (L, M, N) (fun r2 z => r2 = some (.int r.1) ∧ z = (L, r.2, N)) := by
  refine zM.of miX7_envies (Nat.le_of_ble_eq_true rfl) ?_
  intro p e s m args below meth c X hr hname
  generalize hF : ((fun r2 z => r2 = some (.int r.1) ∧ z = (L, r.2, N)) : Option Value → zS → Prop) = FQ
  change Zw p l e { frames := 5, cells := 0, slots := 0, locals := 80 * (5) } s m args below meth c G b 7 (MQ below (zQ G b FQ) args s 0 0 (fun q : Nat => b ≤ q)) 0 0 0 [some (.ref P), some (.int v0), some (.int v1), none, none, none, none] [] (L, M, N)
  obtain ⟨p_lt, p_o, p_tape, p_out, p_reader, p_list, p_past, p_pool, p_result, p_odds, p_paper, p_trial, p_trialPool, p_trialResult, p_trialOdds⟩ := id hP
  obtain ⟨p_reader_lt, p_reader_o, p_reader_draft, p_reader_text, p_reader_unitNames, p_reader_hunterNames, p_reader_partyNames, p_reader_asked⟩ := id p_reader
  obtain ⟨p_list_lt, p_list_o, p_list_quota, p_list_score, p_list_guest, p_list_party, p_list_wishCount, p_list_wishes, p_list_has⟩ := id p_list
  obtain ⟨p_past_lt, p_past_o, p_past_stood, p_past_stood0, p_past_stood1, p_past_stood2, p_past_stood3, p_past_stood4, p_past_stood5, p_past_stood6, p_past_stood7⟩ := id p_past
  obtain ⟨p_pool_lt, p_pool_o, p_pool_quota, p_pool_preferred, p_pool_forGuests, p_pool_applicantOf, p_pool_size, p_pool_guestCount, p_pool_score, p_pool_tickets, p_pool_bits, p_pool_party, p_pool_wishCount, p_pool_wishes⟩ := id p_pool
  obtain ⟨p_result_lt, p_result_o, p_result_line, p_result_unitOf, p_result_roundOf, p_result_leftTags, p_result_leftGuests, p_result_leftPreferred, p_result_ranked⟩ := id p_result
  obtain ⟨p_odds_lt, p_odds_o, p_odds_sets, p_odds_seen, p_odds_atUnit, p_odds_early, p_odds_result⟩ := id p_odds
  obtain ⟨p_paper_lt, p_paper_o, p_paper_times, p_paper_firstWish, p_paper_dry, p_paper_list, p_paper_pool, p_paper_result⟩ := id p_paper
  obtain ⟨p_trial_lt, p_trial_o, p_trial_quota, p_trial_score, p_trial_guest, p_trial_party, p_trial_wishCount, p_trial_wishes, p_trial_has⟩ := id p_trial
  obtain ⟨p_trialPool_lt, p_trialPool_o, p_trialPool_quota, p_trialPool_preferred, p_trialPool_forGuests, p_trialPool_applicantOf, p_trialPool_size, p_trialPool_guestCount, p_trialPool_score, p_trialPool_tickets, p_trialPool_bits, p_trialPool_party, p_trialPool_wishCount, p_trialPool_wishes⟩ := id p_trialPool
  obtain ⟨p_trialResult_lt, p_trialResult_o, p_trialResult_line, p_trialResult_unitOf, p_trialResult_roundOf, p_trialResult_leftTags, p_trialResult_leftGuests, p_trialResult_leftPreferred, p_trialResult_ranked⟩ := id p_trialResult
  obtain ⟨p_trialOdds_lt, p_trialOdds_o, p_trialOdds_sets, p_trialOdds_seen, p_trialOdds_atUnit, p_trialOdds_early, p_trialOdds_result⟩ := id p_trialOdds
  have L_44 : ∀ u : Nat, ∀ (x1_44 : Int32) (x2_44 : Int32) (x3_44 : Int32) (x4_44 : Int32) (x5_44 : Option Value) (x6_44 : Option Value) (M_44 : zMt), D_X7_envies_44 P u x2_44 x3_44 x4_44 M_44 = some r → Zw p l e { frames := 5, cells := 0, slots := 0, locals := 80 * (5) } s m args below meth c G b 7 (MQ below (zQ G b FQ) args s 0 0 (fun q : Nat => b ≤ q)) 0 0 44 [some (.ref (P)), some (.int x1_44), some (.int x2_44), some (.int x3_44), some (.int x4_44), x5_44, x6_44] [] (L, M_44, N) := by
    intro u
    induction u with
    | zero => intro x1_44 x2_44 x3_44 x4_44 x5_44 x6_44 M_44 h; cases (show none = some r from h)
    | succ u_44 ih_44 =>
      have J_147 : ∀ (x1_147 : Int32) (x2_147 : Int32) (x3_147 : Int32) (x4_147 : Int32) (x5_147 : Int32) (x6_147 : Option Value) (M_147 : zMt), D_X7_envies_147 P (D_X7_envies_44 P u_44) x2_147 x3_147 x4_147 M_147 = some r → Zw p l e { frames := 5, cells := 0, slots := 0, locals := 80 * (5) } s m args below meth c G b 7 (MQ below (zQ G b FQ) args s 0 0 (fun q : Nat => b ≤ q)) 0 0 147 [some (.ref (P)), some (.int x1_147), some (.int x2_147), some (.int x3_147), some (.int x4_147), some (.int x5_147), x6_147] [] (L, M_147, N) := by
        intro x1_147 x2_147 x3_147 x4_147 x5_147 x6_147 M_147 h
        unfold D_X7_envies_147 at h
        refine a_iinc (v := x4_147 + 1) X dX7_envies_147 (by decide) rfl zi_1 ?_
        refine a_goto (tgt := 44) X dX7_envies_150 (by decide) ?_
        exact Zw.to2 (ih_44 _ _ _ _ _ _ _ h) rfl rfl rfl
      intro x1_44 x2_44 x3_44 x4_44 x5_44 x6_44 M_44 h
      rw [D_X7_envies_44] at h
      refine a_iload X dX7_envies_44 rfl ?_
      refine a_aload_n X dX7_envies_46 rfl ?_
      refine a_getr X lf7_40 (by assumption) rfl (by omega) dX7_envies_47 ?_
      refine a_geti X lf7_140 (by assumption) rfl dX7_envies_50 ?_
      refine a_icmp_ge (tgt := 153) X dX7_envies_53 (by decide) (fun h_53 => ?_) (fun h_53 => ?_)
      · replace h := (if_pos h_53).symm.trans h
        refine a_aload_n X dX7_envies_153 rfl ?_
        refine a_iload_n X dX7_envies_154 rfl ?_
        obtain ⟨e_155, f_155, h⟩ := zBx h
        refine a_callVv X dX7_envies_155 miX7_answer lm7_134 (t_X7_answer (by assumption) f_155) (by assumption) rfl rfl rfl (Nat.le_of_ble_eq_true rfl) ⟨by decide, by decide, by decide, by decide⟩ ?_
        refine a_iret X hr dX7_envies_158 ⟨by decide, by decide⟩ ?_
        subst hF
        rw [← Option.some.inj h]
        exact ⟨rfl, rfl⟩
      · replace h := (if_neg h_53).symm.trans h
        refine a_aload_n X dX7_envies_56 rfl ?_
        refine a_getr X lf7_47 (by assumption) rfl (by omega) dX7_envies_57 ?_
        refine a_getr X lf7_250 (by assumption) rfl (by omega) dX7_envies_60 ?_
        refine a_iload X dX7_envies_63 rfl ?_
        refine a_callSv X dX7_envies_65 miX7_cell lm7_175 (c_cell (by assumption) (by first | decide | assumption)) rfl rfl (Nat.le_of_ble_eq_true rfl) ⟨by decide, by decide, by decide, by decide⟩ ?_
        refine a_istore X dX7_envies_68 (by decide) ?_
        refine a_iload X dX7_envies_70 rfl ?_
        refine a_iconst (v := -1) X dX7_envies_72 (by decide) ?_
        refine a_icmp_eq (tgt := 147) X dX7_envies_73 (by decide) (fun h_73 => ?_) (fun h_73 => ?_)
        · replace h := (if_pos h_73).symm.trans h
          exact Zw.to2 (J_147 _ _ _ _ _ _ _ h) rfl rfl rfl
        · replace h := (if_neg h_73).symm.trans h
          refine a_aload_n X dX7_envies_76 rfl ?_
          refine a_getr X lf7_40 (by assumption) rfl (by omega) dX7_envies_77 ?_
          refine a_getr X lf7_215 (by assumption) rfl (by omega) dX7_envies_80 ?_
          refine a_iload X dX7_envies_83 rfl ?_
          refine a_callSv X dX7_envies_85 miX7_cell lm7_175 (c_cell (by assumption) (by first | decide | assumption)) rfl rfl (Nat.le_of_ble_eq_true rfl) ⟨by decide, by decide, by decide, by decide⟩ ?_
          refine a_aload_n X dX7_envies_88 rfl ?_
          refine a_getr X lf7_40 (by assumption) rfl (by omega) dX7_envies_89 ?_
          refine a_getr X lf7_215 (by assumption) rfl (by omega) dX7_envies_92 ?_
          refine a_iload_n X dX7_envies_95 rfl ?_
          refine a_callSv X dX7_envies_96 miX7_cell lm7_175 (c_cell (by assumption) (by first | decide | assumption)) rfl rfl (Nat.le_of_ble_eq_true rfl) ⟨by decide, by decide, by decide, by decide⟩ ?_
          refine a_icmp_lt (tgt := 105) X dX7_envies_99 (by decide) (fun h_99 => ?_) (fun h_99 => ?_)
          · replace h := (if_pos h_99).symm.trans h
            refine a_aload_n X dX7_envies_105 rfl ?_
            refine a_getr X lf7_40 (by assumption) rfl (by omega) dX7_envies_106 ?_
            refine a_iload_n X dX7_envies_109 rfl ?_
            refine a_iload X dX7_envies_110 rfl ?_
            obtain ⟨e_112, f_112, h⟩ := zBx h
            refine a_callVv X dX7_envies_112 miX2_rankOf lm7_277 (t_X2_rankOf (by assumption) f_112) (by assumption) rfl rfl rfl (Nat.le_of_ble_eq_true rfl) ⟨by decide, by decide, by decide, by decide⟩ ?_
            refine a_istore X dX7_envies_115 (by decide) ?_
            refine a_iload X dX7_envies_117 rfl ?_
            refine a_iconst (v := -1) X dX7_envies_119 (by decide) ?_
            refine a_icmp_eq (tgt := 147) X dX7_envies_120 (by decide) (fun h_120 => ?_) (fun h_120 => ?_)
            · replace h := (if_pos h_120).symm.trans h
              exact Zw.to2 (J_147 _ _ _ _ _ _ _ h) rfl rfl rfl
            · replace h := (if_neg h_120).symm.trans h
              refine a_iload X dX7_envies_123 rfl ?_
              refine a_aload_n X dX7_envies_125 rfl ?_
              refine a_getr X lf7_47 (by assumption) rfl (by omega) dX7_envies_126 ?_
              refine a_aload_n X dX7_envies_129 rfl ?_
              refine a_getr X lf7_40 (by assumption) rfl (by omega) dX7_envies_130 ?_
              refine a_iload_n X dX7_envies_133 rfl ?_
              obtain ⟨e_134, f_134, h⟩ := zBx h
              refine a_callVv X dX7_envies_134 miX5_rankHeld lm7_280 (t_X5_rankHeld (by assumption) (by assumption) f_134) (by assumption) rfl rfl rfl (Nat.le_of_ble_eq_true rfl) ⟨by decide, by decide, by decide, by decide⟩ ?_
              refine a_icmp_ge (tgt := 147) X dX7_envies_137 (by decide) (fun h_137 => ?_) (fun h_137 => ?_)
              · replace h := (if_pos h_137).symm.trans h
                exact Zw.to2 (J_147 _ _ _ _ _ _ _ h) rfl rfl rfl
              · replace h := (if_neg h_137).symm.trans h
                refine a_iload_n X dX7_envies_140 rfl ?_
                refine a_iconst (v := 1) X dX7_envies_141 (by decide) ?_
                refine a_iload X dX7_envies_142 rfl ?_
                refine a_ishl X dX7_envies_144 ?_
                refine a_ior X dX7_envies_145 ?_
                refine a_istore_n X dX7_envies_146 (by decide) ?_
                exact Zw.to2 (J_147 _ _ _ _ _ _ _ h) rfl rfl rfl
          · replace h := (if_neg h_99).symm.trans h
            refine a_goto (tgt := 147) X dX7_envies_102 (by decide) ?_
            exact Zw.to2 (J_147 _ _ _ _ _ _ _ h) rfl rfl rfl
  have H_44 : ∀ (x1_44 : Int32) (x2_44 : Int32) (x3_44 : Int32) (x4_44 : Int32) (x5_44 : Option Value) (x6_44 : Option Value) (M_44 : zMt), D_X7_envies_44 P zFu x2_44 x3_44 x4_44 M_44 = some r → Zw p l e { frames := 5, cells := 0, slots := 0, locals := 80 * (5) } s m args below meth c G b 7 (MQ below (zQ G b FQ) args s 0 0 (fun q : Nat => b ≤ q)) 0 0 44 [some (.ref (P)), some (.int x1_44), some (.int x2_44), some (.int x3_44), some (.int x4_44), x5_44, x6_44] [] (L, M_44, N) := L_44 zFu
  unfold D_X7_envies at h
  refine a_iload_n X dX7_envies_0 rfl ?_
  obtain ⟨e_1, f_1, h⟩ := zBx h
  refine a_callSx X dX7_envies_1 miX7_isSeed lm7_237 (t_X7_isSeed f_1) rfl rfl (Nat.le_of_ble_eq_true rfl) ⟨by decide, by decide, by decide, by decide⟩ (fun r_1 S_1 q_1 => ?_)
  obtain ⟨rfl, rfl, b_1⟩ := q_1
  refine a_if_ne (tgt := 13) X dX7_envies_4 (by decide) (fun h_4 => ?_) (fun h_4 => ?_)
  · replace h := (if_neg h_4).symm.trans h
    refine a_aload_n X dX7_envies_13 rfl ?_
    refine a_iload_n X dX7_envies_14 rfl ?_
    obtain ⟨e_15, f_15, h⟩ := zBx h
    refine a_callVx X dX7_envies_15 miX7_isApplicant lm7_206 (t_X7_isApplicant (by assumption) f_15) (by assumption) rfl rfl rfl (Nat.le_of_ble_eq_true rfl) ⟨by decide, by decide, by decide, by decide⟩ (fun r_15 S_15 q_15 => ?_)
    obtain ⟨rfl, rfl, b_15⟩ := q_15
    refine a_if_ne (tgt := 27) X dX7_envies_18 (by decide) (fun h_18 => ?_) (fun h_18 => ?_)
    · replace h := (if_neg h_18).symm.trans h
      refine a_aload_n X dX7_envies_27 rfl ?_
      refine a_getr X lf7_47 (by assumption) rfl (by omega) dX7_envies_28 ?_
      refine a_aload_n X dX7_envies_31 rfl ?_
      refine a_getr X lf7_40 (by assumption) rfl (by omega) dX7_envies_32 ?_
      refine a_iload_n X dX7_envies_35 rfl ?_
      obtain ⟨e_36, f_36, h⟩ := zBx h
      refine a_callVu X dX7_envies_36 miX5_bySeed lm7_247 (t_X5_bySeed (by assumption) (by assumption) f_36) (by assumption) rfl rfl rfl (Nat.le_of_ble_eq_true rfl) ⟨by decide, by decide, by decide, by decide⟩ ?_
      refine a_iconst (v := 0) X dX7_envies_39 (by decide) ?_
      refine a_istore_n X dX7_envies_40 (by decide) ?_
      refine a_iconst (v := 0) X dX7_envies_41 (by decide) ?_
      refine a_istore X dX7_envies_42 (by decide) ?_
      exact Zw.to2 (H_44 _ _ _ _ _ _ _ h) rfl rfl rfl
    · replace h := (if_pos h_18).symm.trans h
      refine a_aload_n X dX7_envies_21 rfl ?_
      refine a_iconst (v := 2) X dX7_envies_22 (by decide) ?_
      obtain ⟨e_23, f_23, h⟩ := zBx h
      refine a_callVv X dX7_envies_23 miX7_refuse lm7_102 (t_X7_refuse (by assumption) f_23) (by assumption) rfl rfl rfl (Nat.le_of_ble_eq_true rfl) ⟨by decide, by decide, by decide, by decide⟩ ?_
      refine a_iret X hr dX7_envies_26 ⟨by decide, by decide⟩ ?_
      subst hF
      rw [← Option.some.inj h]
      exact ⟨rfl, rfl⟩
  · replace h := (if_pos h_4).symm.trans h
    refine a_aload_n X dX7_envies_7 rfl ?_
    refine a_iconst (v := 1) X dX7_envies_8 (by decide) ?_
    obtain ⟨e_9, f_9, h⟩ := zBx h
    refine a_callVv X dX7_envies_9 miX7_refuse lm7_102 (t_X7_refuse (by assumption) f_9) (by assumption) rfl rfl rfl (Nat.le_of_ble_eq_true rfl) ⟨by decide, by decide, by decide, by decide⟩ ?_
    refine a_iret X hr dX7_envies_12 ⟨by decide, by decide⟩ ?_
    subst hF
    rw [← Option.some.inj h]
    exact ⟨rfl, rfl⟩
noncomputable def D_X7_spoils_153 (P : Nat) (k99 : Int32 → Int32 → Int32 → zMt → Option (Int32 × zMt)) (x2_153 : Int32) (x3_153 : Int32) (x4_153 : Int32) (M_153 : zMt) : Option (Int32 × zMt) :=
  k99 x2_153 x3_153 (x4_153 + 1) M_153
noncomputable def D_X7_spoils_99 (P : Nat) : Nat → Int32 → Int32 → Int32 → zMt → Option (Int32 × zMt)
  | 0, _, _, _, _ => none
  | n + 1, x2_99, x3_99, x4_99, M_99 =>
    if (M_99 (P + 91) 1) ≤ x4_99 then
      zB (D_X7_answer P x3_99 M_99) fun e_161 =>
      some (e_161.1, e_161.2)
    else
      if x4_99 = x2_99 then
        D_X7_spoils_153 P (D_X7_spoils_99 P n) x2_99 x3_99 x4_99 M_99
      else
        zB (D_X5_rankHeld (P + 179) (P + 166) M_99 x4_99) fun e_127 =>
        zB (D_X5_rankHeld (P + 104) (P + 91) M_99 x4_99) fun e_140 =>
        if e_140 ≤ e_127 then
          D_X7_spoils_153 P (D_X7_spoils_99 P n) x2_99 x3_99 x4_99 M_99
        else
          D_X7_spoils_153 P (D_X7_spoils_99 P n) x2_99 (x3_99 ||| ((1 : Int32) <<< (x4_99 &&& 31))) x4_99 M_99
noncomputable def D_X7_spoils (P : Nat) (v0 : Int32) (v1 : Int32) (M : zMt) : Option (Int32 × zMt) :=
  zB (D_X7_isSeed v0) fun e_1 =>
  if e_1 = 0 then
    zB (D_X7_refuse P (1 : Int32) M) fun e_9 =>
    some (e_9.1, e_9.2)
  else
    zB (D_X7_isApplicant P M v1) fun e_15 =>
    if e_15 = 0 then
      zB (D_X7_refuse P (2 : Int32) M) fun e_23 =>
      some (e_23.1, e_23.2)
    else
      zB (D_X5_bySeed (P + 104) (P + 91) v0 M) fun e_36 =>
      zB (D_X4_take (P + 158) (P + 17) e_36) fun e_47 =>
      zB (D_X4_wishFor (P + 158) (zrd 0 (e_47 (P + 100)) 10 v1) (-1 : Int32) (-1 : Int32) (-1 : Int32) e_47) fun e_68 =>
      zB (D_X2_gather (P + 166) (P + 158) e_68) fun e_79 =>
      zB (D_X5_bySeed (P + 179) (P + 166) v0 e_79) fun e_91 =>
      D_X7_spoils_99 P zFu v1 (0 : Int32) (0 : Int32) e_91
set_option maxRecDepth 100000 in
set_option maxHeartbeats 4000000 in
theorem t_X7_spoils {l : Launch} {G : zG} {b : Nat} {L : List zC} {M : zMt} {N : zNt} {P : Nat} {v0 : Int32} {v1 : Int32} (hP : LX7 L P) {r : Int32 × zMt} (h : D_X7_spoils P v0 v1 M = some r) : zM l G b yX7_spoils cX7_spoils 5 (some .int) 5 0 0 [.ref P, .int v0, .int v1] (L, M, N) (fun r2 z => r2 = some (.int r.1) ∧ z = (L, r.2, N)) := by
  refine zM.of miX7_spoils (Nat.le_of_ble_eq_true rfl) ?_
  intro p e s m args below meth c X hr hname
  generalize hF : ((fun r2 z => r2 = some (.int r.1) ∧ z = (L, r.2, N)) : Option Value → zS → Prop) = FQ
  change Zw p l e { frames := 5, cells := 0, slots := 0, locals := 80 * (5) } s m args below meth c G b 5 (MQ below (zQ G b FQ) args s 0 0 (fun q : Nat => b ≤ q)) 0 0 0 [some (.ref P), some (.int v0), some (.int v1), none, none] [] (L, M, N)
  obtain ⟨p_lt, p_o, p_tape, p_out, p_reader, p_list, p_past, p_pool, p_result, p_odds, p_paper, p_trial, p_trialPool, p_trialResult, p_trialOdds⟩ := id hP
  obtain ⟨p_reader_lt, p_reader_o, p_reader_draft, p_reader_text, p_reader_unitNames, p_reader_hunterNames, p_reader_partyNames, p_reader_asked⟩ := id p_reader
  obtain ⟨p_list_lt, p_list_o, p_list_quota, p_list_score, p_list_guest, p_list_party, p_list_wishCount, p_list_wishes, p_list_has⟩ := id p_list
  obtain ⟨p_past_lt, p_past_o, p_past_stood, p_past_stood0, p_past_stood1, p_past_stood2, p_past_stood3, p_past_stood4, p_past_stood5, p_past_stood6, p_past_stood7⟩ := id p_past
  obtain ⟨p_pool_lt, p_pool_o, p_pool_quota, p_pool_preferred, p_pool_forGuests, p_pool_applicantOf, p_pool_size, p_pool_guestCount, p_pool_score, p_pool_tickets, p_pool_bits, p_pool_party, p_pool_wishCount, p_pool_wishes⟩ := id p_pool
  obtain ⟨p_result_lt, p_result_o, p_result_line, p_result_unitOf, p_result_roundOf, p_result_leftTags, p_result_leftGuests, p_result_leftPreferred, p_result_ranked⟩ := id p_result
  obtain ⟨p_odds_lt, p_odds_o, p_odds_sets, p_odds_seen, p_odds_atUnit, p_odds_early, p_odds_result⟩ := id p_odds
  obtain ⟨p_paper_lt, p_paper_o, p_paper_times, p_paper_firstWish, p_paper_dry, p_paper_list, p_paper_pool, p_paper_result⟩ := id p_paper
  obtain ⟨p_trial_lt, p_trial_o, p_trial_quota, p_trial_score, p_trial_guest, p_trial_party, p_trial_wishCount, p_trial_wishes, p_trial_has⟩ := id p_trial
  obtain ⟨p_trialPool_lt, p_trialPool_o, p_trialPool_quota, p_trialPool_preferred, p_trialPool_forGuests, p_trialPool_applicantOf, p_trialPool_size, p_trialPool_guestCount, p_trialPool_score, p_trialPool_tickets, p_trialPool_bits, p_trialPool_party, p_trialPool_wishCount, p_trialPool_wishes⟩ := id p_trialPool
  obtain ⟨p_trialResult_lt, p_trialResult_o, p_trialResult_line, p_trialResult_unitOf, p_trialResult_roundOf, p_trialResult_leftTags, p_trialResult_leftGuests, p_trialResult_leftPreferred, p_trialResult_ranked⟩ := id p_trialResult
  obtain ⟨p_trialOdds_lt, p_trialOdds_o, p_trialOdds_sets, p_trialOdds_seen, p_trialOdds_atUnit, p_trialOdds_early, p_trialOdds_result⟩ := id p_trialOdds
  have L_99 : ∀ u : Nat, ∀ (x1_99 : Int32) (x2_99 : Int32) (x3_99 : Int32) (x4_99 : Int32) (M_99 : zMt), D_X7_spoils_99 P u x2_99 x3_99 x4_99 M_99 = some r → Zw p l e { frames := 5, cells := 0, slots := 0, locals := 80 * (5) } s m args below meth c G b 5 (MQ below (zQ G b FQ) args s 0 0 (fun q : Nat => b ≤ q)) 0 0 99 [some (.ref (P)), some (.int x1_99), some (.int x2_99), some (.int x3_99), some (.int x4_99)] [] (L, M_99, N) := by
    intro u
    induction u with
    | zero => intro x1_99 x2_99 x3_99 x4_99 M_99 h; cases (show none = some r from h)
    | succ u_99 ih_99 =>
      have J_153 : ∀ (x1_153 : Int32) (x2_153 : Int32) (x3_153 : Int32) (x4_153 : Int32) (M_153 : zMt), D_X7_spoils_153 P (D_X7_spoils_99 P u_99) x2_153 x3_153 x4_153 M_153 = some r → Zw p l e { frames := 5, cells := 0, slots := 0, locals := 80 * (5) } s m args below meth c G b 5 (MQ below (zQ G b FQ) args s 0 0 (fun q : Nat => b ≤ q)) 0 0 153 [some (.ref (P)), some (.int x1_153), some (.int x2_153), some (.int x3_153), some (.int x4_153)] [] (L, M_153, N) := by
        intro x1_153 x2_153 x3_153 x4_153 M_153 h
        unfold D_X7_spoils_153 at h
        refine a_iinc (v := x4_153 + 1) X dX7_spoils_153 (by decide) rfl zi_1 ?_
        refine a_goto (tgt := 99) X dX7_spoils_156 (by decide) ?_
        exact Zw.to2 (ih_99 _ _ _ _ _ h) rfl rfl rfl
      intro x1_99 x2_99 x3_99 x4_99 M_99 h
      rw [D_X7_spoils_99] at h
      refine a_iload X dX7_spoils_99 rfl ?_
      refine a_aload_n X dX7_spoils_101 rfl ?_
      refine a_getr X lf7_40 (by assumption) rfl (by omega) dX7_spoils_102 ?_
      refine a_geti X lf7_140 (by assumption) rfl dX7_spoils_105 ?_
      refine a_icmp_ge (tgt := 159) X dX7_spoils_108 (by decide) (fun h_108 => ?_) (fun h_108 => ?_)
      · replace h := (if_pos h_108).symm.trans h
        refine a_aload_n X dX7_spoils_159 rfl ?_
        refine a_iload_n X dX7_spoils_160 rfl ?_
        obtain ⟨e_161, f_161, h⟩ := zBx h
        refine a_callVv X dX7_spoils_161 miX7_answer lm7_134 (t_X7_answer (by assumption) f_161) (by assumption) rfl rfl rfl (Nat.le_of_ble_eq_true rfl) ⟨by decide, by decide, by decide, by decide⟩ ?_
        refine a_iret X hr dX7_spoils_164 ⟨by decide, by decide⟩ ?_
        subst hF
        rw [← Option.some.inj h]
        exact ⟨rfl, rfl⟩
      · replace h := (if_neg h_108).symm.trans h
        refine a_iload X dX7_spoils_111 rfl ?_
        refine a_iload_n X dX7_spoils_113 rfl ?_
        refine a_icmp_eq (tgt := 153) X dX7_spoils_114 (by decide) (fun h_114 => ?_) (fun h_114 => ?_)
        · replace h := (if_pos h_114).symm.trans h
          exact Zw.to2 (J_153 _ _ _ _ _ h) rfl rfl rfl
        · replace h := (if_neg h_114).symm.trans h
          refine a_aload_n X dX7_spoils_117 rfl ?_
          refine a_getr X lf7_71 (by assumption) rfl (by omega) dX7_spoils_118 ?_
          refine a_aload_n X dX7_spoils_121 rfl ?_
          refine a_getr X lf7_68 (by assumption) rfl (by omega) dX7_spoils_122 ?_
          refine a_iload X dX7_spoils_125 rfl ?_
          obtain ⟨e_127, f_127, h⟩ := zBx h
          refine a_callVv X dX7_spoils_127 miX5_rankHeld lm7_280 (t_X5_rankHeld (by assumption) (by assumption) f_127) (by assumption) rfl rfl rfl (Nat.le_of_ble_eq_true rfl) ⟨by decide, by decide, by decide, by decide⟩ ?_
          refine a_aload_n X dX7_spoils_130 rfl ?_
          refine a_getr X lf7_47 (by assumption) rfl (by omega) dX7_spoils_131 ?_
          refine a_aload_n X dX7_spoils_134 rfl ?_
          refine a_getr X lf7_40 (by assumption) rfl (by omega) dX7_spoils_135 ?_
          refine a_iload X dX7_spoils_138 rfl ?_
          obtain ⟨e_140, f_140, h⟩ := zBx h
          refine a_callVv X dX7_spoils_140 miX5_rankHeld lm7_280 (t_X5_rankHeld (by assumption) (by assumption) f_140) (by assumption) rfl rfl rfl (Nat.le_of_ble_eq_true rfl) ⟨by decide, by decide, by decide, by decide⟩ ?_
          refine a_icmp_ge (tgt := 153) X dX7_spoils_143 (by decide) (fun h_143 => ?_) (fun h_143 => ?_)
          · replace h := (if_pos h_143).symm.trans h
            exact Zw.to2 (J_153 _ _ _ _ _ h) rfl rfl rfl
          · replace h := (if_neg h_143).symm.trans h
            refine a_iload_n X dX7_spoils_146 rfl ?_
            refine a_iconst (v := 1) X dX7_spoils_147 (by decide) ?_
            refine a_iload X dX7_spoils_148 rfl ?_
            refine a_ishl X dX7_spoils_150 ?_
            refine a_ior X dX7_spoils_151 ?_
            refine a_istore_n X dX7_spoils_152 (by decide) ?_
            exact Zw.to2 (J_153 _ _ _ _ _ h) rfl rfl rfl
  have H_99 : ∀ (x1_99 : Int32) (x2_99 : Int32) (x3_99 : Int32) (x4_99 : Int32) (M_99 : zMt), D_X7_spoils_99 P zFu x2_99 x3_99 x4_99 M_99 = some r → Zw p l e { frames := 5, cells := 0, slots := 0, locals := 80 * (5) } s m args below meth c G b 5 (MQ below (zQ G b FQ) args s 0 0 (fun q : Nat => b ≤ q)) 0 0 99 [some (.ref (P)), some (.int x1_99), some (.int x2_99), some (.int x3_99), some (.int x4_99)] [] (L, M_99, N) := L_99 zFu
  unfold D_X7_spoils at h
  refine a_iload_n X dX7_spoils_0 rfl ?_
  obtain ⟨e_1, f_1, h⟩ := zBx h
  refine a_callSx X dX7_spoils_1 miX7_isSeed lm7_237 (t_X7_isSeed f_1) rfl rfl (Nat.le_of_ble_eq_true rfl) ⟨by decide, by decide, by decide, by decide⟩ (fun r_1 S_1 q_1 => ?_)
  obtain ⟨rfl, rfl, b_1⟩ := q_1
  refine a_if_ne (tgt := 13) X dX7_spoils_4 (by decide) (fun h_4 => ?_) (fun h_4 => ?_)
  · replace h := (if_neg h_4).symm.trans h
    refine a_aload_n X dX7_spoils_13 rfl ?_
    refine a_iload_n X dX7_spoils_14 rfl ?_
    obtain ⟨e_15, f_15, h⟩ := zBx h
    refine a_callVx X dX7_spoils_15 miX7_isApplicant lm7_206 (t_X7_isApplicant (by assumption) f_15) (by assumption) rfl rfl rfl (Nat.le_of_ble_eq_true rfl) ⟨by decide, by decide, by decide, by decide⟩ (fun r_15 S_15 q_15 => ?_)
    obtain ⟨rfl, rfl, b_15⟩ := q_15
    refine a_if_ne (tgt := 27) X dX7_spoils_18 (by decide) (fun h_18 => ?_) (fun h_18 => ?_)
    · replace h := (if_neg h_18).symm.trans h
      refine a_aload_n X dX7_spoils_27 rfl ?_
      refine a_getr X lf7_47 (by assumption) rfl (by omega) dX7_spoils_28 ?_
      refine a_aload_n X dX7_spoils_31 rfl ?_
      refine a_getr X lf7_40 (by assumption) rfl (by omega) dX7_spoils_32 ?_
      refine a_iload_n X dX7_spoils_35 rfl ?_
      obtain ⟨e_36, f_36, h⟩ := zBx h
      refine a_callVu X dX7_spoils_36 miX5_bySeed lm7_247 (t_X5_bySeed (by assumption) (by assumption) f_36) (by assumption) rfl rfl rfl (Nat.le_of_ble_eq_true rfl) ⟨by decide, by decide, by decide, by decide⟩ ?_
      refine a_aload_n X dX7_spoils_39 rfl ?_
      refine a_getr X lf7_65 (by assumption) rfl (by omega) dX7_spoils_40 ?_
      refine a_aload_n X dX7_spoils_43 rfl ?_
      refine a_getr X lf7_26 (by assumption) rfl (by omega) dX7_spoils_44 ?_
      obtain ⟨e_47, f_47, h⟩ := zBx h
      refine a_callVu X dX7_spoils_47 miX4_take lm7_113 (t_X4_take (by assumption) (by assumption) (by omega) f_47) (by assumption) rfl rfl rfl (Nat.le_of_ble_eq_true rfl) ⟨by decide, by decide, by decide, by decide⟩ ?_
      refine a_aload_n X dX7_spoils_50 rfl ?_
      refine a_getr X lf7_65 (by assumption) rfl (by omega) dX7_spoils_51 ?_
      refine a_aload_n X dX7_spoils_54 rfl ?_
      refine a_getr X lf7_40 (by assumption) rfl (by omega) dX7_spoils_55 ?_
      refine a_getr X lf7_222 (by assumption) rfl (by omega) dX7_spoils_58 ?_
      refine a_iload_n X dX7_spoils_61 rfl ?_
      refine a_callSv X dX7_spoils_62 miX7_cell lm7_175 (c_cell (by assumption) (by first | decide | assumption)) rfl rfl (Nat.le_of_ble_eq_true rfl) ⟨by decide, by decide, by decide, by decide⟩ ?_
      refine a_iconst (v := -1) X dX7_spoils_65 (by decide) ?_
      refine a_iconst (v := -1) X dX7_spoils_66 (by decide) ?_
      refine a_iconst (v := -1) X dX7_spoils_67 (by decide) ?_
      obtain ⟨e_68, f_68, h⟩ := zBx h
      refine a_callVu X dX7_spoils_68 miX4_wishFor lm7_283 (t_X4_wishFor (by assumption) f_68) (by assumption) rfl rfl rfl (Nat.le_of_ble_eq_true rfl) ⟨by decide, by decide, by decide, by decide⟩ ?_
      refine a_aload_n X dX7_spoils_71 rfl ?_
      refine a_getr X lf7_68 (by assumption) rfl (by omega) dX7_spoils_72 ?_
      refine a_aload_n X dX7_spoils_75 rfl ?_
      refine a_getr X lf7_65 (by assumption) rfl (by omega) dX7_spoils_76 ?_
      obtain ⟨e_79, f_79, h⟩ := zBx h
      refine a_callVu X dX7_spoils_79 miX2_gather lm7_80 (t_X2_gather (by assumption) (by assumption) f_79) (by assumption) rfl rfl rfl (Nat.le_of_ble_eq_true rfl) ⟨by decide, by decide, by decide, by decide⟩ ?_
      refine a_aload_n X dX7_spoils_82 rfl ?_
      refine a_getr X lf7_71 (by assumption) rfl (by omega) dX7_spoils_83 ?_
      refine a_aload_n X dX7_spoils_86 rfl ?_
      refine a_getr X lf7_68 (by assumption) rfl (by omega) dX7_spoils_87 ?_
      refine a_iload_n X dX7_spoils_90 rfl ?_
      obtain ⟨e_91, f_91, h⟩ := zBx h
      refine a_callVu X dX7_spoils_91 miX5_bySeed lm7_247 (t_X5_bySeed (by assumption) (by assumption) f_91) (by assumption) rfl rfl rfl (Nat.le_of_ble_eq_true rfl) ⟨by decide, by decide, by decide, by decide⟩ ?_
      refine a_iconst (v := 0) X dX7_spoils_94 (by decide) ?_
      refine a_istore_n X dX7_spoils_95 (by decide) ?_
      refine a_iconst (v := 0) X dX7_spoils_96 (by decide) ?_
      refine a_istore X dX7_spoils_97 (by decide) ?_
      exact Zw.to2 (H_99 _ _ _ _ _ h) rfl rfl rfl
    · replace h := (if_pos h_18).symm.trans h
      refine a_aload_n X dX7_spoils_21 rfl ?_
      refine a_iconst (v := 2) X dX7_spoils_22 (by decide) ?_
      obtain ⟨e_23, f_23, h⟩ := zBx h
      refine a_callVv X dX7_spoils_23 miX7_refuse lm7_102 (t_X7_refuse (by assumption) f_23) (by assumption) rfl rfl rfl (Nat.le_of_ble_eq_true rfl) ⟨by decide, by decide, by decide, by decide⟩ ?_
      refine a_iret X hr dX7_spoils_26 ⟨by decide, by decide⟩ ?_
      subst hF
      rw [← Option.some.inj h]
      exact ⟨rfl, rfl⟩
  · replace h := (if_pos h_4).symm.trans h
    refine a_aload_n X dX7_spoils_7 rfl ?_
    refine a_iconst (v := 1) X dX7_spoils_8 (by decide) ?_
    obtain ⟨e_9, f_9, h⟩ := zBx h
    refine a_callVv X dX7_spoils_9 miX7_refuse lm7_102 (t_X7_refuse (by assumption) f_9) (by assumption) rfl rfl rfl (Nat.le_of_ble_eq_true rfl) ⟨by decide, by decide, by decide, by decide⟩ ?_
    refine a_iret X hr dX7_spoils_12 ⟨by decide, by decide⟩ ?_
    subst hF
    rw [← Option.some.inj h]
    exact ⟨rfl, rfl⟩
noncomputable def D_X7_behind (P : Nat) (v0 : Int32) (v1 : Int32) (M : zMt) : Option (Int32 × zMt) :=
  zB (D_X7_isSeed v0) fun e_1 =>
  if e_1 = 0 then
    zB (D_X7_refuse P (1 : Int32) M) fun e_9 =>
    some (e_9.1, e_9.2)
  else
    zB (D_X7_isHunter P M v1) fun e_15 =>
    if e_15 = 0 then
      zB (D_X7_refuse P (2 : Int32) M) fun e_23 =>
      some (e_23.1, e_23.2)
    else
      zB (D_X5_bySeed (P + 104) (P + 91) v0 M) fun e_36 =>
      zB (D_X5_scoreBehind (P + 104) (P + 91) e_36 (zrd 0 (e_36 (P + 95)) 10 v1) (zrd 0 (e_36 (P + 19)) 10 v1)) fun e_70 =>
      zB (D_X7_answer P e_70 e_36) fun e_73 =>
      some (e_73.1, e_73.2)
set_option maxRecDepth 100000 in
set_option maxHeartbeats 4000000 in
theorem t_X7_behind {l : Launch} {G : zG} {b : Nat} {L : List zC} {M : zMt} {N : zNt} {P : Nat} {v0 : Int32} {v1 : Int32} (hP : LX7 L P) {r : Int32 × zMt} (h : D_X7_behind P v0 v1 M = some r) : zM l G b yX7_behind cX7_behind 3 (some .int) 5 0 0 [.ref P, .int v0, .int v1] (L, M, N) (fun r2 z => r2 = some (.int r.1) ∧ z = (L, r.2, N)) := by
  refine zM.of miX7_behind (Nat.le_of_ble_eq_true rfl) ?_
  intro p e s m args below meth c X hr hname
  generalize hF : ((fun r2 z => r2 = some (.int r.1) ∧ z = (L, r.2, N)) : Option Value → zS → Prop) = FQ
  change Zw p l e { frames := 5, cells := 0, slots := 0, locals := 80 * (5) } s m args below meth c G b 3 (MQ below (zQ G b FQ) args s 0 0 (fun q : Nat => b ≤ q)) 0 0 0 [some (.ref P), some (.int v0), some (.int v1)] [] (L, M, N)
  obtain ⟨p_lt, p_o, p_tape, p_out, p_reader, p_list, p_past, p_pool, p_result, p_odds, p_paper, p_trial, p_trialPool, p_trialResult, p_trialOdds⟩ := id hP
  obtain ⟨p_reader_lt, p_reader_o, p_reader_draft, p_reader_text, p_reader_unitNames, p_reader_hunterNames, p_reader_partyNames, p_reader_asked⟩ := id p_reader
  obtain ⟨p_list_lt, p_list_o, p_list_quota, p_list_score, p_list_guest, p_list_party, p_list_wishCount, p_list_wishes, p_list_has⟩ := id p_list
  obtain ⟨p_past_lt, p_past_o, p_past_stood, p_past_stood0, p_past_stood1, p_past_stood2, p_past_stood3, p_past_stood4, p_past_stood5, p_past_stood6, p_past_stood7⟩ := id p_past
  obtain ⟨p_pool_lt, p_pool_o, p_pool_quota, p_pool_preferred, p_pool_forGuests, p_pool_applicantOf, p_pool_size, p_pool_guestCount, p_pool_score, p_pool_tickets, p_pool_bits, p_pool_party, p_pool_wishCount, p_pool_wishes⟩ := id p_pool
  obtain ⟨p_result_lt, p_result_o, p_result_line, p_result_unitOf, p_result_roundOf, p_result_leftTags, p_result_leftGuests, p_result_leftPreferred, p_result_ranked⟩ := id p_result
  obtain ⟨p_odds_lt, p_odds_o, p_odds_sets, p_odds_seen, p_odds_atUnit, p_odds_early, p_odds_result⟩ := id p_odds
  obtain ⟨p_paper_lt, p_paper_o, p_paper_times, p_paper_firstWish, p_paper_dry, p_paper_list, p_paper_pool, p_paper_result⟩ := id p_paper
  obtain ⟨p_trial_lt, p_trial_o, p_trial_quota, p_trial_score, p_trial_guest, p_trial_party, p_trial_wishCount, p_trial_wishes, p_trial_has⟩ := id p_trial
  obtain ⟨p_trialPool_lt, p_trialPool_o, p_trialPool_quota, p_trialPool_preferred, p_trialPool_forGuests, p_trialPool_applicantOf, p_trialPool_size, p_trialPool_guestCount, p_trialPool_score, p_trialPool_tickets, p_trialPool_bits, p_trialPool_party, p_trialPool_wishCount, p_trialPool_wishes⟩ := id p_trialPool
  obtain ⟨p_trialResult_lt, p_trialResult_o, p_trialResult_line, p_trialResult_unitOf, p_trialResult_roundOf, p_trialResult_leftTags, p_trialResult_leftGuests, p_trialResult_leftPreferred, p_trialResult_ranked⟩ := id p_trialResult
  obtain ⟨p_trialOdds_lt, p_trialOdds_o, p_trialOdds_sets, p_trialOdds_seen, p_trialOdds_atUnit, p_trialOdds_early, p_trialOdds_result⟩ := id p_trialOdds
  unfold D_X7_behind at h
  refine a_iload_n X dX7_behind_0 rfl ?_
  obtain ⟨e_1, f_1, h⟩ := zBx h
  refine a_callSx X dX7_behind_1 miX7_isSeed lm7_237 (t_X7_isSeed f_1) rfl rfl (Nat.le_of_ble_eq_true rfl) ⟨by decide, by decide, by decide, by decide⟩ (fun r_1 S_1 q_1 => ?_)
  obtain ⟨rfl, rfl, b_1⟩ := q_1
  refine a_if_ne (tgt := 13) X dX7_behind_4 (by decide) (fun h_4 => ?_) (fun h_4 => ?_)
  · replace h := (if_neg h_4).symm.trans h
    refine a_aload_n X dX7_behind_13 rfl ?_
    refine a_iload_n X dX7_behind_14 rfl ?_
    obtain ⟨e_15, f_15, h⟩ := zBx h
    refine a_callVx X dX7_behind_15 miX7_isHunter lm7_168 (t_X7_isHunter (by assumption) f_15) (by assumption) rfl rfl rfl (Nat.le_of_ble_eq_true rfl) ⟨by decide, by decide, by decide, by decide⟩ (fun r_15 S_15 q_15 => ?_)
    obtain ⟨rfl, rfl, b_15⟩ := q_15
    refine a_if_ne (tgt := 27) X dX7_behind_18 (by decide) (fun h_18 => ?_) (fun h_18 => ?_)
    · replace h := (if_neg h_18).symm.trans h
      refine a_aload_n X dX7_behind_27 rfl ?_
      refine a_getr X lf7_47 (by assumption) rfl (by omega) dX7_behind_28 ?_
      refine a_aload_n X dX7_behind_31 rfl ?_
      refine a_getr X lf7_40 (by assumption) rfl (by omega) dX7_behind_32 ?_
      refine a_iload_n X dX7_behind_35 rfl ?_
      obtain ⟨e_36, f_36, h⟩ := zBx h
      refine a_callVu X dX7_behind_36 miX5_bySeed lm7_247 (t_X5_bySeed (by assumption) (by assumption) f_36) (by assumption) rfl rfl rfl (Nat.le_of_ble_eq_true rfl) ⟨by decide, by decide, by decide, by decide⟩ ?_
      refine a_aload_n X dX7_behind_39 rfl ?_
      refine a_aload_n X dX7_behind_40 rfl ?_
      refine a_getr X lf7_47 (by assumption) rfl (by omega) dX7_behind_41 ?_
      refine a_aload_n X dX7_behind_44 rfl ?_
      refine a_getr X lf7_40 (by assumption) rfl (by omega) dX7_behind_45 ?_
      refine a_aload_n X dX7_behind_48 rfl ?_
      refine a_getr X lf7_40 (by assumption) rfl (by omega) dX7_behind_49 ?_
      refine a_getr X lf7_182 (by assumption) rfl (by omega) dX7_behind_52 ?_
      refine a_iload_n X dX7_behind_55 rfl ?_
      refine a_callSv X dX7_behind_56 miX7_cell lm7_175 (c_cell (by assumption) (by first | decide | assumption)) rfl rfl (Nat.le_of_ble_eq_true rfl) ⟨by decide, by decide, by decide, by decide⟩ ?_
      refine a_aload_n X dX7_behind_59 rfl ?_
      refine a_getr X lf7_26 (by assumption) rfl (by omega) dX7_behind_60 ?_
      refine a_getr X lf7_172 (by assumption) rfl (by omega) dX7_behind_63 ?_
      refine a_iload_n X dX7_behind_66 rfl ?_
      refine a_callSv X dX7_behind_67 miX7_cell lm7_175 (c_cell (by assumption) (by first | decide | assumption)) rfl rfl (Nat.le_of_ble_eq_true rfl) ⟨by decide, by decide, by decide, by decide⟩ ?_
      obtain ⟨e_70, f_70, h⟩ := zBx h
      refine a_callVv X dX7_behind_70 miX5_scoreBehind lm7_287 (t_X5_scoreBehind (by assumption) (by assumption) f_70) (by assumption) rfl rfl rfl (Nat.le_of_ble_eq_true rfl) ⟨by decide, by decide, by decide, by decide⟩ ?_
      obtain ⟨e_73, f_73, h⟩ := zBx h
      refine a_callVv X dX7_behind_73 miX7_answer lm7_134 (t_X7_answer (by assumption) f_73) (by assumption) rfl rfl rfl (Nat.le_of_ble_eq_true rfl) ⟨by decide, by decide, by decide, by decide⟩ ?_
      refine a_iret X hr dX7_behind_76 ⟨by decide, by decide⟩ ?_
      subst hF
      rw [← Option.some.inj h]
      exact ⟨rfl, rfl⟩
    · replace h := (if_pos h_18).symm.trans h
      refine a_aload_n X dX7_behind_21 rfl ?_
      refine a_iconst (v := 2) X dX7_behind_22 (by decide) ?_
      obtain ⟨e_23, f_23, h⟩ := zBx h
      refine a_callVv X dX7_behind_23 miX7_refuse lm7_102 (t_X7_refuse (by assumption) f_23) (by assumption) rfl rfl rfl (Nat.le_of_ble_eq_true rfl) ⟨by decide, by decide, by decide, by decide⟩ ?_
      refine a_iret X hr dX7_behind_26 ⟨by decide, by decide⟩ ?_
      subst hF
      rw [← Option.some.inj h]
      exact ⟨rfl, rfl⟩
  · replace h := (if_pos h_4).symm.trans h
    refine a_aload_n X dX7_behind_7 rfl ?_
    refine a_iconst (v := 1) X dX7_behind_8 (by decide) ?_
    obtain ⟨e_9, f_9, h⟩ := zBx h
    refine a_callVv X dX7_behind_9 miX7_refuse lm7_102 (t_X7_refuse (by assumption) f_9) (by assumption) rfl rfl rfl (Nat.le_of_ble_eq_true rfl) ⟨by decide, by decide, by decide, by decide⟩ ?_
    refine a_iret X hr dX7_behind_12 ⟨by decide, by decide⟩ ?_
    subst hF
    rw [← Option.some.inj h]
    exact ⟨rfl, rfl⟩
noncomputable def D_X7_lucky_36 (P : Nat) : Nat → Int32 → Int32 → Int32 → zMt → Option (Int32 × zMt)
  | 0, _, _, _, _ => none
  | n + 1, x1_36, x2_36, x3_36, M_36 =>
    if (50 : Int32) ≤ x3_36 then
      zB (D_X7_refuse P (5 : Int32) M_36) fun e_87 =>
      some (e_87.1, e_87.2)
    else
      zB (D_X5_bySeed (P + 104) (P + 91) (x1_36 + x3_36) M_36) fun e_53 =>
      zB (D_X5_hasFirst (P + 104) (P + 91) e_53 x2_36) fun e_65 =>
      if e_65 = 0 then
        (D_X7_lucky_36 P n) x1_36 x2_36 (x3_36 + 1) e_53
      else
        zB (D_X7_answer P (x1_36 + x3_36) e_53) fun e_75 =>
        some (e_75.1, e_75.2)
noncomputable def D_X7_lucky_14 (P : Nat) (M_14 : zMt) : Option (Int32 × zMt) :=
  zB (D_X7_refuse P (1 : Int32) M_14) fun e_16 =>
  some (e_16.1, e_16.2)
noncomputable def D_X7_lucky (P : Nat) (v0 : Int32) (v1 : Int32) (M : zMt) : Option (Int32 × zMt) :=
  zB (D_X7_isSeed v0) fun e_1 =>
  if e_1 = 0 then
    D_X7_lucky_14 P M
  else
    if v0 ≤ (999999949 : Int32) then
      zB (D_X7_isApplicant P M v1) fun e_22 =>
      if e_22 = 0 then
        zB (D_X7_refuse P (2 : Int32) M) fun e_30 =>
        some (e_30.1, e_30.2)
      else
        D_X7_lucky_36 P zFu v0 v1 (0 : Int32) M
    else
      D_X7_lucky_14 P M
set_option maxRecDepth 100000 in
set_option maxHeartbeats 4000000 in
theorem t_X7_lucky {l : Launch} {G : zG} {b : Nat} {L : List zC} {M : zMt} {N : zNt} {P : Nat} {v0 : Int32} {v1 : Int32} (hP : LX7 L P) {r : Int32 × zMt} (h : D_X7_lucky P v0 v1 M = some r) : zM l G b yX7_lucky cX7_lucky 4 (some .int) 5 0 0 [.ref P, .int v0, .int v1] (L, M, N) (fun r2 z => r2 = some (.int r.1) ∧ z = (L, r.2, N)) := by
  refine zM.of miX7_lucky (Nat.le_of_ble_eq_true rfl) ?_
  intro p e s m args below meth c X hr hname
  generalize hF : ((fun r2 z => r2 = some (.int r.1) ∧ z = (L, r.2, N)) : Option Value → zS → Prop) = FQ
  change Zw p l e { frames := 5, cells := 0, slots := 0, locals := 80 * (5) } s m args below meth c G b 4 (MQ below (zQ G b FQ) args s 0 0 (fun q : Nat => b ≤ q)) 0 0 0 [some (.ref P), some (.int v0), some (.int v1), none] [] (L, M, N)
  obtain ⟨p_lt, p_o, p_tape, p_out, p_reader, p_list, p_past, p_pool, p_result, p_odds, p_paper, p_trial, p_trialPool, p_trialResult, p_trialOdds⟩ := id hP
  obtain ⟨p_reader_lt, p_reader_o, p_reader_draft, p_reader_text, p_reader_unitNames, p_reader_hunterNames, p_reader_partyNames, p_reader_asked⟩ := id p_reader
  obtain ⟨p_list_lt, p_list_o, p_list_quota, p_list_score, p_list_guest, p_list_party, p_list_wishCount, p_list_wishes, p_list_has⟩ := id p_list
  obtain ⟨p_past_lt, p_past_o, p_past_stood, p_past_stood0, p_past_stood1, p_past_stood2, p_past_stood3, p_past_stood4, p_past_stood5, p_past_stood6, p_past_stood7⟩ := id p_past
  obtain ⟨p_pool_lt, p_pool_o, p_pool_quota, p_pool_preferred, p_pool_forGuests, p_pool_applicantOf, p_pool_size, p_pool_guestCount, p_pool_score, p_pool_tickets, p_pool_bits, p_pool_party, p_pool_wishCount, p_pool_wishes⟩ := id p_pool
  obtain ⟨p_result_lt, p_result_o, p_result_line, p_result_unitOf, p_result_roundOf, p_result_leftTags, p_result_leftGuests, p_result_leftPreferred, p_result_ranked⟩ := id p_result
  obtain ⟨p_odds_lt, p_odds_o, p_odds_sets, p_odds_seen, p_odds_atUnit, p_odds_early, p_odds_result⟩ := id p_odds
  obtain ⟨p_paper_lt, p_paper_o, p_paper_times, p_paper_firstWish, p_paper_dry, p_paper_list, p_paper_pool, p_paper_result⟩ := id p_paper
  obtain ⟨p_trial_lt, p_trial_o, p_trial_quota, p_trial_score, p_trial_guest, p_trial_party, p_trial_wishCount, p_trial_wishes, p_trial_has⟩ := id p_trial
  obtain ⟨p_trialPool_lt, p_trialPool_o, p_trialPool_quota, p_trialPool_preferred, p_trialPool_forGuests, p_trialPool_applicantOf, p_trialPool_size, p_trialPool_guestCount, p_trialPool_score, p_trialPool_tickets, p_trialPool_bits, p_trialPool_party, p_trialPool_wishCount, p_trialPool_wishes⟩ := id p_trialPool
  obtain ⟨p_trialResult_lt, p_trialResult_o, p_trialResult_line, p_trialResult_unitOf, p_trialResult_roundOf, p_trialResult_leftTags, p_trialResult_leftGuests, p_trialResult_leftPreferred, p_trialResult_ranked⟩ := id p_trialResult
  obtain ⟨p_trialOdds_lt, p_trialOdds_o, p_trialOdds_sets, p_trialOdds_seen, p_trialOdds_atUnit, p_trialOdds_early, p_trialOdds_result⟩ := id p_trialOdds
  have L_36 : ∀ u : Nat, ∀ (x1_36 : Int32) (x2_36 : Int32) (x3_36 : Int32) (M_36 : zMt), D_X7_lucky_36 P u x1_36 x2_36 x3_36 M_36 = some r → Zw p l e { frames := 5, cells := 0, slots := 0, locals := 80 * (5) } s m args below meth c G b 4 (MQ below (zQ G b FQ) args s 0 0 (fun q : Nat => b ≤ q)) 0 0 36 [some (.ref (P)), some (.int x1_36), some (.int x2_36), some (.int x3_36)] [] (L, M_36, N) := by
    intro u
    induction u with
    | zero => intro x1_36 x2_36 x3_36 M_36 h; cases (show none = some r from h)
    | succ u_36 ih_36 =>
      intro x1_36 x2_36 x3_36 M_36 h
      rw [D_X7_lucky_36] at h
      refine a_iload_n X dX7_lucky_36 rfl ?_
      refine a_bipush (v := 50) X dX7_lucky_37 (by decide) ?_
      refine a_icmp_ge (tgt := 85) X dX7_lucky_39 (by decide) (fun h_39 => ?_) (fun h_39 => ?_)
      · replace h := (if_pos h_39).symm.trans h
        refine a_aload_n X dX7_lucky_85 rfl ?_
        refine a_iconst (v := 5) X dX7_lucky_86 (by decide) ?_
        obtain ⟨e_87, f_87, h⟩ := zBx h
        refine a_callVv X dX7_lucky_87 miX7_refuse lm7_102 (t_X7_refuse (by assumption) f_87) (by assumption) rfl rfl rfl (Nat.le_of_ble_eq_true rfl) ⟨by decide, by decide, by decide, by decide⟩ ?_
        refine a_iret X hr dX7_lucky_90 ⟨by decide, by decide⟩ ?_
        subst hF
        rw [← Option.some.inj h]
        exact ⟨rfl, rfl⟩
      · replace h := (if_neg h_39).symm.trans h
        refine a_aload_n X dX7_lucky_42 rfl ?_
        refine a_getr X lf7_47 (by assumption) rfl (by omega) dX7_lucky_43 ?_
        refine a_aload_n X dX7_lucky_46 rfl ?_
        refine a_getr X lf7_40 (by assumption) rfl (by omega) dX7_lucky_47 ?_
        refine a_iload_n X dX7_lucky_50 rfl ?_
        refine a_iload_n X dX7_lucky_51 rfl ?_
        refine a_iadd X dX7_lucky_52 ?_
        obtain ⟨e_53, f_53, h⟩ := zBx h
        refine a_callVu X dX7_lucky_53 miX5_bySeed lm7_247 (t_X5_bySeed (by assumption) (by assumption) f_53) (by assumption) rfl rfl rfl (Nat.le_of_ble_eq_true rfl) ⟨by decide, by decide, by decide, by decide⟩ ?_
        refine a_aload_n X dX7_lucky_56 rfl ?_
        refine a_getr X lf7_47 (by assumption) rfl (by omega) dX7_lucky_57 ?_
        refine a_aload_n X dX7_lucky_60 rfl ?_
        refine a_getr X lf7_40 (by assumption) rfl (by omega) dX7_lucky_61 ?_
        refine a_iload_n X dX7_lucky_64 rfl ?_
        obtain ⟨e_65, f_65, h⟩ := zBx h
        refine a_callVx X dX7_lucky_65 miX5_hasFirst lm7_292 (t_X5_hasFirst (by assumption) (by assumption) f_65) (by assumption) rfl rfl rfl (Nat.le_of_ble_eq_true rfl) ⟨by decide, by decide, by decide, by decide⟩ (fun r_65 S_65 q_65 => ?_)
        obtain ⟨rfl, rfl, b_65⟩ := q_65
        refine a_if_eq (tgt := 79) X dX7_lucky_68 (by decide) (fun h_68 => ?_) (fun h_68 => ?_)
        · replace h := (if_pos h_68).symm.trans h
          refine a_iinc (v := x3_36 + 1) X dX7_lucky_79 (by decide) rfl zi_1 ?_
          refine a_goto (tgt := 36) X dX7_lucky_82 (by decide) ?_
          exact Zw.to2 (ih_36 _ _ _ _ h) rfl rfl rfl
        · replace h := (if_neg h_68).symm.trans h
          refine a_aload_n X dX7_lucky_71 rfl ?_
          refine a_iload_n X dX7_lucky_72 rfl ?_
          refine a_iload_n X dX7_lucky_73 rfl ?_
          refine a_iadd X dX7_lucky_74 ?_
          obtain ⟨e_75, f_75, h⟩ := zBx h
          refine a_callVv X dX7_lucky_75 miX7_answer lm7_134 (t_X7_answer (by assumption) f_75) (by assumption) rfl rfl rfl (Nat.le_of_ble_eq_true rfl) ⟨by decide, by decide, by decide, by decide⟩ ?_
          refine a_iret X hr dX7_lucky_78 ⟨by decide, by decide⟩ ?_
          subst hF
          rw [← Option.some.inj h]
          exact ⟨rfl, rfl⟩
  have H_36 : ∀ (x1_36 : Int32) (x2_36 : Int32) (x3_36 : Int32) (M_36 : zMt), D_X7_lucky_36 P zFu x1_36 x2_36 x3_36 M_36 = some r → Zw p l e { frames := 5, cells := 0, slots := 0, locals := 80 * (5) } s m args below meth c G b 4 (MQ below (zQ G b FQ) args s 0 0 (fun q : Nat => b ≤ q)) 0 0 36 [some (.ref (P)), some (.int x1_36), some (.int x2_36), some (.int x3_36)] [] (L, M_36, N) := L_36 zFu
  have J_14 : ∀ (x1_14 : Int32) (x2_14 : Int32) (x3_14 : Option Value) (M_14 : zMt), D_X7_lucky_14 P M_14 = some r → Zw p l e { frames := 5, cells := 0, slots := 0, locals := 80 * (5) } s m args below meth c G b 4 (MQ below (zQ G b FQ) args s 0 0 (fun q : Nat => b ≤ q)) 0 0 14 [some (.ref (P)), some (.int x1_14), some (.int x2_14), x3_14] [] (L, M_14, N) := by
    intro x1_14 x2_14 x3_14 M_14 h
    unfold D_X7_lucky_14 at h
    refine a_aload_n X dX7_lucky_14 rfl ?_
    refine a_iconst (v := 1) X dX7_lucky_15 (by decide) ?_
    obtain ⟨e_16, f_16, h⟩ := zBx h
    refine a_callVv X dX7_lucky_16 miX7_refuse lm7_102 (t_X7_refuse (by assumption) f_16) (by assumption) rfl rfl rfl (Nat.le_of_ble_eq_true rfl) ⟨by decide, by decide, by decide, by decide⟩ ?_
    refine a_iret X hr dX7_lucky_19 ⟨by decide, by decide⟩ ?_
    subst hF
    rw [← Option.some.inj h]
    exact ⟨rfl, rfl⟩
  unfold D_X7_lucky at h
  refine a_iload_n X dX7_lucky_0 rfl ?_
  obtain ⟨e_1, f_1, h⟩ := zBx h
  refine a_callSx X dX7_lucky_1 miX7_isSeed lm7_237 (t_X7_isSeed f_1) rfl rfl (Nat.le_of_ble_eq_true rfl) ⟨by decide, by decide, by decide, by decide⟩ (fun r_1 S_1 q_1 => ?_)
  obtain ⟨rfl, rfl, b_1⟩ := q_1
  refine a_if_eq (tgt := 14) X dX7_lucky_4 (by decide) (fun h_4 => ?_) (fun h_4 => ?_)
  · replace h := (if_pos h_4).symm.trans h
    exact Zw.to2 (J_14 _ _ _ _ h) rfl rfl rfl
  · replace h := (if_neg h_4).symm.trans h
    refine a_iload_n X dX7_lucky_7 rfl ?_
    refine a_ldcw X dX7_lucky_8 lk7_291 ?_
    refine a_icmp_le (tgt := 20) X dX7_lucky_11 (by decide) (fun h_11 => ?_) (fun h_11 => ?_)
    · replace h := (if_pos h_11).symm.trans h
      refine a_aload_n X dX7_lucky_20 rfl ?_
      refine a_iload_n X dX7_lucky_21 rfl ?_
      obtain ⟨e_22, f_22, h⟩ := zBx h
      refine a_callVx X dX7_lucky_22 miX7_isApplicant lm7_206 (t_X7_isApplicant (by assumption) f_22) (by assumption) rfl rfl rfl (Nat.le_of_ble_eq_true rfl) ⟨by decide, by decide, by decide, by decide⟩ (fun r_22 S_22 q_22 => ?_)
      obtain ⟨rfl, rfl, b_22⟩ := q_22
      refine a_if_ne (tgt := 34) X dX7_lucky_25 (by decide) (fun h_25 => ?_) (fun h_25 => ?_)
      · replace h := (if_neg h_25).symm.trans h
        refine a_iconst (v := 0) X dX7_lucky_34 (by decide) ?_
        refine a_istore_n X dX7_lucky_35 (by decide) ?_
        exact Zw.to2 (H_36 _ _ _ _ h) rfl rfl rfl
      · replace h := (if_pos h_25).symm.trans h
        refine a_aload_n X dX7_lucky_28 rfl ?_
        refine a_iconst (v := 2) X dX7_lucky_29 (by decide) ?_
        obtain ⟨e_30, f_30, h⟩ := zBx h
        refine a_callVv X dX7_lucky_30 miX7_refuse lm7_102 (t_X7_refuse (by assumption) f_30) (by assumption) rfl rfl rfl (Nat.le_of_ble_eq_true rfl) ⟨by decide, by decide, by decide, by decide⟩ ?_
        refine a_iret X hr dX7_lucky_33 ⟨by decide, by decide⟩ ?_
        subst hF
        rw [← Option.some.inj h]
        exact ⟨rfl, rfl⟩
    · replace h := (if_neg h_11).symm.trans h
      exact Zw.to2 (J_14 _ _ _ _ h) rfl rfl rfl
noncomputable def D_X7_reckon_23 (P : Nat) (M_23 : zMt) (N_23 : zNt) : Option (zMt × zNt) :=
  some (M_23, N_23)
noncomputable def D_X7_reckon (P : Nat) (M : zMt) (N : zNt) : Option (zMt × zNt) :=
  if (M P 3) = 0 then
    zB (D_X0_reckon (P + 112) (P + 91) M N) fun e_15 =>
    zLt (zu e_15.1 P 3 (1 : Int32)) fun M_20 =>
    D_X7_reckon_23 P M_20 e_15.2
  else
    D_X7_reckon_23 P M N
set_option maxRecDepth 100000 in
set_option maxHeartbeats 4000000 in
theorem t_X7_reckon {l : Launch} {G : zG} {b : Nat} {L : List zC} {M : zMt} {N : zNt} {P : Nat}  (hP : LX7 L P) {r : zMt × zNt} (h : D_X7_reckon P M N = some r) : zM l G b yX7_reckon cX7_reckon 1 none 14 0 0 [.ref P] (L, M, N) (fun r2 z => r2 = none ∧ z = (L, r.1, r.2)) := by
  refine zM.of miX7_reckon (Nat.le_of_ble_eq_true rfl) ?_
  intro p e s m args below meth c X hr hname
  generalize hF : ((fun r2 z => r2 = none ∧ z = (L, r.1, r.2)) : Option Value → zS → Prop) = FQ
  change Zw p l e { frames := 14, cells := 0, slots := 0, locals := 80 * (14) } s m args below meth c G b 1 (MQ below (zQ G b FQ) args s 0 0 (fun q : Nat => b ≤ q)) 0 0 0 [some (.ref P)] [] (L, M, N)
  obtain ⟨p_lt, p_o, p_tape, p_out, p_reader, p_list, p_past, p_pool, p_result, p_odds, p_paper, p_trial, p_trialPool, p_trialResult, p_trialOdds⟩ := id hP
  obtain ⟨p_reader_lt, p_reader_o, p_reader_draft, p_reader_text, p_reader_unitNames, p_reader_hunterNames, p_reader_partyNames, p_reader_asked⟩ := id p_reader
  obtain ⟨p_list_lt, p_list_o, p_list_quota, p_list_score, p_list_guest, p_list_party, p_list_wishCount, p_list_wishes, p_list_has⟩ := id p_list
  obtain ⟨p_past_lt, p_past_o, p_past_stood, p_past_stood0, p_past_stood1, p_past_stood2, p_past_stood3, p_past_stood4, p_past_stood5, p_past_stood6, p_past_stood7⟩ := id p_past
  obtain ⟨p_pool_lt, p_pool_o, p_pool_quota, p_pool_preferred, p_pool_forGuests, p_pool_applicantOf, p_pool_size, p_pool_guestCount, p_pool_score, p_pool_tickets, p_pool_bits, p_pool_party, p_pool_wishCount, p_pool_wishes⟩ := id p_pool
  obtain ⟨p_result_lt, p_result_o, p_result_line, p_result_unitOf, p_result_roundOf, p_result_leftTags, p_result_leftGuests, p_result_leftPreferred, p_result_ranked⟩ := id p_result
  obtain ⟨p_odds_lt, p_odds_o, p_odds_sets, p_odds_seen, p_odds_atUnit, p_odds_early, p_odds_result⟩ := id p_odds
  obtain ⟨p_paper_lt, p_paper_o, p_paper_times, p_paper_firstWish, p_paper_dry, p_paper_list, p_paper_pool, p_paper_result⟩ := id p_paper
  obtain ⟨p_trial_lt, p_trial_o, p_trial_quota, p_trial_score, p_trial_guest, p_trial_party, p_trial_wishCount, p_trial_wishes, p_trial_has⟩ := id p_trial
  obtain ⟨p_trialPool_lt, p_trialPool_o, p_trialPool_quota, p_trialPool_preferred, p_trialPool_forGuests, p_trialPool_applicantOf, p_trialPool_size, p_trialPool_guestCount, p_trialPool_score, p_trialPool_tickets, p_trialPool_bits, p_trialPool_party, p_trialPool_wishCount, p_trialPool_wishes⟩ := id p_trialPool
  obtain ⟨p_trialResult_lt, p_trialResult_o, p_trialResult_line, p_trialResult_unitOf, p_trialResult_roundOf, p_trialResult_leftTags, p_trialResult_leftGuests, p_trialResult_leftPreferred, p_trialResult_ranked⟩ := id p_trialResult
  obtain ⟨p_trialOdds_lt, p_trialOdds_o, p_trialOdds_sets, p_trialOdds_seen, p_trialOdds_atUnit, p_trialOdds_early, p_trialOdds_result⟩ := id p_trialOdds
  have J_23 : ∀ (M_23 : zMt) (N_23 : zNt), D_X7_reckon_23 P M_23 N_23 = some r → Zw p l e { frames := 14, cells := 0, slots := 0, locals := 80 * (14) } s m args below meth c G b 1 (MQ below (zQ G b FQ) args s 0 0 (fun q : Nat => b ≤ q)) 0 0 23 [some (.ref (P))] [] (L, M_23, N_23) := by
    intro M_23 N_23 h
    unfold D_X7_reckon_23 at h
    refine a_vret X hr dX7_reckon_23 ⟨by decide, by decide⟩ ?_
    subst hF
    rw [← Option.some.inj h]
    exact ⟨rfl, rfl⟩
  unfold D_X7_reckon at h
  refine a_aload_n X dX7_reckon_0 rfl ?_
  refine a_geti X lf7_368 (by assumption) rfl dX7_reckon_1 ?_
  refine a_if_ne (tgt := 23) X dX7_reckon_4 (by decide) (fun h_4 => ?_) (fun h_4 => ?_)
  · replace h := (if_neg h_4).symm.trans h
    exact Zw.to2 (J_23 _ _ h) rfl rfl rfl
  · replace h := (if_pos h_4).symm.trans h
    refine a_aload_n X dX7_reckon_7 rfl ?_
    refine a_getr X lf7_54 (by assumption) rfl (by omega) dX7_reckon_8 ?_
    refine a_aload_n X dX7_reckon_11 rfl ?_
    refine a_getr X lf7_40 (by assumption) rfl (by omega) dX7_reckon_12 ?_
    obtain ⟨e_15, f_15, h⟩ := zBx h
    refine a_callVu X dX7_reckon_15 miX0_reckon lm7_339 (t_X0_reckon (by assumption) (by assumption) f_15) (by assumption) rfl rfl rfl (Nat.le_of_ble_eq_true rfl) ⟨by decide, by decide, by decide, by decide⟩ ?_
    refine a_aload_n X dX7_reckon_18 rfl ?_
    refine a_iconst (v := 1) X dX7_reckon_19 (by decide) ?_
    obtain ⟨M_20, f_20, h⟩ := zLtx h
    refine d_putz X (by first | exact Or.inl rfl | exact Or.inr rfl | assumption) lf7_368 (by assumption) rfl dX7_reckon_20 f_20 ?_
    exact Zw.to2 (J_23 _ _ h) rfl rfl rfl
noncomputable def D_X7_answerParts (P : Nat) (v0 : Int64) (M : zMt) : Option (Int64 × zMt) :=
  zLt (zu M P 0 (0 : Int32)) fun M_2 =>
  some (v0, M_2)
set_option maxRecDepth 100000 in
set_option maxHeartbeats 4000000 in
theorem t_X7_answerParts {l : Launch} {G : zG} {b : Nat} {L : List zC} {M : zMt} {N : zNt} {P : Nat} {v0 : Int64} (hP : LX7 L P) {r : Int64 × zMt} (h : D_X7_answerParts P v0 M = some r) : zM l G b yX7_answerParts cX7_answerParts 3 (some .long) 0 0 0 [.ref P, .long v0] (L, M, N) (fun r2 z => r2 = some (.long r.1) ∧ z = (L, r.2, N)) := by
  refine zM.of miX7_answerParts (Nat.le_of_ble_eq_true rfl) ?_
  intro p e s m args below meth c X hr hname
  generalize hF : ((fun r2 z => r2 = some (.long r.1) ∧ z = (L, r.2, N)) : Option Value → zS → Prop) = FQ
  change Zw p l e { frames := 0, cells := 0, slots := 0, locals := 80 * (0) } s m args below meth c G b 3 (MQ below (zQ G b FQ) args s 0 0 (fun q : Nat => b ≤ q)) 0 0 0 [some (.ref P), some (.long v0), none] [] (L, M, N)
  obtain ⟨p_lt, p_o, p_tape, p_out, p_reader, p_list, p_past, p_pool, p_result, p_odds, p_paper, p_trial, p_trialPool, p_trialResult, p_trialOdds⟩ := id hP
  obtain ⟨p_reader_lt, p_reader_o, p_reader_draft, p_reader_text, p_reader_unitNames, p_reader_hunterNames, p_reader_partyNames, p_reader_asked⟩ := id p_reader
  obtain ⟨p_list_lt, p_list_o, p_list_quota, p_list_score, p_list_guest, p_list_party, p_list_wishCount, p_list_wishes, p_list_has⟩ := id p_list
  obtain ⟨p_past_lt, p_past_o, p_past_stood, p_past_stood0, p_past_stood1, p_past_stood2, p_past_stood3, p_past_stood4, p_past_stood5, p_past_stood6, p_past_stood7⟩ := id p_past
  obtain ⟨p_pool_lt, p_pool_o, p_pool_quota, p_pool_preferred, p_pool_forGuests, p_pool_applicantOf, p_pool_size, p_pool_guestCount, p_pool_score, p_pool_tickets, p_pool_bits, p_pool_party, p_pool_wishCount, p_pool_wishes⟩ := id p_pool
  obtain ⟨p_result_lt, p_result_o, p_result_line, p_result_unitOf, p_result_roundOf, p_result_leftTags, p_result_leftGuests, p_result_leftPreferred, p_result_ranked⟩ := id p_result
  obtain ⟨p_odds_lt, p_odds_o, p_odds_sets, p_odds_seen, p_odds_atUnit, p_odds_early, p_odds_result⟩ := id p_odds
  obtain ⟨p_paper_lt, p_paper_o, p_paper_times, p_paper_firstWish, p_paper_dry, p_paper_list, p_paper_pool, p_paper_result⟩ := id p_paper
  obtain ⟨p_trial_lt, p_trial_o, p_trial_quota, p_trial_score, p_trial_guest, p_trial_party, p_trial_wishCount, p_trial_wishes, p_trial_has⟩ := id p_trial
  obtain ⟨p_trialPool_lt, p_trialPool_o, p_trialPool_quota, p_trialPool_preferred, p_trialPool_forGuests, p_trialPool_applicantOf, p_trialPool_size, p_trialPool_guestCount, p_trialPool_score, p_trialPool_tickets, p_trialPool_bits, p_trialPool_party, p_trialPool_wishCount, p_trialPool_wishes⟩ := id p_trialPool
  obtain ⟨p_trialResult_lt, p_trialResult_o, p_trialResult_line, p_trialResult_unitOf, p_trialResult_roundOf, p_trialResult_leftTags, p_trialResult_leftGuests, p_trialResult_leftPreferred, p_trialResult_ranked⟩ := id p_trialResult
  obtain ⟨p_trialOdds_lt, p_trialOdds_o, p_trialOdds_sets, p_trialOdds_seen, p_trialOdds_atUnit, p_trialOdds_early, p_trialOdds_result⟩ := id p_trialOdds
  unfold D_X7_answerParts at h
  refine a_aload_n X dX7_answerParts_0 rfl ?_
  refine a_iconst (v := 0) X dX7_answerParts_1 (by decide) ?_
  obtain ⟨M_2, f_2, h⟩ := zLtx h
  refine d_puti X lf7_88 (by assumption) rfl dX7_answerParts_2 f_2 ?_
  refine a_lload_n X dX7_answerParts_5 rfl ?_
  refine a_lret X hr dX7_answerParts_6 ⟨by decide, by decide⟩ ?_
  subst hF
  rw [← Option.some.inj h]
  exact ⟨rfl, rfl⟩
noncomputable def D_X7_chance_129 (P : Nat) (y1_129 : Int64) (M_129 : zMt) (N_129 : zNt) : Option (Int64 × zMt × zNt) :=
  zB (D_X7_answerParts P y1_129 M_129) fun e_129 =>
  some (e_129.1, e_129.2, N_129)
noncomputable def D_X7_chance_9 (P : Nat) (M_9 : zMt) (N_9 : zNt) : Option (Int64 × zMt × zNt) :=
  zB (D_X7_refuse P (1 : Int32) M_9) fun e_11 =>
  some ((Int32.toInt64 e_11.1), e_11.2, N_9)
noncomputable def D_X7_chance (P : Nat) (v0 : Int32) (v1 : Int32) (M : zMt) (N : zNt) : Option (Int64 × zMt × zNt) :=
  if v1 < 0 then
    D_X7_chance_9 P M N
  else
    if v1 ≤ (2 : Int32) then
      zB (D_X7_isApplicant P M v0) fun e_18 =>
      if e_18 = 0 then
        zB (D_X7_refuse P (2 : Int32) M) fun e_26 =>
        some ((Int32.toInt64 e_26.1), e_26.2, N)
      else
        if (M (P + 91) 1) ≤ (7 : Int32) then
          zB (D_X7_reckon P M N) fun e_51 =>
          if Int32.toInt v1 = 0 then
            zB (D_X0_anyUnit (P + 112) e_51.2 v0) fun e_86 =>
            zB (D_X7_answerParts P e_86 e_51.1) fun e_89 =>
            some (e_89.1, e_89.2, e_51.2)
          else if Int32.toInt v1 = 1 then
            if (zrd 0 (e_51.1 (P + 102)) 10 v0) = 0 then
              D_X7_chance_129 P (0 : Int64) e_51.1 e_51.2
            else
              zB (D_X2_wish (P + 91) e_51.1 v0 (0 : Int32)) fun e_123 =>
              zB (D_X0_certainUnit (P + 112) e_51.2 v0 e_123) fun e_126 =>
              D_X7_chance_129 P e_126 e_51.1 e_51.2
          else
            zB (D_X7_answerParts P (zrd 0 (e_51.2 (P + 116)) 7 v0) e_51.1) fun e_145 =>
            some (e_145.1, e_145.2, e_51.2)
        else
          zB (D_X7_refuse P (3 : Int32) M) fun e_45 =>
          some ((Int32.toInt64 e_45.1), e_45.2, N)
    else
      D_X7_chance_9 P M N
set_option maxRecDepth 100000 in
set_option maxHeartbeats 4000000 in
theorem t_X7_chance {l : Launch} {G : zG} {b : Nat} {L : List zC} {M : zMt} {N : zNt} {P : Nat} {v0 : Int32} {v1 : Int32} (hP : LX7 L P) {r : Int64 × zMt × zNt} (h : D_X7_chance P v0 v1 M N = some r) : zM l G b yX7_chance cX7_chance 3 (some .long) 15 0 0 [.ref P, .int v0, .int v1] (L, M, N) (fun r2 z => r2 = some (.long r.1) ∧ z = (L, r.2.1, r.2.2)) := by
  refine zM.of miX7_chance (Nat.le_of_ble_eq_true rfl) ?_
  intro p e s m args below meth c X hr hname
  generalize hF : ((fun r2 z => r2 = some (.long r.1) ∧ z = (L, r.2.1, r.2.2)) : Option Value → zS → Prop) = FQ
  change Zw p l e { frames := 15, cells := 0, slots := 0, locals := 80 * (15) } s m args below meth c G b 3 (MQ below (zQ G b FQ) args s 0 0 (fun q : Nat => b ≤ q)) 0 0 0 [some (.ref P), some (.int v0), some (.int v1)] [] (L, M, N)
  obtain ⟨p_lt, p_o, p_tape, p_out, p_reader, p_list, p_past, p_pool, p_result, p_odds, p_paper, p_trial, p_trialPool, p_trialResult, p_trialOdds⟩ := id hP
  obtain ⟨p_reader_lt, p_reader_o, p_reader_draft, p_reader_text, p_reader_unitNames, p_reader_hunterNames, p_reader_partyNames, p_reader_asked⟩ := id p_reader
  obtain ⟨p_list_lt, p_list_o, p_list_quota, p_list_score, p_list_guest, p_list_party, p_list_wishCount, p_list_wishes, p_list_has⟩ := id p_list
  obtain ⟨p_past_lt, p_past_o, p_past_stood, p_past_stood0, p_past_stood1, p_past_stood2, p_past_stood3, p_past_stood4, p_past_stood5, p_past_stood6, p_past_stood7⟩ := id p_past
  obtain ⟨p_pool_lt, p_pool_o, p_pool_quota, p_pool_preferred, p_pool_forGuests, p_pool_applicantOf, p_pool_size, p_pool_guestCount, p_pool_score, p_pool_tickets, p_pool_bits, p_pool_party, p_pool_wishCount, p_pool_wishes⟩ := id p_pool
  obtain ⟨p_result_lt, p_result_o, p_result_line, p_result_unitOf, p_result_roundOf, p_result_leftTags, p_result_leftGuests, p_result_leftPreferred, p_result_ranked⟩ := id p_result
  obtain ⟨p_odds_lt, p_odds_o, p_odds_sets, p_odds_seen, p_odds_atUnit, p_odds_early, p_odds_result⟩ := id p_odds
  obtain ⟨p_paper_lt, p_paper_o, p_paper_times, p_paper_firstWish, p_paper_dry, p_paper_list, p_paper_pool, p_paper_result⟩ := id p_paper
  obtain ⟨p_trial_lt, p_trial_o, p_trial_quota, p_trial_score, p_trial_guest, p_trial_party, p_trial_wishCount, p_trial_wishes, p_trial_has⟩ := id p_trial
  obtain ⟨p_trialPool_lt, p_trialPool_o, p_trialPool_quota, p_trialPool_preferred, p_trialPool_forGuests, p_trialPool_applicantOf, p_trialPool_size, p_trialPool_guestCount, p_trialPool_score, p_trialPool_tickets, p_trialPool_bits, p_trialPool_party, p_trialPool_wishCount, p_trialPool_wishes⟩ := id p_trialPool
  obtain ⟨p_trialResult_lt, p_trialResult_o, p_trialResult_line, p_trialResult_unitOf, p_trialResult_roundOf, p_trialResult_leftTags, p_trialResult_leftGuests, p_trialResult_leftPreferred, p_trialResult_ranked⟩ := id p_trialResult
  obtain ⟨p_trialOdds_lt, p_trialOdds_o, p_trialOdds_sets, p_trialOdds_seen, p_trialOdds_atUnit, p_trialOdds_early, p_trialOdds_result⟩ := id p_trialOdds
  have J_129 : ∀ (x1_129 : Int32) (x2_129 : Int32) (y1_129 : Int64) (M_129 : zMt) (N_129 : zNt), D_X7_chance_129 P y1_129 M_129 N_129 = some r → Zw p l e { frames := 15, cells := 0, slots := 0, locals := 80 * (15) } s m args below meth c G b 3 (MQ below (zQ G b FQ) args s 0 0 (fun q : Nat => b ≤ q)) 0 0 129 [some (.ref (P)), some (.int x1_129), some (.int x2_129)] [.long y1_129, .ref (P)] (L, M_129, N_129) := by
    intro x1_129 x2_129 y1_129 M_129 N_129 h
    unfold D_X7_chance_129 at h
    obtain ⟨e_129, f_129, h⟩ := zBx h
    refine a_callVv X dX7_chance_129 miX7_answerParts lm7_303 (t_X7_answerParts (by assumption) f_129) (by assumption) rfl rfl rfl (Nat.le_of_ble_eq_true rfl) ⟨by decide, by decide, by decide, by decide⟩ ?_
    refine a_lret X hr dX7_chance_132 ⟨by decide, by decide⟩ ?_
    subst hF
    rw [← Option.some.inj h]
    exact ⟨rfl, rfl⟩
  have J_9 : ∀ (x1_9 : Int32) (x2_9 : Int32) (M_9 : zMt) (N_9 : zNt), D_X7_chance_9 P M_9 N_9 = some r → Zw p l e { frames := 15, cells := 0, slots := 0, locals := 80 * (15) } s m args below meth c G b 3 (MQ below (zQ G b FQ) args s 0 0 (fun q : Nat => b ≤ q)) 0 0 9 [some (.ref (P)), some (.int x1_9), some (.int x2_9)] [] (L, M_9, N_9) := by
    intro x1_9 x2_9 M_9 N_9 h
    unfold D_X7_chance_9 at h
    refine a_aload_n X dX7_chance_9 rfl ?_
    refine a_iconst (v := 1) X dX7_chance_10 (by decide) ?_
    obtain ⟨e_11, f_11, h⟩ := zBx h
    refine a_callVv X dX7_chance_11 miX7_refuse lm7_102 (t_X7_refuse (by assumption) f_11) (by assumption) rfl rfl rfl (Nat.le_of_ble_eq_true rfl) ⟨by decide, by decide, by decide, by decide⟩ ?_
    refine a_i2l X dX7_chance_14 ?_
    refine a_lret X hr dX7_chance_15 ⟨by decide, by decide⟩ ?_
    subst hF
    rw [← Option.some.inj h]
    exact ⟨rfl, rfl⟩
  unfold D_X7_chance at h
  refine a_iload_n X dX7_chance_0 rfl ?_
  refine a_if_lt (tgt := 9) X dX7_chance_1 (by decide) (fun h_1 => ?_) (fun h_1 => ?_)
  · replace h := (if_pos h_1).symm.trans h
    exact Zw.to2 (J_9 _ _ _ _ h) rfl rfl rfl
  · replace h := (if_neg h_1).symm.trans h
    refine a_iload_n X dX7_chance_4 rfl ?_
    refine a_iconst (v := 2) X dX7_chance_5 (by decide) ?_
    refine a_icmp_le (tgt := 16) X dX7_chance_6 (by decide) (fun h_6 => ?_) (fun h_6 => ?_)
    · replace h := (if_pos h_6).symm.trans h
      refine a_aload_n X dX7_chance_16 rfl ?_
      refine a_iload_n X dX7_chance_17 rfl ?_
      obtain ⟨e_18, f_18, h⟩ := zBx h
      refine a_callVx X dX7_chance_18 miX7_isApplicant lm7_206 (t_X7_isApplicant (by assumption) f_18) (by assumption) rfl rfl rfl (Nat.le_of_ble_eq_true rfl) ⟨by decide, by decide, by decide, by decide⟩ (fun r_18 S_18 q_18 => ?_)
      obtain ⟨rfl, rfl, b_18⟩ := q_18
      refine a_if_ne (tgt := 31) X dX7_chance_21 (by decide) (fun h_21 => ?_) (fun h_21 => ?_)
      · replace h := (if_neg h_21).symm.trans h
        refine a_aload_n X dX7_chance_31 rfl ?_
        refine a_getr X lf7_40 (by assumption) rfl (by omega) dX7_chance_32 ?_
        refine a_geti X lf7_140 (by assumption) rfl dX7_chance_35 ?_
        refine a_bipush (v := 7) X dX7_chance_38 (by decide) ?_
        refine a_icmp_le (tgt := 50) X dX7_chance_40 (by decide) (fun h_40 => ?_) (fun h_40 => ?_)
        · replace h := (if_pos h_40).symm.trans h
          refine a_aload_n X dX7_chance_50 rfl ?_
          obtain ⟨e_51, f_51, h⟩ := zBx h
          refine a_callVu X dX7_chance_51 miX7_reckon lm7_296 (t_X7_reckon (by assumption) f_51) (by assumption) rfl rfl rfl (Nat.le_of_ble_eq_true rfl) ⟨by decide, by decide, by decide, by decide⟩ ?_
          refine a_iload_n X dX7_chance_54 rfl ?_
          refine a_lsw2 (t1 := 80) (t2 := 93) (td := 133) X dX7_chance_55 rfl (by decide) (by decide) (by decide) (by decide) (fun h_55 => ?_) (fun g_55 h_55 => ?_) (fun f_55 g_55 => ?_)
          · replace h := (if_pos h_55).symm.trans h
            refine a_aload_n X dX7_chance_80 rfl ?_
            refine a_aload_n X dX7_chance_81 rfl ?_
            refine a_getr X lf7_54 (by assumption) rfl (by omega) dX7_chance_82 ?_
            refine a_iload_n X dX7_chance_85 rfl ?_
            obtain ⟨e_86, f_86, h⟩ := zBx h
            refine a_callVv X dX7_chance_86 miX0_anyUnit lm7_299 (t_X0_anyUnit (by assumption) f_86) (by assumption) rfl rfl rfl (Nat.le_of_ble_eq_true rfl) ⟨by decide, by decide, by decide, by decide⟩ ?_
            obtain ⟨e_89, f_89, h⟩ := zBx h
            refine a_callVv X dX7_chance_89 miX7_answerParts lm7_303 (t_X7_answerParts (by assumption) f_89) (by assumption) rfl rfl rfl (Nat.le_of_ble_eq_true rfl) ⟨by decide, by decide, by decide, by decide⟩ ?_
            refine a_lret X hr dX7_chance_92 ⟨by decide, by decide⟩ ?_
            subst hF
            rw [← Option.some.inj h]
            exact ⟨rfl, rfl⟩
          · replace h := (if_neg g_55).symm.trans h
            replace h := (if_pos h_55).symm.trans h
            refine a_aload_n X dX7_chance_93 rfl ?_
            refine a_aload_n X dX7_chance_94 rfl ?_
            refine a_getr X lf7_40 (by assumption) rfl (by omega) dX7_chance_95 ?_
            refine a_getr X lf7_219 (by assumption) rfl (by omega) dX7_chance_98 ?_
            refine a_iload_n X dX7_chance_101 rfl ?_
            refine a_callSv X dX7_chance_102 miX7_cell lm7_175 (c_cell (by assumption) (by first | decide | assumption)) rfl rfl (Nat.le_of_ble_eq_true rfl) ⟨by decide, by decide, by decide, by decide⟩ ?_
            refine a_if_ne (tgt := 112) X dX7_chance_105 (by decide) (fun h_105 => ?_) (fun h_105 => ?_)
            · replace h := (if_neg h_105).symm.trans h
              refine a_aload_n X dX7_chance_112 rfl ?_
              refine a_getr X lf7_54 (by assumption) rfl (by omega) dX7_chance_113 ?_
              refine a_iload_n X dX7_chance_116 rfl ?_
              refine a_aload_n X dX7_chance_117 rfl ?_
              refine a_getr X lf7_40 (by assumption) rfl (by omega) dX7_chance_118 ?_
              refine a_iload_n X dX7_chance_121 rfl ?_
              refine a_iconst (v := 0) X dX7_chance_122 (by decide) ?_
              obtain ⟨e_123, f_123, h⟩ := zBx h
              refine a_callVv X dX7_chance_123 miX2_wish lm7_226 (t_X2_wish (by assumption) f_123) (by assumption) rfl rfl rfl (Nat.le_of_ble_eq_true rfl) ⟨by decide, by decide, by decide, by decide⟩ ?_
              obtain ⟨e_126, f_126, h⟩ := zBx h
              refine a_callVv X dX7_chance_126 miX0_certainUnit lm7_307 (t_X0_certainUnit (by assumption) f_126) (by assumption) rfl rfl rfl (Nat.le_of_ble_eq_true rfl) ⟨by decide, by decide, by decide, by decide⟩ ?_
              exact Zw.to2 (J_129 _ _ _ _ _ h) rfl rfl rfl
            · replace h := (if_pos h_105).symm.trans h
              refine a_lconst (v := 0) X dX7_chance_108 (by decide) ?_
              refine a_goto (tgt := 129) X dX7_chance_109 (by decide) ?_
              exact Zw.to2 (J_129 _ _ _ _ _ h) rfl rfl rfl
          · replace h := (if_neg f_55).symm.trans h
            replace h := (if_neg g_55).symm.trans h
            refine a_aload_n X dX7_chance_133 rfl ?_
            refine a_aload_n X dX7_chance_134 rfl ?_
            refine a_getr X lf7_54 (by assumption) rfl (by omega) dX7_chance_135 ?_
            refine a_getr X lf7_311 (by assumption) rfl (by omega) dX7_chance_138 ?_
            refine a_iload_n X dX7_chance_141 rfl ?_
            refine a_callSv X dX7_chance_142 miX7_bigCell lm7_315 (c_bigCell (by assumption) (by first | decide | assumption)) rfl rfl (Nat.le_of_ble_eq_true rfl) ⟨by decide, by decide, by decide, by decide⟩ ?_
            obtain ⟨e_145, f_145, h⟩ := zBx h
            refine a_callVv X dX7_chance_145 miX7_answerParts lm7_303 (t_X7_answerParts (by assumption) f_145) (by assumption) rfl rfl rfl (Nat.le_of_ble_eq_true rfl) ⟨by decide, by decide, by decide, by decide⟩ ?_
            refine a_lret X hr dX7_chance_148 ⟨by decide, by decide⟩ ?_
            subst hF
            rw [← Option.some.inj h]
            exact ⟨rfl, rfl⟩
        · replace h := (if_neg h_40).symm.trans h
          refine a_aload_n X dX7_chance_43 rfl ?_
          refine a_iconst (v := 3) X dX7_chance_44 (by decide) ?_
          obtain ⟨e_45, f_45, h⟩ := zBx h
          refine a_callVv X dX7_chance_45 miX7_refuse lm7_102 (t_X7_refuse (by assumption) f_45) (by assumption) rfl rfl rfl (Nat.le_of_ble_eq_true rfl) ⟨by decide, by decide, by decide, by decide⟩ ?_
          refine a_i2l X dX7_chance_48 ?_
          refine a_lret X hr dX7_chance_49 ⟨by decide, by decide⟩ ?_
          subst hF
          rw [← Option.some.inj h]
          exact ⟨rfl, rfl⟩
      · replace h := (if_pos h_21).symm.trans h
        refine a_aload_n X dX7_chance_24 rfl ?_
        refine a_iconst (v := 2) X dX7_chance_25 (by decide) ?_
        obtain ⟨e_26, f_26, h⟩ := zBx h
        refine a_callVv X dX7_chance_26 miX7_refuse lm7_102 (t_X7_refuse (by assumption) f_26) (by assumption) rfl rfl rfl (Nat.le_of_ble_eq_true rfl) ⟨by decide, by decide, by decide, by decide⟩ ?_
        refine a_i2l X dX7_chance_29 ?_
        refine a_lret X hr dX7_chance_30 ⟨by decide, by decide⟩ ?_
        subst hF
        rw [← Option.some.inj h]
        exact ⟨rfl, rfl⟩
    · replace h := (if_neg h_6).symm.trans h
      exact Zw.to2 (J_9 _ _ _ _ h) rfl rfl rfl
noncomputable def D_X7_at_16 (P : Nat) (M_16 : zMt) (N_16 : zNt) : Option (Int64 × zMt × zNt) :=
  zB (D_X7_refuse P (2 : Int32) M_16) fun e_18 =>
  some ((Int32.toInt64 e_18.1), e_18.2, N_16)
noncomputable def D_X7_at (P : Nat) (v0 : Int32) (v1 : Int32) (M : zMt) (N : zNt) : Option (Int64 × zMt × zNt) :=
  zB (D_X7_isApplicant P M v0) fun e_2 =>
  if e_2 = 0 then
    D_X7_at_16 P M N
  else
    zB (D_X7_isUnit P M v1) fun e_10 =>
    if e_10 = 0 then
      D_X7_at_16 P M N
    else
      if (M (P + 91) 1) ≤ (7 : Int32) then
        zB (D_X7_reckon P M N) fun e_43 =>
        zB (D_X0_certainUnit (P + 112) e_43.2 v0 v1) fun e_53 =>
        zB (D_X7_answerParts P e_53 e_43.1) fun e_56 =>
        some (e_56.1, e_56.2, e_43.2)
      else
        zB (D_X7_refuse P (3 : Int32) M) fun e_37 =>
        some ((Int32.toInt64 e_37.1), e_37.2, N)
set_option maxRecDepth 100000 in
set_option maxHeartbeats 4000000 in
theorem t_X7_at {l : Launch} {G : zG} {b : Nat} {L : List zC} {M : zMt} {N : zNt} {P : Nat} {v0 : Int32} {v1 : Int32} (hP : LX7 L P) {r : Int64 × zMt × zNt} (h : D_X7_at P v0 v1 M N = some r) : zM l G b yX7_at cX7_at 3 (some .long) 15 0 0 [.ref P, .int v0, .int v1] (L, M, N) (fun r2 z => r2 = some (.long r.1) ∧ z = (L, r.2.1, r.2.2)) := by
  refine zM.of miX7_at (Nat.le_of_ble_eq_true rfl) ?_
  intro p e s m args below meth c X hr hname
  generalize hF : ((fun r2 z => r2 = some (.long r.1) ∧ z = (L, r.2.1, r.2.2)) : Option Value → zS → Prop) = FQ
  change Zw p l e { frames := 15, cells := 0, slots := 0, locals := 80 * (15) } s m args below meth c G b 3 (MQ below (zQ G b FQ) args s 0 0 (fun q : Nat => b ≤ q)) 0 0 0 [some (.ref P), some (.int v0), some (.int v1)] [] (L, M, N)
  obtain ⟨p_lt, p_o, p_tape, p_out, p_reader, p_list, p_past, p_pool, p_result, p_odds, p_paper, p_trial, p_trialPool, p_trialResult, p_trialOdds⟩ := id hP
  obtain ⟨p_reader_lt, p_reader_o, p_reader_draft, p_reader_text, p_reader_unitNames, p_reader_hunterNames, p_reader_partyNames, p_reader_asked⟩ := id p_reader
  obtain ⟨p_list_lt, p_list_o, p_list_quota, p_list_score, p_list_guest, p_list_party, p_list_wishCount, p_list_wishes, p_list_has⟩ := id p_list
  obtain ⟨p_past_lt, p_past_o, p_past_stood, p_past_stood0, p_past_stood1, p_past_stood2, p_past_stood3, p_past_stood4, p_past_stood5, p_past_stood6, p_past_stood7⟩ := id p_past
  obtain ⟨p_pool_lt, p_pool_o, p_pool_quota, p_pool_preferred, p_pool_forGuests, p_pool_applicantOf, p_pool_size, p_pool_guestCount, p_pool_score, p_pool_tickets, p_pool_bits, p_pool_party, p_pool_wishCount, p_pool_wishes⟩ := id p_pool
  obtain ⟨p_result_lt, p_result_o, p_result_line, p_result_unitOf, p_result_roundOf, p_result_leftTags, p_result_leftGuests, p_result_leftPreferred, p_result_ranked⟩ := id p_result
  obtain ⟨p_odds_lt, p_odds_o, p_odds_sets, p_odds_seen, p_odds_atUnit, p_odds_early, p_odds_result⟩ := id p_odds
  obtain ⟨p_paper_lt, p_paper_o, p_paper_times, p_paper_firstWish, p_paper_dry, p_paper_list, p_paper_pool, p_paper_result⟩ := id p_paper
  obtain ⟨p_trial_lt, p_trial_o, p_trial_quota, p_trial_score, p_trial_guest, p_trial_party, p_trial_wishCount, p_trial_wishes, p_trial_has⟩ := id p_trial
  obtain ⟨p_trialPool_lt, p_trialPool_o, p_trialPool_quota, p_trialPool_preferred, p_trialPool_forGuests, p_trialPool_applicantOf, p_trialPool_size, p_trialPool_guestCount, p_trialPool_score, p_trialPool_tickets, p_trialPool_bits, p_trialPool_party, p_trialPool_wishCount, p_trialPool_wishes⟩ := id p_trialPool
  obtain ⟨p_trialResult_lt, p_trialResult_o, p_trialResult_line, p_trialResult_unitOf, p_trialResult_roundOf, p_trialResult_leftTags, p_trialResult_leftGuests, p_trialResult_leftPreferred, p_trialResult_ranked⟩ := id p_trialResult
  obtain ⟨p_trialOdds_lt, p_trialOdds_o, p_trialOdds_sets, p_trialOdds_seen, p_trialOdds_atUnit, p_trialOdds_early, p_trialOdds_result⟩ := id p_trialOdds
  have J_16 : ∀ (x1_16 : Int32) (x2_16 : Int32) (M_16 : zMt) (N_16 : zNt), D_X7_at_16 P M_16 N_16 = some r → Zw p l e { frames := 15, cells := 0, slots := 0, locals := 80 * (15) } s m args below meth c G b 3 (MQ below (zQ G b FQ) args s 0 0 (fun q : Nat => b ≤ q)) 0 0 16 [some (.ref (P)), some (.int x1_16), some (.int x2_16)] [] (L, M_16, N_16) := by
    intro x1_16 x2_16 M_16 N_16 h
    unfold D_X7_at_16 at h
    refine a_aload_n X dX7_at_16 rfl ?_
    refine a_iconst (v := 2) X dX7_at_17 (by decide) ?_
    obtain ⟨e_18, f_18, h⟩ := zBx h
    refine a_callVv X dX7_at_18 miX7_refuse lm7_102 (t_X7_refuse (by assumption) f_18) (by assumption) rfl rfl rfl (Nat.le_of_ble_eq_true rfl) ⟨by decide, by decide, by decide, by decide⟩ ?_
    refine a_i2l X dX7_at_21 ?_
    refine a_lret X hr dX7_at_22 ⟨by decide, by decide⟩ ?_
    subst hF
    rw [← Option.some.inj h]
    exact ⟨rfl, rfl⟩
  unfold D_X7_at at h
  refine a_aload_n X dX7_at_0 rfl ?_
  refine a_iload_n X dX7_at_1 rfl ?_
  obtain ⟨e_2, f_2, h⟩ := zBx h
  refine a_callVx X dX7_at_2 miX7_isApplicant lm7_206 (t_X7_isApplicant (by assumption) f_2) (by assumption) rfl rfl rfl (Nat.le_of_ble_eq_true rfl) ⟨by decide, by decide, by decide, by decide⟩ (fun r_2 S_2 q_2 => ?_)
  obtain ⟨rfl, rfl, b_2⟩ := q_2
  refine a_if_eq (tgt := 16) X dX7_at_5 (by decide) (fun h_5 => ?_) (fun h_5 => ?_)
  · replace h := (if_pos h_5).symm.trans h
    exact Zw.to2 (J_16 _ _ _ _ h) rfl rfl rfl
  · replace h := (if_neg h_5).symm.trans h
    refine a_aload_n X dX7_at_8 rfl ?_
    refine a_iload_n X dX7_at_9 rfl ?_
    obtain ⟨e_10, f_10, h⟩ := zBx h
    refine a_callVx X dX7_at_10 miX7_isUnit lm7_188 (t_X7_isUnit (by assumption) f_10) (by assumption) rfl rfl rfl (Nat.le_of_ble_eq_true rfl) ⟨by decide, by decide, by decide, by decide⟩ (fun r_10 S_10 q_10 => ?_)
    obtain ⟨rfl, rfl, b_10⟩ := q_10
    refine a_if_ne (tgt := 23) X dX7_at_13 (by decide) (fun h_13 => ?_) (fun h_13 => ?_)
    · replace h := (if_neg h_13).symm.trans h
      refine a_aload_n X dX7_at_23 rfl ?_
      refine a_getr X lf7_40 (by assumption) rfl (by omega) dX7_at_24 ?_
      refine a_geti X lf7_140 (by assumption) rfl dX7_at_27 ?_
      refine a_bipush (v := 7) X dX7_at_30 (by decide) ?_
      refine a_icmp_le (tgt := 42) X dX7_at_32 (by decide) (fun h_32 => ?_) (fun h_32 => ?_)
      · replace h := (if_pos h_32).symm.trans h
        refine a_aload_n X dX7_at_42 rfl ?_
        obtain ⟨e_43, f_43, h⟩ := zBx h
        refine a_callVu X dX7_at_43 miX7_reckon lm7_296 (t_X7_reckon (by assumption) f_43) (by assumption) rfl rfl rfl (Nat.le_of_ble_eq_true rfl) ⟨by decide, by decide, by decide, by decide⟩ ?_
        refine a_aload_n X dX7_at_46 rfl ?_
        refine a_aload_n X dX7_at_47 rfl ?_
        refine a_getr X lf7_54 (by assumption) rfl (by omega) dX7_at_48 ?_
        refine a_iload_n X dX7_at_51 rfl ?_
        refine a_iload_n X dX7_at_52 rfl ?_
        obtain ⟨e_53, f_53, h⟩ := zBx h
        refine a_callVv X dX7_at_53 miX0_certainUnit lm7_307 (t_X0_certainUnit (by assumption) f_53) (by assumption) rfl rfl rfl (Nat.le_of_ble_eq_true rfl) ⟨by decide, by decide, by decide, by decide⟩ ?_
        obtain ⟨e_56, f_56, h⟩ := zBx h
        refine a_callVv X dX7_at_56 miX7_answerParts lm7_303 (t_X7_answerParts (by assumption) f_56) (by assumption) rfl rfl rfl (Nat.le_of_ble_eq_true rfl) ⟨by decide, by decide, by decide, by decide⟩ ?_
        refine a_lret X hr dX7_at_59 ⟨by decide, by decide⟩ ?_
        subst hF
        rw [← Option.some.inj h]
        exact ⟨rfl, rfl⟩
      · replace h := (if_neg h_32).symm.trans h
        refine a_aload_n X dX7_at_35 rfl ?_
        refine a_iconst (v := 3) X dX7_at_36 (by decide) ?_
        obtain ⟨e_37, f_37, h⟩ := zBx h
        refine a_callVv X dX7_at_37 miX7_refuse lm7_102 (t_X7_refuse (by assumption) f_37) (by assumption) rfl rfl rfl (Nat.le_of_ble_eq_true rfl) ⟨by decide, by decide, by decide, by decide⟩ ?_
        refine a_i2l X dX7_at_40 ?_
        refine a_lret X hr dX7_at_41 ⟨by decide, by decide⟩ ?_
        subst hF
        rw [← Option.some.inj h]
        exact ⟨rfl, rfl⟩
    · replace h := (if_pos h_13).symm.trans h
      exact Zw.to2 (J_16 _ _ _ _ h) rfl rfl rfl
noncomputable def D_X7_both_16 (P : Nat) (M_16 : zMt) (N_16 : zNt) : Option (Int64 × zMt × zNt) :=
  zB (D_X7_refuse P (2 : Int32) M_16) fun e_18 =>
  some ((Int32.toInt64 e_18.1), e_18.2, N_16)
noncomputable def D_X7_both (P : Nat) (v0 : Int32) (v1 : Int32) (M : zMt) (N : zNt) : Option (Int64 × zMt × zNt) :=
  zB (D_X7_isApplicant P M v0) fun e_2 =>
  if e_2 = 0 then
    D_X7_both_16 P M N
  else
    zB (D_X7_isApplicant P M v1) fun e_10 =>
    if e_10 = 0 then
      D_X7_both_16 P M N
    else
      if v0 = v1 then
        zB (D_X7_refuse P (4 : Int32) M) fun e_30 =>
        some ((Int32.toInt64 e_30.1), e_30.2, N)
      else
        if (M (P + 91) 1) ≤ (7 : Int32) then
          zB (D_X7_reckon P M N) fun e_55 =>
          zB (D_X0_allOf (P + 112) e_55.2 (((1 : Int32) <<< (v0 &&& 31)) ||| ((1 : Int32) <<< (v1 &&& 31)))) fun e_70 =>
          zB (D_X7_answerParts P e_70 e_55.1) fun e_73 =>
          some (e_73.1, e_73.2, e_55.2)
        else
          zB (D_X7_refuse P (3 : Int32) M) fun e_49 =>
          some ((Int32.toInt64 e_49.1), e_49.2, N)
set_option maxRecDepth 100000 in
set_option maxHeartbeats 4000000 in
theorem t_X7_both {l : Launch} {G : zG} {b : Nat} {L : List zC} {M : zMt} {N : zNt} {P : Nat} {v0 : Int32} {v1 : Int32} (hP : LX7 L P) {r : Int64 × zMt × zNt} (h : D_X7_both P v0 v1 M N = some r) : zM l G b yX7_both cX7_both 3 (some .long) 15 0 0 [.ref P, .int v0, .int v1] (L, M, N) (fun r2 z => r2 = some (.long r.1) ∧ z = (L, r.2.1, r.2.2)) := by
  refine zM.of miX7_both (Nat.le_of_ble_eq_true rfl) ?_
  intro p e s m args below meth c X hr hname
  generalize hF : ((fun r2 z => r2 = some (.long r.1) ∧ z = (L, r.2.1, r.2.2)) : Option Value → zS → Prop) = FQ
  change Zw p l e { frames := 15, cells := 0, slots := 0, locals := 80 * (15) } s m args below meth c G b 3 (MQ below (zQ G b FQ) args s 0 0 (fun q : Nat => b ≤ q)) 0 0 0 [some (.ref P), some (.int v0), some (.int v1)] [] (L, M, N)
  obtain ⟨p_lt, p_o, p_tape, p_out, p_reader, p_list, p_past, p_pool, p_result, p_odds, p_paper, p_trial, p_trialPool, p_trialResult, p_trialOdds⟩ := id hP
  obtain ⟨p_reader_lt, p_reader_o, p_reader_draft, p_reader_text, p_reader_unitNames, p_reader_hunterNames, p_reader_partyNames, p_reader_asked⟩ := id p_reader
  obtain ⟨p_list_lt, p_list_o, p_list_quota, p_list_score, p_list_guest, p_list_party, p_list_wishCount, p_list_wishes, p_list_has⟩ := id p_list
  obtain ⟨p_past_lt, p_past_o, p_past_stood, p_past_stood0, p_past_stood1, p_past_stood2, p_past_stood3, p_past_stood4, p_past_stood5, p_past_stood6, p_past_stood7⟩ := id p_past
  obtain ⟨p_pool_lt, p_pool_o, p_pool_quota, p_pool_preferred, p_pool_forGuests, p_pool_applicantOf, p_pool_size, p_pool_guestCount, p_pool_score, p_pool_tickets, p_pool_bits, p_pool_party, p_pool_wishCount, p_pool_wishes⟩ := id p_pool
  obtain ⟨p_result_lt, p_result_o, p_result_line, p_result_unitOf, p_result_roundOf, p_result_leftTags, p_result_leftGuests, p_result_leftPreferred, p_result_ranked⟩ := id p_result
  obtain ⟨p_odds_lt, p_odds_o, p_odds_sets, p_odds_seen, p_odds_atUnit, p_odds_early, p_odds_result⟩ := id p_odds
  obtain ⟨p_paper_lt, p_paper_o, p_paper_times, p_paper_firstWish, p_paper_dry, p_paper_list, p_paper_pool, p_paper_result⟩ := id p_paper
  obtain ⟨p_trial_lt, p_trial_o, p_trial_quota, p_trial_score, p_trial_guest, p_trial_party, p_trial_wishCount, p_trial_wishes, p_trial_has⟩ := id p_trial
  obtain ⟨p_trialPool_lt, p_trialPool_o, p_trialPool_quota, p_trialPool_preferred, p_trialPool_forGuests, p_trialPool_applicantOf, p_trialPool_size, p_trialPool_guestCount, p_trialPool_score, p_trialPool_tickets, p_trialPool_bits, p_trialPool_party, p_trialPool_wishCount, p_trialPool_wishes⟩ := id p_trialPool
  obtain ⟨p_trialResult_lt, p_trialResult_o, p_trialResult_line, p_trialResult_unitOf, p_trialResult_roundOf, p_trialResult_leftTags, p_trialResult_leftGuests, p_trialResult_leftPreferred, p_trialResult_ranked⟩ := id p_trialResult
  obtain ⟨p_trialOdds_lt, p_trialOdds_o, p_trialOdds_sets, p_trialOdds_seen, p_trialOdds_atUnit, p_trialOdds_early, p_trialOdds_result⟩ := id p_trialOdds
  have J_16 : ∀ (x1_16 : Int32) (x2_16 : Int32) (M_16 : zMt) (N_16 : zNt), D_X7_both_16 P M_16 N_16 = some r → Zw p l e { frames := 15, cells := 0, slots := 0, locals := 80 * (15) } s m args below meth c G b 3 (MQ below (zQ G b FQ) args s 0 0 (fun q : Nat => b ≤ q)) 0 0 16 [some (.ref (P)), some (.int x1_16), some (.int x2_16)] [] (L, M_16, N_16) := by
    intro x1_16 x2_16 M_16 N_16 h
    unfold D_X7_both_16 at h
    refine a_aload_n X dX7_both_16 rfl ?_
    refine a_iconst (v := 2) X dX7_both_17 (by decide) ?_
    obtain ⟨e_18, f_18, h⟩ := zBx h
    refine a_callVv X dX7_both_18 miX7_refuse lm7_102 (t_X7_refuse (by assumption) f_18) (by assumption) rfl rfl rfl (Nat.le_of_ble_eq_true rfl) ⟨by decide, by decide, by decide, by decide⟩ ?_
    refine a_i2l X dX7_both_21 ?_
    refine a_lret X hr dX7_both_22 ⟨by decide, by decide⟩ ?_
    subst hF
    rw [← Option.some.inj h]
    exact ⟨rfl, rfl⟩
  unfold D_X7_both at h
  refine a_aload_n X dX7_both_0 rfl ?_
  refine a_iload_n X dX7_both_1 rfl ?_
  obtain ⟨e_2, f_2, h⟩ := zBx h
  refine a_callVx X dX7_both_2 miX7_isApplicant lm7_206 (t_X7_isApplicant (by assumption) f_2) (by assumption) rfl rfl rfl (Nat.le_of_ble_eq_true rfl) ⟨by decide, by decide, by decide, by decide⟩ (fun r_2 S_2 q_2 => ?_)
  obtain ⟨rfl, rfl, b_2⟩ := q_2
  refine a_if_eq (tgt := 16) X dX7_both_5 (by decide) (fun h_5 => ?_) (fun h_5 => ?_)
  · replace h := (if_pos h_5).symm.trans h
    exact Zw.to2 (J_16 _ _ _ _ h) rfl rfl rfl
  · replace h := (if_neg h_5).symm.trans h
    refine a_aload_n X dX7_both_8 rfl ?_
    refine a_iload_n X dX7_both_9 rfl ?_
    obtain ⟨e_10, f_10, h⟩ := zBx h
    refine a_callVx X dX7_both_10 miX7_isApplicant lm7_206 (t_X7_isApplicant (by assumption) f_10) (by assumption) rfl rfl rfl (Nat.le_of_ble_eq_true rfl) ⟨by decide, by decide, by decide, by decide⟩ (fun r_10 S_10 q_10 => ?_)
    obtain ⟨rfl, rfl, b_10⟩ := q_10
    refine a_if_ne (tgt := 23) X dX7_both_13 (by decide) (fun h_13 => ?_) (fun h_13 => ?_)
    · replace h := (if_neg h_13).symm.trans h
      refine a_iload_n X dX7_both_23 rfl ?_
      refine a_iload_n X dX7_both_24 rfl ?_
      refine a_icmp_ne (tgt := 35) X dX7_both_25 (by decide) (fun h_25 => ?_) (fun h_25 => ?_)
      · replace h := (if_neg h_25).symm.trans h
        refine a_aload_n X dX7_both_35 rfl ?_
        refine a_getr X lf7_40 (by assumption) rfl (by omega) dX7_both_36 ?_
        refine a_geti X lf7_140 (by assumption) rfl dX7_both_39 ?_
        refine a_bipush (v := 7) X dX7_both_42 (by decide) ?_
        refine a_icmp_le (tgt := 54) X dX7_both_44 (by decide) (fun h_44 => ?_) (fun h_44 => ?_)
        · replace h := (if_pos h_44).symm.trans h
          refine a_aload_n X dX7_both_54 rfl ?_
          obtain ⟨e_55, f_55, h⟩ := zBx h
          refine a_callVu X dX7_both_55 miX7_reckon lm7_296 (t_X7_reckon (by assumption) f_55) (by assumption) rfl rfl rfl (Nat.le_of_ble_eq_true rfl) ⟨by decide, by decide, by decide, by decide⟩ ?_
          refine a_aload_n X dX7_both_58 rfl ?_
          refine a_aload_n X dX7_both_59 rfl ?_
          refine a_getr X lf7_54 (by assumption) rfl (by omega) dX7_both_60 ?_
          refine a_iconst (v := 1) X dX7_both_63 (by decide) ?_
          refine a_iload_n X dX7_both_64 rfl ?_
          refine a_ishl X dX7_both_65 ?_
          refine a_iconst (v := 1) X dX7_both_66 (by decide) ?_
          refine a_iload_n X dX7_both_67 rfl ?_
          refine a_ishl X dX7_both_68 ?_
          refine a_ior X dX7_both_69 ?_
          obtain ⟨e_70, f_70, h⟩ := zBx h
          refine a_callVv X dX7_both_70 miX0_allOf lm7_319 (t_X0_allOf (by assumption) f_70) (by assumption) rfl rfl rfl (Nat.le_of_ble_eq_true rfl) ⟨by decide, by decide, by decide, by decide⟩ ?_
          obtain ⟨e_73, f_73, h⟩ := zBx h
          refine a_callVv X dX7_both_73 miX7_answerParts lm7_303 (t_X7_answerParts (by assumption) f_73) (by assumption) rfl rfl rfl (Nat.le_of_ble_eq_true rfl) ⟨by decide, by decide, by decide, by decide⟩ ?_
          refine a_lret X hr dX7_both_76 ⟨by decide, by decide⟩ ?_
          subst hF
          rw [← Option.some.inj h]
          exact ⟨rfl, rfl⟩
        · replace h := (if_neg h_44).symm.trans h
          refine a_aload_n X dX7_both_47 rfl ?_
          refine a_iconst (v := 3) X dX7_both_48 (by decide) ?_
          obtain ⟨e_49, f_49, h⟩ := zBx h
          refine a_callVv X dX7_both_49 miX7_refuse lm7_102 (t_X7_refuse (by assumption) f_49) (by assumption) rfl rfl rfl (Nat.le_of_ble_eq_true rfl) ⟨by decide, by decide, by decide, by decide⟩ ?_
          refine a_i2l X dX7_both_52 ?_
          refine a_lret X hr dX7_both_53 ⟨by decide, by decide⟩ ?_
          subst hF
          rw [← Option.some.inj h]
          exact ⟨rfl, rfl⟩
      · replace h := (if_pos h_25).symm.trans h
        refine a_aload_n X dX7_both_28 rfl ?_
        refine a_iconst (v := 4) X dX7_both_29 (by decide) ?_
        obtain ⟨e_30, f_30, h⟩ := zBx h
        refine a_callVv X dX7_both_30 miX7_refuse lm7_102 (t_X7_refuse (by assumption) f_30) (by assumption) rfl rfl rfl (Nat.le_of_ble_eq_true rfl) ⟨by decide, by decide, by decide, by decide⟩ ?_
        refine a_i2l X dX7_both_33 ?_
        refine a_lret X hr dX7_both_34 ⟨by decide, by decide⟩ ?_
        subst hF
        rw [← Option.some.inj h]
        exact ⟨rfl, rfl⟩
    · replace h := (if_pos h_13).symm.trans h
      exact Zw.to2 (J_16 _ _ _ _ h) rfl rfl rfl
noncomputable def D_X7_sure_75 (P : Nat) (y1_75 : Int32) (M_75 : zMt) (N_75 : zNt) : Option (Int32 × zMt × zNt) :=
  zB (D_X7_answer P y1_75 M_75) fun e_75 =>
  some (e_75.1, e_75.2, N_75)
noncomputable def D_X7_sure_9 (P : Nat) (M_9 : zMt) (N_9 : zNt) : Option (Int32 × zMt × zNt) :=
  zB (D_X7_refuse P (1 : Int32) M_9) fun e_11 =>
  some (e_11.1, e_11.2, N_9)
noncomputable def D_X7_sure (P : Nat) (v0 : Int32) (M : zMt) (N : zNt) : Option (Int32 × zMt × zNt) :=
  if v0 < 0 then
    D_X7_sure_9 P M N
  else
    if v0 ≤ (1 : Int32) then
      if (M (P + 91) 1) ≤ (7 : Int32) then
        zB (D_X7_reckon P M N) fun e_34 =>
        if v0 = 0 then
          zB (D_X0_always (P + 112) e_34.1) fun e_58 =>
          D_X7_sure_75 P e_58 e_34.1 e_34.2
        else
          zB (D_X0_ever (P + 112) e_34.1) fun e_69 =>
          D_X7_sure_75 P ((((1 : Int32) <<< ((e_34.1 (P + 91) 1) &&& 31)) - (1 : Int32)) &&& (e_69 ^^^ (-1 : Int32))) e_34.1 e_34.2
      else
        zB (D_X7_refuse P (3 : Int32) M) fun e_29 =>
        some (e_29.1, e_29.2, N)
    else
      D_X7_sure_9 P M N
set_option maxRecDepth 100000 in
set_option maxHeartbeats 4000000 in
theorem t_X7_sure {l : Launch} {G : zG} {b : Nat} {L : List zC} {M : zMt} {N : zNt} {P : Nat} {v0 : Int32} (hP : LX7 L P) {r : Int32 × zMt × zNt} (h : D_X7_sure P v0 M N = some r) : zM l G b yX7_sure cX7_sure 3 (some .int) 15 0 0 [.ref P, .int v0] (L, M, N) (fun r2 z => r2 = some (.int r.1) ∧ z = (L, r.2.1, r.2.2)) := by
  refine zM.of miX7_sure (Nat.le_of_ble_eq_true rfl) ?_
  intro p e s m args below meth c X hr hname
  generalize hF : ((fun r2 z => r2 = some (.int r.1) ∧ z = (L, r.2.1, r.2.2)) : Option Value → zS → Prop) = FQ
  change Zw p l e { frames := 15, cells := 0, slots := 0, locals := 80 * (15) } s m args below meth c G b 3 (MQ below (zQ G b FQ) args s 0 0 (fun q : Nat => b ≤ q)) 0 0 0 [some (.ref P), some (.int v0), none] [] (L, M, N)
  obtain ⟨p_lt, p_o, p_tape, p_out, p_reader, p_list, p_past, p_pool, p_result, p_odds, p_paper, p_trial, p_trialPool, p_trialResult, p_trialOdds⟩ := id hP
  obtain ⟨p_reader_lt, p_reader_o, p_reader_draft, p_reader_text, p_reader_unitNames, p_reader_hunterNames, p_reader_partyNames, p_reader_asked⟩ := id p_reader
  obtain ⟨p_list_lt, p_list_o, p_list_quota, p_list_score, p_list_guest, p_list_party, p_list_wishCount, p_list_wishes, p_list_has⟩ := id p_list
  obtain ⟨p_past_lt, p_past_o, p_past_stood, p_past_stood0, p_past_stood1, p_past_stood2, p_past_stood3, p_past_stood4, p_past_stood5, p_past_stood6, p_past_stood7⟩ := id p_past
  obtain ⟨p_pool_lt, p_pool_o, p_pool_quota, p_pool_preferred, p_pool_forGuests, p_pool_applicantOf, p_pool_size, p_pool_guestCount, p_pool_score, p_pool_tickets, p_pool_bits, p_pool_party, p_pool_wishCount, p_pool_wishes⟩ := id p_pool
  obtain ⟨p_result_lt, p_result_o, p_result_line, p_result_unitOf, p_result_roundOf, p_result_leftTags, p_result_leftGuests, p_result_leftPreferred, p_result_ranked⟩ := id p_result
  obtain ⟨p_odds_lt, p_odds_o, p_odds_sets, p_odds_seen, p_odds_atUnit, p_odds_early, p_odds_result⟩ := id p_odds
  obtain ⟨p_paper_lt, p_paper_o, p_paper_times, p_paper_firstWish, p_paper_dry, p_paper_list, p_paper_pool, p_paper_result⟩ := id p_paper
  obtain ⟨p_trial_lt, p_trial_o, p_trial_quota, p_trial_score, p_trial_guest, p_trial_party, p_trial_wishCount, p_trial_wishes, p_trial_has⟩ := id p_trial
  obtain ⟨p_trialPool_lt, p_trialPool_o, p_trialPool_quota, p_trialPool_preferred, p_trialPool_forGuests, p_trialPool_applicantOf, p_trialPool_size, p_trialPool_guestCount, p_trialPool_score, p_trialPool_tickets, p_trialPool_bits, p_trialPool_party, p_trialPool_wishCount, p_trialPool_wishes⟩ := id p_trialPool
  obtain ⟨p_trialResult_lt, p_trialResult_o, p_trialResult_line, p_trialResult_unitOf, p_trialResult_roundOf, p_trialResult_leftTags, p_trialResult_leftGuests, p_trialResult_leftPreferred, p_trialResult_ranked⟩ := id p_trialResult
  obtain ⟨p_trialOdds_lt, p_trialOdds_o, p_trialOdds_sets, p_trialOdds_seen, p_trialOdds_atUnit, p_trialOdds_early, p_trialOdds_result⟩ := id p_trialOdds
  have J_75 : ∀ (x1_75 : Int32) (x2_75 : Int32) (y1_75 : Int32) (M_75 : zMt) (N_75 : zNt), D_X7_sure_75 P y1_75 M_75 N_75 = some r → Zw p l e { frames := 15, cells := 0, slots := 0, locals := 80 * (15) } s m args below meth c G b 3 (MQ below (zQ G b FQ) args s 0 0 (fun q : Nat => b ≤ q)) 0 0 75 [some (.ref (P)), some (.int x1_75), some (.int x2_75)] [.int y1_75, .ref (P)] (L, M_75, N_75) := by
    intro x1_75 x2_75 y1_75 M_75 N_75 h
    unfold D_X7_sure_75 at h
    obtain ⟨e_75, f_75, h⟩ := zBx h
    refine a_callVv X dX7_sure_75 miX7_answer lm7_134 (t_X7_answer (by assumption) f_75) (by assumption) rfl rfl rfl (Nat.le_of_ble_eq_true rfl) ⟨by decide, by decide, by decide, by decide⟩ ?_
    refine a_iret X hr dX7_sure_78 ⟨by decide, by decide⟩ ?_
    subst hF
    rw [← Option.some.inj h]
    exact ⟨rfl, rfl⟩
  have J_9 : ∀ (x1_9 : Int32) (x2_9 : Option Value) (M_9 : zMt) (N_9 : zNt), D_X7_sure_9 P M_9 N_9 = some r → Zw p l e { frames := 15, cells := 0, slots := 0, locals := 80 * (15) } s m args below meth c G b 3 (MQ below (zQ G b FQ) args s 0 0 (fun q : Nat => b ≤ q)) 0 0 9 [some (.ref (P)), some (.int x1_9), x2_9] [] (L, M_9, N_9) := by
    intro x1_9 x2_9 M_9 N_9 h
    unfold D_X7_sure_9 at h
    refine a_aload_n X dX7_sure_9 rfl ?_
    refine a_iconst (v := 1) X dX7_sure_10 (by decide) ?_
    obtain ⟨e_11, f_11, h⟩ := zBx h
    refine a_callVv X dX7_sure_11 miX7_refuse lm7_102 (t_X7_refuse (by assumption) f_11) (by assumption) rfl rfl rfl (Nat.le_of_ble_eq_true rfl) ⟨by decide, by decide, by decide, by decide⟩ ?_
    refine a_iret X hr dX7_sure_14 ⟨by decide, by decide⟩ ?_
    subst hF
    rw [← Option.some.inj h]
    exact ⟨rfl, rfl⟩
  unfold D_X7_sure at h
  refine a_iload_n X dX7_sure_0 rfl ?_
  refine a_if_lt (tgt := 9) X dX7_sure_1 (by decide) (fun h_1 => ?_) (fun h_1 => ?_)
  · replace h := (if_pos h_1).symm.trans h
    exact Zw.to2 (J_9 _ _ _ _ h) rfl rfl rfl
  · replace h := (if_neg h_1).symm.trans h
    refine a_iload_n X dX7_sure_4 rfl ?_
    refine a_iconst (v := 1) X dX7_sure_5 (by decide) ?_
    refine a_icmp_le (tgt := 15) X dX7_sure_6 (by decide) (fun h_6 => ?_) (fun h_6 => ?_)
    · replace h := (if_pos h_6).symm.trans h
      refine a_aload_n X dX7_sure_15 rfl ?_
      refine a_getr X lf7_40 (by assumption) rfl (by omega) dX7_sure_16 ?_
      refine a_geti X lf7_140 (by assumption) rfl dX7_sure_19 ?_
      refine a_bipush (v := 7) X dX7_sure_22 (by decide) ?_
      refine a_icmp_le (tgt := 33) X dX7_sure_24 (by decide) (fun h_24 => ?_) (fun h_24 => ?_)
      · replace h := (if_pos h_24).symm.trans h
        refine a_aload_n X dX7_sure_33 rfl ?_
        obtain ⟨e_34, f_34, h⟩ := zBx h
        refine a_callVu X dX7_sure_34 miX7_reckon lm7_296 (t_X7_reckon (by assumption) f_34) (by assumption) rfl rfl rfl (Nat.le_of_ble_eq_true rfl) ⟨by decide, by decide, by decide, by decide⟩ ?_
        refine a_iconst (v := 1) X dX7_sure_37 (by decide) ?_
        refine a_aload_n X dX7_sure_38 rfl ?_
        refine a_getr X lf7_40 (by assumption) rfl (by omega) dX7_sure_39 ?_
        refine a_geti X lf7_140 (by assumption) rfl dX7_sure_42 ?_
        refine a_ishl X dX7_sure_45 ?_
        refine a_iconst (v := 1) X dX7_sure_46 (by decide) ?_
        refine a_isub X dX7_sure_47 ?_
        refine a_istore_n X dX7_sure_48 (by decide) ?_
        refine a_aload_n X dX7_sure_49 rfl ?_
        refine a_iload_n X dX7_sure_50 rfl ?_
        refine a_if_ne (tgt := 64) X dX7_sure_51 (by decide) (fun h_51 => ?_) (fun h_51 => ?_)
        · replace h := (if_neg h_51).symm.trans h
          refine a_iload_n X dX7_sure_64 rfl ?_
          refine a_aload_n X dX7_sure_65 rfl ?_
          refine a_getr X lf7_54 (by assumption) rfl (by omega) dX7_sure_66 ?_
          obtain ⟨e_69, f_69, h⟩ := zBx h
          refine a_callVv X dX7_sure_69 miX0_ever lm7_326 (t_X0_ever (by assumption) f_69) (by assumption) rfl rfl rfl (Nat.le_of_ble_eq_true rfl) ⟨by decide, by decide, by decide, by decide⟩ ?_
          refine a_iconst (v := -1) X dX7_sure_72 (by decide) ?_
          refine a_ixor X dX7_sure_73 ?_
          refine a_iand X dX7_sure_74 ?_
          exact Zw.to2 (J_75 _ _ _ _ _ h) rfl rfl rfl
        · replace h := (if_pos h_51).symm.trans h
          refine a_aload_n X dX7_sure_54 rfl ?_
          refine a_getr X lf7_54 (by assumption) rfl (by omega) dX7_sure_55 ?_
          obtain ⟨e_58, f_58, h⟩ := zBx h
          refine a_callVv X dX7_sure_58 miX0_always lm7_322 (t_X0_always (by assumption) f_58) (by assumption) rfl rfl rfl (Nat.le_of_ble_eq_true rfl) ⟨by decide, by decide, by decide, by decide⟩ ?_
          refine a_goto (tgt := 75) X dX7_sure_61 (by decide) ?_
          exact Zw.to2 (J_75 _ _ _ _ _ h) rfl rfl rfl
      · replace h := (if_neg h_24).symm.trans h
        refine a_aload_n X dX7_sure_27 rfl ?_
        refine a_iconst (v := 3) X dX7_sure_28 (by decide) ?_
        obtain ⟨e_29, f_29, h⟩ := zBx h
        refine a_callVv X dX7_sure_29 miX7_refuse lm7_102 (t_X7_refuse (by assumption) f_29) (by assumption) rfl rfl rfl (Nat.le_of_ble_eq_true rfl) ⟨by decide, by decide, by decide, by decide⟩ ?_
        refine a_iret X hr dX7_sure_32 ⟨by decide, by decide⟩ ?_
        subst hF
        rw [← Option.some.inj h]
        exact ⟨rfl, rfl⟩
    · replace h := (if_neg h_6).symm.trans h
      exact Zw.to2 (J_9 _ _ _ _ h) rfl rfl rfl
