noncomputable def D_X7_fault_28 (P : Nat) (M : zMt) (y0_28 : Int32) : Option (Int32) :=
  some (y0_28)
noncomputable def D_X7_fault (P : Nat) (M : zMt) (v0 : Int32) : Option (Int32) :=
  if v0 = 0 then
    some ((M (P + 3) 1))
  else
    if v0 = (1 : Int32) then
      D_X7_fault_28 P M (M (P + 3) 2)
    else
      D_X7_fault_28 P M (-1 : Int32)
set_option maxRecDepth 100000 in
set_option maxHeartbeats 4000000 in
theorem t_X7_fault {l : Launch} {G : zG} {b : Nat} {L : List zC} {M : zMt} {N : zNt} {P : Nat} {v0 : Int32} (hP : LX7 L P) {r : Int32} (h : D_X7_fault P M v0 = some r) : zM l G b yX7_fault cX7_fault 2 (some .int) 0 0 0 [.ref P, .int v0] (L, M, N) (fun r2 z => r2 = some (.int r) ∧ z = (L, M, N)) := by
  refine zM.of miX7_fault (Nat.le_of_ble_eq_true rfl) ?_
  intro p e s m args below meth c X hr hname
  generalize hF : ((fun r2 z => r2 = some (.int r) ∧ z = (L, M, N)) : Option Value → zS → Prop) = FQ
  change Zw p l e { frames := 0, cells := 0, slots := 0, locals := 80 * (0) } s m args below meth c G b 2 (MQ below (zQ G b FQ) args s 0 0 (fun q : Nat => b ≤ q)) 0 0 0 [some (.ref P), some (.int v0)] [] (L, M, N)
  obtain ⟨p_lt, p_o, p_tape, p_out, p_reader, p_list, p_past, p_pool, p_result, p_odds, p_paper, p_trial, p_trialPool, p_trialResult, p_trialOdds⟩ := id hP
  obtain ⟨p_reader_lt, p_reader_o, p_reader_draft, p_reader_text, p_reader_unitNames, p_reader_hunterNames, p_reader_partyNames, p_reader_asked⟩ := id p_reader
  obtain ⟨p_list_lt, p_list_o, p_list_quota, p_list_score, p_list_guest, p_list_party, p_list_wishCount, p_list_wishes, p_list_has⟩ := id p_list
  obtain ⟨p_past_lt, p_past_o, p_past_stood, p_past_stood0, p_past_stood1, p_past_stood2, p_past_stood3, p_past_stood4, p_past_stood5, p_past_stood6, p_past_stood7⟩ := id p_past
  obtain ⟨p_pool_lt, p_pool_o, p_pool_quota, p_pool_preferred, p_pool_forGuests, p_pool_applicantOf, p_pool_size, p_pool_guestCount, p_pool_score, p_pool_tickets, p_pool_bits, p_pool_party, p_pool_wishCount, p_pool_wishes⟩ := id p_pool
  obtain ⟨p_result_lt, p_result_o, p_result_line, p_result_unitOf, p_result_roundOf, p_result_leftTags, p_result_leftGuests, p_result_leftPreferred, p_result_ranked⟩ := id p_result
  obtain ⟨p_odds_lt, p_odds_o, p_odds_sets, p_odds_seen, p_odds_atUnit, p_odds_early, p_odds_result⟩ := id p_odds
  obtain ⟨p_paper_lt, p_paper_o, p_paper_times, p_paper_firstWish, p_paper_dry, p_paper_list, p_paper_pool, p_paper_result⟩ := id p_paper
  obtain ⟨p_trial_lt, p_trial_o, p_trial_quota, p_trial_score, p_trial_guest, p_trial_party, p_trial_wishCount, p_trial_wishes, p_trial_has⟩ := id p_trial
  obtain ⟨p_trialPool_lt, p_trialPool_o, p_trialPool_quota, p_trialPool_preferred, p_trialPool_forGuests, p_trialPool_applicantOf, p_trialPool_size, p_trialPool_guestCount, p_trialPool_score, p_trialPool_tickets, p_trialPool_bits, p_trialPool_party, p_trialPool_wishCount, p_trialPool_wishes⟩ := id p_trialPool
  obtain ⟨p_trialResult_lt, p_trialResult_o, p_trialResult_line, p_trialResult_unitOf, p_trialResult_roundOf, p_trialResult_leftTags, p_trialResult_leftGuests, p_trialResult_leftPreferred, p_trialResult_ranked⟩ := id p_trialResult
  obtain ⟨p_trialOdds_lt, p_trialOdds_o, p_trialOdds_sets, p_trialOdds_seen, p_trialOdds_atUnit, p_trialOdds_early, p_trialOdds_result⟩ := id p_trialOdds
  have J_28 : ∀ (x1_28 : Int32) (y0_28 : Int32), D_X7_fault_28 P M y0_28 = some r → Zw p l e { frames := 0, cells := 0, slots := 0, locals := 80 * (0) } s m args below meth c G b 2 (MQ below (zQ G b FQ) args s 0 0 (fun q : Nat => b ≤ q)) 0 0 28 [some (.ref (P)), some (.int x1_28)] [.int y0_28] (L, M, N) := by
    intro x1_28 y0_28 h
    unfold D_X7_fault_28 at h
    refine a_iret X hr dX7_fault_28 ⟨by decide, by decide⟩ ?_
    subst hF
    rw [← Option.some.inj h]
    exact ⟨rfl, rfl⟩
  unfold D_X7_fault at h
  refine a_iload_n X dX7_fault_0 rfl ?_
  refine a_if_ne (tgt := 12) X dX7_fault_1 (by decide) (fun h_1 => ?_) (fun h_1 => ?_)
  · replace h := (if_neg h_1).symm.trans h
    refine a_iload_n X dX7_fault_12 rfl ?_
    refine a_iconst (v := 1) X dX7_fault_13 (by decide) ?_
    refine a_icmp_ne (tgt := 27) X dX7_fault_14 (by decide) (fun h_14 => ?_) (fun h_14 => ?_)
    · replace h := (if_neg h_14).symm.trans h
      refine a_iconst (v := -1) X dX7_fault_27 (by decide) ?_
      exact Zw.to2 (J_28 _ _ h) rfl rfl rfl
    · replace h := (if_pos h_14).symm.trans h
      refine a_aload_n X dX7_fault_17 rfl ?_
      refine a_getr X lf7_19 (by assumption) rfl (by omega) dX7_fault_18 ?_
      refine a_geti X lf7_128 (by assumption) rfl dX7_fault_21 ?_
      refine a_goto (tgt := 28) X dX7_fault_24 (by decide) ?_
      exact Zw.to2 (J_28 _ _ h) rfl rfl rfl
  · replace h := (if_pos h_1).symm.trans h
    refine a_aload_n X dX7_fault_4 rfl ?_
    refine a_getr X lf7_19 (by assumption) rfl (by omega) dX7_fault_5 ?_
    refine a_geti X lf7_125 (by assumption) rfl dX7_fault_8 ?_
    refine a_iret X hr dX7_fault_11 ⟨by decide, by decide⟩ ?_
    subst hF
    rw [← Option.some.inj h]
    exact ⟨rfl, rfl⟩
noncomputable def D_X7_many (P : Nat) (v0 : Int32) (M : zMt) : Option (Int32 × zMt) :=
  if Int32.toInt v0 = 0 then
    zB (D_X7_answer P (M (P + 17) 0) M) fun e_68 =>
    some (e_68.1, e_68.2)
  else
  if Int32.toInt v0 = 1 then
    zB (D_X7_answer P (M (P + 17) 1) M) fun e_80 =>
    some (e_80.1, e_80.2)
  else
  if Int32.toInt v0 = 2 then
    zB (D_X7_answer P (M (P + 17) 2) M) fun e_92 =>
    some (e_92.1, e_92.2)
  else
  if Int32.toInt v0 = 3 then
    zB (D_X7_answer P (M (P + 91) 1) M) fun e_104 =>
    some (e_104.1, e_104.2)
  else
  if Int32.toInt v0 = 4 then
    zB (D_X7_answer P (M (P + 17) 3) M) fun e_116 =>
    some (e_116.1, e_116.2)
  else
  if Int32.toInt v0 = 5 then
    zB (D_X7_answer P (M (P + 17) 4) M) fun e_128 =>
    some (e_128.1, e_128.2)
  else
  if Int32.toInt v0 = 6 then
    zB (D_X7_answer P (M (P + 17) 5) M) fun e_140 =>
    some (e_140.1, e_140.2)
  else
  if Int32.toInt v0 = 7 then
    zB (D_X7_answer P (M (P + 17) 6) M) fun e_152 =>
    some (e_152.1, e_152.2)
  else
  if Int32.toInt v0 = 8 then
    zB (D_X7_answer P (M (P + 25) 0) M) fun e_164 =>
    some (e_164.1, e_164.2)
  else
  if Int32.toInt v0 = 9 then
    zB (D_X7_answer P (zsum (M (P + 18)) 5) M) fun e_179 =>
    some (e_179.1, e_179.2)
  else
  if Int32.toInt v0 = 10 then
    zB (D_X7_answer P (zsum (M (P + 20)) 10) M) fun e_194 =>
    some (e_194.1, e_194.2)
  else
    zB (D_X7_refuse P (1 : Int32) M) fun e_200 =>
    some (e_200.1, e_200.2)
set_option maxRecDepth 100000 in
set_option maxHeartbeats 4000000 in
theorem t_X7_many {l : Launch} {G : zG} {b : Nat} {L : List zC} {M : zMt} {N : zNt} {P : Nat} {v0 : Int32} (hP : LX7 L P) {r : Int32 × zMt} (h : D_X7_many P v0 M = some r) : zM l G b yX7_many cX7_many 2 (some .int) 1 0 0 [.ref P, .int v0] (L, M, N) (fun r2 z => r2 = some (.int r.1) ∧ z = (L, r.2, N)) := by
  refine zM.of miX7_many (Nat.le_of_ble_eq_true rfl) ?_
  intro p e s m args below meth c X hr hname
  generalize hF : ((fun r2 z => r2 = some (.int r.1) ∧ z = (L, r.2, N)) : Option Value → zS → Prop) = FQ
  change Zw p l e { frames := 1, cells := 0, slots := 0, locals := 80 * (1) } s m args below meth c G b 2 (MQ below (zQ G b FQ) args s 0 0 (fun q : Nat => b ≤ q)) 0 0 0 [some (.ref P), some (.int v0)] [] (L, M, N)
  obtain ⟨p_lt, p_o, p_tape, p_out, p_reader, p_list, p_past, p_pool, p_result, p_odds, p_paper, p_trial, p_trialPool, p_trialResult, p_trialOdds⟩ := id hP
  obtain ⟨p_reader_lt, p_reader_o, p_reader_draft, p_reader_text, p_reader_unitNames, p_reader_hunterNames, p_reader_partyNames, p_reader_asked⟩ := id p_reader
  obtain ⟨p_list_lt, p_list_o, p_list_quota, p_list_score, p_list_guest, p_list_party, p_list_wishCount, p_list_wishes, p_list_has⟩ := id p_list
  obtain ⟨p_past_lt, p_past_o, p_past_stood, p_past_stood0, p_past_stood1, p_past_stood2, p_past_stood3, p_past_stood4, p_past_stood5, p_past_stood6, p_past_stood7⟩ := id p_past
  obtain ⟨p_pool_lt, p_pool_o, p_pool_quota, p_pool_preferred, p_pool_forGuests, p_pool_applicantOf, p_pool_size, p_pool_guestCount, p_pool_score, p_pool_tickets, p_pool_bits, p_pool_party, p_pool_wishCount, p_pool_wishes⟩ := id p_pool
  obtain ⟨p_result_lt, p_result_o, p_result_line, p_result_unitOf, p_result_roundOf, p_result_leftTags, p_result_leftGuests, p_result_leftPreferred, p_result_ranked⟩ := id p_result
  obtain ⟨p_odds_lt, p_odds_o, p_odds_sets, p_odds_seen, p_odds_atUnit, p_odds_early, p_odds_result⟩ := id p_odds
  obtain ⟨p_paper_lt, p_paper_o, p_paper_times, p_paper_firstWish, p_paper_dry, p_paper_list, p_paper_pool, p_paper_result⟩ := id p_paper
  obtain ⟨p_trial_lt, p_trial_o, p_trial_quota, p_trial_score, p_trial_guest, p_trial_party, p_trial_wishCount, p_trial_wishes, p_trial_has⟩ := id p_trial
  obtain ⟨p_trialPool_lt, p_trialPool_o, p_trialPool_quota, p_trialPool_preferred, p_trialPool_forGuests, p_trialPool_applicantOf, p_trialPool_size, p_trialPool_guestCount, p_trialPool_score, p_trialPool_tickets, p_trialPool_bits, p_trialPool_party, p_trialPool_wishCount, p_trialPool_wishes⟩ := id p_trialPool
  obtain ⟨p_trialResult_lt, p_trialResult_o, p_trialResult_line, p_trialResult_unitOf, p_trialResult_roundOf, p_trialResult_leftTags, p_trialResult_leftGuests, p_trialResult_leftPreferred, p_trialResult_ranked⟩ := id p_trialResult
  obtain ⟨p_trialOdds_lt, p_trialOdds_o, p_trialOdds_sets, p_trialOdds_seen, p_trialOdds_atUnit, p_trialOdds_early, p_trialOdds_result⟩ := id p_trialOdds
  unfold D_X7_many at h
  refine a_iload_n X dX7_many_0 rfl ?_
  refine a_tsw (tg := [60, 72, 84, 96, 108, 120, 132, 144, 156, 168, 183]) (td := 198) X dX7_many_1 (by decide +kernel) (by decide) (by decide) (fun k_1 t_1 ht_1 hx_1 => ?_) (fun hx_1 => ?_)
  · match k_1, ht_1, hx_1 with
    | 0, ht_1, hx_1 =>
      cases ht_1
      replace h := (if_pos (by omega)).symm.trans h
      refine a_aload_n X dX7_many_60 rfl ?_
      refine a_aload_n X dX7_many_61 rfl ?_
      refine a_getr X lf7_26 (by assumption) rfl (by omega) dX7_many_62 ?_
      refine a_geti X lf7_131 (by assumption) rfl dX7_many_65 ?_
      obtain ⟨e_68, f_68, h⟩ := zBx h
      refine a_callVv X dX7_many_68 miX7_answer lm7_134 (t_X7_answer (by assumption) f_68) (by assumption) rfl rfl rfl (Nat.le_of_ble_eq_true rfl) ⟨by decide, by decide, by decide, by decide⟩ ?_
      refine a_iret X hr dX7_many_71 ⟨by decide, by decide⟩ ?_
      subst hF
      rw [← Option.some.inj h]
      exact ⟨rfl, rfl⟩
    | 1, ht_1, hx_1 =>
      cases ht_1
      replace h := (if_neg (by omega)).symm.trans h
      replace h := (if_pos (by omega)).symm.trans h
      refine a_aload_n X dX7_many_72 rfl ?_
      refine a_aload_n X dX7_many_73 rfl ?_
      refine a_getr X lf7_26 (by assumption) rfl (by omega) dX7_many_74 ?_
      refine a_geti X lf7_119 (by assumption) rfl dX7_many_77 ?_
      obtain ⟨e_80, f_80, h⟩ := zBx h
      refine a_callVv X dX7_many_80 miX7_answer lm7_134 (t_X7_answer (by assumption) f_80) (by assumption) rfl rfl rfl (Nat.le_of_ble_eq_true rfl) ⟨by decide, by decide, by decide, by decide⟩ ?_
      refine a_iret X hr dX7_many_83 ⟨by decide, by decide⟩ ?_
      subst hF
      rw [← Option.some.inj h]
      exact ⟨rfl, rfl⟩
    | 2, ht_1, hx_1 =>
      cases ht_1
      replace h := (if_neg (by omega)).symm.trans h
      replace h := (if_neg (by omega)).symm.trans h
      replace h := (if_pos (by omega)).symm.trans h
      refine a_aload_n X dX7_many_84 rfl ?_
      refine a_aload_n X dX7_many_85 rfl ?_
      refine a_getr X lf7_26 (by assumption) rfl (by omega) dX7_many_86 ?_
      refine a_geti X lf7_137 (by assumption) rfl dX7_many_89 ?_
      obtain ⟨e_92, f_92, h⟩ := zBx h
      refine a_callVv X dX7_many_92 miX7_answer lm7_134 (t_X7_answer (by assumption) f_92) (by assumption) rfl rfl rfl (Nat.le_of_ble_eq_true rfl) ⟨by decide, by decide, by decide, by decide⟩ ?_
      refine a_iret X hr dX7_many_95 ⟨by decide, by decide⟩ ?_
      subst hF
      rw [← Option.some.inj h]
      exact ⟨rfl, rfl⟩
    | 3, ht_1, hx_1 =>
      cases ht_1
      replace h := (if_neg (by omega)).symm.trans h
      replace h := (if_neg (by omega)).symm.trans h
      replace h := (if_neg (by omega)).symm.trans h
      replace h := (if_pos (by omega)).symm.trans h
      refine a_aload_n X dX7_many_96 rfl ?_
      refine a_aload_n X dX7_many_97 rfl ?_
      refine a_getr X lf7_40 (by assumption) rfl (by omega) dX7_many_98 ?_
      refine a_geti X lf7_140 (by assumption) rfl dX7_many_101 ?_
      obtain ⟨e_104, f_104, h⟩ := zBx h
      refine a_callVv X dX7_many_104 miX7_answer lm7_134 (t_X7_answer (by assumption) f_104) (by assumption) rfl rfl rfl (Nat.le_of_ble_eq_true rfl) ⟨by decide, by decide, by decide, by decide⟩ ?_
      refine a_iret X hr dX7_many_107 ⟨by decide, by decide⟩ ?_
      subst hF
      rw [← Option.some.inj h]
      exact ⟨rfl, rfl⟩
    | 4, ht_1, hx_1 =>
      cases ht_1
      replace h := (if_neg (by omega)).symm.trans h
      replace h := (if_neg (by omega)).symm.trans h
      replace h := (if_neg (by omega)).symm.trans h
      replace h := (if_neg (by omega)).symm.trans h
      replace h := (if_pos (by omega)).symm.trans h
      refine a_aload_n X dX7_many_108 rfl ?_
      refine a_aload_n X dX7_many_109 rfl ?_
      refine a_getr X lf7_26 (by assumption) rfl (by omega) dX7_many_110 ?_
      refine a_geti X lf7_143 (by assumption) rfl dX7_many_113 ?_
      obtain ⟨e_116, f_116, h⟩ := zBx h
      refine a_callVv X dX7_many_116 miX7_answer lm7_134 (t_X7_answer (by assumption) f_116) (by assumption) rfl rfl rfl (Nat.le_of_ble_eq_true rfl) ⟨by decide, by decide, by decide, by decide⟩ ?_
      refine a_iret X hr dX7_many_119 ⟨by decide, by decide⟩ ?_
      subst hF
      rw [← Option.some.inj h]
      exact ⟨rfl, rfl⟩
    | 5, ht_1, hx_1 =>
      cases ht_1
      replace h := (if_neg (by omega)).symm.trans h
      replace h := (if_neg (by omega)).symm.trans h
      replace h := (if_neg (by omega)).symm.trans h
      replace h := (if_neg (by omega)).symm.trans h
      replace h := (if_neg (by omega)).symm.trans h
      replace h := (if_pos (by omega)).symm.trans h
      refine a_aload_n X dX7_many_120 rfl ?_
      refine a_aload_n X dX7_many_121 rfl ?_
      refine a_getr X lf7_26 (by assumption) rfl (by omega) dX7_many_122 ?_
      refine a_geti X lf7_146 (by assumption) rfl dX7_many_125 ?_
      obtain ⟨e_128, f_128, h⟩ := zBx h
      refine a_callVv X dX7_many_128 miX7_answer lm7_134 (t_X7_answer (by assumption) f_128) (by assumption) rfl rfl rfl (Nat.le_of_ble_eq_true rfl) ⟨by decide, by decide, by decide, by decide⟩ ?_
      refine a_iret X hr dX7_many_131 ⟨by decide, by decide⟩ ?_
      subst hF
      rw [← Option.some.inj h]
      exact ⟨rfl, rfl⟩
    | 6, ht_1, hx_1 =>
      cases ht_1
      replace h := (if_neg (by omega)).symm.trans h
      replace h := (if_neg (by omega)).symm.trans h
      replace h := (if_neg (by omega)).symm.trans h
      replace h := (if_neg (by omega)).symm.trans h
      replace h := (if_neg (by omega)).symm.trans h
      replace h := (if_neg (by omega)).symm.trans h
      replace h := (if_pos (by omega)).symm.trans h
      refine a_aload_n X dX7_many_132 rfl ?_
      refine a_aload_n X dX7_many_133 rfl ?_
      refine a_getr X lf7_26 (by assumption) rfl (by omega) dX7_many_134 ?_
      refine a_geti X lf7_149 (by assumption) rfl dX7_many_137 ?_
      obtain ⟨e_140, f_140, h⟩ := zBx h
      refine a_callVv X dX7_many_140 miX7_answer lm7_134 (t_X7_answer (by assumption) f_140) (by assumption) rfl rfl rfl (Nat.le_of_ble_eq_true rfl) ⟨by decide, by decide, by decide, by decide⟩ ?_
      refine a_iret X hr dX7_many_143 ⟨by decide, by decide⟩ ?_
      subst hF
      rw [← Option.some.inj h]
      exact ⟨rfl, rfl⟩
    | 7, ht_1, hx_1 =>
      cases ht_1
      replace h := (if_neg (by omega)).symm.trans h
      replace h := (if_neg (by omega)).symm.trans h
      replace h := (if_neg (by omega)).symm.trans h
      replace h := (if_neg (by omega)).symm.trans h
      replace h := (if_neg (by omega)).symm.trans h
      replace h := (if_neg (by omega)).symm.trans h
      replace h := (if_neg (by omega)).symm.trans h
      replace h := (if_pos (by omega)).symm.trans h
      refine a_aload_n X dX7_many_144 rfl ?_
      refine a_aload_n X dX7_many_145 rfl ?_
      refine a_getr X lf7_26 (by assumption) rfl (by omega) dX7_many_146 ?_
      refine a_geti X lf7_152 (by assumption) rfl dX7_many_149 ?_
      obtain ⟨e_152, f_152, h⟩ := zBx h
      refine a_callVv X dX7_many_152 miX7_answer lm7_134 (t_X7_answer (by assumption) f_152) (by assumption) rfl rfl rfl (Nat.le_of_ble_eq_true rfl) ⟨by decide, by decide, by decide, by decide⟩ ?_
      refine a_iret X hr dX7_many_155 ⟨by decide, by decide⟩ ?_
      subst hF
      rw [← Option.some.inj h]
      exact ⟨rfl, rfl⟩
    | 8, ht_1, hx_1 =>
      cases ht_1
      replace h := (if_neg (by omega)).symm.trans h
      replace h := (if_neg (by omega)).symm.trans h
      replace h := (if_neg (by omega)).symm.trans h
      replace h := (if_neg (by omega)).symm.trans h
      replace h := (if_neg (by omega)).symm.trans h
      replace h := (if_neg (by omega)).symm.trans h
      replace h := (if_neg (by omega)).symm.trans h
      replace h := (if_neg (by omega)).symm.trans h
      replace h := (if_pos (by omega)).symm.trans h
      refine a_aload_n X dX7_many_156 rfl ?_
      refine a_aload_n X dX7_many_157 rfl ?_
      refine a_getr X lf7_33 (by assumption) rfl (by omega) dX7_many_158 ?_
      refine a_geti X lf7_155 (by assumption) rfl dX7_many_161 ?_
      obtain ⟨e_164, f_164, h⟩ := zBx h
      refine a_callVv X dX7_many_164 miX7_answer lm7_134 (t_X7_answer (by assumption) f_164) (by assumption) rfl rfl rfl (Nat.le_of_ble_eq_true rfl) ⟨by decide, by decide, by decide, by decide⟩ ?_
      refine a_iret X hr dX7_many_167 ⟨by decide, by decide⟩ ?_
      subst hF
      rw [← Option.some.inj h]
      exact ⟨rfl, rfl⟩
    | 9, ht_1, hx_1 =>
      cases ht_1
      replace h := (if_neg (by omega)).symm.trans h
      replace h := (if_neg (by omega)).symm.trans h
      replace h := (if_neg (by omega)).symm.trans h
      replace h := (if_neg (by omega)).symm.trans h
      replace h := (if_neg (by omega)).symm.trans h
      replace h := (if_neg (by omega)).symm.trans h
      replace h := (if_neg (by omega)).symm.trans h
      replace h := (if_neg (by omega)).symm.trans h
      replace h := (if_neg (by omega)).symm.trans h
      replace h := (if_pos (by omega)).symm.trans h
      refine a_aload_n X dX7_many_168 rfl ?_
      refine a_aload_n X dX7_many_169 rfl ?_
      refine a_getr X lf7_26 (by assumption) rfl (by omega) dX7_many_170 ?_
      refine a_getr X lf7_158 (by assumption) rfl (by omega) dX7_many_173 ?_
      refine a_callSv X dX7_many_176 miX7_sum lm7_161 (c_sum (by assumption) (by first | decide | assumption)) rfl rfl (Nat.le_of_ble_eq_true rfl) ⟨by decide, by decide, by decide, by decide⟩ ?_
      obtain ⟨e_179, f_179, h⟩ := zBx h
      refine a_callVv X dX7_many_179 miX7_answer lm7_134 (t_X7_answer (by assumption) f_179) (by assumption) rfl rfl rfl (Nat.le_of_ble_eq_true rfl) ⟨by decide, by decide, by decide, by decide⟩ ?_
      refine a_iret X hr dX7_many_182 ⟨by decide, by decide⟩ ?_
      subst hF
      rw [← Option.some.inj h]
      exact ⟨rfl, rfl⟩
    | 10, ht_1, hx_1 =>
      cases ht_1
      replace h := (if_neg (by omega)).symm.trans h
      replace h := (if_neg (by omega)).symm.trans h
      replace h := (if_neg (by omega)).symm.trans h
      replace h := (if_neg (by omega)).symm.trans h
      replace h := (if_neg (by omega)).symm.trans h
      replace h := (if_neg (by omega)).symm.trans h
      replace h := (if_neg (by omega)).symm.trans h
      replace h := (if_neg (by omega)).symm.trans h
      replace h := (if_neg (by omega)).symm.trans h
      replace h := (if_neg (by omega)).symm.trans h
      replace h := (if_pos (by omega)).symm.trans h
      refine a_aload_n X dX7_many_183 rfl ?_
      refine a_aload_n X dX7_many_184 rfl ?_
      refine a_getr X lf7_26 (by assumption) rfl (by omega) dX7_many_185 ?_
      refine a_getr X lf7_165 (by assumption) rfl (by omega) dX7_many_188 ?_
      refine a_callSv X dX7_many_191 miX7_sum lm7_161 (c_sum (by assumption) (by first | decide | assumption)) rfl rfl (Nat.le_of_ble_eq_true rfl) ⟨by decide, by decide, by decide, by decide⟩ ?_
      obtain ⟨e_194, f_194, h⟩ := zBx h
      refine a_callVv X dX7_many_194 miX7_answer lm7_134 (t_X7_answer (by assumption) f_194) (by assumption) rfl rfl rfl (Nat.le_of_ble_eq_true rfl) ⟨by decide, by decide, by decide, by decide⟩ ?_
      refine a_iret X hr dX7_many_197 ⟨by decide, by decide⟩ ?_
      subst hF
      rw [← Option.some.inj h]
      exact ⟨rfl, rfl⟩
  · skip
    replace h := (if_neg (by omega)).symm.trans h
    replace h := (if_neg (by omega)).symm.trans h
    replace h := (if_neg (by omega)).symm.trans h
    replace h := (if_neg (by omega)).symm.trans h
    replace h := (if_neg (by omega)).symm.trans h
    replace h := (if_neg (by omega)).symm.trans h
    replace h := (if_neg (by omega)).symm.trans h
    replace h := (if_neg (by omega)).symm.trans h
    replace h := (if_neg (by omega)).symm.trans h
    replace h := (if_neg (by omega)).symm.trans h
    replace h := (if_neg (by omega)).symm.trans h
    refine a_aload_n X dX7_many_198 rfl ?_
    refine a_iconst (v := 1) X dX7_many_199 (by decide) ?_
    obtain ⟨e_200, f_200, h⟩ := zBx h
    refine a_callVv X dX7_many_200 miX7_refuse lm7_102 (t_X7_refuse (by assumption) f_200) (by assumption) rfl rfl rfl (Nat.le_of_ble_eq_true rfl) ⟨by decide, by decide, by decide, by decide⟩ ?_
    refine a_iret X hr dX7_many_203 ⟨by decide, by decide⟩ ?_
    subst hF
    rw [← Option.some.inj h]
    exact ⟨rfl, rfl⟩
noncomputable def D_X7_isHunter_20 (P : Nat) (M : zMt) (y0_20 : Int32) : Option (Int32) :=
  some (y0_20)
noncomputable def D_X7_isHunter_19 (P : Nat) (M : zMt)  : Option (Int32) :=
  D_X7_isHunter_20 P M (0 : Int32)
noncomputable def D_X7_isHunter (P : Nat) (M : zMt) (v0 : Int32) : Option (Int32) :=
  if v0 < 0 then
    D_X7_isHunter_19 P M
  else
    if (M (P + 17) 1) ≤ v0 then
      D_X7_isHunter_19 P M
    else
      D_X7_isHunter_20 P M (1 : Int32)
set_option maxRecDepth 100000 in
set_option maxHeartbeats 4000000 in
theorem t_X7_isHunter {l : Launch} {G : zG} {b : Nat} {L : List zC} {M : zMt} {N : zNt} {P : Nat} {v0 : Int32} (hP : LX7 L P) {r : Int32} (h : D_X7_isHunter P M v0 = some r) : zM l G b yX7_isHunter cX7_isHunter 2 (some .boolean) 0 0 0 [.ref P, .int v0] (L, M, N) (fun r2 z => r2 = some (.int r) ∧ z = (L, M, N) ∧ (r = 0 ∨ r = 1)) := by
  refine zM.of miX7_isHunter (Nat.le_of_ble_eq_true rfl) ?_
  intro p e s m args below meth c X hr hname
  generalize hF : ((fun r2 z => r2 = some (.int r) ∧ z = (L, M, N) ∧ (r = 0 ∨ r = 1)) : Option Value → zS → Prop) = FQ
  change Zw p l e { frames := 0, cells := 0, slots := 0, locals := 80 * (0) } s m args below meth c G b 2 (MQ below (zQ G b FQ) args s 0 0 (fun q : Nat => b ≤ q)) 0 0 0 [some (.ref P), some (.int v0)] [] (L, M, N)
  obtain ⟨p_lt, p_o, p_tape, p_out, p_reader, p_list, p_past, p_pool, p_result, p_odds, p_paper, p_trial, p_trialPool, p_trialResult, p_trialOdds⟩ := id hP
  obtain ⟨p_reader_lt, p_reader_o, p_reader_draft, p_reader_text, p_reader_unitNames, p_reader_hunterNames, p_reader_partyNames, p_reader_asked⟩ := id p_reader
  obtain ⟨p_list_lt, p_list_o, p_list_quota, p_list_score, p_list_guest, p_list_party, p_list_wishCount, p_list_wishes, p_list_has⟩ := id p_list
  obtain ⟨p_past_lt, p_past_o, p_past_stood, p_past_stood0, p_past_stood1, p_past_stood2, p_past_stood3, p_past_stood4, p_past_stood5, p_past_stood6, p_past_stood7⟩ := id p_past
  obtain ⟨p_pool_lt, p_pool_o, p_pool_quota, p_pool_preferred, p_pool_forGuests, p_pool_applicantOf, p_pool_size, p_pool_guestCount, p_pool_score, p_pool_tickets, p_pool_bits, p_pool_party, p_pool_wishCount, p_pool_wishes⟩ := id p_pool
  obtain ⟨p_result_lt, p_result_o, p_result_line, p_result_unitOf, p_result_roundOf, p_result_leftTags, p_result_leftGuests, p_result_leftPreferred, p_result_ranked⟩ := id p_result
  obtain ⟨p_odds_lt, p_odds_o, p_odds_sets, p_odds_seen, p_odds_atUnit, p_odds_early, p_odds_result⟩ := id p_odds
  obtain ⟨p_paper_lt, p_paper_o, p_paper_times, p_paper_firstWish, p_paper_dry, p_paper_list, p_paper_pool, p_paper_result⟩ := id p_paper
  obtain ⟨p_trial_lt, p_trial_o, p_trial_quota, p_trial_score, p_trial_guest, p_trial_party, p_trial_wishCount, p_trial_wishes, p_trial_has⟩ := id p_trial
  obtain ⟨p_trialPool_lt, p_trialPool_o, p_trialPool_quota, p_trialPool_preferred, p_trialPool_forGuests, p_trialPool_applicantOf, p_trialPool_size, p_trialPool_guestCount, p_trialPool_score, p_trialPool_tickets, p_trialPool_bits, p_trialPool_party, p_trialPool_wishCount, p_trialPool_wishes⟩ := id p_trialPool
  obtain ⟨p_trialResult_lt, p_trialResult_o, p_trialResult_line, p_trialResult_unitOf, p_trialResult_roundOf, p_trialResult_leftTags, p_trialResult_leftGuests, p_trialResult_leftPreferred, p_trialResult_ranked⟩ := id p_trialResult
  obtain ⟨p_trialOdds_lt, p_trialOdds_o, p_trialOdds_sets, p_trialOdds_seen, p_trialOdds_atUnit, p_trialOdds_early, p_trialOdds_result⟩ := id p_trialOdds
  have J_20 : ∀ (x1_20 : Int32) (y0_20 : Int32), (y0_20 = 0 ∨ y0_20 = 1) → D_X7_isHunter_20 P M y0_20 = some r → Zw p l e { frames := 0, cells := 0, slots := 0, locals := 80 * (0) } s m args below meth c G b 2 (MQ below (zQ G b FQ) args s 0 0 (fun q : Nat => b ≤ q)) 0 0 20 [some (.ref (P)), some (.int x1_20)] [.int y0_20] (L, M, N) := by
    intro x1_20 y0_20 fb_y0_20 h
    unfold D_X7_isHunter_20 at h
    refine a_zret X (by first | exact Or.inl rfl | exact Or.inr rfl | assumption) hr dX7_isHunter_20 ⟨by decide, by decide⟩ ?_
    subst hF
    rw [← Option.some.inj h]
    exact ⟨rfl, rfl, (by first | exact Or.inl rfl | exact Or.inr rfl | assumption)⟩
  have J_19 : ∀ (x1_19 : Int32), D_X7_isHunter_19 P M = some r → Zw p l e { frames := 0, cells := 0, slots := 0, locals := 80 * (0) } s m args below meth c G b 2 (MQ below (zQ G b FQ) args s 0 0 (fun q : Nat => b ≤ q)) 0 0 19 [some (.ref (P)), some (.int x1_19)] [] (L, M, N) := by
    intro x1_19 h
    unfold D_X7_isHunter_19 at h
    refine a_iconst (v := 0) X dX7_isHunter_19 (by decide) ?_
    exact Zw.to2 (J_20 _ _ (by first | exact Or.inl rfl | exact Or.inr rfl | assumption) h) rfl rfl rfl
  unfold D_X7_isHunter at h
  refine a_iload_n X dX7_isHunter_0 rfl ?_
  refine a_if_lt (tgt := 19) X dX7_isHunter_1 (by decide) (fun h_1 => ?_) (fun h_1 => ?_)
  · replace h := (if_pos h_1).symm.trans h
    exact Zw.to2 (J_19 _ h) rfl rfl rfl
  · replace h := (if_neg h_1).symm.trans h
    refine a_iload_n X dX7_isHunter_4 rfl ?_
    refine a_aload_n X dX7_isHunter_5 rfl ?_
    refine a_getr X lf7_26 (by assumption) rfl (by omega) dX7_isHunter_6 ?_
    refine a_geti X lf7_119 (by assumption) rfl dX7_isHunter_9 ?_
    refine a_icmp_ge (tgt := 19) X dX7_isHunter_12 (by decide) (fun h_12 => ?_) (fun h_12 => ?_)
    · replace h := (if_pos h_12).symm.trans h
      exact Zw.to2 (J_19 _ h) rfl rfl rfl
    · replace h := (if_neg h_12).symm.trans h
      refine a_iconst (v := 1) X dX7_isHunter_15 (by decide) ?_
      refine a_goto (tgt := 20) X dX7_isHunter_16 (by decide) ?_
      exact Zw.to2 (J_20 _ _ (by first | exact Or.inl rfl | exact Or.inr rfl | assumption) h) rfl rfl rfl
noncomputable def D_X7_hunter_9 (P : Nat) (M_9 : zMt) : Option (Int32 × zMt) :=
  zB (D_X7_refuse P (1 : Int32) M_9) fun e_11 =>
  some (e_11.1, e_11.2)
noncomputable def D_X7_hunter (P : Nat) (v0 : Int32) (v1 : Int32) (M : zMt) : Option (Int32 × zMt) :=
  if v1 < 0 then
    D_X7_hunter_9 P M
  else
    if v1 ≤ (4 : Int32) then
      zB (D_X7_isHunter P M v0) fun e_17 =>
      if e_17 = 0 then
        zB (D_X7_refuse P (2 : Int32) M) fun e_25 =>
        some (e_25.1, e_25.2)
      else
        if Int32.toInt v1 = 0 then
          zB (D_X7_answer P (zrd 0 (M (P + 19)) 10 v0) M) fun e_72 =>
          some (e_72.1, e_72.2)
        else
        if Int32.toInt v1 = 1 then
          zB (D_X7_answer P (zrd 0 (M (P + 20)) 10 v0) M) fun e_88 =>
          some (e_88.1, e_88.2)
        else
        if Int32.toInt v1 = 2 then
          zB (D_X7_answer P (zrd 0 (M (P + 21)) 10 v0) M) fun e_104 =>
          some (e_104.1, e_104.2)
        else
        if Int32.toInt v1 = 3 then
          zB (D_X7_answer P (zrd 0 (M (P + 95)) 10 v0) M) fun e_120 =>
          some (e_120.1, e_120.2)
        else
          zB (D_X7_answer P (zrd 0 (M (P + 24)) 10 v0) M) fun e_136 =>
          some (e_136.1, e_136.2)
    else
      D_X7_hunter_9 P M
set_option maxRecDepth 100000 in
set_option maxHeartbeats 4000000 in
theorem t_X7_hunter {l : Launch} {G : zG} {b : Nat} {L : List zC} {M : zMt} {N : zNt} {P : Nat} {v0 : Int32} {v1 : Int32} (hP : LX7 L P) {r : Int32 × zMt} (h : D_X7_hunter P v0 v1 M = some r) : zM l G b yX7_hunter cX7_hunter 3 (some .int) 1 0 0 [.ref P, .int v0, .int v1] (L, M, N) (fun r2 z => r2 = some (.int r.1) ∧ z = (L, r.2, N)) := by
  refine zM.of miX7_hunter (Nat.le_of_ble_eq_true rfl) ?_
  intro p e s m args below meth c X hr hname
  generalize hF : ((fun r2 z => r2 = some (.int r.1) ∧ z = (L, r.2, N)) : Option Value → zS → Prop) = FQ
  change Zw p l e { frames := 1, cells := 0, slots := 0, locals := 80 * (1) } s m args below meth c G b 3 (MQ below (zQ G b FQ) args s 0 0 (fun q : Nat => b ≤ q)) 0 0 0 [some (.ref P), some (.int v0), some (.int v1)] [] (L, M, N)
  obtain ⟨p_lt, p_o, p_tape, p_out, p_reader, p_list, p_past, p_pool, p_result, p_odds, p_paper, p_trial, p_trialPool, p_trialResult, p_trialOdds⟩ := id hP
  obtain ⟨p_reader_lt, p_reader_o, p_reader_draft, p_reader_text, p_reader_unitNames, p_reader_hunterNames, p_reader_partyNames, p_reader_asked⟩ := id p_reader
  obtain ⟨p_list_lt, p_list_o, p_list_quota, p_list_score, p_list_guest, p_list_party, p_list_wishCount, p_list_wishes, p_list_has⟩ := id p_list
  obtain ⟨p_past_lt, p_past_o, p_past_stood, p_past_stood0, p_past_stood1, p_past_stood2, p_past_stood3, p_past_stood4, p_past_stood5, p_past_stood6, p_past_stood7⟩ := id p_past
  obtain ⟨p_pool_lt, p_pool_o, p_pool_quota, p_pool_preferred, p_pool_forGuests, p_pool_applicantOf, p_pool_size, p_pool_guestCount, p_pool_score, p_pool_tickets, p_pool_bits, p_pool_party, p_pool_wishCount, p_pool_wishes⟩ := id p_pool
  obtain ⟨p_result_lt, p_result_o, p_result_line, p_result_unitOf, p_result_roundOf, p_result_leftTags, p_result_leftGuests, p_result_leftPreferred, p_result_ranked⟩ := id p_result
  obtain ⟨p_odds_lt, p_odds_o, p_odds_sets, p_odds_seen, p_odds_atUnit, p_odds_early, p_odds_result⟩ := id p_odds
  obtain ⟨p_paper_lt, p_paper_o, p_paper_times, p_paper_firstWish, p_paper_dry, p_paper_list, p_paper_pool, p_paper_result⟩ := id p_paper
  obtain ⟨p_trial_lt, p_trial_o, p_trial_quota, p_trial_score, p_trial_guest, p_trial_party, p_trial_wishCount, p_trial_wishes, p_trial_has⟩ := id p_trial
  obtain ⟨p_trialPool_lt, p_trialPool_o, p_trialPool_quota, p_trialPool_preferred, p_trialPool_forGuests, p_trialPool_applicantOf, p_trialPool_size, p_trialPool_guestCount, p_trialPool_score, p_trialPool_tickets, p_trialPool_bits, p_trialPool_party, p_trialPool_wishCount, p_trialPool_wishes⟩ := id p_trialPool
  obtain ⟨p_trialResult_lt, p_trialResult_o, p_trialResult_line, p_trialResult_unitOf, p_trialResult_roundOf, p_trialResult_leftTags, p_trialResult_leftGuests, p_trialResult_leftPreferred, p_trialResult_ranked⟩ := id p_trialResult
  obtain ⟨p_trialOdds_lt, p_trialOdds_o, p_trialOdds_sets, p_trialOdds_seen, p_trialOdds_atUnit, p_trialOdds_early, p_trialOdds_result⟩ := id p_trialOdds
  have J_9 : ∀ (x1_9 : Int32) (x2_9 : Int32) (M_9 : zMt), D_X7_hunter_9 P M_9 = some r → Zw p l e { frames := 1, cells := 0, slots := 0, locals := 80 * (1) } s m args below meth c G b 3 (MQ below (zQ G b FQ) args s 0 0 (fun q : Nat => b ≤ q)) 0 0 9 [some (.ref (P)), some (.int x1_9), some (.int x2_9)] [] (L, M_9, N) := by
    intro x1_9 x2_9 M_9 h
    unfold D_X7_hunter_9 at h
    refine a_aload_n X dX7_hunter_9 rfl ?_
    refine a_iconst (v := 1) X dX7_hunter_10 (by decide) ?_
    obtain ⟨e_11, f_11, h⟩ := zBx h
    refine a_callVv X dX7_hunter_11 miX7_refuse lm7_102 (t_X7_refuse (by assumption) f_11) (by assumption) rfl rfl rfl (Nat.le_of_ble_eq_true rfl) ⟨by decide, by decide, by decide, by decide⟩ ?_
    refine a_iret X hr dX7_hunter_14 ⟨by decide, by decide⟩ ?_
    subst hF
    rw [← Option.some.inj h]
    exact ⟨rfl, rfl⟩
  unfold D_X7_hunter at h
  refine a_iload_n X dX7_hunter_0 rfl ?_
  refine a_if_lt (tgt := 9) X dX7_hunter_1 (by decide) (fun h_1 => ?_) (fun h_1 => ?_)
  · replace h := (if_pos h_1).symm.trans h
    exact Zw.to2 (J_9 _ _ _ h) rfl rfl rfl
  · replace h := (if_neg h_1).symm.trans h
    refine a_iload_n X dX7_hunter_4 rfl ?_
    refine a_iconst (v := 4) X dX7_hunter_5 (by decide) ?_
    refine a_icmp_le (tgt := 15) X dX7_hunter_6 (by decide) (fun h_6 => ?_) (fun h_6 => ?_)
    · replace h := (if_pos h_6).symm.trans h
      refine a_aload_n X dX7_hunter_15 rfl ?_
      refine a_iload_n X dX7_hunter_16 rfl ?_
      obtain ⟨e_17, f_17, h⟩ := zBx h
      refine a_callVx X dX7_hunter_17 miX7_isHunter lm7_168 (t_X7_isHunter (by assumption) f_17) (by assumption) rfl rfl rfl (Nat.le_of_ble_eq_true rfl) ⟨by decide, by decide, by decide, by decide⟩ (fun r_17 S_17 q_17 => ?_)
      obtain ⟨rfl, rfl, b_17⟩ := q_17
      refine a_if_ne (tgt := 29) X dX7_hunter_20 (by decide) (fun h_20 => ?_) (fun h_20 => ?_)
      · replace h := (if_neg h_20).symm.trans h
        refine a_iload_n X dX7_hunter_29 rfl ?_
        refine a_tsw (tg := [60, 76, 92, 108]) (td := 124) X dX7_hunter_30 (by decide +kernel) (by decide) (by decide) (fun k_30 t_30 ht_30 hx_30 => ?_) (fun hx_30 => ?_)
        · match k_30, ht_30, hx_30 with
          | 0, ht_30, hx_30 =>
            cases ht_30
            replace h := (if_pos (by omega)).symm.trans h
            refine a_aload_n X dX7_hunter_60 rfl ?_
            refine a_aload_n X dX7_hunter_61 rfl ?_
            refine a_getr X lf7_26 (by assumption) rfl (by omega) dX7_hunter_62 ?_
            refine a_getr X lf7_172 (by assumption) rfl (by omega) dX7_hunter_65 ?_
            refine a_iload_n X dX7_hunter_68 rfl ?_
            refine a_callSv X dX7_hunter_69 miX7_cell lm7_175 (c_cell (by assumption) (by first | decide | assumption)) rfl rfl (Nat.le_of_ble_eq_true rfl) ⟨by decide, by decide, by decide, by decide⟩ ?_
            obtain ⟨e_72, f_72, h⟩ := zBx h
            refine a_callVv X dX7_hunter_72 miX7_answer lm7_134 (t_X7_answer (by assumption) f_72) (by assumption) rfl rfl rfl (Nat.le_of_ble_eq_true rfl) ⟨by decide, by decide, by decide, by decide⟩ ?_
            refine a_iret X hr dX7_hunter_75 ⟨by decide, by decide⟩ ?_
            subst hF
            rw [← Option.some.inj h]
            exact ⟨rfl, rfl⟩
          | 1, ht_30, hx_30 =>
            cases ht_30
            replace h := (if_neg (by omega)).symm.trans h
            replace h := (if_pos (by omega)).symm.trans h
            refine a_aload_n X dX7_hunter_76 rfl ?_
            refine a_aload_n X dX7_hunter_77 rfl ?_
            refine a_getr X lf7_26 (by assumption) rfl (by omega) dX7_hunter_78 ?_
            refine a_getr X lf7_165 (by assumption) rfl (by omega) dX7_hunter_81 ?_
            refine a_iload_n X dX7_hunter_84 rfl ?_
            refine a_callSv X dX7_hunter_85 miX7_cell lm7_175 (c_cell (by assumption) (by first | decide | assumption)) rfl rfl (Nat.le_of_ble_eq_true rfl) ⟨by decide, by decide, by decide, by decide⟩ ?_
            obtain ⟨e_88, f_88, h⟩ := zBx h
            refine a_callVv X dX7_hunter_88 miX7_answer lm7_134 (t_X7_answer (by assumption) f_88) (by assumption) rfl rfl rfl (Nat.le_of_ble_eq_true rfl) ⟨by decide, by decide, by decide, by decide⟩ ?_
            refine a_iret X hr dX7_hunter_91 ⟨by decide, by decide⟩ ?_
            subst hF
            rw [← Option.some.inj h]
            exact ⟨rfl, rfl⟩
          | 2, ht_30, hx_30 =>
            cases ht_30
            replace h := (if_neg (by omega)).symm.trans h
            replace h := (if_neg (by omega)).symm.trans h
            replace h := (if_pos (by omega)).symm.trans h
            refine a_aload_n X dX7_hunter_92 rfl ?_
            refine a_aload_n X dX7_hunter_93 rfl ?_
            refine a_getr X lf7_26 (by assumption) rfl (by omega) dX7_hunter_94 ?_
            refine a_getr X lf7_179 (by assumption) rfl (by omega) dX7_hunter_97 ?_
            refine a_iload_n X dX7_hunter_100 rfl ?_
            refine a_callSv X dX7_hunter_101 miX7_cell lm7_175 (c_cell (by assumption) (by first | decide | assumption)) rfl rfl (Nat.le_of_ble_eq_true rfl) ⟨by decide, by decide, by decide, by decide⟩ ?_
            obtain ⟨e_104, f_104, h⟩ := zBx h
            refine a_callVv X dX7_hunter_104 miX7_answer lm7_134 (t_X7_answer (by assumption) f_104) (by assumption) rfl rfl rfl (Nat.le_of_ble_eq_true rfl) ⟨by decide, by decide, by decide, by decide⟩ ?_
            refine a_iret X hr dX7_hunter_107 ⟨by decide, by decide⟩ ?_
            subst hF
            rw [← Option.some.inj h]
            exact ⟨rfl, rfl⟩
          | 3, ht_30, hx_30 =>
            cases ht_30
            replace h := (if_neg (by omega)).symm.trans h
            replace h := (if_neg (by omega)).symm.trans h
            replace h := (if_neg (by omega)).symm.trans h
            replace h := (if_pos (by omega)).symm.trans h
            refine a_aload_n X dX7_hunter_108 rfl ?_
            refine a_aload_n X dX7_hunter_109 rfl ?_
            refine a_getr X lf7_40 (by assumption) rfl (by omega) dX7_hunter_110 ?_
            refine a_getr X lf7_182 (by assumption) rfl (by omega) dX7_hunter_113 ?_
            refine a_iload_n X dX7_hunter_116 rfl ?_
            refine a_callSv X dX7_hunter_117 miX7_cell lm7_175 (c_cell (by assumption) (by first | decide | assumption)) rfl rfl (Nat.le_of_ble_eq_true rfl) ⟨by decide, by decide, by decide, by decide⟩ ?_
            obtain ⟨e_120, f_120, h⟩ := zBx h
            refine a_callVv X dX7_hunter_120 miX7_answer lm7_134 (t_X7_answer (by assumption) f_120) (by assumption) rfl rfl rfl (Nat.le_of_ble_eq_true rfl) ⟨by decide, by decide, by decide, by decide⟩ ?_
            refine a_iret X hr dX7_hunter_123 ⟨by decide, by decide⟩ ?_
            subst hF
            rw [← Option.some.inj h]
            exact ⟨rfl, rfl⟩
        · skip
          replace h := (if_neg (by omega)).symm.trans h
          replace h := (if_neg (by omega)).symm.trans h
          replace h := (if_neg (by omega)).symm.trans h
          replace h := (if_neg (by omega)).symm.trans h
          refine a_aload_n X dX7_hunter_124 rfl ?_
          refine a_aload_n X dX7_hunter_125 rfl ?_
          refine a_getr X lf7_26 (by assumption) rfl (by omega) dX7_hunter_126 ?_
          refine a_getr X lf7_185 (by assumption) rfl (by omega) dX7_hunter_129 ?_
          refine a_iload_n X dX7_hunter_132 rfl ?_
          refine a_callSv X dX7_hunter_133 miX7_cell lm7_175 (c_cell (by assumption) (by first | decide | assumption)) rfl rfl (Nat.le_of_ble_eq_true rfl) ⟨by decide, by decide, by decide, by decide⟩ ?_
          obtain ⟨e_136, f_136, h⟩ := zBx h
          refine a_callVv X dX7_hunter_136 miX7_answer lm7_134 (t_X7_answer (by assumption) f_136) (by assumption) rfl rfl rfl (Nat.le_of_ble_eq_true rfl) ⟨by decide, by decide, by decide, by decide⟩ ?_
          refine a_iret X hr dX7_hunter_139 ⟨by decide, by decide⟩ ?_
          subst hF
          rw [← Option.some.inj h]
          exact ⟨rfl, rfl⟩
      · replace h := (if_pos h_20).symm.trans h
        refine a_aload_n X dX7_hunter_23 rfl ?_
        refine a_iconst (v := 2) X dX7_hunter_24 (by decide) ?_
        obtain ⟨e_25, f_25, h⟩ := zBx h
        refine a_callVv X dX7_hunter_25 miX7_refuse lm7_102 (t_X7_refuse (by assumption) f_25) (by assumption) rfl rfl rfl (Nat.le_of_ble_eq_true rfl) ⟨by decide, by decide, by decide, by decide⟩ ?_
        refine a_iret X hr dX7_hunter_28 ⟨by decide, by decide⟩ ?_
        subst hF
        rw [← Option.some.inj h]
        exact ⟨rfl, rfl⟩
    · replace h := (if_neg h_6).symm.trans h
      exact Zw.to2 (J_9 _ _ _ h) rfl rfl rfl
noncomputable def D_X7_isUnit_20 (P : Nat) (M : zMt) (y0_20 : Int32) : Option (Int32) :=
  some (y0_20)
noncomputable def D_X7_isUnit_19 (P : Nat) (M : zMt)  : Option (Int32) :=
  D_X7_isUnit_20 P M (0 : Int32)
noncomputable def D_X7_isUnit (P : Nat) (M : zMt) (v0 : Int32) : Option (Int32) :=
  if v0 < 0 then
    D_X7_isUnit_19 P M
  else
    if (M (P + 17) 0) ≤ v0 then
      D_X7_isUnit_19 P M
    else
      D_X7_isUnit_20 P M (1 : Int32)
set_option maxRecDepth 100000 in
set_option maxHeartbeats 4000000 in
theorem t_X7_isUnit {l : Launch} {G : zG} {b : Nat} {L : List zC} {M : zMt} {N : zNt} {P : Nat} {v0 : Int32} (hP : LX7 L P) {r : Int32} (h : D_X7_isUnit P M v0 = some r) : zM l G b yX7_isUnit cX7_isUnit 2 (some .boolean) 0 0 0 [.ref P, .int v0] (L, M, N) (fun r2 z => r2 = some (.int r) ∧ z = (L, M, N) ∧ (r = 0 ∨ r = 1)) := by
  refine zM.of miX7_isUnit (Nat.le_of_ble_eq_true rfl) ?_
  intro p e s m args below meth c X hr hname
  generalize hF : ((fun r2 z => r2 = some (.int r) ∧ z = (L, M, N) ∧ (r = 0 ∨ r = 1)) : Option Value → zS → Prop) = FQ
  change Zw p l e { frames := 0, cells := 0, slots := 0, locals := 80 * (0) } s m args below meth c G b 2 (MQ below (zQ G b FQ) args s 0 0 (fun q : Nat => b ≤ q)) 0 0 0 [some (.ref P), some (.int v0)] [] (L, M, N)
  obtain ⟨p_lt, p_o, p_tape, p_out, p_reader, p_list, p_past, p_pool, p_result, p_odds, p_paper, p_trial, p_trialPool, p_trialResult, p_trialOdds⟩ := id hP
  obtain ⟨p_reader_lt, p_reader_o, p_reader_draft, p_reader_text, p_reader_unitNames, p_reader_hunterNames, p_reader_partyNames, p_reader_asked⟩ := id p_reader
  obtain ⟨p_list_lt, p_list_o, p_list_quota, p_list_score, p_list_guest, p_list_party, p_list_wishCount, p_list_wishes, p_list_has⟩ := id p_list
  obtain ⟨p_past_lt, p_past_o, p_past_stood, p_past_stood0, p_past_stood1, p_past_stood2, p_past_stood3, p_past_stood4, p_past_stood5, p_past_stood6, p_past_stood7⟩ := id p_past
  obtain ⟨p_pool_lt, p_pool_o, p_pool_quota, p_pool_preferred, p_pool_forGuests, p_pool_applicantOf, p_pool_size, p_pool_guestCount, p_pool_score, p_pool_tickets, p_pool_bits, p_pool_party, p_pool_wishCount, p_pool_wishes⟩ := id p_pool
  obtain ⟨p_result_lt, p_result_o, p_result_line, p_result_unitOf, p_result_roundOf, p_result_leftTags, p_result_leftGuests, p_result_leftPreferred, p_result_ranked⟩ := id p_result
  obtain ⟨p_odds_lt, p_odds_o, p_odds_sets, p_odds_seen, p_odds_atUnit, p_odds_early, p_odds_result⟩ := id p_odds
  obtain ⟨p_paper_lt, p_paper_o, p_paper_times, p_paper_firstWish, p_paper_dry, p_paper_list, p_paper_pool, p_paper_result⟩ := id p_paper
  obtain ⟨p_trial_lt, p_trial_o, p_trial_quota, p_trial_score, p_trial_guest, p_trial_party, p_trial_wishCount, p_trial_wishes, p_trial_has⟩ := id p_trial
  obtain ⟨p_trialPool_lt, p_trialPool_o, p_trialPool_quota, p_trialPool_preferred, p_trialPool_forGuests, p_trialPool_applicantOf, p_trialPool_size, p_trialPool_guestCount, p_trialPool_score, p_trialPool_tickets, p_trialPool_bits, p_trialPool_party, p_trialPool_wishCount, p_trialPool_wishes⟩ := id p_trialPool
  obtain ⟨p_trialResult_lt, p_trialResult_o, p_trialResult_line, p_trialResult_unitOf, p_trialResult_roundOf, p_trialResult_leftTags, p_trialResult_leftGuests, p_trialResult_leftPreferred, p_trialResult_ranked⟩ := id p_trialResult
  obtain ⟨p_trialOdds_lt, p_trialOdds_o, p_trialOdds_sets, p_trialOdds_seen, p_trialOdds_atUnit, p_trialOdds_early, p_trialOdds_result⟩ := id p_trialOdds
  have J_20 : ∀ (x1_20 : Int32) (y0_20 : Int32), (y0_20 = 0 ∨ y0_20 = 1) → D_X7_isUnit_20 P M y0_20 = some r → Zw p l e { frames := 0, cells := 0, slots := 0, locals := 80 * (0) } s m args below meth c G b 2 (MQ below (zQ G b FQ) args s 0 0 (fun q : Nat => b ≤ q)) 0 0 20 [some (.ref (P)), some (.int x1_20)] [.int y0_20] (L, M, N) := by
    intro x1_20 y0_20 fb_y0_20 h
    unfold D_X7_isUnit_20 at h
    refine a_zret X (by first | exact Or.inl rfl | exact Or.inr rfl | assumption) hr dX7_isUnit_20 ⟨by decide, by decide⟩ ?_
    subst hF
    rw [← Option.some.inj h]
    exact ⟨rfl, rfl, (by first | exact Or.inl rfl | exact Or.inr rfl | assumption)⟩
  have J_19 : ∀ (x1_19 : Int32), D_X7_isUnit_19 P M = some r → Zw p l e { frames := 0, cells := 0, slots := 0, locals := 80 * (0) } s m args below meth c G b 2 (MQ below (zQ G b FQ) args s 0 0 (fun q : Nat => b ≤ q)) 0 0 19 [some (.ref (P)), some (.int x1_19)] [] (L, M, N) := by
    intro x1_19 h
    unfold D_X7_isUnit_19 at h
    refine a_iconst (v := 0) X dX7_isUnit_19 (by decide) ?_
    exact Zw.to2 (J_20 _ _ (by first | exact Or.inl rfl | exact Or.inr rfl | assumption) h) rfl rfl rfl
  unfold D_X7_isUnit at h
  refine a_iload_n X dX7_isUnit_0 rfl ?_
  refine a_if_lt (tgt := 19) X dX7_isUnit_1 (by decide) (fun h_1 => ?_) (fun h_1 => ?_)
  · replace h := (if_pos h_1).symm.trans h
    exact Zw.to2 (J_19 _ h) rfl rfl rfl
  · replace h := (if_neg h_1).symm.trans h
    refine a_iload_n X dX7_isUnit_4 rfl ?_
    refine a_aload_n X dX7_isUnit_5 rfl ?_
    refine a_getr X lf7_26 (by assumption) rfl (by omega) dX7_isUnit_6 ?_
    refine a_geti X lf7_131 (by assumption) rfl dX7_isUnit_9 ?_
    refine a_icmp_ge (tgt := 19) X dX7_isUnit_12 (by decide) (fun h_12 => ?_) (fun h_12 => ?_)
    · replace h := (if_pos h_12).symm.trans h
      exact Zw.to2 (J_19 _ h) rfl rfl rfl
    · replace h := (if_neg h_12).symm.trans h
      refine a_iconst (v := 1) X dX7_isUnit_15 (by decide) ?_
      refine a_goto (tgt := 20) X dX7_isUnit_16 (by decide) ?_
      exact Zw.to2 (J_20 _ _ (by first | exact Or.inl rfl | exact Or.inr rfl | assumption) h) rfl rfl rfl
noncomputable def D_X7_unit_9 (P : Nat) (M_9 : zMt) : Option (Int32 × zMt) :=
  zB (D_X7_refuse P (1 : Int32) M_9) fun e_11 =>
  some (e_11.1, e_11.2)
noncomputable def D_X7_unit (P : Nat) (v0 : Int32) (v1 : Int32) (M : zMt) : Option (Int32 × zMt) :=
  if v1 < 0 then
    D_X7_unit_9 P M
  else
    if v1 ≤ (5 : Int32) then
      zB (D_X7_isUnit P M v0) fun e_17 =>
      if e_17 = 0 then
        zB (D_X7_refuse P (2 : Int32) M) fun e_25 =>
        some (e_25.1, e_25.2)
      else
        if Int32.toInt v1 = 0 then
          zB (D_X7_answer P (zrd 0 (M (P + 18)) 5 v0) M) fun e_76 =>
          some (e_76.1, e_76.2)
        else
        if Int32.toInt v1 = 1 then
          zB (D_X7_answer P (zrd 0 (M (P + 93)) 5 v0) M) fun e_92 =>
          some (e_92.1, e_92.2)
        else
        if Int32.toInt v1 = 2 then
          zB (D_X7_answer P (zrd 0 (M (P + 94)) 5 v0) M) fun e_108 =>
          some (e_108.1, e_108.2)
        else
        if Int32.toInt v1 = 3 then
          zB (D_X2_firstApplicants (P + 91) M v0) fun e_118 =>
          zB (D_X7_answer P e_118 M) fun e_121 =>
          some (e_121.1, e_121.2)
        else
        if Int32.toInt v1 = 4 then
          zB (D_X2_firstHunters (P + 91) M v0) fun e_131 =>
          zB (D_X7_answer P e_131 M) fun e_134 =>
          some (e_134.1, e_134.2)
        else
          zB (D_X2_askers (P + 91) M v0) fun e_144 =>
          zB (D_X7_answer P e_144 M) fun e_147 =>
          some (e_147.1, e_147.2)
    else
      D_X7_unit_9 P M
set_option maxRecDepth 100000 in
set_option maxHeartbeats 4000000 in
theorem t_X7_unit {l : Launch} {G : zG} {b : Nat} {L : List zC} {M : zMt} {N : zNt} {P : Nat} {v0 : Int32} {v1 : Int32} (hP : LX7 L P) {r : Int32 × zMt} (h : D_X7_unit P v0 v1 M = some r) : zM l G b yX7_unit cX7_unit 3 (some .int) 4 0 0 [.ref P, .int v0, .int v1] (L, M, N) (fun r2 z => r2 = some (.int r.1) ∧ z = (L, r.2, N)) := by
  refine zM.of miX7_unit (Nat.le_of_ble_eq_true rfl) ?_
  intro p e s m args below meth c X hr hname
  generalize hF : ((fun r2 z => r2 = some (.int r.1) ∧ z = (L, r.2, N)) : Option Value → zS → Prop) = FQ
  change Zw p l e { frames := 4, cells := 0, slots := 0, locals := 80 * (4) } s m args below meth c G b 3 (MQ below (zQ G b FQ) args s 0 0 (fun q : Nat => b ≤ q)) 0 0 0 [some (.ref P), some (.int v0), some (.int v1)] [] (L, M, N)
  obtain ⟨p_lt, p_o, p_tape, p_out, p_reader, p_list, p_past, p_pool, p_result, p_odds, p_paper, p_trial, p_trialPool, p_trialResult, p_trialOdds⟩ := id hP
  obtain ⟨p_reader_lt, p_reader_o, p_reader_draft, p_reader_text, p_reader_unitNames, p_reader_hunterNames, p_reader_partyNames, p_reader_asked⟩ := id p_reader
  obtain ⟨p_list_lt, p_list_o, p_list_quota, p_list_score, p_list_guest, p_list_party, p_list_wishCount, p_list_wishes, p_list_has⟩ := id p_list
  obtain ⟨p_past_lt, p_past_o, p_past_stood, p_past_stood0, p_past_stood1, p_past_stood2, p_past_stood3, p_past_stood4, p_past_stood5, p_past_stood6, p_past_stood7⟩ := id p_past
  obtain ⟨p_pool_lt, p_pool_o, p_pool_quota, p_pool_preferred, p_pool_forGuests, p_pool_applicantOf, p_pool_size, p_pool_guestCount, p_pool_score, p_pool_tickets, p_pool_bits, p_pool_party, p_pool_wishCount, p_pool_wishes⟩ := id p_pool
  obtain ⟨p_result_lt, p_result_o, p_result_line, p_result_unitOf, p_result_roundOf, p_result_leftTags, p_result_leftGuests, p_result_leftPreferred, p_result_ranked⟩ := id p_result
  obtain ⟨p_odds_lt, p_odds_o, p_odds_sets, p_odds_seen, p_odds_atUnit, p_odds_early, p_odds_result⟩ := id p_odds
  obtain ⟨p_paper_lt, p_paper_o, p_paper_times, p_paper_firstWish, p_paper_dry, p_paper_list, p_paper_pool, p_paper_result⟩ := id p_paper
  obtain ⟨p_trial_lt, p_trial_o, p_trial_quota, p_trial_score, p_trial_guest, p_trial_party, p_trial_wishCount, p_trial_wishes, p_trial_has⟩ := id p_trial
  obtain ⟨p_trialPool_lt, p_trialPool_o, p_trialPool_quota, p_trialPool_preferred, p_trialPool_forGuests, p_trialPool_applicantOf, p_trialPool_size, p_trialPool_guestCount, p_trialPool_score, p_trialPool_tickets, p_trialPool_bits, p_trialPool_party, p_trialPool_wishCount, p_trialPool_wishes⟩ := id p_trialPool
  obtain ⟨p_trialResult_lt, p_trialResult_o, p_trialResult_line, p_trialResult_unitOf, p_trialResult_roundOf, p_trialResult_leftTags, p_trialResult_leftGuests, p_trialResult_leftPreferred, p_trialResult_ranked⟩ := id p_trialResult
  obtain ⟨p_trialOdds_lt, p_trialOdds_o, p_trialOdds_sets, p_trialOdds_seen, p_trialOdds_atUnit, p_trialOdds_early, p_trialOdds_result⟩ := id p_trialOdds
  have J_9 : ∀ (x1_9 : Int32) (x2_9 : Int32) (M_9 : zMt), D_X7_unit_9 P M_9 = some r → Zw p l e { frames := 4, cells := 0, slots := 0, locals := 80 * (4) } s m args below meth c G b 3 (MQ below (zQ G b FQ) args s 0 0 (fun q : Nat => b ≤ q)) 0 0 9 [some (.ref (P)), some (.int x1_9), some (.int x2_9)] [] (L, M_9, N) := by
    intro x1_9 x2_9 M_9 h
    unfold D_X7_unit_9 at h
    refine a_aload_n X dX7_unit_9 rfl ?_
    refine a_iconst (v := 1) X dX7_unit_10 (by decide) ?_
    obtain ⟨e_11, f_11, h⟩ := zBx h
    refine a_callVv X dX7_unit_11 miX7_refuse lm7_102 (t_X7_refuse (by assumption) f_11) (by assumption) rfl rfl rfl (Nat.le_of_ble_eq_true rfl) ⟨by decide, by decide, by decide, by decide⟩ ?_
    refine a_iret X hr dX7_unit_14 ⟨by decide, by decide⟩ ?_
    subst hF
    rw [← Option.some.inj h]
    exact ⟨rfl, rfl⟩
  unfold D_X7_unit at h
  refine a_iload_n X dX7_unit_0 rfl ?_
  refine a_if_lt (tgt := 9) X dX7_unit_1 (by decide) (fun h_1 => ?_) (fun h_1 => ?_)
  · replace h := (if_pos h_1).symm.trans h
    exact Zw.to2 (J_9 _ _ _ h) rfl rfl rfl
  · replace h := (if_neg h_1).symm.trans h
    refine a_iload_n X dX7_unit_4 rfl ?_
    refine a_iconst (v := 5) X dX7_unit_5 (by decide) ?_
    refine a_icmp_le (tgt := 15) X dX7_unit_6 (by decide) (fun h_6 => ?_) (fun h_6 => ?_)
    · replace h := (if_pos h_6).symm.trans h
      refine a_aload_n X dX7_unit_15 rfl ?_
      refine a_iload_n X dX7_unit_16 rfl ?_
      obtain ⟨e_17, f_17, h⟩ := zBx h
      refine a_callVx X dX7_unit_17 miX7_isUnit lm7_188 (t_X7_isUnit (by assumption) f_17) (by assumption) rfl rfl rfl (Nat.le_of_ble_eq_true rfl) ⟨by decide, by decide, by decide, by decide⟩ (fun r_17 S_17 q_17 => ?_)
      obtain ⟨rfl, rfl, b_17⟩ := q_17
      refine a_if_ne (tgt := 29) X dX7_unit_20 (by decide) (fun h_20 => ?_) (fun h_20 => ?_)
      · replace h := (if_neg h_20).symm.trans h
        refine a_iload_n X dX7_unit_29 rfl ?_
        refine a_tsw (tg := [64, 80, 96, 112, 125]) (td := 138) X dX7_unit_30 (by decide +kernel) (by decide) (by decide) (fun k_30 t_30 ht_30 hx_30 => ?_) (fun hx_30 => ?_)
        · match k_30, ht_30, hx_30 with
          | 0, ht_30, hx_30 =>
            cases ht_30
            replace h := (if_pos (by omega)).symm.trans h
            refine a_aload_n X dX7_unit_64 rfl ?_
            refine a_aload_n X dX7_unit_65 rfl ?_
            refine a_getr X lf7_26 (by assumption) rfl (by omega) dX7_unit_66 ?_
            refine a_getr X lf7_158 (by assumption) rfl (by omega) dX7_unit_69 ?_
            refine a_iload_n X dX7_unit_72 rfl ?_
            refine a_callSv X dX7_unit_73 miX7_cell lm7_175 (c_cell (by assumption) (by first | decide | assumption)) rfl rfl (Nat.le_of_ble_eq_true rfl) ⟨by decide, by decide, by decide, by decide⟩ ?_
            obtain ⟨e_76, f_76, h⟩ := zBx h
            refine a_callVv X dX7_unit_76 miX7_answer lm7_134 (t_X7_answer (by assumption) f_76) (by assumption) rfl rfl rfl (Nat.le_of_ble_eq_true rfl) ⟨by decide, by decide, by decide, by decide⟩ ?_
            refine a_iret X hr dX7_unit_79 ⟨by decide, by decide⟩ ?_
            subst hF
            rw [← Option.some.inj h]
            exact ⟨rfl, rfl⟩
          | 1, ht_30, hx_30 =>
            cases ht_30
            replace h := (if_neg (by omega)).symm.trans h
            replace h := (if_pos (by omega)).symm.trans h
            refine a_aload_n X dX7_unit_80 rfl ?_
            refine a_aload_n X dX7_unit_81 rfl ?_
            refine a_getr X lf7_40 (by assumption) rfl (by omega) dX7_unit_82 ?_
            refine a_getr X lf7_191 (by assumption) rfl (by omega) dX7_unit_85 ?_
            refine a_iload_n X dX7_unit_88 rfl ?_
            refine a_callSv X dX7_unit_89 miX7_cell lm7_175 (c_cell (by assumption) (by first | decide | assumption)) rfl rfl (Nat.le_of_ble_eq_true rfl) ⟨by decide, by decide, by decide, by decide⟩ ?_
            obtain ⟨e_92, f_92, h⟩ := zBx h
            refine a_callVv X dX7_unit_92 miX7_answer lm7_134 (t_X7_answer (by assumption) f_92) (by assumption) rfl rfl rfl (Nat.le_of_ble_eq_true rfl) ⟨by decide, by decide, by decide, by decide⟩ ?_
            refine a_iret X hr dX7_unit_95 ⟨by decide, by decide⟩ ?_
            subst hF
            rw [← Option.some.inj h]
            exact ⟨rfl, rfl⟩
          | 2, ht_30, hx_30 =>
            cases ht_30
            replace h := (if_neg (by omega)).symm.trans h
            replace h := (if_neg (by omega)).symm.trans h
            replace h := (if_pos (by omega)).symm.trans h
            refine a_aload_n X dX7_unit_96 rfl ?_
            refine a_aload_n X dX7_unit_97 rfl ?_
            refine a_getr X lf7_40 (by assumption) rfl (by omega) dX7_unit_98 ?_
            refine a_getr X lf7_194 (by assumption) rfl (by omega) dX7_unit_101 ?_
            refine a_iload_n X dX7_unit_104 rfl ?_
            refine a_callSv X dX7_unit_105 miX7_cell lm7_175 (c_cell (by assumption) (by first | decide | assumption)) rfl rfl (Nat.le_of_ble_eq_true rfl) ⟨by decide, by decide, by decide, by decide⟩ ?_
            obtain ⟨e_108, f_108, h⟩ := zBx h
            refine a_callVv X dX7_unit_108 miX7_answer lm7_134 (t_X7_answer (by assumption) f_108) (by assumption) rfl rfl rfl (Nat.le_of_ble_eq_true rfl) ⟨by decide, by decide, by decide, by decide⟩ ?_
            refine a_iret X hr dX7_unit_111 ⟨by decide, by decide⟩ ?_
            subst hF
            rw [← Option.some.inj h]
            exact ⟨rfl, rfl⟩
          | 3, ht_30, hx_30 =>
            cases ht_30
            replace h := (if_neg (by omega)).symm.trans h
            replace h := (if_neg (by omega)).symm.trans h
            replace h := (if_neg (by omega)).symm.trans h
            replace h := (if_pos (by omega)).symm.trans h
            refine a_aload_n X dX7_unit_112 rfl ?_
            refine a_aload_n X dX7_unit_113 rfl ?_
            refine a_getr X lf7_40 (by assumption) rfl (by omega) dX7_unit_114 ?_
            refine a_iload_n X dX7_unit_117 rfl ?_
            obtain ⟨e_118, f_118, h⟩ := zBx h
            refine a_callVv X dX7_unit_118 miX2_firstApplicants lm7_197 (t_X2_firstApplicants (by assumption) f_118) (by assumption) rfl rfl rfl (Nat.le_of_ble_eq_true rfl) ⟨by decide, by decide, by decide, by decide⟩ ?_
            obtain ⟨e_121, f_121, h⟩ := zBx h
            refine a_callVv X dX7_unit_121 miX7_answer lm7_134 (t_X7_answer (by assumption) f_121) (by assumption) rfl rfl rfl (Nat.le_of_ble_eq_true rfl) ⟨by decide, by decide, by decide, by decide⟩ ?_
            refine a_iret X hr dX7_unit_124 ⟨by decide, by decide⟩ ?_
            subst hF
            rw [← Option.some.inj h]
            exact ⟨rfl, rfl⟩
          | 4, ht_30, hx_30 =>
            cases ht_30
            replace h := (if_neg (by omega)).symm.trans h
            replace h := (if_neg (by omega)).symm.trans h
            replace h := (if_neg (by omega)).symm.trans h
            replace h := (if_neg (by omega)).symm.trans h
            replace h := (if_pos (by omega)).symm.trans h
            refine a_aload_n X dX7_unit_125 rfl ?_
            refine a_aload_n X dX7_unit_126 rfl ?_
            refine a_getr X lf7_40 (by assumption) rfl (by omega) dX7_unit_127 ?_
            refine a_iload_n X dX7_unit_130 rfl ?_
            obtain ⟨e_131, f_131, h⟩ := zBx h
            refine a_callVv X dX7_unit_131 miX2_firstHunters lm7_200 (t_X2_firstHunters (by assumption) f_131) (by assumption) rfl rfl rfl (Nat.le_of_ble_eq_true rfl) ⟨by decide, by decide, by decide, by decide⟩ ?_
            obtain ⟨e_134, f_134, h⟩ := zBx h
            refine a_callVv X dX7_unit_134 miX7_answer lm7_134 (t_X7_answer (by assumption) f_134) (by assumption) rfl rfl rfl (Nat.le_of_ble_eq_true rfl) ⟨by decide, by decide, by decide, by decide⟩ ?_
            refine a_iret X hr dX7_unit_137 ⟨by decide, by decide⟩ ?_
            subst hF
            rw [← Option.some.inj h]
            exact ⟨rfl, rfl⟩
        · skip
          replace h := (if_neg (by omega)).symm.trans h
          replace h := (if_neg (by omega)).symm.trans h
          replace h := (if_neg (by omega)).symm.trans h
          replace h := (if_neg (by omega)).symm.trans h
          replace h := (if_neg (by omega)).symm.trans h
          refine a_aload_n X dX7_unit_138 rfl ?_
          refine a_aload_n X dX7_unit_139 rfl ?_
          refine a_getr X lf7_40 (by assumption) rfl (by omega) dX7_unit_140 ?_
          refine a_iload_n X dX7_unit_143 rfl ?_
          obtain ⟨e_144, f_144, h⟩ := zBx h
          refine a_callVv X dX7_unit_144 miX2_askers lm7_203 (t_X2_askers (by assumption) f_144) (by assumption) rfl rfl rfl (Nat.le_of_ble_eq_true rfl) ⟨by decide, by decide, by decide, by decide⟩ ?_
          obtain ⟨e_147, f_147, h⟩ := zBx h
          refine a_callVv X dX7_unit_147 miX7_answer lm7_134 (t_X7_answer (by assumption) f_147) (by assumption) rfl rfl rfl (Nat.le_of_ble_eq_true rfl) ⟨by decide, by decide, by decide, by decide⟩ ?_
          refine a_iret X hr dX7_unit_150 ⟨by decide, by decide⟩ ?_
          subst hF
          rw [← Option.some.inj h]
          exact ⟨rfl, rfl⟩
      · replace h := (if_pos h_20).symm.trans h
        refine a_aload_n X dX7_unit_23 rfl ?_
        refine a_iconst (v := 2) X dX7_unit_24 (by decide) ?_
        obtain ⟨e_25, f_25, h⟩ := zBx h
        refine a_callVv X dX7_unit_25 miX7_refuse lm7_102 (t_X7_refuse (by assumption) f_25) (by assumption) rfl rfl rfl (Nat.le_of_ble_eq_true rfl) ⟨by decide, by decide, by decide, by decide⟩ ?_
        refine a_iret X hr dX7_unit_28 ⟨by decide, by decide⟩ ?_
        subst hF
        rw [← Option.some.inj h]
        exact ⟨rfl, rfl⟩
    · replace h := (if_neg h_6).symm.trans h
      exact Zw.to2 (J_9 _ _ _ h) rfl rfl rfl
noncomputable def D_X7_isApplicant_20 (P : Nat) (M : zMt) (y0_20 : Int32) : Option (Int32) :=
  some (y0_20)
noncomputable def D_X7_isApplicant_19 (P : Nat) (M : zMt)  : Option (Int32) :=
  D_X7_isApplicant_20 P M (0 : Int32)
noncomputable def D_X7_isApplicant (P : Nat) (M : zMt) (v0 : Int32) : Option (Int32) :=
  if v0 < 0 then
    D_X7_isApplicant_19 P M
  else
    if (M (P + 91) 1) ≤ v0 then
      D_X7_isApplicant_19 P M
    else
      D_X7_isApplicant_20 P M (1 : Int32)
set_option maxRecDepth 100000 in
set_option maxHeartbeats 4000000 in
theorem t_X7_isApplicant {l : Launch} {G : zG} {b : Nat} {L : List zC} {M : zMt} {N : zNt} {P : Nat} {v0 : Int32} (hP : LX7 L P) {r : Int32} (h : D_X7_isApplicant P M v0 = some r) : zM l G b yX7_isApplicant cX7_isApplicant 2 (some .boolean) 0 0 0 [.ref P, .int v0] (L, M, N) (fun r2 z => r2 = some (.int r) ∧ z = (L, M, N) ∧ (r = 0 ∨ r = 1)) := by
  refine zM.of miX7_isApplicant (Nat.le_of_ble_eq_true rfl) ?_
  intro p e s m args below meth c X hr hname
  generalize hF : ((fun r2 z => r2 = some (.int r) ∧ z = (L, M, N) ∧ (r = 0 ∨ r = 1)) : Option Value → zS → Prop) = FQ
  change Zw p l e { frames := 0, cells := 0, slots := 0, locals := 80 * (0) } s m args below meth c G b 2 (MQ below (zQ G b FQ) args s 0 0 (fun q : Nat => b ≤ q)) 0 0 0 [some (.ref P), some (.int v0)] [] (L, M, N)
  obtain ⟨p_lt, p_o, p_tape, p_out, p_reader, p_list, p_past, p_pool, p_result, p_odds, p_paper, p_trial, p_trialPool, p_trialResult, p_trialOdds⟩ := id hP
  obtain ⟨p_reader_lt, p_reader_o, p_reader_draft, p_reader_text, p_reader_unitNames, p_reader_hunterNames, p_reader_partyNames, p_reader_asked⟩ := id p_reader
  obtain ⟨p_list_lt, p_list_o, p_list_quota, p_list_score, p_list_guest, p_list_party, p_list_wishCount, p_list_wishes, p_list_has⟩ := id p_list
  obtain ⟨p_past_lt, p_past_o, p_past_stood, p_past_stood0, p_past_stood1, p_past_stood2, p_past_stood3, p_past_stood4, p_past_stood5, p_past_stood6, p_past_stood7⟩ := id p_past
  obtain ⟨p_pool_lt, p_pool_o, p_pool_quota, p_pool_preferred, p_pool_forGuests, p_pool_applicantOf, p_pool_size, p_pool_guestCount, p_pool_score, p_pool_tickets, p_pool_bits, p_pool_party, p_pool_wishCount, p_pool_wishes⟩ := id p_pool
  obtain ⟨p_result_lt, p_result_o, p_result_line, p_result_unitOf, p_result_roundOf, p_result_leftTags, p_result_leftGuests, p_result_leftPreferred, p_result_ranked⟩ := id p_result
  obtain ⟨p_odds_lt, p_odds_o, p_odds_sets, p_odds_seen, p_odds_atUnit, p_odds_early, p_odds_result⟩ := id p_odds
  obtain ⟨p_paper_lt, p_paper_o, p_paper_times, p_paper_firstWish, p_paper_dry, p_paper_list, p_paper_pool, p_paper_result⟩ := id p_paper
  obtain ⟨p_trial_lt, p_trial_o, p_trial_quota, p_trial_score, p_trial_guest, p_trial_party, p_trial_wishCount, p_trial_wishes, p_trial_has⟩ := id p_trial
  obtain ⟨p_trialPool_lt, p_trialPool_o, p_trialPool_quota, p_trialPool_preferred, p_trialPool_forGuests, p_trialPool_applicantOf, p_trialPool_size, p_trialPool_guestCount, p_trialPool_score, p_trialPool_tickets, p_trialPool_bits, p_trialPool_party, p_trialPool_wishCount, p_trialPool_wishes⟩ := id p_trialPool
  obtain ⟨p_trialResult_lt, p_trialResult_o, p_trialResult_line, p_trialResult_unitOf, p_trialResult_roundOf, p_trialResult_leftTags, p_trialResult_leftGuests, p_trialResult_leftPreferred, p_trialResult_ranked⟩ := id p_trialResult
  obtain ⟨p_trialOdds_lt, p_trialOdds_o, p_trialOdds_sets, p_trialOdds_seen, p_trialOdds_atUnit, p_trialOdds_early, p_trialOdds_result⟩ := id p_trialOdds
  have J_20 : ∀ (x1_20 : Int32) (y0_20 : Int32), (y0_20 = 0 ∨ y0_20 = 1) → D_X7_isApplicant_20 P M y0_20 = some r → Zw p l e { frames := 0, cells := 0, slots := 0, locals := 80 * (0) } s m args below meth c G b 2 (MQ below (zQ G b FQ) args s 0 0 (fun q : Nat => b ≤ q)) 0 0 20 [some (.ref (P)), some (.int x1_20)] [.int y0_20] (L, M, N) := by
    intro x1_20 y0_20 fb_y0_20 h
    unfold D_X7_isApplicant_20 at h
    refine a_zret X (by first | exact Or.inl rfl | exact Or.inr rfl | assumption) hr dX7_isApplicant_20 ⟨by decide, by decide⟩ ?_
    subst hF
    rw [← Option.some.inj h]
    exact ⟨rfl, rfl, (by first | exact Or.inl rfl | exact Or.inr rfl | assumption)⟩
  have J_19 : ∀ (x1_19 : Int32), D_X7_isApplicant_19 P M = some r → Zw p l e { frames := 0, cells := 0, slots := 0, locals := 80 * (0) } s m args below meth c G b 2 (MQ below (zQ G b FQ) args s 0 0 (fun q : Nat => b ≤ q)) 0 0 19 [some (.ref (P)), some (.int x1_19)] [] (L, M, N) := by
    intro x1_19 h
    unfold D_X7_isApplicant_19 at h
    refine a_iconst (v := 0) X dX7_isApplicant_19 (by decide) ?_
    exact Zw.to2 (J_20 _ _ (by first | exact Or.inl rfl | exact Or.inr rfl | assumption) h) rfl rfl rfl
  unfold D_X7_isApplicant at h
  refine a_iload_n X dX7_isApplicant_0 rfl ?_
  refine a_if_lt (tgt := 19) X dX7_isApplicant_1 (by decide) (fun h_1 => ?_) (fun h_1 => ?_)
  · replace h := (if_pos h_1).symm.trans h
    exact Zw.to2 (J_19 _ h) rfl rfl rfl
  · replace h := (if_neg h_1).symm.trans h
    refine a_iload_n X dX7_isApplicant_4 rfl ?_
    refine a_aload_n X dX7_isApplicant_5 rfl ?_
    refine a_getr X lf7_40 (by assumption) rfl (by omega) dX7_isApplicant_6 ?_
    refine a_geti X lf7_140 (by assumption) rfl dX7_isApplicant_9 ?_
    refine a_icmp_ge (tgt := 19) X dX7_isApplicant_12 (by decide) (fun h_12 => ?_) (fun h_12 => ?_)
    · replace h := (if_pos h_12).symm.trans h
      exact Zw.to2 (J_19 _ h) rfl rfl rfl
    · replace h := (if_neg h_12).symm.trans h
      refine a_iconst (v := 1) X dX7_isApplicant_15 (by decide) ?_
      refine a_goto (tgt := 20) X dX7_isApplicant_16 (by decide) ?_
      exact Zw.to2 (J_20 _ _ (by first | exact Or.inl rfl | exact Or.inr rfl | assumption) h) rfl rfl rfl
noncomputable def D_X7_applicant_10 (P : Nat) (M_10 : zMt) : Option (Int32 × zMt) :=
  zB (D_X7_refuse P (1 : Int32) M_10) fun e_12 =>
  some (e_12.1, e_12.2)
noncomputable def D_X7_applicant (P : Nat) (v0 : Int32) (v1 : Int32) (M : zMt) : Option (Int32 × zMt) :=
  if v1 < 0 then
    D_X7_applicant_10 P M
  else
    if v1 ≤ (6 : Int32) then
      zB (D_X7_isApplicant P M v0) fun e_18 =>
      if e_18 = 0 then
        zB (D_X7_refuse P (2 : Int32) M) fun e_26 =>
        some (e_26.1, e_26.2)
      else
        if Int32.toInt v1 = 0 then
          zB (D_X7_answer P (zrd 0 (M (P + 96)) 10 v0) M) fun e_80 =>
          some (e_80.1, e_80.2)
        else
        if Int32.toInt v1 = 1 then
          zB (D_X7_answer P (zrd 0 (M (P + 97)) 10 v0) M) fun e_96 =>
          some (e_96.1, e_96.2)
        else
        if Int32.toInt v1 = 2 then
          zB (D_X7_answer P (zrd 0 (M (P + 98)) 10 v0) M) fun e_112 =>
          some (e_112.1, e_112.2)
        else
        if Int32.toInt v1 = 3 then
          zB (D_X7_answer P (zrd 0 (M (P + 99)) 10 v0) M) fun e_128 =>
          some (e_128.1, e_128.2)
        else
        if Int32.toInt v1 = 4 then
          zB (D_X7_answer P (zrd 0 (M (P + 102)) 10 v0) M) fun e_144 =>
          some (e_144.1, e_144.2)
        else
        if Int32.toInt v1 = 5 then
          zB (D_X7_answer P (zrd 0 (M (P + 100)) 10 v0) M) fun e_160 =>
          some (e_160.1, e_160.2)
        else
          zB (D_X7_answer P (zrd 0 (M (P + 101)) 10 v0) M) fun e_176 =>
          some (e_176.1, e_176.2)
    else
      D_X7_applicant_10 P M
set_option maxRecDepth 100000 in
set_option maxHeartbeats 4000000 in
theorem t_X7_applicant {l : Launch} {G : zG} {b : Nat} {L : List zC} {M : zMt} {N : zNt} {P : Nat} {v0 : Int32} {v1 : Int32} (hP : LX7 L P) {r : Int32 × zMt} (h : D_X7_applicant P v0 v1 M = some r) : zM l G b yX7_applicant cX7_applicant 3 (some .int) 1 0 0 [.ref P, .int v0, .int v1] (L, M, N) (fun r2 z => r2 = some (.int r.1) ∧ z = (L, r.2, N)) := by
  refine zM.of miX7_applicant (Nat.le_of_ble_eq_true rfl) ?_
  intro p e s m args below meth c X hr hname
  generalize hF : ((fun r2 z => r2 = some (.int r.1) ∧ z = (L, r.2, N)) : Option Value → zS → Prop) = FQ
  change Zw p l e { frames := 1, cells := 0, slots := 0, locals := 80 * (1) } s m args below meth c G b 3 (MQ below (zQ G b FQ) args s 0 0 (fun q : Nat => b ≤ q)) 0 0 0 [some (.ref P), some (.int v0), some (.int v1)] [] (L, M, N)
  obtain ⟨p_lt, p_o, p_tape, p_out, p_reader, p_list, p_past, p_pool, p_result, p_odds, p_paper, p_trial, p_trialPool, p_trialResult, p_trialOdds⟩ := id hP
  obtain ⟨p_reader_lt, p_reader_o, p_reader_draft, p_reader_text, p_reader_unitNames, p_reader_hunterNames, p_reader_partyNames, p_reader_asked⟩ := id p_reader
  obtain ⟨p_list_lt, p_list_o, p_list_quota, p_list_score, p_list_guest, p_list_party, p_list_wishCount, p_list_wishes, p_list_has⟩ := id p_list
  obtain ⟨p_past_lt, p_past_o, p_past_stood, p_past_stood0, p_past_stood1, p_past_stood2, p_past_stood3, p_past_stood4, p_past_stood5, p_past_stood6, p_past_stood7⟩ := id p_past
  obtain ⟨p_pool_lt, p_pool_o, p_pool_quota, p_pool_preferred, p_pool_forGuests, p_pool_applicantOf, p_pool_size, p_pool_guestCount, p_pool_score, p_pool_tickets, p_pool_bits, p_pool_party, p_pool_wishCount, p_pool_wishes⟩ := id p_pool
  obtain ⟨p_result_lt, p_result_o, p_result_line, p_result_unitOf, p_result_roundOf, p_result_leftTags, p_result_leftGuests, p_result_leftPreferred, p_result_ranked⟩ := id p_result
  obtain ⟨p_odds_lt, p_odds_o, p_odds_sets, p_odds_seen, p_odds_atUnit, p_odds_early, p_odds_result⟩ := id p_odds
  obtain ⟨p_paper_lt, p_paper_o, p_paper_times, p_paper_firstWish, p_paper_dry, p_paper_list, p_paper_pool, p_paper_result⟩ := id p_paper
  obtain ⟨p_trial_lt, p_trial_o, p_trial_quota, p_trial_score, p_trial_guest, p_trial_party, p_trial_wishCount, p_trial_wishes, p_trial_has⟩ := id p_trial
  obtain ⟨p_trialPool_lt, p_trialPool_o, p_trialPool_quota, p_trialPool_preferred, p_trialPool_forGuests, p_trialPool_applicantOf, p_trialPool_size, p_trialPool_guestCount, p_trialPool_score, p_trialPool_tickets, p_trialPool_bits, p_trialPool_party, p_trialPool_wishCount, p_trialPool_wishes⟩ := id p_trialPool
  obtain ⟨p_trialResult_lt, p_trialResult_o, p_trialResult_line, p_trialResult_unitOf, p_trialResult_roundOf, p_trialResult_leftTags, p_trialResult_leftGuests, p_trialResult_leftPreferred, p_trialResult_ranked⟩ := id p_trialResult
  obtain ⟨p_trialOdds_lt, p_trialOdds_o, p_trialOdds_sets, p_trialOdds_seen, p_trialOdds_atUnit, p_trialOdds_early, p_trialOdds_result⟩ := id p_trialOdds
  have J_10 : ∀ (x1_10 : Int32) (x2_10 : Int32) (M_10 : zMt), D_X7_applicant_10 P M_10 = some r → Zw p l e { frames := 1, cells := 0, slots := 0, locals := 80 * (1) } s m args below meth c G b 3 (MQ below (zQ G b FQ) args s 0 0 (fun q : Nat => b ≤ q)) 0 0 10 [some (.ref (P)), some (.int x1_10), some (.int x2_10)] [] (L, M_10, N) := by
    intro x1_10 x2_10 M_10 h
    unfold D_X7_applicant_10 at h
    refine a_aload_n X dX7_applicant_10 rfl ?_
    refine a_iconst (v := 1) X dX7_applicant_11 (by decide) ?_
    obtain ⟨e_12, f_12, h⟩ := zBx h
    refine a_callVv X dX7_applicant_12 miX7_refuse lm7_102 (t_X7_refuse (by assumption) f_12) (by assumption) rfl rfl rfl (Nat.le_of_ble_eq_true rfl) ⟨by decide, by decide, by decide, by decide⟩ ?_
    refine a_iret X hr dX7_applicant_15 ⟨by decide, by decide⟩ ?_
    subst hF
    rw [← Option.some.inj h]
    exact ⟨rfl, rfl⟩
  unfold D_X7_applicant at h
  refine a_iload_n X dX7_applicant_0 rfl ?_
  refine a_if_lt (tgt := 10) X dX7_applicant_1 (by decide) (fun h_1 => ?_) (fun h_1 => ?_)
  · replace h := (if_pos h_1).symm.trans h
    exact Zw.to2 (J_10 _ _ _ h) rfl rfl rfl
  · replace h := (if_neg h_1).symm.trans h
    refine a_iload_n X dX7_applicant_4 rfl ?_
    refine a_bipush (v := 6) X dX7_applicant_5 (by decide) ?_
    refine a_icmp_le (tgt := 16) X dX7_applicant_7 (by decide) (fun h_7 => ?_) (fun h_7 => ?_)
    · replace h := (if_pos h_7).symm.trans h
      refine a_aload_n X dX7_applicant_16 rfl ?_
      refine a_iload_n X dX7_applicant_17 rfl ?_
      obtain ⟨e_18, f_18, h⟩ := zBx h
      refine a_callVx X dX7_applicant_18 miX7_isApplicant lm7_206 (t_X7_isApplicant (by assumption) f_18) (by assumption) rfl rfl rfl (Nat.le_of_ble_eq_true rfl) ⟨by decide, by decide, by decide, by decide⟩ (fun r_18 S_18 q_18 => ?_)
      obtain ⟨rfl, rfl, b_18⟩ := q_18
      refine a_if_ne (tgt := 30) X dX7_applicant_21 (by decide) (fun h_21 => ?_) (fun h_21 => ?_)
      · replace h := (if_neg h_21).symm.trans h
        refine a_iload_n X dX7_applicant_30 rfl ?_
        refine a_tsw (tg := [68, 84, 100, 116, 132, 148]) (td := 164) X dX7_applicant_31 (by decide +kernel) (by decide) (by decide) (fun k_31 t_31 ht_31 hx_31 => ?_) (fun hx_31 => ?_)
        · match k_31, ht_31, hx_31 with
          | 0, ht_31, hx_31 =>
            cases ht_31
            replace h := (if_pos (by omega)).symm.trans h
            refine a_aload_n X dX7_applicant_68 rfl ?_
            refine a_aload_n X dX7_applicant_69 rfl ?_
            refine a_getr X lf7_40 (by assumption) rfl (by omega) dX7_applicant_70 ?_
            refine a_getr X lf7_209 (by assumption) rfl (by omega) dX7_applicant_73 ?_
            refine a_iload_n X dX7_applicant_76 rfl ?_
            refine a_callSv X dX7_applicant_77 miX7_cell lm7_175 (c_cell (by assumption) (by first | decide | assumption)) rfl rfl (Nat.le_of_ble_eq_true rfl) ⟨by decide, by decide, by decide, by decide⟩ ?_
            obtain ⟨e_80, f_80, h⟩ := zBx h
            refine a_callVv X dX7_applicant_80 miX7_answer lm7_134 (t_X7_answer (by assumption) f_80) (by assumption) rfl rfl rfl (Nat.le_of_ble_eq_true rfl) ⟨by decide, by decide, by decide, by decide⟩ ?_
            refine a_iret X hr dX7_applicant_83 ⟨by decide, by decide⟩ ?_
            subst hF
            rw [← Option.some.inj h]
            exact ⟨rfl, rfl⟩
          | 1, ht_31, hx_31 =>
            cases ht_31
            replace h := (if_neg (by omega)).symm.trans h
            replace h := (if_pos (by omega)).symm.trans h
            refine a_aload_n X dX7_applicant_84 rfl ?_
            refine a_aload_n X dX7_applicant_85 rfl ?_
            refine a_getr X lf7_40 (by assumption) rfl (by omega) dX7_applicant_86 ?_
            refine a_getr X lf7_212 (by assumption) rfl (by omega) dX7_applicant_89 ?_
            refine a_iload_n X dX7_applicant_92 rfl ?_
            refine a_callSv X dX7_applicant_93 miX7_cell lm7_175 (c_cell (by assumption) (by first | decide | assumption)) rfl rfl (Nat.le_of_ble_eq_true rfl) ⟨by decide, by decide, by decide, by decide⟩ ?_
            obtain ⟨e_96, f_96, h⟩ := zBx h
            refine a_callVv X dX7_applicant_96 miX7_answer lm7_134 (t_X7_answer (by assumption) f_96) (by assumption) rfl rfl rfl (Nat.le_of_ble_eq_true rfl) ⟨by decide, by decide, by decide, by decide⟩ ?_
            refine a_iret X hr dX7_applicant_99 ⟨by decide, by decide⟩ ?_
            subst hF
            rw [← Option.some.inj h]
            exact ⟨rfl, rfl⟩
          | 2, ht_31, hx_31 =>
            cases ht_31
            replace h := (if_neg (by omega)).symm.trans h
            replace h := (if_neg (by omega)).symm.trans h
            replace h := (if_pos (by omega)).symm.trans h
            refine a_aload_n X dX7_applicant_100 rfl ?_
            refine a_aload_n X dX7_applicant_101 rfl ?_
            refine a_getr X lf7_40 (by assumption) rfl (by omega) dX7_applicant_102 ?_
            refine a_getr X lf7_215 (by assumption) rfl (by omega) dX7_applicant_105 ?_
            refine a_iload_n X dX7_applicant_108 rfl ?_
            refine a_callSv X dX7_applicant_109 miX7_cell lm7_175 (c_cell (by assumption) (by first | decide | assumption)) rfl rfl (Nat.le_of_ble_eq_true rfl) ⟨by decide, by decide, by decide, by decide⟩ ?_
            obtain ⟨e_112, f_112, h⟩ := zBx h
            refine a_callVv X dX7_applicant_112 miX7_answer lm7_134 (t_X7_answer (by assumption) f_112) (by assumption) rfl rfl rfl (Nat.le_of_ble_eq_true rfl) ⟨by decide, by decide, by decide, by decide⟩ ?_
            refine a_iret X hr dX7_applicant_115 ⟨by decide, by decide⟩ ?_
            subst hF
            rw [← Option.some.inj h]
            exact ⟨rfl, rfl⟩
          | 3, ht_31, hx_31 =>
            cases ht_31
            replace h := (if_neg (by omega)).symm.trans h
            replace h := (if_neg (by omega)).symm.trans h
            replace h := (if_neg (by omega)).symm.trans h
            replace h := (if_pos (by omega)).symm.trans h
            refine a_aload_n X dX7_applicant_116 rfl ?_
            refine a_aload_n X dX7_applicant_117 rfl ?_
            refine a_getr X lf7_40 (by assumption) rfl (by omega) dX7_applicant_118 ?_
            refine a_getr X lf7_216 (by assumption) rfl (by omega) dX7_applicant_121 ?_
            refine a_iload_n X dX7_applicant_124 rfl ?_
            refine a_callSv X dX7_applicant_125 miX7_cell lm7_175 (c_cell (by assumption) (by first | decide | assumption)) rfl rfl (Nat.le_of_ble_eq_true rfl) ⟨by decide, by decide, by decide, by decide⟩ ?_
            obtain ⟨e_128, f_128, h⟩ := zBx h
            refine a_callVv X dX7_applicant_128 miX7_answer lm7_134 (t_X7_answer (by assumption) f_128) (by assumption) rfl rfl rfl (Nat.le_of_ble_eq_true rfl) ⟨by decide, by decide, by decide, by decide⟩ ?_
            refine a_iret X hr dX7_applicant_131 ⟨by decide, by decide⟩ ?_
            subst hF
            rw [← Option.some.inj h]
            exact ⟨rfl, rfl⟩
          | 4, ht_31, hx_31 =>
            cases ht_31
            replace h := (if_neg (by omega)).symm.trans h
            replace h := (if_neg (by omega)).symm.trans h
            replace h := (if_neg (by omega)).symm.trans h
            replace h := (if_neg (by omega)).symm.trans h
            replace h := (if_pos (by omega)).symm.trans h
            refine a_aload_n X dX7_applicant_132 rfl ?_
            refine a_aload_n X dX7_applicant_133 rfl ?_
            refine a_getr X lf7_40 (by assumption) rfl (by omega) dX7_applicant_134 ?_
            refine a_getr X lf7_219 (by assumption) rfl (by omega) dX7_applicant_137 ?_
            refine a_iload_n X dX7_applicant_140 rfl ?_
            refine a_callSv X dX7_applicant_141 miX7_cell lm7_175 (c_cell (by assumption) (by first | decide | assumption)) rfl rfl (Nat.le_of_ble_eq_true rfl) ⟨by decide, by decide, by decide, by decide⟩ ?_
            obtain ⟨e_144, f_144, h⟩ := zBx h
            refine a_callVv X dX7_applicant_144 miX7_answer lm7_134 (t_X7_answer (by assumption) f_144) (by assumption) rfl rfl rfl (Nat.le_of_ble_eq_true rfl) ⟨by decide, by decide, by decide, by decide⟩ ?_
            refine a_iret X hr dX7_applicant_147 ⟨by decide, by decide⟩ ?_
            subst hF
            rw [← Option.some.inj h]
            exact ⟨rfl, rfl⟩
          | 5, ht_31, hx_31 =>
            cases ht_31
            replace h := (if_neg (by omega)).symm.trans h
            replace h := (if_neg (by omega)).symm.trans h
            replace h := (if_neg (by omega)).symm.trans h
            replace h := (if_neg (by omega)).symm.trans h
            replace h := (if_neg (by omega)).symm.trans h
            replace h := (if_pos (by omega)).symm.trans h
            refine a_aload_n X dX7_applicant_148 rfl ?_
            refine a_aload_n X dX7_applicant_149 rfl ?_
            refine a_getr X lf7_40 (by assumption) rfl (by omega) dX7_applicant_150 ?_
            refine a_getr X lf7_222 (by assumption) rfl (by omega) dX7_applicant_153 ?_
            refine a_iload_n X dX7_applicant_156 rfl ?_
            refine a_callSv X dX7_applicant_157 miX7_cell lm7_175 (c_cell (by assumption) (by first | decide | assumption)) rfl rfl (Nat.le_of_ble_eq_true rfl) ⟨by decide, by decide, by decide, by decide⟩ ?_
            obtain ⟨e_160, f_160, h⟩ := zBx h
            refine a_callVv X dX7_applicant_160 miX7_answer lm7_134 (t_X7_answer (by assumption) f_160) (by assumption) rfl rfl rfl (Nat.le_of_ble_eq_true rfl) ⟨by decide, by decide, by decide, by decide⟩ ?_
            refine a_iret X hr dX7_applicant_163 ⟨by decide, by decide⟩ ?_
            subst hF
            rw [← Option.some.inj h]
            exact ⟨rfl, rfl⟩
        · skip
          replace h := (if_neg (by omega)).symm.trans h
          replace h := (if_neg (by omega)).symm.trans h
          replace h := (if_neg (by omega)).symm.trans h
          replace h := (if_neg (by omega)).symm.trans h
          replace h := (if_neg (by omega)).symm.trans h
          replace h := (if_neg (by omega)).symm.trans h
          refine a_aload_n X dX7_applicant_164 rfl ?_
          refine a_aload_n X dX7_applicant_165 rfl ?_
          refine a_getr X lf7_40 (by assumption) rfl (by omega) dX7_applicant_166 ?_
          refine a_getr X lf7_225 (by assumption) rfl (by omega) dX7_applicant_169 ?_
          refine a_iload_n X dX7_applicant_172 rfl ?_
          refine a_callSv X dX7_applicant_173 miX7_cell lm7_175 (c_cell (by assumption) (by first | decide | assumption)) rfl rfl (Nat.le_of_ble_eq_true rfl) ⟨by decide, by decide, by decide, by decide⟩ ?_
          obtain ⟨e_176, f_176, h⟩ := zBx h
          refine a_callVv X dX7_applicant_176 miX7_answer lm7_134 (t_X7_answer (by assumption) f_176) (by assumption) rfl rfl rfl (Nat.le_of_ble_eq_true rfl) ⟨by decide, by decide, by decide, by decide⟩ ?_
          refine a_iret X hr dX7_applicant_179 ⟨by decide, by decide⟩ ?_
          subst hF
          rw [← Option.some.inj h]
          exact ⟨rfl, rfl⟩
      · replace h := (if_pos h_21).symm.trans h
        refine a_aload_n X dX7_applicant_24 rfl ?_
        refine a_iconst (v := 2) X dX7_applicant_25 (by decide) ?_
        obtain ⟨e_26, f_26, h⟩ := zBx h
        refine a_callVv X dX7_applicant_26 miX7_refuse lm7_102 (t_X7_refuse (by assumption) f_26) (by assumption) rfl rfl rfl (Nat.le_of_ble_eq_true rfl) ⟨by decide, by decide, by decide, by decide⟩ ?_
        refine a_iret X hr dX7_applicant_29 ⟨by decide, by decide⟩ ?_
        subst hF
        rw [← Option.some.inj h]
        exact ⟨rfl, rfl⟩
    · replace h := (if_neg h_7).symm.trans h
      exact Zw.to2 (J_10 _ _ _ h) rfl rfl rfl
noncomputable def D_X7_choice (P : Nat) (v0 : Int32) (v1 : Int32) (M : zMt) : Option (Int32 × zMt) :=
  if 0 ≤ v1 then
    zB (D_X7_isApplicant P M v0) fun e_12 =>
    if e_12 = 0 then
      zB (D_X7_refuse P (2 : Int32) M) fun e_20 =>
      some (e_20.1, e_20.2)
    else
      if v1 < (zrd 0 (M (P + 102)) 10 v0) then
        zB (D_X2_wish (P + 91) M v0 v1) fun e_52 =>
        zB (D_X7_answer P e_52 M) fun e_55 =>
        some (e_55.1, e_55.2)
      else
        zB (D_X7_refuse P (5 : Int32) M) fun e_41 =>
        some (e_41.1, e_41.2)
  else
    zB (D_X7_refuse P (1 : Int32) M) fun e_6 =>
    some (e_6.1, e_6.2)
set_option maxRecDepth 100000 in
set_option maxHeartbeats 4000000 in
theorem t_X7_choice {l : Launch} {G : zG} {b : Nat} {L : List zC} {M : zMt} {N : zNt} {P : Nat} {v0 : Int32} {v1 : Int32} (hP : LX7 L P) {r : Int32 × zMt} (h : D_X7_choice P v0 v1 M = some r) : zM l G b yX7_choice cX7_choice 3 (some .int) 2 0 0 [.ref P, .int v0, .int v1] (L, M, N) (fun r2 z => r2 = some (.int r.1) ∧ z = (L, r.2, N)) := by
  refine zM.of miX7_choice (Nat.le_of_ble_eq_true rfl) ?_
  intro p e s m args below meth c X hr hname
  generalize hF : ((fun r2 z => r2 = some (.int r.1) ∧ z = (L, r.2, N)) : Option Value → zS → Prop) = FQ
  change Zw p l e { frames := 2, cells := 0, slots := 0, locals := 80 * (2) } s m args below meth c G b 3 (MQ below (zQ G b FQ) args s 0 0 (fun q : Nat => b ≤ q)) 0 0 0 [some (.ref P), some (.int v0), some (.int v1)] [] (L, M, N)
  obtain ⟨p_lt, p_o, p_tape, p_out, p_reader, p_list, p_past, p_pool, p_result, p_odds, p_paper, p_trial, p_trialPool, p_trialResult, p_trialOdds⟩ := id hP
  obtain ⟨p_reader_lt, p_reader_o, p_reader_draft, p_reader_text, p_reader_unitNames, p_reader_hunterNames, p_reader_partyNames, p_reader_asked⟩ := id p_reader
  obtain ⟨p_list_lt, p_list_o, p_list_quota, p_list_score, p_list_guest, p_list_party, p_list_wishCount, p_list_wishes, p_list_has⟩ := id p_list
  obtain ⟨p_past_lt, p_past_o, p_past_stood, p_past_stood0, p_past_stood1, p_past_stood2, p_past_stood3, p_past_stood4, p_past_stood5, p_past_stood6, p_past_stood7⟩ := id p_past
  obtain ⟨p_pool_lt, p_pool_o, p_pool_quota, p_pool_preferred, p_pool_forGuests, p_pool_applicantOf, p_pool_size, p_pool_guestCount, p_pool_score, p_pool_tickets, p_pool_bits, p_pool_party, p_pool_wishCount, p_pool_wishes⟩ := id p_pool
  obtain ⟨p_result_lt, p_result_o, p_result_line, p_result_unitOf, p_result_roundOf, p_result_leftTags, p_result_leftGuests, p_result_leftPreferred, p_result_ranked⟩ := id p_result
  obtain ⟨p_odds_lt, p_odds_o, p_odds_sets, p_odds_seen, p_odds_atUnit, p_odds_early, p_odds_result⟩ := id p_odds
  obtain ⟨p_paper_lt, p_paper_o, p_paper_times, p_paper_firstWish, p_paper_dry, p_paper_list, p_paper_pool, p_paper_result⟩ := id p_paper
  obtain ⟨p_trial_lt, p_trial_o, p_trial_quota, p_trial_score, p_trial_guest, p_trial_party, p_trial_wishCount, p_trial_wishes, p_trial_has⟩ := id p_trial
  obtain ⟨p_trialPool_lt, p_trialPool_o, p_trialPool_quota, p_trialPool_preferred, p_trialPool_forGuests, p_trialPool_applicantOf, p_trialPool_size, p_trialPool_guestCount, p_trialPool_score, p_trialPool_tickets, p_trialPool_bits, p_trialPool_party, p_trialPool_wishCount, p_trialPool_wishes⟩ := id p_trialPool
  obtain ⟨p_trialResult_lt, p_trialResult_o, p_trialResult_line, p_trialResult_unitOf, p_trialResult_roundOf, p_trialResult_leftTags, p_trialResult_leftGuests, p_trialResult_leftPreferred, p_trialResult_ranked⟩ := id p_trialResult
  obtain ⟨p_trialOdds_lt, p_trialOdds_o, p_trialOdds_sets, p_trialOdds_seen, p_trialOdds_atUnit, p_trialOdds_early, p_trialOdds_result⟩ := id p_trialOdds
  unfold D_X7_choice at h
  refine a_iload_n X dX7_choice_0 rfl ?_
  refine a_if_ge (tgt := 10) X dX7_choice_1 (by decide) (fun h_1 => ?_) (fun h_1 => ?_)
  · replace h := (if_pos h_1).symm.trans h
    refine a_aload_n X dX7_choice_10 rfl ?_
    refine a_iload_n X dX7_choice_11 rfl ?_
    obtain ⟨e_12, f_12, h⟩ := zBx h
    refine a_callVx X dX7_choice_12 miX7_isApplicant lm7_206 (t_X7_isApplicant (by assumption) f_12) (by assumption) rfl rfl rfl (Nat.le_of_ble_eq_true rfl) ⟨by decide, by decide, by decide, by decide⟩ (fun r_12 S_12 q_12 => ?_)
    obtain ⟨rfl, rfl, b_12⟩ := q_12
    refine a_if_ne (tgt := 24) X dX7_choice_15 (by decide) (fun h_15 => ?_) (fun h_15 => ?_)
    · replace h := (if_neg h_15).symm.trans h
      refine a_iload_n X dX7_choice_24 rfl ?_
      refine a_aload_n X dX7_choice_25 rfl ?_
      refine a_getr X lf7_40 (by assumption) rfl (by omega) dX7_choice_26 ?_
      refine a_getr X lf7_219 (by assumption) rfl (by omega) dX7_choice_29 ?_
      refine a_iload_n X dX7_choice_32 rfl ?_
      refine a_callSv X dX7_choice_33 miX7_cell lm7_175 (c_cell (by assumption) (by first | decide | assumption)) rfl rfl (Nat.le_of_ble_eq_true rfl) ⟨by decide, by decide, by decide, by decide⟩ ?_
      refine a_icmp_lt (tgt := 45) X dX7_choice_36 (by decide) (fun h_36 => ?_) (fun h_36 => ?_)
      · replace h := (if_pos h_36).symm.trans h
        refine a_aload_n X dX7_choice_45 rfl ?_
        refine a_aload_n X dX7_choice_46 rfl ?_
        refine a_getr X lf7_40 (by assumption) rfl (by omega) dX7_choice_47 ?_
        refine a_iload_n X dX7_choice_50 rfl ?_
        refine a_iload_n X dX7_choice_51 rfl ?_
        obtain ⟨e_52, f_52, h⟩ := zBx h
        refine a_callVv X dX7_choice_52 miX2_wish lm7_226 (t_X2_wish (by assumption) f_52) (by assumption) rfl rfl rfl (Nat.le_of_ble_eq_true rfl) ⟨by decide, by decide, by decide, by decide⟩ ?_
        obtain ⟨e_55, f_55, h⟩ := zBx h
        refine a_callVv X dX7_choice_55 miX7_answer lm7_134 (t_X7_answer (by assumption) f_55) (by assumption) rfl rfl rfl (Nat.le_of_ble_eq_true rfl) ⟨by decide, by decide, by decide, by decide⟩ ?_
        refine a_iret X hr dX7_choice_58 ⟨by decide, by decide⟩ ?_
        subst hF
        rw [← Option.some.inj h]
        exact ⟨rfl, rfl⟩
      · replace h := (if_neg h_36).symm.trans h
        refine a_aload_n X dX7_choice_39 rfl ?_
        refine a_iconst (v := 5) X dX7_choice_40 (by decide) ?_
        obtain ⟨e_41, f_41, h⟩ := zBx h
        refine a_callVv X dX7_choice_41 miX7_refuse lm7_102 (t_X7_refuse (by assumption) f_41) (by assumption) rfl rfl rfl (Nat.le_of_ble_eq_true rfl) ⟨by decide, by decide, by decide, by decide⟩ ?_
        refine a_iret X hr dX7_choice_44 ⟨by decide, by decide⟩ ?_
        subst hF
        rw [← Option.some.inj h]
        exact ⟨rfl, rfl⟩
    · replace h := (if_pos h_15).symm.trans h
      refine a_aload_n X dX7_choice_18 rfl ?_
      refine a_iconst (v := 2) X dX7_choice_19 (by decide) ?_
      obtain ⟨e_20, f_20, h⟩ := zBx h
      refine a_callVv X dX7_choice_20 miX7_refuse lm7_102 (t_X7_refuse (by assumption) f_20) (by assumption) rfl rfl rfl (Nat.le_of_ble_eq_true rfl) ⟨by decide, by decide, by decide, by decide⟩ ?_
      refine a_iret X hr dX7_choice_23 ⟨by decide, by decide⟩ ?_
      subst hF
      rw [← Option.some.inj h]
      exact ⟨rfl, rfl⟩
  · replace h := (if_neg h_1).symm.trans h
    refine a_aload_n X dX7_choice_4 rfl ?_
    refine a_iconst (v := 1) X dX7_choice_5 (by decide) ?_
    obtain ⟨e_6, f_6, h⟩ := zBx h
    refine a_callVv X dX7_choice_6 miX7_refuse lm7_102 (t_X7_refuse (by assumption) f_6) (by assumption) rfl rfl rfl (Nat.le_of_ble_eq_true rfl) ⟨by decide, by decide, by decide, by decide⟩ ?_
    refine a_iret X hr dX7_choice_9 ⟨by decide, by decide⟩ ?_
    subst hF
    rw [← Option.some.inj h]
    exact ⟨rfl, rfl⟩
noncomputable def D_X7_commonDivisor_34  (x2_34 : Int32) : Option (Int32) :=
  some (x2_34)
noncomputable def D_X7_commonDivisor_7  : Nat → Int32 → Int32 → Int32 → Option (Int32)
  | 0, _, _, _ => none
  | n + 1, x2_7, x3_7, x4_7 =>
    if (100 : Int32) ≤ x4_7 then
      D_X7_commonDivisor_34 x2_7
    else
      if x3_7 = 0 then
        D_X7_commonDivisor_34 x2_7
      else
        zZ x3_7 <|
        (D_X7_commonDivisor_7 n) x3_7 (x2_7 - x2_7 / x3_7 * x3_7) (x4_7 + 1)
noncomputable def D_X7_commonDivisor  (v0 : Int32) (v1 : Int32) : Option (Int32) :=
  D_X7_commonDivisor_7 zFu v0 v1 (0 : Int32)
set_option maxRecDepth 100000 in
set_option maxHeartbeats 4000000 in
theorem t_X7_commonDivisor {l : Launch} {G : zG} {b : Nat} {L : List zC} {M : zMt} {N : zNt}  {v0 : Int32} {v1 : Int32}  {r : Int32} (h : D_X7_commonDivisor v0 v1 = some r) : zM l G b yX7_commonDivisor cX7_commonDivisor 6 (some .int) 0 0 0 [.int v0, .int v1] (L, M, N) (fun r2 z => r2 = some (.int r) ∧ z = (L, M, N)) := by
  refine zM.of miX7_commonDivisor (Nat.le_of_ble_eq_true rfl) ?_
  intro p e s m args below meth c X hr hname
  generalize hF : ((fun r2 z => r2 = some (.int r) ∧ z = (L, M, N)) : Option Value → zS → Prop) = FQ
  change Zw p l e { frames := 0, cells := 0, slots := 0, locals := 80 * (0) } s m args below meth c G b 6 (MQ below (zQ G b FQ) args s 0 0 (fun q : Nat => b ≤ q)) 0 0 0 [some (.int v0), some (.int v1), none, none, none, none] [] (L, M, N)
  have J_34 : ∀ (x0_34 : Int32) (x1_34 : Int32) (x2_34 : Int32) (x3_34 : Int32) (x4_34 : Int32) (x5_34 : Option Value), D_X7_commonDivisor_34 x2_34 = some r → Zw p l e { frames := 0, cells := 0, slots := 0, locals := 80 * (0) } s m args below meth c G b 6 (MQ below (zQ G b FQ) args s 0 0 (fun q : Nat => b ≤ q)) 0 0 34 [some (.int x0_34), some (.int x1_34), some (.int x2_34), some (.int x3_34), some (.int x4_34), x5_34] [] (L, M, N) := by
    intro x0_34 x1_34 x2_34 x3_34 x4_34 x5_34 h
    unfold D_X7_commonDivisor_34 at h
    refine a_iload_n X dX7_commonDivisor_34 rfl ?_
    refine a_iret X hr dX7_commonDivisor_35 ⟨by decide, by decide⟩ ?_
    subst hF
    rw [← Option.some.inj h]
    exact ⟨rfl, rfl⟩
  have L_7 : ∀ u : Nat, ∀ (x0_7 : Int32) (x1_7 : Int32) (x2_7 : Int32) (x3_7 : Int32) (x4_7 : Int32) (x5_7 : Option Value), D_X7_commonDivisor_7 u x2_7 x3_7 x4_7 = some r → Zw p l e { frames := 0, cells := 0, slots := 0, locals := 80 * (0) } s m args below meth c G b 6 (MQ below (zQ G b FQ) args s 0 0 (fun q : Nat => b ≤ q)) 0 0 7 [some (.int x0_7), some (.int x1_7), some (.int x2_7), some (.int x3_7), some (.int x4_7), x5_7] [] (L, M, N) := by
    intro u
    induction u with
    | zero => intro x0_7 x1_7 x2_7 x3_7 x4_7 x5_7 h; cases (show none = some r from h)
    | succ u_7 ih_7 =>
      intro x0_7 x1_7 x2_7 x3_7 x4_7 x5_7 h
      rw [D_X7_commonDivisor_7] at h
      refine a_iload X dX7_commonDivisor_7 rfl ?_
      refine a_bipush (v := 100) X dX7_commonDivisor_9 (by decide) ?_
      refine a_icmp_ge (tgt := 34) X dX7_commonDivisor_11 (by decide) (fun h_11 => ?_) (fun h_11 => ?_)
      · replace h := (if_pos h_11).symm.trans h
        exact Zw.to2 (J_34 _ _ _ _ _ _ h) rfl rfl rfl
      · replace h := (if_neg h_11).symm.trans h
        refine a_iload_n X dX7_commonDivisor_14 rfl ?_
        refine a_if_eq (tgt := 34) X dX7_commonDivisor_15 (by decide) (fun h_15 => ?_) (fun h_15 => ?_)
        · replace h := (if_pos h_15).symm.trans h
          exact Zw.to2 (J_34 _ _ _ _ _ _ h) rfl rfl rfl
        · replace h := (if_neg h_15).symm.trans h
          refine a_iload_n X dX7_commonDivisor_18 rfl ?_
          refine a_iload_n X dX7_commonDivisor_19 rfl ?_
          obtain ⟨z_20, h⟩ := zZx h
          refine a_irem X dX7_commonDivisor_20 (z_20) ?_
          refine a_istore X dX7_commonDivisor_21 (by decide) ?_
          refine a_iload_n X dX7_commonDivisor_23 rfl ?_
          refine a_istore_n X dX7_commonDivisor_24 (by decide) ?_
          refine a_iload X dX7_commonDivisor_25 rfl ?_
          refine a_istore_n X dX7_commonDivisor_27 (by decide) ?_
          refine a_iinc (v := x4_7 + 1) X dX7_commonDivisor_28 (by decide) rfl zi_1 ?_
          refine a_goto (tgt := 7) X dX7_commonDivisor_31 (by decide) ?_
          exact Zw.to2 (ih_7 _ _ _ _ _ _ h) rfl rfl rfl
  have H_7 : ∀ (x0_7 : Int32) (x1_7 : Int32) (x2_7 : Int32) (x3_7 : Int32) (x4_7 : Int32) (x5_7 : Option Value), D_X7_commonDivisor_7 zFu x2_7 x3_7 x4_7 = some r → Zw p l e { frames := 0, cells := 0, slots := 0, locals := 80 * (0) } s m args below meth c G b 6 (MQ below (zQ G b FQ) args s 0 0 (fun q : Nat => b ≤ q)) 0 0 7 [some (.int x0_7), some (.int x1_7), some (.int x2_7), some (.int x3_7), some (.int x4_7), x5_7] [] (L, M, N) := L_7 zFu
  unfold D_X7_commonDivisor at h
  refine a_iload_n X dX7_commonDivisor_0 rfl ?_
  refine a_istore_n X dX7_commonDivisor_1 (by decide) ?_
  refine a_iload_n X dX7_commonDivisor_2 rfl ?_
  refine a_istore_n X dX7_commonDivisor_3 (by decide) ?_
  refine a_iconst (v := 0) X dX7_commonDivisor_4 (by decide) ?_
  refine a_istore X dX7_commonDivisor_5 (by decide) ?_
  exact Zw.to2 (H_7 _ _ _ _ _ _ h) rfl rfl rfl
