set_option maxRecDepth 100000 in
theorem m_status {l : Launch} {G : zG} {b : Nat} {S : zS} {P : Nat}  (hE : zE8 S P) : zM l G b yX8_status cX8_status 1 (some .int) 0 0 0 [.ref P] S (fun r _ => r = some (.int (0))) := by
  refine zM.of miX8_status (Nat.le_of_ble_eq_true rfl) ?_
  intro p e s m args below meth c X hr hname
  generalize hF : ((fun r _ => r = some (.int (0))) : Option Value → zS → Prop) = FQ
  change Zw p l e { frames := 0, cells := 0, slots := 0, locals := 80 * 0 } s m args below meth c G b 1 (MQ below (zQ G b FQ) args s 0 0 (fun q : Nat => b ≤ q)) 0 0 0 [some (.ref P)] [] S
  have hE9 := hE
  obtain ⟨hT, q_un, q_hu, q_ac, q_ta, q_st, q_fk, q_fp, q_om, q_67, q_68, q_69, q_70, q_71⟩ := hE
  obtain ⟨z_lt, z_o, z_s, z_read, z_aside, z_kept, z_guest, z_readGuest, z_tape, z_unitName, z_hunterName, z_partyName, z_bits, z_partyOf, z_choiceAt, z_sizes, z_guestMany, z_pointsOf, z_ticketsOf, z_ord, z_given, z_roundOf, z_tags, z_guestTags, z_places, z_sumAt, z_sumFirst, z_sumRound, z_sumBoth, z_sumTags, z_isEnd, z_newPoints, z_inRow, z_out⟩ := id hT
  refine a_aload_n X dX8_status_0 rfl ?_
  refine a_iconst (v := 0) X dX8_status_1 (by decide) ?_
  refine a_puti X lf8_119 (by assumption) rfl dX8_status_2 ?_
  refine a_aload_n X dX8_status_5 rfl ?_
  refine a_geti X lf8_122 (by assumption) rfl dX8_status_6 ?_
  refine a_iret X hr dX8_status_9 ⟨by decide, by decide⟩ ?_
  subst hF
  show some (Value.int (zu S.2.1 P 6 0 P 12)) = _
  rw [zu_ne (by omega), q_st]
set_option maxRecDepth 100000 in
theorem m_feed {l : Launch} {G : zG} {b : Nat} {S : zS} {P : Nat} {va : Int32} {vb : Int32} {vc : Int32} {vd : Int32} {ve : Int32} (hE : zE8 S P) : zM l G b yX8_feed cX8_feed 6 (some .int) 1 0 0 [.ref P, .int va, .int vb, .int vc, .int vd, .int ve] S (fun r _ => r = some (.int (20))) := by
  refine zM.of miX8_feed (Nat.le_of_ble_eq_true rfl) ?_
  intro p e s m args below meth c X hr hname
  generalize hF : ((fun r _ => r = some (.int (20))) : Option Value → zS → Prop) = FQ
  change Zw p l e { frames := 1, cells := 0, slots := 0, locals := 80 * 1 } s m args below meth c G b 6 (MQ below (zQ G b FQ) args s 0 0 (fun q : Nat => b ≤ q)) 0 0 0 [some (.ref P), some (.int va), some (.int vb), some (.int vc), some (.int vd), some (.int ve)] [] S
  have hE9 := hE
  obtain ⟨hT, q_un, q_hu, q_ac, q_ta, q_st, q_fk, q_fp, q_om, q_67, q_68, q_69, q_70, q_71⟩ := hE
  obtain ⟨z_lt, z_o, z_s, z_read, z_aside, z_kept, z_guest, z_readGuest, z_tape, z_unitName, z_hunterName, z_partyName, z_bits, z_partyOf, z_choiceAt, z_sizes, z_guestMany, z_pointsOf, z_ticketsOf, z_ord, z_given, z_roundOf, z_tags, z_guestTags, z_places, z_sumAt, z_sumFirst, z_sumRound, z_sumBoth, z_sumTags, z_isEnd, z_newPoints, z_inRow, z_out⟩ := id hT
  refine a_aload_n X dX8_feed_0 rfl ?_
  refine a_iconst (v := 0) X dX8_feed_1 (by decide) ?_
  refine a_puti X lf8_119 (by assumption) rfl dX8_feed_2 ?_
  refine a_aload_n X dX8_feed_5 rfl ?_
  refine a_geti X lf8_137 (by assumption) rfl dX8_feed_6 ?_
  refine a_bipush (v := 20) X dX8_feed_9 (by decide) ?_
  refine a_iadd X dX8_feed_11 ?_
  refine a_sipush (v := 700) X dX8_feed_12 (by decide) ?_
  refine a_icmp_le (tgt := 20) X dX8_feed_15 (by decide) (fun h_15 => ?_) (fun h_15 => absurd (by show zu S.2.1 P 6 0 P 11 + 20 ≤ 700; rw [zu_ne (by omega), q_ta]; decide) h_15)
  refine a_aload_n X dX8_feed_20 rfl ?_
  refine a_iload_n X dX8_feed_21 rfl ?_
  refine a_callVx X dX8_feed_22 miX8_come lm8_140 (m_come (t := 0) (by assumption) (by decide) (by show zu S.2.1 P 6 0 P 11 = _; rw [zu_ne (by omega), q_ta]; rfl)) (by assumption) rfl rfl rfl (Nat.le_of_ble_eq_true rfl) ⟨by decide, by decide, by decide, by decide⟩ (fun r_22 S_22 q_22 => ?_)
  obtain ⟨M_22, rfl, rfl, t_22⟩ := q_22
  refine a_aload_n X dX8_feed_25 rfl ?_
  refine a_iload_n X dX8_feed_26 rfl ?_
  refine a_callVx X dX8_feed_27 miX8_come lm8_140 (m_come (t := 4) (by assumption) (by decide) (t_22)) (by assumption) rfl rfl rfl (Nat.le_of_ble_eq_true rfl) ⟨by decide, by decide, by decide, by decide⟩ (fun r_27 S_27 q_27 => ?_)
  obtain ⟨M_27, rfl, rfl, t_27⟩ := q_27
  refine a_aload_n X dX8_feed_30 rfl ?_
  refine a_iload_n X dX8_feed_31 rfl ?_
  refine a_callVx X dX8_feed_32 miX8_come lm8_140 (m_come (t := 8) (by assumption) (by decide) (t_27)) (by assumption) rfl rfl rfl (Nat.le_of_ble_eq_true rfl) ⟨by decide, by decide, by decide, by decide⟩ (fun r_32 S_32 q_32 => ?_)
  obtain ⟨M_32, rfl, rfl, t_32⟩ := q_32
  refine a_aload_n X dX8_feed_35 rfl ?_
  refine a_iload X dX8_feed_36 rfl ?_
  refine a_callVx X dX8_feed_38 miX8_come lm8_140 (m_come (t := 12) (by assumption) (by decide) (t_32)) (by assumption) rfl rfl rfl (Nat.le_of_ble_eq_true rfl) ⟨by decide, by decide, by decide, by decide⟩ (fun r_38 S_38 q_38 => ?_)
  obtain ⟨M_38, rfl, rfl, t_38⟩ := q_38
  refine a_aload_n X dX8_feed_41 rfl ?_
  refine a_iload X dX8_feed_42 rfl ?_
  refine a_callVx X dX8_feed_44 miX8_come lm8_140 (m_come (t := 16) (by assumption) (by decide) (t_38)) (by assumption) rfl rfl rfl (Nat.le_of_ble_eq_true rfl) ⟨by decide, by decide, by decide, by decide⟩ (fun r_44 S_44 q_44 => ?_)
  obtain ⟨M_44, rfl, rfl, t_44⟩ := q_44
  refine a_aload_n X dX8_feed_47 rfl ?_
  refine a_geti X lf8_137 (by assumption) rfl dX8_feed_48 ?_
  refine a_iret X hr dX8_feed_51 ⟨by decide, by decide⟩ ?_
  subst hF
  show some (Value.int (M_44 P 11)) = _
  rw [show M_44 P 11 = _ from t_44]
  rfl
set_option maxRecDepth 100000 in
theorem m_fault {l : Launch} {G : zG} {b : Nat} {S : zS} {P : Nat} {w : Int32} (hE : zE8 S P) : zM l G b yX8_fault cX8_fault 2 (some .int) 0 0 0 [.ref P, .int w] S (fun r _ => r = some (.int (-1))) := by
  refine zM.of miX8_fault (Nat.le_of_ble_eq_true rfl) ?_
  intro p e s m args below meth c X hr hname
  generalize hF : ((fun r _ => r = some (.int (-1))) : Option Value → zS → Prop) = FQ
  change Zw p l e { frames := 0, cells := 0, slots := 0, locals := 80 * 0 } s m args below meth c G b 2 (MQ below (zQ G b FQ) args s 0 0 (fun q : Nat => b ≤ q)) 0 0 0 [some (.ref P), some (.int w)] [] S
  have hE9 := hE
  obtain ⟨hT, q_un, q_hu, q_ac, q_ta, q_st, q_fk, q_fp, q_om, q_67, q_68, q_69, q_70, q_71⟩ := hE
  obtain ⟨z_lt, z_o, z_s, z_read, z_aside, z_kept, z_guest, z_readGuest, z_tape, z_unitName, z_hunterName, z_partyName, z_bits, z_partyOf, z_choiceAt, z_sizes, z_guestMany, z_pointsOf, z_ticketsOf, z_ord, z_given, z_roundOf, z_tags, z_guestTags, z_places, z_sumAt, z_sumFirst, z_sumRound, z_sumBoth, z_sumTags, z_isEnd, z_newPoints, z_inRow, z_out⟩ := id hT
  refine a_aload_n X dX8_fault_0 rfl ?_
  refine a_iconst (v := 0) X dX8_fault_1 (by decide) ?_
  refine a_puti X lf8_119 (by assumption) rfl dX8_fault_2 ?_
  refine a_iload_n X dX8_fault_5 rfl ?_
  refine a_if_ne (tgt := 16) X dX8_fault_6 (by decide) (fun h_6 => ?_) (fun h_6 => ?_)
  · refine a_iload_n X dX8_fault_16 rfl ?_
    refine a_iconst (v := 1) X dX8_fault_17 (by decide) ?_
    refine a_icmp_ne (tgt := 28) X dX8_fault_18 (by decide) (fun h_18 => ?_) (fun h_18 => ?_)
    · refine a_iconst (v := -1) X dX8_fault_28 (by decide) ?_
      refine a_iret X hr dX8_fault_29 ⟨by decide, by decide⟩ ?_
      subst hF
      first | rfl | (show some (Value.int (zu S.2.1 P 6 0 P 13)) = _; rw [zu_ne (by omega), q_fk]; done) | (show some (Value.int (zu S.2.1 P 6 0 P 14)) = _; rw [zu_ne (by omega), q_fp]; done)
    · refine a_aload_n X dX8_fault_21 rfl ?_
      refine a_geti X lf8_36 (by assumption) rfl dX8_fault_22 ?_
      refine a_goto (tgt := 29) X dX8_fault_25 (by decide) ?_
      refine a_iret X hr dX8_fault_29 ⟨by decide, by decide⟩ ?_
      subst hF
      first | rfl | (show some (Value.int (zu S.2.1 P 6 0 P 13)) = _; rw [zu_ne (by omega), q_fk]; done) | (show some (Value.int (zu S.2.1 P 6 0 P 14)) = _; rw [zu_ne (by omega), q_fp]; done)
  · refine a_aload_n X dX8_fault_9 rfl ?_
    refine a_geti X lf8_32 (by assumption) rfl dX8_fault_10 ?_
    refine a_goto (tgt := 29) X dX8_fault_13 (by decide) ?_
    refine a_iret X hr dX8_fault_29 ⟨by decide, by decide⟩ ?_
    subst hF
    first | rfl | (show some (Value.int (zu S.2.1 P 6 0 P 13)) = _; rw [zu_ne (by omega), q_fk]; done) | (show some (Value.int (zu S.2.1 P 6 0 P 14)) = _; rw [zu_ne (by omega), q_fp]; done)
set_option maxRecDepth 100000 in
theorem m_many {l : Launch} {G : zG} {b : Nat} {S : zS} {P : Nat} {w : Int32} (hE : zE8 S P) : zM l G b yX8_many cX8_many 4 (some .int) 2 0 0 [.ref P, .int w] S (fun r _ => r = some (.int (fMany w))) := by
  refine zM.of miX8_many (Nat.le_of_ble_eq_true rfl) ?_
  intro p e s m args below meth c X hr hname
  generalize hF : ((fun r _ => r = some (.int (fMany w))) : Option Value → zS → Prop) = FQ
  change Zw p l e { frames := 2, cells := 0, slots := 0, locals := 80 * 2 } s m args below meth c G b 4 (MQ below (zQ G b FQ) args s 0 0 (fun q : Nat => b ≤ q)) 0 0 0 [some (.ref P), some (.int w), none, none] [] S
  have hE9 := hE
  obtain ⟨hT, q_un, q_hu, q_ac, q_ta, q_st, q_fk, q_fp, q_om, q_67, q_68, q_69, q_70, q_71⟩ := hE
  obtain ⟨z_lt, z_o, z_s, z_read, z_aside, z_kept, z_guest, z_readGuest, z_tape, z_unitName, z_hunterName, z_partyName, z_bits, z_partyOf, z_choiceAt, z_sizes, z_guestMany, z_pointsOf, z_ticketsOf, z_ord, z_given, z_roundOf, z_tags, z_guestTags, z_places, z_sumAt, z_sumFirst, z_sumRound, z_sumBoth, z_sumTags, z_isEnd, z_newPoints, z_inRow, z_out⟩ := id hT
  refine a_aload_n X dX8_many_0 rfl ?_
  refine a_callVu X dX8_many_1 miX8_laysApplicants lm8_281 (m_laysApplicants0 (by assumption) (by first | assumption | simp [zu, *]) (by first | assumption | simp [zu, *]) (by first | assumption | simp [zu, *])) (by assumption) rfl rfl rfl (Nat.le_of_ble_eq_true rfl) ⟨by decide, by decide, by decide, by decide⟩ ?_
  refine a_iconst (v := 0) X dX8_many_4 (by decide) ?_
  refine a_istore_n X dX8_many_5 (by decide) ?_
  refine a_iload_n X dX8_many_6 rfl ?_
  refine a_tsw (tg := [64, 73, 82, 94, 103, 115, 127, 139, 151, 160, 194]) (td := 233) X dX8_many_7 (by decide +kernel) (by decide) (by decide) (fun k_7 t_7 ht_7 hx_7 => ?_) (fun h_7 => ?_)
  · match k_7, ht_7, hx_7 with
    | 0, ht_7, hx_7 =>
      cases ht_7
      refine a_aload_n X dX8_many_64 rfl ?_
      refine a_aload_n X dX8_many_65 rfl ?_
      refine a_geti X lf8_125 (by assumption) rfl dX8_many_66 ?_
      refine a_callVv X dX8_many_69 miX8_gives lm8_272 (m_gives (by assumption)) (by assumption) rfl rfl rfl (Nat.le_of_ble_eq_true rfl) ⟨by decide, by decide, by decide, by decide⟩ ?_
      refine a_iret X hr dX8_many_72 ⟨by decide, by decide⟩ ?_
      subst hF
      unfold fMany
      first | (rw [if_neg (by omega), if_neg (by omega)]; done) | (rw [if_pos (by omega)]; show some (Value.int (zu S.2.1 P 33 0 (P + 1) 69)) = _; rw [zu_row (by omega), q_69]; done) | (rw [if_neg (by omega), if_pos (by omega)]; first | done | (show some (Value.int (zu S.2.1 P 33 0 P 7)) = _; simp [zu, q_un]; done) | (show some (Value.int (zu S.2.1 P 33 0 P 8)) = _; simp [zu, q_hu]; done) | (show some (Value.int (zu S.2.1 P 33 0 P 9)) = _; simp [zu, q_ac]; done) | (show some (Value.int (zu S.2.1 P 33 0 P 33)) = _; simp [zu]; done) | (show some (Value.int (zu S.2.1 P 33 0 (P + 1) 70)) = _; rw [zu_row (by omega), q_70]; done) | (show some (Value.int (zu S.2.1 P 33 0 (P + 1) 67)) = _; rw [zu_row (by omega), q_67]; done) | (show some (Value.int (zu S.2.1 P 33 0 (P + 1) 68)) = _; rw [zu_row (by omega), q_68]; done) | (show some (Value.int (zu S.2.1 P 33 0 (P + 1) 71)) = _; rw [zu_row (by omega), q_71]; done))
    | 1, ht_7, hx_7 =>
      cases ht_7
      refine a_aload_n X dX8_many_73 rfl ?_
      refine a_aload_n X dX8_many_74 rfl ?_
      refine a_geti X lf8_132 (by assumption) rfl dX8_many_75 ?_
      refine a_callVv X dX8_many_78 miX8_gives lm8_272 (m_gives (by assumption)) (by assumption) rfl rfl rfl (Nat.le_of_ble_eq_true rfl) ⟨by decide, by decide, by decide, by decide⟩ ?_
      refine a_iret X hr dX8_many_81 ⟨by decide, by decide⟩ ?_
      subst hF
      unfold fMany
      first | (rw [if_neg (by omega), if_neg (by omega)]; done) | (rw [if_pos (by omega)]; show some (Value.int (zu S.2.1 P 33 0 (P + 1) 69)) = _; rw [zu_row (by omega), q_69]; done) | (rw [if_neg (by omega), if_pos (by omega)]; first | done | (show some (Value.int (zu S.2.1 P 33 0 P 7)) = _; simp [zu, q_un]; done) | (show some (Value.int (zu S.2.1 P 33 0 P 8)) = _; simp [zu, q_hu]; done) | (show some (Value.int (zu S.2.1 P 33 0 P 9)) = _; simp [zu, q_ac]; done) | (show some (Value.int (zu S.2.1 P 33 0 P 33)) = _; simp [zu]; done) | (show some (Value.int (zu S.2.1 P 33 0 (P + 1) 70)) = _; rw [zu_row (by omega), q_70]; done) | (show some (Value.int (zu S.2.1 P 33 0 (P + 1) 67)) = _; rw [zu_row (by omega), q_67]; done) | (show some (Value.int (zu S.2.1 P 33 0 (P + 1) 68)) = _; rw [zu_row (by omega), q_68]; done) | (show some (Value.int (zu S.2.1 P 33 0 (P + 1) 71)) = _; rw [zu_row (by omega), q_71]; done))
    | 2, ht_7, hx_7 =>
      cases ht_7
      refine a_aload_n X dX8_many_82 rfl ?_
      refine a_aload_n X dX8_many_83 rfl ?_
      refine a_getr X lf8_7 (by assumption) rfl (by omega) dX8_many_84 ?_
      refine a_bipush (v := 70) X dX8_many_87 (by decide) ?_
      refine a_iaload X (by assumption) (vp_in_nI (n := 70) (by decide) (by decide)) dX8_many_89 ?_
      refine a_callVv X dX8_many_90 miX8_gives lm8_272 (m_gives (by assumption)) (by assumption) rfl rfl rfl (Nat.le_of_ble_eq_true rfl) ⟨by decide, by decide, by decide, by decide⟩ ?_
      refine a_iret X hr dX8_many_93 ⟨by decide, by decide⟩ ?_
      subst hF
      unfold fMany
      first | (rw [if_neg (by omega), if_neg (by omega)]; done) | (rw [if_pos (by omega)]; show some (Value.int (zu S.2.1 P 33 0 (P + 1) 69)) = _; rw [zu_row (by omega), q_69]; done) | (rw [if_neg (by omega), if_pos (by omega)]; first | done | (show some (Value.int (zu S.2.1 P 33 0 P 7)) = _; simp [zu, q_un]; done) | (show some (Value.int (zu S.2.1 P 33 0 P 8)) = _; simp [zu, q_hu]; done) | (show some (Value.int (zu S.2.1 P 33 0 P 9)) = _; simp [zu, q_ac]; done) | (show some (Value.int (zu S.2.1 P 33 0 P 33)) = _; simp [zu]; done) | (show some (Value.int (zu S.2.1 P 33 0 (P + 1) 70)) = _; rw [zu_row (by omega), q_70]; done) | (show some (Value.int (zu S.2.1 P 33 0 (P + 1) 67)) = _; rw [zu_row (by omega), q_67]; done) | (show some (Value.int (zu S.2.1 P 33 0 (P + 1) 68)) = _; rw [zu_row (by omega), q_68]; done) | (show some (Value.int (zu S.2.1 P 33 0 (P + 1) 71)) = _; rw [zu_row (by omega), q_71]; done))
    | 3, ht_7, hx_7 =>
      cases ht_7
      refine a_aload_n X dX8_many_94 rfl ?_
      refine a_aload_n X dX8_many_95 rfl ?_
      refine a_geti X lf8_275 (by assumption) rfl dX8_many_96 ?_
      refine a_callVv X dX8_many_99 miX8_gives lm8_272 (m_gives (by assumption)) (by assumption) rfl rfl rfl (Nat.le_of_ble_eq_true rfl) ⟨by decide, by decide, by decide, by decide⟩ ?_
      refine a_iret X hr dX8_many_102 ⟨by decide, by decide⟩ ?_
      subst hF
      unfold fMany
      first | (rw [if_neg (by omega), if_neg (by omega)]; done) | (rw [if_pos (by omega)]; show some (Value.int (zu S.2.1 P 33 0 (P + 1) 69)) = _; rw [zu_row (by omega), q_69]; done) | (rw [if_neg (by omega), if_pos (by omega)]; first | done | (show some (Value.int (zu S.2.1 P 33 0 P 7)) = _; simp [zu, q_un]; done) | (show some (Value.int (zu S.2.1 P 33 0 P 8)) = _; simp [zu, q_hu]; done) | (show some (Value.int (zu S.2.1 P 33 0 P 9)) = _; simp [zu, q_ac]; done) | (show some (Value.int (zu S.2.1 P 33 0 P 33)) = _; simp [zu]; done) | (show some (Value.int (zu S.2.1 P 33 0 (P + 1) 70)) = _; rw [zu_row (by omega), q_70]; done) | (show some (Value.int (zu S.2.1 P 33 0 (P + 1) 67)) = _; rw [zu_row (by omega), q_67]; done) | (show some (Value.int (zu S.2.1 P 33 0 (P + 1) 68)) = _; rw [zu_row (by omega), q_68]; done) | (show some (Value.int (zu S.2.1 P 33 0 (P + 1) 71)) = _; rw [zu_row (by omega), q_71]; done))
    | 4, ht_7, hx_7 =>
      cases ht_7
      refine a_aload_n X dX8_many_103 rfl ?_
      refine a_aload_n X dX8_many_104 rfl ?_
      refine a_getr X lf8_7 (by assumption) rfl (by omega) dX8_many_105 ?_
      refine a_bipush (v := 67) X dX8_many_108 (by decide) ?_
      refine a_iaload X (by assumption) (vp_in_nI (n := 67) (by decide) (by decide)) dX8_many_110 ?_
      refine a_callVv X dX8_many_111 miX8_gives lm8_272 (m_gives (by assumption)) (by assumption) rfl rfl rfl (Nat.le_of_ble_eq_true rfl) ⟨by decide, by decide, by decide, by decide⟩ ?_
      refine a_iret X hr dX8_many_114 ⟨by decide, by decide⟩ ?_
      subst hF
      unfold fMany
      first | (rw [if_neg (by omega), if_neg (by omega)]; done) | (rw [if_pos (by omega)]; show some (Value.int (zu S.2.1 P 33 0 (P + 1) 69)) = _; rw [zu_row (by omega), q_69]; done) | (rw [if_neg (by omega), if_pos (by omega)]; first | done | (show some (Value.int (zu S.2.1 P 33 0 P 7)) = _; simp [zu, q_un]; done) | (show some (Value.int (zu S.2.1 P 33 0 P 8)) = _; simp [zu, q_hu]; done) | (show some (Value.int (zu S.2.1 P 33 0 P 9)) = _; simp [zu, q_ac]; done) | (show some (Value.int (zu S.2.1 P 33 0 P 33)) = _; simp [zu]; done) | (show some (Value.int (zu S.2.1 P 33 0 (P + 1) 70)) = _; rw [zu_row (by omega), q_70]; done) | (show some (Value.int (zu S.2.1 P 33 0 (P + 1) 67)) = _; rw [zu_row (by omega), q_67]; done) | (show some (Value.int (zu S.2.1 P 33 0 (P + 1) 68)) = _; rw [zu_row (by omega), q_68]; done) | (show some (Value.int (zu S.2.1 P 33 0 (P + 1) 71)) = _; rw [zu_row (by omega), q_71]; done))
    | 5, ht_7, hx_7 =>
      cases ht_7
      refine a_aload_n X dX8_many_115 rfl ?_
      refine a_aload_n X dX8_many_116 rfl ?_
      refine a_getr X lf8_7 (by assumption) rfl (by omega) dX8_many_117 ?_
      refine a_bipush (v := 68) X dX8_many_120 (by decide) ?_
      refine a_iaload X (by assumption) (vp_in_nI (n := 68) (by decide) (by decide)) dX8_many_122 ?_
      refine a_callVv X dX8_many_123 miX8_gives lm8_272 (m_gives (by assumption)) (by assumption) rfl rfl rfl (Nat.le_of_ble_eq_true rfl) ⟨by decide, by decide, by decide, by decide⟩ ?_
      refine a_iret X hr dX8_many_126 ⟨by decide, by decide⟩ ?_
      subst hF
      unfold fMany
      first | (rw [if_neg (by omega), if_neg (by omega)]; done) | (rw [if_pos (by omega)]; show some (Value.int (zu S.2.1 P 33 0 (P + 1) 69)) = _; rw [zu_row (by omega), q_69]; done) | (rw [if_neg (by omega), if_pos (by omega)]; first | done | (show some (Value.int (zu S.2.1 P 33 0 P 7)) = _; simp [zu, q_un]; done) | (show some (Value.int (zu S.2.1 P 33 0 P 8)) = _; simp [zu, q_hu]; done) | (show some (Value.int (zu S.2.1 P 33 0 P 9)) = _; simp [zu, q_ac]; done) | (show some (Value.int (zu S.2.1 P 33 0 P 33)) = _; simp [zu]; done) | (show some (Value.int (zu S.2.1 P 33 0 (P + 1) 70)) = _; rw [zu_row (by omega), q_70]; done) | (show some (Value.int (zu S.2.1 P 33 0 (P + 1) 67)) = _; rw [zu_row (by omega), q_67]; done) | (show some (Value.int (zu S.2.1 P 33 0 (P + 1) 68)) = _; rw [zu_row (by omega), q_68]; done) | (show some (Value.int (zu S.2.1 P 33 0 (P + 1) 71)) = _; rw [zu_row (by omega), q_71]; done))
    | 6, ht_7, hx_7 =>
      cases ht_7
      refine a_aload_n X dX8_many_127 rfl ?_
      refine a_aload_n X dX8_many_128 rfl ?_
      refine a_getr X lf8_7 (by assumption) rfl (by omega) dX8_many_129 ?_
      refine a_bipush (v := 69) X dX8_many_132 (by decide) ?_
      refine a_iaload X (by assumption) (vp_in_nI (n := 69) (by decide) (by decide)) dX8_many_134 ?_
      refine a_callVv X dX8_many_135 miX8_gives lm8_272 (m_gives (by assumption)) (by assumption) rfl rfl rfl (Nat.le_of_ble_eq_true rfl) ⟨by decide, by decide, by decide, by decide⟩ ?_
      refine a_iret X hr dX8_many_138 ⟨by decide, by decide⟩ ?_
      subst hF
      unfold fMany
      first | (rw [if_neg (by omega), if_neg (by omega)]; done) | (rw [if_pos (by omega)]; show some (Value.int (zu S.2.1 P 33 0 (P + 1) 69)) = _; rw [zu_row (by omega), q_69]; done) | (rw [if_neg (by omega), if_pos (by omega)]; first | done | (show some (Value.int (zu S.2.1 P 33 0 P 7)) = _; simp [zu, q_un]; done) | (show some (Value.int (zu S.2.1 P 33 0 P 8)) = _; simp [zu, q_hu]; done) | (show some (Value.int (zu S.2.1 P 33 0 P 9)) = _; simp [zu, q_ac]; done) | (show some (Value.int (zu S.2.1 P 33 0 P 33)) = _; simp [zu]; done) | (show some (Value.int (zu S.2.1 P 33 0 (P + 1) 70)) = _; rw [zu_row (by omega), q_70]; done) | (show some (Value.int (zu S.2.1 P 33 0 (P + 1) 67)) = _; rw [zu_row (by omega), q_67]; done) | (show some (Value.int (zu S.2.1 P 33 0 (P + 1) 68)) = _; rw [zu_row (by omega), q_68]; done) | (show some (Value.int (zu S.2.1 P 33 0 (P + 1) 71)) = _; rw [zu_row (by omega), q_71]; done))
    | 7, ht_7, hx_7 =>
      cases ht_7
      refine a_aload_n X dX8_many_139 rfl ?_
      refine a_aload_n X dX8_many_140 rfl ?_
      refine a_getr X lf8_7 (by assumption) rfl (by omega) dX8_many_141 ?_
      refine a_bipush (v := 71) X dX8_many_144 (by decide) ?_
      refine a_iaload X (by assumption) (vp_in_nI (n := 71) (by decide) (by decide)) dX8_many_146 ?_
      refine a_callVv X dX8_many_147 miX8_gives lm8_272 (m_gives (by assumption)) (by assumption) rfl rfl rfl (Nat.le_of_ble_eq_true rfl) ⟨by decide, by decide, by decide, by decide⟩ ?_
      refine a_iret X hr dX8_many_150 ⟨by decide, by decide⟩ ?_
      subst hF
      unfold fMany
      first | (rw [if_neg (by omega), if_neg (by omega)]; done) | (rw [if_pos (by omega)]; show some (Value.int (zu S.2.1 P 33 0 (P + 1) 69)) = _; rw [zu_row (by omega), q_69]; done) | (rw [if_neg (by omega), if_pos (by omega)]; first | done | (show some (Value.int (zu S.2.1 P 33 0 P 7)) = _; simp [zu, q_un]; done) | (show some (Value.int (zu S.2.1 P 33 0 P 8)) = _; simp [zu, q_hu]; done) | (show some (Value.int (zu S.2.1 P 33 0 P 9)) = _; simp [zu, q_ac]; done) | (show some (Value.int (zu S.2.1 P 33 0 P 33)) = _; simp [zu]; done) | (show some (Value.int (zu S.2.1 P 33 0 (P + 1) 70)) = _; rw [zu_row (by omega), q_70]; done) | (show some (Value.int (zu S.2.1 P 33 0 (P + 1) 67)) = _; rw [zu_row (by omega), q_67]; done) | (show some (Value.int (zu S.2.1 P 33 0 (P + 1) 68)) = _; rw [zu_row (by omega), q_68]; done) | (show some (Value.int (zu S.2.1 P 33 0 (P + 1) 71)) = _; rw [zu_row (by omega), q_71]; done))
    | 8, ht_7, hx_7 =>
      cases ht_7
      refine a_aload_n X dX8_many_151 rfl ?_
      refine a_aload_n X dX8_many_152 rfl ?_
      refine a_geti X lf8_269 (by assumption) rfl dX8_many_153 ?_
      refine a_callVv X dX8_many_156 miX8_gives lm8_272 (m_gives (by assumption)) (by assumption) rfl rfl rfl (Nat.le_of_ble_eq_true rfl) ⟨by decide, by decide, by decide, by decide⟩ ?_
      refine a_iret X hr dX8_many_159 ⟨by decide, by decide⟩ ?_
      subst hF
      unfold fMany
      first | (rw [if_neg (by omega), if_neg (by omega)]; done) | (rw [if_pos (by omega)]; show some (Value.int (zu S.2.1 P 33 0 (P + 1) 69)) = _; rw [zu_row (by omega), q_69]; done) | (rw [if_neg (by omega), if_pos (by omega)]; first | done | (show some (Value.int (zu S.2.1 P 33 0 P 7)) = _; simp [zu, q_un]; done) | (show some (Value.int (zu S.2.1 P 33 0 P 8)) = _; simp [zu, q_hu]; done) | (show some (Value.int (zu S.2.1 P 33 0 P 9)) = _; simp [zu, q_ac]; done) | (show some (Value.int (zu S.2.1 P 33 0 P 33)) = _; simp [zu]; done) | (show some (Value.int (zu S.2.1 P 33 0 (P + 1) 70)) = _; rw [zu_row (by omega), q_70]; done) | (show some (Value.int (zu S.2.1 P 33 0 (P + 1) 67)) = _; rw [zu_row (by omega), q_67]; done) | (show some (Value.int (zu S.2.1 P 33 0 (P + 1) 68)) = _; rw [zu_row (by omega), q_68]; done) | (show some (Value.int (zu S.2.1 P 33 0 (P + 1) 71)) = _; rw [zu_row (by omega), q_71]; done))
    | 9, ht_7, hx_7 =>
      cases ht_7
      refine a_iconst (v := 0) X dX8_many_160 (by decide) ?_
      refine a_istore_n X dX8_many_161 (by decide) ?_
      refine a_iload_n X dX8_many_162 rfl ?_
      refine a_aload_n X dX8_many_163 rfl ?_
      refine a_geti X lf8_125 (by assumption) rfl dX8_many_164 ?_
      refine a_icmp_ge (tgt := 188) X dX8_many_167 (by decide) (fun h_167 => ?_) (fun h_167 => absurd (by show zu S.2.1 P 33 0 P 7 ≤ 0; simp [zu, q_un]) h_167)
      refine a_aload_n X dX8_many_188 rfl ?_
      refine a_iload_n X dX8_many_189 rfl ?_
      refine a_callVv X dX8_many_190 miX8_gives lm8_272 (m_gives (by assumption)) (by assumption) rfl rfl rfl (Nat.le_of_ble_eq_true rfl) ⟨by decide, by decide, by decide, by decide⟩ ?_
      refine a_iret X hr dX8_many_193 ⟨by decide, by decide⟩ ?_
      subst hF
      unfold fMany
      first | (rw [if_neg (by omega), if_neg (by omega)]; done) | (rw [if_pos (by omega)]; show some (Value.int (zu S.2.1 P 33 0 (P + 1) 69)) = _; rw [zu_row (by omega), q_69]; done) | (rw [if_neg (by omega), if_pos (by omega)]; first | done | (show some (Value.int (zu S.2.1 P 33 0 P 7)) = _; simp [zu, q_un]; done) | (show some (Value.int (zu S.2.1 P 33 0 P 8)) = _; simp [zu, q_hu]; done) | (show some (Value.int (zu S.2.1 P 33 0 P 9)) = _; simp [zu, q_ac]; done) | (show some (Value.int (zu S.2.1 P 33 0 P 33)) = _; simp [zu]; done) | (show some (Value.int (zu S.2.1 P 33 0 (P + 1) 70)) = _; rw [zu_row (by omega), q_70]; done) | (show some (Value.int (zu S.2.1 P 33 0 (P + 1) 67)) = _; rw [zu_row (by omega), q_67]; done) | (show some (Value.int (zu S.2.1 P 33 0 (P + 1) 68)) = _; rw [zu_row (by omega), q_68]; done) | (show some (Value.int (zu S.2.1 P 33 0 (P + 1) 71)) = _; rw [zu_row (by omega), q_71]; done))
    | 10, ht_7, hx_7 =>
      cases ht_7
      refine a_iconst (v := 0) X dX8_many_194 (by decide) ?_
      refine a_istore_n X dX8_many_195 (by decide) ?_
      refine a_iload_n X dX8_many_196 rfl ?_
      refine a_aload_n X dX8_many_197 rfl ?_
      refine a_geti X lf8_132 (by assumption) rfl dX8_many_198 ?_
      refine a_icmp_ge (tgt := 227) X dX8_many_201 (by decide) (fun h_201 => ?_) (fun h_201 => absurd (by show zu S.2.1 P 33 0 P 8 ≤ 0; simp [zu, q_hu]) h_201)
      refine a_aload_n X dX8_many_227 rfl ?_
      refine a_iload_n X dX8_many_228 rfl ?_
      refine a_callVv X dX8_many_229 miX8_gives lm8_272 (m_gives (by assumption)) (by assumption) rfl rfl rfl (Nat.le_of_ble_eq_true rfl) ⟨by decide, by decide, by decide, by decide⟩ ?_
      refine a_iret X hr dX8_many_232 ⟨by decide, by decide⟩ ?_
      subst hF
      unfold fMany
      first | (rw [if_neg (by omega), if_neg (by omega)]; done) | (rw [if_pos (by omega)]; show some (Value.int (zu S.2.1 P 33 0 (P + 1) 69)) = _; rw [zu_row (by omega), q_69]; done) | (rw [if_neg (by omega), if_pos (by omega)]; first | done | (show some (Value.int (zu S.2.1 P 33 0 P 7)) = _; simp [zu, q_un]; done) | (show some (Value.int (zu S.2.1 P 33 0 P 8)) = _; simp [zu, q_hu]; done) | (show some (Value.int (zu S.2.1 P 33 0 P 9)) = _; simp [zu, q_ac]; done) | (show some (Value.int (zu S.2.1 P 33 0 P 33)) = _; simp [zu]; done) | (show some (Value.int (zu S.2.1 P 33 0 (P + 1) 70)) = _; rw [zu_row (by omega), q_70]; done) | (show some (Value.int (zu S.2.1 P 33 0 (P + 1) 67)) = _; rw [zu_row (by omega), q_67]; done) | (show some (Value.int (zu S.2.1 P 33 0 (P + 1) 68)) = _; rw [zu_row (by omega), q_68]; done) | (show some (Value.int (zu S.2.1 P 33 0 (P + 1) 71)) = _; rw [zu_row (by omega), q_71]; done))
  · refine a_aload_n X dX8_many_233 rfl ?_
    refine a_iconst (v := 1) X dX8_many_234 (by decide) ?_
    refine a_callVv X dX8_many_235 miX8_refuse lm8_263 (m_refuse (by assumption)) (by assumption) rfl rfl rfl (Nat.le_of_ble_eq_true rfl) ⟨by decide, by decide, by decide, by decide⟩ ?_
    refine a_iret X hr dX8_many_238 ⟨by decide, by decide⟩ ?_
    subst hF
    unfold fMany
    first | (rw [if_neg (by omega), if_neg (by omega)]; done) | (rw [if_pos (by omega)]; show some (Value.int (zu S.2.1 P 33 0 (P + 1) 69)) = _; rw [zu_row (by omega), q_69]; done) | (rw [if_neg (by omega), if_pos (by omega)]; first | done | (show some (Value.int (zu S.2.1 P 33 0 P 7)) = _; simp [zu, q_un]; done) | (show some (Value.int (zu S.2.1 P 33 0 P 8)) = _; simp [zu, q_hu]; done) | (show some (Value.int (zu S.2.1 P 33 0 P 9)) = _; simp [zu, q_ac]; done) | (show some (Value.int (zu S.2.1 P 33 0 P 33)) = _; simp [zu]; done) | (show some (Value.int (zu S.2.1 P 33 0 (P + 1) 70)) = _; rw [zu_row (by omega), q_70]; done) | (show some (Value.int (zu S.2.1 P 33 0 (P + 1) 67)) = _; rw [zu_row (by omega), q_67]; done) | (show some (Value.int (zu S.2.1 P 33 0 (P + 1) 68)) = _; rw [zu_row (by omega), q_68]; done) | (show some (Value.int (zu S.2.1 P 33 0 (P + 1) 71)) = _; rw [zu_row (by omega), q_71]; done))
set_option maxRecDepth 100000 in
theorem m_hunter {l : Launch} {G : zG} {b : Nat} {S : zS} {P : Nat} {h : Int32} {w : Int32} (hE : zE8 S P) : zM l G b yX8_hunter cX8_hunter 3 (some .int) 4 0 0 [.ref P, .int h, .int w] S (fun r _ => r = some (.int (-1))) := by
  refine zM.of miX8_hunter (Nat.le_of_ble_eq_true rfl) ?_
  intro p e s m args below meth c X hr hname
  generalize hF : ((fun r _ => r = some (.int (-1))) : Option Value → zS → Prop) = FQ
  change Zw p l e { frames := 4, cells := 0, slots := 0, locals := 80 * 4 } s m args below meth c G b 3 (MQ below (zQ G b FQ) args s 0 0 (fun q : Nat => b ≤ q)) 0 0 0 [some (.ref P), some (.int h), some (.int w)] [] S
  have hE9 := hE
  obtain ⟨hT, q_un, q_hu, q_ac, q_ta, q_st, q_fk, q_fp, q_om, q_67, q_68, q_69, q_70, q_71⟩ := hE
  obtain ⟨z_lt, z_o, z_s, z_read, z_aside, z_kept, z_guest, z_readGuest, z_tape, z_unitName, z_hunterName, z_partyName, z_bits, z_partyOf, z_choiceAt, z_sizes, z_guestMany, z_pointsOf, z_ticketsOf, z_ord, z_given, z_roundOf, z_tags, z_guestTags, z_places, z_sumAt, z_sumFirst, z_sumRound, z_sumBoth, z_sumTags, z_isEnd, z_newPoints, z_inRow, z_out⟩ := id hT
  refine a_iload_n X dX8_hunter_0 rfl ?_
  refine a_i2l X dX8_hunter_1 ?_
  refine a_lconst (v := 0) X dX8_hunter_2 (by decide) ?_
  refine a_ldc2 X dX8_hunter_3 lk8_291 ?_
  refine a_callSv X dX8_hunter_6 miX8_isFrom lm8_128 (m_isFrom (lo := 0) (hi := 4) (by decide) (by decide)) rfl rfl (Nat.le_of_ble_eq_true rfl) ⟨by decide, by decide, by decide, by decide⟩ ?_
  refine a_if_ne (tgt := 18) X dX8_hunter_9 (by decide) (fun h_9 => ?_) (fun h_9 => ?_)
  · refine a_aload_n X dX8_hunter_18 rfl ?_
    refine a_iload_n X dX8_hunter_19 rfl ?_
    refine a_callVv X dX8_hunter_20 miX8_isHunter lm8_293 (m_isHunter0 (by assumption) (by first | assumption | simp [zu, *])) (by assumption) rfl rfl rfl (Nat.le_of_ble_eq_true rfl) ⟨by decide, by decide, by decide, by decide⟩ ?_
    refine a_if_ne (tgt := 32) X dX8_hunter_23 (by decide) (fun h_23 => absurd rfl h_23) (fun h_23 => ?_)
    refine a_aload_n X dX8_hunter_26 rfl ?_
    refine a_iconst (v := 2) X dX8_hunter_27 (by decide) ?_
    refine a_callVv X dX8_hunter_28 miX8_refuse lm8_263 (m_refuse (by assumption)) (by assumption) rfl rfl rfl (Nat.le_of_ble_eq_true rfl) ⟨by decide, by decide, by decide, by decide⟩ ?_
    refine a_iret X hr dX8_hunter_31 ⟨by decide, by decide⟩ ?_
    subst hF
    rfl
  · refine a_aload_n X dX8_hunter_12 rfl ?_
    refine a_iconst (v := 1) X dX8_hunter_13 (by decide) ?_
    refine a_callVv X dX8_hunter_14 miX8_refuse lm8_263 (m_refuse (by assumption)) (by assumption) rfl rfl rfl (Nat.le_of_ble_eq_true rfl) ⟨by decide, by decide, by decide, by decide⟩ ?_
    refine a_iret X hr dX8_hunter_17 ⟨by decide, by decide⟩ ?_
    subst hF
    rfl
set_option maxRecDepth 100000 in
theorem m_unit {l : Launch} {G : zG} {b : Nat} {S : zS} {P : Nat} {u : Int32} {w : Int32} (hE : zE8 S P) : zM l G b yX8_unit cX8_unit 6 (some .int) 4 0 0 [.ref P, .int u, .int w] S (fun r _ => r = some (.int (-1))) := by
  refine zM.of miX8_unit (Nat.le_of_ble_eq_true rfl) ?_
  intro p e s m args below meth c X hr hname
  generalize hF : ((fun r _ => r = some (.int (-1))) : Option Value → zS → Prop) = FQ
  change Zw p l e { frames := 4, cells := 0, slots := 0, locals := 80 * 4 } s m args below meth c G b 6 (MQ below (zQ G b FQ) args s 0 0 (fun q : Nat => b ≤ q)) 0 0 0 [some (.ref P), some (.int u), some (.int w), none, none, none] [] S
  have hE9 := hE
  obtain ⟨hT, q_un, q_hu, q_ac, q_ta, q_st, q_fk, q_fp, q_om, q_67, q_68, q_69, q_70, q_71⟩ := hE
  obtain ⟨z_lt, z_o, z_s, z_read, z_aside, z_kept, z_guest, z_readGuest, z_tape, z_unitName, z_hunterName, z_partyName, z_bits, z_partyOf, z_choiceAt, z_sizes, z_guestMany, z_pointsOf, z_ticketsOf, z_ord, z_given, z_roundOf, z_tags, z_guestTags, z_places, z_sumAt, z_sumFirst, z_sumRound, z_sumBoth, z_sumTags, z_isEnd, z_newPoints, z_inRow, z_out⟩ := id hT
  refine a_iload_n X dX8_unit_0 rfl ?_
  refine a_i2l X dX8_unit_1 ?_
  refine a_lconst (v := 0) X dX8_unit_2 (by decide) ?_
  refine a_ldc2 X dX8_unit_3 lk8_299 ?_
  refine a_callSv X dX8_unit_6 miX8_isFrom lm8_128 (m_isFrom (lo := 0) (hi := 5) (by decide) (by decide)) rfl rfl (Nat.le_of_ble_eq_true rfl) ⟨by decide, by decide, by decide, by decide⟩ ?_
  refine a_if_ne (tgt := 18) X dX8_unit_9 (by decide) (fun h_9 => ?_) (fun h_9 => ?_)
  · refine a_aload_n X dX8_unit_18 rfl ?_
    refine a_iload_n X dX8_unit_19 rfl ?_
    refine a_callVv X dX8_unit_20 miX8_isUnit lm8_301 (m_isUnit0 (by assumption) (by first | assumption | simp [zu, *])) (by assumption) rfl rfl rfl (Nat.le_of_ble_eq_true rfl) ⟨by decide, by decide, by decide, by decide⟩ ?_
    refine a_if_ne (tgt := 32) X dX8_unit_23 (by decide) (fun h_23 => absurd rfl h_23) (fun h_23 => ?_)
    refine a_aload_n X dX8_unit_26 rfl ?_
    refine a_iconst (v := 2) X dX8_unit_27 (by decide) ?_
    refine a_callVv X dX8_unit_28 miX8_refuse lm8_263 (m_refuse (by assumption)) (by assumption) rfl rfl rfl (Nat.le_of_ble_eq_true rfl) ⟨by decide, by decide, by decide, by decide⟩ ?_
    refine a_iret X hr dX8_unit_31 ⟨by decide, by decide⟩ ?_
    subst hF
    rfl
  · refine a_aload_n X dX8_unit_12 rfl ?_
    refine a_iconst (v := 1) X dX8_unit_13 (by decide) ?_
    refine a_callVv X dX8_unit_14 miX8_refuse lm8_263 (m_refuse (by assumption)) (by assumption) rfl rfl rfl (Nat.le_of_ble_eq_true rfl) ⟨by decide, by decide, by decide, by decide⟩ ?_
    refine a_iret X hr dX8_unit_17 ⟨by decide, by decide⟩ ?_
    subst hF
    rfl
set_option maxRecDepth 100000 in
theorem m_applicant {l : Launch} {G : zG} {b : Nat} {S : zS} {P : Nat} {a : Int32} {w : Int32} (hE : zE8 S P) : zM l G b yX8_applicant cX8_applicant 3 (some .int) 4 0 0 [.ref P, .int a, .int w] S (fun r _ => r = some (.int (-1))) := by
  refine zM.of miX8_applicant (Nat.le_of_ble_eq_true rfl) ?_
  intro p e s m args below meth c X hr hname
  generalize hF : ((fun r _ => r = some (.int (-1))) : Option Value → zS → Prop) = FQ
  change Zw p l e { frames := 4, cells := 0, slots := 0, locals := 80 * 4 } s m args below meth c G b 3 (MQ below (zQ G b FQ) args s 0 0 (fun q : Nat => b ≤ q)) 0 0 0 [some (.ref P), some (.int a), some (.int w)] [] S
  have hE9 := hE
  obtain ⟨hT, q_un, q_hu, q_ac, q_ta, q_st, q_fk, q_fp, q_om, q_67, q_68, q_69, q_70, q_71⟩ := hE
  obtain ⟨z_lt, z_o, z_s, z_read, z_aside, z_kept, z_guest, z_readGuest, z_tape, z_unitName, z_hunterName, z_partyName, z_bits, z_partyOf, z_choiceAt, z_sizes, z_guestMany, z_pointsOf, z_ticketsOf, z_ord, z_given, z_roundOf, z_tags, z_guestTags, z_places, z_sumAt, z_sumFirst, z_sumRound, z_sumBoth, z_sumTags, z_isEnd, z_newPoints, z_inRow, z_out⟩ := id hT
  refine a_iload_n X dX8_applicant_0 rfl ?_
  refine a_i2l X dX8_applicant_1 ?_
  refine a_lconst (v := 0) X dX8_applicant_2 (by decide) ?_
  refine a_ldc2 X dX8_applicant_3 lk8_313 ?_
  refine a_callSv X dX8_applicant_6 miX8_isFrom lm8_128 (m_isFrom (lo := 0) (hi := 6) (by decide) (by decide)) rfl rfl (Nat.le_of_ble_eq_true rfl) ⟨by decide, by decide, by decide, by decide⟩ ?_
  refine a_if_ne (tgt := 18) X dX8_applicant_9 (by decide) (fun h_9 => ?_) (fun h_9 => ?_)
  · refine a_aload_n X dX8_applicant_18 rfl ?_
    refine a_iload_n X dX8_applicant_19 rfl ?_
    refine a_callVv X dX8_applicant_20 miX8_isApplicant lm8_315 (m_isApplicant0 (by assumption) (by first | assumption | simp [zu, *]) (by first | assumption | simp [zu, *]) (by first | assumption | simp [zu, *])) (by assumption) rfl rfl rfl (Nat.le_of_ble_eq_true rfl) ⟨by decide, by decide, by decide, by decide⟩ ?_
    refine a_if_ne (tgt := 32) X dX8_applicant_23 (by decide) (fun h_23 => absurd rfl h_23) (fun h_23 => ?_)
    refine a_aload_n X dX8_applicant_26 rfl ?_
    refine a_iconst (v := 2) X dX8_applicant_27 (by decide) ?_
    refine a_callVv X dX8_applicant_28 miX8_refuse lm8_263 (m_refuse (by assumption)) (by assumption) rfl rfl rfl (Nat.le_of_ble_eq_true rfl) ⟨by decide, by decide, by decide, by decide⟩ ?_
    refine a_iret X hr dX8_applicant_31 ⟨by decide, by decide⟩ ?_
    subst hF
    rfl
  · refine a_aload_n X dX8_applicant_12 rfl ?_
    refine a_iconst (v := 1) X dX8_applicant_13 (by decide) ?_
    refine a_callVv X dX8_applicant_14 miX8_refuse lm8_263 (m_refuse (by assumption)) (by assumption) rfl rfl rfl (Nat.le_of_ble_eq_true rfl) ⟨by decide, by decide, by decide, by decide⟩ ?_
    refine a_iret X hr dX8_applicant_17 ⟨by decide, by decide⟩ ?_
    subst hF
    rfl
set_option maxRecDepth 100000 in
theorem m_choice {l : Launch} {G : zG} {b : Nat} {S : zS} {P : Nat} {a : Int32} {k : Int32} (hE : zE8 S P) : zM l G b yX8_choice cX8_choice 3 (some .int) 4 0 0 [.ref P, .int a, .int k] S (fun r _ => r = some (.int (-1))) := by
  refine zM.of miX8_choice (Nat.le_of_ble_eq_true rfl) ?_
  intro p e s m args below meth c X hr hname
  generalize hF : ((fun r _ => r = some (.int (-1))) : Option Value → zS → Prop) = FQ
  change Zw p l e { frames := 4, cells := 0, slots := 0, locals := 80 * 4 } s m args below meth c G b 3 (MQ below (zQ G b FQ) args s 0 0 (fun q : Nat => b ≤ q)) 0 0 0 [some (.ref P), some (.int a), some (.int k)] [] S
  have hE9 := hE
  obtain ⟨hT, q_un, q_hu, q_ac, q_ta, q_st, q_fk, q_fp, q_om, q_67, q_68, q_69, q_70, q_71⟩ := hE
  obtain ⟨z_lt, z_o, z_s, z_read, z_aside, z_kept, z_guest, z_readGuest, z_tape, z_unitName, z_hunterName, z_partyName, z_bits, z_partyOf, z_choiceAt, z_sizes, z_guestMany, z_pointsOf, z_ticketsOf, z_ord, z_given, z_roundOf, z_tags, z_guestTags, z_places, z_sumAt, z_sumFirst, z_sumRound, z_sumBoth, z_sumTags, z_isEnd, z_newPoints, z_inRow, z_out⟩ := id hT
  refine a_iload_n X dX8_choice_0 rfl ?_
  refine a_if_ge (tgt := 10) X dX8_choice_1 (by decide) (fun h_1 => ?_) (fun h_1 => ?_)
  · refine a_aload_n X dX8_choice_10 rfl ?_
    refine a_iload_n X dX8_choice_11 rfl ?_
    refine a_callVv X dX8_choice_12 miX8_isApplicant lm8_315 (m_isApplicant0 (by assumption) (by first | assumption | simp [zu, *]) (by first | assumption | simp [zu, *]) (by first | assumption | simp [zu, *])) (by assumption) rfl rfl rfl (Nat.le_of_ble_eq_true rfl) ⟨by decide, by decide, by decide, by decide⟩ ?_
    refine a_if_ne (tgt := 24) X dX8_choice_15 (by decide) (fun h_15 => absurd rfl h_15) (fun h_15 => ?_)
    refine a_aload_n X dX8_choice_18 rfl ?_
    refine a_iconst (v := 2) X dX8_choice_19 (by decide) ?_
    refine a_callVv X dX8_choice_20 miX8_refuse lm8_263 (m_refuse (by assumption)) (by assumption) rfl rfl rfl (Nat.le_of_ble_eq_true rfl) ⟨by decide, by decide, by decide, by decide⟩ ?_
    refine a_iret X hr dX8_choice_23 ⟨by decide, by decide⟩ ?_
    subst hF
    rfl
  · refine a_aload_n X dX8_choice_4 rfl ?_
    refine a_iconst (v := 1) X dX8_choice_5 (by decide) ?_
    refine a_callVv X dX8_choice_6 miX8_refuse lm8_263 (m_refuse (by assumption)) (by assumption) rfl rfl rfl (Nat.le_of_ble_eq_true rfl) ⟨by decide, by decide, by decide, by decide⟩ ?_
    refine a_iret X hr dX8_choice_9 ⟨by decide, by decide⟩ ?_
    subst hF
    rfl
set_option maxRecDepth 100000 in
theorem m_demand {l : Launch} {G : zG} {b : Nat} {S : zS} {P : Nat} {u : Int32} {w : Int32} (hE : zE8 S P) : zM l G b yX8_demand cX8_demand 5 (some .int) 4 0 0 [.ref P, .int u, .int w] S (fun r _ => r = some (.int (-1))) := by
  refine zM.of miX8_demand (Nat.le_of_ble_eq_true rfl) ?_
  intro p e s m args below meth c X hr hname
  generalize hF : ((fun r _ => r = some (.int (-1))) : Option Value → zS → Prop) = FQ
  change Zw p l e { frames := 4, cells := 0, slots := 0, locals := 80 * 4 } s m args below meth c G b 5 (MQ below (zQ G b FQ) args s 0 0 (fun q : Nat => b ≤ q)) 0 0 0 [some (.ref P), some (.int u), some (.int w), none, none] [] S
  have hE9 := hE
  obtain ⟨hT, q_un, q_hu, q_ac, q_ta, q_st, q_fk, q_fp, q_om, q_67, q_68, q_69, q_70, q_71⟩ := hE
  obtain ⟨z_lt, z_o, z_s, z_read, z_aside, z_kept, z_guest, z_readGuest, z_tape, z_unitName, z_hunterName, z_partyName, z_bits, z_partyOf, z_choiceAt, z_sizes, z_guestMany, z_pointsOf, z_ticketsOf, z_ord, z_given, z_roundOf, z_tags, z_guestTags, z_places, z_sumAt, z_sumFirst, z_sumRound, z_sumBoth, z_sumTags, z_isEnd, z_newPoints, z_inRow, z_out⟩ := id hT
  refine a_iload_n X dX8_demand_0 rfl ?_
  refine a_i2l X dX8_demand_1 ?_
  refine a_lconst (v := 0) X dX8_demand_2 (by decide) ?_
  refine a_lconst (v := 1) X dX8_demand_3 (by decide) ?_
  refine a_callSv X dX8_demand_4 miX8_isFrom lm8_128 (m_isFrom (lo := 0) (hi := 1) (by decide) (by decide)) rfl rfl (Nat.le_of_ble_eq_true rfl) ⟨by decide, by decide, by decide, by decide⟩ ?_
  refine a_if_ne (tgt := 16) X dX8_demand_7 (by decide) (fun h_7 => ?_) (fun h_7 => ?_)
  · refine a_aload_n X dX8_demand_16 rfl ?_
    refine a_iload_n X dX8_demand_17 rfl ?_
    refine a_callVv X dX8_demand_18 miX8_isUnit lm8_301 (m_isUnit0 (by assumption) (by first | assumption | simp [zu, *])) (by assumption) rfl rfl rfl (Nat.le_of_ble_eq_true rfl) ⟨by decide, by decide, by decide, by decide⟩ ?_
    refine a_if_ne (tgt := 30) X dX8_demand_21 (by decide) (fun h_21 => absurd rfl h_21) (fun h_21 => ?_)
    refine a_aload_n X dX8_demand_24 rfl ?_
    refine a_iconst (v := 2) X dX8_demand_25 (by decide) ?_
    refine a_callVv X dX8_demand_26 miX8_refuse lm8_263 (m_refuse (by assumption)) (by assumption) rfl rfl rfl (Nat.le_of_ble_eq_true rfl) ⟨by decide, by decide, by decide, by decide⟩ ?_
    refine a_iret X hr dX8_demand_29 ⟨by decide, by decide⟩ ?_
    subst hF
    rfl
  · refine a_aload_n X dX8_demand_10 rfl ?_
    refine a_iconst (v := 1) X dX8_demand_11 (by decide) ?_
    refine a_callVv X dX8_demand_12 miX8_refuse lm8_263 (m_refuse (by assumption)) (by assumption) rfl rfl rfl (Nat.le_of_ble_eq_true rfl) ⟨by decide, by decide, by decide, by decide⟩ ?_
    refine a_iret X hr dX8_demand_15 ⟨by decide, by decide⟩ ?_
    subst hF
    rfl
set_option maxRecDepth 100000 in
theorem m_share {l : Launch} {G : zG} {b : Nat} {S : zS} {P : Nat} {a : Int32} {w : Int32} (hE : zE8 S P) : zM l G b yX8_share cX8_share 5 (some .int) 4 0 0 [.ref P, .int a, .int w] S (fun r _ => r = some (.int (-1))) := by
  refine zM.of miX8_share (Nat.le_of_ble_eq_true rfl) ?_
  intro p e s m args below meth c X hr hname
  generalize hF : ((fun r _ => r = some (.int (-1))) : Option Value → zS → Prop) = FQ
  change Zw p l e { frames := 4, cells := 0, slots := 0, locals := 80 * 4 } s m args below meth c G b 5 (MQ below (zQ G b FQ) args s 0 0 (fun q : Nat => b ≤ q)) 0 0 0 [some (.ref P), some (.int a), some (.int w), none, none] [] S
  have hE9 := hE
  obtain ⟨hT, q_un, q_hu, q_ac, q_ta, q_st, q_fk, q_fp, q_om, q_67, q_68, q_69, q_70, q_71⟩ := hE
  obtain ⟨z_lt, z_o, z_s, z_read, z_aside, z_kept, z_guest, z_readGuest, z_tape, z_unitName, z_hunterName, z_partyName, z_bits, z_partyOf, z_choiceAt, z_sizes, z_guestMany, z_pointsOf, z_ticketsOf, z_ord, z_given, z_roundOf, z_tags, z_guestTags, z_places, z_sumAt, z_sumFirst, z_sumRound, z_sumBoth, z_sumTags, z_isEnd, z_newPoints, z_inRow, z_out⟩ := id hT
  refine a_iload_n X dX8_share_0 rfl ?_
  refine a_i2l X dX8_share_1 ?_
  refine a_lconst (v := 0) X dX8_share_2 (by decide) ?_
  refine a_lconst (v := 1) X dX8_share_3 (by decide) ?_
  refine a_callSv X dX8_share_4 miX8_isFrom lm8_128 (m_isFrom (lo := 0) (hi := 1) (by decide) (by decide)) rfl rfl (Nat.le_of_ble_eq_true rfl) ⟨by decide, by decide, by decide, by decide⟩ ?_
  refine a_if_ne (tgt := 16) X dX8_share_7 (by decide) (fun h_7 => ?_) (fun h_7 => ?_)
  · refine a_aload_n X dX8_share_16 rfl ?_
    refine a_iload_n X dX8_share_17 rfl ?_
    refine a_callVv X dX8_share_18 miX8_isApplicant lm8_315 (m_isApplicant0 (by assumption) (by first | assumption | simp [zu, *]) (by first | assumption | simp [zu, *]) (by first | assumption | simp [zu, *])) (by assumption) rfl rfl rfl (Nat.le_of_ble_eq_true rfl) ⟨by decide, by decide, by decide, by decide⟩ ?_
    refine a_if_ne (tgt := 30) X dX8_share_21 (by decide) (fun h_21 => absurd rfl h_21) (fun h_21 => ?_)
    refine a_aload_n X dX8_share_24 rfl ?_
    refine a_iconst (v := 2) X dX8_share_25 (by decide) ?_
    refine a_callVv X dX8_share_26 miX8_refuse lm8_263 (m_refuse (by assumption)) (by assumption) rfl rfl rfl (Nat.le_of_ble_eq_true rfl) ⟨by decide, by decide, by decide, by decide⟩ ?_
    refine a_iret X hr dX8_share_29 ⟨by decide, by decide⟩ ?_
    subst hF
    rfl
  · refine a_aload_n X dX8_share_10 rfl ?_
    refine a_iconst (v := 1) X dX8_share_11 (by decide) ?_
    refine a_callVv X dX8_share_12 miX8_refuse lm8_263 (m_refuse (by assumption)) (by assumption) rfl rfl rfl (Nat.le_of_ble_eq_true rfl) ⟨by decide, by decide, by decide, by decide⟩ ?_
    refine a_iret X hr dX8_share_15 ⟨by decide, by decide⟩ ?_
    subst hF
    rfl
set_option maxRecDepth 100000 in
theorem m_drawn {l : Launch} {G : zG} {b : Nat} {S : zS} {P : Nat} {sd : Int32} {a : Int32} (hE : zE8 S P) : zM l G b yX8_drawn cX8_drawn 3 (some .int) 4 0 0 [.ref P, .int sd, .int a] S (fun r _ => r = some (.int (-1))) := by
  refine zM.of miX8_drawn (Nat.le_of_ble_eq_true rfl) ?_
  intro p e s m args below meth c X hr hname
  generalize hF : ((fun r _ => r = some (.int (-1))) : Option Value → zS → Prop) = FQ
  change Zw p l e { frames := 4, cells := 0, slots := 0, locals := 80 * 4 } s m args below meth c G b 3 (MQ below (zQ G b FQ) args s 0 0 (fun q : Nat => b ≤ q)) 0 0 0 [some (.ref P), some (.int sd), some (.int a)] [] S
  have hE9 := hE
  obtain ⟨hT, q_un, q_hu, q_ac, q_ta, q_st, q_fk, q_fp, q_om, q_67, q_68, q_69, q_70, q_71⟩ := hE
  obtain ⟨z_lt, z_o, z_s, z_read, z_aside, z_kept, z_guest, z_readGuest, z_tape, z_unitName, z_hunterName, z_partyName, z_bits, z_partyOf, z_choiceAt, z_sizes, z_guestMany, z_pointsOf, z_ticketsOf, z_ord, z_given, z_roundOf, z_tags, z_guestTags, z_places, z_sumAt, z_sumFirst, z_sumRound, z_sumBoth, z_sumTags, z_isEnd, z_newPoints, z_inRow, z_out⟩ := id hT
  refine a_iload_n X dX8_drawn_0 rfl ?_
  refine a_callSv X dX8_drawn_1 miX8_isSeed lm8_358 (m_isSeed) rfl rfl (Nat.le_of_ble_eq_true rfl) ⟨by decide, by decide, by decide, by decide⟩ ?_
  refine a_if_ne (tgt := 13) X dX8_drawn_4 (by decide) (fun h_4 => ?_) (fun h_4 => ?_)
  · refine a_aload_n X dX8_drawn_13 rfl ?_
    refine a_iload_n X dX8_drawn_14 rfl ?_
    refine a_callVv X dX8_drawn_15 miX8_isApplicant lm8_315 (m_isApplicant0 (by assumption) (by first | assumption | simp [zu, *]) (by first | assumption | simp [zu, *]) (by first | assumption | simp [zu, *])) (by assumption) rfl rfl rfl (Nat.le_of_ble_eq_true rfl) ⟨by decide, by decide, by decide, by decide⟩ ?_
    refine a_if_ne (tgt := 27) X dX8_drawn_18 (by decide) (fun h_18 => absurd rfl h_18) (fun h_18 => ?_)
    refine a_aload_n X dX8_drawn_21 rfl ?_
    refine a_iconst (v := 2) X dX8_drawn_22 (by decide) ?_
    refine a_callVv X dX8_drawn_23 miX8_refuse lm8_263 (m_refuse (by assumption)) (by assumption) rfl rfl rfl (Nat.le_of_ble_eq_true rfl) ⟨by decide, by decide, by decide, by decide⟩ ?_
    refine a_iret X hr dX8_drawn_26 ⟨by decide, by decide⟩ ?_
    subst hF
    rfl
  · refine a_aload_n X dX8_drawn_7 rfl ?_
    refine a_iconst (v := 1) X dX8_drawn_8 (by decide) ?_
    refine a_callVv X dX8_drawn_9 miX8_refuse lm8_263 (m_refuse (by assumption)) (by assumption) rfl rfl rfl (Nat.le_of_ble_eq_true rfl) ⟨by decide, by decide, by decide, by decide⟩ ?_
    refine a_iret X hr dX8_drawn_12 ⟨by decide, by decide⟩ ?_
    subst hF
    rfl
set_option maxRecDepth 100000 in
theorem m_round {l : Launch} {G : zG} {b : Nat} {S : zS} {P : Nat} {sd : Int32} {a : Int32} (hE : zE8 S P) : zM l G b yX8_round cX8_round 3 (some .int) 4 0 0 [.ref P, .int sd, .int a] S (fun r _ => r = some (.int (-1))) := by
  refine zM.of miX8_round (Nat.le_of_ble_eq_true rfl) ?_
  intro p e s m args below meth c X hr hname
  generalize hF : ((fun r _ => r = some (.int (-1))) : Option Value → zS → Prop) = FQ
  change Zw p l e { frames := 4, cells := 0, slots := 0, locals := 80 * 4 } s m args below meth c G b 3 (MQ below (zQ G b FQ) args s 0 0 (fun q : Nat => b ≤ q)) 0 0 0 [some (.ref P), some (.int sd), some (.int a)] [] S
  have hE9 := hE
  obtain ⟨hT, q_un, q_hu, q_ac, q_ta, q_st, q_fk, q_fp, q_om, q_67, q_68, q_69, q_70, q_71⟩ := hE
  obtain ⟨z_lt, z_o, z_s, z_read, z_aside, z_kept, z_guest, z_readGuest, z_tape, z_unitName, z_hunterName, z_partyName, z_bits, z_partyOf, z_choiceAt, z_sizes, z_guestMany, z_pointsOf, z_ticketsOf, z_ord, z_given, z_roundOf, z_tags, z_guestTags, z_places, z_sumAt, z_sumFirst, z_sumRound, z_sumBoth, z_sumTags, z_isEnd, z_newPoints, z_inRow, z_out⟩ := id hT
  refine a_iload_n X dX8_round_0 rfl ?_
  refine a_callSv X dX8_round_1 miX8_isSeed lm8_358 (m_isSeed) rfl rfl (Nat.le_of_ble_eq_true rfl) ⟨by decide, by decide, by decide, by decide⟩ ?_
  refine a_if_ne (tgt := 13) X dX8_round_4 (by decide) (fun h_4 => ?_) (fun h_4 => ?_)
  · refine a_aload_n X dX8_round_13 rfl ?_
    refine a_iload_n X dX8_round_14 rfl ?_
    refine a_callVv X dX8_round_15 miX8_isApplicant lm8_315 (m_isApplicant0 (by assumption) (by first | assumption | simp [zu, *]) (by first | assumption | simp [zu, *]) (by first | assumption | simp [zu, *])) (by assumption) rfl rfl rfl (Nat.le_of_ble_eq_true rfl) ⟨by decide, by decide, by decide, by decide⟩ ?_
    refine a_if_ne (tgt := 27) X dX8_round_18 (by decide) (fun h_18 => absurd rfl h_18) (fun h_18 => ?_)
    refine a_aload_n X dX8_round_21 rfl ?_
    refine a_iconst (v := 2) X dX8_round_22 (by decide) ?_
    refine a_callVv X dX8_round_23 miX8_refuse lm8_263 (m_refuse (by assumption)) (by assumption) rfl rfl rfl (Nat.le_of_ble_eq_true rfl) ⟨by decide, by decide, by decide, by decide⟩ ?_
    refine a_iret X hr dX8_round_26 ⟨by decide, by decide⟩ ?_
    subst hF
    rfl
  · refine a_aload_n X dX8_round_7 rfl ?_
    refine a_iconst (v := 1) X dX8_round_8 (by decide) ?_
    refine a_callVv X dX8_round_9 miX8_refuse lm8_263 (m_refuse (by assumption)) (by assumption) rfl rfl rfl (Nat.le_of_ble_eq_true rfl) ⟨by decide, by decide, by decide, by decide⟩ ?_
    refine a_iret X hr dX8_round_12 ⟨by decide, by decide⟩ ?_
    subst hF
    rfl
set_option maxRecDepth 100000 in
theorem m_left {l : Launch} {G : zG} {b : Nat} {S : zS} {P : Nat} {sd : Int32} {u : Int32} {w : Int32} (hE : zE8 S P) : zM l G b yX8_left cX8_left 7 (some .int) 4 0 0 [.ref P, .int sd, .int u, .int w] S (fun r _ => r = some (.int (-1))) := by
  refine zM.of miX8_left (Nat.le_of_ble_eq_true rfl) ?_
  intro p e s m args below meth c X hr hname
  generalize hF : ((fun r _ => r = some (.int (-1))) : Option Value → zS → Prop) = FQ
  change Zw p l e { frames := 4, cells := 0, slots := 0, locals := 80 * 4 } s m args below meth c G b 7 (MQ below (zQ G b FQ) args s 0 0 (fun q : Nat => b ≤ q)) 0 0 0 [some (.ref P), some (.int sd), some (.int u), some (.int w), none, none, none] [] S
  have hE9 := hE
  obtain ⟨hT, q_un, q_hu, q_ac, q_ta, q_st, q_fk, q_fp, q_om, q_67, q_68, q_69, q_70, q_71⟩ := hE
  obtain ⟨z_lt, z_o, z_s, z_read, z_aside, z_kept, z_guest, z_readGuest, z_tape, z_unitName, z_hunterName, z_partyName, z_bits, z_partyOf, z_choiceAt, z_sizes, z_guestMany, z_pointsOf, z_ticketsOf, z_ord, z_given, z_roundOf, z_tags, z_guestTags, z_places, z_sumAt, z_sumFirst, z_sumRound, z_sumBoth, z_sumTags, z_isEnd, z_newPoints, z_inRow, z_out⟩ := id hT
  refine a_iload_n X dX8_left_0 rfl ?_
  refine a_callSv X dX8_left_1 miX8_isSeed lm8_358 (m_isSeed) rfl rfl (Nat.le_of_ble_eq_true rfl) ⟨by decide, by decide, by decide, by decide⟩ ?_
  refine a_if_eq (tgt := 19) X dX8_left_4 (by decide) (fun h_4 => ?_) (fun h_4 => ?_)
  · refine a_aload_n X dX8_left_19 rfl ?_
    refine a_iconst (v := 1) X dX8_left_20 (by decide) ?_
    refine a_callVv X dX8_left_21 miX8_refuse lm8_263 (m_refuse (by assumption)) (by assumption) rfl rfl rfl (Nat.le_of_ble_eq_true rfl) ⟨by decide, by decide, by decide, by decide⟩ ?_
    refine a_iret X hr dX8_left_24 ⟨by decide, by decide⟩ ?_
    subst hF
    rfl
  · refine a_iload_n X dX8_left_7 rfl ?_
    refine a_i2l X dX8_left_8 ?_
    refine a_lconst (v := 0) X dX8_left_9 (by decide) ?_
    refine a_ldc2 X dX8_left_10 lk8_364 ?_
    refine a_callSv X dX8_left_13 miX8_isFrom lm8_128 (m_isFrom (lo := 0) (hi := 3) (by decide) (by decide)) rfl rfl (Nat.le_of_ble_eq_true rfl) ⟨by decide, by decide, by decide, by decide⟩ ?_
    refine a_if_ne (tgt := 25) X dX8_left_16 (by decide) (fun h_16 => ?_) (fun h_16 => ?_)
    · refine a_aload_n X dX8_left_25 rfl ?_
      refine a_iload_n X dX8_left_26 rfl ?_
      refine a_callVv X dX8_left_27 miX8_isUnit lm8_301 (m_isUnit0 (by assumption) (by first | assumption | simp [zu, *])) (by assumption) rfl rfl rfl (Nat.le_of_ble_eq_true rfl) ⟨by decide, by decide, by decide, by decide⟩ ?_
      refine a_if_ne (tgt := 39) X dX8_left_30 (by decide) (fun h_30 => absurd rfl h_30) (fun h_30 => ?_)
      refine a_aload_n X dX8_left_33 rfl ?_
      refine a_iconst (v := 2) X dX8_left_34 (by decide) ?_
      refine a_callVv X dX8_left_35 miX8_refuse lm8_263 (m_refuse (by assumption)) (by assumption) rfl rfl rfl (Nat.le_of_ble_eq_true rfl) ⟨by decide, by decide, by decide, by decide⟩ ?_
      refine a_iret X hr dX8_left_38 ⟨by decide, by decide⟩ ?_
      subst hF
      rfl
    · refine a_aload_n X dX8_left_19 rfl ?_
      refine a_iconst (v := 1) X dX8_left_20 (by decide) ?_
      refine a_callVv X dX8_left_21 miX8_refuse lm8_263 (m_refuse (by assumption)) (by assumption) rfl rfl rfl (Nat.le_of_ble_eq_true rfl) ⟨by decide, by decide, by decide, by decide⟩ ?_
      refine a_iret X hr dX8_left_24 ⟨by decide, by decide⟩ ?_
      subst hF
      rfl
set_option maxRecDepth 100000 in
theorem m_waits {l : Launch} {G : zG} {b : Nat} {S : zS} {P : Nat} {sd : Int32} {u : Int32} {k : Int32} (hE : zE8 S P) : zM l G b yX8_waits cX8_waits 6 (some .int) 4 0 0 [.ref P, .int sd, .int u, .int k] S (fun r _ => r = some (.int (-1))) := by
  refine zM.of miX8_waits (Nat.le_of_ble_eq_true rfl) ?_
  intro p e s m args below meth c X hr hname
  generalize hF : ((fun r _ => r = some (.int (-1))) : Option Value → zS → Prop) = FQ
  change Zw p l e { frames := 4, cells := 0, slots := 0, locals := 80 * 4 } s m args below meth c G b 6 (MQ below (zQ G b FQ) args s 0 0 (fun q : Nat => b ≤ q)) 0 0 0 [some (.ref P), some (.int sd), some (.int u), some (.int k), none, none] [] S
  have hE9 := hE
  obtain ⟨hT, q_un, q_hu, q_ac, q_ta, q_st, q_fk, q_fp, q_om, q_67, q_68, q_69, q_70, q_71⟩ := hE
  obtain ⟨z_lt, z_o, z_s, z_read, z_aside, z_kept, z_guest, z_readGuest, z_tape, z_unitName, z_hunterName, z_partyName, z_bits, z_partyOf, z_choiceAt, z_sizes, z_guestMany, z_pointsOf, z_ticketsOf, z_ord, z_given, z_roundOf, z_tags, z_guestTags, z_places, z_sumAt, z_sumFirst, z_sumRound, z_sumBoth, z_sumTags, z_isEnd, z_newPoints, z_inRow, z_out⟩ := id hT
  refine a_iload_n X dX8_waits_0 rfl ?_
  refine a_callSv X dX8_waits_1 miX8_isSeed lm8_358 (m_isSeed) rfl rfl (Nat.le_of_ble_eq_true rfl) ⟨by decide, by decide, by decide, by decide⟩ ?_
  refine a_if_eq (tgt := 12) X dX8_waits_4 (by decide) (fun h_4 => ?_) (fun h_4 => ?_)
  · refine a_aload_n X dX8_waits_12 rfl ?_
    refine a_iconst (v := 1) X dX8_waits_13 (by decide) ?_
    refine a_callVv X dX8_waits_14 miX8_refuse lm8_263 (m_refuse (by assumption)) (by assumption) rfl rfl rfl (Nat.le_of_ble_eq_true rfl) ⟨by decide, by decide, by decide, by decide⟩ ?_
    refine a_iret X hr dX8_waits_17 ⟨by decide, by decide⟩ ?_
    subst hF
    rfl
  · refine a_iload_n X dX8_waits_7 rfl ?_
    refine a_iconst (v := -1) X dX8_waits_8 (by decide) ?_
    refine a_icmp_ge (tgt := 18) X dX8_waits_9 (by decide) (fun h_9 => ?_) (fun h_9 => ?_)
    · refine a_aload_n X dX8_waits_18 rfl ?_
      refine a_iload_n X dX8_waits_19 rfl ?_
      refine a_callVv X dX8_waits_20 miX8_isUnit lm8_301 (m_isUnit0 (by assumption) (by first | assumption | simp [zu, *])) (by assumption) rfl rfl rfl (Nat.le_of_ble_eq_true rfl) ⟨by decide, by decide, by decide, by decide⟩ ?_
      refine a_if_ne (tgt := 32) X dX8_waits_23 (by decide) (fun h_23 => absurd rfl h_23) (fun h_23 => ?_)
      refine a_aload_n X dX8_waits_26 rfl ?_
      refine a_iconst (v := 2) X dX8_waits_27 (by decide) ?_
      refine a_callVv X dX8_waits_28 miX8_refuse lm8_263 (m_refuse (by assumption)) (by assumption) rfl rfl rfl (Nat.le_of_ble_eq_true rfl) ⟨by decide, by decide, by decide, by decide⟩ ?_
      refine a_iret X hr dX8_waits_31 ⟨by decide, by decide⟩ ?_
      subst hF
      rfl
    · refine a_aload_n X dX8_waits_12 rfl ?_
      refine a_iconst (v := 1) X dX8_waits_13 (by decide) ?_
      refine a_callVv X dX8_waits_14 miX8_refuse lm8_263 (m_refuse (by assumption)) (by assumption) rfl rfl rfl (Nat.le_of_ble_eq_true rfl) ⟨by decide, by decide, by decide, by decide⟩ ?_
      refine a_iret X hr dX8_waits_17 ⟨by decide, by decide⟩ ?_
      subst hF
      rfl
set_option maxRecDepth 100000 in
theorem m_next_ {l : Launch} {G : zG} {b : Nat} {S : zS} {P : Nat} {sd : Int32} {u : Int32} {k : Int32} (hE : zE8 S P) : zM l G b yX8_next_ cX8_next_ 5 (some .int) 4 0 0 [.ref P, .int sd, .int u, .int k] S (fun r _ => r = some (.int (-1))) := by
  refine zM.of miX8_next_ (Nat.le_of_ble_eq_true rfl) ?_
  intro p e s m args below meth c X hr hname
  generalize hF : ((fun r _ => r = some (.int (-1))) : Option Value → zS → Prop) = FQ
  change Zw p l e { frames := 4, cells := 0, slots := 0, locals := 80 * 4 } s m args below meth c G b 5 (MQ below (zQ G b FQ) args s 0 0 (fun q : Nat => b ≤ q)) 0 0 0 [some (.ref P), some (.int sd), some (.int u), some (.int k), none] [] S
  have hE9 := hE
  obtain ⟨hT, q_un, q_hu, q_ac, q_ta, q_st, q_fk, q_fp, q_om, q_67, q_68, q_69, q_70, q_71⟩ := hE
  obtain ⟨z_lt, z_o, z_s, z_read, z_aside, z_kept, z_guest, z_readGuest, z_tape, z_unitName, z_hunterName, z_partyName, z_bits, z_partyOf, z_choiceAt, z_sizes, z_guestMany, z_pointsOf, z_ticketsOf, z_ord, z_given, z_roundOf, z_tags, z_guestTags, z_places, z_sumAt, z_sumFirst, z_sumRound, z_sumBoth, z_sumTags, z_isEnd, z_newPoints, z_inRow, z_out⟩ := id hT
  refine a_iload_n X dX8_next__0 rfl ?_
  refine a_callSv X dX8_next__1 miX8_isSeed lm8_358 (m_isSeed) rfl rfl (Nat.le_of_ble_eq_true rfl) ⟨by decide, by decide, by decide, by decide⟩ ?_
  refine a_if_eq (tgt := 19) X dX8_next__4 (by decide) (fun h_4 => ?_) (fun h_4 => ?_)
  · refine a_aload_n X dX8_next__19 rfl ?_
    refine a_iconst (v := 1) X dX8_next__20 (by decide) ?_
    refine a_callVv X dX8_next__21 miX8_refuse lm8_263 (m_refuse (by assumption)) (by assumption) rfl rfl rfl (Nat.le_of_ble_eq_true rfl) ⟨by decide, by decide, by decide, by decide⟩ ?_
    refine a_iret X hr dX8_next__24 ⟨by decide, by decide⟩ ?_
    subst hF
    rfl
  · refine a_iload_n X dX8_next__7 rfl ?_
    refine a_i2l X dX8_next__8 ?_
    refine a_lconst (v := 0) X dX8_next__9 (by decide) ?_
    refine a_ldc2 X dX8_next__10 lk8_377 ?_
    refine a_callSv X dX8_next__13 miX8_isFrom lm8_128 (m_isFrom (lo := 0) (hi := 20) (by decide) (by decide)) rfl rfl (Nat.le_of_ble_eq_true rfl) ⟨by decide, by decide, by decide, by decide⟩ ?_
    refine a_if_ne (tgt := 25) X dX8_next__16 (by decide) (fun h_16 => ?_) (fun h_16 => ?_)
    · refine a_aload_n X dX8_next__25 rfl ?_
      refine a_iload_n X dX8_next__26 rfl ?_
      refine a_callVv X dX8_next__27 miX8_isUnit lm8_301 (m_isUnit0 (by assumption) (by first | assumption | simp [zu, *])) (by assumption) rfl rfl rfl (Nat.le_of_ble_eq_true rfl) ⟨by decide, by decide, by decide, by decide⟩ ?_
      refine a_if_ne (tgt := 39) X dX8_next__30 (by decide) (fun h_30 => absurd rfl h_30) (fun h_30 => ?_)
      refine a_aload_n X dX8_next__33 rfl ?_
      refine a_iconst (v := 2) X dX8_next__34 (by decide) ?_
      refine a_callVv X dX8_next__35 miX8_refuse lm8_263 (m_refuse (by assumption)) (by assumption) rfl rfl rfl (Nat.le_of_ble_eq_true rfl) ⟨by decide, by decide, by decide, by decide⟩ ?_
      refine a_iret X hr dX8_next__38 ⟨by decide, by decide⟩ ?_
      subst hF
      rfl
    · refine a_aload_n X dX8_next__19 rfl ?_
      refine a_iconst (v := 1) X dX8_next__20 (by decide) ?_
      refine a_callVv X dX8_next__21 miX8_refuse lm8_263 (m_refuse (by assumption)) (by assumption) rfl rfl rfl (Nat.le_of_ble_eq_true rfl) ⟨by decide, by decide, by decide, by decide⟩ ?_
      refine a_iret X hr dX8_next__24 ⟨by decide, by decide⟩ ?_
      subst hF
      rfl
set_option maxRecDepth 100000 in
theorem m_envies {l : Launch} {G : zG} {b : Nat} {S : zS} {P : Nat} {sd : Int32} {a : Int32} (hE : zE8 S P) : zM l G b yX8_envies cX8_envies 6 (some .int) 4 0 0 [.ref P, .int sd, .int a] S (fun r _ => r = some (.int (-1))) := by
  refine zM.of miX8_envies (Nat.le_of_ble_eq_true rfl) ?_
  intro p e s m args below meth c X hr hname
  generalize hF : ((fun r _ => r = some (.int (-1))) : Option Value → zS → Prop) = FQ
  change Zw p l e { frames := 4, cells := 0, slots := 0, locals := 80 * 4 } s m args below meth c G b 6 (MQ below (zQ G b FQ) args s 0 0 (fun q : Nat => b ≤ q)) 0 0 0 [some (.ref P), some (.int sd), some (.int a), none, none, none] [] S
  have hE9 := hE
  obtain ⟨hT, q_un, q_hu, q_ac, q_ta, q_st, q_fk, q_fp, q_om, q_67, q_68, q_69, q_70, q_71⟩ := hE
  obtain ⟨z_lt, z_o, z_s, z_read, z_aside, z_kept, z_guest, z_readGuest, z_tape, z_unitName, z_hunterName, z_partyName, z_bits, z_partyOf, z_choiceAt, z_sizes, z_guestMany, z_pointsOf, z_ticketsOf, z_ord, z_given, z_roundOf, z_tags, z_guestTags, z_places, z_sumAt, z_sumFirst, z_sumRound, z_sumBoth, z_sumTags, z_isEnd, z_newPoints, z_inRow, z_out⟩ := id hT
  refine a_iload_n X dX8_envies_0 rfl ?_
  refine a_callSv X dX8_envies_1 miX8_isSeed lm8_358 (m_isSeed) rfl rfl (Nat.le_of_ble_eq_true rfl) ⟨by decide, by decide, by decide, by decide⟩ ?_
  refine a_if_ne (tgt := 13) X dX8_envies_4 (by decide) (fun h_4 => ?_) (fun h_4 => ?_)
  · refine a_aload_n X dX8_envies_13 rfl ?_
    refine a_iload_n X dX8_envies_14 rfl ?_
    refine a_callVv X dX8_envies_15 miX8_isApplicant lm8_315 (m_isApplicant0 (by assumption) (by first | assumption | simp [zu, *]) (by first | assumption | simp [zu, *]) (by first | assumption | simp [zu, *])) (by assumption) rfl rfl rfl (Nat.le_of_ble_eq_true rfl) ⟨by decide, by decide, by decide, by decide⟩ ?_
    refine a_if_ne (tgt := 27) X dX8_envies_18 (by decide) (fun h_18 => absurd rfl h_18) (fun h_18 => ?_)
    refine a_aload_n X dX8_envies_21 rfl ?_
    refine a_iconst (v := 2) X dX8_envies_22 (by decide) ?_
    refine a_callVv X dX8_envies_23 miX8_refuse lm8_263 (m_refuse (by assumption)) (by assumption) rfl rfl rfl (Nat.le_of_ble_eq_true rfl) ⟨by decide, by decide, by decide, by decide⟩ ?_
    refine a_iret X hr dX8_envies_26 ⟨by decide, by decide⟩ ?_
    subst hF
    rfl
  · refine a_aload_n X dX8_envies_7 rfl ?_
    refine a_iconst (v := 1) X dX8_envies_8 (by decide) ?_
    refine a_callVv X dX8_envies_9 miX8_refuse lm8_263 (m_refuse (by assumption)) (by assumption) rfl rfl rfl (Nat.le_of_ble_eq_true rfl) ⟨by decide, by decide, by decide, by decide⟩ ?_
    refine a_iret X hr dX8_envies_12 ⟨by decide, by decide⟩ ?_
    subst hF
    rfl
set_option maxRecDepth 100000 in
theorem m_spoils {l : Launch} {G : zG} {b : Nat} {S : zS} {P : Nat} {sd : Int32} {a : Int32} (hE : zE8 S P) : zM l G b yX8_spoils cX8_spoils 5 (some .int) 4 0 0 [.ref P, .int sd, .int a] S (fun r _ => r = some (.int (-1))) := by
  refine zM.of miX8_spoils (Nat.le_of_ble_eq_true rfl) ?_
  intro p e s m args below meth c X hr hname
  generalize hF : ((fun r _ => r = some (.int (-1))) : Option Value → zS → Prop) = FQ
  change Zw p l e { frames := 4, cells := 0, slots := 0, locals := 80 * 4 } s m args below meth c G b 5 (MQ below (zQ G b FQ) args s 0 0 (fun q : Nat => b ≤ q)) 0 0 0 [some (.ref P), some (.int sd), some (.int a), none, none] [] S
  have hE9 := hE
  obtain ⟨hT, q_un, q_hu, q_ac, q_ta, q_st, q_fk, q_fp, q_om, q_67, q_68, q_69, q_70, q_71⟩ := hE
  obtain ⟨z_lt, z_o, z_s, z_read, z_aside, z_kept, z_guest, z_readGuest, z_tape, z_unitName, z_hunterName, z_partyName, z_bits, z_partyOf, z_choiceAt, z_sizes, z_guestMany, z_pointsOf, z_ticketsOf, z_ord, z_given, z_roundOf, z_tags, z_guestTags, z_places, z_sumAt, z_sumFirst, z_sumRound, z_sumBoth, z_sumTags, z_isEnd, z_newPoints, z_inRow, z_out⟩ := id hT
  refine a_iload_n X dX8_spoils_0 rfl ?_
  refine a_callSv X dX8_spoils_1 miX8_isSeed lm8_358 (m_isSeed) rfl rfl (Nat.le_of_ble_eq_true rfl) ⟨by decide, by decide, by decide, by decide⟩ ?_
  refine a_if_ne (tgt := 13) X dX8_spoils_4 (by decide) (fun h_4 => ?_) (fun h_4 => ?_)
  · refine a_aload_n X dX8_spoils_13 rfl ?_
    refine a_iload_n X dX8_spoils_14 rfl ?_
    refine a_callVv X dX8_spoils_15 miX8_isApplicant lm8_315 (m_isApplicant0 (by assumption) (by first | assumption | simp [zu, *]) (by first | assumption | simp [zu, *]) (by first | assumption | simp [zu, *])) (by assumption) rfl rfl rfl (Nat.le_of_ble_eq_true rfl) ⟨by decide, by decide, by decide, by decide⟩ ?_
    refine a_if_ne (tgt := 27) X dX8_spoils_18 (by decide) (fun h_18 => absurd rfl h_18) (fun h_18 => ?_)
    refine a_aload_n X dX8_spoils_21 rfl ?_
    refine a_iconst (v := 2) X dX8_spoils_22 (by decide) ?_
    refine a_callVv X dX8_spoils_23 miX8_refuse lm8_263 (m_refuse (by assumption)) (by assumption) rfl rfl rfl (Nat.le_of_ble_eq_true rfl) ⟨by decide, by decide, by decide, by decide⟩ ?_
    refine a_iret X hr dX8_spoils_26 ⟨by decide, by decide⟩ ?_
    subst hF
    rfl
  · refine a_aload_n X dX8_spoils_7 rfl ?_
    refine a_iconst (v := 1) X dX8_spoils_8 (by decide) ?_
    refine a_callVv X dX8_spoils_9 miX8_refuse lm8_263 (m_refuse (by assumption)) (by assumption) rfl rfl rfl (Nat.le_of_ble_eq_true rfl) ⟨by decide, by decide, by decide, by decide⟩ ?_
    refine a_iret X hr dX8_spoils_12 ⟨by decide, by decide⟩ ?_
    subst hF
    rfl
set_option maxRecDepth 100000 in
theorem m_behind {l : Launch} {G : zG} {b : Nat} {S : zS} {P : Nat} {sd : Int32} {h : Int32} (hE : zE8 S P) : zM l G b yX8_behind cX8_behind 3 (some .int) 4 0 0 [.ref P, .int sd, .int h] S (fun r _ => r = some (.int (-1))) := by
  refine zM.of miX8_behind (Nat.le_of_ble_eq_true rfl) ?_
  intro p e s m args below meth c X hr hname
  generalize hF : ((fun r _ => r = some (.int (-1))) : Option Value → zS → Prop) = FQ
  change Zw p l e { frames := 4, cells := 0, slots := 0, locals := 80 * 4 } s m args below meth c G b 3 (MQ below (zQ G b FQ) args s 0 0 (fun q : Nat => b ≤ q)) 0 0 0 [some (.ref P), some (.int sd), some (.int h)] [] S
  have hE9 := hE
  obtain ⟨hT, q_un, q_hu, q_ac, q_ta, q_st, q_fk, q_fp, q_om, q_67, q_68, q_69, q_70, q_71⟩ := hE
  obtain ⟨z_lt, z_o, z_s, z_read, z_aside, z_kept, z_guest, z_readGuest, z_tape, z_unitName, z_hunterName, z_partyName, z_bits, z_partyOf, z_choiceAt, z_sizes, z_guestMany, z_pointsOf, z_ticketsOf, z_ord, z_given, z_roundOf, z_tags, z_guestTags, z_places, z_sumAt, z_sumFirst, z_sumRound, z_sumBoth, z_sumTags, z_isEnd, z_newPoints, z_inRow, z_out⟩ := id hT
  refine a_iload_n X dX8_behind_0 rfl ?_
  refine a_callSv X dX8_behind_1 miX8_isSeed lm8_358 (m_isSeed) rfl rfl (Nat.le_of_ble_eq_true rfl) ⟨by decide, by decide, by decide, by decide⟩ ?_
  refine a_if_ne (tgt := 13) X dX8_behind_4 (by decide) (fun h_4 => ?_) (fun h_4 => ?_)
  · refine a_aload_n X dX8_behind_13 rfl ?_
    refine a_iload_n X dX8_behind_14 rfl ?_
    refine a_callVv X dX8_behind_15 miX8_isHunter lm8_293 (m_isHunter0 (by assumption) (by first | assumption | simp [zu, *])) (by assumption) rfl rfl rfl (Nat.le_of_ble_eq_true rfl) ⟨by decide, by decide, by decide, by decide⟩ ?_
    refine a_if_ne (tgt := 27) X dX8_behind_18 (by decide) (fun h_18 => absurd rfl h_18) (fun h_18 => ?_)
    refine a_aload_n X dX8_behind_21 rfl ?_
    refine a_iconst (v := 2) X dX8_behind_22 (by decide) ?_
    refine a_callVv X dX8_behind_23 miX8_refuse lm8_263 (m_refuse (by assumption)) (by assumption) rfl rfl rfl (Nat.le_of_ble_eq_true rfl) ⟨by decide, by decide, by decide, by decide⟩ ?_
    refine a_iret X hr dX8_behind_26 ⟨by decide, by decide⟩ ?_
    subst hF
    rfl
  · refine a_aload_n X dX8_behind_7 rfl ?_
    refine a_iconst (v := 1) X dX8_behind_8 (by decide) ?_
    refine a_callVv X dX8_behind_9 miX8_refuse lm8_263 (m_refuse (by assumption)) (by assumption) rfl rfl rfl (Nat.le_of_ble_eq_true rfl) ⟨by decide, by decide, by decide, by decide⟩ ?_
    refine a_iret X hr dX8_behind_12 ⟨by decide, by decide⟩ ?_
    subst hF
    rfl
set_option maxRecDepth 100000 in
theorem m_lucky {l : Launch} {G : zG} {b : Nat} {S : zS} {P : Nat} {sd : Int32} {a : Int32} (hE : zE8 S P) : zM l G b yX8_lucky cX8_lucky 4 (some .int) 4 0 0 [.ref P, .int sd, .int a] S (fun r _ => r = some (.int (-1))) := by
  refine zM.of miX8_lucky (Nat.le_of_ble_eq_true rfl) ?_
  intro p e s m args below meth c X hr hname
  generalize hF : ((fun r _ => r = some (.int (-1))) : Option Value → zS → Prop) = FQ
  change Zw p l e { frames := 4, cells := 0, slots := 0, locals := 80 * 4 } s m args below meth c G b 4 (MQ below (zQ G b FQ) args s 0 0 (fun q : Nat => b ≤ q)) 0 0 0 [some (.ref P), some (.int sd), some (.int a), none] [] S
  have hE9 := hE
  obtain ⟨hT, q_un, q_hu, q_ac, q_ta, q_st, q_fk, q_fp, q_om, q_67, q_68, q_69, q_70, q_71⟩ := hE
  obtain ⟨z_lt, z_o, z_s, z_read, z_aside, z_kept, z_guest, z_readGuest, z_tape, z_unitName, z_hunterName, z_partyName, z_bits, z_partyOf, z_choiceAt, z_sizes, z_guestMany, z_pointsOf, z_ticketsOf, z_ord, z_given, z_roundOf, z_tags, z_guestTags, z_places, z_sumAt, z_sumFirst, z_sumRound, z_sumBoth, z_sumTags, z_isEnd, z_newPoints, z_inRow, z_out⟩ := id hT
  refine a_iload_n X dX8_lucky_0 rfl ?_
  refine a_i2l X dX8_lucky_1 ?_
  refine a_lconst (v := 0) X dX8_lucky_2 (by decide) ?_
  refine a_ldc2 X dX8_lucky_3 lk8_385 ?_
  refine a_callSv X dX8_lucky_6 miX8_isFrom lm8_128 (m_isFrom (lo := 0) (hi := 999999949) (by decide) (by decide)) rfl rfl (Nat.le_of_ble_eq_true rfl) ⟨by decide, by decide, by decide, by decide⟩ ?_
  refine a_if_ne (tgt := 18) X dX8_lucky_9 (by decide) (fun h_9 => ?_) (fun h_9 => ?_)
  · refine a_aload_n X dX8_lucky_18 rfl ?_
    refine a_iload_n X dX8_lucky_19 rfl ?_
    refine a_callVv X dX8_lucky_20 miX8_isApplicant lm8_315 (m_isApplicant0 (by assumption) (by first | assumption | simp [zu, *]) (by first | assumption | simp [zu, *]) (by first | assumption | simp [zu, *])) (by assumption) rfl rfl rfl (Nat.le_of_ble_eq_true rfl) ⟨by decide, by decide, by decide, by decide⟩ ?_
    refine a_if_ne (tgt := 32) X dX8_lucky_23 (by decide) (fun h_23 => absurd rfl h_23) (fun h_23 => ?_)
    refine a_aload_n X dX8_lucky_26 rfl ?_
    refine a_iconst (v := 2) X dX8_lucky_27 (by decide) ?_
    refine a_callVv X dX8_lucky_28 miX8_refuse lm8_263 (m_refuse (by assumption)) (by assumption) rfl rfl rfl (Nat.le_of_ble_eq_true rfl) ⟨by decide, by decide, by decide, by decide⟩ ?_
    refine a_iret X hr dX8_lucky_31 ⟨by decide, by decide⟩ ?_
    subst hF
    rfl
  · refine a_aload_n X dX8_lucky_12 rfl ?_
    refine a_iconst (v := 1) X dX8_lucky_13 (by decide) ?_
    refine a_callVv X dX8_lucky_14 miX8_refuse lm8_263 (m_refuse (by assumption)) (by assumption) rfl rfl rfl (Nat.le_of_ble_eq_true rfl) ⟨by decide, by decide, by decide, by decide⟩ ?_
    refine a_iret X hr dX8_lucky_17 ⟨by decide, by decide⟩ ?_
    subst hF
    rfl
set_option maxRecDepth 100000 in
theorem m_need {l : Launch} {G : zG} {b : Nat} {S : zS} {P : Nat} {h : Int32} {t : Int32} (hE : zE8 S P) : zM l G b yX8_need cX8_need 6 (some .int) 4 0 0 [.ref P, .int h, .int t] S (fun r _ => r = some (.int (-1))) := by
  refine zM.of miX8_need (Nat.le_of_ble_eq_true rfl) ?_
  intro p e s m args below meth c X hr hname
  generalize hF : ((fun r _ => r = some (.int (-1))) : Option Value → zS → Prop) = FQ
  change Zw p l e { frames := 4, cells := 0, slots := 0, locals := 80 * 4 } s m args below meth c G b 6 (MQ below (zQ G b FQ) args s 0 0 (fun q : Nat => b ≤ q)) 0 0 0 [some (.ref P), some (.int h), some (.int t), none, none, none] [] S
  have hE9 := hE
  obtain ⟨hT, q_un, q_hu, q_ac, q_ta, q_st, q_fk, q_fp, q_om, q_67, q_68, q_69, q_70, q_71⟩ := hE
  obtain ⟨z_lt, z_o, z_s, z_read, z_aside, z_kept, z_guest, z_readGuest, z_tape, z_unitName, z_hunterName, z_partyName, z_bits, z_partyOf, z_choiceAt, z_sizes, z_guestMany, z_pointsOf, z_ticketsOf, z_ord, z_given, z_roundOf, z_tags, z_guestTags, z_places, z_sumAt, z_sumFirst, z_sumRound, z_sumBoth, z_sumTags, z_isEnd, z_newPoints, z_inRow, z_out⟩ := id hT
  refine a_iload_n X dX8_need_0 rfl ?_
  refine a_i2l X dX8_need_1 ?_
  refine a_lconst (v := 0) X dX8_need_2 (by decide) ?_
  refine a_ldc2 X dX8_need_3 lk8_442 ?_
  refine a_callSv X dX8_need_6 miX8_isFrom lm8_128 (m_isFrom (lo := 0) (hi := 1000) (by decide) (by decide)) rfl rfl (Nat.le_of_ble_eq_true rfl) ⟨by decide, by decide, by decide, by decide⟩ ?_
  refine a_if_ne (tgt := 18) X dX8_need_9 (by decide) (fun h_9 => ?_) (fun h_9 => ?_)
  · refine a_aload_n X dX8_need_18 rfl ?_
    refine a_iload_n X dX8_need_19 rfl ?_
    refine a_callVv X dX8_need_20 miX8_isHunter lm8_293 (m_isHunter0 (by assumption) (by first | assumption | simp [zu, *])) (by assumption) rfl rfl rfl (Nat.le_of_ble_eq_true rfl) ⟨by decide, by decide, by decide, by decide⟩ ?_
    refine a_if_ne (tgt := 32) X dX8_need_23 (by decide) (fun h_23 => absurd rfl h_23) (fun h_23 => ?_)
    refine a_aload_n X dX8_need_26 rfl ?_
    refine a_iconst (v := 2) X dX8_need_27 (by decide) ?_
    refine a_callVv X dX8_need_28 miX8_refuse lm8_263 (m_refuse (by assumption)) (by assumption) rfl rfl rfl (Nat.le_of_ble_eq_true rfl) ⟨by decide, by decide, by decide, by decide⟩ ?_
    refine a_iret X hr dX8_need_31 ⟨by decide, by decide⟩ ?_
    subst hF
    rfl
  · refine a_aload_n X dX8_need_12 rfl ?_
    refine a_iconst (v := 1) X dX8_need_13 (by decide) ?_
    refine a_callVv X dX8_need_14 miX8_refuse lm8_263 (m_refuse (by assumption)) (by assumption) rfl rfl rfl (Nat.le_of_ble_eq_true rfl) ⟨by decide, by decide, by decide, by decide⟩ ?_
    refine a_iret X hr dX8_need_17 ⟨by decide, by decide⟩ ?_
    subst hF
    rfl
set_option maxRecDepth 100000 in
theorem m_often {l : Launch} {G : zG} {b : Nat} {S : zS} {P : Nat} {sd : Int32} {n : Int32} {h : Int32} (hE : zE8 S P) : zM l G b yX8_often cX8_often 6 (some .int) 4 0 0 [.ref P, .int sd, .int n, .int h] S (fun r _ => r = some (.int (-1))) := by
  refine zM.of miX8_often (Nat.le_of_ble_eq_true rfl) ?_
  intro p e s m args below meth c X hr hname
  generalize hF : ((fun r _ => r = some (.int (-1))) : Option Value → zS → Prop) = FQ
  change Zw p l e { frames := 4, cells := 0, slots := 0, locals := 80 * 4 } s m args below meth c G b 6 (MQ below (zQ G b FQ) args s 0 0 (fun q : Nat => b ≤ q)) 0 0 0 [some (.ref P), some (.int sd), some (.int n), some (.int h), none, none] [] S
  have hE9 := hE
  obtain ⟨hT, q_un, q_hu, q_ac, q_ta, q_st, q_fk, q_fp, q_om, q_67, q_68, q_69, q_70, q_71⟩ := hE
  obtain ⟨z_lt, z_o, z_s, z_read, z_aside, z_kept, z_guest, z_readGuest, z_tape, z_unitName, z_hunterName, z_partyName, z_bits, z_partyOf, z_choiceAt, z_sizes, z_guestMany, z_pointsOf, z_ticketsOf, z_ord, z_given, z_roundOf, z_tags, z_guestTags, z_places, z_sumAt, z_sumFirst, z_sumRound, z_sumBoth, z_sumTags, z_isEnd, z_newPoints, z_inRow, z_out⟩ := id hT
  refine a_iload_n X dX8_often_0 rfl ?_
  refine a_iload_n X dX8_often_1 rfl ?_
  refine a_callSv X dX8_often_2 miX8_areYears lm8_471 (m_areYears) rfl rfl (Nat.le_of_ble_eq_true rfl) ⟨by decide, by decide, by decide, by decide⟩ ?_
  refine a_if_ne (tgt := 14) X dX8_often_5 (by decide) (fun h_5 => ?_) (fun h_5 => ?_)
  · refine a_aload_n X dX8_often_14 rfl ?_
    refine a_iload_n X dX8_often_15 rfl ?_
    refine a_callVv X dX8_often_16 miX8_isHunter lm8_293 (m_isHunter0 (by assumption) (by first | assumption | simp [zu, *])) (by assumption) rfl rfl rfl (Nat.le_of_ble_eq_true rfl) ⟨by decide, by decide, by decide, by decide⟩ ?_
    refine a_if_ne (tgt := 28) X dX8_often_19 (by decide) (fun h_19 => absurd rfl h_19) (fun h_19 => ?_)
    refine a_aload_n X dX8_often_22 rfl ?_
    refine a_iconst (v := 2) X dX8_often_23 (by decide) ?_
    refine a_callVv X dX8_often_24 miX8_refuse lm8_263 (m_refuse (by assumption)) (by assumption) rfl rfl rfl (Nat.le_of_ble_eq_true rfl) ⟨by decide, by decide, by decide, by decide⟩ ?_
    refine a_iret X hr dX8_often_27 ⟨by decide, by decide⟩ ?_
    subst hF
    rfl
  · refine a_aload_n X dX8_often_8 rfl ?_
    refine a_iconst (v := 1) X dX8_often_9 (by decide) ?_
    refine a_callVv X dX8_often_10 miX8_refuse lm8_263 (m_refuse (by assumption)) (by assumption) rfl rfl rfl (Nat.le_of_ble_eq_true rfl) ⟨by decide, by decide, by decide, by decide⟩ ?_
    refine a_iret X hr dX8_often_13 ⟨by decide, by decide⟩ ?_
    subst hF
    rfl
set_option maxRecDepth 100000 in
theorem m_soonest {l : Launch} {G : zG} {b : Nat} {S : zS} {P : Nat} {sd : Int32} {n : Int32} {h : Int32} (hE : zE8 S P) : zM l G b yX8_soonest cX8_soonest 7 (some .int) 4 0 0 [.ref P, .int sd, .int n, .int h] S (fun r _ => r = some (.int (-1))) := by
  refine zM.of miX8_soonest (Nat.le_of_ble_eq_true rfl) ?_
  intro p e s m args below meth c X hr hname
  generalize hF : ((fun r _ => r = some (.int (-1))) : Option Value → zS → Prop) = FQ
  change Zw p l e { frames := 4, cells := 0, slots := 0, locals := 80 * 4 } s m args below meth c G b 7 (MQ below (zQ G b FQ) args s 0 0 (fun q : Nat => b ≤ q)) 0 0 0 [some (.ref P), some (.int sd), some (.int n), some (.int h), none, none, none] [] S
  have hE9 := hE
  obtain ⟨hT, q_un, q_hu, q_ac, q_ta, q_st, q_fk, q_fp, q_om, q_67, q_68, q_69, q_70, q_71⟩ := hE
  obtain ⟨z_lt, z_o, z_s, z_read, z_aside, z_kept, z_guest, z_readGuest, z_tape, z_unitName, z_hunterName, z_partyName, z_bits, z_partyOf, z_choiceAt, z_sizes, z_guestMany, z_pointsOf, z_ticketsOf, z_ord, z_given, z_roundOf, z_tags, z_guestTags, z_places, z_sumAt, z_sumFirst, z_sumRound, z_sumBoth, z_sumTags, z_isEnd, z_newPoints, z_inRow, z_out⟩ := id hT
  refine a_iload_n X dX8_soonest_0 rfl ?_
  refine a_iload_n X dX8_soonest_1 rfl ?_
  refine a_callSv X dX8_soonest_2 miX8_areYears lm8_471 (m_areYears) rfl rfl (Nat.le_of_ble_eq_true rfl) ⟨by decide, by decide, by decide, by decide⟩ ?_
  refine a_if_ne (tgt := 14) X dX8_soonest_5 (by decide) (fun h_5 => ?_) (fun h_5 => ?_)
  · refine a_aload_n X dX8_soonest_14 rfl ?_
    refine a_iload_n X dX8_soonest_15 rfl ?_
    refine a_callVv X dX8_soonest_16 miX8_isHunter lm8_293 (m_isHunter0 (by assumption) (by first | assumption | simp [zu, *])) (by assumption) rfl rfl rfl (Nat.le_of_ble_eq_true rfl) ⟨by decide, by decide, by decide, by decide⟩ ?_
    refine a_if_ne (tgt := 28) X dX8_soonest_19 (by decide) (fun h_19 => absurd rfl h_19) (fun h_19 => ?_)
    refine a_aload_n X dX8_soonest_22 rfl ?_
    refine a_iconst (v := 2) X dX8_soonest_23 (by decide) ?_
    refine a_callVv X dX8_soonest_24 miX8_refuse lm8_263 (m_refuse (by assumption)) (by assumption) rfl rfl rfl (Nat.le_of_ble_eq_true rfl) ⟨by decide, by decide, by decide, by decide⟩ ?_
    refine a_iret X hr dX8_soonest_27 ⟨by decide, by decide⟩ ?_
    subst hF
    rfl
  · refine a_aload_n X dX8_soonest_8 rfl ?_
    refine a_iconst (v := 1) X dX8_soonest_9 (by decide) ?_
    refine a_callVv X dX8_soonest_10 miX8_refuse lm8_263 (m_refuse (by assumption)) (by assumption) rfl rfl rfl (Nat.le_of_ble_eq_true rfl) ⟨by decide, by decide, by decide, by decide⟩ ?_
    refine a_iret X hr dX8_soonest_13 ⟨by decide, by decide⟩ ?_
    subst hF
    rfl
set_option maxRecDepth 100000 in
theorem m_points {l : Launch} {G : zG} {b : Nat} {S : zS} {P : Nat} {h : Int32} {v : Int32} (hE : zE8 S P) : zM l G b yX8_points cX8_points 3 (some .int) 4 0 0 [.ref P, .int h, .int v] S (fun r _ => r = some (.int (-1))) := by
  refine zM.of miX8_points (Nat.le_of_ble_eq_true rfl) ?_
  intro p e s m args below meth c X hr hname
  generalize hF : ((fun r _ => r = some (.int (-1))) : Option Value → zS → Prop) = FQ
  change Zw p l e { frames := 4, cells := 0, slots := 0, locals := 80 * 4 } s m args below meth c G b 3 (MQ below (zQ G b FQ) args s 0 0 (fun q : Nat => b ≤ q)) 0 0 0 [some (.ref P), some (.int h), some (.int v)] [] S
  have hE9 := hE
  obtain ⟨hT, q_un, q_hu, q_ac, q_ta, q_st, q_fk, q_fp, q_om, q_67, q_68, q_69, q_70, q_71⟩ := hE
  obtain ⟨z_lt, z_o, z_s, z_read, z_aside, z_kept, z_guest, z_readGuest, z_tape, z_unitName, z_hunterName, z_partyName, z_bits, z_partyOf, z_choiceAt, z_sizes, z_guestMany, z_pointsOf, z_ticketsOf, z_ord, z_given, z_roundOf, z_tags, z_guestTags, z_places, z_sumAt, z_sumFirst, z_sumRound, z_sumBoth, z_sumTags, z_isEnd, z_newPoints, z_inRow, z_out⟩ := id hT
  refine a_iload_n X dX8_points_0 rfl ?_
  refine a_i2l X dX8_points_1 ?_
  refine a_lconst (v := 0) X dX8_points_2 (by decide) ?_
  refine a_ldc2 X dX8_points_3 lk8_377 ?_
  refine a_callSv X dX8_points_6 miX8_isFrom lm8_128 (m_isFrom (lo := 0) (hi := 20) (by decide) (by decide)) rfl rfl (Nat.le_of_ble_eq_true rfl) ⟨by decide, by decide, by decide, by decide⟩ ?_
  refine a_if_ne (tgt := 18) X dX8_points_9 (by decide) (fun h_9 => ?_) (fun h_9 => ?_)
  · refine a_aload_n X dX8_points_18 rfl ?_
    refine a_iload_n X dX8_points_19 rfl ?_
    refine a_callVv X dX8_points_20 miX8_isHunter lm8_293 (m_isHunter0 (by assumption) (by first | assumption | simp [zu, *])) (by assumption) rfl rfl rfl (Nat.le_of_ble_eq_true rfl) ⟨by decide, by decide, by decide, by decide⟩ ?_
    refine a_if_eq (tgt := 37) X dX8_points_23 (by decide) (fun h_23 => ?_) (fun h_23 => absurd rfl h_23)
    refine a_aload_n X dX8_points_37 rfl ?_
    refine a_iconst (v := 2) X dX8_points_38 (by decide) ?_
    refine a_callVv X dX8_points_39 miX8_refuse lm8_263 (m_refuse (by assumption)) (by assumption) rfl rfl rfl (Nat.le_of_ble_eq_true rfl) ⟨by decide, by decide, by decide, by decide⟩ ?_
    refine a_iret X hr dX8_points_42 ⟨by decide, by decide⟩ ?_
    subst hF
    rfl
  · refine a_aload_n X dX8_points_12 rfl ?_
    refine a_iconst (v := 1) X dX8_points_13 (by decide) ?_
    refine a_callVv X dX8_points_14 miX8_refuse lm8_263 (m_refuse (by assumption)) (by assumption) rfl rfl rfl (Nat.le_of_ble_eq_true rfl) ⟨by decide, by decide, by decide, by decide⟩ ?_
    refine a_iret X hr dX8_points_17 ⟨by decide, by decide⟩ ?_
    subst hF
    rfl
set_option maxRecDepth 100000 in
theorem m_quota {l : Launch} {G : zG} {b : Nat} {S : zS} {P : Nat} {u : Int32} {v : Int32} (hE : zE8 S P) : zM l G b yX8_quota cX8_quota 3 (some .int) 4 0 0 [.ref P, .int u, .int v] S (fun r _ => r = some (.int (-1))) := by
  refine zM.of miX8_quota (Nat.le_of_ble_eq_true rfl) ?_
  intro p e s m args below meth c X hr hname
  generalize hF : ((fun r _ => r = some (.int (-1))) : Option Value → zS → Prop) = FQ
  change Zw p l e { frames := 4, cells := 0, slots := 0, locals := 80 * 4 } s m args below meth c G b 3 (MQ below (zQ G b FQ) args s 0 0 (fun q : Nat => b ≤ q)) 0 0 0 [some (.ref P), some (.int u), some (.int v)] [] S
  have hE9 := hE
  obtain ⟨hT, q_un, q_hu, q_ac, q_ta, q_st, q_fk, q_fp, q_om, q_67, q_68, q_69, q_70, q_71⟩ := hE
  obtain ⟨z_lt, z_o, z_s, z_read, z_aside, z_kept, z_guest, z_readGuest, z_tape, z_unitName, z_hunterName, z_partyName, z_bits, z_partyOf, z_choiceAt, z_sizes, z_guestMany, z_pointsOf, z_ticketsOf, z_ord, z_given, z_roundOf, z_tags, z_guestTags, z_places, z_sumAt, z_sumFirst, z_sumRound, z_sumBoth, z_sumTags, z_isEnd, z_newPoints, z_inRow, z_out⟩ := id hT
  refine a_iload_n X dX8_quota_0 rfl ?_
  refine a_i2l X dX8_quota_1 ?_
  refine a_lconst (v := 0) X dX8_quota_2 (by decide) ?_
  refine a_ldc2 X dX8_quota_3 lk8_377 ?_
  refine a_callSv X dX8_quota_6 miX8_isFrom lm8_128 (m_isFrom (lo := 0) (hi := 20) (by decide) (by decide)) rfl rfl (Nat.le_of_ble_eq_true rfl) ⟨by decide, by decide, by decide, by decide⟩ ?_
  refine a_if_ne (tgt := 18) X dX8_quota_9 (by decide) (fun h_9 => ?_) (fun h_9 => ?_)
  · refine a_aload_n X dX8_quota_18 rfl ?_
    refine a_iload_n X dX8_quota_19 rfl ?_
    refine a_callVv X dX8_quota_20 miX8_isUnit lm8_301 (m_isUnit0 (by assumption) (by first | assumption | simp [zu, *])) (by assumption) rfl rfl rfl (Nat.le_of_ble_eq_true rfl) ⟨by decide, by decide, by decide, by decide⟩ ?_
    refine a_if_eq (tgt := 38) X dX8_quota_23 (by decide) (fun h_23 => ?_) (fun h_23 => absurd rfl h_23)
    refine a_aload_n X dX8_quota_38 rfl ?_
    refine a_iconst (v := 2) X dX8_quota_39 (by decide) ?_
    refine a_callVv X dX8_quota_40 miX8_refuse lm8_263 (m_refuse (by assumption)) (by assumption) rfl rfl rfl (Nat.le_of_ble_eq_true rfl) ⟨by decide, by decide, by decide, by decide⟩ ?_
    refine a_iret X hr dX8_quota_43 ⟨by decide, by decide⟩ ?_
    subst hF
    rfl
  · refine a_aload_n X dX8_quota_12 rfl ?_
    refine a_iconst (v := 1) X dX8_quota_13 (by decide) ?_
    refine a_callVv X dX8_quota_14 miX8_refuse lm8_263 (m_refuse (by assumption)) (by assumption) rfl rfl rfl (Nat.le_of_ble_eq_true rfl) ⟨by decide, by decide, by decide, by decide⟩ ?_
    refine a_iret X hr dX8_quota_17 ⟨by decide, by decide⟩ ?_
    subst hF
    rfl
set_option maxRecDepth 100000 in
theorem m_split {l : Launch} {G : zG} {b : Nat} {S : zS} {P : Nat} {pt : Int32} (hE : zE8 S P) : zM l G b yX8_split cX8_split 2 (some .int) 4 0 0 [.ref P, .int pt] S (fun r _ => r = some (.int (-1))) := by
  refine zM.of miX8_split (Nat.le_of_ble_eq_true rfl) ?_
  intro p e s m args below meth c X hr hname
  generalize hF : ((fun r _ => r = some (.int (-1))) : Option Value → zS → Prop) = FQ
  change Zw p l e { frames := 4, cells := 0, slots := 0, locals := 80 * 4 } s m args below meth c G b 2 (MQ below (zQ G b FQ) args s 0 0 (fun q : Nat => b ≤ q)) 0 0 0 [some (.ref P), some (.int pt)] [] S
  have hE9 := hE
  obtain ⟨hT, q_un, q_hu, q_ac, q_ta, q_st, q_fk, q_fp, q_om, q_67, q_68, q_69, q_70, q_71⟩ := hE
  obtain ⟨z_lt, z_o, z_s, z_read, z_aside, z_kept, z_guest, z_readGuest, z_tape, z_unitName, z_hunterName, z_partyName, z_bits, z_partyOf, z_choiceAt, z_sizes, z_guestMany, z_pointsOf, z_ticketsOf, z_ord, z_given, z_roundOf, z_tags, z_guestTags, z_places, z_sumAt, z_sumFirst, z_sumRound, z_sumBoth, z_sumTags, z_isEnd, z_newPoints, z_inRow, z_out⟩ := id hT
  refine a_aload_n X dX8_split_0 rfl ?_
  refine a_iload_n X dX8_split_1 rfl ?_
  refine a_callVv X dX8_split_2 miX8_isParty lm8_463 (m_isParty0 (by assumption) (by first | assumption | simp [zu, *])) (by assumption) rfl rfl rfl (Nat.le_of_ble_eq_true rfl) ⟨by decide, by decide, by decide, by decide⟩ ?_
  refine a_if_ne (tgt := 14) X dX8_split_5 (by decide) (fun h_5 => absurd rfl h_5) (fun h_5 => ?_)
  refine a_aload_n X dX8_split_8 rfl ?_
  refine a_iconst (v := 2) X dX8_split_9 (by decide) ?_
  refine a_callVv X dX8_split_10 miX8_refuse lm8_263 (m_refuse (by assumption)) (by assumption) rfl rfl rfl (Nat.le_of_ble_eq_true rfl) ⟨by decide, by decide, by decide, by decide⟩ ?_
  refine a_iret X hr dX8_split_13 ⟨by decide, by decide⟩ ?_
  subst hF
  rfl
set_option maxRecDepth 100000 in
theorem m_likes {l : Launch} {G : zG} {b : Nat} {S : zS} {P : Nat} {a : Int32} (hE : zE8 S P) : zM l G b yX8_likes cX8_likes 6 (some .int) 4 0 0 [.ref P, .int a] S (fun r _ => r = some (.int (-1))) := by
  refine zM.of miX8_likes (Nat.le_of_ble_eq_true rfl) ?_
  intro p e s m args below meth c X hr hname
  generalize hF : ((fun r _ => r = some (.int (-1))) : Option Value → zS → Prop) = FQ
  change Zw p l e { frames := 4, cells := 0, slots := 0, locals := 80 * 4 } s m args below meth c G b 6 (MQ below (zQ G b FQ) args s 0 0 (fun q : Nat => b ≤ q)) 0 0 0 [some (.ref P), some (.int a), none, none, none, none] [] S
  have hE9 := hE
  obtain ⟨hT, q_un, q_hu, q_ac, q_ta, q_st, q_fk, q_fp, q_om, q_67, q_68, q_69, q_70, q_71⟩ := hE
  obtain ⟨z_lt, z_o, z_s, z_read, z_aside, z_kept, z_guest, z_readGuest, z_tape, z_unitName, z_hunterName, z_partyName, z_bits, z_partyOf, z_choiceAt, z_sizes, z_guestMany, z_pointsOf, z_ticketsOf, z_ord, z_given, z_roundOf, z_tags, z_guestTags, z_places, z_sumAt, z_sumFirst, z_sumRound, z_sumBoth, z_sumTags, z_isEnd, z_newPoints, z_inRow, z_out⟩ := id hT
  refine a_aload_n X dX8_likes_0 rfl ?_
  refine a_iload_n X dX8_likes_1 rfl ?_
  refine a_callVv X dX8_likes_2 miX8_isApplicant lm8_315 (m_isApplicant0 (by assumption) (by first | assumption | simp [zu, *]) (by first | assumption | simp [zu, *]) (by first | assumption | simp [zu, *])) (by assumption) rfl rfl rfl (Nat.le_of_ble_eq_true rfl) ⟨by decide, by decide, by decide, by decide⟩ ?_
  refine a_if_ne (tgt := 14) X dX8_likes_5 (by decide) (fun h_5 => absurd rfl h_5) (fun h_5 => ?_)
  refine a_aload_n X dX8_likes_8 rfl ?_
  refine a_iconst (v := 2) X dX8_likes_9 (by decide) ?_
  refine a_callVv X dX8_likes_10 miX8_refuse lm8_263 (m_refuse (by assumption)) (by assumption) rfl rfl rfl (Nat.le_of_ble_eq_true rfl) ⟨by decide, by decide, by decide, by decide⟩ ?_
  refine a_iret X hr dX8_likes_13 ⟨by decide, by decide⟩ ?_
  subst hF
  rfl
set_option maxRecDepth 100000 in
theorem m_wise {l : Launch} {G : zG} {b : Nat} {S : zS} {P : Nat} {a : Int32} (hE : zE8 S P) : zM l G b yX8_wise cX8_wise 3 (some .int) 4 0 0 [.ref P, .int a] S (fun r _ => r = some (.int (-1))) := by
  refine zM.of miX8_wise (Nat.le_of_ble_eq_true rfl) ?_
  intro p e s m args below meth c X hr hname
  generalize hF : ((fun r _ => r = some (.int (-1))) : Option Value → zS → Prop) = FQ
  change Zw p l e { frames := 4, cells := 0, slots := 0, locals := 80 * 4 } s m args below meth c G b 3 (MQ below (zQ G b FQ) args s 0 0 (fun q : Nat => b ≤ q)) 0 0 0 [some (.ref P), some (.int a), none] [] S
  have hE9 := hE
  obtain ⟨hT, q_un, q_hu, q_ac, q_ta, q_st, q_fk, q_fp, q_om, q_67, q_68, q_69, q_70, q_71⟩ := hE
  obtain ⟨z_lt, z_o, z_s, z_read, z_aside, z_kept, z_guest, z_readGuest, z_tape, z_unitName, z_hunterName, z_partyName, z_bits, z_partyOf, z_choiceAt, z_sizes, z_guestMany, z_pointsOf, z_ticketsOf, z_ord, z_given, z_roundOf, z_tags, z_guestTags, z_places, z_sumAt, z_sumFirst, z_sumRound, z_sumBoth, z_sumTags, z_isEnd, z_newPoints, z_inRow, z_out⟩ := id hT
  refine a_aload_n X dX8_wise_0 rfl ?_
  refine a_iload_n X dX8_wise_1 rfl ?_
  refine a_callVv X dX8_wise_2 miX8_isApplicant lm8_315 (m_isApplicant0 (by assumption) (by first | assumption | simp [zu, *]) (by first | assumption | simp [zu, *]) (by first | assumption | simp [zu, *])) (by assumption) rfl rfl rfl (Nat.le_of_ble_eq_true rfl) ⟨by decide, by decide, by decide, by decide⟩ ?_
  refine a_if_ne (tgt := 14) X dX8_wise_5 (by decide) (fun h_5 => absurd rfl h_5) (fun h_5 => ?_)
  refine a_aload_n X dX8_wise_8 rfl ?_
  refine a_iconst (v := 2) X dX8_wise_9 (by decide) ?_
  refine a_callVv X dX8_wise_10 miX8_refuse lm8_263 (m_refuse (by assumption)) (by assumption) rfl rfl rfl (Nat.le_of_ble_eq_true rfl) ⟨by decide, by decide, by decide, by decide⟩ ?_
  refine a_iret X hr dX8_wise_13 ⟨by decide, by decide⟩ ?_
  subst hF
  rfl
set_option maxRecDepth 100000 in
theorem m_chance {l : Launch} {G : zG} {b : Nat} {S : zS} {P : Nat} {a : Int32} {w : Int32} (hE : zE8 S P) : zM l G b yX8_chance cX8_chance 3 (some .long) 4 0 0 [.ref P, .int a, .int w] S (fun r _ => r = some (.long (-1))) := by
  refine zM.of miX8_chance (Nat.le_of_ble_eq_true rfl) ?_
  intro p e s m args below meth c X hr hname
  generalize hF : ((fun r _ => r = some (.long (-1))) : Option Value → zS → Prop) = FQ
  change Zw p l e { frames := 4, cells := 0, slots := 0, locals := 80 * 4 } s m args below meth c G b 3 (MQ below (zQ G b FQ) args s 0 0 (fun q : Nat => b ≤ q)) 0 0 0 [some (.ref P), some (.int a), some (.int w)] [] S
  have hE9 := hE
  obtain ⟨hT, q_un, q_hu, q_ac, q_ta, q_st, q_fk, q_fp, q_om, q_67, q_68, q_69, q_70, q_71⟩ := hE
  obtain ⟨z_lt, z_o, z_s, z_read, z_aside, z_kept, z_guest, z_readGuest, z_tape, z_unitName, z_hunterName, z_partyName, z_bits, z_partyOf, z_choiceAt, z_sizes, z_guestMany, z_pointsOf, z_ticketsOf, z_ord, z_given, z_roundOf, z_tags, z_guestTags, z_places, z_sumAt, z_sumFirst, z_sumRound, z_sumBoth, z_sumTags, z_isEnd, z_newPoints, z_inRow, z_out⟩ := id hT
  refine a_iload_n X dX8_chance_0 rfl ?_
  refine a_i2l X dX8_chance_1 ?_
  refine a_lconst (v := 0) X dX8_chance_2 (by decide) ?_
  refine a_ldc2 X dX8_chance_3 lk8_427 ?_
  refine a_callSv X dX8_chance_6 miX8_isFrom lm8_128 (m_isFrom (lo := 0) (hi := 2) (by decide) (by decide)) rfl rfl (Nat.le_of_ble_eq_true rfl) ⟨by decide, by decide, by decide, by decide⟩ ?_
  refine a_if_ne (tgt := 19) X dX8_chance_9 (by decide) (fun h_9 => ?_) (fun h_9 => ?_)
  · refine a_aload_n X dX8_chance_19 rfl ?_
    refine a_iload_n X dX8_chance_20 rfl ?_
    refine a_callVv X dX8_chance_21 miX8_isApplicant lm8_315 (m_isApplicant0 (by assumption) (by first | assumption | simp [zu, *]) (by first | assumption | simp [zu, *]) (by first | assumption | simp [zu, *])) (by assumption) rfl rfl rfl (Nat.le_of_ble_eq_true rfl) ⟨by decide, by decide, by decide, by decide⟩ ?_
    refine a_if_ne (tgt := 34) X dX8_chance_24 (by decide) (fun h_24 => absurd rfl h_24) (fun h_24 => ?_)
    refine a_aload_n X dX8_chance_27 rfl ?_
    refine a_iconst (v := 2) X dX8_chance_28 (by decide) ?_
    refine a_callVv X dX8_chance_29 miX8_refuse lm8_263 (m_refuse (by assumption)) (by assumption) rfl rfl rfl (Nat.le_of_ble_eq_true rfl) ⟨by decide, by decide, by decide, by decide⟩ ?_
    refine a_i2l X dX8_chance_32 ?_
    refine a_lret X hr dX8_chance_33 ⟨by decide, by decide⟩ ?_
    subst hF
    rfl
  · refine a_aload_n X dX8_chance_12 rfl ?_
    refine a_iconst (v := 1) X dX8_chance_13 (by decide) ?_
    refine a_callVv X dX8_chance_14 miX8_refuse lm8_263 (m_refuse (by assumption)) (by assumption) rfl rfl rfl (Nat.le_of_ble_eq_true rfl) ⟨by decide, by decide, by decide, by decide⟩ ?_
    refine a_i2l X dX8_chance_17 ?_
    refine a_lret X hr dX8_chance_18 ⟨by decide, by decide⟩ ?_
    subst hF
    rfl
set_option maxRecDepth 100000 in
theorem m_at {l : Launch} {G : zG} {b : Nat} {S : zS} {P : Nat} {a : Int32} {u : Int32} (hE : zE8 S P) : zM l G b yX8_at cX8_at 3 (some .long) 4 0 0 [.ref P, .int a, .int u] S (fun r _ => r = some (.long (-1))) := by
  refine zM.of miX8_at (Nat.le_of_ble_eq_true rfl) ?_
  intro p e s m args below meth c X hr hname
  generalize hF : ((fun r _ => r = some (.long (-1))) : Option Value → zS → Prop) = FQ
  change Zw p l e { frames := 4, cells := 0, slots := 0, locals := 80 * 4 } s m args below meth c G b 3 (MQ below (zQ G b FQ) args s 0 0 (fun q : Nat => b ≤ q)) 0 0 0 [some (.ref P), some (.int a), some (.int u)] [] S
  have hE9 := hE
  obtain ⟨hT, q_un, q_hu, q_ac, q_ta, q_st, q_fk, q_fp, q_om, q_67, q_68, q_69, q_70, q_71⟩ := hE
  obtain ⟨z_lt, z_o, z_s, z_read, z_aside, z_kept, z_guest, z_readGuest, z_tape, z_unitName, z_hunterName, z_partyName, z_bits, z_partyOf, z_choiceAt, z_sizes, z_guestMany, z_pointsOf, z_ticketsOf, z_ord, z_given, z_roundOf, z_tags, z_guestTags, z_places, z_sumAt, z_sumFirst, z_sumRound, z_sumBoth, z_sumTags, z_isEnd, z_newPoints, z_inRow, z_out⟩ := id hT
  refine a_aload_n X dX8_at_0 rfl ?_
  refine a_iload_n X dX8_at_1 rfl ?_
  refine a_callVv X dX8_at_2 miX8_isApplicant lm8_315 (m_isApplicant0 (by assumption) (by first | assumption | simp [zu, *]) (by first | assumption | simp [zu, *]) (by first | assumption | simp [zu, *])) (by assumption) rfl rfl rfl (Nat.le_of_ble_eq_true rfl) ⟨by decide, by decide, by decide, by decide⟩ ?_
  refine a_if_eq (tgt := 16) X dX8_at_5 (by decide) (fun h_5 => ?_) (fun h_5 => absurd rfl h_5)
  refine a_aload_n X dX8_at_16 rfl ?_
  refine a_iconst (v := 2) X dX8_at_17 (by decide) ?_
  refine a_callVv X dX8_at_18 miX8_refuse lm8_263 (m_refuse (by assumption)) (by assumption) rfl rfl rfl (Nat.le_of_ble_eq_true rfl) ⟨by decide, by decide, by decide, by decide⟩ ?_
  refine a_i2l X dX8_at_21 ?_
  refine a_lret X hr dX8_at_22 ⟨by decide, by decide⟩ ?_
  subst hF
  rfl
set_option maxRecDepth 100000 in
theorem m_both {l : Launch} {G : zG} {b : Nat} {S : zS} {P : Nat} {a : Int32} {q : Int32} (hE : zE8 S P) : zM l G b yX8_both cX8_both 3 (some .long) 4 0 0 [.ref P, .int a, .int q] S (fun r _ => r = some (.long (-1))) := by
  refine zM.of miX8_both (Nat.le_of_ble_eq_true rfl) ?_
  intro p e s m args below meth c X hr hname
  generalize hF : ((fun r _ => r = some (.long (-1))) : Option Value → zS → Prop) = FQ
  change Zw p l e { frames := 4, cells := 0, slots := 0, locals := 80 * 4 } s m args below meth c G b 3 (MQ below (zQ G b FQ) args s 0 0 (fun q : Nat => b ≤ q)) 0 0 0 [some (.ref P), some (.int a), some (.int q)] [] S
  have hE9 := hE
  obtain ⟨hT, q_un, q_hu, q_ac, q_ta, q_st, q_fk, q_fp, q_om, q_67, q_68, q_69, q_70, q_71⟩ := hE
  obtain ⟨z_lt, z_o, z_s, z_read, z_aside, z_kept, z_guest, z_readGuest, z_tape, z_unitName, z_hunterName, z_partyName, z_bits, z_partyOf, z_choiceAt, z_sizes, z_guestMany, z_pointsOf, z_ticketsOf, z_ord, z_given, z_roundOf, z_tags, z_guestTags, z_places, z_sumAt, z_sumFirst, z_sumRound, z_sumBoth, z_sumTags, z_isEnd, z_newPoints, z_inRow, z_out⟩ := id hT
  refine a_aload_n X dX8_both_0 rfl ?_
  refine a_iload_n X dX8_both_1 rfl ?_
  refine a_callVv X dX8_both_2 miX8_isApplicant lm8_315 (m_isApplicant0 (by assumption) (by first | assumption | simp [zu, *]) (by first | assumption | simp [zu, *]) (by first | assumption | simp [zu, *])) (by assumption) rfl rfl rfl (Nat.le_of_ble_eq_true rfl) ⟨by decide, by decide, by decide, by decide⟩ ?_
  refine a_if_eq (tgt := 16) X dX8_both_5 (by decide) (fun h_5 => ?_) (fun h_5 => absurd rfl h_5)
  refine a_aload_n X dX8_both_16 rfl ?_
  refine a_iconst (v := 2) X dX8_both_17 (by decide) ?_
  refine a_callVv X dX8_both_18 miX8_refuse lm8_263 (m_refuse (by assumption)) (by assumption) rfl rfl rfl (Nat.le_of_ble_eq_true rfl) ⟨by decide, by decide, by decide, by decide⟩ ?_
  refine a_i2l X dX8_both_21 ?_
  refine a_lret X hr dX8_both_22 ⟨by decide, by decide⟩ ?_
  subst hF
  rfl
set_option maxRecDepth 100000 in
theorem m_mean {l : Launch} {G : zG} {b : Nat} {S : zS} {P : Nat} {u : Int32} (hE : zE8 S P) : zM l G b yX8_mean cX8_mean 2 (some .long) 4 0 0 [.ref P, .int u] S (fun r _ => r = some (.long (-1))) := by
  refine zM.of miX8_mean (Nat.le_of_ble_eq_true rfl) ?_
  intro p e s m args below meth c X hr hname
  generalize hF : ((fun r _ => r = some (.long (-1))) : Option Value → zS → Prop) = FQ
  change Zw p l e { frames := 4, cells := 0, slots := 0, locals := 80 * 4 } s m args below meth c G b 2 (MQ below (zQ G b FQ) args s 0 0 (fun q : Nat => b ≤ q)) 0 0 0 [some (.ref P), some (.int u)] [] S
  have hE9 := hE
  obtain ⟨hT, q_un, q_hu, q_ac, q_ta, q_st, q_fk, q_fp, q_om, q_67, q_68, q_69, q_70, q_71⟩ := hE
  obtain ⟨z_lt, z_o, z_s, z_read, z_aside, z_kept, z_guest, z_readGuest, z_tape, z_unitName, z_hunterName, z_partyName, z_bits, z_partyOf, z_choiceAt, z_sizes, z_guestMany, z_pointsOf, z_ticketsOf, z_ord, z_given, z_roundOf, z_tags, z_guestTags, z_places, z_sumAt, z_sumFirst, z_sumRound, z_sumBoth, z_sumTags, z_isEnd, z_newPoints, z_inRow, z_out⟩ := id hT
  refine a_aload_n X dX8_mean_0 rfl ?_
  refine a_iload_n X dX8_mean_1 rfl ?_
  refine a_callVv X dX8_mean_2 miX8_isUnit lm8_301 (m_isUnit0 (by assumption) (by first | assumption | simp [zu, *])) (by assumption) rfl rfl rfl (Nat.le_of_ble_eq_true rfl) ⟨by decide, by decide, by decide, by decide⟩ ?_
  refine a_if_ne (tgt := 15) X dX8_mean_5 (by decide) (fun h_5 => absurd rfl h_5) (fun h_5 => ?_)
  refine a_aload_n X dX8_mean_8 rfl ?_
  refine a_iconst (v := 2) X dX8_mean_9 (by decide) ?_
  refine a_callVv X dX8_mean_10 miX8_refuse lm8_263 (m_refuse (by assumption)) (by assumption) rfl rfl rfl (Nat.le_of_ble_eq_true rfl) ⟨by decide, by decide, by decide, by decide⟩ ?_
  refine a_i2l X dX8_mean_13 ?_
  refine a_lret X hr dX8_mean_14 ⟨by decide, by decide⟩ ?_
  subst hF
  rfl
set_option maxRecDepth 100000 in
theorem m_apart {l : Launch} {G : zG} {b : Nat} {S : zS} {P : Nat} {pt : Int32} (hE : zE8 S P) : zM l G b yX8_apart cX8_apart 5 (some .long) 4 0 0 [.ref P, .int pt] S (fun r _ => r = some (.long (-1))) := by
  refine zM.of miX8_apart (Nat.le_of_ble_eq_true rfl) ?_
  intro p e s m args below meth c X hr hname
  generalize hF : ((fun r _ => r = some (.long (-1))) : Option Value → zS → Prop) = FQ
  change Zw p l e { frames := 4, cells := 0, slots := 0, locals := 80 * 4 } s m args below meth c G b 5 (MQ below (zQ G b FQ) args s 0 0 (fun q : Nat => b ≤ q)) 0 0 0 [some (.ref P), some (.int pt), none, none, none] [] S
  have hE9 := hE
  obtain ⟨hT, q_un, q_hu, q_ac, q_ta, q_st, q_fk, q_fp, q_om, q_67, q_68, q_69, q_70, q_71⟩ := hE
  obtain ⟨z_lt, z_o, z_s, z_read, z_aside, z_kept, z_guest, z_readGuest, z_tape, z_unitName, z_hunterName, z_partyName, z_bits, z_partyOf, z_choiceAt, z_sizes, z_guestMany, z_pointsOf, z_ticketsOf, z_ord, z_given, z_roundOf, z_tags, z_guestTags, z_places, z_sumAt, z_sumFirst, z_sumRound, z_sumBoth, z_sumTags, z_isEnd, z_newPoints, z_inRow, z_out⟩ := id hT
  refine a_aload_n X dX8_apart_0 rfl ?_
  refine a_iload_n X dX8_apart_1 rfl ?_
  refine a_callVv X dX8_apart_2 miX8_isParty lm8_463 (m_isParty0 (by assumption) (by first | assumption | simp [zu, *])) (by assumption) rfl rfl rfl (Nat.le_of_ble_eq_true rfl) ⟨by decide, by decide, by decide, by decide⟩ ?_
  refine a_if_ne (tgt := 15) X dX8_apart_5 (by decide) (fun h_5 => absurd rfl h_5) (fun h_5 => ?_)
  refine a_aload_n X dX8_apart_8 rfl ?_
  refine a_iconst (v := 2) X dX8_apart_9 (by decide) ?_
  refine a_callVv X dX8_apart_10 miX8_refuse lm8_263 (m_refuse (by assumption)) (by assumption) rfl rfl rfl (Nat.le_of_ble_eq_true rfl) ⟨by decide, by decide, by decide, by decide⟩ ?_
  refine a_i2l X dX8_apart_13 ?_
  refine a_lret X hr dX8_apart_14 ⟨by decide, by decide⟩ ?_
  subst hF
  rfl
set_option maxRecDepth 100000 in
theorem m_together {l : Launch} {G : zG} {b : Nat} {S : zS} {P : Nat} {h : Int32} {q : Int32} (hE : zE8 S P) : zM l G b yX8_together cX8_together 4 (some .long) 4 0 0 [.ref P, .int h, .int q] S (fun r _ => r = some (.long (-1))) := by
  refine zM.of miX8_together (Nat.le_of_ble_eq_true rfl) ?_
  intro p e s m args below meth c X hr hname
  generalize hF : ((fun r _ => r = some (.long (-1))) : Option Value → zS → Prop) = FQ
  change Zw p l e { frames := 4, cells := 0, slots := 0, locals := 80 * 4 } s m args below meth c G b 4 (MQ below (zQ G b FQ) args s 0 0 (fun q : Nat => b ≤ q)) 0 0 0 [some (.ref P), some (.int h), some (.int q), none] [] S
  have hE9 := hE
  obtain ⟨hT, q_un, q_hu, q_ac, q_ta, q_st, q_fk, q_fp, q_om, q_67, q_68, q_69, q_70, q_71⟩ := hE
  obtain ⟨z_lt, z_o, z_s, z_read, z_aside, z_kept, z_guest, z_readGuest, z_tape, z_unitName, z_hunterName, z_partyName, z_bits, z_partyOf, z_choiceAt, z_sizes, z_guestMany, z_pointsOf, z_ticketsOf, z_ord, z_given, z_roundOf, z_tags, z_guestTags, z_places, z_sumAt, z_sumFirst, z_sumRound, z_sumBoth, z_sumTags, z_isEnd, z_newPoints, z_inRow, z_out⟩ := id hT
  refine a_aload_n X dX8_together_0 rfl ?_
  refine a_iload_n X dX8_together_1 rfl ?_
  refine a_callVv X dX8_together_2 miX8_isHunter lm8_293 (m_isHunter0 (by assumption) (by first | assumption | simp [zu, *])) (by assumption) rfl rfl rfl (Nat.le_of_ble_eq_true rfl) ⟨by decide, by decide, by decide, by decide⟩ ?_
  refine a_if_eq (tgt := 16) X dX8_together_5 (by decide) (fun h_5 => ?_) (fun h_5 => absurd rfl h_5)
  refine a_aload_n X dX8_together_16 rfl ?_
  refine a_iconst (v := 2) X dX8_together_17 (by decide) ?_
  refine a_callVv X dX8_together_18 miX8_refuse lm8_263 (m_refuse (by assumption)) (by assumption) rfl rfl rfl (Nat.le_of_ble_eq_true rfl) ⟨by decide, by decide, by decide, by decide⟩ ?_
  refine a_i2l X dX8_together_21 ?_
  refine a_lret X hr dX8_together_22 ⟨by decide, by decide⟩ ?_
  subst hF
  rfl
set_option maxRecDepth 100000 in
theorem m_wiseChance {l : Launch} {G : zG} {b : Nat} {S : zS} {P : Nat} {a : Int32} (hE : zE8 S P) : zM l G b yX8_wiseChance cX8_wiseChance 2 (some .long) 4 0 0 [.ref P, .int a] S (fun r _ => r = some (.long (-1))) := by
  refine zM.of miX8_wiseChance (Nat.le_of_ble_eq_true rfl) ?_
  intro p e s m args below meth c X hr hname
  generalize hF : ((fun r _ => r = some (.long (-1))) : Option Value → zS → Prop) = FQ
  change Zw p l e { frames := 4, cells := 0, slots := 0, locals := 80 * 4 } s m args below meth c G b 2 (MQ below (zQ G b FQ) args s 0 0 (fun q : Nat => b ≤ q)) 0 0 0 [some (.ref P), some (.int a)] [] S
  have hE9 := hE
  obtain ⟨hT, q_un, q_hu, q_ac, q_ta, q_st, q_fk, q_fp, q_om, q_67, q_68, q_69, q_70, q_71⟩ := hE
  obtain ⟨z_lt, z_o, z_s, z_read, z_aside, z_kept, z_guest, z_readGuest, z_tape, z_unitName, z_hunterName, z_partyName, z_bits, z_partyOf, z_choiceAt, z_sizes, z_guestMany, z_pointsOf, z_ticketsOf, z_ord, z_given, z_roundOf, z_tags, z_guestTags, z_places, z_sumAt, z_sumFirst, z_sumRound, z_sumBoth, z_sumTags, z_isEnd, z_newPoints, z_inRow, z_out⟩ := id hT
  refine a_aload_n X dX8_wiseChance_0 rfl ?_
  refine a_iload_n X dX8_wiseChance_1 rfl ?_
  refine a_callVv X dX8_wiseChance_2 miX8_isApplicant lm8_315 (m_isApplicant0 (by assumption) (by first | assumption | simp [zu, *]) (by first | assumption | simp [zu, *]) (by first | assumption | simp [zu, *])) (by assumption) rfl rfl rfl (Nat.le_of_ble_eq_true rfl) ⟨by decide, by decide, by decide, by decide⟩ ?_
  refine a_if_ne (tgt := 15) X dX8_wiseChance_5 (by decide) (fun h_5 => absurd rfl h_5) (fun h_5 => ?_)
  refine a_aload_n X dX8_wiseChance_8 rfl ?_
  refine a_iconst (v := 2) X dX8_wiseChance_9 (by decide) ?_
  refine a_callVv X dX8_wiseChance_10 miX8_refuse lm8_263 (m_refuse (by assumption)) (by assumption) rfl rfl rfl (Nat.le_of_ble_eq_true rfl) ⟨by decide, by decide, by decide, by decide⟩ ?_
  refine a_i2l X dX8_wiseChance_13 ?_
  refine a_lret X hr dX8_wiseChance_14 ⟨by decide, by decide⟩ ?_
  subst hF
  rfl
set_option maxRecDepth 100000 in
theorem m_order {l : Launch} {G : zG} {b : Nat} {S : zS} {P : Nat} {sd : Int32} {k : Int32} (hE : zE8 S P) : zM l G b yX8_order cX8_order 3 (some .int) 3 0 0 [.ref P, .int sd, .int k] S (fun r _ => r = some (.int (-1))) := by
  refine zM.of miX8_order (Nat.le_of_ble_eq_true rfl) ?_
  intro p e s m args below meth c X hr hname
  generalize hF : ((fun r _ => r = some (.int (-1))) : Option Value → zS → Prop) = FQ
  change Zw p l e { frames := 3, cells := 0, slots := 0, locals := 80 * 3 } s m args below meth c G b 3 (MQ below (zQ G b FQ) args s 0 0 (fun q : Nat => b ≤ q)) 0 0 0 [some (.ref P), some (.int sd), some (.int k)] [] S
  have hE9 := hE
  obtain ⟨hT, q_un, q_hu, q_ac, q_ta, q_st, q_fk, q_fp, q_om, q_67, q_68, q_69, q_70, q_71⟩ := hE
  obtain ⟨z_lt, z_o, z_s, z_read, z_aside, z_kept, z_guest, z_readGuest, z_tape, z_unitName, z_hunterName, z_partyName, z_bits, z_partyOf, z_choiceAt, z_sizes, z_guestMany, z_pointsOf, z_ticketsOf, z_ord, z_given, z_roundOf, z_tags, z_guestTags, z_places, z_sumAt, z_sumFirst, z_sumRound, z_sumBoth, z_sumTags, z_isEnd, z_newPoints, z_inRow, z_out⟩ := id hT
  refine a_iload_n X dX8_order_0 rfl ?_
  refine a_callSv X dX8_order_1 miX8_isSeed lm8_358 (m_isSeed) rfl rfl (Nat.le_of_ble_eq_true rfl) ⟨by decide, by decide, by decide, by decide⟩ ?_
  refine a_if_eq (tgt := 11) X dX8_order_4 (by decide) (fun h_4 => ?_) (fun h_4 => ?_)
  · refine a_aload_n X dX8_order_11 rfl ?_
    refine a_iconst (v := 1) X dX8_order_12 (by decide) ?_
    refine a_callVv X dX8_order_13 miX8_refuse lm8_263 (m_refuse (by assumption)) (by assumption) rfl rfl rfl (Nat.le_of_ble_eq_true rfl) ⟨by decide, by decide, by decide, by decide⟩ ?_
    refine a_iret X hr dX8_order_16 ⟨by decide, by decide⟩ ?_
    subst hF
    rfl
  · refine a_iload_n X dX8_order_7 rfl ?_
    refine a_if_ge (tgt := 17) X dX8_order_8 (by decide) (fun h_8 => ?_) (fun h_8 => ?_)
    · refine a_aload_n X dX8_order_17 rfl ?_
      refine a_iload_n X dX8_order_18 rfl ?_
      refine a_callVu X dX8_order_19 miX8_laysOrder lm8_352 (m_laysOrder0 (by assumption) (by first | assumption | simp [zu, *]) (by first | assumption | simp [zu, *]) (by first | assumption | simp [zu, *])) (by assumption) rfl rfl rfl (Nat.le_of_ble_eq_true rfl) ⟨by decide, by decide, by decide, by decide⟩ ?_
      refine a_iload_n X dX8_order_22 rfl ?_
      refine a_aload_n X dX8_order_23 rfl ?_
      refine a_geti X lf8_275 (by assumption) rfl dX8_order_24 ?_
      refine a_icmp_ge (tgt := 43) X dX8_order_27 (by decide) (fun h_27 => ?_) (fun h_27 => absurd (by show zu S.2.1 P 33 0 P 33 ≤ k; rw [zu_eq]; exact h_8) h_27)
      refine a_aload_n X dX8_order_43 rfl ?_
      refine a_iconst (v := 5) X dX8_order_44 (by decide) ?_
      refine a_callVv X dX8_order_45 miX8_refuse lm8_263 (m_refuse (by assumption)) (by assumption) rfl rfl rfl (Nat.le_of_ble_eq_true rfl) ⟨by decide, by decide, by decide, by decide⟩ ?_
      refine a_iret X hr dX8_order_48 ⟨by decide, by decide⟩ ?_
      subst hF
      rfl
    · refine a_aload_n X dX8_order_11 rfl ?_
      refine a_iconst (v := 1) X dX8_order_12 (by decide) ?_
      refine a_callVv X dX8_order_13 miX8_refuse lm8_263 (m_refuse (by assumption)) (by assumption) rfl rfl rfl (Nat.le_of_ble_eq_true rfl) ⟨by decide, by decide, by decide, by decide⟩ ?_
      refine a_iret X hr dX8_order_16 ⟨by decide, by decide⟩ ?_
      subst hF
      rfl
set_option maxRecDepth 100000 in
theorem m_winners {l : Launch} {G : zG} {b : Nat} {S : zS} {P : Nat} {sd : Int32} (hE : zE8 S P) : zM l G b yX8_winners cX8_winners 2 (some .int) 4 0 0 [.ref P, .int sd] S (fun r _ => r = some (.int (fSeed sd))) := by
  refine zM.of miX8_winners (Nat.le_of_ble_eq_true rfl) ?_
  intro p e s m args below meth c X hr hname
  generalize hF : ((fun r _ => r = some (.int (fSeed sd))) : Option Value → zS → Prop) = FQ
  change Zw p l e { frames := 4, cells := 0, slots := 0, locals := 80 * 4 } s m args below meth c G b 2 (MQ below (zQ G b FQ) args s 0 0 (fun q : Nat => b ≤ q)) 0 0 0 [some (.ref P), some (.int sd)] [] S
  have hE9 := hE
  obtain ⟨hT, q_un, q_hu, q_ac, q_ta, q_st, q_fk, q_fp, q_om, q_67, q_68, q_69, q_70, q_71⟩ := hE
  obtain ⟨z_lt, z_o, z_s, z_read, z_aside, z_kept, z_guest, z_readGuest, z_tape, z_unitName, z_hunterName, z_partyName, z_bits, z_partyOf, z_choiceAt, z_sizes, z_guestMany, z_pointsOf, z_ticketsOf, z_ord, z_given, z_roundOf, z_tags, z_guestTags, z_places, z_sumAt, z_sumFirst, z_sumRound, z_sumBoth, z_sumTags, z_isEnd, z_newPoints, z_inRow, z_out⟩ := id hT
  refine a_iload_n X dX8_winners_0 rfl ?_
  refine a_callSv X dX8_winners_1 miX8_isSeed lm8_358 (m_isSeed) rfl rfl (Nat.le_of_ble_eq_true rfl) ⟨by decide, by decide, by decide, by decide⟩ ?_
  refine a_if_ne (tgt := 13) X dX8_winners_4 (by decide) (fun h_4 => ?_) (fun h_4 => ?_)
  · refine a_aload_n X dX8_winners_13 rfl ?_
    refine a_iload_n X dX8_winners_14 rfl ?_
    refine a_callVu X dX8_winners_15 miX8_laysResult lm8_361 (m_laysResult0 (by assumption) (by first | assumption | simp [zu, *]) (by first | assumption | simp [zu, *]) (by first | assumption | simp [zu, *])) (by assumption) rfl rfl rfl (Nat.le_of_ble_eq_true rfl) ⟨by decide, by decide, by decide, by decide⟩ ?_
    refine a_aload_n X dX8_winners_18 rfl ?_
    refine a_aload_n X dX8_winners_19 rfl ?_
    refine a_callVv X dX8_winners_20 miX8_winnersNow lm8_371 (m_winnersNow0 (by assumption) (by first | assumption | simp [zu, *])) (by assumption) rfl rfl rfl (Nat.le_of_ble_eq_true rfl) ⟨by decide, by decide, by decide, by decide⟩ ?_
    refine a_callVv X dX8_winners_23 miX8_gives lm8_272 (m_gives (by assumption)) (by assumption) rfl rfl rfl (Nat.le_of_ble_eq_true rfl) ⟨by decide, by decide, by decide, by decide⟩ ?_
    refine a_iret X hr dX8_winners_26 ⟨by decide, by decide⟩ ?_
    subst hF
    first | (show some (Value.int (-1)) = some (Value.int (fSeed sd)); unfold fSeed; rw [if_neg (zB_0 h_4)]; done) | (show some (Value.int _) = some (Value.int (fSeed sd)); unfold fSeed; rw [if_pos (zB_1 h_4)]; first | done | exact congrArg (fun x => some (Value.int x)) zu_eq)
  · refine a_aload_n X dX8_winners_7 rfl ?_
    refine a_iconst (v := 1) X dX8_winners_8 (by decide) ?_
    refine a_callVv X dX8_winners_9 miX8_refuse lm8_263 (m_refuse (by assumption)) (by assumption) rfl rfl rfl (Nat.le_of_ble_eq_true rfl) ⟨by decide, by decide, by decide, by decide⟩ ?_
    refine a_iret X hr dX8_winners_12 ⟨by decide, by decide⟩ ?_
    subst hF
    first | (show some (Value.int (-1)) = some (Value.int (fSeed sd)); unfold fSeed; rw [if_neg (zB_0 h_4)]; done) | (show some (Value.int _) = some (Value.int (fSeed sd)); unfold fSeed; rw [if_pos (zB_1 h_4)]; first | done | exact congrArg (fun x => some (Value.int x)) zu_eq)
set_option maxRecDepth 100000 in
theorem m_print {l : Launch} {G : zG} {b : Nat} {S : zS} {P : Nat} {sd : Int32} (hE : zE8 S P) : zM l G b yX8_print cX8_print 4 (some .int) 4 0 0 [.ref P, .int sd] S (fun r _ => r = some (.int (fSeed sd))) := by
  refine zM.of miX8_print (Nat.le_of_ble_eq_true rfl) ?_
  intro p e s m args below meth c X hr hname
  generalize hF : ((fun r _ => r = some (.int (fSeed sd))) : Option Value → zS → Prop) = FQ
  change Zw p l e { frames := 4, cells := 0, slots := 0, locals := 80 * 4 } s m args below meth c G b 4 (MQ below (zQ G b FQ) args s 0 0 (fun q : Nat => b ≤ q)) 0 0 0 [some (.ref P), some (.int sd), none, none] [] S
  have hE9 := hE
  obtain ⟨hT, q_un, q_hu, q_ac, q_ta, q_st, q_fk, q_fp, q_om, q_67, q_68, q_69, q_70, q_71⟩ := hE
  obtain ⟨z_lt, z_o, z_s, z_read, z_aside, z_kept, z_guest, z_readGuest, z_tape, z_unitName, z_hunterName, z_partyName, z_bits, z_partyOf, z_choiceAt, z_sizes, z_guestMany, z_pointsOf, z_ticketsOf, z_ord, z_given, z_roundOf, z_tags, z_guestTags, z_places, z_sumAt, z_sumFirst, z_sumRound, z_sumBoth, z_sumTags, z_isEnd, z_newPoints, z_inRow, z_out⟩ := id hT
  refine a_iload_n X dX8_print_0 rfl ?_
  refine a_callSv X dX8_print_1 miX8_isSeed lm8_358 (m_isSeed) rfl rfl (Nat.le_of_ble_eq_true rfl) ⟨by decide, by decide, by decide, by decide⟩ ?_
  refine a_if_ne (tgt := 13) X dX8_print_4 (by decide) (fun h_4 => ?_) (fun h_4 => ?_)
  · refine a_aload_n X dX8_print_13 rfl ?_
    refine a_iload_n X dX8_print_14 rfl ?_
    refine a_callVu X dX8_print_15 miX8_laysResult lm8_361 (m_laysResult0 (by assumption) (by first | assumption | simp [zu, *]) (by first | assumption | simp [zu, *]) (by first | assumption | simp [zu, *])) (by assumption) rfl rfl rfl (Nat.le_of_ble_eq_true rfl) ⟨by decide, by decide, by decide, by decide⟩ ?_
    refine a_aload_n X dX8_print_18 rfl ?_
    refine a_iconst (v := 0) X dX8_print_19 (by decide) ?_
    refine a_puti X lf8_488 (by assumption) rfl dX8_print_20 ?_
    refine a_iconst (v := 0) X dX8_print_23 (by decide) ?_
    refine a_istore_n X dX8_print_24 (by decide) ?_
    refine a_iload_n X dX8_print_25 rfl ?_
    refine a_aload_n X dX8_print_26 rfl ?_
    refine a_geti X lf8_275 (by assumption) rfl dX8_print_27 ?_
    refine a_icmp_ge (tgt := 110) X dX8_print_30 (by decide) (fun h_30 => ?_) (fun h_30 => absurd (by show zu (zu S.2.1 P 33 0) P 64 0 P 33 ≤ 0; simp [zu]) h_30)
    refine a_aload_n X dX8_print_110 rfl ?_
    refine a_aload_n X dX8_print_111 rfl ?_
    refine a_geti X lf8_488 (by assumption) rfl dX8_print_112 ?_
    refine a_callVv X dX8_print_115 miX8_gives lm8_272 (m_gives (by assumption)) (by assumption) rfl rfl rfl (Nat.le_of_ble_eq_true rfl) ⟨by decide, by decide, by decide, by decide⟩ ?_
    refine a_iret X hr dX8_print_118 ⟨by decide, by decide⟩ ?_
    subst hF
    first | (show some (Value.int (-1)) = some (Value.int (fSeed sd)); unfold fSeed; rw [if_neg (zB_0 h_4)]; done) | (show some (Value.int _) = some (Value.int (fSeed sd)); unfold fSeed; rw [if_pos (zB_1 h_4)]; first | done | exact congrArg (fun x => some (Value.int x)) zu_eq)
  · refine a_aload_n X dX8_print_7 rfl ?_
    refine a_iconst (v := 1) X dX8_print_8 (by decide) ?_
    refine a_callVv X dX8_print_9 miX8_refuse lm8_263 (m_refuse (by assumption)) (by assumption) rfl rfl rfl (Nat.le_of_ble_eq_true rfl) ⟨by decide, by decide, by decide, by decide⟩ ?_
    refine a_iret X hr dX8_print_12 ⟨by decide, by decide⟩ ?_
    subst hF
    first | (show some (Value.int (-1)) = some (Value.int (fSeed sd)); unfold fSeed; rw [if_neg (zB_0 h_4)]; done) | (show some (Value.int _) = some (Value.int (fSeed sd)); unfold fSeed; rw [if_pos (zB_1 h_4)]; first | done | exact congrArg (fun x => some (Value.int x)) zu_eq)
set_option maxRecDepth 100000 in
theorem m_draw {l : Launch} {G : zG} {b : Nat} {S : zS} {P : Nat} {sd : Int32} (hE : zE8 S P) : zM l G b yX8_draw cX8_draw 3 (some .int) 5 0 0 [.ref P, .int sd] S (fun r _ => r = some (.int (fSeed sd))) := by
  refine zM.of miX8_draw (Nat.le_of_ble_eq_true rfl) ?_
  intro p e s m args below meth c X hr hname
  generalize hF : ((fun r _ => r = some (.int (fSeed sd))) : Option Value → zS → Prop) = FQ
  change Zw p l e { frames := 5, cells := 0, slots := 0, locals := 80 * 5 } s m args below meth c G b 3 (MQ below (zQ G b FQ) args s 0 0 (fun q : Nat => b ≤ q)) 0 0 0 [some (.ref P), some (.int sd), none] [] S
  have hE9 := hE
  obtain ⟨hT, q_un, q_hu, q_ac, q_ta, q_st, q_fk, q_fp, q_om, q_67, q_68, q_69, q_70, q_71⟩ := hE
  obtain ⟨z_lt, z_o, z_s, z_read, z_aside, z_kept, z_guest, z_readGuest, z_tape, z_unitName, z_hunterName, z_partyName, z_bits, z_partyOf, z_choiceAt, z_sizes, z_guestMany, z_pointsOf, z_ticketsOf, z_ord, z_given, z_roundOf, z_tags, z_guestTags, z_places, z_sumAt, z_sumFirst, z_sumRound, z_sumBoth, z_sumTags, z_isEnd, z_newPoints, z_inRow, z_out⟩ := id hT
  refine a_iload_n X dX8_draw_0 rfl ?_
  refine a_callSv X dX8_draw_1 miX8_isSeed lm8_358 (m_isSeed) rfl rfl (Nat.le_of_ble_eq_true rfl) ⟨by decide, by decide, by decide, by decide⟩ ?_
  refine a_if_ne (tgt := 13) X dX8_draw_4 (by decide) (fun h_4 => ?_) (fun h_4 => ?_)
  · refine a_aload_n X dX8_draw_13 rfl ?_
    refine a_callVx X dX8_draw_14 miX8_keeps lm8_480 (m_keeps0 (by assumption) (by assumption)) (by assumption) rfl rfl rfl (Nat.le_of_ble_eq_true rfl) ⟨by decide, by decide, by decide, by decide⟩ (fun r_14 S_14 q_14 => ?_)
    obtain ⟨M_14, rfl, rfl, k0_14, k1_14⟩ := q_14
    have u7 : M_14 P 7 = 0 := (k1_14 7 (by decide)).trans q_un
    have u8 : M_14 P 8 = 0 := (k1_14 8 (by decide)).trans q_hu
    have u70 : M_14 (P + 1) 70 = 0 := by rw [k0_14 (P + 1) (by omega) (by omega)]; exact q_70
    refine a_aload_n X dX8_draw_17 rfl ?_
    refine a_iload_n X dX8_draw_18 rfl ?_
    refine a_callVu X dX8_draw_19 miX8_goesYear lm8_474 (m_goesYear0 (by assumption) u7 u8 u70) (by assumption) rfl rfl rfl (Nat.le_of_ble_eq_true rfl) ⟨by decide, by decide, by decide, by decide⟩ ?_
    refine a_iconst (v := 0) X dX8_draw_22 (by decide) ?_
    refine a_istore_n X dX8_draw_23 (by decide) ?_
    refine a_iload_n X dX8_draw_24 rfl ?_
    refine a_aload_n X dX8_draw_25 rfl ?_
    refine a_geti X lf8_132 (by assumption) rfl dX8_draw_26 ?_
    refine a_icmp_ge (tgt := 52) X dX8_draw_29 (by decide) (fun h_29 => ?_) (fun h_29 => absurd (by show zu M_14 P 33 0 P 8 ≤ 0; simp [zu, u8]) h_29)
    refine a_aload_n X dX8_draw_52 rfl ?_
    refine a_getr X lf8_7 (by assumption) rfl (by omega) dX8_draw_53 ?_
    refine a_bipush (v := 71) X dX8_draw_56 (by decide) ?_
    refine a_dup2 X dX8_draw_58 rfl rfl ?_
    refine a_iaload X (by assumption) (vp_in_nI (n := 71) (by decide) (by decide)) dX8_draw_59 ?_
    refine a_iconst (v := 1) X dX8_draw_60 (by decide) ?_
    refine a_iadd X dX8_draw_61 ?_
    refine a_iastore X (by assumption) (vp_in_nI (n := 71) (by decide) (by decide)) dX8_draw_62 ?_
    refine a_aload_n X dX8_draw_63 rfl ?_
    refine a_aload_n X dX8_draw_64 rfl ?_
    refine a_callVv X dX8_draw_65 miX8_givenTags lm8_421 (m_givenTags0 (by assumption) (by simp [zu])) (by assumption) rfl rfl rfl (Nat.le_of_ble_eq_true rfl) ⟨by decide, by decide, by decide, by decide⟩ ?_
    refine a_callVv X dX8_draw_68 miX8_gives lm8_272 (m_gives (by assumption)) (by assumption) rfl rfl rfl (Nat.le_of_ble_eq_true rfl) ⟨by decide, by decide, by decide, by decide⟩ ?_
    refine a_iret X hr dX8_draw_71 ⟨by decide, by decide⟩ ?_
    subst hF
    first | (show some (Value.int (-1)) = some (Value.int (fSeed sd)); unfold fSeed; rw [if_neg (zB_0 h_4)]; done) | (show some (Value.int _) = some (Value.int (fSeed sd)); unfold fSeed; rw [if_pos (zB_1 h_4)]; first | done | exact congrArg (fun x => some (Value.int x)) zu_eq)
  · refine a_aload_n X dX8_draw_7 rfl ?_
    refine a_iconst (v := 1) X dX8_draw_8 (by decide) ?_
    refine a_callVv X dX8_draw_9 miX8_refuse lm8_263 (m_refuse (by assumption)) (by assumption) rfl rfl rfl (Nat.le_of_ble_eq_true rfl) ⟨by decide, by decide, by decide, by decide⟩ ?_
    refine a_iret X hr dX8_draw_12 ⟨by decide, by decide⟩ ?_
    subst hF
    first | (show some (Value.int (-1)) = some (Value.int (fSeed sd)); unfold fSeed; rw [if_neg (zB_0 h_4)]; done) | (show some (Value.int _) = some (Value.int (fSeed sd)); unfold fSeed; rw [if_pos (zB_1 h_4)]; first | done | exact congrArg (fun x => some (Value.int x)) zu_eq)
set_option maxRecDepth 100000 in
theorem m_sure {l : Launch} {G : zG} {b : Nat} {S : zS} {P : Nat} {w : Int32} (hE : zE8 S P) : zM l G b yX8_sure cX8_sure 2 (some .int) 5 0 0 [.ref P, .int w] S (fun r _ => r = some (.int (fTwo w))) := by
  refine zM.of miX8_sure (Nat.le_of_ble_eq_true rfl) ?_
  intro p e s m args below meth c X hr hname
  generalize hF : ((fun r _ => r = some (.int (fTwo w))) : Option Value → zS → Prop) = FQ
  change Zw p l e { frames := 5, cells := 0, slots := 0, locals := 80 * 5 } s m args below meth c G b 2 (MQ below (zQ G b FQ) args s 0 0 (fun q : Nat => b ≤ q)) 0 0 0 [some (.ref P), some (.int w)] [] S
  have hE9 := hE
  obtain ⟨hT, q_un, q_hu, q_ac, q_ta, q_st, q_fk, q_fp, q_om, q_67, q_68, q_69, q_70, q_71⟩ := hE
  obtain ⟨z_lt, z_o, z_s, z_read, z_aside, z_kept, z_guest, z_readGuest, z_tape, z_unitName, z_hunterName, z_partyName, z_bits, z_partyOf, z_choiceAt, z_sizes, z_guestMany, z_pointsOf, z_ticketsOf, z_ord, z_given, z_roundOf, z_tags, z_guestTags, z_places, z_sumAt, z_sumFirst, z_sumRound, z_sumBoth, z_sumTags, z_isEnd, z_newPoints, z_inRow, z_out⟩ := id hT
  refine a_iload_n X dX8_sure_0 rfl ?_
  refine a_i2l X dX8_sure_1 ?_
  refine a_lconst (v := 0) X dX8_sure_2 (by decide) ?_
  refine a_lconst (v := 1) X dX8_sure_3 (by decide) ?_
  refine a_callSv X dX8_sure_4 miX8_isFrom lm8_128 (m_isFrom (lo := 0) (hi := 1) (by decide) (by decide)) rfl rfl (Nat.le_of_ble_eq_true rfl) ⟨by decide, by decide, by decide, by decide⟩ ?_
  refine a_if_ne (tgt := 16) X dX8_sure_7 (by decide) (fun h_7 => ?_) (fun h_7 => ?_)
  · refine a_aload_n X dX8_sure_16 rfl ?_
    refine a_callVv X dX8_sure_17 miX8_areMany lm8_429 (m_areMany0 (by assumption) (by first | assumption | simp [zu, *]) (by first | assumption | simp [zu, *]) (by first | assumption | simp [zu, *])) (by assumption) rfl rfl rfl (Nat.le_of_ble_eq_true rfl) ⟨by decide, by decide, by decide, by decide⟩ ?_
    refine a_if_eq (tgt := 29) X dX8_sure_20 (by decide) (fun h_20 => ?_) (fun h_20 => absurd rfl h_20)
    refine a_aload_n X dX8_sure_29 rfl ?_
    refine a_callVx X dX8_sure_30 miX8_laysAll lm8_432 (m_laysAll0 (by assumption) (by first | assumption | simp [zu, *]) (by first | assumption | simp [zu, *]) (by first | assumption | simp [zu, *])) (by assumption) rfl rfl rfl (Nat.le_of_ble_eq_true rfl) ⟨by decide, by decide, by decide, by decide⟩ (fun r_30 S_30 q_30 => ?_)
    obtain ⟨M_30, N_30, rfl, rfl, a54_30, a55_30, a56_30, a57_30, a33_30, a0_30⟩ := q_30
    refine a_aload_n X dX8_sure_33 rfl ?_
    refine a_iload_n X dX8_sure_34 rfl ?_
    refine a_if_ne (tgt := 45) X dX8_sure_35 (by decide) (fun h_35 => ?_) (fun h_35 => ?_)
    · refine a_iconst (v := 1) X dX8_sure_45 (by decide) ?_
      refine a_aload_n X dX8_sure_46 rfl ?_
      refine a_geti X lf8_275 (by assumption) rfl dX8_sure_47 ?_
      refine a_ishl X dX8_sure_50 ?_
      refine a_iconst (v := 1) X dX8_sure_51 (by decide) ?_
      refine a_isub X dX8_sure_52 ?_
      refine a_aload_n X dX8_sure_53 rfl ?_
      refine a_geti X lf8_399 (by assumption) rfl dX8_sure_54 ?_
      refine a_iconst (v := -1) X dX8_sure_57 (by decide) ?_
      refine a_ixor X dX8_sure_58 ?_
      refine a_iand X dX8_sure_59 ?_
      refine a_callVv X dX8_sure_60 miX8_gives lm8_272 (m_gives (by assumption)) (by assumption) rfl rfl rfl (Nat.le_of_ble_eq_true rfl) ⟨by decide, by decide, by decide, by decide⟩ ?_
      refine a_iret X hr dX8_sure_63 ⟨by decide, by decide⟩ ?_
      subst hF
      first | (show some (Value.int (-1)) = some (Value.int (fTwo w)); unfold fTwo; rw [if_neg (zB_0 h_7)]; done) | (show some (Value.int _) = some (Value.int (fTwo w)); unfold fTwo; rw [if_pos (zB_1 h_7)]; first | exact congrArg (fun x => some (Value.int x)) a54_30 | exact congrArg (fun x => some (Value.int x)) a56_30 | exact congrArg (fun x => some (Value.int x)) a57_30 | (show some (Value.int ((1 <<< (M_30 P 33 &&& 31) - 1) &&& _)) = _; rw [a33_30, show ((1 : Int32) <<< (0 &&& 31) - 1) = 0 by decide, Int32.zero_and]))
    · refine a_aload_n X dX8_sure_38 rfl ?_
      refine a_geti X lf8_396 (by assumption) rfl dX8_sure_39 ?_
      refine a_goto (tgt := 60) X dX8_sure_42 (by decide) ?_
      refine a_callVv X dX8_sure_60 miX8_gives lm8_272 (m_gives (by assumption)) (by assumption) rfl rfl rfl (Nat.le_of_ble_eq_true rfl) ⟨by decide, by decide, by decide, by decide⟩ ?_
      refine a_iret X hr dX8_sure_63 ⟨by decide, by decide⟩ ?_
      subst hF
      first | (show some (Value.int (-1)) = some (Value.int (fTwo w)); unfold fTwo; rw [if_neg (zB_0 h_7)]; done) | (show some (Value.int _) = some (Value.int (fTwo w)); unfold fTwo; rw [if_pos (zB_1 h_7)]; first | exact congrArg (fun x => some (Value.int x)) a54_30 | exact congrArg (fun x => some (Value.int x)) a56_30 | exact congrArg (fun x => some (Value.int x)) a57_30 | (show some (Value.int ((1 <<< (M_30 P 33 &&& 31) - 1) &&& _)) = _; rw [a33_30, show ((1 : Int32) <<< (0 &&& 31) - 1) = 0 by decide, Int32.zero_and]))
  · refine a_aload_n X dX8_sure_10 rfl ?_
    refine a_iconst (v := 1) X dX8_sure_11 (by decide) ?_
    refine a_callVv X dX8_sure_12 miX8_refuse lm8_263 (m_refuse (by assumption)) (by assumption) rfl rfl rfl (Nat.le_of_ble_eq_true rfl) ⟨by decide, by decide, by decide, by decide⟩ ?_
    refine a_iret X hr dX8_sure_15 ⟨by decide, by decide⟩ ?_
    subst hF
    first | (show some (Value.int (-1)) = some (Value.int (fTwo w)); unfold fTwo; rw [if_neg (zB_0 h_7)]; done) | (show some (Value.int _) = some (Value.int (fTwo w)); unfold fTwo; rw [if_pos (zB_1 h_7)]; first | exact congrArg (fun x => some (Value.int x)) a54_30 | exact congrArg (fun x => some (Value.int x)) a56_30 | exact congrArg (fun x => some (Value.int x)) a57_30 | (show some (Value.int ((1 <<< (M_30 P 33 &&& 31) - 1) &&& _)) = _; rw [a33_30, show ((1 : Int32) <<< (0 &&& 31) - 1) = 0 by decide, Int32.zero_and]))
set_option maxRecDepth 100000 in
theorem m_given {l : Launch} {G : zG} {b : Nat} {S : zS} {P : Nat} {w : Int32} (hE : zE8 S P) : zM l G b yX8_given cX8_given 2 (some .int) 5 0 0 [.ref P, .int w] S (fun r _ => r = some (.int (fTwo w))) := by
  refine zM.of miX8_given (Nat.le_of_ble_eq_true rfl) ?_
  intro p e s m args below meth c X hr hname
  generalize hF : ((fun r _ => r = some (.int (fTwo w))) : Option Value → zS → Prop) = FQ
  change Zw p l e { frames := 5, cells := 0, slots := 0, locals := 80 * 5 } s m args below meth c G b 2 (MQ below (zQ G b FQ) args s 0 0 (fun q : Nat => b ≤ q)) 0 0 0 [some (.ref P), some (.int w)] [] S
  have hE9 := hE
  obtain ⟨hT, q_un, q_hu, q_ac, q_ta, q_st, q_fk, q_fp, q_om, q_67, q_68, q_69, q_70, q_71⟩ := hE
  obtain ⟨z_lt, z_o, z_s, z_read, z_aside, z_kept, z_guest, z_readGuest, z_tape, z_unitName, z_hunterName, z_partyName, z_bits, z_partyOf, z_choiceAt, z_sizes, z_guestMany, z_pointsOf, z_ticketsOf, z_ord, z_given, z_roundOf, z_tags, z_guestTags, z_places, z_sumAt, z_sumFirst, z_sumRound, z_sumBoth, z_sumTags, z_isEnd, z_newPoints, z_inRow, z_out⟩ := id hT
  refine a_iload_n X dX8_given_0 rfl ?_
  refine a_i2l X dX8_given_1 ?_
  refine a_lconst (v := 0) X dX8_given_2 (by decide) ?_
  refine a_lconst (v := 1) X dX8_given_3 (by decide) ?_
  refine a_callSv X dX8_given_4 miX8_isFrom lm8_128 (m_isFrom (lo := 0) (hi := 1) (by decide) (by decide)) rfl rfl (Nat.le_of_ble_eq_true rfl) ⟨by decide, by decide, by decide, by decide⟩ ?_
  refine a_if_ne (tgt := 16) X dX8_given_7 (by decide) (fun h_7 => ?_) (fun h_7 => ?_)
  · refine a_aload_n X dX8_given_16 rfl ?_
    refine a_callVv X dX8_given_17 miX8_areMany lm8_429 (m_areMany0 (by assumption) (by first | assumption | simp [zu, *]) (by first | assumption | simp [zu, *]) (by first | assumption | simp [zu, *])) (by assumption) rfl rfl rfl (Nat.le_of_ble_eq_true rfl) ⟨by decide, by decide, by decide, by decide⟩ ?_
    refine a_if_eq (tgt := 29) X dX8_given_20 (by decide) (fun h_20 => ?_) (fun h_20 => absurd rfl h_20)
    refine a_aload_n X dX8_given_29 rfl ?_
    refine a_callVx X dX8_given_30 miX8_laysAll lm8_432 (m_laysAll0 (by assumption) (by first | assumption | simp [zu, *]) (by first | assumption | simp [zu, *]) (by first | assumption | simp [zu, *])) (by assumption) rfl rfl rfl (Nat.le_of_ble_eq_true rfl) ⟨by decide, by decide, by decide, by decide⟩ (fun r_30 S_30 q_30 => ?_)
    obtain ⟨M_30, N_30, rfl, rfl, a54_30, a55_30, a56_30, a57_30, a33_30, a0_30⟩ := q_30
    refine a_aload_n X dX8_given_33 rfl ?_
    refine a_iload_n X dX8_given_34 rfl ?_
    refine a_if_ne (tgt := 45) X dX8_given_35 (by decide) (fun h_35 => ?_) (fun h_35 => ?_)
    · refine a_aload_n X dX8_given_45 rfl ?_
      refine a_geti X lf8_405 (by assumption) rfl dX8_given_46 ?_
      refine a_callVv X dX8_given_49 miX8_gives lm8_272 (m_gives (by assumption)) (by assumption) rfl rfl rfl (Nat.le_of_ble_eq_true rfl) ⟨by decide, by decide, by decide, by decide⟩ ?_
      refine a_iret X hr dX8_given_52 ⟨by decide, by decide⟩ ?_
      subst hF
      first | (show some (Value.int (-1)) = some (Value.int (fTwo w)); unfold fTwo; rw [if_neg (zB_0 h_7)]; done) | (show some (Value.int _) = some (Value.int (fTwo w)); unfold fTwo; rw [if_pos (zB_1 h_7)]; first | exact congrArg (fun x => some (Value.int x)) a54_30 | exact congrArg (fun x => some (Value.int x)) a56_30 | exact congrArg (fun x => some (Value.int x)) a57_30 | (show some (Value.int ((1 <<< (M_30 P 33 &&& 31) - 1) &&& _)) = _; rw [a33_30, show ((1 : Int32) <<< (0 &&& 31) - 1) = 0 by decide, Int32.zero_and]))
    · refine a_aload_n X dX8_given_38 rfl ?_
      refine a_geti X lf8_402 (by assumption) rfl dX8_given_39 ?_
      refine a_goto (tgt := 49) X dX8_given_42 (by decide) ?_
      refine a_callVv X dX8_given_49 miX8_gives lm8_272 (m_gives (by assumption)) (by assumption) rfl rfl rfl (Nat.le_of_ble_eq_true rfl) ⟨by decide, by decide, by decide, by decide⟩ ?_
      refine a_iret X hr dX8_given_52 ⟨by decide, by decide⟩ ?_
      subst hF
      first | (show some (Value.int (-1)) = some (Value.int (fTwo w)); unfold fTwo; rw [if_neg (zB_0 h_7)]; done) | (show some (Value.int _) = some (Value.int (fTwo w)); unfold fTwo; rw [if_pos (zB_1 h_7)]; first | exact congrArg (fun x => some (Value.int x)) a54_30 | exact congrArg (fun x => some (Value.int x)) a56_30 | exact congrArg (fun x => some (Value.int x)) a57_30 | (show some (Value.int ((1 <<< (M_30 P 33 &&& 31) - 1) &&& _)) = _; rw [a33_30, show ((1 : Int32) <<< (0 &&& 31) - 1) = 0 by decide, Int32.zero_and]))
  · refine a_aload_n X dX8_given_10 rfl ?_
    refine a_iconst (v := 1) X dX8_given_11 (by decide) ?_
    refine a_callVv X dX8_given_12 miX8_refuse lm8_263 (m_refuse (by assumption)) (by assumption) rfl rfl rfl (Nat.le_of_ble_eq_true rfl) ⟨by decide, by decide, by decide, by decide⟩ ?_
    refine a_iret X hr dX8_given_15 ⟨by decide, by decide⟩ ?_
    subst hF
    first | (show some (Value.int (-1)) = some (Value.int (fTwo w)); unfold fTwo; rw [if_neg (zB_0 h_7)]; done) | (show some (Value.int _) = some (Value.int (fTwo w)); unfold fTwo; rw [if_pos (zB_1 h_7)]; first | exact congrArg (fun x => some (Value.int x)) a54_30 | exact congrArg (fun x => some (Value.int x)) a56_30 | exact congrArg (fun x => some (Value.int x)) a57_30 | (show some (Value.int ((1 <<< (M_30 P 33 &&& 31) - 1) &&& _)) = _; rw [a33_30, show ((1 : Int32) <<< (0 &&& 31) - 1) = 0 by decide, Int32.zero_and]))
set_option maxRecDepth 100000 in
theorem m_ends {l : Launch} {G : zG} {b : Nat} {S : zS} {P : Nat}  (hE : zE8 S P) : zM l G b yX8_ends cX8_ends 3 (some .int) 5 0 0 [.ref P] S (fun r _ => r = some (.int (1))) := by
  refine zM.of miX8_ends (Nat.le_of_ble_eq_true rfl) ?_
  intro p e s m args below meth c X hr hname
  generalize hF : ((fun r _ => r = some (.int (1))) : Option Value → zS → Prop) = FQ
  change Zw p l e { frames := 5, cells := 0, slots := 0, locals := 80 * 5 } s m args below meth c G b 3 (MQ below (zQ G b FQ) args s 0 0 (fun q : Nat => b ≤ q)) 0 0 0 [some (.ref P), none, none] [] S
  have hE9 := hE
  obtain ⟨hT, q_un, q_hu, q_ac, q_ta, q_st, q_fk, q_fp, q_om, q_67, q_68, q_69, q_70, q_71⟩ := hE
  obtain ⟨z_lt, z_o, z_s, z_read, z_aside, z_kept, z_guest, z_readGuest, z_tape, z_unitName, z_hunterName, z_partyName, z_bits, z_partyOf, z_choiceAt, z_sizes, z_guestMany, z_pointsOf, z_ticketsOf, z_ord, z_given, z_roundOf, z_tags, z_guestTags, z_places, z_sumAt, z_sumFirst, z_sumRound, z_sumBoth, z_sumTags, z_isEnd, z_newPoints, z_inRow, z_out⟩ := id hT
  have E : ∀ (M3 : Nat → Nat → Int32) (N3 : Nat → Nat → Int64), z10 (M3 (P + 29)) → ∀ (u j : Nat), 128 < j + u → j ≤ 128 → ∀ x : Int32, (x = if j = 0 then 0 else 1) → Zw p l e { frames := 5, cells := 0, slots := 0, locals := 80 * 5 } s m args below meth c G b 3 (MQ below (zQ G b FQ) args s 0 0 (fun q : Nat => b ≤ q)) 0 0 21 [some (.ref P), some (.int x), some (.int (nI j))] [] (S.1, M3, N3) := by
    intro M3 N3 hz u
    induction u with
    | zero => intro j h1 h2; exact absurd h1 (by omega)
    | succ u ih =>
      intro j h1 h2 x hx
      refine a_iload_n X dX8_ends_21 rfl ?_
      refine a_sipush (v := 128) X dX8_ends_22 (by decide) ?_
      refine a_icmp_ge (tgt := 51) X dX8_ends_25 (by decide) (fun h_25 => ?_) (fun h_25 => ?_)
      · refine a_aload_n X dX8_ends_51 rfl ?_
        refine a_iload_n X dX8_ends_52 rfl ?_
        refine a_callVv X dX8_ends_53 miX8_gives lm8_272 (m_gives (by assumption)) (by assumption) rfl rfl rfl (Nat.le_of_ble_eq_true rfl) ⟨by decide, by decide, by decide, by decide⟩ ?_
        refine a_iret X hr dX8_ends_56 ⟨by decide, by decide⟩ ?_
        have hj : j = 128 := by have := (nI_leI (a := 128) (by decide) (by omega)).mp h_25; omega
        subst hj
        subst hF
        exact congrArg (fun x => some (Value.int x)) hx
      · have hj : j < 128 := Nat.not_le.mp (fun q => h_25 ((nI_leI (by decide) (by omega)).mpr q))
        refine a_iload_n X dX8_ends_28 rfl ?_
        refine a_aload_n X dX8_ends_29 rfl ?_
        refine a_getr X lf8_103 (by assumption) rfl (by omega) dX8_ends_30 ?_
        refine a_iload_n X dX8_ends_33 rfl ?_
        refine a_baload X (by assumption) (vp_in_nI hj (by decide)) dX8_ends_34 ?_
        refine a_if_eq (tgt := 42) X dX8_ends_35 (by decide) (fun h_35 => ?_) (fun h_35 => ?_)
        · refine a_iconst (v := 0) X dX8_ends_42 (by decide) ?_
          refine a_iadd X dX8_ends_43 ?_
          refine a_istore_n X dX8_ends_44 (by decide) ?_
          refine a_iinc (v := nI (j + 1)) X dX8_ends_45 (by decide) rfl (nI_1 j) ?_
          refine a_goto (tgt := 21) X dX8_ends_48 (by decide) ?_
          refine Zw.to (ih (j + 1) (by omega) (by omega) _ ?_) rfl rfl
          rw [nI_clamp (by omega)] at h_35
          rw [hx, if_neg (show ¬ j + 1 = 0 by omega)]
          by_cases q : j = 0
          · subst q
            first | exact absurd (hz.1.symm.trans h_35) (by decide) | rfl
          · first | exact absurd (hz.2 j (by omega) hj) h_35 | (rw [if_neg q]; decide)
        · refine a_iconst (v := 1) X dX8_ends_38 (by decide) ?_
          refine a_goto (tgt := 43) X dX8_ends_39 (by decide) ?_
          refine a_iadd X dX8_ends_43 ?_
          refine a_istore_n X dX8_ends_44 (by decide) ?_
          refine a_iinc (v := nI (j + 1)) X dX8_ends_45 (by decide) rfl (nI_1 j) ?_
          refine a_goto (tgt := 21) X dX8_ends_48 (by decide) ?_
          refine Zw.to (ih (j + 1) (by omega) (by omega) _ ?_) rfl rfl
          rw [nI_clamp (by omega)] at h_35
          rw [hx, if_neg (show ¬ j + 1 = 0 by omega)]
          by_cases q : j = 0
          · subst q
            first | exact absurd (hz.1.symm.trans h_35) (by decide) | rfl
          · first | exact absurd (hz.2 j (by omega) hj) h_35 | (rw [if_neg q]; decide)
  refine a_aload_n X dX8_ends_0 rfl ?_
  refine a_callVv X dX8_ends_1 miX8_areMany lm8_429 (m_areMany0 (by assumption) (by first | assumption | simp [zu, *]) (by first | assumption | simp [zu, *]) (by first | assumption | simp [zu, *])) (by assumption) rfl rfl rfl (Nat.le_of_ble_eq_true rfl) ⟨by decide, by decide, by decide, by decide⟩ ?_
  refine a_if_eq (tgt := 13) X dX8_ends_4 (by decide) (fun h_4 => ?_) (fun h_4 => absurd rfl h_4)
  refine a_aload_n X dX8_ends_13 rfl ?_
  refine a_callVx X dX8_ends_14 miX8_laysAll lm8_432 (m_laysAll0 (by assumption) (by first | assumption | simp [zu, *]) (by first | assumption | simp [zu, *]) (by first | assumption | simp [zu, *])) (by assumption) rfl rfl rfl (Nat.le_of_ble_eq_true rfl) ⟨by decide, by decide, by decide, by decide⟩ (fun r_14 S_14 q_14 => ?_)
  obtain ⟨M_14, N_14, rfl, rfl, a54_14, a55_14, a56_14, a57_14, a33_14, a0_14⟩ := q_14
  refine a_iconst (v := 0) X dX8_ends_17 (by decide) ?_
  refine a_istore_n X dX8_ends_18 (by decide) ?_
  refine a_iconst (v := 0) X dX8_ends_19 (by decide) ?_
  refine a_istore_n X dX8_ends_20 (by decide) ?_
  exact Zw.to (E _ _ a0_14 129 0 (by omega) (by omega) 0 rfl) rfl rfl
set_option maxRecDepth 100000 in
theorem m_years0 {l : Launch} {G : zG} {b : Nat} {S : zS} {P : Nat} {sd n w : Int32} (hE : zE8 S P) (hcw : ¬ (((0 ≤ sd ∧ sd ≤ 999999999) ∧ 1 ≤ n ∧ n ≤ 30 ∧ sd ≤ 999999999 - n) ∧ 0 ≤ w ∧ w ≤ 2)) : zM l G b yX8_years cX8_years 9 (some .int) 6 0 0 [.ref P, .int sd, .int n, .int w] S (fun r _ => r = some (.int (fYears sd n w))) := by
  refine zM.of miX8_years (Nat.le_of_ble_eq_true rfl) ?_
  intro p e s m args below meth c X hr hname
  generalize hF : ((fun r _ => r = some (.int (fYears sd n w))) : Option Value → zS → Prop) = FQ
  change Zw p l e { frames := 6, cells := 0, slots := 0, locals := 80 * 6 } s m args below meth c G b 9 (MQ below (zQ G b FQ) args s 0 0 (fun q : Nat => b ≤ q)) 0 0 0 [some (.ref P), some (.int sd), some (.int n), some (.int w), none, none, none, none, none] [] S
  have hE9 := hE
  obtain ⟨hT, q_un, q_hu, q_ac, q_ta, q_st, q_fk, q_fp, q_om, q_67, q_68, q_69, q_70, q_71⟩ := hE
  obtain ⟨z_lt, z_o, z_s, z_read, z_aside, z_kept, z_guest, z_readGuest, z_tape, z_unitName, z_hunterName, z_partyName, z_bits, z_partyOf, z_choiceAt, z_sizes, z_guestMany, z_pointsOf, z_ticketsOf, z_ord, z_given, z_roundOf, z_tags, z_guestTags, z_places, z_sumAt, z_sumFirst, z_sumRound, z_sumBoth, z_sumTags, z_isEnd, z_newPoints, z_inRow, z_out⟩ := id hT
  refine a_iload_n X dX8_years_0 rfl ?_
  refine a_iload_n X dX8_years_1 rfl ?_
  refine a_callSv X dX8_years_2 miX8_areYears lm8_471 (m_areYears) rfl rfl (Nat.le_of_ble_eq_true rfl) ⟨by decide, by decide, by decide, by decide⟩ ?_
  refine a_if_eq (tgt := 20) X dX8_years_5 (by decide) (fun h_5 => ?_) (fun h_5 => ?_)
  · refine a_aload_n X dX8_years_20 rfl ?_
    refine a_iconst (v := 1) X dX8_years_21 (by decide) ?_
    refine a_callVv X dX8_years_22 miX8_refuse lm8_263 (m_refuse (by assumption)) (by assumption) rfl rfl rfl (Nat.le_of_ble_eq_true rfl) ⟨by decide, by decide, by decide, by decide⟩ ?_
    refine a_iret X hr dX8_years_25 ⟨by decide, by decide⟩ ?_
    subst hF
    show some (Value.int (-1)) = some (Value.int (fYears sd n w))
    unfold fYears
    rw [if_neg hcw]
  · refine a_iload_n X dX8_years_8 rfl ?_
    refine a_i2l X dX8_years_9 ?_
    refine a_lconst (v := 0) X dX8_years_10 (by decide) ?_
    refine a_ldc2 X dX8_years_11 lk8_427 ?_
    refine a_callSv X dX8_years_14 miX8_isFrom lm8_128 (m_isFrom (lo := 0) (hi := 2) (by decide) (by decide)) rfl rfl (Nat.le_of_ble_eq_true rfl) ⟨by decide, by decide, by decide, by decide⟩ ?_
    refine a_if_ne (tgt := 26) X dX8_years_17 (by decide) (fun h_17 => absurd (by show zB _ = 0; unfold zB; rw [if_neg]; intro q; exact hcw ⟨zB_1 h_5, q⟩) h_17) (fun h_17 => ?_)
    refine a_aload_n X dX8_years_20 rfl ?_
    refine a_iconst (v := 1) X dX8_years_21 (by decide) ?_
    refine a_callVv X dX8_years_22 miX8_refuse lm8_263 (m_refuse (by assumption)) (by assumption) rfl rfl rfl (Nat.le_of_ble_eq_true rfl) ⟨by decide, by decide, by decide, by decide⟩ ?_
    refine a_iret X hr dX8_years_25 ⟨by decide, by decide⟩ ?_
    subst hF
    show some (Value.int (-1)) = some (Value.int (fYears sd n w))
    unfold fYears
    rw [if_neg hcw]
set_option maxRecDepth 100000 in
theorem m_years1 {l : Launch} {G : zG} {b : Nat} {S : zS} {P k : Nat} {sd w : Int32} (hE : zE8 S P) (hk : k < 1000) (hcw : (((0 ≤ sd ∧ sd ≤ 999999999) ∧ 1 ≤ (nI k) ∧ (nI k) ≤ 30 ∧ sd ≤ 999999999 - (nI k)) ∧ 0 ≤ w ∧ w ≤ 2)) : zM l G b yX8_years cX8_years 9 (some .int) 6 0 0 [.ref P, .int sd, .int (nI k), .int w] S (fun r _ => r = some (.int (fYears sd (nI k) w))) := by
  refine zM.of miX8_years (Nat.le_of_ble_eq_true rfl) ?_
  intro p e s m args below meth c X hr hname
  generalize hF : ((fun r _ => r = some (.int (fYears sd (nI k) w))) : Option Value → zS → Prop) = FQ
  change Zw p l e { frames := 6, cells := 0, slots := 0, locals := 80 * 6 } s m args below meth c G b 9 (MQ below (zQ G b FQ) args s 0 0 (fun q : Nat => b ≤ q)) 0 0 0 [some (.ref P), some (.int sd), some (.int (nI k)), some (.int w), none, none, none, none, none] [] S
  have hE9 := hE
  obtain ⟨hT, q_un, q_hu, q_ac, q_ta, q_st, q_fk, q_fp, q_om, q_67, q_68, q_69, q_70, q_71⟩ := hE
  obtain ⟨z_lt, z_o, z_s, z_read, z_aside, z_kept, z_guest, z_readGuest, z_tape, z_unitName, z_hunterName, z_partyName, z_bits, z_partyOf, z_choiceAt, z_sizes, z_guestMany, z_pointsOf, z_ticketsOf, z_ord, z_given, z_roundOf, z_tags, z_guestTags, z_places, z_sumAt, z_sumFirst, z_sumRound, z_sumBoth, z_sumTags, z_isEnd, z_newPoints, z_inRow, z_out⟩ := id hT
  have L : ∀ (u j : Nat), k + 1 < j + u → j ≤ k → ∀ (x8 : Option Value) (M2 : Nat → Nat → Int32) (N2 : Nat → Nat → Int64), M2 P 7 = 0 → M2 P 8 = 0 → M2 (P + 1) 70 = 0 → Zw p l e { frames := 6, cells := 0, slots := 0, locals := 80 * 6 } s m args below meth c G b 9 (MQ below (zQ G b FQ) args s 0 0 (fun q : Nat => b ≤ q)) 0 0 75 [some (.ref P), some (.int sd), some (.int (nI k)), some (.int w), some (.int 0), some (.int 0), some (.int 0), some (.int (nI j)), x8] [] (S.1, M2, N2) := by
    intro u
    induction u with
    | zero => intro j h1 h2; exact absurd h1 (by omega)
    | succ u ih =>
      intro j h1 h2 x8 M2 N2 i7 i8 i70
      refine a_iload X dX8_years_75 rfl ?_
      refine a_iload_n X dX8_years_77 rfl ?_
      refine a_icmp_ge (tgt := 177) X dX8_years_78 (by decide) (fun h_78 => ?_) (fun h_78 => ?_)
      · refine a_aload_n X dX8_years_177 rfl ?_
        refine a_callVu X dX8_years_178 miX8_takesBack lm8_449 (m_takesBack (by assumption)) (by assumption) rfl rfl rfl (Nat.le_of_ble_eq_true rfl) ⟨by decide, by decide, by decide, by decide⟩ ?_
        refine a_aload_n X dX8_years_181 rfl ?_
        refine a_iload_n X dX8_years_182 rfl ?_
        refine a_if_ne (tgt := 191) X dX8_years_183 (by decide) (fun h_183 => ?_) (fun h_183 => ?_)
        · refine a_iload_n X dX8_years_191 rfl ?_
          refine a_iconst (v := 1) X dX8_years_192 (by decide) ?_
          refine a_icmp_ne (tgt := 201) X dX8_years_193 (by decide) (fun h_193 => ?_) (fun h_193 => ?_)
          · refine a_iload X dX8_years_201 rfl ?_
            refine a_callVv X dX8_years_203 miX8_gives lm8_272 (m_gives (by assumption)) (by assumption) rfl rfl rfl (Nat.le_of_ble_eq_true rfl) ⟨by decide, by decide, by decide, by decide⟩ ?_
            refine a_iret X hr dX8_years_206 ⟨by decide, by decide⟩ ?_
            subst hF
            unfold fYears
            rw [if_pos hcw]
          · refine a_iload X dX8_years_196 rfl ?_
            refine a_goto (tgt := 203) X dX8_years_198 (by decide) ?_
            refine a_callVv X dX8_years_203 miX8_gives lm8_272 (m_gives (by assumption)) (by assumption) rfl rfl rfl (Nat.le_of_ble_eq_true rfl) ⟨by decide, by decide, by decide, by decide⟩ ?_
            refine a_iret X hr dX8_years_206 ⟨by decide, by decide⟩ ?_
            subst hF
            unfold fYears
            rw [if_pos hcw]
        · refine a_iload X dX8_years_186 rfl ?_
          refine a_goto (tgt := 203) X dX8_years_188 (by decide) ?_
          refine a_callVv X dX8_years_203 miX8_gives lm8_272 (m_gives (by assumption)) (by assumption) rfl rfl rfl (Nat.le_of_ble_eq_true rfl) ⟨by decide, by decide, by decide, by decide⟩ ?_
          refine a_iret X hr dX8_years_206 ⟨by decide, by decide⟩ ?_
          subst hF
          unfold fYears
          rw [if_pos hcw]
      · refine a_aload_n X dX8_years_81 rfl ?_
        refine a_iload_n X dX8_years_82 rfl ?_
        refine a_iload X dX8_years_83 rfl ?_
        refine a_iadd X dX8_years_85 ?_
        refine a_callVu X dX8_years_86 miX8_goesYear lm8_474 (m_goesYear0 (by assumption) i7 i8 i70) (by assumption) rfl rfl rfl (Nat.le_of_ble_eq_true rfl) ⟨by decide, by decide, by decide, by decide⟩ ?_
        refine a_iload X dX8_years_89 rfl ?_
        refine a_aload_n X dX8_years_91 rfl ?_
        refine a_callVv X dX8_years_92 miX8_givenTags lm8_421 (m_givenTags0 (by assumption) (by simp [zu])) (by assumption) rfl rfl rfl (Nat.le_of_ble_eq_true rfl) ⟨by decide, by decide, by decide, by decide⟩ ?_
        refine a_iadd X dX8_years_95 ?_
        refine a_istore X dX8_years_96 (by decide) ?_
        refine a_iload X dX8_years_98 rfl ?_
        refine a_aload_n X dX8_years_100 rfl ?_
        refine a_callVv X dX8_years_101 miX8_winnersNow lm8_371 (m_winnersNow0 (by assumption) (by simp [zu])) (by assumption) rfl rfl rfl (Nat.le_of_ble_eq_true rfl) ⟨by decide, by decide, by decide, by decide⟩ ?_
        refine a_iconst (v := -1) X dX8_years_104 (by decide) ?_
        refine a_ixor X dX8_years_105 ?_
        refine a_iand X dX8_years_106 ?_
        refine a_istore X dX8_years_107 (by decide) ?_
        refine a_iconst (v := 0) X dX8_years_109 (by decide) ?_
        refine a_istore X dX8_years_110 (by decide) ?_
        refine a_iload X dX8_years_112 rfl ?_
        refine a_aload_n X dX8_years_114 rfl ?_
        refine a_geti X lf8_132 (by assumption) rfl dX8_years_115 ?_
        refine a_icmp_ge (tgt := 171) X dX8_years_118 (by decide) (fun h_118 => ?_) (fun h_118 => absurd (by show zu M2 P 33 0 P 8 ≤ 0; simp [zu, i8]) h_118)
        refine a_iinc (v := nI (j + 1)) X dX8_years_171 (by decide) rfl (nI_1 j) ?_
        refine a_goto (tgt := 75) X dX8_years_174 (by decide) ?_
        exact Zw.to (ih (j + 1) (by omega) (by have : ¬ k ≤ j := fun q => h_78 ((nI_leI (by omega) (by omega)).mpr q); omega) _ _ _ (by simp [zu, i7]) (by simp [zu, i8]) (by rw [zu_row (by omega)]; exact i70)) rfl rfl
  refine a_iload_n X dX8_years_0 rfl ?_
  refine a_iload_n X dX8_years_1 rfl ?_
  refine a_callSv X dX8_years_2 miX8_areYears lm8_471 (m_areYears) rfl rfl (Nat.le_of_ble_eq_true rfl) ⟨by decide, by decide, by decide, by decide⟩ ?_
  refine a_if_eq (tgt := 20) X dX8_years_5 (by decide) (fun h_5 => absurd h_5 (by unfold zB; rw [if_pos hcw.1]; decide)) (fun h_5 => ?_)
  refine a_iload_n X dX8_years_8 rfl ?_
  refine a_i2l X dX8_years_9 ?_
  refine a_lconst (v := 0) X dX8_years_10 (by decide) ?_
  refine a_ldc2 X dX8_years_11 lk8_427 ?_
  refine a_callSv X dX8_years_14 miX8_isFrom lm8_128 (m_isFrom (lo := 0) (hi := 2) (by decide) (by decide)) rfl rfl (Nat.le_of_ble_eq_true rfl) ⟨by decide, by decide, by decide, by decide⟩ ?_
  refine a_if_ne (tgt := 26) X dX8_years_17 (by decide) (fun h_17 => ?_) (fun h_17 => absurd h_17 (by unfold zB; rw [if_pos hcw.2]; decide))
  refine a_aload_n X dX8_years_26 rfl ?_
  refine a_callVu X dX8_years_27 miX8_putsAside lm8_444 (m_putsAside (by assumption)) (by assumption) rfl rfl rfl (Nat.le_of_ble_eq_true rfl) ⟨by decide, by decide, by decide, by decide⟩ ?_
  refine a_iconst (v := 0) X dX8_years_30 (by decide) ?_
  refine a_istore X dX8_years_31 (by decide) ?_
  refine a_iconst (v := 1) X dX8_years_33 (by decide) ?_
  refine a_aload_n X dX8_years_34 rfl ?_
  refine a_geti X lf8_132 (by assumption) rfl dX8_years_35 ?_
  refine a_ishl X dX8_years_38 ?_
  refine a_iconst (v := 1) X dX8_years_39 (by decide) ?_
  refine a_isub X dX8_years_40 ?_
  refine a_istore X dX8_years_41 (by decide) ?_
  refine a_iconst (v := 0) X dX8_years_43 (by decide) ?_
  refine a_istore X dX8_years_44 (by decide) ?_
  refine a_iconst (v := 0) X dX8_years_46 (by decide) ?_
  refine a_istore X dX8_years_47 (by decide) ?_
  refine a_iload X dX8_years_49 rfl ?_
  refine a_aload_n X dX8_years_51 rfl ?_
  refine a_geti X lf8_132 (by assumption) rfl dX8_years_52 ?_
  refine a_icmp_ge (tgt := 72) X dX8_years_55 (by decide) (fun h_55 => ?_) (fun h_55 => absurd (by show zcpy S.2.1 (P + 3) 82 _ P 8 ≤ 0; rw [zcpy_row (by omega), q_hu]; decide) h_55)
  refine a_iconst (v := 0) X dX8_years_72 (by decide) ?_
  refine a_istore X dX8_years_73 (by decide) ?_
  exact Zw.to (L (k + 2) 0 (by omega) (by omega) none _ _ (by rw [zcpy_row (by omega)]; exact q_un) (by rw [zcpy_row (by omega)]; exact q_hu) (by rw [zcpy_row (by omega)]; exact q_70)) (by show _ = [_, _, _, _, _, some (Value.int (1 <<< (zcpy S.2.1 (P + 3) 82 _ P 8 &&& 31) - 1)), _, _, _]; rw [zcpy_row (by omega), q_hu]; rfl) rfl
theorem m_years {l : Launch} {G : zG} {b : Nat} {S : zS} {P : Nat} {sd n w : Int32} (hE : zE8 S P) : zM l G b yX8_years cX8_years 9 (some .int) 6 0 0 [.ref P, .int sd, .int n, .int w] S (fun r _ => r = some (.int (fYears sd n w))) := by
  by_cases hcw : (((0 ≤ sd ∧ sd ≤ 999999999) ∧ 1 ≤ n ∧ n ≤ 30 ∧ sd ≤ 999999999 - n) ∧ 0 ≤ w ∧ w ≤ 2)
  · obtain ⟨k, hk, rfl⟩ := zi_k hcw.1.2.1 hcw.1.2.2.1
    exact m_years1 hE hk hcw
  · exact m_years0 hE hcw
set_option maxRecDepth 100000 in
theorem m_law {l : Launch} {G : zG} {b : Nat} {S : zS} {P : Nat} {v : Int32} (hE : zE8 S P) : zM l G b yX8_law cX8_law 2 (some .int) 3 0 0 [.ref P, .int v] S (fun r _ => r = some (.int (fLaw v))) := by
  refine zM.of miX8_law (Nat.le_of_ble_eq_true rfl) ?_
  intro p e s m args below meth c X hr hname
  generalize hF : ((fun r _ => r = some (.int (fLaw v))) : Option Value → zS → Prop) = FQ
  change Zw p l e { frames := 3, cells := 0, slots := 0, locals := 80 * 3 } s m args below meth c G b 2 (MQ below (zQ G b FQ) args s 0 0 (fun q : Nat => b ≤ q)) 0 0 0 [some (.ref P), some (.int v)] [] S
  have hE9 := hE
  obtain ⟨hT, q_un, q_hu, q_ac, q_ta, q_st, q_fk, q_fp, q_om, q_67, q_68, q_69, q_70, q_71⟩ := hE
  obtain ⟨z_lt, z_o, z_s, z_read, z_aside, z_kept, z_guest, z_readGuest, z_tape, z_unitName, z_hunterName, z_partyName, z_bits, z_partyOf, z_choiceAt, z_sizes, z_guestMany, z_pointsOf, z_ticketsOf, z_ord, z_given, z_roundOf, z_tags, z_guestTags, z_places, z_sumAt, z_sumFirst, z_sumRound, z_sumBoth, z_sumTags, z_isEnd, z_newPoints, z_inRow, z_out⟩ := id hT
  refine a_iload_n X dX8_law_0 rfl ?_
  refine a_i2l X dX8_law_1 ?_
  refine a_lconst (v := 0) X dX8_law_2 (by decide) ?_
  refine a_ldc2 X dX8_law_3 lk8_427 ?_
  refine a_callSv X dX8_law_6 miX8_isFrom lm8_128 (m_isFrom (lo := 0) (hi := 2) (by decide) (by decide)) rfl rfl (Nat.le_of_ble_eq_true rfl) ⟨by decide, by decide, by decide, by decide⟩ ?_
  refine a_if_eq (tgt := 22) X dX8_law_9 (by decide) (fun h_9 => ?_) (fun h_9 => ?_)
  · refine a_aload_n X dX8_law_22 rfl ?_
    refine a_iconst (v := 1) X dX8_law_23 (by decide) ?_
    refine a_callVv X dX8_law_24 miX8_refuse lm8_263 (m_refuse (by assumption)) (by assumption) rfl rfl rfl (Nat.le_of_ble_eq_true rfl) ⟨by decide, by decide, by decide, by decide⟩ ?_
    refine a_iret X hr dX8_law_27 ⟨by decide, by decide⟩ ?_
    subst hF
    first | (unfold fLaw; rw [if_neg (fun q => zB_0 h_9 q.1)]; done) | exact congrArg (fun x => some (Value.int x)) (z_be (zB_1 h_9) q_67)
  · refine a_aload_n X dX8_law_12 rfl ?_
    refine a_bipush (v := 67) X dX8_law_13 (by decide) ?_
    refine a_iload_n X dX8_law_15 rfl ?_
    refine a_callVx X dX8_law_16 miX8_becomes lm8_483 (m_becomes (k := 67) (by assumption) (by assumption) (by decide)) (by assumption) rfl rfl rfl (Nat.le_of_ble_eq_true rfl) ⟨by decide, by decide, by decide, by decide⟩ (fun r_16 S_16 q_16 => ?_)
    obtain rfl := q_16
    refine a_goto (tgt := 27) X dX8_law_19 (by decide) ?_
    refine a_iret X hr dX8_law_27 ⟨by decide, by decide⟩ ?_
    subst hF
    first | (unfold fLaw; rw [if_neg (fun q => zB_0 h_9 q.1)]; done) | exact congrArg (fun x => some (Value.int x)) (z_be (zB_1 h_9) q_67)
set_option maxRecDepth 100000 in
theorem m_prefer {l : Launch} {G : zG} {b : Nat} {S : zS} {P : Nat} {v : Int32} (hE : zE8 S P) : zM l G b yX8_prefer cX8_prefer 2 (some .int) 3 0 0 [.ref P, .int v] S (fun r _ => r = some (.int (fPrefer v))) := by
  refine zM.of miX8_prefer (Nat.le_of_ble_eq_true rfl) ?_
  intro p e s m args below meth c X hr hname
  generalize hF : ((fun r _ => r = some (.int (fPrefer v))) : Option Value → zS → Prop) = FQ
  change Zw p l e { frames := 3, cells := 0, slots := 0, locals := 80 * 3 } s m args below meth c G b 2 (MQ below (zQ G b FQ) args s 0 0 (fun q : Nat => b ≤ q)) 0 0 0 [some (.ref P), some (.int v)] [] S
  have hE9 := hE
  obtain ⟨hT, q_un, q_hu, q_ac, q_ta, q_st, q_fk, q_fp, q_om, q_67, q_68, q_69, q_70, q_71⟩ := hE
  obtain ⟨z_lt, z_o, z_s, z_read, z_aside, z_kept, z_guest, z_readGuest, z_tape, z_unitName, z_hunterName, z_partyName, z_bits, z_partyOf, z_choiceAt, z_sizes, z_guestMany, z_pointsOf, z_ticketsOf, z_ord, z_given, z_roundOf, z_tags, z_guestTags, z_places, z_sumAt, z_sumFirst, z_sumRound, z_sumBoth, z_sumTags, z_isEnd, z_newPoints, z_inRow, z_out⟩ := id hT
  refine a_iload_n X dX8_prefer_0 rfl ?_
  refine a_i2l X dX8_prefer_1 ?_
  refine a_lconst (v := 0) X dX8_prefer_2 (by decide) ?_
  refine a_ldc2 X dX8_prefer_3 lk8_486 ?_
  refine a_callSv X dX8_prefer_6 miX8_isFrom lm8_128 (m_isFrom (lo := 0) (hi := 100) (by decide) (by decide)) rfl rfl (Nat.le_of_ble_eq_true rfl) ⟨by decide, by decide, by decide, by decide⟩ ?_
  refine a_if_eq (tgt := 22) X dX8_prefer_9 (by decide) (fun h_9 => ?_) (fun h_9 => ?_)
  · refine a_aload_n X dX8_prefer_22 rfl ?_
    refine a_iconst (v := 1) X dX8_prefer_23 (by decide) ?_
    refine a_callVv X dX8_prefer_24 miX8_refuse lm8_263 (m_refuse (by assumption)) (by assumption) rfl rfl rfl (Nat.le_of_ble_eq_true rfl) ⟨by decide, by decide, by decide, by decide⟩ ?_
    refine a_iret X hr dX8_prefer_27 ⟨by decide, by decide⟩ ?_
    subst hF
    first | (unfold fPrefer; rw [if_neg (fun q => zB_0 h_9 q.1)]; done) | exact congrArg (fun x => some (Value.int x)) (z_be (zB_1 h_9) q_68)
  · refine a_aload_n X dX8_prefer_12 rfl ?_
    refine a_bipush (v := 68) X dX8_prefer_13 (by decide) ?_
    refine a_iload_n X dX8_prefer_15 rfl ?_
    refine a_callVx X dX8_prefer_16 miX8_becomes lm8_483 (m_becomes (k := 68) (by assumption) (by assumption) (by decide)) (by assumption) rfl rfl rfl (Nat.le_of_ble_eq_true rfl) ⟨by decide, by decide, by decide, by decide⟩ (fun r_16 S_16 q_16 => ?_)
    obtain rfl := q_16
    refine a_goto (tgt := 27) X dX8_prefer_19 (by decide) ?_
    refine a_iret X hr dX8_prefer_27 ⟨by decide, by decide⟩ ?_
    subst hF
    first | (unfold fPrefer; rw [if_neg (fun q => zB_0 h_9 q.1)]; done) | exact congrArg (fun x => some (Value.int x)) (z_be (zB_1 h_9) q_68)
set_option maxRecDepth 100000 in
theorem m_guests {l : Launch} {G : zG} {b : Nat} {S : zS} {P : Nat} {v : Int32} (hE : zE8 S P) : zM l G b yX8_guests cX8_guests 2 (some .int) 3 0 0 [.ref P, .int v] S (fun r _ => r = some (.int (fGuests v))) := by
  refine zM.of miX8_guests (Nat.le_of_ble_eq_true rfl) ?_
  intro p e s m args below meth c X hr hname
  generalize hF : ((fun r _ => r = some (.int (fGuests v))) : Option Value → zS → Prop) = FQ
  change Zw p l e { frames := 3, cells := 0, slots := 0, locals := 80 * 3 } s m args below meth c G b 2 (MQ below (zQ G b FQ) args s 0 0 (fun q : Nat => b ≤ q)) 0 0 0 [some (.ref P), some (.int v)] [] S
  have hE9 := hE
  obtain ⟨hT, q_un, q_hu, q_ac, q_ta, q_st, q_fk, q_fp, q_om, q_67, q_68, q_69, q_70, q_71⟩ := hE
  obtain ⟨z_lt, z_o, z_s, z_read, z_aside, z_kept, z_guest, z_readGuest, z_tape, z_unitName, z_hunterName, z_partyName, z_bits, z_partyOf, z_choiceAt, z_sizes, z_guestMany, z_pointsOf, z_ticketsOf, z_ord, z_given, z_roundOf, z_tags, z_guestTags, z_places, z_sumAt, z_sumFirst, z_sumRound, z_sumBoth, z_sumTags, z_isEnd, z_newPoints, z_inRow, z_out⟩ := id hT
  refine a_iload_n X dX8_guests_0 rfl ?_
  refine a_i2l X dX8_guests_1 ?_
  refine a_lconst (v := 0) X dX8_guests_2 (by decide) ?_
  refine a_ldc2 X dX8_guests_3 lk8_486 ?_
  refine a_callSv X dX8_guests_6 miX8_isFrom lm8_128 (m_isFrom (lo := 0) (hi := 100) (by decide) (by decide)) rfl rfl (Nat.le_of_ble_eq_true rfl) ⟨by decide, by decide, by decide, by decide⟩ ?_
  refine a_if_eq (tgt := 22) X dX8_guests_9 (by decide) (fun h_9 => ?_) (fun h_9 => ?_)
  · refine a_aload_n X dX8_guests_22 rfl ?_
    refine a_iconst (v := 1) X dX8_guests_23 (by decide) ?_
    refine a_callVv X dX8_guests_24 miX8_refuse lm8_263 (m_refuse (by assumption)) (by assumption) rfl rfl rfl (Nat.le_of_ble_eq_true rfl) ⟨by decide, by decide, by decide, by decide⟩ ?_
    refine a_iret X hr dX8_guests_27 ⟨by decide, by decide⟩ ?_
    subst hF
    first | (unfold fGuests; rw [if_neg (fun q => zB_0 h_9 q.1)]; done) | exact congrArg (fun x => some (Value.int x)) (z_be (zB_1 h_9) q_69)
  · refine a_aload_n X dX8_guests_12 rfl ?_
    refine a_bipush (v := 69) X dX8_guests_13 (by decide) ?_
    refine a_iload_n X dX8_guests_15 rfl ?_
    refine a_callVx X dX8_guests_16 miX8_becomes lm8_483 (m_becomes (k := 69) (by assumption) (by assumption) (by decide)) (by assumption) rfl rfl rfl (Nat.le_of_ble_eq_true rfl) ⟨by decide, by decide, by decide, by decide⟩ (fun r_16 S_16 q_16 => ?_)
    obtain rfl := q_16
    refine a_goto (tgt := 27) X dX8_guests_19 (by decide) ?_
    refine a_iret X hr dX8_guests_27 ⟨by decide, by decide⟩ ?_
    subst hF
    first | (unfold fGuests; rw [if_neg (fun q => zB_0 h_9 q.1)]; done) | exact congrArg (fun x => some (Value.int x)) (z_be (zB_1 h_9) q_69)
set_option maxRecDepth 100000 in
theorem m_undo {l : Launch} {G : zG} {b : Nat} {S : zS} {P : Nat}  (hE : zE8 S P) : zM l G b yX8_undo cX8_undo 2 (some .int) 3 0 0 [.ref P] S (fun r _ => r = some (.int (-1))) := by
  refine zM.of miX8_undo (Nat.le_of_ble_eq_true rfl) ?_
  intro p e s m args below meth c X hr hname
  generalize hF : ((fun r _ => r = some (.int (-1))) : Option Value → zS → Prop) = FQ
  change Zw p l e { frames := 3, cells := 0, slots := 0, locals := 80 * 3 } s m args below meth c G b 2 (MQ below (zQ G b FQ) args s 0 0 (fun q : Nat => b ≤ q)) 0 0 0 [some (.ref P), none] [] S
  have hE9 := hE
  obtain ⟨hT, q_un, q_hu, q_ac, q_ta, q_st, q_fk, q_fp, q_om, q_67, q_68, q_69, q_70, q_71⟩ := hE
  obtain ⟨z_lt, z_o, z_s, z_read, z_aside, z_kept, z_guest, z_readGuest, z_tape, z_unitName, z_hunterName, z_partyName, z_bits, z_partyOf, z_choiceAt, z_sizes, z_guestMany, z_pointsOf, z_ticketsOf, z_ord, z_given, z_roundOf, z_tags, z_guestTags, z_places, z_sumAt, z_sumFirst, z_sumRound, z_sumBoth, z_sumTags, z_isEnd, z_newPoints, z_inRow, z_out⟩ := id hT
  refine a_aload_n X dX8_undo_0 rfl ?_
  refine a_geti X lf8_269 (by assumption) rfl dX8_undo_1 ?_
  refine a_if_ne (tgt := 13) X dX8_undo_4 (by decide) (fun h_4 => absurd q_ac h_4) (fun h_4 => ?_)
  refine a_aload_n X dX8_undo_7 rfl ?_
  refine a_iconst (v := 5) X dX8_undo_8 (by decide) ?_
  refine a_callVv X dX8_undo_9 miX8_refuse lm8_263 (m_refuse (by assumption)) (by assumption) rfl rfl rfl (Nat.le_of_ble_eq_true rfl) ⟨by decide, by decide, by decide, by decide⟩ ?_
  refine a_iret X hr dX8_undo_12 ⟨by decide, by decide⟩ ?_
  subst hF
  rfl
set_option maxRecDepth 100000 in
theorem m_out {l : Launch} {G : zG} {b : Nat} {S : zS} {P : Nat} {i : Int32} (hE : zE8 S P) : zM l G b yX8_out cX8_out 2 (some .int) 1 0 0 [.ref P, .int i] S (fun r _ => r = some (.int (-1))) := by
  refine zM.of miX8_out (Nat.le_of_ble_eq_true rfl) ?_
  intro p e s m args below meth c X hr hname
  generalize hF : ((fun r _ => r = some (.int (-1))) : Option Value → zS → Prop) = FQ
  change Zw p l e { frames := 1, cells := 0, slots := 0, locals := 80 * 1 } s m args below meth c G b 2 (MQ below (zQ G b FQ) args s 0 0 (fun q : Nat => b ≤ q)) 0 0 0 [some (.ref P), some (.int i)] [] S
  have hE9 := hE
  obtain ⟨hT, q_un, q_hu, q_ac, q_ta, q_st, q_fk, q_fp, q_om, q_67, q_68, q_69, q_70, q_71⟩ := hE
  obtain ⟨z_lt, z_o, z_s, z_read, z_aside, z_kept, z_guest, z_readGuest, z_tape, z_unitName, z_hunterName, z_partyName, z_bits, z_partyOf, z_choiceAt, z_sizes, z_guestMany, z_pointsOf, z_ticketsOf, z_ord, z_given, z_roundOf, z_tags, z_guestTags, z_places, z_sumAt, z_sumFirst, z_sumRound, z_sumBoth, z_sumTags, z_isEnd, z_newPoints, z_inRow, z_out⟩ := id hT
  refine a_iload_n X dX8_out_0 rfl ?_
  refine a_if_ge (tgt := 10) X dX8_out_1 (by decide) (fun h_1 => ?_) (fun h_1 => ?_)
  · refine a_iload_n X dX8_out_10 rfl ?_
    refine a_aload_n X dX8_out_11 rfl ?_
    refine a_geti X lf8_488 (by assumption) rfl dX8_out_12 ?_
    refine a_icmp_ge (tgt := 31) X dX8_out_15 (by decide) (fun h_15 => ?_) (fun h_15 => absurd (by show S.2.1 P 64 ≤ i; rw [q_om]; exact h_1) h_15)
    refine a_aload_n X dX8_out_31 rfl ?_
    refine a_iconst (v := 5) X dX8_out_32 (by decide) ?_
    refine a_callVv X dX8_out_33 miX8_refuse lm8_263 (m_refuse (by assumption)) (by assumption) rfl rfl rfl (Nat.le_of_ble_eq_true rfl) ⟨by decide, by decide, by decide, by decide⟩ ?_
    refine a_iret X hr dX8_out_36 ⟨by decide, by decide⟩ ?_
    subst hF
    rfl
  · refine a_aload_n X dX8_out_4 rfl ?_
    refine a_iconst (v := 1) X dX8_out_5 (by decide) ?_
    refine a_callVv X dX8_out_6 miX8_refuse lm8_263 (m_refuse (by assumption)) (by assumption) rfl rfl rfl (Nat.le_of_ble_eq_true rfl) ⟨by decide, by decide, by decide, by decide⟩ ?_
    refine a_iret X hr dX8_out_9 ⟨by decide, by decide⟩ ?_
    subst hF
    rfl
set_option maxRecDepth 100000 in
theorem m_choose {l : Launch} {G : zG} {b : Nat} {S : zS} {P : Nat} {a : Int32} {u : Int32} {v : Int32} {w : Int32} (hE : zE8 S P) : zM l G b yX8_choose cX8_choose 9 (some .int) 4 0 0 [.ref P, .int a, .int u, .int v, .int w] S (fun r _ => r = some (.int (-1))) := by
  refine zM.of miX8_choose (Nat.le_of_ble_eq_true rfl) ?_
  intro p e s m args below meth c X hr hname
  generalize hF : ((fun r _ => r = some (.int (-1))) : Option Value → zS → Prop) = FQ
  change Zw p l e { frames := 4, cells := 0, slots := 0, locals := 80 * 4 } s m args below meth c G b 9 (MQ below (zQ G b FQ) args s 0 0 (fun q : Nat => b ≤ q)) 0 0 0 [some (.ref P), some (.int a), some (.int u), some (.int v), some (.int w), none, none, none, none] [] S
  have hE9 := hE
  obtain ⟨hT, q_un, q_hu, q_ac, q_ta, q_st, q_fk, q_fp, q_om, q_67, q_68, q_69, q_70, q_71⟩ := hE
  obtain ⟨z_lt, z_o, z_s, z_read, z_aside, z_kept, z_guest, z_readGuest, z_tape, z_unitName, z_hunterName, z_partyName, z_bits, z_partyOf, z_choiceAt, z_sizes, z_guestMany, z_pointsOf, z_ticketsOf, z_ord, z_given, z_roundOf, z_tags, z_guestTags, z_places, z_sumAt, z_sumFirst, z_sumRound, z_sumBoth, z_sumTags, z_isEnd, z_newPoints, z_inRow, z_out⟩ := id hT
  have J6 : ∀ x y : Int32, Zw p l e { frames := 4, cells := 0, slots := 0, locals := 80 * 4 } s m args below meth c G b 9 (MQ below (zQ G b FQ) args s 0 0 (fun q : Nat => b ≤ q)) 0 0 60 [some (.ref P), some (.int a), some (.int u), some (.int v), some (.int w), some (.int x), none, none, none] [.int y] S := by
    intro x y
    refine a_istore X dX8_choose_60 (by decide) ?_
    refine a_iload_n X dX8_choose_62 rfl ?_
    refine a_iconst (v := -1) X dX8_choose_63 (by decide) ?_
    refine a_icmp_lt (tgt := 88) X dX8_choose_64 (by decide) (fun h_64 => ?_) (fun h_64 => ?_)
    · refine a_aload_n X dX8_choose_88 rfl ?_
      refine a_iconst (v := 1) X dX8_choose_89 (by decide) ?_
      refine a_callVv X dX8_choose_90 miX8_refuse lm8_263 (m_refuse (by assumption)) (by assumption) rfl rfl rfl (Nat.le_of_ble_eq_true rfl) ⟨by decide, by decide, by decide, by decide⟩ ?_
      refine a_iret X hr dX8_choose_93 ⟨by decide, by decide⟩ ?_
      subst hF
      rfl
    · refine a_iload_n X dX8_choose_67 rfl ?_
      refine a_iconst (v := -1) X dX8_choose_68 (by decide) ?_
      refine a_icmp_lt (tgt := 88) X dX8_choose_69 (by decide) (fun h_69 => ?_) (fun h_69 => ?_)
      · refine a_aload_n X dX8_choose_88 rfl ?_
        refine a_iconst (v := 1) X dX8_choose_89 (by decide) ?_
        refine a_callVv X dX8_choose_90 miX8_refuse lm8_263 (m_refuse (by assumption)) (by assumption) rfl rfl rfl (Nat.le_of_ble_eq_true rfl) ⟨by decide, by decide, by decide, by decide⟩ ?_
        refine a_iret X hr dX8_choose_93 ⟨by decide, by decide⟩ ?_
        subst hF
        rfl
      · refine a_iload X dX8_choose_72 rfl ?_
        refine a_iconst (v := -1) X dX8_choose_74 (by decide) ?_
        refine a_icmp_lt (tgt := 88) X dX8_choose_75 (by decide) (fun h_75 => ?_) (fun h_75 => ?_)
        · refine a_aload_n X dX8_choose_88 rfl ?_
          refine a_iconst (v := 1) X dX8_choose_89 (by decide) ?_
          refine a_callVv X dX8_choose_90 miX8_refuse lm8_263 (m_refuse (by assumption)) (by assumption) rfl rfl rfl (Nat.le_of_ble_eq_true rfl) ⟨by decide, by decide, by decide, by decide⟩ ?_
          refine a_iret X hr dX8_choose_93 ⟨by decide, by decide⟩ ?_
          subst hF
          rfl
        · refine a_iload X dX8_choose_78 rfl ?_
          refine a_if_ne (tgt := 88) X dX8_choose_80 (by decide) (fun h_80 => ?_) (fun h_80 => ?_)
          · refine a_aload_n X dX8_choose_88 rfl ?_
            refine a_iconst (v := 1) X dX8_choose_89 (by decide) ?_
            refine a_callVv X dX8_choose_90 miX8_refuse lm8_263 (m_refuse (by assumption)) (by assumption) rfl rfl rfl (Nat.le_of_ble_eq_true rfl) ⟨by decide, by decide, by decide, by decide⟩ ?_
            refine a_iret X hr dX8_choose_93 ⟨by decide, by decide⟩ ?_
            subst hF
            rfl
          · refine a_iload X dX8_choose_83 rfl ?_
            refine a_if_eq (tgt := 94) X dX8_choose_85 (by decide) (fun h_85 => ?_) (fun h_85 => ?_)
            · refine a_aload_n X dX8_choose_94 rfl ?_
              refine a_iload_n X dX8_choose_95 rfl ?_
              refine a_callVv X dX8_choose_96 miX8_isApplicant lm8_315 (m_isApplicant0 (by assumption) (by first | assumption | simp [zu, *]) (by first | assumption | simp [zu, *]) (by first | assumption | simp [zu, *])) (by assumption) rfl rfl rfl (Nat.le_of_ble_eq_true rfl) ⟨by decide, by decide, by decide, by decide⟩ ?_
              refine a_if_eq (tgt := 127) X dX8_choose_99 (by decide) (fun h_99 => ?_) (fun h_99 => absurd rfl h_99)
              refine a_aload_n X dX8_choose_127 rfl ?_
              refine a_iconst (v := 2) X dX8_choose_128 (by decide) ?_
              refine a_callVv X dX8_choose_129 miX8_refuse lm8_263 (m_refuse (by assumption)) (by assumption) rfl rfl rfl (Nat.le_of_ble_eq_true rfl) ⟨by decide, by decide, by decide, by decide⟩ ?_
              refine a_iret X hr dX8_choose_132 ⟨by decide, by decide⟩ ?_
              subst hF
              rfl
            · refine a_aload_n X dX8_choose_88 rfl ?_
              refine a_iconst (v := 1) X dX8_choose_89 (by decide) ?_
              refine a_callVv X dX8_choose_90 miX8_refuse lm8_263 (m_refuse (by assumption)) (by assumption) rfl rfl rfl (Nat.le_of_ble_eq_true rfl) ⟨by decide, by decide, by decide, by decide⟩ ?_
              refine a_iret X hr dX8_choose_93 ⟨by decide, by decide⟩ ?_
              subst hF
              rfl
  have J2 : ∀ x : Int32, Zw p l e { frames := 4, cells := 0, slots := 0, locals := 80 * 4 } s m args below meth c G b 9 (MQ below (zQ G b FQ) args s 0 0 (fun q : Nat => b ≤ q)) 0 0 26 [some (.ref P), some (.int a), some (.int u), some (.int v), some (.int w), none, none, none, none] [.int x] S := by
    intro x
    refine a_istore X dX8_choose_26 (by decide) ?_
    refine a_iload_n X dX8_choose_28 rfl ?_
    refine a_iconst (v := -1) X dX8_choose_29 (by decide) ?_
    refine a_icmp_eq (tgt := 44) X dX8_choose_30 (by decide) (fun h_30 => ?_) (fun h_30 => ?_)
    · refine a_iload_n X dX8_choose_44 rfl ?_
      refine a_iconst (v := -1) X dX8_choose_45 (by decide) ?_
      refine a_icmp_eq (tgt := 59) X dX8_choose_46 (by decide) (fun h_46 => ?_) (fun h_46 => ?_)
      · refine a_iconst (v := 0) X dX8_choose_59 (by decide) ?_
        exact J6 _ _
      · refine a_iload_n X dX8_choose_49 rfl ?_
        refine a_iload X dX8_choose_50 rfl ?_
        refine a_icmp_ne (tgt := 59) X dX8_choose_52 (by decide) (fun h_52 => ?_) (fun h_52 => ?_)
        · refine a_iconst (v := 0) X dX8_choose_59 (by decide) ?_
          exact J6 _ _
        · refine a_iconst (v := 1) X dX8_choose_55 (by decide) ?_
          refine a_goto (tgt := 60) X dX8_choose_56 (by decide) ?_
          exact J6 _ _
    · refine a_iload_n X dX8_choose_33 rfl ?_
      refine a_iload_n X dX8_choose_34 rfl ?_
      refine a_icmp_eq (tgt := 55) X dX8_choose_35 (by decide) (fun h_35 => ?_) (fun h_35 => ?_)
      · refine a_iconst (v := 1) X dX8_choose_55 (by decide) ?_
        refine a_goto (tgt := 60) X dX8_choose_56 (by decide) ?_
        exact J6 _ _
      · refine a_iload_n X dX8_choose_38 rfl ?_
        refine a_iload X dX8_choose_39 rfl ?_
        refine a_icmp_eq (tgt := 55) X dX8_choose_41 (by decide) (fun h_41 => ?_) (fun h_41 => ?_)
        · refine a_iconst (v := 1) X dX8_choose_55 (by decide) ?_
          refine a_goto (tgt := 60) X dX8_choose_56 (by decide) ?_
          exact J6 _ _
        · refine a_iload_n X dX8_choose_44 rfl ?_
          refine a_iconst (v := -1) X dX8_choose_45 (by decide) ?_
          refine a_icmp_eq (tgt := 59) X dX8_choose_46 (by decide) (fun h_46 => ?_) (fun h_46 => ?_)
          · refine a_iconst (v := 0) X dX8_choose_59 (by decide) ?_
            exact J6 _ _
          · refine a_iload_n X dX8_choose_49 rfl ?_
            refine a_iload X dX8_choose_50 rfl ?_
            refine a_icmp_ne (tgt := 59) X dX8_choose_52 (by decide) (fun h_52 => ?_) (fun h_52 => ?_)
            · refine a_iconst (v := 0) X dX8_choose_59 (by decide) ?_
              exact J6 _ _
            · refine a_iconst (v := 1) X dX8_choose_55 (by decide) ?_
              refine a_goto (tgt := 60) X dX8_choose_56 (by decide) ?_
              exact J6 _ _
  refine a_iload_n X dX8_choose_0 rfl ?_
  refine a_iconst (v := -1) X dX8_choose_1 (by decide) ?_
  refine a_icmp_ne (tgt := 10) X dX8_choose_2 (by decide) (fun h_2 => ?_) (fun h_2 => ?_)
  · refine a_iload_n X dX8_choose_10 rfl ?_
    refine a_iconst (v := -1) X dX8_choose_11 (by decide) ?_
    refine a_icmp_ne (tgt := 25) X dX8_choose_12 (by decide) (fun h_12 => ?_) (fun h_12 => ?_)
    · refine a_iconst (v := 0) X dX8_choose_25 (by decide) ?_
      exact J2 _
    · refine a_iload X dX8_choose_15 rfl ?_
      refine a_iconst (v := -1) X dX8_choose_17 (by decide) ?_
      refine a_icmp_eq (tgt := 25) X dX8_choose_18 (by decide) (fun h_18 => ?_) (fun h_18 => ?_)
      · refine a_iconst (v := 0) X dX8_choose_25 (by decide) ?_
        exact J2 _
      · refine a_iconst (v := 1) X dX8_choose_21 (by decide) ?_
        refine a_goto (tgt := 26) X dX8_choose_22 (by decide) ?_
        exact J2 _
  · refine a_iload_n X dX8_choose_5 rfl ?_
    refine a_iconst (v := -1) X dX8_choose_6 (by decide) ?_
    refine a_icmp_ne (tgt := 21) X dX8_choose_7 (by decide) (fun h_7 => ?_) (fun h_7 => ?_)
    · refine a_iconst (v := 1) X dX8_choose_21 (by decide) ?_
      refine a_goto (tgt := 26) X dX8_choose_22 (by decide) ?_
      exact J2 _
    · refine a_iload_n X dX8_choose_10 rfl ?_
      refine a_iconst (v := -1) X dX8_choose_11 (by decide) ?_
      refine a_icmp_ne (tgt := 25) X dX8_choose_12 (by decide) (fun h_12 => ?_) (fun h_12 => ?_)
      · refine a_iconst (v := 0) X dX8_choose_25 (by decide) ?_
        exact J2 _
      · refine a_iload X dX8_choose_15 rfl ?_
        refine a_iconst (v := -1) X dX8_choose_17 (by decide) ?_
        refine a_icmp_eq (tgt := 25) X dX8_choose_18 (by decide) (fun h_18 => ?_) (fun h_18 => ?_)
        · refine a_iconst (v := 0) X dX8_choose_25 (by decide) ?_
          exact J2 _
        · refine a_iconst (v := 1) X dX8_choose_21 (by decide) ?_
          refine a_goto (tgt := 26) X dX8_choose_22 (by decide) ?_
          exact J2 _
set_option maxRecDepth 100000 in
theorem m_load0 {l : Launch} {G : zG} {b : Nat} {S : zS} {P : Nat} {n : Int32} (hE : zE8 S P) (hn : ¬ n = 0) : zM l G b yX8_load cX8_load 4 (some .int) 3 0 0 [.ref P, .int n] S (fun r _ => r = some (.int (fLoad n))) := by
  refine zM.of miX8_load (Nat.le_of_ble_eq_true rfl) ?_
  intro p e s m args below meth c X hr hname
  generalize hF : ((fun r _ => r = some (.int (fLoad n))) : Option Value → zS → Prop) = FQ
  change Zw p l e { frames := 3, cells := 0, slots := 0, locals := 80 * 3 } s m args below meth c G b 4 (MQ below (zQ G b FQ) args s 0 0 (fun q : Nat => b ≤ q)) 0 0 0 [some (.ref P), some (.int n), none, none] [] S
  have hE9 := hE
  obtain ⟨hT, q_un, q_hu, q_ac, q_ta, q_st, q_fk, q_fp, q_om, q_67, q_68, q_69, q_70, q_71⟩ := hE
  obtain ⟨z_lt, z_o, z_s, z_read, z_aside, z_kept, z_guest, z_readGuest, z_tape, z_unitName, z_hunterName, z_partyName, z_bits, z_partyOf, z_choiceAt, z_sizes, z_guestMany, z_pointsOf, z_ticketsOf, z_ord, z_given, z_roundOf, z_tags, z_guestTags, z_places, z_sumAt, z_sumFirst, z_sumRound, z_sumBoth, z_sumTags, z_isEnd, z_newPoints, z_inRow, z_out⟩ := id hT
  refine a_iload_n X dX8_load_0 rfl ?_
  refine a_i2l X dX8_load_1 ?_
  refine a_lconst (v := 0) X dX8_load_2 (by decide) ?_
  refine a_aload_n X dX8_load_3 rfl ?_
  refine a_geti X lf8_137 (by assumption) rfl dX8_load_4 ?_
  refine a_i2l X dX8_load_7 ?_
  refine a_callSv X dX8_load_8 miX8_isFrom lm8_128 (m_isFrom (lo := 0) (hi := S.2.1 P 11) (by decide) rfl) rfl rfl (Nat.le_of_ble_eq_true rfl) ⟨by decide, by decide, by decide, by decide⟩ ?_
  refine a_if_ne (tgt := 20) X dX8_load_11 (by decide) (fun h_11 => absurd (by have h9 := zB_1 h_11; rw [q_ta] at h9; exact Int32.le_antisymm h9.2 h9.1) hn) (fun h_11 => ?_)
  refine a_aload_n X dX8_load_14 rfl ?_
  refine a_iconst (v := 1) X dX8_load_15 (by decide) ?_
  refine a_callVv X dX8_load_16 miX8_refuse lm8_263 (m_refuse (by assumption)) (by assumption) rfl rfl rfl (Nat.le_of_ble_eq_true rfl) ⟨by decide, by decide, by decide, by decide⟩ ?_
  refine a_iret X hr dX8_load_19 ⟨by decide, by decide⟩ ?_
  subst hF
  show some (Value.int (-1)) = some (Value.int (fLoad n))
  unfold fLoad
  rw [if_neg hn]
set_option maxRecDepth 100000 in
theorem m_load1 {l : Launch} {G : zG} {b : Nat} {S : zS} {P : Nat} (hE : zE8 S P) : zM l G b yX8_load cX8_load 4 (some .int) 3 0 0 [.ref P, .int 0] S (fun r _ => r = some (.int (fLoad 0))) := by
  refine zM.of miX8_load (Nat.le_of_ble_eq_true rfl) ?_
  intro p e s m args below meth c X hr hname
  generalize hF : ((fun r _ => r = some (.int (fLoad 0))) : Option Value → zS → Prop) = FQ
  change Zw p l e { frames := 3, cells := 0, slots := 0, locals := 80 * 3 } s m args below meth c G b 4 (MQ below (zQ G b FQ) args s 0 0 (fun q : Nat => b ≤ q)) 0 0 0 [some (.ref P), some (.int 0), none, none] [] S
  have hE9 := hE
  obtain ⟨hT, q_un, q_hu, q_ac, q_ta, q_st, q_fk, q_fp, q_om, q_67, q_68, q_69, q_70, q_71⟩ := hE
  obtain ⟨z_lt, z_o, z_s, z_read, z_aside, z_kept, z_guest, z_readGuest, z_tape, z_unitName, z_hunterName, z_partyName, z_bits, z_partyOf, z_choiceAt, z_sizes, z_guestMany, z_pointsOf, z_ticketsOf, z_ord, z_given, z_roundOf, z_tags, z_guestTags, z_places, z_sumAt, z_sumFirst, z_sumRound, z_sumBoth, z_sumTags, z_isEnd, z_newPoints, z_inRow, z_out⟩ := id hT
  have L2 : ∀ (u j : Nat), 10 < j + u → j ≤ 10 → ∀ (M2 : Nat → Nat → Int32), M2 P 28 = 0 → M2 P 29 = 0 → Zw p l e { frames := 3, cells := 0, slots := 0, locals := 80 * 3 } s m args below meth c G b 4 (MQ below (zQ G b FQ) args s 0 0 (fun q : Nat => b ≤ q)) 0 0 164 [some (.ref P), some (.int 0), some (.int 1), some (.int (nI j))] [] (S.1, M2, S.2.2) := by
    intro u
    induction u with
    | zero => intro j h1 h2; exact absurd h1 (by omega)
    | succ u ih =>
      intro j h1 h2 M2 i1 i2
      refine a_iload_n X dX8_load_164 rfl ?_
      refine a_bipush (v := 10) X dX8_load_165 (by decide) ?_
      refine a_icmp_ge (tgt := 204) X dX8_load_167 (by decide) (fun h_167 => ?_) (fun h_167 => ?_)
      · refine a_aload_n X dX8_load_204 rfl ?_
        refine a_aload_n X dX8_load_205 rfl ?_
        refine a_geti X lf8_201 (by assumption) rfl dX8_load_206 ?_
        refine a_puti X lf8_125 (by assumption) rfl dX8_load_209 ?_
        refine a_aload_n X dX8_load_212 rfl ?_
        refine a_aload_n X dX8_load_213 rfl ?_
        refine a_geti X lf8_208 (by assumption) rfl dX8_load_214 ?_
        refine a_puti X lf8_132 (by assumption) rfl dX8_load_217 ?_
        refine a_aload_n X dX8_load_220 rfl ?_
        refine a_iconst (v := 0) X dX8_load_221 (by decide) ?_
        refine a_puti X lf8_269 (by assumption) rfl dX8_load_222 ?_
        refine a_aload_n X dX8_load_225 rfl ?_
        refine a_aload_n X dX8_load_226 rfl ?_
        refine a_geti X lf8_132 (by assumption) rfl dX8_load_227 ?_
        refine a_callVv X dX8_load_230 miX8_gives lm8_272 (m_gives (by assumption)) (by assumption) rfl rfl rfl (Nat.le_of_ble_eq_true rfl) ⟨by decide, by decide, by decide, by decide⟩ ?_
        refine a_iret X hr dX8_load_233 ⟨by decide, by decide⟩ ?_
        subst hF
        show some (Value.int _) = some (Value.int (fLoad 0))
        simp [zu, i1, i2, fLoad]
      · have hj : j < 10 := Nat.not_le.mp (fun q => h_167 ((nI_leI (by decide) (by omega)).mpr q))
        refine a_aload_n X dX8_load_170 rfl ?_
        refine a_getr X lf8_22 (by assumption) rfl (by omega) dX8_load_171 ?_
        refine a_iload_n X dX8_load_174 rfl ?_
        refine a_iload_n X dX8_load_175 rfl ?_
        refine a_aload_n X dX8_load_176 rfl ?_
        refine a_geti X lf8_208 (by assumption) rfl dX8_load_177 ?_
        refine a_icmp_ge (tgt := 196) X dX8_load_180 (by decide) (fun h_180 => ?_) (fun h_180 => absurd (by show M2 P 29 ≤ nI j; rw [i2]; exact (nI_leI (a := 0) (by decide) (by omega)).mpr (by omega)) h_180)
        refine a_iconst (v := 0) X dX8_load_196 (by decide) ?_
        refine a_bastore X (by first | exact Or.inl rfl | exact Or.inr rfl) (by assumption) (vp_in_nI hj (by decide)) dX8_load_197 ?_
        refine a_iinc (v := nI (j + 1)) X dX8_load_198 (by decide) rfl (nI_1 j) ?_
        refine a_goto (tgt := 164) X dX8_load_201 (by decide) ?_
        exact Zw.to (ih (j + 1) (by omega) (by omega) _ (by rw [zu_row (by omega)]; exact i1) (by rw [zu_row (by omega)]; exact i2)) rfl rfl
  have L1 : ∀ (u j : Nat), 82 < j + u → j ≤ 82 → ∀ (M2 : Nat → Nat → Int32), M2 P 28 = 0 → M2 P 29 = 0 → Zw p l e { frames := 3, cells := 0, slots := 0, locals := 80 * 3 } s m args below meth c G b 4 (MQ below (zQ G b FQ) args s 0 0 (fun q : Nat => b ≤ q)) 0 0 138 [some (.ref P), some (.int 0), some (.int 1), some (.int (nI j))] [] (S.1, M2, S.2.2) := by
    intro u
    induction u with
    | zero => intro j h1 h2; exact absurd h1 (by omega)
    | succ u ih =>
      intro j h1 h2 M2 i1 i2
      refine a_iload_n X dX8_load_138 rfl ?_
      refine a_bipush (v := 82) X dX8_load_139 (by decide) ?_
      refine a_icmp_ge (tgt := 162) X dX8_load_141 (by decide) (fun h_141 => ?_) (fun h_141 => ?_)
      · refine a_iconst (v := 0) X dX8_load_162 (by decide) ?_
        refine a_istore_n X dX8_load_163 (by decide) ?_
        exact Zw.to (L2 11 0 (by omega) (by omega) _ i1 i2) rfl rfl
      · have hj : j < 82 := Nat.not_le.mp (fun q => h_141 ((nI_leI (by decide) (by omega)).mpr q))
        refine a_aload_n X dX8_load_144 rfl ?_
        refine a_getr X lf8_7 (by assumption) rfl (by omega) dX8_load_145 ?_
        refine a_iload_n X dX8_load_148 rfl ?_
        refine a_aload_n X dX8_load_149 rfl ?_
        refine a_getr X lf8_13 (by assumption) rfl (by omega) dX8_load_150 ?_
        refine a_iload_n X dX8_load_153 rfl ?_
        refine a_iaload X (by assumption) (vp_in_nI hj (by decide)) dX8_load_154 ?_
        refine a_iastore X (by assumption) (vp_in_nI hj (by decide)) dX8_load_155 ?_
        refine a_iinc (v := nI (j + 1)) X dX8_load_156 (by decide) rfl (nI_1 j) ?_
        refine a_goto (tgt := 138) X dX8_load_159 (by decide) ?_
        exact Zw.to (ih (j + 1) (by omega) (by omega) _ (by rw [zu_row (by omega)]; exact i1) (by rw [zu_row (by omega)]; exact i2)) rfl rfl
  refine a_iload_n X dX8_load_0 rfl ?_
  refine a_i2l X dX8_load_1 ?_
  refine a_lconst (v := 0) X dX8_load_2 (by decide) ?_
  refine a_aload_n X dX8_load_3 rfl ?_
  refine a_geti X lf8_137 (by assumption) rfl dX8_load_4 ?_
  refine a_i2l X dX8_load_7 ?_
  refine a_callSv X dX8_load_8 miX8_isFrom lm8_128 (m_isFrom (lo := 0) (hi := S.2.1 P 11) (by decide) rfl) rfl rfl (Nat.le_of_ble_eq_true rfl) ⟨by decide, by decide, by decide, by decide⟩ ?_
  refine a_if_ne (tgt := 20) X dX8_load_11 (by decide) (fun h_11 => ?_) (fun h_11 => absurd h_11 (by unfold zB; rw [if_pos ⟨by decide, by rw [q_ta]; decide⟩]; decide))
  refine a_aload_n X dX8_load_20 rfl ?_
  refine a_iload_n X dX8_load_21 rfl ?_
  refine a_puti X lf8_144 (by assumption) rfl dX8_load_22 ?_
  refine a_aload_n X dX8_load_25 rfl ?_
  refine a_iconst (v := 0) X dX8_load_26 (by decide) ?_
  refine a_puti X lf8_137 (by assumption) rfl dX8_load_27 ?_
  refine a_aload_n X dX8_load_30 rfl ?_
  refine a_iconst (v := 0) X dX8_load_31 (by decide) ?_
  refine a_puti X lf8_147 (by assumption) rfl dX8_load_32 ?_
  refine a_aload_n X dX8_load_35 rfl ?_
  refine a_iconst (v := 0) X dX8_load_36 (by decide) ?_
  refine a_puti X lf8_195 (by assumption) rfl dX8_load_37 ?_
  refine a_aload_n X dX8_load_40 rfl ?_
  refine a_iconst (v := -1) X dX8_load_41 (by decide) ?_
  refine a_puti X lf8_198 (by assumption) rfl dX8_load_42 ?_
  refine a_aload_n X dX8_load_45 rfl ?_
  refine a_iconst (v := 0) X dX8_load_46 (by decide) ?_
  refine a_puti X lf8_243 (by assumption) rfl dX8_load_47 ?_
  refine a_aload_n X dX8_load_50 rfl ?_
  refine a_iconst (v := 0) X dX8_load_51 (by decide) ?_
  refine a_puti X lf8_201 (by assumption) rfl dX8_load_52 ?_
  refine a_aload_n X dX8_load_55 rfl ?_
  refine a_iconst (v := 0) X dX8_load_56 (by decide) ?_
  refine a_puti X lf8_208 (by assumption) rfl dX8_load_57 ?_
  refine a_aload_n X dX8_load_60 rfl ?_
  refine a_iconst (v := 0) X dX8_load_61 (by decide) ?_
  refine a_puti X lf8_211 (by assumption) rfl dX8_load_62 ?_
  refine a_aload_n X dX8_load_65 rfl ?_
  refine a_getr X lf8_13 (by assumption) rfl (by omega) dX8_load_66 ?_
  refine a_callSx X dX8_load_69 miX8_begins lm8_115 (m_begins (by assumption)) rfl rfl (Nat.le_of_ble_eq_true rfl) ⟨by decide, by decide, by decide, by decide⟩ (fun r_69 S_69 q_69 => ?_)
  obtain ⟨M_69, rfl, rfl, b0_69, b1_69⟩ := q_69
  refine a_aload_n X dX8_load_72 rfl ?_
  refine a_callVv X dX8_load_73 miX8_next lm8_220 (m_next0 (by assumption) (by show M_69 P 15 = 0; rw [congrFun (b0_69 P (Or.inl (by omega))) 15]; simp [zu]) (by show M_69 P 17 = 0; rw [congrFun (b0_69 P (Or.inl (by omega))) 17]; simp [zu])) (by assumption) rfl rfl rfl (Nat.le_of_ble_eq_true rfl) ⟨by decide, by decide, by decide, by decide⟩ ?_
  refine a_pop X dX8_load_76 rfl ?_
  refine a_iconst (v := 1) X dX8_load_77 (by decide) ?_
  refine a_istore_n X dX8_load_78 (by decide) ?_
  refine a_iload_n X dX8_load_79 rfl ?_
  refine a_if_eq (tgt := 98) X dX8_load_80 (by decide) (fun h_80 => absurd h_80 (by decide)) (fun h_80 => ?_)
  refine a_aload_n X dX8_load_83 rfl ?_
  refine a_geti X lf8_160 (by assumption) rfl dX8_load_84 ?_
  refine a_if_eq (tgt := 98) X dX8_load_87 (by decide) (fun h_87 => ?_) (fun h_87 => absurd zu_eq h_87)
  refine a_aload_n X dX8_load_98 rfl ?_
  refine a_aload_n X dX8_load_99 rfl ?_
  refine a_geti X lf8_195 (by assumption) rfl dX8_load_100 ?_
  refine a_puti X lf8_32 (by assumption) rfl dX8_load_103 ?_
  refine a_aload_n X dX8_load_106 rfl ?_
  refine a_aload_n X dX8_load_107 rfl ?_
  refine a_geti X lf8_198 (by assumption) rfl dX8_load_108 ?_
  refine a_puti X lf8_36 (by assumption) rfl dX8_load_111 ?_
  refine a_iload_n X dX8_load_114 rfl ?_
  refine a_if_ne (tgt := 125) X dX8_load_115 (by decide) (fun h_115 => ?_) (fun h_115 => absurd h_115 (by decide))
  refine a_aload_n X dX8_load_125 rfl ?_
  refine a_getr X lf8_13 (by assumption) rfl (by omega) dX8_load_126 ?_
  refine a_bipush (v := 70) X dX8_load_129 (by decide) ?_
  refine a_aload_n X dX8_load_131 rfl ?_
  refine a_geti X lf8_211 (by assumption) rfl dX8_load_132 ?_
  refine a_iastore X (by assumption) (vp_in_nI (n := 70) (by decide) (by decide)) dX8_load_135 ?_
  refine a_iconst (v := 0) X dX8_load_136 (by decide) ?_
  refine a_istore_n X dX8_load_137 (by decide) ?_
  exact Zw.to (L1 83 0 (by omega) (by omega) _ (by rw [zu_row (by omega)]; simp [zu, b0_69 P (Or.inl (by omega))]) (by rw [zu_row (by omega)]; simp [zu, b0_69 P (Or.inl (by omega))])) rfl rfl
theorem m_load {l : Launch} {G : zG} {b : Nat} {S : zS} {P : Nat} {n : Int32} (hE : zE8 S P) : zM l G b yX8_load cX8_load 4 (some .int) 3 0 0 [.ref P, .int n] S (fun r _ => r = some (.int (fLoad n))) := by
  by_cases hn : n = 0
  · subst hn
    exact m_load1 hE
  · exact m_load0 hE hn
