noncomputable def D_X8_winners (P : Nat) (v0 : Int32) (M : zMt) (N : zNt) : Option (Int32 × zMt × zNt) :=
  zB (D_X8_isSeed v0) fun e_1 =>
  if e_1 = 0 then
    zB (D_X8_refuse P (1 : Int32) M) fun e_9 =>
    some (e_9.1, e_9.2, N)
  else
    zB (D_X8_laysResult P v0 M N) fun e_15 =>
    zB (D_X8_winnersNow P e_15.1) fun e_20 =>
    zB (D_X8_gives P e_20 e_15.1) fun e_23 =>
    some (e_23.1, e_23.2, e_15.2)
set_option maxRecDepth 100000 in
set_option maxHeartbeats 4000000 in
theorem t_X8_winners {l : Launch} {G : zG} {b : Nat} {L : List zC} {M : zMt} {N : zNt} {P : Nat} (hP : LX8 L P) {v0 : Int32} {r : Int32 × zMt × zNt} (h : D_X8_winners P v0 M N = some r) : zM l G b yX8_winners cX8_winners 2 (some .int) 5 0 0 [.ref P, .int v0] (L, M, N) (fun r2 z => r2 = some (.int r.1) ∧ z = (L, r.2.1, r.2.2)) := by
  refine zM.of miX8_winners (Nat.le_of_ble_eq_true rfl) ?_
  intro p e s m args below meth c X hr hname
  generalize hF : ((fun r2 z => r2 = some (.int r.1) ∧ z = (L, r.2.1, r.2.2)) : Option Value → zS → Prop) = FQ
  change Zw p l e { frames := 5, cells := 0, slots := 0, locals := 80 * (5) } s m args below meth c G b 2 (MQ below (zQ G b FQ) args s 0 0 (fun q : Nat => b ≤ q)) 0 0 0 [some (.ref P), some (.int v0)] [] (L, M, N)
  obtain ⟨p_lt, p_o, p_s, p_read, p_aside, p_kept, p_guest, p_readGuest, p_tape, p_unitName, p_hunterName, p_partyName, p_bits, p_partyOf, p_choiceAt, p_sizes, p_guestMany, p_pointsOf, p_ticketsOf, p_ord, p_given, p_roundOf, p_tags, p_guestTags, p_places, p_sumAt, p_sumFirst, p_sumRound, p_sumBoth, p_sumTags, p_isEnd, p_newPoints, p_inRow, p_out⟩ := id hP
  unfold D_X8_winners at h
  refine a_iload_n X dX8_winners_0 rfl ?_
  obtain ⟨e_1, f_1, h⟩ := zBx h
  refine a_callSx X dX8_winners_1 miX8_isSeed lm8_358 (t_X8_isSeed f_1) rfl rfl (Nat.le_of_ble_eq_true rfl) ⟨by decide, by decide, by decide, by decide⟩ (fun r_1 S_1 q_1 => ?_)
  obtain ⟨rfl, rfl, b_1⟩ := q_1
  refine a_if_ne (tgt := 13) X dX8_winners_4 (by decide) (fun h_4 => ?_) (fun h_4 => ?_)
  · replace h := (if_neg h_4).symm.trans h
    refine a_aload_n X dX8_winners_13 rfl ?_
    refine a_iload_n X dX8_winners_14 rfl ?_
    obtain ⟨e_15, f_15, h⟩ := zBx h
    refine a_callVu X dX8_winners_15 miX8_laysResult lm8_361 (t_X8_laysResult (by assumption) f_15) (by assumption) rfl rfl rfl (Nat.le_of_ble_eq_true rfl) ⟨by decide, by decide, by decide, by decide⟩ ?_
    refine a_aload_n X dX8_winners_18 rfl ?_
    refine a_aload_n X dX8_winners_19 rfl ?_
    obtain ⟨e_20, f_20, h⟩ := zBx h
    refine a_callVv X dX8_winners_20 miX8_winnersNow lm8_371 (t_X8_winnersNow (by assumption) f_20) (by assumption) rfl rfl rfl (Nat.le_of_ble_eq_true rfl) ⟨by decide, by decide, by decide, by decide⟩ ?_
    obtain ⟨e_23, f_23, h⟩ := zBx h
    refine a_callVv X dX8_winners_23 miX8_gives lm8_272 (t_X8_gives (by assumption) f_23) (by assumption) rfl rfl rfl (Nat.le_of_ble_eq_true rfl) ⟨by decide, by decide, by decide, by decide⟩ ?_
    refine a_iret X hr dX8_winners_26 ⟨by decide, by decide⟩ ?_
    subst hF
    rw [← Option.some.inj h]
    exact ⟨rfl, rfl⟩
  · replace h := (if_pos h_4).symm.trans h
    refine a_aload_n X dX8_winners_7 rfl ?_
    refine a_iconst (v := 1) X dX8_winners_8 (by decide) ?_
    obtain ⟨e_9, f_9, h⟩ := zBx h
    refine a_callVv X dX8_winners_9 miX8_refuse lm8_263 (t_X8_refuse (by assumption) f_9) (by assumption) rfl rfl rfl (Nat.le_of_ble_eq_true rfl) ⟨by decide, by decide, by decide, by decide⟩ ?_
    refine a_iret X hr dX8_winners_12 ⟨by decide, by decide⟩ ?_
    subst hF
    rw [← Option.some.inj h]
    exact ⟨rfl, rfl⟩
noncomputable def D_X8_isWaiting_25 (P : Nat) (M : zMt) (y0_25 : Int32) : Option (Int32) :=
  some (y0_25)
noncomputable def D_X8_isWaiting_24 (P : Nat) (M : zMt)  : Option (Int32) :=
  D_X8_isWaiting_25 P M (0 : Int32)
noncomputable def D_X8_isWaiting (P : Nat) (M : zMt) (v0 : Int32) (v1 : Int32) : Option (Int32) :=
  zI v0 10 <|
  if (M (P + 19) v0.toNatClampNeg) = (-1 : Int32) then
    zB (D_X8_placeOf P M v0 v1) fun e_13 =>
    if e_13 = (-1 : Int32) then
      D_X8_isWaiting_24 P M
    else
      D_X8_isWaiting_25 P M (1 : Int32)
  else
    D_X8_isWaiting_24 P M
set_option maxRecDepth 100000 in
set_option maxHeartbeats 4000000 in
theorem t_X8_isWaiting {l : Launch} {G : zG} {b : Nat} {L : List zC} {M : zMt} {N : zNt} {P : Nat} (hP : LX8 L P) {v0 : Int32} {v1 : Int32} {r : Int32} (h : D_X8_isWaiting P M v0 v1 = some r) : zM l G b yX8_isWaiting cX8_isWaiting 3 (some .boolean) 3 0 0 [.ref P, .int v0, .int v1] (L, M, N) (fun r2 z => r2 = some (.int r) ∧ z = (L, M, N) ∧ (r = 0 ∨ r = 1)) := by
  refine zM.of miX8_isWaiting (Nat.le_of_ble_eq_true rfl) ?_
  intro p e s m args below meth c X hr hname
  generalize hF : ((fun r2 z => r2 = some (.int r) ∧ z = (L, M, N) ∧ (r = 0 ∨ r = 1)) : Option Value → zS → Prop) = FQ
  change Zw p l e { frames := 3, cells := 0, slots := 0, locals := 80 * (3) } s m args below meth c G b 3 (MQ below (zQ G b FQ) args s 0 0 (fun q : Nat => b ≤ q)) 0 0 0 [some (.ref P), some (.int v0), some (.int v1)] [] (L, M, N)
  obtain ⟨p_lt, p_o, p_s, p_read, p_aside, p_kept, p_guest, p_readGuest, p_tape, p_unitName, p_hunterName, p_partyName, p_bits, p_partyOf, p_choiceAt, p_sizes, p_guestMany, p_pointsOf, p_ticketsOf, p_ord, p_given, p_roundOf, p_tags, p_guestTags, p_places, p_sumAt, p_sumFirst, p_sumRound, p_sumBoth, p_sumTags, p_isEnd, p_newPoints, p_inRow, p_out⟩ := id hP
  have J_25 : ∀ (x1_25 : Int32) (x2_25 : Int32) (y0_25 : Int32), (y0_25 = 0 ∨ y0_25 = 1) → D_X8_isWaiting_25 P M y0_25 = some r → Zw p l e { frames := 3, cells := 0, slots := 0, locals := 80 * (3) } s m args below meth c G b 3 (MQ below (zQ G b FQ) args s 0 0 (fun q : Nat => b ≤ q)) 0 0 25 [some (.ref (P)), some (.int x1_25), some (.int x2_25)] [.int y0_25] (L, M, N) := by
    intro x1_25 x2_25 y0_25 fb_y0_25 h
    unfold D_X8_isWaiting_25 at h
    refine a_zret X (by first | exact Or.inl rfl | exact Or.inr rfl | assumption) hr dX8_isWaiting_25 ⟨by decide, by decide⟩ ?_
    subst hF
    rw [← Option.some.inj h]
    exact ⟨rfl, rfl, (by first | exact Or.inl rfl | exact Or.inr rfl | assumption)⟩
  have J_24 : ∀ (x1_24 : Int32) (x2_24 : Int32), D_X8_isWaiting_24 P M = some r → Zw p l e { frames := 3, cells := 0, slots := 0, locals := 80 * (3) } s m args below meth c G b 3 (MQ below (zQ G b FQ) args s 0 0 (fun q : Nat => b ≤ q)) 0 0 24 [some (.ref (P)), some (.int x1_24), some (.int x2_24)] [] (L, M, N) := by
    intro x1_24 x2_24 h
    unfold D_X8_isWaiting_24 at h
    refine a_iconst (v := 0) X dX8_isWaiting_24 (by decide) ?_
    exact Zw.to2 (J_25 _ _ _ (by first | exact Or.inl rfl | exact Or.inr rfl | assumption) h) rfl rfl rfl
  unfold D_X8_isWaiting at h
  refine a_aload_n X dX8_isWaiting_0 rfl ?_
  refine a_getr X lf8_73 (by assumption) rfl (by omega) dX8_isWaiting_1 ?_
  refine a_iload_n X dX8_isWaiting_4 rfl ?_
  obtain ⟨g_5, h⟩ := zIx h
  refine a_iaload X (by assumption) g_5 dX8_isWaiting_5 ?_
  refine a_iconst (v := -1) X dX8_isWaiting_6 (by decide) ?_
  refine a_icmp_ne (tgt := 24) X dX8_isWaiting_7 (by decide) (fun h_7 => ?_) (fun h_7 => ?_)
  · replace h := (if_neg h_7).symm.trans h
    exact Zw.to2 (J_24 _ _ h) rfl rfl rfl
  · replace h := (if_pos h_7).symm.trans h
    refine a_aload_n X dX8_isWaiting_10 rfl ?_
    refine a_iload_n X dX8_isWaiting_11 rfl ?_
    refine a_iload_n X dX8_isWaiting_12 rfl ?_
    obtain ⟨e_13, f_13, h⟩ := zBx h
    refine a_callVv X dX8_isWaiting_13 miX8_placeOf lm8_310 (t_X8_placeOf (by assumption) f_13) (by assumption) rfl rfl rfl (Nat.le_of_ble_eq_true rfl) ⟨by decide, by decide, by decide, by decide⟩ ?_
    refine a_iconst (v := -1) X dX8_isWaiting_16 (by decide) ?_
    refine a_icmp_eq (tgt := 24) X dX8_isWaiting_17 (by decide) (fun h_17 => ?_) (fun h_17 => ?_)
    · replace h := (if_pos h_17).symm.trans h
      exact Zw.to2 (J_24 _ _ h) rfl rfl rfl
    · replace h := (if_neg h_17).symm.trans h
      refine a_iconst (v := 1) X dX8_isWaiting_20 (by decide) ?_
      refine a_goto (tgt := 25) X dX8_isWaiting_21 (by decide) ?_
      exact Zw.to2 (J_25 _ _ _ (by first | exact Or.inl rfl | exact Or.inr rfl | assumption) h) rfl rfl rfl
noncomputable def D_X8_waits_116 (P : Nat) (y0_116 : Int32) (M_116 : zMt) (N_116 : zNt) : Option (Int32 × zMt × zNt) :=
  some (y0_116, M_116, N_116)
noncomputable def D_X8_waits_91 (P : Nat) (k43 : Int32 → Int32 → Int32 → Int32 → zMt → zNt → Option (Int32 × zMt × zNt)) (x2_91 : Int32) (x3_91 : Int32) (x4_91 : Int32) (x5_91 : Int32) (M_91 : zMt) (N_91 : zNt) : Option (Int32 × zMt × zNt) :=
  k43 x2_91 x3_91 x4_91 (x5_91 + 1) M_91 N_91
noncomputable def D_X8_waits_43 (P : Nat) : Nat → Int32 → Int32 → Int32 → Int32 → zMt → zNt → Option (Int32 × zMt × zNt)
  | 0, _, _, _, _, _, _ => none
  | n + 1, x2_43, x3_43, x4_43, x5_43, M_43, N_43 =>
    if (M_43 P 33) ≤ x5_43 then
      if x3_43 = (-1 : Int32) then
        zB (D_X8_gives P x4_43 M_43) fun e_105 =>
        D_X8_waits_116 P e_105.1 e_105.2 N_43
      else
        zB (D_X8_refuse P (5 : Int32) M_43) fun e_113 =>
        D_X8_waits_116 P e_113.1 e_113.2 N_43
    else
      zI x5_43 10 <|
      zB (D_X8_isWaiting P M_43 (M_43 (P + 18) x5_43.toNatClampNeg) x2_43) fun e_61 =>
      if e_61 = 0 then
        D_X8_waits_91 P (D_X8_waits_43 P n) x2_43 x3_43 x4_43 x5_43 M_43 N_43
      else
        if x4_43 = x3_43 then
          zI x5_43 10 <|
          zB (D_X8_gives P (M_43 (P + 18) x5_43.toNatClampNeg) M_43) fun e_84 =>
          some (e_84.1, e_84.2, N_43)
        else
          D_X8_waits_91 P (D_X8_waits_43 P n) x2_43 x3_43 (x4_43 + 1) x5_43 M_43 N_43
noncomputable def D_X8_waits_12 (P : Nat) (M_12 : zMt) (N_12 : zNt) : Option (Int32 × zMt × zNt) :=
  zB (D_X8_refuse P (1 : Int32) M_12) fun e_14 =>
  some (e_14.1, e_14.2, N_12)
noncomputable def D_X8_waits (P : Nat) (v0 : Int32) (v1 : Int32) (v2 : Int32) (M : zMt) (N : zNt) : Option (Int32 × zMt × zNt) :=
  zB (D_X8_isSeed v0) fun e_1 =>
  if e_1 = 0 then
    D_X8_waits_12 P M N
  else
    if (-1 : Int32) ≤ v2 then
      zB (D_X8_isUnit P M v1) fun e_20 =>
      if e_20 = 0 then
        zB (D_X8_refuse P (2 : Int32) M) fun e_28 =>
        some (e_28.1, e_28.2, N)
      else
        zB (D_X8_laysResult P v0 M N) fun e_34 =>
        D_X8_waits_43 P zFu v1 v2 (0 : Int32) (0 : Int32) e_34.1 e_34.2
    else
      D_X8_waits_12 P M N
set_option maxRecDepth 100000 in
set_option maxHeartbeats 4000000 in
theorem t_X8_waits {l : Launch} {G : zG} {b : Nat} {L : List zC} {M : zMt} {N : zNt} {P : Nat} (hP : LX8 L P) {v0 : Int32} {v1 : Int32} {v2 : Int32} {r : Int32 × zMt × zNt} (h : D_X8_waits P v0 v1 v2 M N = some r) : zM l G b yX8_waits cX8_waits 6 (some .int) 5 0 0 [.ref P, .int v0, .int v1, .int v2] (L, M, N) (fun r2 z => r2 = some (.int r.1) ∧ z = (L, r.2.1, r.2.2)) := by
  refine zM.of miX8_waits (Nat.le_of_ble_eq_true rfl) ?_
  intro p e s m args below meth c X hr hname
  generalize hF : ((fun r2 z => r2 = some (.int r.1) ∧ z = (L, r.2.1, r.2.2)) : Option Value → zS → Prop) = FQ
  change Zw p l e { frames := 5, cells := 0, slots := 0, locals := 80 * (5) } s m args below meth c G b 6 (MQ below (zQ G b FQ) args s 0 0 (fun q : Nat => b ≤ q)) 0 0 0 [some (.ref P), some (.int v0), some (.int v1), some (.int v2), none, none] [] (L, M, N)
  obtain ⟨p_lt, p_o, p_s, p_read, p_aside, p_kept, p_guest, p_readGuest, p_tape, p_unitName, p_hunterName, p_partyName, p_bits, p_partyOf, p_choiceAt, p_sizes, p_guestMany, p_pointsOf, p_ticketsOf, p_ord, p_given, p_roundOf, p_tags, p_guestTags, p_places, p_sumAt, p_sumFirst, p_sumRound, p_sumBoth, p_sumTags, p_isEnd, p_newPoints, p_inRow, p_out⟩ := id hP
  have J_116 : ∀ (x1_116 : Int32) (x2_116 : Int32) (x3_116 : Int32) (x4_116 : Int32) (x5_116 : Int32) (y0_116 : Int32) (M_116 : zMt) (N_116 : zNt), D_X8_waits_116 P y0_116 M_116 N_116 = some r → Zw p l e { frames := 5, cells := 0, slots := 0, locals := 80 * (5) } s m args below meth c G b 6 (MQ below (zQ G b FQ) args s 0 0 (fun q : Nat => b ≤ q)) 0 0 116 [some (.ref (P)), some (.int x1_116), some (.int x2_116), some (.int x3_116), some (.int x4_116), some (.int x5_116)] [.int y0_116] (L, M_116, N_116) := by
    intro x1_116 x2_116 x3_116 x4_116 x5_116 y0_116 M_116 N_116 h
    unfold D_X8_waits_116 at h
    refine a_iret X hr dX8_waits_116 ⟨by decide, by decide⟩ ?_
    subst hF
    rw [← Option.some.inj h]
    exact ⟨rfl, rfl⟩
  have L_43 : ∀ u : Nat, ∀ (x1_43 : Int32) (x2_43 : Int32) (x3_43 : Int32) (x4_43 : Int32) (x5_43 : Int32) (M_43 : zMt) (N_43 : zNt), D_X8_waits_43 P u x2_43 x3_43 x4_43 x5_43 M_43 N_43 = some r → Zw p l e { frames := 5, cells := 0, slots := 0, locals := 80 * (5) } s m args below meth c G b 6 (MQ below (zQ G b FQ) args s 0 0 (fun q : Nat => b ≤ q)) 0 0 43 [some (.ref (P)), some (.int x1_43), some (.int x2_43), some (.int x3_43), some (.int x4_43), some (.int x5_43)] [] (L, M_43, N_43) := by
    intro u
    induction u with
    | zero => intro x1_43 x2_43 x3_43 x4_43 x5_43 M_43 N_43 h; cases (show none = some r from h)
    | succ u_43 ih_43 =>
      have J_91 : ∀ (x1_91 : Int32) (x2_91 : Int32) (x3_91 : Int32) (x4_91 : Int32) (x5_91 : Int32) (M_91 : zMt) (N_91 : zNt), D_X8_waits_91 P (D_X8_waits_43 P u_43) x2_91 x3_91 x4_91 x5_91 M_91 N_91 = some r → Zw p l e { frames := 5, cells := 0, slots := 0, locals := 80 * (5) } s m args below meth c G b 6 (MQ below (zQ G b FQ) args s 0 0 (fun q : Nat => b ≤ q)) 0 0 91 [some (.ref (P)), some (.int x1_91), some (.int x2_91), some (.int x3_91), some (.int x4_91), some (.int x5_91)] [] (L, M_91, N_91) := by
        intro x1_91 x2_91 x3_91 x4_91 x5_91 M_91 N_91 h
        unfold D_X8_waits_91 at h
        refine a_iinc (v := x5_91 + 1) X dX8_waits_91 (by decide) rfl zi_1 ?_
        refine a_goto (tgt := 43) X dX8_waits_94 (by decide) ?_
        exact Zw.to2 (ih_43 _ _ _ _ _ _ _ h) rfl rfl rfl
      intro x1_43 x2_43 x3_43 x4_43 x5_43 M_43 N_43 h
      rw [D_X8_waits_43] at h
      refine a_iload X dX8_waits_43 rfl ?_
      refine a_aload_n X dX8_waits_45 rfl ?_
      refine a_geti X lf8_275 (by assumption) rfl dX8_waits_46 ?_
      refine a_icmp_ge (tgt := 97) X dX8_waits_49 (by decide) (fun h_49 => ?_) (fun h_49 => ?_)
      · replace h := (if_pos h_49).symm.trans h
        refine a_iload_n X dX8_waits_97 rfl ?_
        refine a_iconst (v := -1) X dX8_waits_98 (by decide) ?_
        refine a_icmp_ne (tgt := 111) X dX8_waits_99 (by decide) (fun h_99 => ?_) (fun h_99 => ?_)
        · replace h := (if_neg h_99).symm.trans h
          refine a_aload_n X dX8_waits_111 rfl ?_
          refine a_iconst (v := 5) X dX8_waits_112 (by decide) ?_
          obtain ⟨e_113, f_113, h⟩ := zBx h
          refine a_callVv X dX8_waits_113 miX8_refuse lm8_263 (t_X8_refuse (by assumption) f_113) (by assumption) rfl rfl rfl (Nat.le_of_ble_eq_true rfl) ⟨by decide, by decide, by decide, by decide⟩ ?_
          exact Zw.to2 (J_116 _ _ _ _ _ _ _ _ h) rfl rfl rfl
        · replace h := (if_pos h_99).symm.trans h
          refine a_aload_n X dX8_waits_102 rfl ?_
          refine a_iload X dX8_waits_103 rfl ?_
          obtain ⟨e_105, f_105, h⟩ := zBx h
          refine a_callVv X dX8_waits_105 miX8_gives lm8_272 (t_X8_gives (by assumption) f_105) (by assumption) rfl rfl rfl (Nat.le_of_ble_eq_true rfl) ⟨by decide, by decide, by decide, by decide⟩ ?_
          refine a_goto (tgt := 116) X dX8_waits_108 (by decide) ?_
          exact Zw.to2 (J_116 _ _ _ _ _ _ _ _ h) rfl rfl rfl
      · replace h := (if_neg h_49).symm.trans h
        refine a_aload_n X dX8_waits_52 rfl ?_
        refine a_aload_n X dX8_waits_53 rfl ?_
        refine a_getr X lf8_70 (by assumption) rfl (by omega) dX8_waits_54 ?_
        refine a_iload X dX8_waits_57 rfl ?_
        obtain ⟨g_59, h⟩ := zIx h
        refine a_iaload X (by assumption) g_59 dX8_waits_59 ?_
        refine a_iload_n X dX8_waits_60 rfl ?_
        obtain ⟨e_61, f_61, h⟩ := zBx h
        refine a_callVx X dX8_waits_61 miX8_isWaiting lm8_374 (t_X8_isWaiting (by assumption) f_61) (by assumption) rfl rfl rfl (Nat.le_of_ble_eq_true rfl) ⟨by decide, by decide, by decide, by decide⟩ (fun r_61 S_61 q_61 => ?_)
        obtain ⟨rfl, rfl, b_61⟩ := q_61
        refine a_if_ne (tgt := 70) X dX8_waits_64 (by decide) (fun h_64 => ?_) (fun h_64 => ?_)
        · replace h := (if_neg h_64).symm.trans h
          refine a_iload X dX8_waits_70 rfl ?_
          refine a_iload_n X dX8_waits_72 rfl ?_
          refine a_icmp_ne (tgt := 88) X dX8_waits_73 (by decide) (fun h_73 => ?_) (fun h_73 => ?_)
          · replace h := (if_neg h_73).symm.trans h
            refine a_iinc (v := x4_43 + 1) X dX8_waits_88 (by decide) rfl zi_1 ?_
            exact Zw.to2 (J_91 _ _ _ _ _ _ _ h) rfl rfl rfl
          · replace h := (if_pos h_73).symm.trans h
            refine a_aload_n X dX8_waits_76 rfl ?_
            refine a_aload_n X dX8_waits_77 rfl ?_
            refine a_getr X lf8_70 (by assumption) rfl (by omega) dX8_waits_78 ?_
            refine a_iload X dX8_waits_81 rfl ?_
            obtain ⟨g_83, h⟩ := zIx h
            refine a_iaload X (by assumption) g_83 dX8_waits_83 ?_
            obtain ⟨e_84, f_84, h⟩ := zBx h
            refine a_callVv X dX8_waits_84 miX8_gives lm8_272 (t_X8_gives (by assumption) f_84) (by assumption) rfl rfl rfl (Nat.le_of_ble_eq_true rfl) ⟨by decide, by decide, by decide, by decide⟩ ?_
            refine a_iret X hr dX8_waits_87 ⟨by decide, by decide⟩ ?_
            subst hF
            rw [← Option.some.inj h]
            exact ⟨rfl, rfl⟩
        · replace h := (if_pos h_64).symm.trans h
          refine a_goto (tgt := 91) X dX8_waits_67 (by decide) ?_
          exact Zw.to2 (J_91 _ _ _ _ _ _ _ h) rfl rfl rfl
  have H_43 : ∀ (x1_43 : Int32) (x2_43 : Int32) (x3_43 : Int32) (x4_43 : Int32) (x5_43 : Int32) (M_43 : zMt) (N_43 : zNt), D_X8_waits_43 P zFu x2_43 x3_43 x4_43 x5_43 M_43 N_43 = some r → Zw p l e { frames := 5, cells := 0, slots := 0, locals := 80 * (5) } s m args below meth c G b 6 (MQ below (zQ G b FQ) args s 0 0 (fun q : Nat => b ≤ q)) 0 0 43 [some (.ref (P)), some (.int x1_43), some (.int x2_43), some (.int x3_43), some (.int x4_43), some (.int x5_43)] [] (L, M_43, N_43) := L_43 zFu
  have J_12 : ∀ (x1_12 : Int32) (x2_12 : Int32) (x3_12 : Int32) (x4_12 : Option Value) (x5_12 : Option Value) (M_12 : zMt) (N_12 : zNt), D_X8_waits_12 P M_12 N_12 = some r → Zw p l e { frames := 5, cells := 0, slots := 0, locals := 80 * (5) } s m args below meth c G b 6 (MQ below (zQ G b FQ) args s 0 0 (fun q : Nat => b ≤ q)) 0 0 12 [some (.ref (P)), some (.int x1_12), some (.int x2_12), some (.int x3_12), x4_12, x5_12] [] (L, M_12, N_12) := by
    intro x1_12 x2_12 x3_12 x4_12 x5_12 M_12 N_12 h
    unfold D_X8_waits_12 at h
    refine a_aload_n X dX8_waits_12 rfl ?_
    refine a_iconst (v := 1) X dX8_waits_13 (by decide) ?_
    obtain ⟨e_14, f_14, h⟩ := zBx h
    refine a_callVv X dX8_waits_14 miX8_refuse lm8_263 (t_X8_refuse (by assumption) f_14) (by assumption) rfl rfl rfl (Nat.le_of_ble_eq_true rfl) ⟨by decide, by decide, by decide, by decide⟩ ?_
    refine a_iret X hr dX8_waits_17 ⟨by decide, by decide⟩ ?_
    subst hF
    rw [← Option.some.inj h]
    exact ⟨rfl, rfl⟩
  unfold D_X8_waits at h
  refine a_iload_n X dX8_waits_0 rfl ?_
  obtain ⟨e_1, f_1, h⟩ := zBx h
  refine a_callSx X dX8_waits_1 miX8_isSeed lm8_358 (t_X8_isSeed f_1) rfl rfl (Nat.le_of_ble_eq_true rfl) ⟨by decide, by decide, by decide, by decide⟩ (fun r_1 S_1 q_1 => ?_)
  obtain ⟨rfl, rfl, b_1⟩ := q_1
  refine a_if_eq (tgt := 12) X dX8_waits_4 (by decide) (fun h_4 => ?_) (fun h_4 => ?_)
  · replace h := (if_pos h_4).symm.trans h
    exact Zw.to2 (J_12 _ _ _ _ _ _ _ h) rfl rfl rfl
  · replace h := (if_neg h_4).symm.trans h
    refine a_iload_n X dX8_waits_7 rfl ?_
    refine a_iconst (v := -1) X dX8_waits_8 (by decide) ?_
    refine a_icmp_ge (tgt := 18) X dX8_waits_9 (by decide) (fun h_9 => ?_) (fun h_9 => ?_)
    · replace h := (if_pos h_9).symm.trans h
      refine a_aload_n X dX8_waits_18 rfl ?_
      refine a_iload_n X dX8_waits_19 rfl ?_
      obtain ⟨e_20, f_20, h⟩ := zBx h
      refine a_callVx X dX8_waits_20 miX8_isUnit lm8_301 (t_X8_isUnit (by assumption) f_20) (by assumption) rfl rfl rfl (Nat.le_of_ble_eq_true rfl) ⟨by decide, by decide, by decide, by decide⟩ (fun r_20 S_20 q_20 => ?_)
      obtain ⟨rfl, rfl, b_20⟩ := q_20
      refine a_if_ne (tgt := 32) X dX8_waits_23 (by decide) (fun h_23 => ?_) (fun h_23 => ?_)
      · replace h := (if_neg h_23).symm.trans h
        refine a_aload_n X dX8_waits_32 rfl ?_
        refine a_iload_n X dX8_waits_33 rfl ?_
        obtain ⟨e_34, f_34, h⟩ := zBx h
        refine a_callVu X dX8_waits_34 miX8_laysResult lm8_361 (t_X8_laysResult (by assumption) f_34) (by assumption) rfl rfl rfl (Nat.le_of_ble_eq_true rfl) ⟨by decide, by decide, by decide, by decide⟩ ?_
        refine a_iconst (v := 0) X dX8_waits_37 (by decide) ?_
        refine a_istore X dX8_waits_38 (by decide) ?_
        refine a_iconst (v := 0) X dX8_waits_40 (by decide) ?_
        refine a_istore X dX8_waits_41 (by decide) ?_
        exact Zw.to2 (H_43 _ _ _ _ _ _ _ h) rfl rfl rfl
      · replace h := (if_pos h_23).symm.trans h
        refine a_aload_n X dX8_waits_26 rfl ?_
        refine a_iconst (v := 2) X dX8_waits_27 (by decide) ?_
        obtain ⟨e_28, f_28, h⟩ := zBx h
        refine a_callVv X dX8_waits_28 miX8_refuse lm8_263 (t_X8_refuse (by assumption) f_28) (by assumption) rfl rfl rfl (Nat.le_of_ble_eq_true rfl) ⟨by decide, by decide, by decide, by decide⟩ ?_
        refine a_iret X hr dX8_waits_31 ⟨by decide, by decide⟩ ?_
        subst hF
        rw [← Option.some.inj h]
        exact ⟨rfl, rfl⟩
    · replace h := (if_neg h_9).symm.trans h
      exact Zw.to2 (J_12 _ _ _ _ _ _ _ h) rfl rfl rfl
noncomputable def D_X8_next__116 (P : Nat) (k57 : Int32 → Int32 → Int32 → zMt → zNt → Option (Int32 × zMt × zNt)) (x2_116 : Int32) (x3_116 : Int32) (x4_116 : Int32) (M_116 : zMt) (N_116 : zNt) : Option (Int32 × zMt × zNt) :=
  k57 x2_116 x3_116 (x4_116 + 1) M_116 N_116
noncomputable def D_X8_next__57 (P : Nat) : Nat → Int32 → Int32 → Int32 → zMt → zNt → Option (Int32 × zMt × zNt)
  | 0, _, _, _, _, _ => none
  | n + 1, x2_57, x3_57, x4_57, M_57, N_57 =>
    if (M_57 P 33) ≤ x4_57 then
      zB (D_X8_refuse P (5 : Int32) M_57) fun e_124 =>
      some (e_124.1, e_124.2, N_57)
    else
      zI x4_57 10 <|
      zB (D_X8_isWaiting P M_57 (M_57 (P + 18) x4_57.toNatClampNeg) x2_57) fun e_75 =>
      if e_75 = 0 then
        D_X8_next__116 P (D_X8_next__57 P n) x2_57 x3_57 x4_57 M_57 N_57
      else
        zI x4_57 10 <|
        zI x2_57 5 <|
        zB (D_X8_fits P M_57 (M_57 (P + 18) x4_57.toNatClampNeg) x2_57 ((M_57 (P + 21) x2_57.toNatClampNeg) + x3_57)) fun e_98 =>
        if e_98 = 0 then
          D_X8_next__116 P (D_X8_next__57 P n) x2_57 x3_57 x4_57 M_57 N_57
        else
          zI x4_57 10 <|
          zB (D_X8_gives P (M_57 (P + 18) x4_57.toNatClampNeg) M_57) fun e_112 =>
          some (e_112.1, e_112.2, N_57)
noncomputable def D_X8_next__19 (P : Nat) (M_19 : zMt) (N_19 : zNt) : Option (Int32 × zMt × zNt) :=
  zB (D_X8_refuse P (1 : Int32) M_19) fun e_21 =>
  some (e_21.1, e_21.2, N_19)
noncomputable def D_X8_next_ (P : Nat) (v0 : Int32) (v1 : Int32) (v2 : Int32) (M : zMt) (N : zNt) : Option (Int32 × zMt × zNt) :=
  zB (D_X8_isSeed v0) fun e_1 =>
  if e_1 = 0 then
    D_X8_next__19 P M N
  else
    zB (D_X8_isFrom (Int32.toInt64 v2) (0 : Int64) (20 : Int64)) fun e_13 =>
    if e_13 = 0 then
      D_X8_next__19 P M N
    else
      zB (D_X8_isUnit P M v1) fun e_27 =>
      if e_27 = 0 then
        zB (D_X8_refuse P (2 : Int32) M) fun e_35 =>
        some (e_35.1, e_35.2, N)
      else
        zB (D_X8_laysResult P v0 M N) fun e_41 =>
        zI v1 5 <|
        zI v1 5 <|
        zLt (zu e_41.1 (P + 22) v1.toNatClampNeg ((e_41.1 (P + 22) v1.toNatClampNeg) + v2)) fun M_53 =>
        D_X8_next__57 P zFu v1 v2 (0 : Int32) M_53 e_41.2
set_option maxRecDepth 100000 in
set_option maxHeartbeats 4000000 in
theorem t_X8_next_ {l : Launch} {G : zG} {b : Nat} {L : List zC} {M : zMt} {N : zNt} {P : Nat} (hP : LX8 L P) {v0 : Int32} {v1 : Int32} {v2 : Int32} {r : Int32 × zMt × zNt} (h : D_X8_next_ P v0 v1 v2 M N = some r) : zM l G b yX8_next_ cX8_next_ 5 (some .int) 5 0 0 [.ref P, .int v0, .int v1, .int v2] (L, M, N) (fun r2 z => r2 = some (.int r.1) ∧ z = (L, r.2.1, r.2.2)) := by
  refine zM.of miX8_next_ (Nat.le_of_ble_eq_true rfl) ?_
  intro p e s m args below meth c X hr hname
  generalize hF : ((fun r2 z => r2 = some (.int r.1) ∧ z = (L, r.2.1, r.2.2)) : Option Value → zS → Prop) = FQ
  change Zw p l e { frames := 5, cells := 0, slots := 0, locals := 80 * (5) } s m args below meth c G b 5 (MQ below (zQ G b FQ) args s 0 0 (fun q : Nat => b ≤ q)) 0 0 0 [some (.ref P), some (.int v0), some (.int v1), some (.int v2), none] [] (L, M, N)
  obtain ⟨p_lt, p_o, p_s, p_read, p_aside, p_kept, p_guest, p_readGuest, p_tape, p_unitName, p_hunterName, p_partyName, p_bits, p_partyOf, p_choiceAt, p_sizes, p_guestMany, p_pointsOf, p_ticketsOf, p_ord, p_given, p_roundOf, p_tags, p_guestTags, p_places, p_sumAt, p_sumFirst, p_sumRound, p_sumBoth, p_sumTags, p_isEnd, p_newPoints, p_inRow, p_out⟩ := id hP
  have L_57 : ∀ u : Nat, ∀ (x1_57 : Int32) (x2_57 : Int32) (x3_57 : Int32) (x4_57 : Int32) (M_57 : zMt) (N_57 : zNt), D_X8_next__57 P u x2_57 x3_57 x4_57 M_57 N_57 = some r → Zw p l e { frames := 5, cells := 0, slots := 0, locals := 80 * (5) } s m args below meth c G b 5 (MQ below (zQ G b FQ) args s 0 0 (fun q : Nat => b ≤ q)) 0 0 57 [some (.ref (P)), some (.int x1_57), some (.int x2_57), some (.int x3_57), some (.int x4_57)] [] (L, M_57, N_57) := by
    intro u
    induction u with
    | zero => intro x1_57 x2_57 x3_57 x4_57 M_57 N_57 h; cases (show none = some r from h)
    | succ u_57 ih_57 =>
      have J_116 : ∀ (x1_116 : Int32) (x2_116 : Int32) (x3_116 : Int32) (x4_116 : Int32) (M_116 : zMt) (N_116 : zNt), D_X8_next__116 P (D_X8_next__57 P u_57) x2_116 x3_116 x4_116 M_116 N_116 = some r → Zw p l e { frames := 5, cells := 0, slots := 0, locals := 80 * (5) } s m args below meth c G b 5 (MQ below (zQ G b FQ) args s 0 0 (fun q : Nat => b ≤ q)) 0 0 116 [some (.ref (P)), some (.int x1_116), some (.int x2_116), some (.int x3_116), some (.int x4_116)] [] (L, M_116, N_116) := by
        intro x1_116 x2_116 x3_116 x4_116 M_116 N_116 h
        unfold D_X8_next__116 at h
        refine a_iinc (v := x4_116 + 1) X dX8_next__116 (by decide) rfl zi_1 ?_
        refine a_goto (tgt := 57) X dX8_next__119 (by decide) ?_
        exact Zw.to2 (ih_57 _ _ _ _ _ _ h) rfl rfl rfl
      intro x1_57 x2_57 x3_57 x4_57 M_57 N_57 h
      rw [D_X8_next__57] at h
      refine a_iload X dX8_next__57 rfl ?_
      refine a_aload_n X dX8_next__59 rfl ?_
      refine a_geti X lf8_275 (by assumption) rfl dX8_next__60 ?_
      refine a_icmp_ge (tgt := 122) X dX8_next__63 (by decide) (fun h_63 => ?_) (fun h_63 => ?_)
      · replace h := (if_pos h_63).symm.trans h
        refine a_aload_n X dX8_next__122 rfl ?_
        refine a_iconst (v := 5) X dX8_next__123 (by decide) ?_
        obtain ⟨e_124, f_124, h⟩ := zBx h
        refine a_callVv X dX8_next__124 miX8_refuse lm8_263 (t_X8_refuse (by assumption) f_124) (by assumption) rfl rfl rfl (Nat.le_of_ble_eq_true rfl) ⟨by decide, by decide, by decide, by decide⟩ ?_
        refine a_iret X hr dX8_next__127 ⟨by decide, by decide⟩ ?_
        subst hF
        rw [← Option.some.inj h]
        exact ⟨rfl, rfl⟩
      · replace h := (if_neg h_63).symm.trans h
        refine a_aload_n X dX8_next__66 rfl ?_
        refine a_aload_n X dX8_next__67 rfl ?_
        refine a_getr X lf8_70 (by assumption) rfl (by omega) dX8_next__68 ?_
        refine a_iload X dX8_next__71 rfl ?_
        obtain ⟨g_73, h⟩ := zIx h
        refine a_iaload X (by assumption) g_73 dX8_next__73 ?_
        refine a_iload_n X dX8_next__74 rfl ?_
        obtain ⟨e_75, f_75, h⟩ := zBx h
        refine a_callVx X dX8_next__75 miX8_isWaiting lm8_374 (t_X8_isWaiting (by assumption) f_75) (by assumption) rfl rfl rfl (Nat.le_of_ble_eq_true rfl) ⟨by decide, by decide, by decide, by decide⟩ (fun r_75 S_75 q_75 => ?_)
        obtain ⟨rfl, rfl, b_75⟩ := q_75
        refine a_if_eq (tgt := 116) X dX8_next__78 (by decide) (fun h_78 => ?_) (fun h_78 => ?_)
        · replace h := (if_pos h_78).symm.trans h
          exact Zw.to2 (J_116 _ _ _ _ _ _ h) rfl rfl rfl
        · replace h := (if_neg h_78).symm.trans h
          refine a_aload_n X dX8_next__81 rfl ?_
          refine a_aload_n X dX8_next__82 rfl ?_
          refine a_getr X lf8_70 (by assumption) rfl (by omega) dX8_next__83 ?_
          refine a_iload X dX8_next__86 rfl ?_
          obtain ⟨g_88, h⟩ := zIx h
          refine a_iaload X (by assumption) g_88 dX8_next__88 ?_
          refine a_iload_n X dX8_next__89 rfl ?_
          refine a_aload_n X dX8_next__90 rfl ?_
          refine a_getr X lf8_79 (by assumption) rfl (by omega) dX8_next__91 ?_
          refine a_iload_n X dX8_next__94 rfl ?_
          obtain ⟨g_95, h⟩ := zIx h
          refine a_iaload X (by assumption) g_95 dX8_next__95 ?_
          refine a_iload_n X dX8_next__96 rfl ?_
          refine a_iadd X dX8_next__97 ?_
          obtain ⟨e_98, f_98, h⟩ := zBx h
          refine a_callVx X dX8_next__98 miX8_fits lm8_329 (t_X8_fits (by assumption) f_98) (by assumption) rfl rfl rfl (Nat.le_of_ble_eq_true rfl) ⟨by decide, by decide, by decide, by decide⟩ (fun r_98 S_98 q_98 => ?_)
          obtain ⟨rfl, rfl, b_98⟩ := q_98
          refine a_if_eq (tgt := 116) X dX8_next__101 (by decide) (fun h_101 => ?_) (fun h_101 => ?_)
          · replace h := (if_pos h_101).symm.trans h
            exact Zw.to2 (J_116 _ _ _ _ _ _ h) rfl rfl rfl
          · replace h := (if_neg h_101).symm.trans h
            refine a_aload_n X dX8_next__104 rfl ?_
            refine a_aload_n X dX8_next__105 rfl ?_
            refine a_getr X lf8_70 (by assumption) rfl (by omega) dX8_next__106 ?_
            refine a_iload X dX8_next__109 rfl ?_
            obtain ⟨g_111, h⟩ := zIx h
            refine a_iaload X (by assumption) g_111 dX8_next__111 ?_
            obtain ⟨e_112, f_112, h⟩ := zBx h
            refine a_callVv X dX8_next__112 miX8_gives lm8_272 (t_X8_gives (by assumption) f_112) (by assumption) rfl rfl rfl (Nat.le_of_ble_eq_true rfl) ⟨by decide, by decide, by decide, by decide⟩ ?_
            refine a_iret X hr dX8_next__115 ⟨by decide, by decide⟩ ?_
            subst hF
            rw [← Option.some.inj h]
            exact ⟨rfl, rfl⟩
  have H_57 : ∀ (x1_57 : Int32) (x2_57 : Int32) (x3_57 : Int32) (x4_57 : Int32) (M_57 : zMt) (N_57 : zNt), D_X8_next__57 P zFu x2_57 x3_57 x4_57 M_57 N_57 = some r → Zw p l e { frames := 5, cells := 0, slots := 0, locals := 80 * (5) } s m args below meth c G b 5 (MQ below (zQ G b FQ) args s 0 0 (fun q : Nat => b ≤ q)) 0 0 57 [some (.ref (P)), some (.int x1_57), some (.int x2_57), some (.int x3_57), some (.int x4_57)] [] (L, M_57, N_57) := L_57 zFu
  have J_19 : ∀ (x1_19 : Int32) (x2_19 : Int32) (x3_19 : Int32) (x4_19 : Option Value) (M_19 : zMt) (N_19 : zNt), D_X8_next__19 P M_19 N_19 = some r → Zw p l e { frames := 5, cells := 0, slots := 0, locals := 80 * (5) } s m args below meth c G b 5 (MQ below (zQ G b FQ) args s 0 0 (fun q : Nat => b ≤ q)) 0 0 19 [some (.ref (P)), some (.int x1_19), some (.int x2_19), some (.int x3_19), x4_19] [] (L, M_19, N_19) := by
    intro x1_19 x2_19 x3_19 x4_19 M_19 N_19 h
    unfold D_X8_next__19 at h
    refine a_aload_n X dX8_next__19 rfl ?_
    refine a_iconst (v := 1) X dX8_next__20 (by decide) ?_
    obtain ⟨e_21, f_21, h⟩ := zBx h
    refine a_callVv X dX8_next__21 miX8_refuse lm8_263 (t_X8_refuse (by assumption) f_21) (by assumption) rfl rfl rfl (Nat.le_of_ble_eq_true rfl) ⟨by decide, by decide, by decide, by decide⟩ ?_
    refine a_iret X hr dX8_next__24 ⟨by decide, by decide⟩ ?_
    subst hF
    rw [← Option.some.inj h]
    exact ⟨rfl, rfl⟩
  unfold D_X8_next_ at h
  refine a_iload_n X dX8_next__0 rfl ?_
  obtain ⟨e_1, f_1, h⟩ := zBx h
  refine a_callSx X dX8_next__1 miX8_isSeed lm8_358 (t_X8_isSeed f_1) rfl rfl (Nat.le_of_ble_eq_true rfl) ⟨by decide, by decide, by decide, by decide⟩ (fun r_1 S_1 q_1 => ?_)
  obtain ⟨rfl, rfl, b_1⟩ := q_1
  refine a_if_eq (tgt := 19) X dX8_next__4 (by decide) (fun h_4 => ?_) (fun h_4 => ?_)
  · replace h := (if_pos h_4).symm.trans h
    exact Zw.to2 (J_19 _ _ _ _ _ _ h) rfl rfl rfl
  · replace h := (if_neg h_4).symm.trans h
    refine a_iload_n X dX8_next__7 rfl ?_
    refine a_i2l X dX8_next__8 ?_
    refine a_lconst (v := 0) X dX8_next__9 (by decide) ?_
    refine a_ldc2 X dX8_next__10 lk8_377 ?_
    obtain ⟨e_13, f_13, h⟩ := zBx h
    refine a_callSx X dX8_next__13 miX8_isFrom lm8_128 (t_X8_isFrom f_13) rfl rfl (Nat.le_of_ble_eq_true rfl) ⟨by decide, by decide, by decide, by decide⟩ (fun r_13 S_13 q_13 => ?_)
    obtain ⟨rfl, rfl, b_13⟩ := q_13
    refine a_if_ne (tgt := 25) X dX8_next__16 (by decide) (fun h_16 => ?_) (fun h_16 => ?_)
    · replace h := (if_neg h_16).symm.trans h
      refine a_aload_n X dX8_next__25 rfl ?_
      refine a_iload_n X dX8_next__26 rfl ?_
      obtain ⟨e_27, f_27, h⟩ := zBx h
      refine a_callVx X dX8_next__27 miX8_isUnit lm8_301 (t_X8_isUnit (by assumption) f_27) (by assumption) rfl rfl rfl (Nat.le_of_ble_eq_true rfl) ⟨by decide, by decide, by decide, by decide⟩ (fun r_27 S_27 q_27 => ?_)
      obtain ⟨rfl, rfl, b_27⟩ := q_27
      refine a_if_ne (tgt := 39) X dX8_next__30 (by decide) (fun h_30 => ?_) (fun h_30 => ?_)
      · replace h := (if_neg h_30).symm.trans h
        refine a_aload_n X dX8_next__39 rfl ?_
        refine a_iload_n X dX8_next__40 rfl ?_
        obtain ⟨e_41, f_41, h⟩ := zBx h
        refine a_callVu X dX8_next__41 miX8_laysResult lm8_361 (t_X8_laysResult (by assumption) f_41) (by assumption) rfl rfl rfl (Nat.le_of_ble_eq_true rfl) ⟨by decide, by decide, by decide, by decide⟩ ?_
        refine a_aload_n X dX8_next__44 rfl ?_
        refine a_getr X lf8_82 (by assumption) rfl (by omega) dX8_next__45 ?_
        refine a_iload_n X dX8_next__48 rfl ?_
        refine a_dup2 X dX8_next__49 rfl rfl ?_
        obtain ⟨g_50, h⟩ := zIx h
        refine a_iaload X (by assumption) g_50 dX8_next__50 ?_
        refine a_iload_n X dX8_next__51 rfl ?_
        refine a_iadd X dX8_next__52 ?_
        obtain ⟨g_53, h⟩ := zIx h
        obtain ⟨M_53, f_53, h⟩ := zLtx h
        refine d_iastore X (by assumption) g_53 dX8_next__53 f_53 ?_
        refine a_iconst (v := 0) X dX8_next__54 (by decide) ?_
        refine a_istore X dX8_next__55 (by decide) ?_
        exact Zw.to2 (H_57 _ _ _ _ _ _ h) rfl rfl rfl
      · replace h := (if_pos h_30).symm.trans h
        refine a_aload_n X dX8_next__33 rfl ?_
        refine a_iconst (v := 2) X dX8_next__34 (by decide) ?_
        obtain ⟨e_35, f_35, h⟩ := zBx h
        refine a_callVv X dX8_next__35 miX8_refuse lm8_263 (t_X8_refuse (by assumption) f_35) (by assumption) rfl rfl rfl (Nat.le_of_ble_eq_true rfl) ⟨by decide, by decide, by decide, by decide⟩ ?_
        refine a_iret X hr dX8_next__38 ⟨by decide, by decide⟩ ?_
        subst hF
        rw [← Option.some.inj h]
        exact ⟨rfl, rfl⟩
    · replace h := (if_pos h_16).symm.trans h
      exact Zw.to2 (J_19 _ _ _ _ _ _ h) rfl rfl rfl
noncomputable def D_X8_placeNow_29 (P : Nat) (M : zMt) (y0_29 : Int32) : Option (Int32) :=
  some (y0_29)
noncomputable def D_X8_placeNow (P : Nat) (M : zMt) (v0 : Int32) : Option (Int32) :=
  zI v0 10 <|
  if (M (P + 19) v0.toNatClampNeg) = (-1 : Int32) then
    zB (D_X8_choiceMany P M v0) fun e_12 =>
    D_X8_placeNow_29 P M e_12
  else
    zI v0 10 <|
    zB (D_X8_placeOf P M v0 (M (P + 19) v0.toNatClampNeg)) fun e_26 =>
    D_X8_placeNow_29 P M e_26
set_option maxRecDepth 100000 in
set_option maxHeartbeats 4000000 in
theorem t_X8_placeNow {l : Launch} {G : zG} {b : Nat} {L : List zC} {M : zMt} {N : zNt} {P : Nat} (hP : LX8 L P) {v0 : Int32} {r : Int32} (h : D_X8_placeNow P M v0 = some r) : zM l G b yX8_placeNow cX8_placeNow 2 (some .int) 3 0 0 [.ref P, .int v0] (L, M, N) (fun r2 z => r2 = some (.int r) ∧ z = (L, M, N)) := by
  refine zM.of miX8_placeNow (Nat.le_of_ble_eq_true rfl) ?_
  intro p e s m args below meth c X hr hname
  generalize hF : ((fun r2 z => r2 = some (.int r) ∧ z = (L, M, N)) : Option Value → zS → Prop) = FQ
  change Zw p l e { frames := 3, cells := 0, slots := 0, locals := 80 * (3) } s m args below meth c G b 2 (MQ below (zQ G b FQ) args s 0 0 (fun q : Nat => b ≤ q)) 0 0 0 [some (.ref P), some (.int v0)] [] (L, M, N)
  obtain ⟨p_lt, p_o, p_s, p_read, p_aside, p_kept, p_guest, p_readGuest, p_tape, p_unitName, p_hunterName, p_partyName, p_bits, p_partyOf, p_choiceAt, p_sizes, p_guestMany, p_pointsOf, p_ticketsOf, p_ord, p_given, p_roundOf, p_tags, p_guestTags, p_places, p_sumAt, p_sumFirst, p_sumRound, p_sumBoth, p_sumTags, p_isEnd, p_newPoints, p_inRow, p_out⟩ := id hP
  have J_29 : ∀ (x1_29 : Int32) (y0_29 : Int32), D_X8_placeNow_29 P M y0_29 = some r → Zw p l e { frames := 3, cells := 0, slots := 0, locals := 80 * (3) } s m args below meth c G b 2 (MQ below (zQ G b FQ) args s 0 0 (fun q : Nat => b ≤ q)) 0 0 29 [some (.ref (P)), some (.int x1_29)] [.int y0_29] (L, M, N) := by
    intro x1_29 y0_29 h
    unfold D_X8_placeNow_29 at h
    refine a_iret X hr dX8_placeNow_29 ⟨by decide, by decide⟩ ?_
    subst hF
    rw [← Option.some.inj h]
    exact ⟨rfl, rfl⟩
  unfold D_X8_placeNow at h
  refine a_aload_n X dX8_placeNow_0 rfl ?_
  refine a_getr X lf8_73 (by assumption) rfl (by omega) dX8_placeNow_1 ?_
  refine a_iload_n X dX8_placeNow_4 rfl ?_
  obtain ⟨g_5, h⟩ := zIx h
  refine a_iaload X (by assumption) g_5 dX8_placeNow_5 ?_
  refine a_iconst (v := -1) X dX8_placeNow_6 (by decide) ?_
  refine a_icmp_ne (tgt := 18) X dX8_placeNow_7 (by decide) (fun h_7 => ?_) (fun h_7 => ?_)
  · replace h := (if_neg h_7).symm.trans h
    refine a_aload_n X dX8_placeNow_18 rfl ?_
    refine a_iload_n X dX8_placeNow_19 rfl ?_
    refine a_aload_n X dX8_placeNow_20 rfl ?_
    refine a_getr X lf8_73 (by assumption) rfl (by omega) dX8_placeNow_21 ?_
    refine a_iload_n X dX8_placeNow_24 rfl ?_
    obtain ⟨g_25, h⟩ := zIx h
    refine a_iaload X (by assumption) g_25 dX8_placeNow_25 ?_
    obtain ⟨e_26, f_26, h⟩ := zBx h
    refine a_callVv X dX8_placeNow_26 miX8_placeOf lm8_310 (t_X8_placeOf (by assumption) f_26) (by assumption) rfl rfl rfl (Nat.le_of_ble_eq_true rfl) ⟨by decide, by decide, by decide, by decide⟩ ?_
    exact Zw.to2 (J_29 _ _ h) rfl rfl rfl
  · replace h := (if_pos h_7).symm.trans h
    refine a_aload_n X dX8_placeNow_10 rfl ?_
    refine a_iload_n X dX8_placeNow_11 rfl ?_
    obtain ⟨e_12, f_12, h⟩ := zBx h
    refine a_callVv X dX8_placeNow_12 miX8_choiceMany lm8_288 (t_X8_choiceMany (by assumption) f_12) (by assumption) rfl rfl rfl (Nat.le_of_ble_eq_true rfl) ⟨by decide, by decide, by decide, by decide⟩ ?_
    refine a_goto (tgt := 29) X dX8_placeNow_15 (by decide) ?_
    exact Zw.to2 (J_29 _ _ h) rfl rfl rfl
noncomputable def D_X8_envies_117 (P : Nat) (k37 : Int32 → Int32 → Int32 → zMt → zNt → Option (Int32 × zMt × zNt)) (x2_117 : Int32) (x3_117 : Int32) (x4_117 : Int32) (M_117 : zMt) (N_117 : zNt) : Option (Int32 × zMt × zNt) :=
  k37 x2_117 x3_117 (x4_117 + 1) M_117 N_117
noncomputable def D_X8_envies_115 (P : Nat) (k37 : Int32 → Int32 → Int32 → zMt → zNt → Option (Int32 × zMt × zNt)) (x2_115 : Int32) (x4_115 : Int32) (y0_115 : Int32) (y1_115 : Int32) (M_115 : zMt) (N_115 : zNt) : Option (Int32 × zMt × zNt) :=
  D_X8_envies_117 P k37 x2_115 (y0_115 ||| y1_115) x4_115 M_115 N_115
noncomputable def D_X8_envies_114 (P : Nat) (k37 : Int32 → Int32 → Int32 → zMt → zNt → Option (Int32 × zMt × zNt)) (x2_114 : Int32) (x4_114 : Int32) (y0_114 : Int32) (M_114 : zMt) (N_114 : zNt) : Option (Int32 × zMt × zNt) :=
  D_X8_envies_115 P k37 x2_114 x4_114 y0_114 (0 : Int32) M_114 N_114
noncomputable def D_X8_envies_37 (P : Nat) : Nat → Int32 → Int32 → Int32 → zMt → zNt → Option (Int32 × zMt × zNt)
  | 0, _, _, _, _, _ => none
  | n + 1, x2_37, x3_37, x4_37, M_37, N_37 =>
    if (M_37 P 33) ≤ x4_37 then
      zB (D_X8_gives P x3_37 M_37) fun e_125 =>
      some (e_125.1, e_125.2, N_37)
    else
      zI x4_37 10 <|
      if (M_37 (P + 19) x4_37.toNatClampNeg) = (-1 : Int32) then
        D_X8_envies_117 P (D_X8_envies_37 P n) x2_37 x3_37 x4_37 M_37 N_37
      else
        zI x4_37 10 <|
        zI x2_37 10 <|
        if (M_37 (P + 16) x4_37.toNatClampNeg) < (M_37 (P + 16) x2_37.toNatClampNeg) then
          zI x4_37 10 <|
          zB (D_X8_placeOf P M_37 x2_37 (M_37 (P + 19) x4_37.toNatClampNeg)) fun e_85 =>
          if e_85 = (-1 : Int32) then
            D_X8_envies_114 P (D_X8_envies_37 P n) x2_37 x4_37 x3_37 M_37 N_37
          else
            zB (D_X8_placeNow P M_37 x2_37) fun e_101 =>
            if e_101 ≤ e_85 then
              D_X8_envies_114 P (D_X8_envies_37 P n) x2_37 x4_37 x3_37 M_37 N_37
            else
              D_X8_envies_115 P (D_X8_envies_37 P n) x2_37 x4_37 x3_37 ((1 : Int32) <<< (x4_37 &&& 31)) M_37 N_37
        else
          D_X8_envies_117 P (D_X8_envies_37 P n) x2_37 x3_37 x4_37 M_37 N_37
noncomputable def D_X8_envies (P : Nat) (v0 : Int32) (v1 : Int32) (M : zMt) (N : zNt) : Option (Int32 × zMt × zNt) :=
  zB (D_X8_isSeed v0) fun e_1 =>
  if e_1 = 0 then
    zB (D_X8_refuse P (1 : Int32) M) fun e_9 =>
    some (e_9.1, e_9.2, N)
  else
    zB (D_X8_isApplicant P v1 M) fun e_15 =>
    if e_15.1 = 0 then
      zB (D_X8_refuse P (2 : Int32) e_15.2) fun e_23 =>
      some (e_23.1, e_23.2, N)
    else
      zB (D_X8_laysResult P v0 e_15.2 N) fun e_29 =>
      D_X8_envies_37 P zFu v1 (0 : Int32) (0 : Int32) e_29.1 e_29.2
set_option maxRecDepth 100000 in
set_option maxHeartbeats 4000000 in
theorem t_X8_envies {l : Launch} {G : zG} {b : Nat} {L : List zC} {M : zMt} {N : zNt} {P : Nat} (hP : LX8 L P) {v0 : Int32} {v1 : Int32} {r : Int32 × zMt × zNt} (h : D_X8_envies P v0 v1 M N = some r) : zM l G b yX8_envies cX8_envies 6 (some .int) 5 0 0 [.ref P, .int v0, .int v1] (L, M, N) (fun r2 z => r2 = some (.int r.1) ∧ z = (L, r.2.1, r.2.2)) := by
  refine zM.of miX8_envies (Nat.le_of_ble_eq_true rfl) ?_
  intro p e s m args below meth c X hr hname
  generalize hF : ((fun r2 z => r2 = some (.int r.1) ∧ z = (L, r.2.1, r.2.2)) : Option Value → zS → Prop) = FQ
  change Zw p l e { frames := 5, cells := 0, slots := 0, locals := 80 * (5) } s m args below meth c G b 6 (MQ below (zQ G b FQ) args s 0 0 (fun q : Nat => b ≤ q)) 0 0 0 [some (.ref P), some (.int v0), some (.int v1), none, none, none] [] (L, M, N)
  obtain ⟨p_lt, p_o, p_s, p_read, p_aside, p_kept, p_guest, p_readGuest, p_tape, p_unitName, p_hunterName, p_partyName, p_bits, p_partyOf, p_choiceAt, p_sizes, p_guestMany, p_pointsOf, p_ticketsOf, p_ord, p_given, p_roundOf, p_tags, p_guestTags, p_places, p_sumAt, p_sumFirst, p_sumRound, p_sumBoth, p_sumTags, p_isEnd, p_newPoints, p_inRow, p_out⟩ := id hP
  have L_37 : ∀ u : Nat, ∀ (x1_37 : Int32) (x2_37 : Int32) (x3_37 : Int32) (x4_37 : Int32) (x5_37 : Option Value) (M_37 : zMt) (N_37 : zNt), D_X8_envies_37 P u x2_37 x3_37 x4_37 M_37 N_37 = some r → Zw p l e { frames := 5, cells := 0, slots := 0, locals := 80 * (5) } s m args below meth c G b 6 (MQ below (zQ G b FQ) args s 0 0 (fun q : Nat => b ≤ q)) 0 0 37 [some (.ref (P)), some (.int x1_37), some (.int x2_37), some (.int x3_37), some (.int x4_37), x5_37] [] (L, M_37, N_37) := by
    intro u
    induction u with
    | zero => intro x1_37 x2_37 x3_37 x4_37 x5_37 M_37 N_37 h; cases (show none = some r from h)
    | succ u_37 ih_37 =>
      have J_117 : ∀ (x1_117 : Int32) (x2_117 : Int32) (x3_117 : Int32) (x4_117 : Int32) (x5_117 : Option Value) (M_117 : zMt) (N_117 : zNt), D_X8_envies_117 P (D_X8_envies_37 P u_37) x2_117 x3_117 x4_117 M_117 N_117 = some r → Zw p l e { frames := 5, cells := 0, slots := 0, locals := 80 * (5) } s m args below meth c G b 6 (MQ below (zQ G b FQ) args s 0 0 (fun q : Nat => b ≤ q)) 0 0 117 [some (.ref (P)), some (.int x1_117), some (.int x2_117), some (.int x3_117), some (.int x4_117), x5_117] [] (L, M_117, N_117) := by
        intro x1_117 x2_117 x3_117 x4_117 x5_117 M_117 N_117 h
        unfold D_X8_envies_117 at h
        refine a_iinc (v := x4_117 + 1) X dX8_envies_117 (by decide) rfl zi_1 ?_
        refine a_goto (tgt := 37) X dX8_envies_120 (by decide) ?_
        exact Zw.to2 (ih_37 _ _ _ _ _ _ _ h) rfl rfl rfl
      have J_115 : ∀ (x1_115 : Int32) (x2_115 : Int32) (x3_115 : Int32) (x4_115 : Int32) (x5_115 : Int32) (y0_115 : Int32) (y1_115 : Int32) (M_115 : zMt) (N_115 : zNt), D_X8_envies_115 P (D_X8_envies_37 P u_37) x2_115 x4_115 y0_115 y1_115 M_115 N_115 = some r → Zw p l e { frames := 5, cells := 0, slots := 0, locals := 80 * (5) } s m args below meth c G b 6 (MQ below (zQ G b FQ) args s 0 0 (fun q : Nat => b ≤ q)) 0 0 115 [some (.ref (P)), some (.int x1_115), some (.int x2_115), some (.int x3_115), some (.int x4_115), some (.int x5_115)] [.int y1_115, .int y0_115] (L, M_115, N_115) := by
        intro x1_115 x2_115 x3_115 x4_115 x5_115 y0_115 y1_115 M_115 N_115 h
        unfold D_X8_envies_115 at h
        refine a_ior X dX8_envies_115 ?_
        refine a_istore_n X dX8_envies_116 (by decide) ?_
        exact Zw.to2 (J_117 _ _ _ _ _ _ _ h) rfl rfl rfl
      have J_114 : ∀ (x1_114 : Int32) (x2_114 : Int32) (x3_114 : Int32) (x4_114 : Int32) (x5_114 : Int32) (y0_114 : Int32) (M_114 : zMt) (N_114 : zNt), D_X8_envies_114 P (D_X8_envies_37 P u_37) x2_114 x4_114 y0_114 M_114 N_114 = some r → Zw p l e { frames := 5, cells := 0, slots := 0, locals := 80 * (5) } s m args below meth c G b 6 (MQ below (zQ G b FQ) args s 0 0 (fun q : Nat => b ≤ q)) 0 0 114 [some (.ref (P)), some (.int x1_114), some (.int x2_114), some (.int x3_114), some (.int x4_114), some (.int x5_114)] [.int y0_114] (L, M_114, N_114) := by
        intro x1_114 x2_114 x3_114 x4_114 x5_114 y0_114 M_114 N_114 h
        unfold D_X8_envies_114 at h
        refine a_iconst (v := 0) X dX8_envies_114 (by decide) ?_
        exact Zw.to2 (J_115 _ _ _ _ _ _ _ _ _ h) rfl rfl rfl
      intro x1_37 x2_37 x3_37 x4_37 x5_37 M_37 N_37 h
      rw [D_X8_envies_37] at h
      refine a_iload X dX8_envies_37 rfl ?_
      refine a_aload_n X dX8_envies_39 rfl ?_
      refine a_geti X lf8_275 (by assumption) rfl dX8_envies_40 ?_
      refine a_icmp_ge (tgt := 123) X dX8_envies_43 (by decide) (fun h_43 => ?_) (fun h_43 => ?_)
      · replace h := (if_pos h_43).symm.trans h
        refine a_aload_n X dX8_envies_123 rfl ?_
        refine a_iload_n X dX8_envies_124 rfl ?_
        obtain ⟨e_125, f_125, h⟩ := zBx h
        refine a_callVv X dX8_envies_125 miX8_gives lm8_272 (t_X8_gives (by assumption) f_125) (by assumption) rfl rfl rfl (Nat.le_of_ble_eq_true rfl) ⟨by decide, by decide, by decide, by decide⟩ ?_
        refine a_iret X hr dX8_envies_128 ⟨by decide, by decide⟩ ?_
        subst hF
        rw [← Option.some.inj h]
        exact ⟨rfl, rfl⟩
      · replace h := (if_neg h_43).symm.trans h
        refine a_aload_n X dX8_envies_46 rfl ?_
        refine a_getr X lf8_73 (by assumption) rfl (by omega) dX8_envies_47 ?_
        refine a_iload X dX8_envies_50 rfl ?_
        obtain ⟨g_52, h⟩ := zIx h
        refine a_iaload X (by assumption) g_52 dX8_envies_52 ?_
        refine a_iconst (v := -1) X dX8_envies_53 (by decide) ?_
        refine a_icmp_eq (tgt := 117) X dX8_envies_54 (by decide) (fun h_54 => ?_) (fun h_54 => ?_)
        · replace h := (if_pos h_54).symm.trans h
          exact Zw.to2 (J_117 _ _ _ _ _ _ _ h) rfl rfl rfl
        · replace h := (if_neg h_54).symm.trans h
          refine a_aload_n X dX8_envies_57 rfl ?_
          refine a_getr X lf8_64 (by assumption) rfl (by omega) dX8_envies_58 ?_
          refine a_iload X dX8_envies_61 rfl ?_
          obtain ⟨g_63, h⟩ := zIx h
          refine a_iaload X (by assumption) g_63 dX8_envies_63 ?_
          refine a_aload_n X dX8_envies_64 rfl ?_
          refine a_getr X lf8_64 (by assumption) rfl (by omega) dX8_envies_65 ?_
          refine a_iload_n X dX8_envies_68 rfl ?_
          obtain ⟨g_69, h⟩ := zIx h
          refine a_iaload X (by assumption) g_69 dX8_envies_69 ?_
          refine a_icmp_lt (tgt := 76) X dX8_envies_70 (by decide) (fun h_70 => ?_) (fun h_70 => ?_)
          · replace h := (if_pos h_70).symm.trans h
            refine a_aload_n X dX8_envies_76 rfl ?_
            refine a_iload_n X dX8_envies_77 rfl ?_
            refine a_aload_n X dX8_envies_78 rfl ?_
            refine a_getr X lf8_73 (by assumption) rfl (by omega) dX8_envies_79 ?_
            refine a_iload X dX8_envies_82 rfl ?_
            obtain ⟨g_84, h⟩ := zIx h
            refine a_iaload X (by assumption) g_84 dX8_envies_84 ?_
            obtain ⟨e_85, f_85, h⟩ := zBx h
            refine a_callVv X dX8_envies_85 miX8_placeOf lm8_310 (t_X8_placeOf (by assumption) f_85) (by assumption) rfl rfl rfl (Nat.le_of_ble_eq_true rfl) ⟨by decide, by decide, by decide, by decide⟩ ?_
            refine a_istore X dX8_envies_88 (by decide) ?_
            refine a_iload_n X dX8_envies_90 rfl ?_
            refine a_iload X dX8_envies_91 rfl ?_
            refine a_iconst (v := -1) X dX8_envies_93 (by decide) ?_
            refine a_icmp_eq (tgt := 114) X dX8_envies_94 (by decide) (fun h_94 => ?_) (fun h_94 => ?_)
            · replace h := (if_pos h_94).symm.trans h
              exact Zw.to2 (J_114 _ _ _ _ _ _ _ _ h) rfl rfl rfl
            · replace h := (if_neg h_94).symm.trans h
              refine a_iload X dX8_envies_97 rfl ?_
              refine a_aload_n X dX8_envies_99 rfl ?_
              refine a_iload_n X dX8_envies_100 rfl ?_
              obtain ⟨e_101, f_101, h⟩ := zBx h
              refine a_callVv X dX8_envies_101 miX8_placeNow lm8_379 (t_X8_placeNow (by assumption) f_101) (by assumption) rfl rfl rfl (Nat.le_of_ble_eq_true rfl) ⟨by decide, by decide, by decide, by decide⟩ ?_
              refine a_icmp_ge (tgt := 114) X dX8_envies_104 (by decide) (fun h_104 => ?_) (fun h_104 => ?_)
              · replace h := (if_pos h_104).symm.trans h
                exact Zw.to2 (J_114 _ _ _ _ _ _ _ _ h) rfl rfl rfl
              · replace h := (if_neg h_104).symm.trans h
                refine a_iconst (v := 1) X dX8_envies_107 (by decide) ?_
                refine a_iload X dX8_envies_108 rfl ?_
                refine a_ishl X dX8_envies_110 ?_
                refine a_goto (tgt := 115) X dX8_envies_111 (by decide) ?_
                exact Zw.to2 (J_115 _ _ _ _ _ _ _ _ _ h) rfl rfl rfl
          · replace h := (if_neg h_70).symm.trans h
            refine a_goto (tgt := 117) X dX8_envies_73 (by decide) ?_
            exact Zw.to2 (J_117 _ _ _ _ _ _ _ h) rfl rfl rfl
  have H_37 : ∀ (x1_37 : Int32) (x2_37 : Int32) (x3_37 : Int32) (x4_37 : Int32) (x5_37 : Option Value) (M_37 : zMt) (N_37 : zNt), D_X8_envies_37 P zFu x2_37 x3_37 x4_37 M_37 N_37 = some r → Zw p l e { frames := 5, cells := 0, slots := 0, locals := 80 * (5) } s m args below meth c G b 6 (MQ below (zQ G b FQ) args s 0 0 (fun q : Nat => b ≤ q)) 0 0 37 [some (.ref (P)), some (.int x1_37), some (.int x2_37), some (.int x3_37), some (.int x4_37), x5_37] [] (L, M_37, N_37) := L_37 zFu
  unfold D_X8_envies at h
  refine a_iload_n X dX8_envies_0 rfl ?_
  obtain ⟨e_1, f_1, h⟩ := zBx h
  refine a_callSx X dX8_envies_1 miX8_isSeed lm8_358 (t_X8_isSeed f_1) rfl rfl (Nat.le_of_ble_eq_true rfl) ⟨by decide, by decide, by decide, by decide⟩ (fun r_1 S_1 q_1 => ?_)
  obtain ⟨rfl, rfl, b_1⟩ := q_1
  refine a_if_ne (tgt := 13) X dX8_envies_4 (by decide) (fun h_4 => ?_) (fun h_4 => ?_)
  · replace h := (if_neg h_4).symm.trans h
    refine a_aload_n X dX8_envies_13 rfl ?_
    refine a_iload_n X dX8_envies_14 rfl ?_
    obtain ⟨e_15, f_15, h⟩ := zBx h
    refine a_callVx X dX8_envies_15 miX8_isApplicant lm8_315 (t_X8_isApplicant (by assumption) f_15) (by assumption) rfl rfl rfl (Nat.le_of_ble_eq_true rfl) ⟨by decide, by decide, by decide, by decide⟩ (fun r_15 S_15 q_15 => ?_)
    obtain ⟨rfl, rfl, b_15⟩ := q_15
    refine a_if_ne (tgt := 27) X dX8_envies_18 (by decide) (fun h_18 => ?_) (fun h_18 => ?_)
    · replace h := (if_neg h_18).symm.trans h
      refine a_aload_n X dX8_envies_27 rfl ?_
      refine a_iload_n X dX8_envies_28 rfl ?_
      obtain ⟨e_29, f_29, h⟩ := zBx h
      refine a_callVu X dX8_envies_29 miX8_laysResult lm8_361 (t_X8_laysResult (by assumption) f_29) (by assumption) rfl rfl rfl (Nat.le_of_ble_eq_true rfl) ⟨by decide, by decide, by decide, by decide⟩ ?_
      refine a_iconst (v := 0) X dX8_envies_32 (by decide) ?_
      refine a_istore_n X dX8_envies_33 (by decide) ?_
      refine a_iconst (v := 0) X dX8_envies_34 (by decide) ?_
      refine a_istore X dX8_envies_35 (by decide) ?_
      exact Zw.to2 (H_37 _ _ _ _ _ _ _ h) rfl rfl rfl
    · replace h := (if_pos h_18).symm.trans h
      refine a_aload_n X dX8_envies_21 rfl ?_
      refine a_iconst (v := 2) X dX8_envies_22 (by decide) ?_
      obtain ⟨e_23, f_23, h⟩ := zBx h
      refine a_callVv X dX8_envies_23 miX8_refuse lm8_263 (t_X8_refuse (by assumption) f_23) (by assumption) rfl rfl rfl (Nat.le_of_ble_eq_true rfl) ⟨by decide, by decide, by decide, by decide⟩ ?_
      refine a_iret X hr dX8_envies_26 ⟨by decide, by decide⟩ ?_
      subst hF
      rw [← Option.some.inj h]
      exact ⟨rfl, rfl⟩
  · replace h := (if_pos h_4).symm.trans h
    refine a_aload_n X dX8_envies_7 rfl ?_
    refine a_iconst (v := 1) X dX8_envies_8 (by decide) ?_
    obtain ⟨e_9, f_9, h⟩ := zBx h
    refine a_callVv X dX8_envies_9 miX8_refuse lm8_263 (t_X8_refuse (by assumption) f_9) (by assumption) rfl rfl rfl (Nat.le_of_ble_eq_true rfl) ⟨by decide, by decide, by decide, by decide⟩ ?_
    refine a_iret X hr dX8_envies_12 ⟨by decide, by decide⟩ ?_
    subst hF
    rw [← Option.some.inj h]
    exact ⟨rfl, rfl⟩
noncomputable def D_X8_spoils_109 (P : Nat) (k69 : Int32 → Int32 → Int32 → zMt → zNt → Option (Int32 × zMt × zNt)) (x2_109 : Int32) (x4_109 : Int32) (y0_109 : Int32) (y1_109 : Int32) (M_109 : zMt) (N_109 : zNt) : Option (Int32 × zMt × zNt) :=
  k69 x2_109 (y0_109 ||| y1_109) (x4_109 + 1) M_109 N_109
noncomputable def D_X8_spoils_108 (P : Nat) (k69 : Int32 → Int32 → Int32 → zMt → zNt → Option (Int32 × zMt × zNt)) (x2_108 : Int32) (x4_108 : Int32) (y0_108 : Int32) (M_108 : zMt) (N_108 : zNt) : Option (Int32 × zMt × zNt) :=
  D_X8_spoils_109 P k69 x2_108 x4_108 y0_108 (0 : Int32) M_108 N_108
noncomputable def D_X8_spoils_69 (P : Nat) : Nat → Int32 → Int32 → Int32 → zMt → zNt → Option (Int32 × zMt × zNt)
  | 0, _, _, _, _, _ => none
  | n + 1, x2_69, x3_69, x4_69, M_69, N_69 =>
    if (M_69 P 33) ≤ x4_69 then
      zB (D_X8_gives P x3_69 M_69) fun e_119 =>
      some (e_119.1, e_119.2, N_69)
    else
      if x4_69 = x2_69 then
        D_X8_spoils_108 P (D_X8_spoils_69 P n) x2_69 x4_69 x3_69 M_69 N_69
      else
        zB (D_X8_placeNow P M_69 x4_69) fun e_88 =>
        zI x4_69 10 <|
        if (M_69 (P + 23) x4_69.toNatClampNeg) ≤ e_88 then
          D_X8_spoils_108 P (D_X8_spoils_69 P n) x2_69 x4_69 x3_69 M_69 N_69
        else
          D_X8_spoils_109 P (D_X8_spoils_69 P n) x2_69 x4_69 x3_69 ((1 : Int32) <<< (x4_69 &&& 31)) M_69 N_69
noncomputable def D_X8_spoils_34 (P : Nat) : Nat → Int32 → Int32 → zMt → zNt → Option (Int32 × zMt × zNt)
  | 0, _, _, _, _ => none
  | n + 1, x2_34, x3_34, M_34, N_34 =>
    if (M_34 P 33) ≤ x3_34 then
      zB (D_X8_results P x2_34 M_34) fun e_61 =>
      D_X8_spoils_69 P zFu x2_34 (0 : Int32) (0 : Int32) e_61 N_34
    else
      zB (D_X8_placeNow P M_34 x3_34) fun e_49 =>
      zI x3_34 10 <|
      zLt (zu M_34 (P + 23) x3_34.toNatClampNeg e_49) fun M_52 =>
      (D_X8_spoils_34 P n) x2_34 (x3_34 + 1) M_52 N_34
noncomputable def D_X8_spoils (P : Nat) (v0 : Int32) (v1 : Int32) (M : zMt) (N : zNt) : Option (Int32 × zMt × zNt) :=
  zB (D_X8_isSeed v0) fun e_1 =>
  if e_1 = 0 then
    zB (D_X8_refuse P (1 : Int32) M) fun e_9 =>
    some (e_9.1, e_9.2, N)
  else
    zB (D_X8_isApplicant P v1 M) fun e_15 =>
    if e_15.1 = 0 then
      zB (D_X8_refuse P (2 : Int32) e_15.2) fun e_23 =>
      some (e_23.1, e_23.2, N)
    else
      zB (D_X8_laysResult P v0 e_15.2 N) fun e_29 =>
      D_X8_spoils_34 P zFu v1 (0 : Int32) e_29.1 e_29.2
set_option maxRecDepth 100000 in
set_option maxHeartbeats 4000000 in
theorem t_X8_spoils {l : Launch} {G : zG} {b : Nat} {L : List zC} {M : zMt} {N : zNt} {P : Nat} (hP : LX8 L P) {v0 : Int32} {v1 : Int32} {r : Int32 × zMt × zNt} (h : D_X8_spoils P v0 v1 M N = some r) : zM l G b yX8_spoils cX8_spoils 5 (some .int) 5 0 0 [.ref P, .int v0, .int v1] (L, M, N) (fun r2 z => r2 = some (.int r.1) ∧ z = (L, r.2.1, r.2.2)) := by
  refine zM.of miX8_spoils (Nat.le_of_ble_eq_true rfl) ?_
  intro p e s m args below meth c X hr hname
  generalize hF : ((fun r2 z => r2 = some (.int r.1) ∧ z = (L, r.2.1, r.2.2)) : Option Value → zS → Prop) = FQ
  change Zw p l e { frames := 5, cells := 0, slots := 0, locals := 80 * (5) } s m args below meth c G b 5 (MQ below (zQ G b FQ) args s 0 0 (fun q : Nat => b ≤ q)) 0 0 0 [some (.ref P), some (.int v0), some (.int v1), none, none] [] (L, M, N)
  obtain ⟨p_lt, p_o, p_s, p_read, p_aside, p_kept, p_guest, p_readGuest, p_tape, p_unitName, p_hunterName, p_partyName, p_bits, p_partyOf, p_choiceAt, p_sizes, p_guestMany, p_pointsOf, p_ticketsOf, p_ord, p_given, p_roundOf, p_tags, p_guestTags, p_places, p_sumAt, p_sumFirst, p_sumRound, p_sumBoth, p_sumTags, p_isEnd, p_newPoints, p_inRow, p_out⟩ := id hP
  have L_69 : ∀ u : Nat, ∀ (x1_69 : Int32) (x2_69 : Int32) (x3_69 : Int32) (x4_69 : Int32) (M_69 : zMt) (N_69 : zNt), D_X8_spoils_69 P u x2_69 x3_69 x4_69 M_69 N_69 = some r → Zw p l e { frames := 5, cells := 0, slots := 0, locals := 80 * (5) } s m args below meth c G b 5 (MQ below (zQ G b FQ) args s 0 0 (fun q : Nat => b ≤ q)) 0 0 69 [some (.ref (P)), some (.int x1_69), some (.int x2_69), some (.int x3_69), some (.int x4_69)] [] (L, M_69, N_69) := by
    intro u
    induction u with
    | zero => intro x1_69 x2_69 x3_69 x4_69 M_69 N_69 h; cases (show none = some r from h)
    | succ u_69 ih_69 =>
      have J_109 : ∀ (x1_109 : Int32) (x2_109 : Int32) (x3_109 : Int32) (x4_109 : Int32) (y0_109 : Int32) (y1_109 : Int32) (M_109 : zMt) (N_109 : zNt), D_X8_spoils_109 P (D_X8_spoils_69 P u_69) x2_109 x4_109 y0_109 y1_109 M_109 N_109 = some r → Zw p l e { frames := 5, cells := 0, slots := 0, locals := 80 * (5) } s m args below meth c G b 5 (MQ below (zQ G b FQ) args s 0 0 (fun q : Nat => b ≤ q)) 0 0 109 [some (.ref (P)), some (.int x1_109), some (.int x2_109), some (.int x3_109), some (.int x4_109)] [.int y1_109, .int y0_109] (L, M_109, N_109) := by
        intro x1_109 x2_109 x3_109 x4_109 y0_109 y1_109 M_109 N_109 h
        unfold D_X8_spoils_109 at h
        refine a_ior X dX8_spoils_109 ?_
        refine a_istore_n X dX8_spoils_110 (by decide) ?_
        refine a_iinc (v := x4_109 + 1) X dX8_spoils_111 (by decide) rfl zi_1 ?_
        refine a_goto (tgt := 69) X dX8_spoils_114 (by decide) ?_
        exact Zw.to2 (ih_69 _ _ _ _ _ _ h) rfl rfl rfl
      have J_108 : ∀ (x1_108 : Int32) (x2_108 : Int32) (x3_108 : Int32) (x4_108 : Int32) (y0_108 : Int32) (M_108 : zMt) (N_108 : zNt), D_X8_spoils_108 P (D_X8_spoils_69 P u_69) x2_108 x4_108 y0_108 M_108 N_108 = some r → Zw p l e { frames := 5, cells := 0, slots := 0, locals := 80 * (5) } s m args below meth c G b 5 (MQ below (zQ G b FQ) args s 0 0 (fun q : Nat => b ≤ q)) 0 0 108 [some (.ref (P)), some (.int x1_108), some (.int x2_108), some (.int x3_108), some (.int x4_108)] [.int y0_108] (L, M_108, N_108) := by
        intro x1_108 x2_108 x3_108 x4_108 y0_108 M_108 N_108 h
        unfold D_X8_spoils_108 at h
        refine a_iconst (v := 0) X dX8_spoils_108 (by decide) ?_
        exact Zw.to2 (J_109 _ _ _ _ _ _ _ _ h) rfl rfl rfl
      intro x1_69 x2_69 x3_69 x4_69 M_69 N_69 h
      rw [D_X8_spoils_69] at h
      refine a_iload X dX8_spoils_69 rfl ?_
      refine a_aload_n X dX8_spoils_71 rfl ?_
      refine a_geti X lf8_275 (by assumption) rfl dX8_spoils_72 ?_
      refine a_icmp_ge (tgt := 117) X dX8_spoils_75 (by decide) (fun h_75 => ?_) (fun h_75 => ?_)
      · replace h := (if_pos h_75).symm.trans h
        refine a_aload_n X dX8_spoils_117 rfl ?_
        refine a_iload_n X dX8_spoils_118 rfl ?_
        obtain ⟨e_119, f_119, h⟩ := zBx h
        refine a_callVv X dX8_spoils_119 miX8_gives lm8_272 (t_X8_gives (by assumption) f_119) (by assumption) rfl rfl rfl (Nat.le_of_ble_eq_true rfl) ⟨by decide, by decide, by decide, by decide⟩ ?_
        refine a_iret X hr dX8_spoils_122 ⟨by decide, by decide⟩ ?_
        subst hF
        rw [← Option.some.inj h]
        exact ⟨rfl, rfl⟩
      · replace h := (if_neg h_75).symm.trans h
        refine a_iload_n X dX8_spoils_78 rfl ?_
        refine a_iload X dX8_spoils_79 rfl ?_
        refine a_iload_n X dX8_spoils_81 rfl ?_
        refine a_icmp_eq (tgt := 108) X dX8_spoils_82 (by decide) (fun h_82 => ?_) (fun h_82 => ?_)
        · replace h := (if_pos h_82).symm.trans h
          exact Zw.to2 (J_108 _ _ _ _ _ _ _ h) rfl rfl rfl
        · replace h := (if_neg h_82).symm.trans h
          refine a_aload_n X dX8_spoils_85 rfl ?_
          refine a_iload X dX8_spoils_86 rfl ?_
          obtain ⟨e_88, f_88, h⟩ := zBx h
          refine a_callVv X dX8_spoils_88 miX8_placeNow lm8_379 (t_X8_placeNow (by assumption) f_88) (by assumption) rfl rfl rfl (Nat.le_of_ble_eq_true rfl) ⟨by decide, by decide, by decide, by decide⟩ ?_
          refine a_aload_n X dX8_spoils_91 rfl ?_
          refine a_getr X lf8_85 (by assumption) rfl (by omega) dX8_spoils_92 ?_
          refine a_iload X dX8_spoils_95 rfl ?_
          obtain ⟨g_97, h⟩ := zIx h
          refine a_iaload X (by assumption) g_97 dX8_spoils_97 ?_
          refine a_icmp_ge (tgt := 108) X dX8_spoils_98 (by decide) (fun h_98 => ?_) (fun h_98 => ?_)
          · replace h := (if_pos h_98).symm.trans h
            exact Zw.to2 (J_108 _ _ _ _ _ _ _ h) rfl rfl rfl
          · replace h := (if_neg h_98).symm.trans h
            refine a_iconst (v := 1) X dX8_spoils_101 (by decide) ?_
            refine a_iload X dX8_spoils_102 rfl ?_
            refine a_ishl X dX8_spoils_104 ?_
            refine a_goto (tgt := 109) X dX8_spoils_105 (by decide) ?_
            exact Zw.to2 (J_109 _ _ _ _ _ _ _ _ h) rfl rfl rfl
  have H_69 : ∀ (x1_69 : Int32) (x2_69 : Int32) (x3_69 : Int32) (x4_69 : Int32) (M_69 : zMt) (N_69 : zNt), D_X8_spoils_69 P zFu x2_69 x3_69 x4_69 M_69 N_69 = some r → Zw p l e { frames := 5, cells := 0, slots := 0, locals := 80 * (5) } s m args below meth c G b 5 (MQ below (zQ G b FQ) args s 0 0 (fun q : Nat => b ≤ q)) 0 0 69 [some (.ref (P)), some (.int x1_69), some (.int x2_69), some (.int x3_69), some (.int x4_69)] [] (L, M_69, N_69) := L_69 zFu
  have L_34 : ∀ u : Nat, ∀ (x1_34 : Int32) (x2_34 : Int32) (x3_34 : Int32) (x4_34 : Option Value) (M_34 : zMt) (N_34 : zNt), D_X8_spoils_34 P u x2_34 x3_34 M_34 N_34 = some r → Zw p l e { frames := 5, cells := 0, slots := 0, locals := 80 * (5) } s m args below meth c G b 5 (MQ below (zQ G b FQ) args s 0 0 (fun q : Nat => b ≤ q)) 0 0 34 [some (.ref (P)), some (.int x1_34), some (.int x2_34), some (.int x3_34), x4_34] [] (L, M_34, N_34) := by
    intro u
    induction u with
    | zero => intro x1_34 x2_34 x3_34 x4_34 M_34 N_34 h; cases (show none = some r from h)
    | succ u_34 ih_34 =>
      intro x1_34 x2_34 x3_34 x4_34 M_34 N_34 h
      rw [D_X8_spoils_34] at h
      refine a_iload_n X dX8_spoils_34 rfl ?_
      refine a_aload_n X dX8_spoils_35 rfl ?_
      refine a_geti X lf8_275 (by assumption) rfl dX8_spoils_36 ?_
      refine a_icmp_ge (tgt := 59) X dX8_spoils_39 (by decide) (fun h_39 => ?_) (fun h_39 => ?_)
      · replace h := (if_pos h_39).symm.trans h
        refine a_aload_n X dX8_spoils_59 rfl ?_
        refine a_iload_n X dX8_spoils_60 rfl ?_
        obtain ⟨e_61, f_61, h⟩ := zBx h
        refine a_callVu X dX8_spoils_61 miX8_results lm8_355 (t_X8_results (by assumption) f_61) (by assumption) rfl rfl rfl (Nat.le_of_ble_eq_true rfl) ⟨by decide, by decide, by decide, by decide⟩ ?_
        refine a_iconst (v := 0) X dX8_spoils_64 (by decide) ?_
        refine a_istore_n X dX8_spoils_65 (by decide) ?_
        refine a_iconst (v := 0) X dX8_spoils_66 (by decide) ?_
        refine a_istore X dX8_spoils_67 (by decide) ?_
        exact Zw.to2 (H_69 _ _ _ _ _ _ h) rfl rfl rfl
      · replace h := (if_neg h_39).symm.trans h
        refine a_aload_n X dX8_spoils_42 rfl ?_
        refine a_getr X lf8_85 (by assumption) rfl (by omega) dX8_spoils_43 ?_
        refine a_iload_n X dX8_spoils_46 rfl ?_
        refine a_aload_n X dX8_spoils_47 rfl ?_
        refine a_iload_n X dX8_spoils_48 rfl ?_
        obtain ⟨e_49, f_49, h⟩ := zBx h
        refine a_callVv X dX8_spoils_49 miX8_placeNow lm8_379 (t_X8_placeNow (by assumption) f_49) (by assumption) rfl rfl rfl (Nat.le_of_ble_eq_true rfl) ⟨by decide, by decide, by decide, by decide⟩ ?_
        obtain ⟨g_52, h⟩ := zIx h
        obtain ⟨M_52, f_52, h⟩ := zLtx h
        refine d_iastore X (by assumption) g_52 dX8_spoils_52 f_52 ?_
        refine a_iinc (v := x3_34 + 1) X dX8_spoils_53 (by decide) rfl zi_1 ?_
        refine a_goto (tgt := 34) X dX8_spoils_56 (by decide) ?_
        exact Zw.to2 (ih_34 _ _ _ _ _ _ h) rfl rfl rfl
  have H_34 : ∀ (x1_34 : Int32) (x2_34 : Int32) (x3_34 : Int32) (x4_34 : Option Value) (M_34 : zMt) (N_34 : zNt), D_X8_spoils_34 P zFu x2_34 x3_34 M_34 N_34 = some r → Zw p l e { frames := 5, cells := 0, slots := 0, locals := 80 * (5) } s m args below meth c G b 5 (MQ below (zQ G b FQ) args s 0 0 (fun q : Nat => b ≤ q)) 0 0 34 [some (.ref (P)), some (.int x1_34), some (.int x2_34), some (.int x3_34), x4_34] [] (L, M_34, N_34) := L_34 zFu
  unfold D_X8_spoils at h
  refine a_iload_n X dX8_spoils_0 rfl ?_
  obtain ⟨e_1, f_1, h⟩ := zBx h
  refine a_callSx X dX8_spoils_1 miX8_isSeed lm8_358 (t_X8_isSeed f_1) rfl rfl (Nat.le_of_ble_eq_true rfl) ⟨by decide, by decide, by decide, by decide⟩ (fun r_1 S_1 q_1 => ?_)
  obtain ⟨rfl, rfl, b_1⟩ := q_1
  refine a_if_ne (tgt := 13) X dX8_spoils_4 (by decide) (fun h_4 => ?_) (fun h_4 => ?_)
  · replace h := (if_neg h_4).symm.trans h
    refine a_aload_n X dX8_spoils_13 rfl ?_
    refine a_iload_n X dX8_spoils_14 rfl ?_
    obtain ⟨e_15, f_15, h⟩ := zBx h
    refine a_callVx X dX8_spoils_15 miX8_isApplicant lm8_315 (t_X8_isApplicant (by assumption) f_15) (by assumption) rfl rfl rfl (Nat.le_of_ble_eq_true rfl) ⟨by decide, by decide, by decide, by decide⟩ (fun r_15 S_15 q_15 => ?_)
    obtain ⟨rfl, rfl, b_15⟩ := q_15
    refine a_if_ne (tgt := 27) X dX8_spoils_18 (by decide) (fun h_18 => ?_) (fun h_18 => ?_)
    · replace h := (if_neg h_18).symm.trans h
      refine a_aload_n X dX8_spoils_27 rfl ?_
      refine a_iload_n X dX8_spoils_28 rfl ?_
      obtain ⟨e_29, f_29, h⟩ := zBx h
      refine a_callVu X dX8_spoils_29 miX8_laysResult lm8_361 (t_X8_laysResult (by assumption) f_29) (by assumption) rfl rfl rfl (Nat.le_of_ble_eq_true rfl) ⟨by decide, by decide, by decide, by decide⟩ ?_
      refine a_iconst (v := 0) X dX8_spoils_32 (by decide) ?_
      refine a_istore_n X dX8_spoils_33 (by decide) ?_
      exact Zw.to2 (H_34 _ _ _ _ _ _ h) rfl rfl rfl
    · replace h := (if_pos h_18).symm.trans h
      refine a_aload_n X dX8_spoils_21 rfl ?_
      refine a_iconst (v := 2) X dX8_spoils_22 (by decide) ?_
      obtain ⟨e_23, f_23, h⟩ := zBx h
      refine a_callVv X dX8_spoils_23 miX8_refuse lm8_263 (t_X8_refuse (by assumption) f_23) (by assumption) rfl rfl rfl (Nat.le_of_ble_eq_true rfl) ⟨by decide, by decide, by decide, by decide⟩ ?_
      refine a_iret X hr dX8_spoils_26 ⟨by decide, by decide⟩ ?_
      subst hF
      rw [← Option.some.inj h]
      exact ⟨rfl, rfl⟩
  · replace h := (if_pos h_4).symm.trans h
    refine a_aload_n X dX8_spoils_7 rfl ?_
    refine a_iconst (v := 1) X dX8_spoils_8 (by decide) ?_
    obtain ⟨e_9, f_9, h⟩ := zBx h
    refine a_callVv X dX8_spoils_9 miX8_refuse lm8_263 (t_X8_refuse (by assumption) f_9) (by assumption) rfl rfl rfl (Nat.le_of_ble_eq_true rfl) ⟨by decide, by decide, by decide, by decide⟩ ?_
    refine a_iret X hr dX8_spoils_12 ⟨by decide, by decide⟩ ?_
    subst hF
    rw [← Option.some.inj h]
    exact ⟨rfl, rfl⟩
