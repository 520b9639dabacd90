noncomputable def D_X8_likes_78 (P : Nat) (k40 : Int32 → Int32 → Int64 → Int32 → zMt → zNt → Option (Int32 × zMt × zNt)) (x1_78 : Int32) (x2_78 : Int32) (x3_78 : Int64) (x5_78 : Int32) (M_78 : zMt) (N_78 : zNt) : Option (Int32 × zMt × zNt) :=
  k40 x1_78 x2_78 x3_78 (x5_78 + 1) M_78 N_78
noncomputable def D_X8_likes_40 (P : Nat) : Nat → Int32 → Int32 → Int64 → Int32 → zMt → zNt → Option (Int32 × zMt × zNt)
  | 0, _, _, _, _, _, _ => none
  | n + 1, x1_40, x2_40, x3_40, x5_40, M_40, N_40 =>
    if (3 : Int32) ≤ x5_40 then
      zB (D_X8_takesBack P M_40) fun e_85 =>
      zB (D_X8_gives P x2_40 e_85) fun e_90 =>
      some (e_90.1, e_90.2, N_40)
    else
      zI (67 : Int32) 82 <|
      zLt (zu M_40 (P + 1) (67 : Int32).toNatClampNeg x5_40) fun M_54 =>
      zB (D_X8_laysAll P M_54 N_40) fun e_56 =>
      zB (D_X8_chanceOf P e_56.1 e_56.2 x1_40) fun e_61 =>
      if (lg_cmp e_61 x3_40) ≤ 0 then
        D_X8_likes_78 P (D_X8_likes_40 P n) x1_40 x2_40 x3_40 x5_40 e_56.1 e_56.2
      else
        zB (D_X8_chanceOf P e_56.1 e_56.2 x1_40) fun e_74 =>
        D_X8_likes_78 P (D_X8_likes_40 P n) x1_40 x5_40 e_74 x5_40 e_56.1 e_56.2
noncomputable def D_X8_likes (P : Nat) (v0 : Int32) (M : zMt) (N : zNt) : Option (Int32 × zMt × zNt) :=
  zB (D_X8_isApplicant P v0 M) fun e_2 =>
  if e_2.1 = 0 then
    zB (D_X8_refuse P (2 : Int32) e_2.2) fun e_10 =>
    some (e_10.1, e_10.2, N)
  else
    zB (D_X8_areMany P e_2.2) fun e_15 =>
    if e_15.1 = 0 then
      zB (D_X8_putsAside P e_15.2) fun e_28 =>
      D_X8_likes_40 P zFu v0 (-1 : Int32) (-1 : Int64) (0 : Int32) e_28 N
    else
      zB (D_X8_refuse P (3 : Int32) e_15.2) fun e_23 =>
      some (e_23.1, e_23.2, N)
set_option maxRecDepth 100000 in
set_option maxHeartbeats 4000000 in
theorem t_X8_likes {l : Launch} {G : zG} {b : Nat} {L : List zC} {M : zMt} {N : zNt} {P : Nat} {v0 : Int32} (hP : LX8 L P) {r : Int32 × zMt × zNt} (h : D_X8_likes P v0 M N = some r) : zM l G b yX8_likes cX8_likes 6 (some .int) 14 0 0 [.ref P, .int v0] (L, M, N) (fun r2 z => r2 = some (.int r.1) ∧ z = (L, r.2.1, r.2.2)) := by
  refine zM.of miX8_likes (Nat.le_of_ble_eq_true rfl) ?_
  intro p e s m args below meth c X hr hname
  generalize hF : ((fun r2 z => r2 = some (.int r.1) ∧ z = (L, r.2.1, r.2.2)) : Option Value → zS → Prop) = FQ
  change Zw p l e { frames := 14, cells := 0, slots := 0, locals := 80 * (14) } s m args below meth c G b 6 (MQ below (zQ G b FQ) args s 0 0 (fun q : Nat => b ≤ q)) 0 0 0 [some (.ref P), some (.int v0), none, none, none, none] [] (L, M, N)
  obtain ⟨p_lt, p_o, p_s, p_read, p_aside, p_kept, p_guest, p_readGuest, p_tape, p_unitName, p_hunterName, p_partyName, p_bits, p_partyOf, p_choiceAt, p_sizes, p_guestMany, p_pointsOf, p_ticketsOf, p_ord, p_given, p_roundOf, p_tags, p_guestTags, p_places, p_sumAt, p_sumFirst, p_sumRound, p_sumBoth, p_sumTags, p_isEnd, p_newPoints, p_inRow, p_out⟩ := id hP
  have L_40 : ∀ u : Nat, ∀ (x1_40 : Int32) (x2_40 : Int32) (x3_40 : Int64) (x5_40 : Int32) (M_40 : zMt) (N_40 : zNt), D_X8_likes_40 P u x1_40 x2_40 x3_40 x5_40 M_40 N_40 = some r → Zw p l e { frames := 14, cells := 0, slots := 0, locals := 80 * (14) } s m args below meth c G b 6 (MQ below (zQ G b FQ) args s 0 0 (fun q : Nat => b ≤ q)) 0 0 40 [some (.ref (P)), some (.int x1_40), some (.int x2_40), some (.long x3_40), none, some (.int x5_40)] [] (L, M_40, N_40) := by
    intro u
    induction u with
    | zero => intro x1_40 x2_40 x3_40 x5_40 M_40 N_40 h; cases (show none = some r from h)
    | succ u_40 ih_40 =>
      have J_78 : ∀ (x1_78 : Int32) (x2_78 : Int32) (x3_78 : Int64) (x5_78 : Int32) (M_78 : zMt) (N_78 : zNt), D_X8_likes_78 P (D_X8_likes_40 P u_40) x1_78 x2_78 x3_78 x5_78 M_78 N_78 = some r → Zw p l e { frames := 14, cells := 0, slots := 0, locals := 80 * (14) } s m args below meth c G b 6 (MQ below (zQ G b FQ) args s 0 0 (fun q : Nat => b ≤ q)) 0 0 78 [some (.ref (P)), some (.int x1_78), some (.int x2_78), some (.long x3_78), none, some (.int x5_78)] [] (L, M_78, N_78) := by
        intro x1_78 x2_78 x3_78 x5_78 M_78 N_78 h
        unfold D_X8_likes_78 at h
        refine a_iinc (v := x5_78 + 1) X dX8_likes_78 (by decide) rfl zi_1 ?_
        refine a_goto (tgt := 40) X dX8_likes_81 (by decide) ?_
        exact Zw.to2 (ih_40 _ _ _ _ _ _ h) rfl rfl rfl
      intro x1_40 x2_40 x3_40 x5_40 M_40 N_40 h
      rw [D_X8_likes_40] at h
      refine a_iload X dX8_likes_40 rfl ?_
      refine a_iconst (v := 3) X dX8_likes_42 (by decide) ?_
      refine a_icmp_ge (tgt := 84) X dX8_likes_43 (by decide) (fun h_43 => ?_) (fun h_43 => ?_)
      · replace h := (if_pos h_43).symm.trans h
        refine a_aload_n X dX8_likes_84 rfl ?_
        obtain ⟨e_85, f_85, h⟩ := zBx h
        refine a_callVu X dX8_likes_85 miX8_takesBack lm8_449 (t_X8_takesBack (by assumption) f_85) (by assumption) rfl rfl rfl (Nat.le_of_ble_eq_true rfl) ⟨by decide, by decide, by decide, by decide⟩ ?_
        refine a_aload_n X dX8_likes_88 rfl ?_
        refine a_iload_n X dX8_likes_89 rfl ?_
        obtain ⟨e_90, f_90, h⟩ := zBx h
        refine a_callVv X dX8_likes_90 miX8_gives lm8_272 (t_X8_gives (by assumption) f_90) (by assumption) rfl rfl rfl (Nat.le_of_ble_eq_true rfl) ⟨by decide, by decide, by decide, by decide⟩ ?_
        refine a_iret X hr dX8_likes_93 ⟨by decide, by decide⟩ ?_
        subst hF
        rw [← Option.some.inj h]
        exact ⟨rfl, rfl⟩
      · replace h := (if_neg h_43).symm.trans h
        refine a_aload_n X dX8_likes_46 rfl ?_
        refine a_getr X lf8_7 (by assumption) rfl (by omega) dX8_likes_47 ?_
        refine a_bipush (v := 67) X dX8_likes_50 (by decide) ?_
        refine a_iload X dX8_likes_52 rfl ?_
        obtain ⟨g_54, h⟩ := zIx h
        obtain ⟨M_54, f_54, h⟩ := zLtx h
        refine d_iastore X (by assumption) g_54 dX8_likes_54 f_54 ?_
        refine a_aload_n X dX8_likes_55 rfl ?_
        obtain ⟨e_56, f_56, h⟩ := zBx h
        refine a_callVu X dX8_likes_56 miX8_laysAll lm8_432 (t_X8_laysAll (by assumption) f_56) (by assumption) rfl rfl rfl (Nat.le_of_ble_eq_true rfl) ⟨by decide, by decide, by decide, by decide⟩ ?_
        refine a_aload_n X dX8_likes_59 rfl ?_
        refine a_iload_n X dX8_likes_60 rfl ?_
        obtain ⟨e_61, f_61, h⟩ := zBx h
        refine a_callVv X dX8_likes_61 miX8_chanceOf lm8_435 (t_X8_chanceOf (by assumption) f_61) (by assumption) rfl rfl rfl (Nat.le_of_ble_eq_true rfl) ⟨by decide, by decide, by decide, by decide⟩ ?_
        refine a_lload_n X dX8_likes_64 rfl ?_
        refine a_lcmp X dX8_likes_65 ?_
        refine a_if_le (tgt := 78) X dX8_likes_66 (by decide) (fun h_66 => ?_) (fun h_66 => ?_)
        · replace h := (if_pos h_66).symm.trans h
          exact Zw.to2 (J_78 _ _ _ _ _ _ h) rfl rfl rfl
        · replace h := (if_neg h_66).symm.trans h
          refine a_iload X dX8_likes_69 rfl ?_
          refine a_istore_n X dX8_likes_71 (by decide) ?_
          refine a_aload_n X dX8_likes_72 rfl ?_
          refine a_iload_n X dX8_likes_73 rfl ?_
          obtain ⟨e_74, f_74, h⟩ := zBx h
          refine a_callVv X dX8_likes_74 miX8_chanceOf lm8_435 (t_X8_chanceOf (by assumption) f_74) (by assumption) rfl rfl rfl (Nat.le_of_ble_eq_true rfl) ⟨by decide, by decide, by decide, by decide⟩ ?_
          refine a_lstore_n X dX8_likes_77 (by decide) ?_
          exact Zw.to2 (J_78 _ _ _ _ _ _ h) rfl rfl rfl
  have H_40 : ∀ (x1_40 : Int32) (x2_40 : Int32) (x3_40 : Int64) (x5_40 : Int32) (M_40 : zMt) (N_40 : zNt), D_X8_likes_40 P zFu x1_40 x2_40 x3_40 x5_40 M_40 N_40 = some r → Zw p l e { frames := 14, cells := 0, slots := 0, locals := 80 * (14) } s m args below meth c G b 6 (MQ below (zQ G b FQ) args s 0 0 (fun q : Nat => b ≤ q)) 0 0 40 [some (.ref (P)), some (.int x1_40), some (.int x2_40), some (.long x3_40), none, some (.int x5_40)] [] (L, M_40, N_40) := L_40 zFu
  unfold D_X8_likes at h
  refine a_aload_n X dX8_likes_0 rfl ?_
  refine a_iload_n X dX8_likes_1 rfl ?_
  obtain ⟨e_2, f_2, h⟩ := zBx h
  refine a_callVx X dX8_likes_2 miX8_isApplicant lm8_315 (t_X8_isApplicant (by assumption) f_2) (by assumption) rfl rfl rfl (Nat.le_of_ble_eq_true rfl) ⟨by decide, by decide, by decide, by decide⟩ (fun r_2 S_2 q_2 => ?_)
  obtain ⟨rfl, rfl, b_2⟩ := q_2
  refine a_if_ne (tgt := 14) X dX8_likes_5 (by decide) (fun h_5 => ?_) (fun h_5 => ?_)
  · replace h := (if_neg h_5).symm.trans h
    refine a_aload_n X dX8_likes_14 rfl ?_
    obtain ⟨e_15, f_15, h⟩ := zBx h
    refine a_callVx X dX8_likes_15 miX8_areMany lm8_429 (t_X8_areMany (by assumption) f_15) (by assumption) rfl rfl rfl (Nat.le_of_ble_eq_true rfl) ⟨by decide, by decide, by decide, by decide⟩ (fun r_15 S_15 q_15 => ?_)
    obtain ⟨rfl, rfl, b_15⟩ := q_15
    refine a_if_eq (tgt := 27) X dX8_likes_18 (by decide) (fun h_18 => ?_) (fun h_18 => ?_)
    · replace h := (if_pos h_18).symm.trans h
      refine a_aload_n X dX8_likes_27 rfl ?_
      obtain ⟨e_28, f_28, h⟩ := zBx h
      refine a_callVu X dX8_likes_28 miX8_putsAside lm8_444 (t_X8_putsAside (by assumption) f_28) (by assumption) rfl rfl rfl (Nat.le_of_ble_eq_true rfl) ⟨by decide, by decide, by decide, by decide⟩ ?_
      refine a_iconst (v := -1) X dX8_likes_31 (by decide) ?_
      refine a_istore_n X dX8_likes_32 (by decide) ?_
      refine a_ldc2 X dX8_likes_33 lk8_452 ?_
      refine a_lstore_n X dX8_likes_36 (by decide) ?_
      refine a_iconst (v := 0) X dX8_likes_37 (by decide) ?_
      refine a_istore X dX8_likes_38 (by decide) ?_
      exact Zw.to2 (H_40 _ _ _ _ _ _ h) rfl rfl rfl
    · replace h := (if_neg h_18).symm.trans h
      refine a_aload_n X dX8_likes_21 rfl ?_
      refine a_iconst (v := 3) X dX8_likes_22 (by decide) ?_
      obtain ⟨e_23, f_23, h⟩ := zBx h
      refine a_callVv X dX8_likes_23 miX8_refuse lm8_263 (t_X8_refuse (by assumption) f_23) (by assumption) rfl rfl rfl (Nat.le_of_ble_eq_true rfl) ⟨by decide, by decide, by decide, by decide⟩ ?_
      refine a_iret X hr dX8_likes_26 ⟨by decide, by decide⟩ ?_
      subst hF
      rw [← Option.some.inj h]
      exact ⟨rfl, rfl⟩
  · replace h := (if_pos h_5).symm.trans h
    refine a_aload_n X dX8_likes_8 rfl ?_
    refine a_iconst (v := 2) X dX8_likes_9 (by decide) ?_
    obtain ⟨e_10, f_10, h⟩ := zBx h
    refine a_callVv X dX8_likes_10 miX8_refuse lm8_263 (t_X8_refuse (by assumption) f_10) (by assumption) rfl rfl rfl (Nat.le_of_ble_eq_true rfl) ⟨by decide, by decide, by decide, by decide⟩ ?_
    refine a_iret X hr dX8_likes_13 ⟨by decide, by decide⟩ ?_
    subst hF
    rw [← Option.some.inj h]
    exact ⟨rfl, rfl⟩
noncomputable def D_X8_goesYear_34 (P : Nat) : Nat → Int32 → zMt → zNt → Option (zMt × zNt)
  | 0, _, _, _ => none
  | n + 1, x2_34, M_34, N_34 =>
    if (M_34 P 8) ≤ x2_34 then
      some (M_34, N_34)
    else
      zI x2_34 10 <|
      zI ((0 : Int32) + x2_34) 82 <|
      zLt (zu M_34 (P + 1) ((0 : Int32) + x2_34).toNatClampNeg (M_34 (P + 30) x2_34.toNatClampNeg)) fun M_55 =>
      (D_X8_goesYear_34 P n) (x2_34 + 1) M_55 N_34
noncomputable def D_X8_goesYear_7 (P : Nat) : Nat → Int32 → zMt → zNt → Option (zMt × zNt)
  | 0, _, _, _ => none
  | n + 1, x2_7, M_7, N_7 =>
    if (M_7 P 8) ≤ x2_7 then
      D_X8_goesYear_34 P zFu (0 : Int32) M_7 N_7
    else
      zB (D_X8_behindNow P M_7 x2_7) fun e_22 =>
      zI x2_7 10 <|
      zLt (zu M_7 (P + 30) x2_7.toNatClampNeg e_22) fun M_25 =>
      (D_X8_goesYear_7 P n) (x2_7 + 1) M_25 N_7
noncomputable def D_X8_goesYear (P : Nat) (v0 : Int32) (M : zMt) (N : zNt) : Option (zMt × zNt) :=
  zB (D_X8_laysResult P v0 M N) fun e_2 =>
  D_X8_goesYear_7 P zFu (0 : Int32) e_2.1 e_2.2
set_option maxRecDepth 100000 in
set_option maxHeartbeats 4000000 in
theorem t_X8_goesYear {l : Launch} {G : zG} {b : Nat} {L : List zC} {M : zMt} {N : zNt} {P : Nat} {v0 : Int32} (hP : LX8 L P) {r : zMt × zNt} (h : D_X8_goesYear P v0 M N = some r) : zM l G b yX8_goesYear cX8_goesYear 3 none 5 0 0 [.ref P, .int v0] (L, M, N) (fun r2 z => r2 = none ∧ z = (L, r.1, r.2)) := by
  refine zM.of miX8_goesYear (Nat.le_of_ble_eq_true rfl) ?_
  intro p e s m args below meth c X hr hname
  generalize hF : ((fun r2 z => r2 = none ∧ z = (L, r.1, r.2)) : Option Value → zS → Prop) = FQ
  change Zw p l e { frames := 5, cells := 0, slots := 0, locals := 80 * (5) } s m args below meth c G b 3 (MQ below (zQ G b FQ) args s 0 0 (fun q : Nat => b ≤ q)) 0 0 0 [some (.ref P), some (.int v0), none] [] (L, M, N)
  obtain ⟨p_lt, p_o, p_s, p_read, p_aside, p_kept, p_guest, p_readGuest, p_tape, p_unitName, p_hunterName, p_partyName, p_bits, p_partyOf, p_choiceAt, p_sizes, p_guestMany, p_pointsOf, p_ticketsOf, p_ord, p_given, p_roundOf, p_tags, p_guestTags, p_places, p_sumAt, p_sumFirst, p_sumRound, p_sumBoth, p_sumTags, p_isEnd, p_newPoints, p_inRow, p_out⟩ := id hP
  have L_34 : ∀ u : Nat, ∀ (x1_34 : Int32) (x2_34 : Int32) (M_34 : zMt) (N_34 : zNt), D_X8_goesYear_34 P u x2_34 M_34 N_34 = some r → Zw p l e { frames := 5, cells := 0, slots := 0, locals := 80 * (5) } s m args below meth c G b 3 (MQ below (zQ G b FQ) args s 0 0 (fun q : Nat => b ≤ q)) 0 0 34 [some (.ref (P)), some (.int x1_34), some (.int x2_34)] [] (L, M_34, N_34) := by
    intro u
    induction u with
    | zero => intro x1_34 x2_34 M_34 N_34 h; cases (show none = some r from h)
    | succ u_34 ih_34 =>
      intro x1_34 x2_34 M_34 N_34 h
      rw [D_X8_goesYear_34] at h
      refine a_iload_n X dX8_goesYear_34 rfl ?_
      refine a_aload_n X dX8_goesYear_35 rfl ?_
      refine a_geti X lf8_132 (by assumption) rfl dX8_goesYear_36 ?_
      refine a_icmp_ge (tgt := 62) X dX8_goesYear_39 (by decide) (fun h_39 => ?_) (fun h_39 => ?_)
      · replace h := (if_pos h_39).symm.trans h
        refine a_vret X hr dX8_goesYear_62 ⟨by decide, by decide⟩ ?_
        subst hF
        rw [← Option.some.inj h]
        exact ⟨rfl, rfl⟩
      · replace h := (if_neg h_39).symm.trans h
        refine a_aload_n X dX8_goesYear_42 rfl ?_
        refine a_getr X lf8_7 (by assumption) rfl (by omega) dX8_goesYear_43 ?_
        refine a_iconst (v := 0) X dX8_goesYear_46 (by decide) ?_
        refine a_iload_n X dX8_goesYear_47 rfl ?_
        refine a_iadd X dX8_goesYear_48 ?_
        refine a_aload_n X dX8_goesYear_49 rfl ?_
        refine a_getr X lf8_106 (by assumption) rfl (by omega) dX8_goesYear_50 ?_
        refine a_iload_n X dX8_goesYear_53 rfl ?_
        obtain ⟨g_54, h⟩ := zIx h
        refine a_iaload X (by assumption) g_54 dX8_goesYear_54 ?_
        obtain ⟨g_55, h⟩ := zIx h
        obtain ⟨M_55, f_55, h⟩ := zLtx h
        refine d_iastore X (by assumption) g_55 dX8_goesYear_55 f_55 ?_
        refine a_iinc (v := x2_34 + 1) X dX8_goesYear_56 (by decide) rfl zi_1 ?_
        refine a_goto (tgt := 34) X dX8_goesYear_59 (by decide) ?_
        exact Zw.to2 (ih_34 _ _ _ _ h) rfl rfl rfl
  have H_34 : ∀ (x1_34 : Int32) (x2_34 : Int32) (M_34 : zMt) (N_34 : zNt), D_X8_goesYear_34 P zFu x2_34 M_34 N_34 = some r → Zw p l e { frames := 5, cells := 0, slots := 0, locals := 80 * (5) } s m args below meth c G b 3 (MQ below (zQ G b FQ) args s 0 0 (fun q : Nat => b ≤ q)) 0 0 34 [some (.ref (P)), some (.int x1_34), some (.int x2_34)] [] (L, M_34, N_34) := L_34 zFu
  have L_7 : ∀ u : Nat, ∀ (x1_7 : Int32) (x2_7 : Int32) (M_7 : zMt) (N_7 : zNt), D_X8_goesYear_7 P u x2_7 M_7 N_7 = some r → Zw p l e { frames := 5, cells := 0, slots := 0, locals := 80 * (5) } s m args below meth c G b 3 (MQ below (zQ G b FQ) args s 0 0 (fun q : Nat => b ≤ q)) 0 0 7 [some (.ref (P)), some (.int x1_7), some (.int x2_7)] [] (L, M_7, N_7) := by
    intro u
    induction u with
    | zero => intro x1_7 x2_7 M_7 N_7 h; cases (show none = some r from h)
    | succ u_7 ih_7 =>
      intro x1_7 x2_7 M_7 N_7 h
      rw [D_X8_goesYear_7] at h
      refine a_iload_n X dX8_goesYear_7 rfl ?_
      refine a_aload_n X dX8_goesYear_8 rfl ?_
      refine a_geti X lf8_132 (by assumption) rfl dX8_goesYear_9 ?_
      refine a_icmp_ge (tgt := 32) X dX8_goesYear_12 (by decide) (fun h_12 => ?_) (fun h_12 => ?_)
      · replace h := (if_pos h_12).symm.trans h
        refine a_iconst (v := 0) X dX8_goesYear_32 (by decide) ?_
        refine a_istore_n X dX8_goesYear_33 (by decide) ?_
        exact Zw.to2 (H_34 _ _ _ _ h) rfl rfl rfl
      · replace h := (if_neg h_12).symm.trans h
        refine a_aload_n X dX8_goesYear_15 rfl ?_
        refine a_getr X lf8_106 (by assumption) rfl (by omega) dX8_goesYear_16 ?_
        refine a_iload_n X dX8_goesYear_19 rfl ?_
        refine a_aload_n X dX8_goesYear_20 rfl ?_
        refine a_iload_n X dX8_goesYear_21 rfl ?_
        obtain ⟨e_22, f_22, h⟩ := zBx h
        refine a_callVv X dX8_goesYear_22 miX8_behindNow lm8_382 (t_X8_behindNow (by assumption) f_22) (by assumption) rfl rfl rfl (Nat.le_of_ble_eq_true rfl) ⟨by decide, by decide, by decide, by decide⟩ ?_
        obtain ⟨g_25, h⟩ := zIx h
        obtain ⟨M_25, f_25, h⟩ := zLtx h
        refine d_iastore X (by assumption) g_25 dX8_goesYear_25 f_25 ?_
        refine a_iinc (v := x2_7 + 1) X dX8_goesYear_26 (by decide) rfl zi_1 ?_
        refine a_goto (tgt := 7) X dX8_goesYear_29 (by decide) ?_
        exact Zw.to2 (ih_7 _ _ _ _ h) rfl rfl rfl
  have H_7 : ∀ (x1_7 : Int32) (x2_7 : Int32) (M_7 : zMt) (N_7 : zNt), D_X8_goesYear_7 P zFu x2_7 M_7 N_7 = some r → Zw p l e { frames := 5, cells := 0, slots := 0, locals := 80 * (5) } s m args below meth c G b 3 (MQ below (zQ G b FQ) args s 0 0 (fun q : Nat => b ≤ q)) 0 0 7 [some (.ref (P)), some (.int x1_7), some (.int x2_7)] [] (L, M_7, N_7) := L_7 zFu
  unfold D_X8_goesYear at h
  refine a_aload_n X dX8_goesYear_0 rfl ?_
  refine a_iload_n X dX8_goesYear_1 rfl ?_
  obtain ⟨e_2, f_2, h⟩ := zBx h
  refine a_callVu X dX8_goesYear_2 miX8_laysResult lm8_361 (t_X8_laysResult (by assumption) f_2) (by assumption) rfl rfl rfl (Nat.le_of_ble_eq_true rfl) ⟨by decide, by decide, by decide, by decide⟩ ?_
  refine a_iconst (v := 0) X dX8_goesYear_5 (by decide) ?_
  refine a_istore_n X dX8_goesYear_6 (by decide) ?_
  exact Zw.to2 (H_7 _ _ _ _ h) rfl rfl rfl
noncomputable def D_X8_unitNow_2 (P : Nat) (M : zMt) : Nat → Int32 → Int32 → Option (Int32)
  | 0, _, _ => none
  | n + 1, x1_2, x2_2 =>
    zI x2_2 10 <|
    zB (D_X8_has (M (P + 11) x2_2.toNatClampNeg) x1_2) fun e_9 =>
    if e_9 = 0 then
      (D_X8_unitNow_2 P M n) x1_2 (x2_2 + 1)
    else
      zI x2_2 10 <|
      some ((M (P + 19) x2_2.toNatClampNeg))
noncomputable def D_X8_unitNow (P : Nat) (M : zMt) (v0 : Int32) : Option (Int32) :=
  D_X8_unitNow_2 P M zFu v0 (0 : Int32)
set_option maxRecDepth 100000 in
set_option maxHeartbeats 4000000 in
theorem t_X8_unitNow {l : Launch} {G : zG} {b : Nat} {L : List zC} {M : zMt} {N : zNt} {P : Nat} {v0 : Int32} (hP : LX8 L P) {r : Int32} (h : D_X8_unitNow P M v0 = some r) : zM l G b yX8_unitNow cX8_unitNow 3 (some .int) 1 0 0 [.ref P, .int v0] (L, M, N) (fun r2 z => r2 = some (.int r) ∧ z = (L, M, N)) := by
  refine zM.of miX8_unitNow (Nat.le_of_ble_eq_true rfl) ?_
  intro p e s m args below meth c X hr hname
  generalize hF : ((fun r2 z => r2 = some (.int r) ∧ z = (L, M, N)) : Option Value → zS → Prop) = FQ
  change Zw p l e { frames := 1, cells := 0, slots := 0, locals := 80 * (1) } s m args below meth c G b 3 (MQ below (zQ G b FQ) args s 0 0 (fun q : Nat => b ≤ q)) 0 0 0 [some (.ref P), some (.int v0), none] [] (L, M, N)
  obtain ⟨p_lt, p_o, p_s, p_read, p_aside, p_kept, p_guest, p_readGuest, p_tape, p_unitName, p_hunterName, p_partyName, p_bits, p_partyOf, p_choiceAt, p_sizes, p_guestMany, p_pointsOf, p_ticketsOf, p_ord, p_given, p_roundOf, p_tags, p_guestTags, p_places, p_sumAt, p_sumFirst, p_sumRound, p_sumBoth, p_sumTags, p_isEnd, p_newPoints, p_inRow, p_out⟩ := id hP
  have L_2 : ∀ u : Nat, ∀ (x1_2 : Int32) (x2_2 : Int32), D_X8_unitNow_2 P M u x1_2 x2_2 = some r → Zw p l e { frames := 1, cells := 0, slots := 0, locals := 80 * (1) } s m args below meth c G b 3 (MQ below (zQ G b FQ) args s 0 0 (fun q : Nat => b ≤ q)) 0 0 2 [some (.ref (P)), some (.int x1_2), some (.int x2_2)] [] (L, M, N) := by
    intro u
    induction u with
    | zero => intro x1_2 x2_2 h; cases (show none = some r from h)
    | succ u_2 ih_2 =>
      intro x1_2 x2_2 h
      rw [D_X8_unitNow_2] at h
      refine a_aload_n X dX8_unitNow_2 rfl ?_
      refine a_getr X lf8_49 (by assumption) rfl (by omega) dX8_unitNow_3 ?_
      refine a_iload_n X dX8_unitNow_6 rfl ?_
      obtain ⟨g_7, h⟩ := zIx h
      refine a_iaload X (by assumption) g_7 dX8_unitNow_7 ?_
      refine a_iload_n X dX8_unitNow_8 rfl ?_
      obtain ⟨e_9, f_9, h⟩ := zBx h
      refine a_callSx X dX8_unitNow_9 miX8_has lm8_240 (t_X8_has f_9) rfl rfl (Nat.le_of_ble_eq_true rfl) ⟨by decide, by decide, by decide, by decide⟩ (fun r_9 S_9 q_9 => ?_)
      obtain ⟨rfl, rfl, b_9⟩ := q_9
      refine a_if_ne (tgt := 21) X dX8_unitNow_12 (by decide) (fun h_12 => ?_) (fun h_12 => ?_)
      · replace h := (if_neg h_12).symm.trans h
        refine a_aload_n X dX8_unitNow_21 rfl ?_
        refine a_getr X lf8_73 (by assumption) rfl (by omega) dX8_unitNow_22 ?_
        refine a_iload_n X dX8_unitNow_25 rfl ?_
        obtain ⟨g_26, h⟩ := zIx h
        refine a_iaload X (by assumption) g_26 dX8_unitNow_26 ?_
        refine a_iret X hr dX8_unitNow_27 ⟨by decide, by decide⟩ ?_
        subst hF
        rw [← Option.some.inj h]
        exact ⟨rfl, rfl⟩
      · replace h := (if_pos h_12).symm.trans h
        refine a_iinc (v := x2_2 + 1) X dX8_unitNow_15 (by decide) rfl zi_1 ?_
        refine a_goto (tgt := 2) X dX8_unitNow_18 (by decide) ?_
        exact Zw.to2 (ih_2 _ _ h) rfl rfl rfl
  have H_2 : ∀ (x1_2 : Int32) (x2_2 : Int32), D_X8_unitNow_2 P M zFu x1_2 x2_2 = some r → Zw p l e { frames := 1, cells := 0, slots := 0, locals := 80 * (1) } s m args below meth c G b 3 (MQ below (zQ G b FQ) args s 0 0 (fun q : Nat => b ≤ q)) 0 0 2 [some (.ref (P)), some (.int x1_2), some (.int x2_2)] [] (L, M, N) := L_2 zFu
  unfold D_X8_unitNow at h
  refine a_iconst (v := 0) X dX8_unitNow_0 (by decide) ?_
  refine a_istore_n X dX8_unitNow_1 (by decide) ?_
  exact Zw.to2 (H_2 _ _ h) rfl rfl rfl
noncomputable def D_X8_areYears_39  (y0_39 : Int32) : Option (Int32) :=
  some (y0_39)
noncomputable def D_X8_areYears_38   : Option (Int32) :=
  D_X8_areYears_39 (0 : Int32)
noncomputable def D_X8_areYears  (v0 : Int32) (v1 : Int32) : Option (Int32) :=
  zB (D_X8_isSeed v0) fun e_1 =>
  if e_1 = 0 then
    D_X8_areYears_38
  else
    zB (D_X8_isFrom (Int32.toInt64 v1) (1 : Int64) (30 : Int64)) fun e_13 =>
    if e_13 = 0 then
      D_X8_areYears_38
    else
      zB (D_X8_isFrom ((Int32.toInt64 v0) + (Int32.toInt64 v1)) (0 : Int64) (999999999 : Int64)) fun e_28 =>
      if e_28 = 0 then
        D_X8_areYears_38
      else
        D_X8_areYears_39 (1 : Int32)
set_option maxRecDepth 100000 in
set_option maxHeartbeats 4000000 in
theorem t_X8_areYears {l : Launch} {G : zG} {b : Nat} {L : List zC} {M : zMt} {N : zNt}  {v0 : Int32} {v1 : Int32}  {r : Int32} (h : D_X8_areYears v0 v1 = some r) : zM l G b yX8_areYears cX8_areYears 2 (some .boolean) 2 0 0 [.int v0, .int v1] (L, M, N) (fun r2 z => r2 = some (.int r) ∧ z = (L, M, N) ∧ (r = 0 ∨ r = 1)) := by
  refine zM.of miX8_areYears (Nat.le_of_ble_eq_true rfl) ?_
  intro p e s m args below meth c X hr hname
  generalize hF : ((fun r2 z => r2 = some (.int r) ∧ z = (L, M, N) ∧ (r = 0 ∨ r = 1)) : Option Value → zS → Prop) = FQ
  change Zw p l e { frames := 2, cells := 0, slots := 0, locals := 80 * (2) } s m args below meth c G b 2 (MQ below (zQ G b FQ) args s 0 0 (fun q : Nat => b ≤ q)) 0 0 0 [some (.int v0), some (.int v1)] [] (L, M, N)
  have J_39 : ∀ (x0_39 : Int32) (x1_39 : Int32) (y0_39 : Int32), (y0_39 = 0 ∨ y0_39 = 1) → D_X8_areYears_39 y0_39 = some r → Zw p l e { frames := 2, cells := 0, slots := 0, locals := 80 * (2) } s m args below meth c G b 2 (MQ below (zQ G b FQ) args s 0 0 (fun q : Nat => b ≤ q)) 0 0 39 [some (.int x0_39), some (.int x1_39)] [.int y0_39] (L, M, N) := by
    intro x0_39 x1_39 y0_39 fb_y0_39 h
    unfold D_X8_areYears_39 at h
    refine a_zret X (by first | exact Or.inl rfl | exact Or.inr rfl | assumption) hr dX8_areYears_39 ⟨by decide, by decide⟩ ?_
    subst hF
    rw [← Option.some.inj h]
    exact ⟨rfl, rfl, (by first | exact Or.inl rfl | exact Or.inr rfl | assumption)⟩
  have J_38 : ∀ (x0_38 : Int32) (x1_38 : Int32), D_X8_areYears_38 = some r → Zw p l e { frames := 2, cells := 0, slots := 0, locals := 80 * (2) } s m args below meth c G b 2 (MQ below (zQ G b FQ) args s 0 0 (fun q : Nat => b ≤ q)) 0 0 38 [some (.int x0_38), some (.int x1_38)] [] (L, M, N) := by
    intro x0_38 x1_38 h
    unfold D_X8_areYears_38 at h
    refine a_iconst (v := 0) X dX8_areYears_38 (by decide) ?_
    exact Zw.to2 (J_39 _ _ _ (by first | exact Or.inl rfl | exact Or.inr rfl | assumption) h) rfl rfl rfl
  unfold D_X8_areYears at h
  refine a_iload_n X dX8_areYears_0 rfl ?_
  obtain ⟨e_1, f_1, h⟩ := zBx h
  refine a_callSx X dX8_areYears_1 miX8_isSeed lm8_358 (t_X8_isSeed f_1) rfl rfl (Nat.le_of_ble_eq_true rfl) ⟨by decide, by decide, by decide, by decide⟩ (fun r_1 S_1 q_1 => ?_)
  obtain ⟨rfl, rfl, b_1⟩ := q_1
  refine a_if_eq (tgt := 38) X dX8_areYears_4 (by decide) (fun h_4 => ?_) (fun h_4 => ?_)
  · replace h := (if_pos h_4).symm.trans h
    exact Zw.to2 (J_38 _ _ h) rfl rfl rfl
  · replace h := (if_neg h_4).symm.trans h
    refine a_iload_n X dX8_areYears_7 rfl ?_
    refine a_i2l X dX8_areYears_8 ?_
    refine a_lconst (v := 1) X dX8_areYears_9 (by decide) ?_
    refine a_ldc2 X dX8_areYears_10 lk8_469 ?_
    obtain ⟨e_13, f_13, h⟩ := zBx h
    refine a_callSx X dX8_areYears_13 miX8_isFrom lm8_128 (t_X8_isFrom f_13) rfl rfl (Nat.le_of_ble_eq_true rfl) ⟨by decide, by decide, by decide, by decide⟩ (fun r_13 S_13 q_13 => ?_)
    obtain ⟨rfl, rfl, b_13⟩ := q_13
    refine a_if_eq (tgt := 38) X dX8_areYears_16 (by decide) (fun h_16 => ?_) (fun h_16 => ?_)
    · replace h := (if_pos h_16).symm.trans h
      exact Zw.to2 (J_38 _ _ h) rfl rfl rfl
    · replace h := (if_neg h_16).symm.trans h
      refine a_iload_n X dX8_areYears_19 rfl ?_
      refine a_i2l X dX8_areYears_20 ?_
      refine a_iload_n X dX8_areYears_21 rfl ?_
      refine a_i2l X dX8_areYears_22 ?_
      refine a_ladd X dX8_areYears_23 ?_
      refine a_lconst (v := 0) X dX8_areYears_24 (by decide) ?_
      refine a_ldc2 X dX8_areYears_25 lk8_135 ?_
      obtain ⟨e_28, f_28, h⟩ := zBx h
      refine a_callSx X dX8_areYears_28 miX8_isFrom lm8_128 (t_X8_isFrom f_28) rfl rfl (Nat.le_of_ble_eq_true rfl) ⟨by decide, by decide, by decide, by decide⟩ (fun r_28 S_28 q_28 => ?_)
      obtain ⟨rfl, rfl, b_28⟩ := q_28
      refine a_if_eq (tgt := 38) X dX8_areYears_31 (by decide) (fun h_31 => ?_) (fun h_31 => ?_)
      · replace h := (if_pos h_31).symm.trans h
        exact Zw.to2 (J_38 _ _ h) rfl rfl rfl
      · replace h := (if_neg h_31).symm.trans h
        refine a_iconst (v := 1) X dX8_areYears_34 (by decide) ?_
        refine a_goto (tgt := 39) X dX8_areYears_35 (by decide) ?_
        exact Zw.to2 (J_39 _ _ _ (by first | exact Or.inl rfl | exact Or.inr rfl | assumption) h) rfl rfl rfl
noncomputable def D_X8_years_203 (P : Nat) (y1_203 : Int32) (M_203 : zMt) (N_203 : zNt) : Option (Int32 × zMt × zNt) :=
  zB (D_X8_gives P y1_203 M_203) fun e_203 =>
  some (e_203.1, e_203.2, N_203)
noncomputable def D_X8_years_150 (P : Nat) (k75 : Int32 → Int32 → Int32 → Int32 → Int32 → Int32 → Int32 → zMt → zNt → Option (Int32 × zMt × zNt)) (k112 : Int32 → Int32 → Int32 → Int32 → Int32 → Int32 → Int32 → Int32 → zMt → zNt → Option (Int32 × zMt × zNt)) (x1_150 : Int32) (x2_150 : Int32) (x3_150 : Int32) (x4_150 : Int32) (x5_150 : Int32) (x6_150 : Int32) (x7_150 : Int32) (x8_150 : Int32) (y1_150 : Int32) (y2_150 : Int32) (M_150 : zMt) (N_150 : zNt) : Option (Int32 × zMt × zNt) :=
  zI y1_150 10 <|
  zLt (zu M_150 (P + 31) y1_150.toNatClampNeg y2_150) fun M_150 =>
  zI x8_150 10 <|
  k112 x1_150 x2_150 x3_150 x4_150 x5_150 (if x6_150 < (M_150 (P + 31) x8_150.toNatClampNeg) then (M_150 (P + 31) x8_150.toNatClampNeg) else x6_150) x7_150 (x8_150 + 1) M_150 N_150
noncomputable def D_X8_years_112 (P : Nat) (k75 : Int32 → Int32 → Int32 → Int32 → Int32 → Int32 → Int32 → zMt → zNt → Option (Int32 × zMt × zNt)) : Nat → Int32 → Int32 → Int32 → Int32 → Int32 → Int32 → Int32 → Int32 → zMt → zNt → Option (Int32 × zMt × zNt)
  | 0, _, _, _, _, _, _, _, _, _, _ => none
  | n + 1, x1_112, x2_112, x3_112, x4_112, x5_112, x6_112, x7_112, x8_112, M_112, N_112 =>
    if (M_112 P 8) ≤ x8_112 then
      k75 x1_112 x2_112 x3_112 x4_112 x5_112 x6_112 (x7_112 + 1) M_112 N_112
    else
      zB (D_X8_unitNow P M_112 x8_112) fun e_130 =>
      if e_130 = (-1 : Int32) then
        zI x8_112 10 <|
        D_X8_years_150 P k75 (D_X8_years_112 P k75 n) x1_112 x2_112 x3_112 x4_112 x5_112 x6_112 x7_112 x8_112 x8_112 ((M_112 (P + 31) x8_112.toNatClampNeg) + (1 : Int32)) M_112 N_112
      else
        D_X8_years_150 P k75 (D_X8_years_112 P k75 n) x1_112 x2_112 x3_112 x4_112 x5_112 x6_112 x7_112 x8_112 x8_112 (0 : Int32) M_112 N_112
noncomputable def D_X8_years_75 (P : Nat) : Nat → Int32 → Int32 → Int32 → Int32 → Int32 → Int32 → Int32 → zMt → zNt → Option (Int32 × zMt × zNt)
  | 0, _, _, _, _, _, _, _, _, _ => none
  | n + 1, x1_75, x2_75, x3_75, x4_75, x5_75, x6_75, x7_75, M_75, N_75 =>
    if x2_75 ≤ x7_75 then
      zB (D_X8_takesBack P M_75) fun e_178 =>
      if x3_75 = 0 then
        D_X8_years_203 P x4_75 e_178 N_75
      else
        if x3_75 = (1 : Int32) then
          D_X8_years_203 P x5_75 e_178 N_75
        else
          D_X8_years_203 P x6_75 e_178 N_75
    else
      zB (D_X8_goesYear P (x1_75 + x7_75) M_75 N_75) fun e_86 =>
      zB (D_X8_givenTags P e_86.1) fun e_92 =>
      zB (D_X8_winnersNow P e_86.1) fun e_101 =>
      D_X8_years_112 P (D_X8_years_75 P n) zFu x1_75 x2_75 x3_75 (x4_75 + e_92) (x5_75 &&& (e_101 ^^^ (-1 : Int32))) x6_75 x7_75 (0 : Int32) e_86.1 e_86.2
noncomputable def D_X8_years_49 (P : Nat) : Nat → Int32 → Int32 → Int32 → Int32 → Int32 → Int32 → Int32 → zMt → zNt → Option (Int32 × zMt × zNt)
  | 0, _, _, _, _, _, _, _, _, _ => none
  | n + 1, x1_49, x2_49, x3_49, x4_49, x5_49, x6_49, x7_49, M_49, N_49 =>
    if (M_49 P 8) ≤ x7_49 then
      D_X8_years_75 P zFu x1_49 x2_49 x3_49 x4_49 x5_49 x6_49 (0 : Int32) M_49 N_49
    else
      zI x7_49 10 <|
      zLt (zu M_49 (P + 31) x7_49.toNatClampNeg (0 : Int32)) fun M_65 =>
      (D_X8_years_49 P n) x1_49 x2_49 x3_49 x4_49 x5_49 x6_49 (x7_49 + 1) M_65 N_49
noncomputable def D_X8_years_20 (P : Nat) (M_20 : zMt) (N_20 : zNt) : Option (Int32 × zMt × zNt) :=
  zB (D_X8_refuse P (1 : Int32) M_20) fun e_22 =>
  some (e_22.1, e_22.2, N_20)
noncomputable def D_X8_years (P : Nat) (v0 : Int32) (v1 : Int32) (v2 : Int32) (M : zMt) (N : zNt) : Option (Int32 × zMt × zNt) :=
  zB (D_X8_areYears v0 v1) fun e_2 =>
  if e_2 = 0 then
    D_X8_years_20 P M N
  else
    zB (D_X8_isFrom (Int32.toInt64 v2) (0 : Int64) (2 : Int64)) fun e_14 =>
    if e_14 = 0 then
      D_X8_years_20 P M N
    else
      zB (D_X8_putsAside P M) fun e_27 =>
      D_X8_years_49 P zFu v0 v1 v2 (0 : Int32) (((1 : Int32) <<< ((e_27 P 8) &&& 31)) - (1 : Int32)) (0 : Int32) (0 : Int32) e_27 N
set_option maxRecDepth 100000 in
set_option maxHeartbeats 4000000 in
theorem t_X8_years {l : Launch} {G : zG} {b : Nat} {L : List zC} {M : zMt} {N : zNt} {P : Nat} {v0 : Int32} {v1 : Int32} {v2 : Int32} (hP : LX8 L P) {r : Int32 × zMt × zNt} (h : D_X8_years P v0 v1 v2 M N = some r) : zM l G b yX8_years cX8_years 9 (some .int) 6 0 0 [.ref P, .int v0, .int v1, .int v2] (L, M, N) (fun r2 z => r2 = some (.int r.1) ∧ z = (L, r.2.1, r.2.2)) := by
  refine zM.of miX8_years (Nat.le_of_ble_eq_true rfl) ?_
  intro p e s m args below meth c X hr hname
  generalize hF : ((fun r2 z => r2 = some (.int r.1) ∧ z = (L, r.2.1, r.2.2)) : Option Value → zS → Prop) = FQ
  change Zw p l e { frames := 6, cells := 0, slots := 0, locals := 80 * (6) } s m args below meth c G b 9 (MQ below (zQ G b FQ) args s 0 0 (fun q : Nat => b ≤ q)) 0 0 0 [some (.ref P), some (.int v0), some (.int v1), some (.int v2), none, none, none, none, none] [] (L, M, N)
  obtain ⟨p_lt, p_o, p_s, p_read, p_aside, p_kept, p_guest, p_readGuest, p_tape, p_unitName, p_hunterName, p_partyName, p_bits, p_partyOf, p_choiceAt, p_sizes, p_guestMany, p_pointsOf, p_ticketsOf, p_ord, p_given, p_roundOf, p_tags, p_guestTags, p_places, p_sumAt, p_sumFirst, p_sumRound, p_sumBoth, p_sumTags, p_isEnd, p_newPoints, p_inRow, p_out⟩ := id hP
  have J_203 : ∀ (x1_203 : Int32) (x2_203 : Int32) (x3_203 : Int32) (x4_203 : Int32) (x5_203 : Int32) (x6_203 : Int32) (x7_203 : Int32) (x8_203 : Option Value) (y1_203 : Int32) (M_203 : zMt) (N_203 : zNt), D_X8_years_203 P y1_203 M_203 N_203 = some r → Zw p l e { frames := 6, cells := 0, slots := 0, locals := 80 * (6) } s m args below meth c G b 9 (MQ below (zQ G b FQ) args s 0 0 (fun q : Nat => b ≤ q)) 0 0 203 [some (.ref (P)), some (.int x1_203), some (.int x2_203), some (.int x3_203), some (.int x4_203), some (.int x5_203), some (.int x6_203), some (.int x7_203), x8_203] [.int y1_203, .ref (P)] (L, M_203, N_203) := by
    intro x1_203 x2_203 x3_203 x4_203 x5_203 x6_203 x7_203 x8_203 y1_203 M_203 N_203 h
    unfold D_X8_years_203 at h
    obtain ⟨e_203, f_203, h⟩ := zBx h
    refine a_callVv X dX8_years_203 miX8_gives lm8_272 (t_X8_gives (by assumption) f_203) (by assumption) rfl rfl rfl (Nat.le_of_ble_eq_true rfl) ⟨by decide, by decide, by decide, by decide⟩ ?_
    refine a_iret X hr dX8_years_206 ⟨by decide, by decide⟩ ?_
    subst hF
    rw [← Option.some.inj h]
    exact ⟨rfl, rfl⟩
  have L_75 : ∀ u : Nat, ∀ (x1_75 : Int32) (x2_75 : Int32) (x3_75 : Int32) (x4_75 : Int32) (x5_75 : Int32) (x6_75 : Int32) (x7_75 : Int32) (x8_75 : Option Value) (M_75 : zMt) (N_75 : zNt), D_X8_years_75 P u x1_75 x2_75 x3_75 x4_75 x5_75 x6_75 x7_75 M_75 N_75 = some r → Zw p l e { frames := 6, cells := 0, slots := 0, locals := 80 * (6) } s m args below meth c G b 9 (MQ below (zQ G b FQ) args s 0 0 (fun q : Nat => b ≤ q)) 0 0 75 [some (.ref (P)), some (.int x1_75), some (.int x2_75), some (.int x3_75), some (.int x4_75), some (.int x5_75), some (.int x6_75), some (.int x7_75), x8_75] [] (L, M_75, N_75) := by
    intro u
    induction u with
    | zero => intro x1_75 x2_75 x3_75 x4_75 x5_75 x6_75 x7_75 x8_75 M_75 N_75 h; cases (show none = some r from h)
    | succ u_75 ih_75 =>
      have L_112 : ∀ u : Nat, ∀ (x1_112 : Int32) (x2_112 : Int32) (x3_112 : Int32) (x4_112 : Int32) (x5_112 : Int32) (x6_112 : Int32) (x7_112 : Int32) (x8_112 : Int32) (M_112 : zMt) (N_112 : zNt), D_X8_years_112 P (D_X8_years_75 P u_75) u x1_112 x2_112 x3_112 x4_112 x5_112 x6_112 x7_112 x8_112 M_112 N_112 = some r → Zw p l e { frames := 6, cells := 0, slots := 0, locals := 80 * (6) } s m args below meth c G b 9 (MQ below (zQ G b FQ) args s 0 0 (fun q : Nat => b ≤ q)) 0 0 112 [some (.ref (P)), some (.int x1_112), some (.int x2_112), some (.int x3_112), some (.int x4_112), some (.int x5_112), some (.int x6_112), some (.int x7_112), some (.int x8_112)] [] (L, M_112, N_112) := by
        intro u
        induction u with
        | zero => intro x1_112 x2_112 x3_112 x4_112 x5_112 x6_112 x7_112 x8_112 M_112 N_112 h; cases (show none = some r from h)
        | succ u_112 ih_112 =>
          have J_150 : ∀ (x1_150 : Int32) (x2_150 : Int32) (x3_150 : Int32) (x4_150 : Int32) (x5_150 : Int32) (x6_150 : Int32) (x7_150 : Int32) (x8_150 : Int32) (y1_150 : Int32) (y2_150 : Int32) (M_150 : zMt) (N_150 : zNt), D_X8_years_150 P (D_X8_years_75 P u_75) (D_X8_years_112 P (D_X8_years_75 P u_75) u_112) x1_150 x2_150 x3_150 x4_150 x5_150 x6_150 x7_150 x8_150 y1_150 y2_150 M_150 N_150 = some r → Zw p l e { frames := 6, cells := 0, slots := 0, locals := 80 * (6) } s m args below meth c G b 9 (MQ below (zQ G b FQ) args s 0 0 (fun q : Nat => b ≤ q)) 0 0 150 [some (.ref (P)), some (.int x1_150), some (.int x2_150), some (.int x3_150), some (.int x4_150), some (.int x5_150), some (.int x6_150), some (.int x7_150), some (.int x8_150)] [.int y2_150, .int y1_150, .ref (P + 31)] (L, M_150, N_150) := by
            intro x1_150 x2_150 x3_150 x4_150 x5_150 x6_150 x7_150 x8_150 y1_150 y2_150 M_150 N_150 h
            unfold D_X8_years_150 at h
            obtain ⟨g_150, h⟩ := zIx h
            obtain ⟨M_150, f_150, h⟩ := zLtx h
            refine d_iastore X (by assumption) g_150 dX8_years_150 f_150 ?_
            refine a_iload X dX8_years_151 rfl ?_
            refine a_aload_n X dX8_years_153 rfl ?_
            refine a_getr X lf8_109 (by assumption) rfl (by omega) dX8_years_154 ?_
            refine a_iload X dX8_years_157 rfl ?_
            obtain ⟨g_159, h⟩ := zIx h
            refine a_iaload X (by assumption) g_159 dX8_years_159 ?_
            refine a_mmax X lm8_424 zmath1 zmath0 zmathc1 ⟨by decide, Nat.le_of_ble_eq_true rfl, by decide, by decide⟩ dX8_years_160 ?_
            refine a_istore X dX8_years_163 (by decide) ?_
            refine a_iinc (v := x8_150 + 1) X dX8_years_165 (by decide) rfl zi_1 ?_
            refine a_goto (tgt := 112) X dX8_years_168 (by decide) ?_
            exact Zw.to2 (ih_112 _ _ _ _ _ _ _ _ _ _ h) rfl rfl rfl
          intro x1_112 x2_112 x3_112 x4_112 x5_112 x6_112 x7_112 x8_112 M_112 N_112 h
          rw [D_X8_years_112] at h
          refine a_iload X dX8_years_112 rfl ?_
          refine a_aload_n X dX8_years_114 rfl ?_
          refine a_geti X lf8_132 (by assumption) rfl dX8_years_115 ?_
          refine a_icmp_ge (tgt := 171) X dX8_years_118 (by decide) (fun h_118 => ?_) (fun h_118 => ?_)
          · replace h := (if_pos h_118).symm.trans h
            refine a_iinc (v := x7_112 + 1) X dX8_years_171 (by decide) rfl zi_1 ?_
            refine a_goto (tgt := 75) X dX8_years_174 (by decide) ?_
            exact Zw.to2 (ih_75 _ _ _ _ _ _ _ _ _ _ h) rfl rfl rfl
          · replace h := (if_neg h_118).symm.trans h
            refine a_aload_n X dX8_years_121 rfl ?_
            refine a_getr X lf8_109 (by assumption) rfl (by omega) dX8_years_122 ?_
            refine a_iload X dX8_years_125 rfl ?_
            refine a_aload_n X dX8_years_127 rfl ?_
            refine a_iload X dX8_years_128 rfl ?_
            obtain ⟨e_130, f_130, h⟩ := zBx h
            refine a_callVv X dX8_years_130 miX8_unitNow lm8_477 (t_X8_unitNow (by assumption) f_130) (by assumption) rfl rfl rfl (Nat.le_of_ble_eq_true rfl) ⟨by decide, by decide, by decide, by decide⟩ ?_
            refine a_iconst (v := -1) X dX8_years_133 (by decide) ?_
            refine a_icmp_ne (tgt := 149) X dX8_years_134 (by decide) (fun h_134 => ?_) (fun h_134 => ?_)
            · replace h := (if_neg h_134).symm.trans h
              refine a_iconst (v := 0) X dX8_years_149 (by decide) ?_
              exact Zw.to2 (J_150 _ _ _ _ _ _ _ _ _ _ _ _ h) rfl rfl rfl
            · replace h := (if_pos h_134).symm.trans h
              refine a_aload_n X dX8_years_137 rfl ?_
              refine a_getr X lf8_109 (by assumption) rfl (by omega) dX8_years_138 ?_
              refine a_iload X dX8_years_141 rfl ?_
              obtain ⟨g_143, h⟩ := zIx h
              refine a_iaload X (by assumption) g_143 dX8_years_143 ?_
              refine a_iconst (v := 1) X dX8_years_144 (by decide) ?_
              refine a_iadd X dX8_years_145 ?_
              refine a_goto (tgt := 150) X dX8_years_146 (by decide) ?_
              exact Zw.to2 (J_150 _ _ _ _ _ _ _ _ _ _ _ _ h) rfl rfl rfl
      have H_112 : ∀ (x1_112 : Int32) (x2_112 : Int32) (x3_112 : Int32) (x4_112 : Int32) (x5_112 : Int32) (x6_112 : Int32) (x7_112 : Int32) (x8_112 : Int32) (M_112 : zMt) (N_112 : zNt), D_X8_years_112 P (D_X8_years_75 P u_75) zFu x1_112 x2_112 x3_112 x4_112 x5_112 x6_112 x7_112 x8_112 M_112 N_112 = some r → Zw p l e { frames := 6, cells := 0, slots := 0, locals := 80 * (6) } s m args below meth c G b 9 (MQ below (zQ G b FQ) args s 0 0 (fun q : Nat => b ≤ q)) 0 0 112 [some (.ref (P)), some (.int x1_112), some (.int x2_112), some (.int x3_112), some (.int x4_112), some (.int x5_112), some (.int x6_112), some (.int x7_112), some (.int x8_112)] [] (L, M_112, N_112) := L_112 zFu
      intro x1_75 x2_75 x3_75 x4_75 x5_75 x6_75 x7_75 x8_75 M_75 N_75 h
      rw [D_X8_years_75] at h
      refine a_iload X dX8_years_75 rfl ?_
      refine a_iload_n X dX8_years_77 rfl ?_
      refine a_icmp_ge (tgt := 177) X dX8_years_78 (by decide) (fun h_78 => ?_) (fun h_78 => ?_)
      · replace h := (if_pos h_78).symm.trans h
        refine a_aload_n X dX8_years_177 rfl ?_
        obtain ⟨e_178, f_178, h⟩ := zBx h
        refine a_callVu X dX8_years_178 miX8_takesBack lm8_449 (t_X8_takesBack (by assumption) f_178) (by assumption) rfl rfl rfl (Nat.le_of_ble_eq_true rfl) ⟨by decide, by decide, by decide, by decide⟩ ?_
        refine a_aload_n X dX8_years_181 rfl ?_
        refine a_iload_n X dX8_years_182 rfl ?_
        refine a_if_ne (tgt := 191) X dX8_years_183 (by decide) (fun h_183 => ?_) (fun h_183 => ?_)
        · replace h := (if_neg h_183).symm.trans h
          refine a_iload_n X dX8_years_191 rfl ?_
          refine a_iconst (v := 1) X dX8_years_192 (by decide) ?_
          refine a_icmp_ne (tgt := 201) X dX8_years_193 (by decide) (fun h_193 => ?_) (fun h_193 => ?_)
          · replace h := (if_neg h_193).symm.trans h
            refine a_iload X dX8_years_201 rfl ?_
            exact Zw.to2 (J_203 _ _ _ _ _ _ _ _ _ _ _ h) rfl rfl rfl
          · replace h := (if_pos h_193).symm.trans h
            refine a_iload X dX8_years_196 rfl ?_
            refine a_goto (tgt := 203) X dX8_years_198 (by decide) ?_
            exact Zw.to2 (J_203 _ _ _ _ _ _ _ _ _ _ _ h) rfl rfl rfl
        · replace h := (if_pos h_183).symm.trans h
          refine a_iload X dX8_years_186 rfl ?_
          refine a_goto (tgt := 203) X dX8_years_188 (by decide) ?_
          exact Zw.to2 (J_203 _ _ _ _ _ _ _ _ _ _ _ h) rfl rfl rfl
      · replace h := (if_neg h_78).symm.trans h
        refine a_aload_n X dX8_years_81 rfl ?_
        refine a_iload_n X dX8_years_82 rfl ?_
        refine a_iload X dX8_years_83 rfl ?_
        refine a_iadd X dX8_years_85 ?_
        obtain ⟨e_86, f_86, h⟩ := zBx h
        refine a_callVu X dX8_years_86 miX8_goesYear lm8_474 (t_X8_goesYear (by assumption) f_86) (by assumption) rfl rfl rfl (Nat.le_of_ble_eq_true rfl) ⟨by decide, by decide, by decide, by decide⟩ ?_
        refine a_iload X dX8_years_89 rfl ?_
        refine a_aload_n X dX8_years_91 rfl ?_
        obtain ⟨e_92, f_92, h⟩ := zBx h
        refine a_callVv X dX8_years_92 miX8_givenTags lm8_421 (t_X8_givenTags (by assumption) f_92) (by assumption) rfl rfl rfl (Nat.le_of_ble_eq_true rfl) ⟨by decide, by decide, by decide, by decide⟩ ?_
        refine a_iadd X dX8_years_95 ?_
        refine a_istore X dX8_years_96 (by decide) ?_
        refine a_iload X dX8_years_98 rfl ?_
        refine a_aload_n X dX8_years_100 rfl ?_
        obtain ⟨e_101, f_101, h⟩ := zBx h
        refine a_callVv X dX8_years_101 miX8_winnersNow lm8_371 (t_X8_winnersNow (by assumption) f_101) (by assumption) rfl rfl rfl (Nat.le_of_ble_eq_true rfl) ⟨by decide, by decide, by decide, by decide⟩ ?_
        refine a_iconst (v := -1) X dX8_years_104 (by decide) ?_
        refine a_ixor X dX8_years_105 ?_
        refine a_iand X dX8_years_106 ?_
        refine a_istore X dX8_years_107 (by decide) ?_
        refine a_iconst (v := 0) X dX8_years_109 (by decide) ?_
        refine a_istore X dX8_years_110 (by decide) ?_
        exact Zw.to2 (H_112 _ _ _ _ _ _ _ _ _ _ h) rfl rfl rfl
  have H_75 : ∀ (x1_75 : Int32) (x2_75 : Int32) (x3_75 : Int32) (x4_75 : Int32) (x5_75 : Int32) (x6_75 : Int32) (x7_75 : Int32) (x8_75 : Option Value) (M_75 : zMt) (N_75 : zNt), D_X8_years_75 P zFu x1_75 x2_75 x3_75 x4_75 x5_75 x6_75 x7_75 M_75 N_75 = some r → Zw p l e { frames := 6, cells := 0, slots := 0, locals := 80 * (6) } s m args below meth c G b 9 (MQ below (zQ G b FQ) args s 0 0 (fun q : Nat => b ≤ q)) 0 0 75 [some (.ref (P)), some (.int x1_75), some (.int x2_75), some (.int x3_75), some (.int x4_75), some (.int x5_75), some (.int x6_75), some (.int x7_75), x8_75] [] (L, M_75, N_75) := L_75 zFu
  have L_49 : ∀ u : Nat, ∀ (x1_49 : Int32) (x2_49 : Int32) (x3_49 : Int32) (x4_49 : Int32) (x5_49 : Int32) (x6_49 : Int32) (x7_49 : Int32) (x8_49 : Option Value) (M_49 : zMt) (N_49 : zNt), (x4_49 = 0 ∨ x4_49 = 1) → (x6_49 = 0 ∨ x6_49 = 1) → D_X8_years_49 P u x1_49 x2_49 x3_49 x4_49 x5_49 x6_49 x7_49 M_49 N_49 = some r → Zw p l e { frames := 6, cells := 0, slots := 0, locals := 80 * (6) } s m args below meth c G b 9 (MQ below (zQ G b FQ) args s 0 0 (fun q : Nat => b ≤ q)) 0 0 49 [some (.ref (P)), some (.int x1_49), some (.int x2_49), some (.int x3_49), some (.int x4_49), some (.int x5_49), some (.int x6_49), some (.int x7_49), x8_49] [] (L, M_49, N_49) := by
    intro u
    induction u with
    | zero => intro x1_49 x2_49 x3_49 x4_49 x5_49 x6_49 x7_49 x8_49 M_49 N_49 fb_x4_49 fb_x6_49 h; cases (show none = some r from h)
    | succ u_49 ih_49 =>
      intro x1_49 x2_49 x3_49 x4_49 x5_49 x6_49 x7_49 x8_49 M_49 N_49 fb_x4_49 fb_x6_49 h
      rw [D_X8_years_49] at h
      refine a_iload X dX8_years_49 rfl ?_
      refine a_aload_n X dX8_years_51 rfl ?_
      refine a_geti X lf8_132 (by assumption) rfl dX8_years_52 ?_
      refine a_icmp_ge (tgt := 72) X dX8_years_55 (by decide) (fun h_55 => ?_) (fun h_55 => ?_)
      · replace h := (if_pos h_55).symm.trans h
        refine a_iconst (v := 0) X dX8_years_72 (by decide) ?_
        refine a_istore X dX8_years_73 (by decide) ?_
        exact Zw.to2 (H_75 _ _ _ _ _ _ _ _ _ _ h) rfl rfl rfl
      · replace h := (if_neg h_55).symm.trans h
        refine a_aload_n X dX8_years_58 rfl ?_
        refine a_getr X lf8_109 (by assumption) rfl (by omega) dX8_years_59 ?_
        refine a_iload X dX8_years_62 rfl ?_
        refine a_iconst (v := 0) X dX8_years_64 (by decide) ?_
        obtain ⟨g_65, h⟩ := zIx h
        obtain ⟨M_65, f_65, h⟩ := zLtx h
        refine d_iastore X (by assumption) g_65 dX8_years_65 f_65 ?_
        refine a_iinc (v := x7_49 + 1) X dX8_years_66 (by decide) rfl zi_1 ?_
        refine a_goto (tgt := 49) X dX8_years_69 (by decide) ?_
        exact Zw.to2 (ih_49 _ _ _ _ _ _ _ _ _ _ (by first | exact Or.inl rfl | exact Or.inr rfl | assumption) (by first | exact Or.inl rfl | exact Or.inr rfl | assumption) h) rfl rfl rfl
  have H_49 : ∀ (x1_49 : Int32) (x2_49 : Int32) (x3_49 : Int32) (x4_49 : Int32) (x5_49 : Int32) (x6_49 : Int32) (x7_49 : Int32) (x8_49 : Option Value) (M_49 : zMt) (N_49 : zNt), (x4_49 = 0 ∨ x4_49 = 1) → (x6_49 = 0 ∨ x6_49 = 1) → D_X8_years_49 P zFu x1_49 x2_49 x3_49 x4_49 x5_49 x6_49 x7_49 M_49 N_49 = some r → Zw p l e { frames := 6, cells := 0, slots := 0, locals := 80 * (6) } s m args below meth c G b 9 (MQ below (zQ G b FQ) args s 0 0 (fun q : Nat => b ≤ q)) 0 0 49 [some (.ref (P)), some (.int x1_49), some (.int x2_49), some (.int x3_49), some (.int x4_49), some (.int x5_49), some (.int x6_49), some (.int x7_49), x8_49] [] (L, M_49, N_49) := L_49 zFu
  have J_20 : ∀ (x1_20 : Int32) (x2_20 : Int32) (x3_20 : Int32) (x4_20 : Option Value) (x5_20 : Option Value) (x6_20 : Option Value) (x7_20 : Option Value) (x8_20 : Option Value) (M_20 : zMt) (N_20 : zNt), D_X8_years_20 P M_20 N_20 = some r → Zw p l e { frames := 6, cells := 0, slots := 0, locals := 80 * (6) } s m args below meth c G b 9 (MQ below (zQ G b FQ) args s 0 0 (fun q : Nat => b ≤ q)) 0 0 20 [some (.ref (P)), some (.int x1_20), some (.int x2_20), some (.int x3_20), x4_20, x5_20, x6_20, x7_20, x8_20] [] (L, M_20, N_20) := by
    intro x1_20 x2_20 x3_20 x4_20 x5_20 x6_20 x7_20 x8_20 M_20 N_20 h
    unfold D_X8_years_20 at h
    refine a_aload_n X dX8_years_20 rfl ?_
    refine a_iconst (v := 1) X dX8_years_21 (by decide) ?_
    obtain ⟨e_22, f_22, h⟩ := zBx h
    refine a_callVv X dX8_years_22 miX8_refuse lm8_263 (t_X8_refuse (by assumption) f_22) (by assumption) rfl rfl rfl (Nat.le_of_ble_eq_true rfl) ⟨by decide, by decide, by decide, by decide⟩ ?_
    refine a_iret X hr dX8_years_25 ⟨by decide, by decide⟩ ?_
    subst hF
    rw [← Option.some.inj h]
    exact ⟨rfl, rfl⟩
  unfold D_X8_years at h
  refine a_iload_n X dX8_years_0 rfl ?_
  refine a_iload_n X dX8_years_1 rfl ?_
  obtain ⟨e_2, f_2, h⟩ := zBx h
  refine a_callSx X dX8_years_2 miX8_areYears lm8_471 (t_X8_areYears f_2) rfl rfl (Nat.le_of_ble_eq_true rfl) ⟨by decide, by decide, by decide, by decide⟩ (fun r_2 S_2 q_2 => ?_)
  obtain ⟨rfl, rfl, b_2⟩ := q_2
  refine a_if_eq (tgt := 20) X dX8_years_5 (by decide) (fun h_5 => ?_) (fun h_5 => ?_)
  · replace h := (if_pos h_5).symm.trans h
    exact Zw.to2 (J_20 _ _ _ _ _ _ _ _ _ _ h) rfl rfl rfl
  · replace h := (if_neg h_5).symm.trans h
    refine a_iload_n X dX8_years_8 rfl ?_
    refine a_i2l X dX8_years_9 ?_
    refine a_lconst (v := 0) X dX8_years_10 (by decide) ?_
    refine a_ldc2 X dX8_years_11 lk8_427 ?_
    obtain ⟨e_14, f_14, h⟩ := zBx h
    refine a_callSx X dX8_years_14 miX8_isFrom lm8_128 (t_X8_isFrom f_14) rfl rfl (Nat.le_of_ble_eq_true rfl) ⟨by decide, by decide, by decide, by decide⟩ (fun r_14 S_14 q_14 => ?_)
    obtain ⟨rfl, rfl, b_14⟩ := q_14
    refine a_if_ne (tgt := 26) X dX8_years_17 (by decide) (fun h_17 => ?_) (fun h_17 => ?_)
    · replace h := (if_neg h_17).symm.trans h
      refine a_aload_n X dX8_years_26 rfl ?_
      obtain ⟨e_27, f_27, h⟩ := zBx h
      refine a_callVu X dX8_years_27 miX8_putsAside lm8_444 (t_X8_putsAside (by assumption) f_27) (by assumption) rfl rfl rfl (Nat.le_of_ble_eq_true rfl) ⟨by decide, by decide, by decide, by decide⟩ ?_
      refine a_iconst (v := 0) X dX8_years_30 (by decide) ?_
      refine a_istore X dX8_years_31 (by decide) ?_
      refine a_iconst (v := 1) X dX8_years_33 (by decide) ?_
      refine a_aload_n X dX8_years_34 rfl ?_
      refine a_geti X lf8_132 (by assumption) rfl dX8_years_35 ?_
      refine a_ishl X dX8_years_38 ?_
      refine a_iconst (v := 1) X dX8_years_39 (by decide) ?_
      refine a_isub X dX8_years_40 ?_
      refine a_istore X dX8_years_41 (by decide) ?_
      refine a_iconst (v := 0) X dX8_years_43 (by decide) ?_
      refine a_istore X dX8_years_44 (by decide) ?_
      refine a_iconst (v := 0) X dX8_years_46 (by decide) ?_
      refine a_istore X dX8_years_47 (by decide) ?_
      exact Zw.to2 (H_49 _ _ _ _ _ _ _ _ _ _ (by first | exact Or.inl rfl | exact Or.inr rfl | assumption) (by first | exact Or.inl rfl | exact Or.inr rfl | assumption) h) rfl rfl rfl
    · replace h := (if_pos h_17).symm.trans h
      exact Zw.to2 (J_20 _ _ _ _ _ _ _ _ _ _ h) rfl rfl rfl
noncomputable def D_X8_often_68 (P : Nat) (k38 : Int32 → Int32 → Int32 → Int32 → Int32 → zMt → zNt → Option (Int32 × zMt × zNt)) (x1_68 : Int32) (x2_68 : Int32) (x3_68 : Int32) (x5_68 : Int32) (y0_68 : Int32) (y1_68 : Int32) (M_68 : zMt) (N_68 : zNt) : Option (Int32 × zMt × zNt) :=
  k38 x1_68 x2_68 x3_68 (y0_68 + y1_68) (x5_68 + 1) M_68 N_68
noncomputable def D_X8_often_38 (P : Nat) : Nat → Int32 → Int32 → Int32 → Int32 → Int32 → zMt → zNt → Option (Int32 × zMt × zNt)
  | 0, _, _, _, _, _, _, _ => none
  | n + 1, x1_38, x2_38, x3_38, x4_38, x5_38, M_38, N_38 =>
    if x2_38 ≤ x5_38 then
      zB (D_X8_takesBack P M_38) fun e_78 =>
      zB (D_X8_gives P x4_38 e_78) fun e_84 =>
      some (e_84.1, e_84.2, N_38)
    else
      zB (D_X8_goesYear P (x1_38 + x5_38) M_38 N_38) fun e_49 =>
      zB (D_X8_unitNow P e_49.1 x3_38) fun e_56 =>
      if e_56 = (-1 : Int32) then
        D_X8_often_68 P (D_X8_often_38 P n) x1_38 x2_38 x3_38 x5_38 x4_38 (0 : Int32) e_49.1 e_49.2
      else
        D_X8_often_68 P (D_X8_often_38 P n) x1_38 x2_38 x3_38 x5_38 x4_38 (1 : Int32) e_49.1 e_49.2
noncomputable def D_X8_often (P : Nat) (v0 : Int32) (v1 : Int32) (v2 : Int32) (M : zMt) (N : zNt) : Option (Int32 × zMt × zNt) :=
  zB (D_X8_areYears v0 v1) fun e_2 =>
  if e_2 = 0 then
    zB (D_X8_refuse P (1 : Int32) M) fun e_10 =>
    some (e_10.1, e_10.2, N)
  else
    zB (D_X8_isHunter P M v2) fun e_16 =>
    if e_16 = 0 then
      zB (D_X8_refuse P (2 : Int32) M) fun e_24 =>
      some (e_24.1, e_24.2, N)
    else
      zB (D_X8_putsAside P M) fun e_29 =>
      D_X8_often_38 P zFu v0 v1 v2 (0 : Int32) (0 : Int32) e_29 N
set_option maxRecDepth 100000 in
set_option maxHeartbeats 4000000 in
theorem t_X8_often {l : Launch} {G : zG} {b : Nat} {L : List zC} {M : zMt} {N : zNt} {P : Nat} {v0 : Int32} {v1 : Int32} {v2 : Int32} (hP : LX8 L P) {r : Int32 × zMt × zNt} (h : D_X8_often P v0 v1 v2 M N = some r) : zM l G b yX8_often cX8_often 6 (some .int) 6 0 0 [.ref P, .int v0, .int v1, .int v2] (L, M, N) (fun r2 z => r2 = some (.int r.1) ∧ z = (L, r.2.1, r.2.2)) := by
  refine zM.of miX8_often (Nat.le_of_ble_eq_true rfl) ?_
  intro p e s m args below meth c X hr hname
  generalize hF : ((fun r2 z => r2 = some (.int r.1) ∧ z = (L, r.2.1, r.2.2)) : Option Value → zS → Prop) = FQ
  change Zw p l e { frames := 6, cells := 0, slots := 0, locals := 80 * (6) } s m args below meth c G b 6 (MQ below (zQ G b FQ) args s 0 0 (fun q : Nat => b ≤ q)) 0 0 0 [some (.ref P), some (.int v0), some (.int v1), some (.int v2), none, none] [] (L, M, N)
  obtain ⟨p_lt, p_o, p_s, p_read, p_aside, p_kept, p_guest, p_readGuest, p_tape, p_unitName, p_hunterName, p_partyName, p_bits, p_partyOf, p_choiceAt, p_sizes, p_guestMany, p_pointsOf, p_ticketsOf, p_ord, p_given, p_roundOf, p_tags, p_guestTags, p_places, p_sumAt, p_sumFirst, p_sumRound, p_sumBoth, p_sumTags, p_isEnd, p_newPoints, p_inRow, p_out⟩ := id hP
  have L_38 : ∀ u : Nat, ∀ (x1_38 : Int32) (x2_38 : Int32) (x3_38 : Int32) (x4_38 : Int32) (x5_38 : Int32) (M_38 : zMt) (N_38 : zNt), D_X8_often_38 P u x1_38 x2_38 x3_38 x4_38 x5_38 M_38 N_38 = some r → Zw p l e { frames := 6, cells := 0, slots := 0, locals := 80 * (6) } s m args below meth c G b 6 (MQ below (zQ G b FQ) args s 0 0 (fun q : Nat => b ≤ q)) 0 0 38 [some (.ref (P)), some (.int x1_38), some (.int x2_38), some (.int x3_38), some (.int x4_38), some (.int x5_38)] [] (L, M_38, N_38) := by
    intro u
    induction u with
    | zero => intro x1_38 x2_38 x3_38 x4_38 x5_38 M_38 N_38 h; cases (show none = some r from h)
    | succ u_38 ih_38 =>
      have J_68 : ∀ (x1_68 : Int32) (x2_68 : Int32) (x3_68 : Int32) (x4_68 : Int32) (x5_68 : Int32) (y0_68 : Int32) (y1_68 : Int32) (M_68 : zMt) (N_68 : zNt), (y1_68 = 0 ∨ y1_68 = 1) → D_X8_often_68 P (D_X8_often_38 P u_38) x1_68 x2_68 x3_68 x5_68 y0_68 y1_68 M_68 N_68 = some r → Zw p l e { frames := 6, cells := 0, slots := 0, locals := 80 * (6) } s m args below meth c G b 6 (MQ below (zQ G b FQ) args s 0 0 (fun q : Nat => b ≤ q)) 0 0 68 [some (.ref (P)), some (.int x1_68), some (.int x2_68), some (.int x3_68), some (.int x4_68), some (.int x5_68)] [.int y1_68, .int y0_68] (L, M_68, N_68) := by
        intro x1_68 x2_68 x3_68 x4_68 x5_68 y0_68 y1_68 M_68 N_68 fb_y1_68 h
        unfold D_X8_often_68 at h
        refine a_iadd X dX8_often_68 ?_
        refine a_istore X dX8_often_69 (by decide) ?_
        refine a_iinc (v := x5_68 + 1) X dX8_often_71 (by decide) rfl zi_1 ?_
        refine a_goto (tgt := 38) X dX8_often_74 (by decide) ?_
        exact Zw.to2 (ih_38 _ _ _ _ _ _ _ h) rfl rfl rfl
      intro x1_38 x2_38 x3_38 x4_38 x5_38 M_38 N_38 h
      rw [D_X8_often_38] at h
      refine a_iload X dX8_often_38 rfl ?_
      refine a_iload_n X dX8_often_40 rfl ?_
      refine a_icmp_ge (tgt := 77) X dX8_often_41 (by decide) (fun h_41 => ?_) (fun h_41 => ?_)
      · replace h := (if_pos h_41).symm.trans h
        refine a_aload_n X dX8_often_77 rfl ?_
        obtain ⟨e_78, f_78, h⟩ := zBx h
        refine a_callVu X dX8_often_78 miX8_takesBack lm8_449 (t_X8_takesBack (by assumption) f_78) (by assumption) rfl rfl rfl (Nat.le_of_ble_eq_true rfl) ⟨by decide, by decide, by decide, by decide⟩ ?_
        refine a_aload_n X dX8_often_81 rfl ?_
        refine a_iload X dX8_often_82 rfl ?_
        obtain ⟨e_84, f_84, h⟩ := zBx h
        refine a_callVv X dX8_often_84 miX8_gives lm8_272 (t_X8_gives (by assumption) f_84) (by assumption) rfl rfl rfl (Nat.le_of_ble_eq_true rfl) ⟨by decide, by decide, by decide, by decide⟩ ?_
        refine a_iret X hr dX8_often_87 ⟨by decide, by decide⟩ ?_
        subst hF
        rw [← Option.some.inj h]
        exact ⟨rfl, rfl⟩
      · replace h := (if_neg h_41).symm.trans h
        refine a_aload_n X dX8_often_44 rfl ?_
        refine a_iload_n X dX8_often_45 rfl ?_
        refine a_iload X dX8_often_46 rfl ?_
        refine a_iadd X dX8_often_48 ?_
        obtain ⟨e_49, f_49, h⟩ := zBx h
        refine a_callVu X dX8_often_49 miX8_goesYear lm8_474 (t_X8_goesYear (by assumption) f_49) (by assumption) rfl rfl rfl (Nat.le_of_ble_eq_true rfl) ⟨by decide, by decide, by decide, by decide⟩ ?_
        refine a_iload X dX8_often_52 rfl ?_
        refine a_aload_n X dX8_often_54 rfl ?_
        refine a_iload_n X dX8_often_55 rfl ?_
        obtain ⟨e_56, f_56, h⟩ := zBx h
        refine a_callVv X dX8_often_56 miX8_unitNow lm8_477 (t_X8_unitNow (by assumption) f_56) (by assumption) rfl rfl rfl (Nat.le_of_ble_eq_true rfl) ⟨by decide, by decide, by decide, by decide⟩ ?_
        refine a_iconst (v := -1) X dX8_often_59 (by decide) ?_
        refine a_icmp_ne (tgt := 67) X dX8_often_60 (by decide) (fun h_60 => ?_) (fun h_60 => ?_)
        · replace h := (if_neg h_60).symm.trans h
          refine a_iconst (v := 1) X dX8_often_67 (by decide) ?_
          exact Zw.to2 (J_68 _ _ _ _ _ _ _ _ _ (by first | exact Or.inl rfl | exact Or.inr rfl | assumption) h) rfl rfl rfl
        · replace h := (if_pos h_60).symm.trans h
          refine a_iconst (v := 0) X dX8_often_63 (by decide) ?_
          refine a_goto (tgt := 68) X dX8_often_64 (by decide) ?_
          exact Zw.to2 (J_68 _ _ _ _ _ _ _ _ _ (by first | exact Or.inl rfl | exact Or.inr rfl | assumption) h) rfl rfl rfl
  have H_38 : ∀ (x1_38 : Int32) (x2_38 : Int32) (x3_38 : Int32) (x4_38 : Int32) (x5_38 : Int32) (M_38 : zMt) (N_38 : zNt), D_X8_often_38 P zFu x1_38 x2_38 x3_38 x4_38 x5_38 M_38 N_38 = some r → Zw p l e { frames := 6, cells := 0, slots := 0, locals := 80 * (6) } s m args below meth c G b 6 (MQ below (zQ G b FQ) args s 0 0 (fun q : Nat => b ≤ q)) 0 0 38 [some (.ref (P)), some (.int x1_38), some (.int x2_38), some (.int x3_38), some (.int x4_38), some (.int x5_38)] [] (L, M_38, N_38) := L_38 zFu
  unfold D_X8_often at h
  refine a_iload_n X dX8_often_0 rfl ?_
  refine a_iload_n X dX8_often_1 rfl ?_
  obtain ⟨e_2, f_2, h⟩ := zBx h
  refine a_callSx X dX8_often_2 miX8_areYears lm8_471 (t_X8_areYears f_2) rfl rfl (Nat.le_of_ble_eq_true rfl) ⟨by decide, by decide, by decide, by decide⟩ (fun r_2 S_2 q_2 => ?_)
  obtain ⟨rfl, rfl, b_2⟩ := q_2
  refine a_if_ne (tgt := 14) X dX8_often_5 (by decide) (fun h_5 => ?_) (fun h_5 => ?_)
  · replace h := (if_neg h_5).symm.trans h
    refine a_aload_n X dX8_often_14 rfl ?_
    refine a_iload_n X dX8_often_15 rfl ?_
    obtain ⟨e_16, f_16, h⟩ := zBx h
    refine a_callVx X dX8_often_16 miX8_isHunter lm8_293 (t_X8_isHunter (by assumption) f_16) (by assumption) rfl rfl rfl (Nat.le_of_ble_eq_true rfl) ⟨by decide, by decide, by decide, by decide⟩ (fun r_16 S_16 q_16 => ?_)
    obtain ⟨rfl, rfl, b_16⟩ := q_16
    refine a_if_ne (tgt := 28) X dX8_often_19 (by decide) (fun h_19 => ?_) (fun h_19 => ?_)
    · replace h := (if_neg h_19).symm.trans h
      refine a_aload_n X dX8_often_28 rfl ?_
      obtain ⟨e_29, f_29, h⟩ := zBx h
      refine a_callVu X dX8_often_29 miX8_putsAside lm8_444 (t_X8_putsAside (by assumption) f_29) (by assumption) rfl rfl rfl (Nat.le_of_ble_eq_true rfl) ⟨by decide, by decide, by decide, by decide⟩ ?_
      refine a_iconst (v := 0) X dX8_often_32 (by decide) ?_
      refine a_istore X dX8_often_33 (by decide) ?_
      refine a_iconst (v := 0) X dX8_often_35 (by decide) ?_
      refine a_istore X dX8_often_36 (by decide) ?_
      exact Zw.to2 (H_38 _ _ _ _ _ _ _ h) rfl rfl rfl
    · replace h := (if_pos h_19).symm.trans h
      refine a_aload_n X dX8_often_22 rfl ?_
      refine a_iconst (v := 2) X dX8_often_23 (by decide) ?_
      obtain ⟨e_24, f_24, h⟩ := zBx h
      refine a_callVv X dX8_often_24 miX8_refuse lm8_263 (t_X8_refuse (by assumption) f_24) (by assumption) rfl rfl rfl (Nat.le_of_ble_eq_true rfl) ⟨by decide, by decide, by decide, by decide⟩ ?_
      refine a_iret X hr dX8_often_27 ⟨by decide, by decide⟩ ?_
      subst hF
      rw [← Option.some.inj h]
      exact ⟨rfl, rfl⟩
  · replace h := (if_pos h_5).symm.trans h
    refine a_aload_n X dX8_often_8 rfl ?_
    refine a_iconst (v := 1) X dX8_often_9 (by decide) ?_
    obtain ⟨e_10, f_10, h⟩ := zBx h
    refine a_callVv X dX8_often_10 miX8_refuse lm8_263 (t_X8_refuse (by assumption) f_10) (by assumption) rfl rfl rfl (Nat.le_of_ble_eq_true rfl) ⟨by decide, by decide, by decide, by decide⟩ ?_
    refine a_iret X hr dX8_often_13 ⟨by decide, by decide⟩ ?_
    subst hF
    rw [← Option.some.inj h]
    exact ⟨rfl, rfl⟩
noncomputable def D_X8_soonest_130 (P : Nat) (y0_130 : Int32) (M_130 : zMt) (N_130 : zNt) : Option (Int32 × zMt × zNt) :=
  some (y0_130, M_130, N_130)
noncomputable def D_X8_soonest_106 (P : Nat) (x4_106 : Int32) (M_106 : zMt) (N_106 : zNt) : Option (Int32 × zMt × zNt) :=
  zB (D_X8_takesBack P M_106) fun e_107 =>
  if x4_106 = (-1 : Int32) then
    zB (D_X8_refuse P (5 : Int32) e_107) fun e_118 =>
    D_X8_soonest_130 P e_118.1 e_118.2 N_106
  else
    zB (D_X8_gives P x4_106 e_107) fun e_127 =>
    D_X8_soonest_130 P e_127.1 e_127.2 N_106
noncomputable def D_X8_soonest_98 (P : Nat) (k38 : Int32 → Int32 → Int32 → Int32 → Int32 → zMt → zNt → Option (Int32 × zMt × zNt)) (x1_98 : Int32) (x2_98 : Int32) (x3_98 : Int32) (x5_98 : Int32) (y0_98 : Int32) (M_98 : zMt) (N_98 : zNt) : Option (Int32 × zMt × zNt) :=
  k38 x1_98 x2_98 x3_98 y0_98 (x5_98 + 1) M_98 N_98
noncomputable def D_X8_soonest_61 (P : Nat) (k38 : Int32 → Int32 → Int32 → Int32 → Int32 → zMt → zNt → Option (Int32 × zMt × zNt)) : Nat → Int32 → Int32 → Int32 → Int32 → Int32 → zMt → zNt → Option (Int32 × zMt × zNt)
  | 0, _, _, _, _, _, _, _ => none
  | n + 1, x1_61, x2_61, x3_61, x5_61, x6_61, M_61, N_61 =>
    zI x6_61 10 <|
    zB (D_X8_has (M_61 (P + 11) x6_61.toNatClampNeg) x3_61) fun e_69 =>
    if e_69 = 0 then
      (D_X8_soonest_61 P k38 n) x1_61 x2_61 x3_61 x5_61 (x6_61 + 1) M_61 N_61
    else
      zB (D_X8_hasFirst P M_61 x6_61) fun e_84 =>
      if e_84 = 0 then
        D_X8_soonest_98 P k38 x1_61 x2_61 x3_61 x5_61 (-1 : Int32) M_61 N_61
      else
        D_X8_soonest_98 P k38 x1_61 x2_61 x3_61 x5_61 (x5_61 + (1 : Int32)) M_61 N_61
noncomputable def D_X8_soonest_38 (P : Nat) : Nat → Int32 → Int32 → Int32 → Int32 → Int32 → zMt → zNt → Option (Int32 × zMt × zNt)
  | 0, _, _, _, _, _, _, _ => none
  | n + 1, x1_38, x2_38, x3_38, x4_38, x5_38, M_38, N_38 =>
    if x2_38 ≤ x5_38 then
      D_X8_soonest_106 P x4_38 M_38 N_38
    else
      if x4_38 = (-1 : Int32) then
        zB (D_X8_goesYear P (x1_38 + x5_38) M_38 N_38) fun e_55 =>
        D_X8_soonest_61 P (D_X8_soonest_38 P n) zFu x1_38 x2_38 x3_38 x5_38 (0 : Int32) e_55.1 e_55.2
      else
        D_X8_soonest_106 P x4_38 M_38 N_38
noncomputable def D_X8_soonest (P : Nat) (v0 : Int32) (v1 : Int32) (v2 : Int32) (M : zMt) (N : zNt) : Option (Int32 × zMt × zNt) :=
  zB (D_X8_areYears v0 v1) fun e_2 =>
  if e_2 = 0 then
    zB (D_X8_refuse P (1 : Int32) M) fun e_10 =>
    some (e_10.1, e_10.2, N)
  else
    zB (D_X8_isHunter P M v2) fun e_16 =>
    if e_16 = 0 then
      zB (D_X8_refuse P (2 : Int32) M) fun e_24 =>
      some (e_24.1, e_24.2, N)
    else
      zB (D_X8_putsAside P M) fun e_29 =>
      D_X8_soonest_38 P zFu v0 v1 v2 (-1 : Int32) (0 : Int32) e_29 N
set_option maxRecDepth 100000 in
set_option maxHeartbeats 4000000 in
theorem t_X8_soonest {l : Launch} {G : zG} {b : Nat} {L : List zC} {M : zMt} {N : zNt} {P : Nat} {v0 : Int32} {v1 : Int32} {v2 : Int32} (hP : LX8 L P) {r : Int32 × zMt × zNt} (h : D_X8_soonest P v0 v1 v2 M N = some r) : zM l G b yX8_soonest cX8_soonest 7 (some .int) 6 0 0 [.ref P, .int v0, .int v1, .int v2] (L, M, N) (fun r2 z => r2 = some (.int r.1) ∧ z = (L, r.2.1, r.2.2)) := by
  refine zM.of miX8_soonest (Nat.le_of_ble_eq_true rfl) ?_
  intro p e s m args below meth c X hr hname
  generalize hF : ((fun r2 z => r2 = some (.int r.1) ∧ z = (L, r.2.1, r.2.2)) : Option Value → zS → Prop) = FQ
  change Zw p l e { frames := 6, cells := 0, slots := 0, locals := 80 * (6) } s m args below meth c G b 7 (MQ below (zQ G b FQ) args s 0 0 (fun q : Nat => b ≤ q)) 0 0 0 [some (.ref P), some (.int v0), some (.int v1), some (.int v2), none, none, none] [] (L, M, N)
  obtain ⟨p_lt, p_o, p_s, p_read, p_aside, p_kept, p_guest, p_readGuest, p_tape, p_unitName, p_hunterName, p_partyName, p_bits, p_partyOf, p_choiceAt, p_sizes, p_guestMany, p_pointsOf, p_ticketsOf, p_ord, p_given, p_roundOf, p_tags, p_guestTags, p_places, p_sumAt, p_sumFirst, p_sumRound, p_sumBoth, p_sumTags, p_isEnd, p_newPoints, p_inRow, p_out⟩ := id hP
  have J_130 : ∀ (x1_130 : Int32) (x2_130 : Int32) (x3_130 : Int32) (x4_130 : Int32) (x5_130 : Int32) (x6_130 : Option Value) (y0_130 : Int32) (M_130 : zMt) (N_130 : zNt), D_X8_soonest_130 P y0_130 M_130 N_130 = some r → Zw p l e { frames := 6, cells := 0, slots := 0, locals := 80 * (6) } s m args below meth c G b 7 (MQ below (zQ G b FQ) args s 0 0 (fun q : Nat => b ≤ q)) 0 0 130 [some (.ref (P)), some (.int x1_130), some (.int x2_130), some (.int x3_130), some (.int x4_130), some (.int x5_130), x6_130] [.int y0_130] (L, M_130, N_130) := by
    intro x1_130 x2_130 x3_130 x4_130 x5_130 x6_130 y0_130 M_130 N_130 h
    unfold D_X8_soonest_130 at h
    refine a_iret X hr dX8_soonest_130 ⟨by decide, by decide⟩ ?_
    subst hF
    rw [← Option.some.inj h]
    exact ⟨rfl, rfl⟩
  have J_106 : ∀ (x1_106 : Int32) (x2_106 : Int32) (x3_106 : Int32) (x4_106 : Int32) (x5_106 : Int32) (x6_106 : Option Value) (M_106 : zMt) (N_106 : zNt), D_X8_soonest_106 P x4_106 M_106 N_106 = some r → Zw p l e { frames := 6, cells := 0, slots := 0, locals := 80 * (6) } s m args below meth c G b 7 (MQ below (zQ G b FQ) args s 0 0 (fun q : Nat => b ≤ q)) 0 0 106 [some (.ref (P)), some (.int x1_106), some (.int x2_106), some (.int x3_106), some (.int x4_106), some (.int x5_106), x6_106] [] (L, M_106, N_106) := by
    intro x1_106 x2_106 x3_106 x4_106 x5_106 x6_106 M_106 N_106 h
    unfold D_X8_soonest_106 at h
    refine a_aload_n X dX8_soonest_106 rfl ?_
    obtain ⟨e_107, f_107, h⟩ := zBx h
    refine a_callVu X dX8_soonest_107 miX8_takesBack lm8_449 (t_X8_takesBack (by assumption) f_107) (by assumption) rfl rfl rfl (Nat.le_of_ble_eq_true rfl) ⟨by decide, by decide, by decide, by decide⟩ ?_
    refine a_iload X dX8_soonest_110 rfl ?_
    refine a_iconst (v := -1) X dX8_soonest_112 (by decide) ?_
    refine a_icmp_ne (tgt := 124) X dX8_soonest_113 (by decide) (fun h_113 => ?_) (fun h_113 => ?_)
    · replace h := (if_neg h_113).symm.trans h
      refine a_aload_n X dX8_soonest_124 rfl ?_
      refine a_iload X dX8_soonest_125 rfl ?_
      obtain ⟨e_127, f_127, h⟩ := zBx h
      refine a_callVv X dX8_soonest_127 miX8_gives lm8_272 (t_X8_gives (by assumption) f_127) (by assumption) rfl rfl rfl (Nat.le_of_ble_eq_true rfl) ⟨by decide, by decide, by decide, by decide⟩ ?_
      exact Zw.to2 (J_130 _ _ _ _ _ _ _ _ _ h) rfl rfl rfl
    · replace h := (if_pos h_113).symm.trans h
      refine a_aload_n X dX8_soonest_116 rfl ?_
      refine a_iconst (v := 5) X dX8_soonest_117 (by decide) ?_
      obtain ⟨e_118, f_118, h⟩ := zBx h
      refine a_callVv X dX8_soonest_118 miX8_refuse lm8_263 (t_X8_refuse (by assumption) f_118) (by assumption) rfl rfl rfl (Nat.le_of_ble_eq_true rfl) ⟨by decide, by decide, by decide, by decide⟩ ?_
      refine a_goto (tgt := 130) X dX8_soonest_121 (by decide) ?_
      exact Zw.to2 (J_130 _ _ _ _ _ _ _ _ _ h) rfl rfl rfl
  have L_38 : ∀ u : Nat, ∀ (x1_38 : Int32) (x2_38 : Int32) (x3_38 : Int32) (x4_38 : Int32) (x5_38 : Int32) (x6_38 : Option Value) (M_38 : zMt) (N_38 : zNt), D_X8_soonest_38 P u x1_38 x2_38 x3_38 x4_38 x5_38 M_38 N_38 = some r → Zw p l e { frames := 6, cells := 0, slots := 0, locals := 80 * (6) } s m args below meth c G b 7 (MQ below (zQ G b FQ) args s 0 0 (fun q : Nat => b ≤ q)) 0 0 38 [some (.ref (P)), some (.int x1_38), some (.int x2_38), some (.int x3_38), some (.int x4_38), some (.int x5_38), x6_38] [] (L, M_38, N_38) := by
    intro u
    induction u with
    | zero => intro x1_38 x2_38 x3_38 x4_38 x5_38 x6_38 M_38 N_38 h; cases (show none = some r from h)
    | succ u_38 ih_38 =>
      have J_98 : ∀ (x1_98 : Int32) (x2_98 : Int32) (x3_98 : Int32) (x4_98 : Int32) (x5_98 : Int32) (x6_98 : Int32) (y0_98 : Int32) (M_98 : zMt) (N_98 : zNt), D_X8_soonest_98 P (D_X8_soonest_38 P u_38) x1_98 x2_98 x3_98 x5_98 y0_98 M_98 N_98 = some r → Zw p l e { frames := 6, cells := 0, slots := 0, locals := 80 * (6) } s m args below meth c G b 7 (MQ below (zQ G b FQ) args s 0 0 (fun q : Nat => b ≤ q)) 0 0 98 [some (.ref (P)), some (.int x1_98), some (.int x2_98), some (.int x3_98), some (.int x4_98), some (.int x5_98), some (.int x6_98)] [.int y0_98] (L, M_98, N_98) := by
        intro x1_98 x2_98 x3_98 x4_98 x5_98 x6_98 y0_98 M_98 N_98 h
        unfold D_X8_soonest_98 at h
        refine a_istore X dX8_soonest_98 (by decide) ?_
        refine a_iinc (v := x5_98 + 1) X dX8_soonest_100 (by decide) rfl zi_1 ?_
        refine a_goto (tgt := 38) X dX8_soonest_103 (by decide) ?_
        exact Zw.to2 (ih_38 _ _ _ _ _ _ _ _ h) rfl rfl rfl
      have L_61 : ∀ u : Nat, ∀ (x1_61 : Int32) (x2_61 : Int32) (x3_61 : Int32) (x4_61 : Int32) (x5_61 : Int32) (x6_61 : Int32) (M_61 : zMt) (N_61 : zNt), D_X8_soonest_61 P (D_X8_soonest_38 P u_38) u x1_61 x2_61 x3_61 x5_61 x6_61 M_61 N_61 = some r → Zw p l e { frames := 6, cells := 0, slots := 0, locals := 80 * (6) } s m args below meth c G b 7 (MQ below (zQ G b FQ) args s 0 0 (fun q : Nat => b ≤ q)) 0 0 61 [some (.ref (P)), some (.int x1_61), some (.int x2_61), some (.int x3_61), some (.int x4_61), some (.int x5_61), some (.int x6_61)] [] (L, M_61, N_61) := by
        intro u
        induction u with
        | zero => intro x1_61 x2_61 x3_61 x4_61 x5_61 x6_61 M_61 N_61 h; cases (show none = some r from h)
        | succ u_61 ih_61 =>
          intro x1_61 x2_61 x3_61 x4_61 x5_61 x6_61 M_61 N_61 h
          rw [D_X8_soonest_61] at h
          refine a_aload_n X dX8_soonest_61 rfl ?_
          refine a_getr X lf8_49 (by assumption) rfl (by omega) dX8_soonest_62 ?_
          refine a_iload X dX8_soonest_65 rfl ?_
          obtain ⟨g_67, h⟩ := zIx h
          refine a_iaload X (by assumption) g_67 dX8_soonest_67 ?_
          refine a_iload_n X dX8_soonest_68 rfl ?_
          obtain ⟨e_69, f_69, h⟩ := zBx h
          refine a_callSx X dX8_soonest_69 miX8_has lm8_240 (t_X8_has f_69) rfl rfl (Nat.le_of_ble_eq_true rfl) ⟨by decide, by decide, by decide, by decide⟩ (fun r_69 S_69 q_69 => ?_)
          obtain ⟨rfl, rfl, b_69⟩ := q_69
          refine a_if_ne (tgt := 81) X dX8_soonest_72 (by decide) (fun h_72 => ?_) (fun h_72 => ?_)
          · replace h := (if_neg h_72).symm.trans h
            refine a_aload_n X dX8_soonest_81 rfl ?_
            refine a_iload X dX8_soonest_82 rfl ?_
            obtain ⟨e_84, f_84, h⟩ := zBx h
            refine a_callVx X dX8_soonest_84 miX8_hasFirst lm8_387 (t_X8_hasFirst (by assumption) f_84) (by assumption) rfl rfl rfl (Nat.le_of_ble_eq_true rfl) ⟨by decide, by decide, by decide, by decide⟩ (fun r_84 S_84 q_84 => ?_)
            obtain ⟨rfl, rfl, b_84⟩ := q_84
            refine a_if_eq (tgt := 97) X dX8_soonest_87 (by decide) (fun h_87 => ?_) (fun h_87 => ?_)
            · replace h := (if_pos h_87).symm.trans h
              refine a_iconst (v := -1) X dX8_soonest_97 (by decide) ?_
              exact Zw.to2 (J_98 _ _ _ _ _ _ _ _ _ h) rfl rfl rfl
            · replace h := (if_neg h_87).symm.trans h
              refine a_iload X dX8_soonest_90 rfl ?_
              refine a_iconst (v := 1) X dX8_soonest_92 (by decide) ?_
              refine a_iadd X dX8_soonest_93 ?_
              refine a_goto (tgt := 98) X dX8_soonest_94 (by decide) ?_
              exact Zw.to2 (J_98 _ _ _ _ _ _ _ _ _ h) rfl rfl rfl
          · replace h := (if_pos h_72).symm.trans h
            refine a_iinc (v := x6_61 + 1) X dX8_soonest_75 (by decide) rfl zi_1 ?_
            refine a_goto (tgt := 61) X dX8_soonest_78 (by decide) ?_
            exact Zw.to2 (ih_61 _ _ _ _ _ _ _ _ h) rfl rfl rfl
      have H_61 : ∀ (x1_61 : Int32) (x2_61 : Int32) (x3_61 : Int32) (x4_61 : Int32) (x5_61 : Int32) (x6_61 : Int32) (M_61 : zMt) (N_61 : zNt), D_X8_soonest_61 P (D_X8_soonest_38 P u_38) zFu x1_61 x2_61 x3_61 x5_61 x6_61 M_61 N_61 = some r → Zw p l e { frames := 6, cells := 0, slots := 0, locals := 80 * (6) } s m args below meth c G b 7 (MQ below (zQ G b FQ) args s 0 0 (fun q : Nat => b ≤ q)) 0 0 61 [some (.ref (P)), some (.int x1_61), some (.int x2_61), some (.int x3_61), some (.int x4_61), some (.int x5_61), some (.int x6_61)] [] (L, M_61, N_61) := L_61 zFu
      intro x1_38 x2_38 x3_38 x4_38 x5_38 x6_38 M_38 N_38 h
      rw [D_X8_soonest_38] at h
      refine a_iload X dX8_soonest_38 rfl ?_
      refine a_iload_n X dX8_soonest_40 rfl ?_
      refine a_icmp_ge (tgt := 106) X dX8_soonest_41 (by decide) (fun h_41 => ?_) (fun h_41 => ?_)
      · replace h := (if_pos h_41).symm.trans h
        exact Zw.to2 (J_106 _ _ _ _ _ _ _ _ h) rfl rfl rfl
      · replace h := (if_neg h_41).symm.trans h
        refine a_iload X dX8_soonest_44 rfl ?_
        refine a_iconst (v := -1) X dX8_soonest_46 (by decide) ?_
        refine a_icmp_ne (tgt := 106) X dX8_soonest_47 (by decide) (fun h_47 => ?_) (fun h_47 => ?_)
        · replace h := (if_neg h_47).symm.trans h
          exact Zw.to2 (J_106 _ _ _ _ _ _ _ _ h) rfl rfl rfl
        · replace h := (if_pos h_47).symm.trans h
          refine a_aload_n X dX8_soonest_50 rfl ?_
          refine a_iload_n X dX8_soonest_51 rfl ?_
          refine a_iload X dX8_soonest_52 rfl ?_
          refine a_iadd X dX8_soonest_54 ?_
          obtain ⟨e_55, f_55, h⟩ := zBx h
          refine a_callVu X dX8_soonest_55 miX8_goesYear lm8_474 (t_X8_goesYear (by assumption) f_55) (by assumption) rfl rfl rfl (Nat.le_of_ble_eq_true rfl) ⟨by decide, by decide, by decide, by decide⟩ ?_
          refine a_iconst (v := 0) X dX8_soonest_58 (by decide) ?_
          refine a_istore X dX8_soonest_59 (by decide) ?_
          exact Zw.to2 (H_61 _ _ _ _ _ _ _ _ h) rfl rfl rfl
  have H_38 : ∀ (x1_38 : Int32) (x2_38 : Int32) (x3_38 : Int32) (x4_38 : Int32) (x5_38 : Int32) (x6_38 : Option Value) (M_38 : zMt) (N_38 : zNt), D_X8_soonest_38 P zFu x1_38 x2_38 x3_38 x4_38 x5_38 M_38 N_38 = some r → Zw p l e { frames := 6, cells := 0, slots := 0, locals := 80 * (6) } s m args below meth c G b 7 (MQ below (zQ G b FQ) args s 0 0 (fun q : Nat => b ≤ q)) 0 0 38 [some (.ref (P)), some (.int x1_38), some (.int x2_38), some (.int x3_38), some (.int x4_38), some (.int x5_38), x6_38] [] (L, M_38, N_38) := L_38 zFu
  unfold D_X8_soonest at h
  refine a_iload_n X dX8_soonest_0 rfl ?_
  refine a_iload_n X dX8_soonest_1 rfl ?_
  obtain ⟨e_2, f_2, h⟩ := zBx h
  refine a_callSx X dX8_soonest_2 miX8_areYears lm8_471 (t_X8_areYears f_2) rfl rfl (Nat.le_of_ble_eq_true rfl) ⟨by decide, by decide, by decide, by decide⟩ (fun r_2 S_2 q_2 => ?_)
  obtain ⟨rfl, rfl, b_2⟩ := q_2
  refine a_if_ne (tgt := 14) X dX8_soonest_5 (by decide) (fun h_5 => ?_) (fun h_5 => ?_)
  · replace h := (if_neg h_5).symm.trans h
    refine a_aload_n X dX8_soonest_14 rfl ?_
    refine a_iload_n X dX8_soonest_15 rfl ?_
    obtain ⟨e_16, f_16, h⟩ := zBx h
    refine a_callVx X dX8_soonest_16 miX8_isHunter lm8_293 (t_X8_isHunter (by assumption) f_16) (by assumption) rfl rfl rfl (Nat.le_of_ble_eq_true rfl) ⟨by decide, by decide, by decide, by decide⟩ (fun r_16 S_16 q_16 => ?_)
    obtain ⟨rfl, rfl, b_16⟩ := q_16
    refine a_if_ne (tgt := 28) X dX8_soonest_19 (by decide) (fun h_19 => ?_) (fun h_19 => ?_)
    · replace h := (if_neg h_19).symm.trans h
      refine a_aload_n X dX8_soonest_28 rfl ?_
      obtain ⟨e_29, f_29, h⟩ := zBx h
      refine a_callVu X dX8_soonest_29 miX8_putsAside lm8_444 (t_X8_putsAside (by assumption) f_29) (by assumption) rfl rfl rfl (Nat.le_of_ble_eq_true rfl) ⟨by decide, by decide, by decide, by decide⟩ ?_
      refine a_iconst (v := -1) X dX8_soonest_32 (by decide) ?_
      refine a_istore X dX8_soonest_33 (by decide) ?_
      refine a_iconst (v := 0) X dX8_soonest_35 (by decide) ?_
      refine a_istore X dX8_soonest_36 (by decide) ?_
      exact Zw.to2 (H_38 _ _ _ _ _ _ _ _ h) rfl rfl rfl
    · replace h := (if_pos h_19).symm.trans h
      refine a_aload_n X dX8_soonest_22 rfl ?_
      refine a_iconst (v := 2) X dX8_soonest_23 (by decide) ?_
      obtain ⟨e_24, f_24, h⟩ := zBx h
      refine a_callVv X dX8_soonest_24 miX8_refuse lm8_263 (t_X8_refuse (by assumption) f_24) (by assumption) rfl rfl rfl (Nat.le_of_ble_eq_true rfl) ⟨by decide, by decide, by decide, by decide⟩ ?_
      refine a_iret X hr dX8_soonest_27 ⟨by decide, by decide⟩ ?_
      subst hF
      rw [← Option.some.inj h]
      exact ⟨rfl, rfl⟩
  · replace h := (if_pos h_5).symm.trans h
    refine a_aload_n X dX8_soonest_8 rfl ?_
    refine a_iconst (v := 1) X dX8_soonest_9 (by decide) ?_
    obtain ⟨e_10, f_10, h⟩ := zBx h
    refine a_callVv X dX8_soonest_10 miX8_refuse lm8_263 (t_X8_refuse (by assumption) f_10) (by assumption) rfl rfl rfl (Nat.le_of_ble_eq_true rfl) ⟨by decide, by decide, by decide, by decide⟩ ?_
    refine a_iret X hr dX8_soonest_13 ⟨by decide, by decide⟩ ?_
    subst hF
    rw [← Option.some.inj h]
    exact ⟨rfl, rfl⟩
noncomputable def D_X8_keeps_52 (P : Nat) : Nat → Int32 → zMt → Option (zMt)
  | 0, _, _ => none
  | n + 1, x1_52, M_52 =>
    if (82 : Int32) ≤ x1_52 then
      zLt (zu M_52 P 9 ((M_52 P 9) + (1 : Int32))) fun M_91 =>
      some (M_91)
    else
      zI x1_52 82 <|
      zI (((82 : Int32) * (M_52 P 9)) + x1_52) 656 <|
      zLt (zu M_52 (P + 4) (((82 : Int32) * (M_52 P 9)) + x1_52).toNatClampNeg (M_52 (P + 1) x1_52.toNatClampNeg)) fun M_77 =>
      (D_X8_keeps_52 P n) (x1_52 + 1) M_77
noncomputable def D_X8_keeps_50 (P : Nat) (M_50 : zMt) : Option (zMt) :=
  D_X8_keeps_52 P zFu (0 : Int32) M_50
noncomputable def D_X8_keeps_12 (P : Nat) : Nat → Int32 → zMt → Option (zMt)
  | 0, _, _ => none
  | n + 1, x1_12, M_12 =>
    if (656 : Int32) ≤ x1_12 then
      zLt (zu M_12 P 9 ((M_12 P 9) - (1 : Int32))) fun M_47 =>
      D_X8_keeps_50 P M_47
    else
      zI x1_12 656 <|
      zI (x1_12 - (82 : Int32)) 656 <|
      zLt (zu M_12 (P + 4) (x1_12 - (82 : Int32)).toNatClampNeg (M_12 (P + 4) x1_12.toNatClampNeg)) fun M_33 =>
      (D_X8_keeps_12 P n) (x1_12 + 1) M_33
noncomputable def D_X8_keeps (P : Nat) (M : zMt) : Option (zMt) :=
  if (M P 9) = (8 : Int32) then
    D_X8_keeps_12 P zFu (82 : Int32) M
  else
    D_X8_keeps_50 P M
set_option maxRecDepth 100000 in
set_option maxHeartbeats 4000000 in
theorem t_X8_keeps {l : Launch} {G : zG} {b : Nat} {L : List zC} {M : zMt} {N : zNt} {P : Nat}  (hP : LX8 L P) {r : zMt} (h : D_X8_keeps P M = some r) : zM l G b yX8_keeps cX8_keeps 2 none 0 0 0 [.ref P] (L, M, N) (fun r2 z => r2 = none ∧ z = (L, r, N)) := by
  refine zM.of miX8_keeps (Nat.le_of_ble_eq_true rfl) ?_
  intro p e s m args below meth c X hr hname
  generalize hF : ((fun r2 z => r2 = none ∧ z = (L, r, N)) : Option Value → zS → Prop) = FQ
  change Zw p l e { frames := 0, cells := 0, slots := 0, locals := 80 * (0) } s m args below meth c G b 2 (MQ below (zQ G b FQ) args s 0 0 (fun q : Nat => b ≤ q)) 0 0 0 [some (.ref P), none] [] (L, M, N)
  obtain ⟨p_lt, p_o, p_s, p_read, p_aside, p_kept, p_guest, p_readGuest, p_tape, p_unitName, p_hunterName, p_partyName, p_bits, p_partyOf, p_choiceAt, p_sizes, p_guestMany, p_pointsOf, p_ticketsOf, p_ord, p_given, p_roundOf, p_tags, p_guestTags, p_places, p_sumAt, p_sumFirst, p_sumRound, p_sumBoth, p_sumTags, p_isEnd, p_newPoints, p_inRow, p_out⟩ := id hP
  have L_52 : ∀ u : Nat, ∀ (x1_52 : Int32) (M_52 : zMt), D_X8_keeps_52 P u x1_52 M_52 = some r → Zw p l e { frames := 0, cells := 0, slots := 0, locals := 80 * (0) } s m args below meth c G b 2 (MQ below (zQ G b FQ) args s 0 0 (fun q : Nat => b ≤ q)) 0 0 52 [some (.ref (P)), some (.int x1_52)] [] (L, M_52, N) := by
    intro u
    induction u with
    | zero => intro x1_52 M_52 h; cases (show none = some r from h)
    | succ u_52 ih_52 =>
      intro x1_52 M_52 h
      rw [D_X8_keeps_52] at h
      refine a_iload_n X dX8_keeps_52 rfl ?_
      refine a_bipush (v := 82) X dX8_keeps_53 (by decide) ?_
      refine a_icmp_ge (tgt := 84) X dX8_keeps_55 (by decide) (fun h_55 => ?_) (fun h_55 => ?_)
      · replace h := (if_pos h_55).symm.trans h
        refine a_aload_n X dX8_keeps_84 rfl ?_
        refine a_dup X dX8_keeps_85 rfl ?_
        refine a_geti X lf8_269 (by assumption) rfl dX8_keeps_86 ?_
        refine a_iconst (v := 1) X dX8_keeps_89 (by decide) ?_
        refine a_iadd X dX8_keeps_90 ?_
        obtain ⟨M_91, f_91, h⟩ := zLtx h
        refine d_puti X lf8_269 (by assumption) rfl dX8_keeps_91 f_91 ?_
        refine a_vret X hr dX8_keeps_94 ⟨by decide, by decide⟩ ?_
        subst hF
        rw [← Option.some.inj h]
        exact ⟨rfl, rfl⟩
      · replace h := (if_neg h_55).symm.trans h
        refine a_aload_n X dX8_keeps_58 rfl ?_
        refine a_getr X lf8_19 (by assumption) rfl (by omega) dX8_keeps_59 ?_
        refine a_bipush (v := 82) X dX8_keeps_62 (by decide) ?_
        refine a_aload_n X dX8_keeps_64 rfl ?_
        refine a_geti X lf8_269 (by assumption) rfl dX8_keeps_65 ?_
        refine a_imul X dX8_keeps_68 ?_
        refine a_iload_n X dX8_keeps_69 rfl ?_
        refine a_iadd X dX8_keeps_70 ?_
        refine a_aload_n X dX8_keeps_71 rfl ?_
        refine a_getr X lf8_7 (by assumption) rfl (by omega) dX8_keeps_72 ?_
        refine a_iload_n X dX8_keeps_75 rfl ?_
        obtain ⟨g_76, h⟩ := zIx h
        refine a_iaload X (by assumption) g_76 dX8_keeps_76 ?_
        obtain ⟨g_77, h⟩ := zIx h
        obtain ⟨M_77, f_77, h⟩ := zLtx h
        refine d_iastore X (by assumption) g_77 dX8_keeps_77 f_77 ?_
        refine a_iinc (v := x1_52 + 1) X dX8_keeps_78 (by decide) rfl zi_1 ?_
        refine a_goto (tgt := 52) X dX8_keeps_81 (by decide) ?_
        exact Zw.to2 (ih_52 _ _ h) rfl rfl rfl
  have H_52 : ∀ (x1_52 : Int32) (M_52 : zMt), D_X8_keeps_52 P zFu x1_52 M_52 = some r → Zw p l e { frames := 0, cells := 0, slots := 0, locals := 80 * (0) } s m args below meth c G b 2 (MQ below (zQ G b FQ) args s 0 0 (fun q : Nat => b ≤ q)) 0 0 52 [some (.ref (P)), some (.int x1_52)] [] (L, M_52, N) := L_52 zFu
  have J_50 : ∀ (x1_50 : Option Value) (M_50 : zMt), D_X8_keeps_50 P M_50 = some r → Zw p l e { frames := 0, cells := 0, slots := 0, locals := 80 * (0) } s m args below meth c G b 2 (MQ below (zQ G b FQ) args s 0 0 (fun q : Nat => b ≤ q)) 0 0 50 [some (.ref (P)), x1_50] [] (L, M_50, N) := by
    intro x1_50 M_50 h
    unfold D_X8_keeps_50 at h
    refine a_iconst (v := 0) X dX8_keeps_50 (by decide) ?_
    refine a_istore_n X dX8_keeps_51 (by decide) ?_
    exact Zw.to2 (H_52 _ _ h) rfl rfl rfl
  have L_12 : ∀ u : Nat, ∀ (x1_12 : Int32) (M_12 : zMt), D_X8_keeps_12 P u x1_12 M_12 = some r → Zw p l e { frames := 0, cells := 0, slots := 0, locals := 80 * (0) } s m args below meth c G b 2 (MQ below (zQ G b FQ) args s 0 0 (fun q : Nat => b ≤ q)) 0 0 12 [some (.ref (P)), some (.int x1_12)] [] (L, M_12, N) := by
    intro u
    induction u with
    | zero => intro x1_12 M_12 h; cases (show none = some r from h)
    | succ u_12 ih_12 =>
      intro x1_12 M_12 h
      rw [D_X8_keeps_12] at h
      refine a_iload_n X dX8_keeps_12 rfl ?_
      refine a_sipush (v := 656) X dX8_keeps_13 (by decide) ?_
      refine a_icmp_ge (tgt := 40) X dX8_keeps_16 (by decide) (fun h_16 => ?_) (fun h_16 => ?_)
      · replace h := (if_pos h_16).symm.trans h
        refine a_aload_n X dX8_keeps_40 rfl ?_
        refine a_dup X dX8_keeps_41 rfl ?_
        refine a_geti X lf8_269 (by assumption) rfl dX8_keeps_42 ?_
        refine a_iconst (v := 1) X dX8_keeps_45 (by decide) ?_
        refine a_isub X dX8_keeps_46 ?_
        obtain ⟨M_47, f_47, h⟩ := zLtx h
        refine d_puti X lf8_269 (by assumption) rfl dX8_keeps_47 f_47 ?_
        exact Zw.to2 (J_50 _ _ h) rfl rfl rfl
      · replace h := (if_neg h_16).symm.trans h
        refine a_aload_n X dX8_keeps_19 rfl ?_
        refine a_getr X lf8_19 (by assumption) rfl (by omega) dX8_keeps_20 ?_
        refine a_iload_n X dX8_keeps_23 rfl ?_
        refine a_bipush (v := 82) X dX8_keeps_24 (by decide) ?_
        refine a_isub X dX8_keeps_26 ?_
        refine a_aload_n X dX8_keeps_27 rfl ?_
        refine a_getr X lf8_19 (by assumption) rfl (by omega) dX8_keeps_28 ?_
        refine a_iload_n X dX8_keeps_31 rfl ?_
        obtain ⟨g_32, h⟩ := zIx h
        refine a_iaload X (by assumption) g_32 dX8_keeps_32 ?_
        obtain ⟨g_33, h⟩ := zIx h
        obtain ⟨M_33, f_33, h⟩ := zLtx h
        refine d_iastore X (by assumption) g_33 dX8_keeps_33 f_33 ?_
        refine a_iinc (v := x1_12 + 1) X dX8_keeps_34 (by decide) rfl zi_1 ?_
        refine a_goto (tgt := 12) X dX8_keeps_37 (by decide) ?_
        exact Zw.to2 (ih_12 _ _ h) rfl rfl rfl
  have H_12 : ∀ (x1_12 : Int32) (M_12 : zMt), D_X8_keeps_12 P zFu x1_12 M_12 = some r → Zw p l e { frames := 0, cells := 0, slots := 0, locals := 80 * (0) } s m args below meth c G b 2 (MQ below (zQ G b FQ) args s 0 0 (fun q : Nat => b ≤ q)) 0 0 12 [some (.ref (P)), some (.int x1_12)] [] (L, M_12, N) := L_12 zFu
  unfold D_X8_keeps at h
  refine a_aload_n X dX8_keeps_0 rfl ?_
  refine a_geti X lf8_269 (by assumption) rfl dX8_keeps_1 ?_
  refine a_bipush (v := 8) X dX8_keeps_4 (by decide) ?_
  refine a_icmp_ne (tgt := 50) X dX8_keeps_6 (by decide) (fun h_6 => ?_) (fun h_6 => ?_)
  · replace h := (if_neg h_6).symm.trans h
    exact Zw.to2 (J_50 _ _ h) rfl rfl rfl
  · replace h := (if_pos h_6).symm.trans h
    refine a_bipush (v := 82) X dX8_keeps_9 (by decide) ?_
    refine a_istore_n X dX8_keeps_11 (by decide) ?_
    exact Zw.to2 (H_12 _ _ h) rfl rfl rfl
noncomputable def D_X8_undo_25 (P : Nat) : Nat → Int32 → zMt → Option (Int32 × zMt)
  | 0, _, _ => none
  | n + 1, x1_25, M_25 =>
    if (82 : Int32) ≤ x1_25 then
      zB (D_X8_gives P (M_25 P 9) M_25) fun e_62 =>
      some (e_62.1, e_62.2)
    else
      zI (((82 : Int32) * (M_25 P 9)) + x1_25) 656 <|
      zI x1_25 82 <|
      zLt (zu M_25 (P + 1) x1_25.toNatClampNeg (M_25 (P + 4) (((82 : Int32) * (M_25 P 9)) + x1_25).toNatClampNeg)) fun M_50 =>
      (D_X8_undo_25 P n) (x1_25 + 1) M_50
noncomputable def D_X8_undo (P : Nat) (M : zMt) : Option (Int32 × zMt) :=
  if (M P 9) = 0 then
    zB (D_X8_refuse P (5 : Int32) M) fun e_9 =>
    some (e_9.1, e_9.2)
  else
    zLt (zu M P 9 ((M P 9) - (1 : Int32))) fun M_20 =>
    D_X8_undo_25 P zFu (0 : Int32) M_20
set_option maxRecDepth 100000 in
set_option maxHeartbeats 4000000 in
theorem t_X8_undo {l : Launch} {G : zG} {b : Nat} {L : List zC} {M : zMt} {N : zNt} {P : Nat}  (hP : LX8 L P) {r : Int32 × zMt} (h : D_X8_undo P M = some r) : zM l G b yX8_undo cX8_undo 2 (some .int) 1 0 0 [.ref P] (L, M, N) (fun r2 z => r2 = some (.int r.1) ∧ z = (L, r.2, N)) := by
  refine zM.of miX8_undo (Nat.le_of_ble_eq_true rfl) ?_
  intro p e s m args below meth c X hr hname
  generalize hF : ((fun r2 z => r2 = some (.int r.1) ∧ z = (L, r.2, N)) : Option Value → zS → Prop) = FQ
  change Zw p l e { frames := 1, cells := 0, slots := 0, locals := 80 * (1) } s m args below meth c G b 2 (MQ below (zQ G b FQ) args s 0 0 (fun q : Nat => b ≤ q)) 0 0 0 [some (.ref P), none] [] (L, M, N)
  obtain ⟨p_lt, p_o, p_s, p_read, p_aside, p_kept, p_guest, p_readGuest, p_tape, p_unitName, p_hunterName, p_partyName, p_bits, p_partyOf, p_choiceAt, p_sizes, p_guestMany, p_pointsOf, p_ticketsOf, p_ord, p_given, p_roundOf, p_tags, p_guestTags, p_places, p_sumAt, p_sumFirst, p_sumRound, p_sumBoth, p_sumTags, p_isEnd, p_newPoints, p_inRow, p_out⟩ := id hP
  have L_25 : ∀ u : Nat, ∀ (x1_25 : Int32) (M_25 : zMt), D_X8_undo_25 P u x1_25 M_25 = some r → Zw p l e { frames := 1, cells := 0, slots := 0, locals := 80 * (1) } s m args below meth c G b 2 (MQ below (zQ G b FQ) args s 0 0 (fun q : Nat => b ≤ q)) 0 0 25 [some (.ref (P)), some (.int x1_25)] [] (L, M_25, N) := by
    intro u
    induction u with
    | zero => intro x1_25 M_25 h; cases (show none = some r from h)
    | succ u_25 ih_25 =>
      intro x1_25 M_25 h
      rw [D_X8_undo_25] at h
      refine a_iload_n X dX8_undo_25 rfl ?_
      refine a_bipush (v := 82) X dX8_undo_26 (by decide) ?_
      refine a_icmp_ge (tgt := 57) X dX8_undo_28 (by decide) (fun h_28 => ?_) (fun h_28 => ?_)
      · replace h := (if_pos h_28).symm.trans h
        refine a_aload_n X dX8_undo_57 rfl ?_
        refine a_aload_n X dX8_undo_58 rfl ?_
        refine a_geti X lf8_269 (by assumption) rfl dX8_undo_59 ?_
        obtain ⟨e_62, f_62, h⟩ := zBx h
        refine a_callVv X dX8_undo_62 miX8_gives lm8_272 (t_X8_gives (by assumption) f_62) (by assumption) rfl rfl rfl (Nat.le_of_ble_eq_true rfl) ⟨by decide, by decide, by decide, by decide⟩ ?_
        refine a_iret X hr dX8_undo_65 ⟨by decide, by decide⟩ ?_
        subst hF
        rw [← Option.some.inj h]
        exact ⟨rfl, rfl⟩
      · replace h := (if_neg h_28).symm.trans h
        refine a_aload_n X dX8_undo_31 rfl ?_
        refine a_getr X lf8_7 (by assumption) rfl (by omega) dX8_undo_32 ?_
        refine a_iload_n X dX8_undo_35 rfl ?_
        refine a_aload_n X dX8_undo_36 rfl ?_
        refine a_getr X lf8_19 (by assumption) rfl (by omega) dX8_undo_37 ?_
        refine a_bipush (v := 82) X dX8_undo_40 (by decide) ?_
        refine a_aload_n X dX8_undo_42 rfl ?_
        refine a_geti X lf8_269 (by assumption) rfl dX8_undo_43 ?_
        refine a_imul X dX8_undo_46 ?_
        refine a_iload_n X dX8_undo_47 rfl ?_
        refine a_iadd X dX8_undo_48 ?_
        obtain ⟨g_49, h⟩ := zIx h
        refine a_iaload X (by assumption) g_49 dX8_undo_49 ?_
        obtain ⟨g_50, h⟩ := zIx h
        obtain ⟨M_50, f_50, h⟩ := zLtx h
        refine d_iastore X (by assumption) g_50 dX8_undo_50 f_50 ?_
        refine a_iinc (v := x1_25 + 1) X dX8_undo_51 (by decide) rfl zi_1 ?_
        refine a_goto (tgt := 25) X dX8_undo_54 (by decide) ?_
        exact Zw.to2 (ih_25 _ _ h) rfl rfl rfl
  have H_25 : ∀ (x1_25 : Int32) (M_25 : zMt), D_X8_undo_25 P zFu x1_25 M_25 = some r → Zw p l e { frames := 1, cells := 0, slots := 0, locals := 80 * (1) } s m args below meth c G b 2 (MQ below (zQ G b FQ) args s 0 0 (fun q : Nat => b ≤ q)) 0 0 25 [some (.ref (P)), some (.int x1_25)] [] (L, M_25, N) := L_25 zFu
  unfold D_X8_undo at h
  refine a_aload_n X dX8_undo_0 rfl ?_
  refine a_geti X lf8_269 (by assumption) rfl dX8_undo_1 ?_
  refine a_if_ne (tgt := 13) X dX8_undo_4 (by decide) (fun h_4 => ?_) (fun h_4 => ?_)
  · replace h := (if_neg h_4).symm.trans h
    refine a_aload_n X dX8_undo_13 rfl ?_
    refine a_dup X dX8_undo_14 rfl ?_
    refine a_geti X lf8_269 (by assumption) rfl dX8_undo_15 ?_
    refine a_iconst (v := 1) X dX8_undo_18 (by decide) ?_
    refine a_isub X dX8_undo_19 ?_
    obtain ⟨M_20, f_20, h⟩ := zLtx h
    refine d_puti X lf8_269 (by assumption) rfl dX8_undo_20 f_20 ?_
    refine a_iconst (v := 0) X dX8_undo_23 (by decide) ?_
    refine a_istore_n X dX8_undo_24 (by decide) ?_
    exact Zw.to2 (H_25 _ _ h) rfl rfl rfl
  · replace h := (if_pos h_4).symm.trans h
    refine a_aload_n X dX8_undo_7 rfl ?_
    refine a_iconst (v := 5) X dX8_undo_8 (by decide) ?_
    obtain ⟨e_9, f_9, h⟩ := zBx h
    refine a_callVv X dX8_undo_9 miX8_refuse lm8_263 (t_X8_refuse (by assumption) f_9) (by assumption) rfl rfl rfl (Nat.le_of_ble_eq_true rfl) ⟨by decide, by decide, by decide, by decide⟩ ?_
    refine a_iret X hr dX8_undo_12 ⟨by decide, by decide⟩ ?_
    subst hF
    rw [← Option.some.inj h]
    exact ⟨rfl, rfl⟩
