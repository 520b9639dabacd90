noncomputable def D_X8_ends_43 (P : Nat) (k21 : Int32 → Int32 → zMt → zNt → Option (Int32 × zMt × zNt)) (x2_43 : Int32) (y0_43 : Int32) (y1_43 : Int32) (M_43 : zMt) (N_43 : zNt) : Option (Int32 × zMt × zNt) :=
  k21 (y0_43 + y1_43) (x2_43 + 1) M_43 N_43
noncomputable def D_X8_ends_21 (P : Nat) : Nat → Int32 → Int32 → zMt → zNt → Option (Int32 × zMt × zNt)
  | 0, _, _, _, _ => none
  | n + 1, x1_21, x2_21, M_21, N_21 =>
    if (128 : Int32) ≤ x2_21 then
      zB (D_X8_gives P x1_21 M_21) fun e_53 =>
      some (e_53.1, e_53.2, N_21)
    else
      zI x2_21 128 <|
      if (M_21 (P + 29) x2_21.toNatClampNeg) = 0 then
        D_X8_ends_43 P (D_X8_ends_21 P n) x2_21 x1_21 (0 : Int32) M_21 N_21
      else
        D_X8_ends_43 P (D_X8_ends_21 P n) x2_21 x1_21 (1 : Int32) M_21 N_21
noncomputable def D_X8_ends (P : Nat) (M : zMt) (N : zNt) : Option (Int32 × zMt × zNt) :=
  zB (D_X8_areMany P M) fun e_1 =>
  if e_1.1 = 0 then
    zB (D_X8_laysAll P e_1.2 N) fun e_14 =>
    D_X8_ends_21 P zFu (0 : Int32) (0 : Int32) e_14.1 e_14.2
  else
    zB (D_X8_refuse P (3 : Int32) e_1.2) fun e_9 =>
    some (e_9.1, e_9.2, N)
set_option maxRecDepth 100000 in
set_option maxHeartbeats 4000000 in
theorem t_X8_ends {l : Launch} {G : zG} {b : Nat} {L : List zC} {M : zMt} {N : zNt} {P : Nat} (hP : LX8 L P)  {r : Int32 × zMt × zNt} (h : D_X8_ends P M N = some r) : zM l G b yX8_ends cX8_ends 3 (some .int) 14 0 0 [.ref P] (L, M, N) (fun r2 z => r2 = some (.int r.1) ∧ z = (L, r.2.1, r.2.2)) := by
  refine zM.of miX8_ends (Nat.le_of_ble_eq_true rfl) ?_
  intro p e s m args below meth c X hr hname
  generalize hF : ((fun r2 z => r2 = some (.int r.1) ∧ z = (L, r.2.1, r.2.2)) : Option Value → zS → Prop) = FQ
  change Zw p l e { frames := 14, cells := 0, slots := 0, locals := 80 * (14) } s m args below meth c G b 3 (MQ below (zQ G b FQ) args s 0 0 (fun q : Nat => b ≤ q)) 0 0 0 [some (.ref P), none, none] [] (L, M, N)
  obtain ⟨p_lt, p_o, p_s, p_read, p_aside, p_kept, p_guest, p_readGuest, p_tape, p_unitName, p_hunterName, p_partyName, p_bits, p_partyOf, p_choiceAt, p_sizes, p_guestMany, p_pointsOf, p_ticketsOf, p_ord, p_given, p_roundOf, p_tags, p_guestTags, p_places, p_sumAt, p_sumFirst, p_sumRound, p_sumBoth, p_sumTags, p_isEnd, p_newPoints, p_inRow, p_out⟩ := id hP
  have L_21 : ∀ u : Nat, ∀ (x1_21 : Int32) (x2_21 : Int32) (M_21 : zMt) (N_21 : zNt), D_X8_ends_21 P u x1_21 x2_21 M_21 N_21 = some r → Zw p l e { frames := 14, cells := 0, slots := 0, locals := 80 * (14) } s m args below meth c G b 3 (MQ below (zQ G b FQ) args s 0 0 (fun q : Nat => b ≤ q)) 0 0 21 [some (.ref (P)), some (.int x1_21), some (.int x2_21)] [] (L, M_21, N_21) := by
    intro u
    induction u with
    | zero => intro x1_21 x2_21 M_21 N_21 h; cases (show none = some r from h)
    | succ u_21 ih_21 =>
      have J_43 : ∀ (x1_43 : Int32) (x2_43 : Int32) (y0_43 : Int32) (y1_43 : Int32) (M_43 : zMt) (N_43 : zNt), (y1_43 = 0 ∨ y1_43 = 1) → D_X8_ends_43 P (D_X8_ends_21 P u_21) x2_43 y0_43 y1_43 M_43 N_43 = some r → Zw p l e { frames := 14, cells := 0, slots := 0, locals := 80 * (14) } s m args below meth c G b 3 (MQ below (zQ G b FQ) args s 0 0 (fun q : Nat => b ≤ q)) 0 0 43 [some (.ref (P)), some (.int x1_43), some (.int x2_43)] [.int y1_43, .int y0_43] (L, M_43, N_43) := by
        intro x1_43 x2_43 y0_43 y1_43 M_43 N_43 fb_y1_43 h
        unfold D_X8_ends_43 at h
        refine a_iadd X dX8_ends_43 ?_
        refine a_istore_n X dX8_ends_44 (by decide) ?_
        refine a_iinc (v := x2_43 + 1) X dX8_ends_45 (by decide) rfl zi_1 ?_
        refine a_goto (tgt := 21) X dX8_ends_48 (by decide) ?_
        exact Zw.to2 (ih_21 _ _ _ _ h) rfl rfl rfl
      intro x1_21 x2_21 M_21 N_21 h
      rw [D_X8_ends_21] at h
      refine a_iload_n X dX8_ends_21 rfl ?_
      refine a_sipush (v := 128) X dX8_ends_22 (by decide) ?_
      refine a_icmp_ge (tgt := 51) X dX8_ends_25 (by decide) (fun h_25 => ?_) (fun h_25 => ?_)
      · replace h := (if_pos h_25).symm.trans h
        refine a_aload_n X dX8_ends_51 rfl ?_
        refine a_iload_n X dX8_ends_52 rfl ?_
        obtain ⟨e_53, f_53, h⟩ := zBx h
        refine a_callVv X dX8_ends_53 miX8_gives lm8_272 (t_X8_gives (by assumption) f_53) (by assumption) rfl rfl rfl (Nat.le_of_ble_eq_true rfl) ⟨by decide, by decide, by decide, by decide⟩ ?_
        refine a_iret X hr dX8_ends_56 ⟨by decide, by decide⟩ ?_
        subst hF
        rw [← Option.some.inj h]
        exact ⟨rfl, rfl⟩
      · replace h := (if_neg h_25).symm.trans h
        refine a_iload_n X dX8_ends_28 rfl ?_
        refine a_aload_n X dX8_ends_29 rfl ?_
        refine a_getr X lf8_103 (by assumption) rfl (by omega) dX8_ends_30 ?_
        refine a_iload_n X dX8_ends_33 rfl ?_
        obtain ⟨g_34, h⟩ := zIx h
        refine a_baload X (by assumption) g_34 dX8_ends_34 ?_
        refine a_if_eq (tgt := 42) X dX8_ends_35 (by decide) (fun h_35 => ?_) (fun h_35 => ?_)
        · replace h := (if_pos h_35).symm.trans h
          refine a_iconst (v := 0) X dX8_ends_42 (by decide) ?_
          exact Zw.to2 (J_43 _ _ _ _ _ _ (by first | exact Or.inl rfl | exact Or.inr rfl | assumption) h) rfl rfl rfl
        · replace h := (if_neg h_35).symm.trans h
          refine a_iconst (v := 1) X dX8_ends_38 (by decide) ?_
          refine a_goto (tgt := 43) X dX8_ends_39 (by decide) ?_
          exact Zw.to2 (J_43 _ _ _ _ _ _ (by first | exact Or.inl rfl | exact Or.inr rfl | assumption) h) rfl rfl rfl
  have H_21 : ∀ (x1_21 : Int32) (x2_21 : Int32) (M_21 : zMt) (N_21 : zNt), D_X8_ends_21 P zFu x1_21 x2_21 M_21 N_21 = some r → Zw p l e { frames := 14, cells := 0, slots := 0, locals := 80 * (14) } s m args below meth c G b 3 (MQ below (zQ G b FQ) args s 0 0 (fun q : Nat => b ≤ q)) 0 0 21 [some (.ref (P)), some (.int x1_21), some (.int x2_21)] [] (L, M_21, N_21) := L_21 zFu
  unfold D_X8_ends at h
  refine a_aload_n X dX8_ends_0 rfl ?_
  obtain ⟨e_1, f_1, h⟩ := zBx h
  refine a_callVx X dX8_ends_1 miX8_areMany lm8_429 (t_X8_areMany (by assumption) f_1) (by assumption) rfl rfl rfl (Nat.le_of_ble_eq_true rfl) ⟨by decide, by decide, by decide, by decide⟩ (fun r_1 S_1 q_1 => ?_)
  obtain ⟨rfl, rfl, b_1⟩ := q_1
  refine a_if_eq (tgt := 13) X dX8_ends_4 (by decide) (fun h_4 => ?_) (fun h_4 => ?_)
  · replace h := (if_pos h_4).symm.trans h
    refine a_aload_n X dX8_ends_13 rfl ?_
    obtain ⟨e_14, f_14, h⟩ := zBx h
    refine a_callVu X dX8_ends_14 miX8_laysAll lm8_432 (t_X8_laysAll (by assumption) f_14) (by assumption) rfl rfl rfl (Nat.le_of_ble_eq_true rfl) ⟨by decide, by decide, by decide, by decide⟩ ?_
    refine a_iconst (v := 0) X dX8_ends_17 (by decide) ?_
    refine a_istore_n X dX8_ends_18 (by decide) ?_
    refine a_iconst (v := 0) X dX8_ends_19 (by decide) ?_
    refine a_istore_n X dX8_ends_20 (by decide) ?_
    exact Zw.to2 (H_21 _ _ _ _ h) rfl rfl rfl
  · replace h := (if_neg h_4).symm.trans h
    refine a_aload_n X dX8_ends_7 rfl ?_
    refine a_iconst (v := 3) X dX8_ends_8 (by decide) ?_
    obtain ⟨e_9, f_9, h⟩ := zBx h
    refine a_callVv X dX8_ends_9 miX8_refuse lm8_263 (t_X8_refuse (by assumption) f_9) (by assumption) rfl rfl rfl (Nat.le_of_ble_eq_true rfl) ⟨by decide, by decide, by decide, by decide⟩ ?_
    refine a_iret X hr dX8_ends_12 ⟨by decide, by decide⟩ ?_
    subst hF
    rw [← Option.some.inj h]
    exact ⟨rfl, rfl⟩
noncomputable def D_X8_putsAside_2 (P : Nat) : Nat → Int32 → zMt → Option (zMt)
  | 0, _, _ => none
  | n + 1, x1_2, M_2 =>
    if (82 : Int32) ≤ x1_2 then
      some (M_2)
    else
      zI x1_2 82 <|
      zI x1_2 82 <|
      zLt (zu M_2 (P + 3) x1_2.toNatClampNeg (M_2 (P + 1) x1_2.toNatClampNeg)) fun M_19 =>
      (D_X8_putsAside_2 P n) (x1_2 + 1) M_19
noncomputable def D_X8_putsAside (P : Nat) (M : zMt) : Option (zMt) :=
  D_X8_putsAside_2 P zFu (0 : Int32) M
set_option maxRecDepth 100000 in
set_option maxHeartbeats 4000000 in
theorem t_X8_putsAside {l : Launch} {G : zG} {b : Nat} {L : List zC} {M : zMt} {N : zNt} {P : Nat} (hP : LX8 L P)  {r : zMt} (h : D_X8_putsAside P M = some r) : zM l G b yX8_putsAside cX8_putsAside 2 none 0 0 0 [.ref P] (L, M, N) (fun r2 z => r2 = none ∧ z = (L, r, N)) := by
  refine zM.of miX8_putsAside (Nat.le_of_ble_eq_true rfl) ?_
  intro p e s m args below meth c X hr hname
  generalize hF : ((fun r2 z => r2 = none ∧ z = (L, r, N)) : Option Value → zS → Prop) = FQ
  change Zw p l e { frames := 0, cells := 0, slots := 0, locals := 80 * (0) } s m args below meth c G b 2 (MQ below (zQ G b FQ) args s 0 0 (fun q : Nat => b ≤ q)) 0 0 0 [some (.ref P), none] [] (L, M, N)
  obtain ⟨p_lt, p_o, p_s, p_read, p_aside, p_kept, p_guest, p_readGuest, p_tape, p_unitName, p_hunterName, p_partyName, p_bits, p_partyOf, p_choiceAt, p_sizes, p_guestMany, p_pointsOf, p_ticketsOf, p_ord, p_given, p_roundOf, p_tags, p_guestTags, p_places, p_sumAt, p_sumFirst, p_sumRound, p_sumBoth, p_sumTags, p_isEnd, p_newPoints, p_inRow, p_out⟩ := id hP
  have L_2 : ∀ u : Nat, ∀ (x1_2 : Int32) (M_2 : zMt), D_X8_putsAside_2 P u x1_2 M_2 = some r → Zw p l e { frames := 0, cells := 0, slots := 0, locals := 80 * (0) } s m args below meth c G b 2 (MQ below (zQ G b FQ) args s 0 0 (fun q : Nat => b ≤ q)) 0 0 2 [some (.ref (P)), some (.int x1_2)] [] (L, M_2, N) := by
    intro u
    induction u with
    | zero => intro x1_2 M_2 h; cases (show none = some r from h)
    | succ u_2 ih_2 =>
      intro x1_2 M_2 h
      rw [D_X8_putsAside_2] at h
      refine a_iload_n X dX8_putsAside_2 rfl ?_
      refine a_bipush (v := 82) X dX8_putsAside_3 (by decide) ?_
      refine a_icmp_ge (tgt := 26) X dX8_putsAside_5 (by decide) (fun h_5 => ?_) (fun h_5 => ?_)
      · replace h := (if_pos h_5).symm.trans h
        refine a_vret X hr dX8_putsAside_26 ⟨by decide, by decide⟩ ?_
        subst hF
        rw [← Option.some.inj h]
        exact ⟨rfl, rfl⟩
      · replace h := (if_neg h_5).symm.trans h
        refine a_aload_n X dX8_putsAside_8 rfl ?_
        refine a_getr X lf8_16 (by assumption) rfl (by omega) dX8_putsAside_9 ?_
        refine a_iload_n X dX8_putsAside_12 rfl ?_
        refine a_aload_n X dX8_putsAside_13 rfl ?_
        refine a_getr X lf8_7 (by assumption) rfl (by omega) dX8_putsAside_14 ?_
        refine a_iload_n X dX8_putsAside_17 rfl ?_
        obtain ⟨g_18, h⟩ := zIx h
        refine a_iaload X (by assumption) g_18 dX8_putsAside_18 ?_
        obtain ⟨g_19, h⟩ := zIx h
        obtain ⟨M_19, f_19, h⟩ := zLtx h
        refine d_iastore X (by assumption) g_19 dX8_putsAside_19 f_19 ?_
        refine a_iinc (v := x1_2 + 1) X dX8_putsAside_20 (by decide) rfl zi_1 ?_
        refine a_goto (tgt := 2) X dX8_putsAside_23 (by decide) ?_
        exact Zw.to2 (ih_2 _ _ h) rfl rfl rfl
  have H_2 : ∀ (x1_2 : Int32) (M_2 : zMt), D_X8_putsAside_2 P zFu x1_2 M_2 = some r → Zw p l e { frames := 0, cells := 0, slots := 0, locals := 80 * (0) } s m args below meth c G b 2 (MQ below (zQ G b FQ) args s 0 0 (fun q : Nat => b ≤ q)) 0 0 2 [some (.ref (P)), some (.int x1_2)] [] (L, M_2, N) := L_2 zFu
  unfold D_X8_putsAside at h
  refine a_iconst (v := 0) X dX8_putsAside_0 (by decide) ?_
  refine a_istore_n X dX8_putsAside_1 (by decide) ?_
  exact Zw.to2 (H_2 _ _ h) rfl rfl rfl
noncomputable def D_X8_takesBack_2 (P : Nat) : Nat → Int32 → zMt → Option (zMt)
  | 0, _, _ => none
  | n + 1, x1_2, M_2 =>
    if (82 : Int32) ≤ x1_2 then
      some (M_2)
    else
      zI x1_2 82 <|
      zI x1_2 82 <|
      zLt (zu M_2 (P + 1) x1_2.toNatClampNeg (M_2 (P + 3) x1_2.toNatClampNeg)) fun M_19 =>
      (D_X8_takesBack_2 P n) (x1_2 + 1) M_19
noncomputable def D_X8_takesBack (P : Nat) (M : zMt) : Option (zMt) :=
  D_X8_takesBack_2 P zFu (0 : Int32) M
set_option maxRecDepth 100000 in
set_option maxHeartbeats 4000000 in
theorem t_X8_takesBack {l : Launch} {G : zG} {b : Nat} {L : List zC} {M : zMt} {N : zNt} {P : Nat} (hP : LX8 L P)  {r : zMt} (h : D_X8_takesBack P M = some r) : zM l G b yX8_takesBack cX8_takesBack 2 none 0 0 0 [.ref P] (L, M, N) (fun r2 z => r2 = none ∧ z = (L, r, N)) := by
  refine zM.of miX8_takesBack (Nat.le_of_ble_eq_true rfl) ?_
  intro p e s m args below meth c X hr hname
  generalize hF : ((fun r2 z => r2 = none ∧ z = (L, r, N)) : Option Value → zS → Prop) = FQ
  change Zw p l e { frames := 0, cells := 0, slots := 0, locals := 80 * (0) } s m args below meth c G b 2 (MQ below (zQ G b FQ) args s 0 0 (fun q : Nat => b ≤ q)) 0 0 0 [some (.ref P), none] [] (L, M, N)
  obtain ⟨p_lt, p_o, p_s, p_read, p_aside, p_kept, p_guest, p_readGuest, p_tape, p_unitName, p_hunterName, p_partyName, p_bits, p_partyOf, p_choiceAt, p_sizes, p_guestMany, p_pointsOf, p_ticketsOf, p_ord, p_given, p_roundOf, p_tags, p_guestTags, p_places, p_sumAt, p_sumFirst, p_sumRound, p_sumBoth, p_sumTags, p_isEnd, p_newPoints, p_inRow, p_out⟩ := id hP
  have L_2 : ∀ u : Nat, ∀ (x1_2 : Int32) (M_2 : zMt), D_X8_takesBack_2 P u x1_2 M_2 = some r → Zw p l e { frames := 0, cells := 0, slots := 0, locals := 80 * (0) } s m args below meth c G b 2 (MQ below (zQ G b FQ) args s 0 0 (fun q : Nat => b ≤ q)) 0 0 2 [some (.ref (P)), some (.int x1_2)] [] (L, M_2, N) := by
    intro u
    induction u with
    | zero => intro x1_2 M_2 h; cases (show none = some r from h)
    | succ u_2 ih_2 =>
      intro x1_2 M_2 h
      rw [D_X8_takesBack_2] at h
      refine a_iload_n X dX8_takesBack_2 rfl ?_
      refine a_bipush (v := 82) X dX8_takesBack_3 (by decide) ?_
      refine a_icmp_ge (tgt := 26) X dX8_takesBack_5 (by decide) (fun h_5 => ?_) (fun h_5 => ?_)
      · replace h := (if_pos h_5).symm.trans h
        refine a_vret X hr dX8_takesBack_26 ⟨by decide, by decide⟩ ?_
        subst hF
        rw [← Option.some.inj h]
        exact ⟨rfl, rfl⟩
      · replace h := (if_neg h_5).symm.trans h
        refine a_aload_n X dX8_takesBack_8 rfl ?_
        refine a_getr X lf8_7 (by assumption) rfl (by omega) dX8_takesBack_9 ?_
        refine a_iload_n X dX8_takesBack_12 rfl ?_
        refine a_aload_n X dX8_takesBack_13 rfl ?_
        refine a_getr X lf8_16 (by assumption) rfl (by omega) dX8_takesBack_14 ?_
        refine a_iload_n X dX8_takesBack_17 rfl ?_
        obtain ⟨g_18, h⟩ := zIx h
        refine a_iaload X (by assumption) g_18 dX8_takesBack_18 ?_
        obtain ⟨g_19, h⟩ := zIx h
        obtain ⟨M_19, f_19, h⟩ := zLtx h
        refine d_iastore X (by assumption) g_19 dX8_takesBack_19 f_19 ?_
        refine a_iinc (v := x1_2 + 1) X dX8_takesBack_20 (by decide) rfl zi_1 ?_
        refine a_goto (tgt := 2) X dX8_takesBack_23 (by decide) ?_
        exact Zw.to2 (ih_2 _ _ h) rfl rfl rfl
  have H_2 : ∀ (x1_2 : Int32) (M_2 : zMt), D_X8_takesBack_2 P zFu x1_2 M_2 = some r → Zw p l e { frames := 0, cells := 0, slots := 0, locals := 80 * (0) } s m args below meth c G b 2 (MQ below (zQ G b FQ) args s 0 0 (fun q : Nat => b ≤ q)) 0 0 2 [some (.ref (P)), some (.int x1_2)] [] (L, M_2, N) := L_2 zFu
  unfold D_X8_takesBack at h
  refine a_iconst (v := 0) X dX8_takesBack_0 (by decide) ?_
  refine a_istore_n X dX8_takesBack_1 (by decide) ?_
  exact Zw.to2 (H_2 _ _ h) rfl rfl rfl
noncomputable def D_X8_need_161 (P : Nat) (y0_161 : Int32) (M_161 : zMt) (N_161 : zNt) : Option (Int32 × zMt × zNt) :=
  some (y0_161, M_161, N_161)
noncomputable def D_X8_need_137 (P : Nat) (x4_137 : Int32) (M_137 : zMt) (N_137 : zNt) : Option (Int32 × zMt × zNt) :=
  zB (D_X8_takesBack P M_137) fun e_138 =>
  if x4_137 = (-1 : Int32) then
    zB (D_X8_refuse P (5 : Int32) e_138) fun e_149 =>
    D_X8_need_161 P e_149.1 e_149.2 N_137
  else
    zB (D_X8_gives P x4_137 e_138) fun e_158 =>
    D_X8_need_161 P e_158.1 e_158.2 N_137
noncomputable def D_X8_need_129 (P : Nat) (k81 : Int32 → Int32 → Int32 → Int32 → Int32 → zMt → zNt → Option (Int32 × zMt × zNt)) (x1_129 : Int32) (x2_129 : Int32) (x3_129 : Int32) (x5_129 : Int32) (y0_129 : Int32) (M_129 : zMt) (N_129 : zNt) : Option (Int32 × zMt × zNt) :=
  k81 x1_129 x2_129 x3_129 y0_129 (x5_129 + 1) M_129 N_129
noncomputable def D_X8_need_81 (P : Nat) : Nat → Int32 → Int32 → Int32 → Int32 → Int32 → zMt → zNt → Option (Int32 × zMt × zNt)
  | 0, _, _, _, _, _, _, _ => none
  | n + 1, x1_81, x2_81, x3_81, x4_81, x5_81, M_81, N_81 =>
    if (20 : Int32) < x5_81 then
      D_X8_need_137 P x4_81 M_81 N_81
    else
      if x4_81 = (-1 : Int32) then
        zI ((0 : Int32) + x1_81) 82 <|
        zLt (zu M_81 (P + 1) ((0 : Int32) + x1_81).toNatClampNeg x5_81) fun M_103 =>
        zB (D_X8_laysAll P M_103 N_81) fun e_105 =>
        zB (D_X8_chanceOf P e_105.1 e_105.2 x3_81) fun e_110 =>
        if (lg_cmp (e_110 / (1000000000 : Int64)) (Int32.toInt64 x2_81)) < 0 then
          D_X8_need_129 P (D_X8_need_81 P n) x1_81 x2_81 x3_81 x5_81 (-1 : Int32) e_105.1 e_105.2
        else
          D_X8_need_129 P (D_X8_need_81 P n) x1_81 x2_81 x3_81 x5_81 x5_81 e_105.1 e_105.2
      else
        D_X8_need_137 P x4_81 M_81 N_81
noncomputable def D_X8_need (P : Nat) (v0 : Int32) (v1 : Int32) (M : zMt) (N : zNt) : Option (Int32 × zMt × zNt) :=
  zB (D_X8_isFrom (Int32.toInt64 v1) (0 : Int64) (1000 : Int64)) fun e_6 =>
  if e_6 = 0 then
    zB (D_X8_refuse P (1 : Int32) M) fun e_14 =>
    some (e_14.1, e_14.2, N)
  else
    zB (D_X8_isHunter P M v0) fun e_20 =>
    if e_20 = 0 then
      zB (D_X8_refuse P (2 : Int32) M) fun e_28 =>
      some (e_28.1, e_28.2, N)
    else
      zI ((10 : Int32) + v0) 82 <|
      if (M (P + 1) ((10 : Int32) + v0).toNatClampNeg) = (-1 : Int32) then
        zB (D_X8_areMany P M) fun e_53 =>
        if e_53.1 = 0 then
          zB (D_X8_applicantOf P v0 e_53.2) fun e_67 =>
          zB (D_X8_putsAside P e_67.2) fun e_72 =>
          D_X8_need_81 P zFu v0 v1 e_67.1 (-1 : Int32) (0 : Int32) e_72 N
        else
          zB (D_X8_refuse P (3 : Int32) e_53.2) fun e_61 =>
          some (e_61.1, e_61.2, N)
      else
        zB (D_X8_refuse P (7 : Int32) M) fun e_48 =>
        some (e_48.1, e_48.2, N)
set_option maxRecDepth 100000 in
set_option maxHeartbeats 4000000 in
theorem t_X8_need {l : Launch} {G : zG} {b : Nat} {L : List zC} {M : zMt} {N : zNt} {P : Nat} (hP : LX8 L P) {v0 : Int32} {v1 : Int32} {r : Int32 × zMt × zNt} (h : D_X8_need P v0 v1 M N = some r) : zM l G b yX8_need cX8_need 6 (some .int) 14 0 0 [.ref P, .int v0, .int v1] (L, M, N) (fun r2 z => r2 = some (.int r.1) ∧ z = (L, r.2.1, r.2.2)) := by
  refine zM.of miX8_need (Nat.le_of_ble_eq_true rfl) ?_
  intro p e s m args below meth c X hr hname
  generalize hF : ((fun r2 z => r2 = some (.int r.1) ∧ z = (L, r.2.1, r.2.2)) : Option Value → zS → Prop) = FQ
  change Zw p l e { frames := 14, cells := 0, slots := 0, locals := 80 * (14) } s m args below meth c G b 6 (MQ below (zQ G b FQ) args s 0 0 (fun q : Nat => b ≤ q)) 0 0 0 [some (.ref P), some (.int v0), some (.int v1), none, none, none] [] (L, M, N)
  obtain ⟨p_lt, p_o, p_s, p_read, p_aside, p_kept, p_guest, p_readGuest, p_tape, p_unitName, p_hunterName, p_partyName, p_bits, p_partyOf, p_choiceAt, p_sizes, p_guestMany, p_pointsOf, p_ticketsOf, p_ord, p_given, p_roundOf, p_tags, p_guestTags, p_places, p_sumAt, p_sumFirst, p_sumRound, p_sumBoth, p_sumTags, p_isEnd, p_newPoints, p_inRow, p_out⟩ := id hP
  have J_161 : ∀ (x1_161 : Int32) (x2_161 : Int32) (x3_161 : Int32) (x4_161 : Int32) (x5_161 : Int32) (y0_161 : Int32) (M_161 : zMt) (N_161 : zNt), D_X8_need_161 P y0_161 M_161 N_161 = some r → Zw p l e { frames := 14, cells := 0, slots := 0, locals := 80 * (14) } s m args below meth c G b 6 (MQ below (zQ G b FQ) args s 0 0 (fun q : Nat => b ≤ q)) 0 0 161 [some (.ref (P)), some (.int x1_161), some (.int x2_161), some (.int x3_161), some (.int x4_161), some (.int x5_161)] [.int y0_161] (L, M_161, N_161) := by
    intro x1_161 x2_161 x3_161 x4_161 x5_161 y0_161 M_161 N_161 h
    unfold D_X8_need_161 at h
    refine a_iret X hr dX8_need_161 ⟨by decide, by decide⟩ ?_
    subst hF
    rw [← Option.some.inj h]
    exact ⟨rfl, rfl⟩
  have J_137 : ∀ (x1_137 : Int32) (x2_137 : Int32) (x3_137 : Int32) (x4_137 : Int32) (x5_137 : Int32) (M_137 : zMt) (N_137 : zNt), D_X8_need_137 P x4_137 M_137 N_137 = some r → Zw p l e { frames := 14, cells := 0, slots := 0, locals := 80 * (14) } s m args below meth c G b 6 (MQ below (zQ G b FQ) args s 0 0 (fun q : Nat => b ≤ q)) 0 0 137 [some (.ref (P)), some (.int x1_137), some (.int x2_137), some (.int x3_137), some (.int x4_137), some (.int x5_137)] [] (L, M_137, N_137) := by
    intro x1_137 x2_137 x3_137 x4_137 x5_137 M_137 N_137 h
    unfold D_X8_need_137 at h
    refine a_aload_n X dX8_need_137 rfl ?_
    obtain ⟨e_138, f_138, h⟩ := zBx h
    refine a_callVu X dX8_need_138 miX8_takesBack lm8_449 (t_X8_takesBack (by assumption) f_138) (by assumption) rfl rfl rfl (Nat.le_of_ble_eq_true rfl) ⟨by decide, by decide, by decide, by decide⟩ ?_
    refine a_iload X dX8_need_141 rfl ?_
    refine a_iconst (v := -1) X dX8_need_143 (by decide) ?_
    refine a_icmp_ne (tgt := 155) X dX8_need_144 (by decide) (fun h_144 => ?_) (fun h_144 => ?_)
    · replace h := (if_neg h_144).symm.trans h
      refine a_aload_n X dX8_need_155 rfl ?_
      refine a_iload X dX8_need_156 rfl ?_
      obtain ⟨e_158, f_158, h⟩ := zBx h
      refine a_callVv X dX8_need_158 miX8_gives lm8_272 (t_X8_gives (by assumption) f_158) (by assumption) rfl rfl rfl (Nat.le_of_ble_eq_true rfl) ⟨by decide, by decide, by decide, by decide⟩ ?_
      exact Zw.to2 (J_161 _ _ _ _ _ _ _ _ h) rfl rfl rfl
    · replace h := (if_pos h_144).symm.trans h
      refine a_aload_n X dX8_need_147 rfl ?_
      refine a_iconst (v := 5) X dX8_need_148 (by decide) ?_
      obtain ⟨e_149, f_149, h⟩ := zBx h
      refine a_callVv X dX8_need_149 miX8_refuse lm8_263 (t_X8_refuse (by assumption) f_149) (by assumption) rfl rfl rfl (Nat.le_of_ble_eq_true rfl) ⟨by decide, by decide, by decide, by decide⟩ ?_
      refine a_goto (tgt := 161) X dX8_need_152 (by decide) ?_
      exact Zw.to2 (J_161 _ _ _ _ _ _ _ _ h) rfl rfl rfl
  have L_81 : ∀ u : Nat, ∀ (x1_81 : Int32) (x2_81 : Int32) (x3_81 : Int32) (x4_81 : Int32) (x5_81 : Int32) (M_81 : zMt) (N_81 : zNt), D_X8_need_81 P u x1_81 x2_81 x3_81 x4_81 x5_81 M_81 N_81 = some r → Zw p l e { frames := 14, cells := 0, slots := 0, locals := 80 * (14) } s m args below meth c G b 6 (MQ below (zQ G b FQ) args s 0 0 (fun q : Nat => b ≤ q)) 0 0 81 [some (.ref (P)), some (.int x1_81), some (.int x2_81), some (.int x3_81), some (.int x4_81), some (.int x5_81)] [] (L, M_81, N_81) := by
    intro u
    induction u with
    | zero => intro x1_81 x2_81 x3_81 x4_81 x5_81 M_81 N_81 h; cases (show none = some r from h)
    | succ u_81 ih_81 =>
      have J_129 : ∀ (x1_129 : Int32) (x2_129 : Int32) (x3_129 : Int32) (x4_129 : Int32) (x5_129 : Int32) (y0_129 : Int32) (M_129 : zMt) (N_129 : zNt), D_X8_need_129 P (D_X8_need_81 P u_81) x1_129 x2_129 x3_129 x5_129 y0_129 M_129 N_129 = some r → Zw p l e { frames := 14, cells := 0, slots := 0, locals := 80 * (14) } s m args below meth c G b 6 (MQ below (zQ G b FQ) args s 0 0 (fun q : Nat => b ≤ q)) 0 0 129 [some (.ref (P)), some (.int x1_129), some (.int x2_129), some (.int x3_129), some (.int x4_129), some (.int x5_129)] [.int y0_129] (L, M_129, N_129) := by
        intro x1_129 x2_129 x3_129 x4_129 x5_129 y0_129 M_129 N_129 h
        unfold D_X8_need_129 at h
        refine a_istore X dX8_need_129 (by decide) ?_
        refine a_iinc (v := x5_129 + 1) X dX8_need_131 (by decide) rfl zi_1 ?_
        refine a_goto (tgt := 81) X dX8_need_134 (by decide) ?_
        exact Zw.to2 (ih_81 _ _ _ _ _ _ _ h) rfl rfl rfl
      intro x1_81 x2_81 x3_81 x4_81 x5_81 M_81 N_81 h
      rw [D_X8_need_81] at h
      refine a_iload X dX8_need_81 rfl ?_
      refine a_bipush (v := 20) X dX8_need_83 (by decide) ?_
      refine a_icmp_gt (tgt := 137) X dX8_need_85 (by decide) (fun h_85 => ?_) (fun h_85 => ?_)
      · replace h := (if_pos h_85).symm.trans h
        exact Zw.to2 (J_137 _ _ _ _ _ _ _ h) rfl rfl rfl
      · replace h := (if_neg h_85).symm.trans h
        refine a_iload X dX8_need_88 rfl ?_
        refine a_iconst (v := -1) X dX8_need_90 (by decide) ?_
        refine a_icmp_ne (tgt := 137) X dX8_need_91 (by decide) (fun h_91 => ?_) (fun h_91 => ?_)
        · replace h := (if_neg h_91).symm.trans h
          exact Zw.to2 (J_137 _ _ _ _ _ _ _ h) rfl rfl rfl
        · replace h := (if_pos h_91).symm.trans h
          refine a_aload_n X dX8_need_94 rfl ?_
          refine a_getr X lf8_7 (by assumption) rfl (by omega) dX8_need_95 ?_
          refine a_iconst (v := 0) X dX8_need_98 (by decide) ?_
          refine a_iload_n X dX8_need_99 rfl ?_
          refine a_iadd X dX8_need_100 ?_
          refine a_iload X dX8_need_101 rfl ?_
          obtain ⟨g_103, h⟩ := zIx h
          obtain ⟨M_103, f_103, h⟩ := zLtx h
          refine d_iastore X (by assumption) g_103 dX8_need_103 f_103 ?_
          refine a_aload_n X dX8_need_104 rfl ?_
          obtain ⟨e_105, f_105, h⟩ := zBx h
          refine a_callVu X dX8_need_105 miX8_laysAll lm8_432 (t_X8_laysAll (by assumption) f_105) (by assumption) rfl rfl rfl (Nat.le_of_ble_eq_true rfl) ⟨by decide, by decide, by decide, by decide⟩ ?_
          refine a_aload_n X dX8_need_108 rfl ?_
          refine a_iload_n X dX8_need_109 rfl ?_
          obtain ⟨e_110, f_110, h⟩ := zBx h
          refine a_callVv X dX8_need_110 miX8_chanceOf lm8_435 (t_X8_chanceOf (by assumption) f_110) (by assumption) rfl rfl rfl (Nat.le_of_ble_eq_true rfl) ⟨by decide, by decide, by decide, by decide⟩ ?_
          refine a_ldc2 X dX8_need_113 lk8_447 ?_
          refine a_ldiv X dX8_need_116 (by decide) ?_
          refine a_iload_n X dX8_need_117 rfl ?_
          refine a_i2l X dX8_need_118 ?_
          refine a_lcmp X dX8_need_119 ?_
          refine a_if_lt (tgt := 128) X dX8_need_120 (by decide) (fun h_120 => ?_) (fun h_120 => ?_)
          · replace h := (if_pos h_120).symm.trans h
            refine a_iconst (v := -1) X dX8_need_128 (by decide) ?_
            exact Zw.to2 (J_129 _ _ _ _ _ _ _ _ h) rfl rfl rfl
          · replace h := (if_neg h_120).symm.trans h
            refine a_iload X dX8_need_123 rfl ?_
            refine a_goto (tgt := 129) X dX8_need_125 (by decide) ?_
            exact Zw.to2 (J_129 _ _ _ _ _ _ _ _ h) rfl rfl rfl
  have H_81 : ∀ (x1_81 : Int32) (x2_81 : Int32) (x3_81 : Int32) (x4_81 : Int32) (x5_81 : Int32) (M_81 : zMt) (N_81 : zNt), D_X8_need_81 P zFu x1_81 x2_81 x3_81 x4_81 x5_81 M_81 N_81 = some r → Zw p l e { frames := 14, cells := 0, slots := 0, locals := 80 * (14) } s m args below meth c G b 6 (MQ below (zQ G b FQ) args s 0 0 (fun q : Nat => b ≤ q)) 0 0 81 [some (.ref (P)), some (.int x1_81), some (.int x2_81), some (.int x3_81), some (.int x4_81), some (.int x5_81)] [] (L, M_81, N_81) := L_81 zFu
  unfold D_X8_need at h
  refine a_iload_n X dX8_need_0 rfl ?_
  refine a_i2l X dX8_need_1 ?_
  refine a_lconst (v := 0) X dX8_need_2 (by decide) ?_
  refine a_ldc2 X dX8_need_3 lk8_442 ?_
  obtain ⟨e_6, f_6, h⟩ := zBx h
  refine a_callSx X dX8_need_6 miX8_isFrom lm8_128 (t_X8_isFrom f_6) rfl rfl (Nat.le_of_ble_eq_true rfl) ⟨by decide, by decide, by decide, by decide⟩ (fun r_6 S_6 q_6 => ?_)
  obtain ⟨rfl, rfl, b_6⟩ := q_6
  refine a_if_ne (tgt := 18) X dX8_need_9 (by decide) (fun h_9 => ?_) (fun h_9 => ?_)
  · replace h := (if_neg h_9).symm.trans h
    refine a_aload_n X dX8_need_18 rfl ?_
    refine a_iload_n X dX8_need_19 rfl ?_
    obtain ⟨e_20, f_20, h⟩ := zBx h
    refine a_callVx X dX8_need_20 miX8_isHunter lm8_293 (t_X8_isHunter (by assumption) f_20) (by assumption) rfl rfl rfl (Nat.le_of_ble_eq_true rfl) ⟨by decide, by decide, by decide, by decide⟩ (fun r_20 S_20 q_20 => ?_)
    obtain ⟨rfl, rfl, b_20⟩ := q_20
    refine a_if_ne (tgt := 32) X dX8_need_23 (by decide) (fun h_23 => ?_) (fun h_23 => ?_)
    · replace h := (if_neg h_23).symm.trans h
      refine a_aload_n X dX8_need_32 rfl ?_
      refine a_getr X lf8_7 (by assumption) rfl (by omega) dX8_need_33 ?_
      refine a_bipush (v := 10) X dX8_need_36 (by decide) ?_
      refine a_iload_n X dX8_need_38 rfl ?_
      refine a_iadd X dX8_need_39 ?_
      obtain ⟨g_40, h⟩ := zIx h
      refine a_iaload X (by assumption) g_40 dX8_need_40 ?_
      refine a_iconst (v := -1) X dX8_need_41 (by decide) ?_
      refine a_icmp_eq (tgt := 52) X dX8_need_42 (by decide) (fun h_42 => ?_) (fun h_42 => ?_)
      · replace h := (if_pos h_42).symm.trans h
        refine a_aload_n X dX8_need_52 rfl ?_
        obtain ⟨e_53, f_53, h⟩ := zBx h
        refine a_callVx X dX8_need_53 miX8_areMany lm8_429 (t_X8_areMany (by assumption) f_53) (by assumption) rfl rfl rfl (Nat.le_of_ble_eq_true rfl) ⟨by decide, by decide, by decide, by decide⟩ (fun r_53 S_53 q_53 => ?_)
        obtain ⟨rfl, rfl, b_53⟩ := q_53
        refine a_if_eq (tgt := 65) X dX8_need_56 (by decide) (fun h_56 => ?_) (fun h_56 => ?_)
        · replace h := (if_pos h_56).symm.trans h
          refine a_aload_n X dX8_need_65 rfl ?_
          refine a_iload_n X dX8_need_66 rfl ?_
          obtain ⟨e_67, f_67, h⟩ := zBx h
          refine a_callVv X dX8_need_67 miX8_applicantOf lm8_296 (t_X8_applicantOf (by assumption) f_67) (by assumption) rfl rfl rfl (Nat.le_of_ble_eq_true rfl) ⟨by decide, by decide, by decide, by decide⟩ ?_
          refine a_istore_n X dX8_need_70 (by decide) ?_
          refine a_aload_n X dX8_need_71 rfl ?_
          obtain ⟨e_72, f_72, h⟩ := zBx h
          refine a_callVu X dX8_need_72 miX8_putsAside lm8_444 (t_X8_putsAside (by assumption) f_72) (by assumption) rfl rfl rfl (Nat.le_of_ble_eq_true rfl) ⟨by decide, by decide, by decide, by decide⟩ ?_
          refine a_iconst (v := -1) X dX8_need_75 (by decide) ?_
          refine a_istore X dX8_need_76 (by decide) ?_
          refine a_iconst (v := 0) X dX8_need_78 (by decide) ?_
          refine a_istore X dX8_need_79 (by decide) ?_
          exact Zw.to2 (H_81 _ _ _ _ _ _ _ h) rfl rfl rfl
        · replace h := (if_neg h_56).symm.trans h
          refine a_aload_n X dX8_need_59 rfl ?_
          refine a_iconst (v := 3) X dX8_need_60 (by decide) ?_
          obtain ⟨e_61, f_61, h⟩ := zBx h
          refine a_callVv X dX8_need_61 miX8_refuse lm8_263 (t_X8_refuse (by assumption) f_61) (by assumption) rfl rfl rfl (Nat.le_of_ble_eq_true rfl) ⟨by decide, by decide, by decide, by decide⟩ ?_
          refine a_iret X hr dX8_need_64 ⟨by decide, by decide⟩ ?_
          subst hF
          rw [← Option.some.inj h]
          exact ⟨rfl, rfl⟩
      · replace h := (if_neg h_42).symm.trans h
        refine a_aload_n X dX8_need_45 rfl ?_
        refine a_bipush (v := 7) X dX8_need_46 (by decide) ?_
        obtain ⟨e_48, f_48, h⟩ := zBx h
        refine a_callVv X dX8_need_48 miX8_refuse lm8_263 (t_X8_refuse (by assumption) f_48) (by assumption) rfl rfl rfl (Nat.le_of_ble_eq_true rfl) ⟨by decide, by decide, by decide, by decide⟩ ?_
        refine a_iret X hr dX8_need_51 ⟨by decide, by decide⟩ ?_
        subst hF
        rw [← Option.some.inj h]
        exact ⟨rfl, rfl⟩
    · replace h := (if_pos h_23).symm.trans h
      refine a_aload_n X dX8_need_26 rfl ?_
      refine a_iconst (v := 2) X dX8_need_27 (by decide) ?_
      obtain ⟨e_28, f_28, h⟩ := zBx h
      refine a_callVv X dX8_need_28 miX8_refuse lm8_263 (t_X8_refuse (by assumption) f_28) (by assumption) rfl rfl rfl (Nat.le_of_ble_eq_true rfl) ⟨by decide, by decide, by decide, by decide⟩ ?_
      refine a_iret X hr dX8_need_31 ⟨by decide, by decide⟩ ?_
      subst hF
      rw [← Option.some.inj h]
      exact ⟨rfl, rfl⟩
  · replace h := (if_pos h_9).symm.trans h
    refine a_aload_n X dX8_need_12 rfl ?_
    refine a_iconst (v := 1) X dX8_need_13 (by decide) ?_
    obtain ⟨e_14, f_14, h⟩ := zBx h
    refine a_callVv X dX8_need_14 miX8_refuse lm8_263 (t_X8_refuse (by assumption) f_14) (by assumption) rfl rfl rfl (Nat.le_of_ble_eq_true rfl) ⟨by decide, by decide, by decide, by decide⟩ ?_
    refine a_iret X hr dX8_need_17 ⟨by decide, by decide⟩ ?_
    subst hF
    rw [← Option.some.inj h]
    exact ⟨rfl, rfl⟩
noncomputable def D_X8_wisest_90 (P : Nat) (k15 : Int32 → Int32 → Int32 → zMt → zNt → Option (Int32 × zMt × zNt)) (x1_90 : Int32) (x2_90 : Int32) (x3_90 : Int32) (M_90 : zMt) (N_90 : zNt) : Option (Int32 × zMt × zNt) :=
  k15 x1_90 x2_90 (x3_90 + 1) M_90 N_90
noncomputable def D_X8_wisest_55 (P : Nat) (k15 : Int32 → Int32 → Int32 → zMt → zNt → Option (Int32 × zMt × zNt)) (k26 : Int32 → Int32 → Int32 → Int32 → zMt → zNt → Option (Int32 × zMt × zNt)) (x1_55 : Int32) (x2_55 : Int32) (x3_55 : Int32) (x4_55 : Int32) (y1_55 : Int32) (y2_55 : Int32) (M_55 : zMt) (N_55 : zNt) : Option (Int32 × zMt × zNt) :=
  zI y1_55 82 <|
  zLt (zu M_55 (P + 1) y1_55.toNatClampNeg y2_55) fun M_55 =>
  k26 x1_55 x2_55 x3_55 (x4_55 + 1) M_55 N_55
noncomputable def D_X8_wisest_26 (P : Nat) (k15 : Int32 → Int32 → Int32 → zMt → zNt → Option (Int32 × zMt × zNt)) : Nat → Int32 → Int32 → Int32 → Int32 → zMt → zNt → Option (Int32 × zMt × zNt)
  | 0, _, _, _, _, _, _ => none
  | n + 1, x1_26, x2_26, x3_26, x4_26, M_26, N_26 =>
    if (3 : Int32) ≤ x4_26 then
      zB (D_X8_laysAll P M_26 N_26) fun e_63 =>
      zB (D_X8_chanceOf P e_63.1 e_63.2 x1_26) fun e_68 =>
      if (lg_cmp e_68 (e_63.2 P 60)) ≤ 0 then
        D_X8_wisest_90 P k15 x1_26 x2_26 x3_26 e_63.1 e_63.2
      else
        zB (D_X8_chanceOf P e_63.1 e_63.2 x1_26) fun e_84 =>
        zLt (zu e_63.2 P 60 e_84) fun N_87 =>
        D_X8_wisest_90 P k15 x1_26 x3_26 x3_26 e_63.1 N_87
    else
      zI x1_26 10 <|
      if x4_26 = 0 then
        D_X8_wisest_55 P k15 (D_X8_wisest_26 P k15 n) x1_26 x2_26 x3_26 x4_26 ((M_26 (P + 13) x1_26.toNatClampNeg) + x4_26) x3_26 M_26 N_26
      else
        D_X8_wisest_55 P k15 (D_X8_wisest_26 P k15 n) x1_26 x2_26 x3_26 x4_26 ((M_26 (P + 13) x1_26.toNatClampNeg) + x4_26) (-1 : Int32) M_26 N_26
noncomputable def D_X8_wisest_15 (P : Nat) : Nat → Int32 → Int32 → Int32 → zMt → zNt → Option (Int32 × zMt × zNt)
  | 0, _, _, _, _, _ => none
  | n + 1, x1_15, x2_15, x3_15, M_15, N_15 =>
    if (M_15 P 7) ≤ x3_15 then
      zB (D_X8_takesBack P M_15) fun e_97 =>
      some (x2_15, e_97, N_15)
    else
      D_X8_wisest_26 P (D_X8_wisest_15 P n) zFu x1_15 x2_15 x3_15 (0 : Int32) M_15 N_15
noncomputable def D_X8_wisest (P : Nat) (v0 : Int32) (M : zMt) (N : zNt) : Option (Int32 × zMt × zNt) :=
  zB (D_X8_putsAside P M) fun e_1 =>
  zLt (zu N P 60 (-1 : Int64)) fun N_10 =>
  D_X8_wisest_15 P zFu v0 (-1 : Int32) (0 : Int32) e_1 N_10
set_option maxRecDepth 100000 in
set_option maxHeartbeats 4000000 in
theorem t_X8_wisest {l : Launch} {G : zG} {b : Nat} {L : List zC} {M : zMt} {N : zNt} {P : Nat} (hP : LX8 L P) {v0 : Int32} {r : Int32 × zMt × zNt} (h : D_X8_wisest P v0 M N = some r) : zM l G b yX8_wisest cX8_wisest 5 (some .int) 14 0 0 [.ref P, .int v0] (L, M, N) (fun r2 z => r2 = some (.int r.1) ∧ z = (L, r.2.1, r.2.2)) := by
  refine zM.of miX8_wisest (Nat.le_of_ble_eq_true rfl) ?_
  intro p e s m args below meth c X hr hname
  generalize hF : ((fun r2 z => r2 = some (.int r.1) ∧ z = (L, r.2.1, r.2.2)) : Option Value → zS → Prop) = FQ
  change Zw p l e { frames := 14, cells := 0, slots := 0, locals := 80 * (14) } s m args below meth c G b 5 (MQ below (zQ G b FQ) args s 0 0 (fun q : Nat => b ≤ q)) 0 0 0 [some (.ref P), some (.int v0), none, none, none] [] (L, M, N)
  obtain ⟨p_lt, p_o, p_s, p_read, p_aside, p_kept, p_guest, p_readGuest, p_tape, p_unitName, p_hunterName, p_partyName, p_bits, p_partyOf, p_choiceAt, p_sizes, p_guestMany, p_pointsOf, p_ticketsOf, p_ord, p_given, p_roundOf, p_tags, p_guestTags, p_places, p_sumAt, p_sumFirst, p_sumRound, p_sumBoth, p_sumTags, p_isEnd, p_newPoints, p_inRow, p_out⟩ := id hP
  have L_15 : ∀ u : Nat, ∀ (x1_15 : Int32) (x2_15 : Int32) (x3_15 : Int32) (x4_15 : Option Value) (M_15 : zMt) (N_15 : zNt), D_X8_wisest_15 P u x1_15 x2_15 x3_15 M_15 N_15 = some r → Zw p l e { frames := 14, cells := 0, slots := 0, locals := 80 * (14) } s m args below meth c G b 5 (MQ below (zQ G b FQ) args s 0 0 (fun q : Nat => b ≤ q)) 0 0 15 [some (.ref (P)), some (.int x1_15), some (.int x2_15), some (.int x3_15), x4_15] [] (L, M_15, N_15) := by
    intro u
    induction u with
    | zero => intro x1_15 x2_15 x3_15 x4_15 M_15 N_15 h; cases (show none = some r from h)
    | succ u_15 ih_15 =>
      have J_90 : ∀ (x1_90 : Int32) (x2_90 : Int32) (x3_90 : Int32) (x4_90 : Int32) (M_90 : zMt) (N_90 : zNt), D_X8_wisest_90 P (D_X8_wisest_15 P u_15) x1_90 x2_90 x3_90 M_90 N_90 = some r → Zw p l e { frames := 14, cells := 0, slots := 0, locals := 80 * (14) } s m args below meth c G b 5 (MQ below (zQ G b FQ) args s 0 0 (fun q : Nat => b ≤ q)) 0 0 90 [some (.ref (P)), some (.int x1_90), some (.int x2_90), some (.int x3_90), some (.int x4_90)] [] (L, M_90, N_90) := by
        intro x1_90 x2_90 x3_90 x4_90 M_90 N_90 h
        unfold D_X8_wisest_90 at h
        refine a_iinc (v := x3_90 + 1) X dX8_wisest_90 (by decide) rfl zi_1 ?_
        refine a_goto (tgt := 15) X dX8_wisest_93 (by decide) ?_
        exact Zw.to2 (ih_15 _ _ _ _ _ _ h) rfl rfl rfl
      have L_26 : ∀ u : Nat, ∀ (x1_26 : Int32) (x2_26 : Int32) (x3_26 : Int32) (x4_26 : Int32) (M_26 : zMt) (N_26 : zNt), D_X8_wisest_26 P (D_X8_wisest_15 P u_15) u x1_26 x2_26 x3_26 x4_26 M_26 N_26 = some r → Zw p l e { frames := 14, cells := 0, slots := 0, locals := 80 * (14) } s m args below meth c G b 5 (MQ below (zQ G b FQ) args s 0 0 (fun q : Nat => b ≤ q)) 0 0 26 [some (.ref (P)), some (.int x1_26), some (.int x2_26), some (.int x3_26), some (.int x4_26)] [] (L, M_26, N_26) := by
        intro u
        induction u with
        | zero => intro x1_26 x2_26 x3_26 x4_26 M_26 N_26 h; cases (show none = some r from h)
        | succ u_26 ih_26 =>
          have J_55 : ∀ (x1_55 : Int32) (x2_55 : Int32) (x3_55 : Int32) (x4_55 : Int32) (y1_55 : Int32) (y2_55 : Int32) (M_55 : zMt) (N_55 : zNt), D_X8_wisest_55 P (D_X8_wisest_15 P u_15) (D_X8_wisest_26 P (D_X8_wisest_15 P u_15) u_26) x1_55 x2_55 x3_55 x4_55 y1_55 y2_55 M_55 N_55 = some r → Zw p l e { frames := 14, cells := 0, slots := 0, locals := 80 * (14) } s m args below meth c G b 5 (MQ below (zQ G b FQ) args s 0 0 (fun q : Nat => b ≤ q)) 0 0 55 [some (.ref (P)), some (.int x1_55), some (.int x2_55), some (.int x3_55), some (.int x4_55)] [.int y2_55, .int y1_55, .ref (P + 1)] (L, M_55, N_55) := by
            intro x1_55 x2_55 x3_55 x4_55 y1_55 y2_55 M_55 N_55 h
            unfold D_X8_wisest_55 at h
            obtain ⟨g_55, h⟩ := zIx h
            obtain ⟨M_55, f_55, h⟩ := zLtx h
            refine d_iastore X (by assumption) g_55 dX8_wisest_55 f_55 ?_
            refine a_iinc (v := x4_55 + 1) X dX8_wisest_56 (by decide) rfl zi_1 ?_
            refine a_goto (tgt := 26) X dX8_wisest_59 (by decide) ?_
            exact Zw.to2 (ih_26 _ _ _ _ _ _ h) rfl rfl rfl
          intro x1_26 x2_26 x3_26 x4_26 M_26 N_26 h
          rw [D_X8_wisest_26] at h
          refine a_iload X dX8_wisest_26 rfl ?_
          refine a_iconst (v := 3) X dX8_wisest_28 (by decide) ?_
          refine a_icmp_ge (tgt := 62) X dX8_wisest_29 (by decide) (fun h_29 => ?_) (fun h_29 => ?_)
          · replace h := (if_pos h_29).symm.trans h
            refine a_aload_n X dX8_wisest_62 rfl ?_
            obtain ⟨e_63, f_63, h⟩ := zBx h
            refine a_callVu X dX8_wisest_63 miX8_laysAll lm8_432 (t_X8_laysAll (by assumption) f_63) (by assumption) rfl rfl rfl (Nat.le_of_ble_eq_true rfl) ⟨by decide, by decide, by decide, by decide⟩ ?_
            refine a_aload_n X dX8_wisest_66 rfl ?_
            refine a_iload_n X dX8_wisest_67 rfl ?_
            obtain ⟨e_68, f_68, h⟩ := zBx h
            refine a_callVv X dX8_wisest_68 miX8_chanceOf lm8_435 (t_X8_chanceOf (by assumption) f_68) (by assumption) rfl rfl rfl (Nat.le_of_ble_eq_true rfl) ⟨by decide, by decide, by decide, by decide⟩ ?_
            refine a_aload_n X dX8_wisest_71 rfl ?_
            refine a_getl X lf8_454 (by assumption) rfl dX8_wisest_72 ?_
            refine a_lcmp X dX8_wisest_75 ?_
            refine a_if_le (tgt := 90) X dX8_wisest_76 (by decide) (fun h_76 => ?_) (fun h_76 => ?_)
            · replace h := (if_pos h_76).symm.trans h
              exact Zw.to2 (J_90 _ _ _ _ _ _ h) rfl rfl rfl
            · replace h := (if_neg h_76).symm.trans h
              refine a_iload_n X dX8_wisest_79 rfl ?_
              refine a_istore_n X dX8_wisest_80 (by decide) ?_
              refine a_aload_n X dX8_wisest_81 rfl ?_
              refine a_aload_n X dX8_wisest_82 rfl ?_
              refine a_iload_n X dX8_wisest_83 rfl ?_
              obtain ⟨e_84, f_84, h⟩ := zBx h
              refine a_callVv X dX8_wisest_84 miX8_chanceOf lm8_435 (t_X8_chanceOf (by assumption) f_84) (by assumption) rfl rfl rfl (Nat.le_of_ble_eq_true rfl) ⟨by decide, by decide, by decide, by decide⟩ ?_
              obtain ⟨N_87, f_87, h⟩ := zLtx h
              refine d_putl X lf8_454 (by assumption) rfl dX8_wisest_87 f_87 ?_
              exact Zw.to2 (J_90 _ _ _ _ _ _ h) rfl rfl rfl
          · replace h := (if_neg h_29).symm.trans h
            refine a_aload_n X dX8_wisest_32 rfl ?_
            refine a_getr X lf8_7 (by assumption) rfl (by omega) dX8_wisest_33 ?_
            refine a_aload_n X dX8_wisest_36 rfl ?_
            refine a_getr X lf8_55 (by assumption) rfl (by omega) dX8_wisest_37 ?_
            refine a_iload_n X dX8_wisest_40 rfl ?_
            obtain ⟨g_41, h⟩ := zIx h
            refine a_iaload X (by assumption) g_41 dX8_wisest_41 ?_
            refine a_iload X dX8_wisest_42 rfl ?_
            refine a_iadd X dX8_wisest_44 ?_
            refine a_iload X dX8_wisest_45 rfl ?_
            refine a_if_ne (tgt := 54) X dX8_wisest_47 (by decide) (fun h_47 => ?_) (fun h_47 => ?_)
            · replace h := (if_neg h_47).symm.trans h
              refine a_iconst (v := -1) X dX8_wisest_54 (by decide) ?_
              exact Zw.to2 (J_55 _ _ _ _ _ _ _ _ h) rfl rfl rfl
            · replace h := (if_pos h_47).symm.trans h
              refine a_iload_n X dX8_wisest_50 rfl ?_
              refine a_goto (tgt := 55) X dX8_wisest_51 (by decide) ?_
              exact Zw.to2 (J_55 _ _ _ _ _ _ _ _ h) rfl rfl rfl
      have H_26 : ∀ (x1_26 : Int32) (x2_26 : Int32) (x3_26 : Int32) (x4_26 : Int32) (M_26 : zMt) (N_26 : zNt), D_X8_wisest_26 P (D_X8_wisest_15 P u_15) zFu x1_26 x2_26 x3_26 x4_26 M_26 N_26 = some r → Zw p l e { frames := 14, cells := 0, slots := 0, locals := 80 * (14) } s m args below meth c G b 5 (MQ below (zQ G b FQ) args s 0 0 (fun q : Nat => b ≤ q)) 0 0 26 [some (.ref (P)), some (.int x1_26), some (.int x2_26), some (.int x3_26), some (.int x4_26)] [] (L, M_26, N_26) := L_26 zFu
      intro x1_15 x2_15 x3_15 x4_15 M_15 N_15 h
      rw [D_X8_wisest_15] at h
      refine a_iload_n X dX8_wisest_15 rfl ?_
      refine a_aload_n X dX8_wisest_16 rfl ?_
      refine a_geti X lf8_125 (by assumption) rfl dX8_wisest_17 ?_
      refine a_icmp_ge (tgt := 96) X dX8_wisest_20 (by decide) (fun h_20 => ?_) (fun h_20 => ?_)
      · replace h := (if_pos h_20).symm.trans h
        refine a_aload_n X dX8_wisest_96 rfl ?_
        obtain ⟨e_97, f_97, h⟩ := zBx h
        refine a_callVu X dX8_wisest_97 miX8_takesBack lm8_449 (t_X8_takesBack (by assumption) f_97) (by assumption) rfl rfl rfl (Nat.le_of_ble_eq_true rfl) ⟨by decide, by decide, by decide, by decide⟩ ?_
        refine a_iload_n X dX8_wisest_100 rfl ?_
        refine a_iret X hr dX8_wisest_101 ⟨by decide, by decide⟩ ?_
        subst hF
        rw [← Option.some.inj h]
        exact ⟨rfl, rfl⟩
      · replace h := (if_neg h_20).symm.trans h
        refine a_iconst (v := 0) X dX8_wisest_23 (by decide) ?_
        refine a_istore X dX8_wisest_24 (by decide) ?_
        exact Zw.to2 (H_26 _ _ _ _ _ _ h) rfl rfl rfl
  have H_15 : ∀ (x1_15 : Int32) (x2_15 : Int32) (x3_15 : Int32) (x4_15 : Option Value) (M_15 : zMt) (N_15 : zNt), D_X8_wisest_15 P zFu x1_15 x2_15 x3_15 M_15 N_15 = some r → Zw p l e { frames := 14, cells := 0, slots := 0, locals := 80 * (14) } s m args below meth c G b 5 (MQ below (zQ G b FQ) args s 0 0 (fun q : Nat => b ≤ q)) 0 0 15 [some (.ref (P)), some (.int x1_15), some (.int x2_15), some (.int x3_15), x4_15] [] (L, M_15, N_15) := L_15 zFu
  unfold D_X8_wisest at h
  refine a_aload_n X dX8_wisest_0 rfl ?_
  obtain ⟨e_1, f_1, h⟩ := zBx h
  refine a_callVu X dX8_wisest_1 miX8_putsAside lm8_444 (t_X8_putsAside (by assumption) f_1) (by assumption) rfl rfl rfl (Nat.le_of_ble_eq_true rfl) ⟨by decide, by decide, by decide, by decide⟩ ?_
  refine a_iconst (v := -1) X dX8_wisest_4 (by decide) ?_
  refine a_istore_n X dX8_wisest_5 (by decide) ?_
  refine a_aload_n X dX8_wisest_6 rfl ?_
  refine a_ldc2 X dX8_wisest_7 lk8_452 ?_
  obtain ⟨N_10, f_10, h⟩ := zLtx h
  refine d_putl X lf8_454 (by assumption) rfl dX8_wisest_10 f_10 ?_
  refine a_iconst (v := 0) X dX8_wisest_13 (by decide) ?_
  refine a_istore_n X dX8_wisest_14 (by decide) ?_
  exact Zw.to2 (H_15 _ _ _ _ _ _ h) rfl rfl rfl
noncomputable def D_X8_wise_51 (P : Nat) (y0_51 : Int32) (M_51 : zMt) (N_51 : zNt) : Option (Int32 × zMt × zNt) :=
  some (y0_51, M_51, N_51)
noncomputable def D_X8_wise (P : Nat) (v0 : Int32) (M : zMt) (N : zNt) : Option (Int32 × zMt × zNt) :=
  zB (D_X8_isApplicant P v0 M) fun e_2 =>
  if e_2.1 = 0 then
    zB (D_X8_refuse P (2 : Int32) e_2.2) fun e_10 =>
    some (e_10.1, e_10.2, N)
  else
    zB (D_X8_areMany P e_2.2) fun e_15 =>
    if e_15.1 = 0 then
      zB (D_X8_wisest P v0 e_15.2 N) fun e_29 =>
      if e_29.1 = (-1 : Int32) then
        zB (D_X8_refuse P (5 : Int32) e_29.2.1) fun e_40 =>
        D_X8_wise_51 P e_40.1 e_40.2 e_29.2.2
      else
        zB (D_X8_gives P e_29.1 e_29.2.1) fun e_48 =>
        D_X8_wise_51 P e_48.1 e_48.2 e_29.2.2
    else
      zB (D_X8_refuse P (3 : Int32) e_15.2) fun e_23 =>
      some (e_23.1, e_23.2, N)
set_option maxRecDepth 100000 in
set_option maxHeartbeats 4000000 in
theorem t_X8_wise {l : Launch} {G : zG} {b : Nat} {L : List zC} {M : zMt} {N : zNt} {P : Nat} (hP : LX8 L P) {v0 : Int32} {r : Int32 × zMt × zNt} (h : D_X8_wise P v0 M N = some r) : zM l G b yX8_wise cX8_wise 3 (some .int) 15 0 0 [.ref P, .int v0] (L, M, N) (fun r2 z => r2 = some (.int r.1) ∧ z = (L, r.2.1, r.2.2)) := by
  refine zM.of miX8_wise (Nat.le_of_ble_eq_true rfl) ?_
  intro p e s m args below meth c X hr hname
  generalize hF : ((fun r2 z => r2 = some (.int r.1) ∧ z = (L, r.2.1, r.2.2)) : Option Value → zS → Prop) = FQ
  change Zw p l e { frames := 15, cells := 0, slots := 0, locals := 80 * (15) } s m args below meth c G b 3 (MQ below (zQ G b FQ) args s 0 0 (fun q : Nat => b ≤ q)) 0 0 0 [some (.ref P), some (.int v0), none] [] (L, M, N)
  obtain ⟨p_lt, p_o, p_s, p_read, p_aside, p_kept, p_guest, p_readGuest, p_tape, p_unitName, p_hunterName, p_partyName, p_bits, p_partyOf, p_choiceAt, p_sizes, p_guestMany, p_pointsOf, p_ticketsOf, p_ord, p_given, p_roundOf, p_tags, p_guestTags, p_places, p_sumAt, p_sumFirst, p_sumRound, p_sumBoth, p_sumTags, p_isEnd, p_newPoints, p_inRow, p_out⟩ := id hP
  have J_51 : ∀ (x1_51 : Int32) (x2_51 : Int32) (y0_51 : Int32) (M_51 : zMt) (N_51 : zNt), D_X8_wise_51 P y0_51 M_51 N_51 = some r → Zw p l e { frames := 15, cells := 0, slots := 0, locals := 80 * (15) } s m args below meth c G b 3 (MQ below (zQ G b FQ) args s 0 0 (fun q : Nat => b ≤ q)) 0 0 51 [some (.ref (P)), some (.int x1_51), some (.int x2_51)] [.int y0_51] (L, M_51, N_51) := by
    intro x1_51 x2_51 y0_51 M_51 N_51 h
    unfold D_X8_wise_51 at h
    refine a_iret X hr dX8_wise_51 ⟨by decide, by decide⟩ ?_
    subst hF
    rw [← Option.some.inj h]
    exact ⟨rfl, rfl⟩
  unfold D_X8_wise at h
  refine a_aload_n X dX8_wise_0 rfl ?_
  refine a_iload_n X dX8_wise_1 rfl ?_
  obtain ⟨e_2, f_2, h⟩ := zBx h
  refine a_callVx X dX8_wise_2 miX8_isApplicant lm8_315 (t_X8_isApplicant (by assumption) f_2) (by assumption) rfl rfl rfl (Nat.le_of_ble_eq_true rfl) ⟨by decide, by decide, by decide, by decide⟩ (fun r_2 S_2 q_2 => ?_)
  obtain ⟨rfl, rfl, b_2⟩ := q_2
  refine a_if_ne (tgt := 14) X dX8_wise_5 (by decide) (fun h_5 => ?_) (fun h_5 => ?_)
  · replace h := (if_neg h_5).symm.trans h
    refine a_aload_n X dX8_wise_14 rfl ?_
    obtain ⟨e_15, f_15, h⟩ := zBx h
    refine a_callVx X dX8_wise_15 miX8_areMany lm8_429 (t_X8_areMany (by assumption) f_15) (by assumption) rfl rfl rfl (Nat.le_of_ble_eq_true rfl) ⟨by decide, by decide, by decide, by decide⟩ (fun r_15 S_15 q_15 => ?_)
    obtain ⟨rfl, rfl, b_15⟩ := q_15
    refine a_if_eq (tgt := 27) X dX8_wise_18 (by decide) (fun h_18 => ?_) (fun h_18 => ?_)
    · replace h := (if_pos h_18).symm.trans h
      refine a_aload_n X dX8_wise_27 rfl ?_
      refine a_iload_n X dX8_wise_28 rfl ?_
      obtain ⟨e_29, f_29, h⟩ := zBx h
      refine a_callVv X dX8_wise_29 miX8_wisest lm8_457 (t_X8_wisest (by assumption) f_29) (by assumption) rfl rfl rfl (Nat.le_of_ble_eq_true rfl) ⟨by decide, by decide, by decide, by decide⟩ ?_
      refine a_istore_n X dX8_wise_32 (by decide) ?_
      refine a_iload_n X dX8_wise_33 rfl ?_
      refine a_iconst (v := -1) X dX8_wise_34 (by decide) ?_
      refine a_icmp_ne (tgt := 46) X dX8_wise_35 (by decide) (fun h_35 => ?_) (fun h_35 => ?_)
      · replace h := (if_neg h_35).symm.trans h
        refine a_aload_n X dX8_wise_46 rfl ?_
        refine a_iload_n X dX8_wise_47 rfl ?_
        obtain ⟨e_48, f_48, h⟩ := zBx h
        refine a_callVv X dX8_wise_48 miX8_gives lm8_272 (t_X8_gives (by assumption) f_48) (by assumption) rfl rfl rfl (Nat.le_of_ble_eq_true rfl) ⟨by decide, by decide, by decide, by decide⟩ ?_
        exact Zw.to2 (J_51 _ _ _ _ _ h) rfl rfl rfl
      · replace h := (if_pos h_35).symm.trans h
        refine a_aload_n X dX8_wise_38 rfl ?_
        refine a_iconst (v := 5) X dX8_wise_39 (by decide) ?_
        obtain ⟨e_40, f_40, h⟩ := zBx h
        refine a_callVv X dX8_wise_40 miX8_refuse lm8_263 (t_X8_refuse (by assumption) f_40) (by assumption) rfl rfl rfl (Nat.le_of_ble_eq_true rfl) ⟨by decide, by decide, by decide, by decide⟩ ?_
        refine a_goto (tgt := 51) X dX8_wise_43 (by decide) ?_
        exact Zw.to2 (J_51 _ _ _ _ _ h) rfl rfl rfl
    · replace h := (if_neg h_18).symm.trans h
      refine a_aload_n X dX8_wise_21 rfl ?_
      refine a_iconst (v := 3) X dX8_wise_22 (by decide) ?_
      obtain ⟨e_23, f_23, h⟩ := zBx h
      refine a_callVv X dX8_wise_23 miX8_refuse lm8_263 (t_X8_refuse (by assumption) f_23) (by assumption) rfl rfl rfl (Nat.le_of_ble_eq_true rfl) ⟨by decide, by decide, by decide, by decide⟩ ?_
      refine a_iret X hr dX8_wise_26 ⟨by decide, by decide⟩ ?_
      subst hF
      rw [← Option.some.inj h]
      exact ⟨rfl, rfl⟩
  · replace h := (if_pos h_5).symm.trans h
    refine a_aload_n X dX8_wise_8 rfl ?_
    refine a_iconst (v := 2) X dX8_wise_9 (by decide) ?_
    obtain ⟨e_10, f_10, h⟩ := zBx h
    refine a_callVv X dX8_wise_10 miX8_refuse lm8_263 (t_X8_refuse (by assumption) f_10) (by assumption) rfl rfl rfl (Nat.le_of_ble_eq_true rfl) ⟨by decide, by decide, by decide, by decide⟩ ?_
    refine a_iret X hr dX8_wise_13 ⟨by decide, by decide⟩ ?_
    subst hF
    rw [← Option.some.inj h]
    exact ⟨rfl, rfl⟩
noncomputable def D_X8_wiseChance_55 (P : Nat) (y0_55 : Int64) (M_55 : zMt) (N_55 : zNt) : Option (Int64 × zMt × zNt) :=
  some (y0_55, M_55, N_55)
noncomputable def D_X8_wiseChance (P : Nat) (v0 : Int32) (M : zMt) (N : zNt) : Option (Int64 × zMt × zNt) :=
  zB (D_X8_isApplicant P v0 M) fun e_2 =>
  if e_2.1 = 0 then
    zB (D_X8_refuse P (2 : Int32) e_2.2) fun e_10 =>
    some ((Int32.toInt64 e_10.1), e_10.2, N)
  else
    zB (D_X8_areMany P e_2.2) fun e_16 =>
    if e_16.1 = 0 then
      zB (D_X8_wisest P v0 e_16.2 N) fun e_31 =>
      if e_31.1 = (-1 : Int32) then
        zB (D_X8_refuse P (5 : Int32) e_31.2.1) fun e_40 =>
        D_X8_wiseChance_55 P (Int32.toInt64 e_40.1) e_40.2 e_31.2.2
      else
        zB (D_X8_givesLong P (e_31.2.2 P 60) e_31.2.1) fun e_52 =>
        D_X8_wiseChance_55 P e_52.1 e_52.2 e_31.2.2
    else
      zB (D_X8_refuse P (3 : Int32) e_16.2) fun e_24 =>
      some ((Int32.toInt64 e_24.1), e_24.2, N)
set_option maxRecDepth 100000 in
set_option maxHeartbeats 4000000 in
theorem t_X8_wiseChance {l : Launch} {G : zG} {b : Nat} {L : List zC} {M : zMt} {N : zNt} {P : Nat} (hP : LX8 L P) {v0 : Int32} {r : Int64 × zMt × zNt} (h : D_X8_wiseChance P v0 M N = some r) : zM l G b yX8_wiseChance cX8_wiseChance 2 (some .long) 15 0 0 [.ref P, .int v0] (L, M, N) (fun r2 z => r2 = some (.long r.1) ∧ z = (L, r.2.1, r.2.2)) := by
  refine zM.of miX8_wiseChance (Nat.le_of_ble_eq_true rfl) ?_
  intro p e s m args below meth c X hr hname
  generalize hF : ((fun r2 z => r2 = some (.long r.1) ∧ z = (L, r.2.1, r.2.2)) : Option Value → zS → Prop) = FQ
  change Zw p l e { frames := 15, cells := 0, slots := 0, locals := 80 * (15) } s m args below meth c G b 2 (MQ below (zQ G b FQ) args s 0 0 (fun q : Nat => b ≤ q)) 0 0 0 [some (.ref P), some (.int v0)] [] (L, M, N)
  obtain ⟨p_lt, p_o, p_s, p_read, p_aside, p_kept, p_guest, p_readGuest, p_tape, p_unitName, p_hunterName, p_partyName, p_bits, p_partyOf, p_choiceAt, p_sizes, p_guestMany, p_pointsOf, p_ticketsOf, p_ord, p_given, p_roundOf, p_tags, p_guestTags, p_places, p_sumAt, p_sumFirst, p_sumRound, p_sumBoth, p_sumTags, p_isEnd, p_newPoints, p_inRow, p_out⟩ := id hP
  have J_55 : ∀ (x1_55 : Int32) (y0_55 : Int64) (M_55 : zMt) (N_55 : zNt), D_X8_wiseChance_55 P y0_55 M_55 N_55 = some r → Zw p l e { frames := 15, cells := 0, slots := 0, locals := 80 * (15) } s m args below meth c G b 2 (MQ below (zQ G b FQ) args s 0 0 (fun q : Nat => b ≤ q)) 0 0 55 [some (.ref (P)), some (.int x1_55)] [.long y0_55] (L, M_55, N_55) := by
    intro x1_55 y0_55 M_55 N_55 h
    unfold D_X8_wiseChance_55 at h
    refine a_lret X hr dX8_wiseChance_55 ⟨by decide, by decide⟩ ?_
    subst hF
    rw [← Option.some.inj h]
    exact ⟨rfl, rfl⟩
  unfold D_X8_wiseChance at h
  refine a_aload_n X dX8_wiseChance_0 rfl ?_
  refine a_iload_n X dX8_wiseChance_1 rfl ?_
  obtain ⟨e_2, f_2, h⟩ := zBx h
  refine a_callVx X dX8_wiseChance_2 miX8_isApplicant lm8_315 (t_X8_isApplicant (by assumption) f_2) (by assumption) rfl rfl rfl (Nat.le_of_ble_eq_true rfl) ⟨by decide, by decide, by decide, by decide⟩ (fun r_2 S_2 q_2 => ?_)
  obtain ⟨rfl, rfl, b_2⟩ := q_2
  refine a_if_ne (tgt := 15) X dX8_wiseChance_5 (by decide) (fun h_5 => ?_) (fun h_5 => ?_)
  · replace h := (if_neg h_5).symm.trans h
    refine a_aload_n X dX8_wiseChance_15 rfl ?_
    obtain ⟨e_16, f_16, h⟩ := zBx h
    refine a_callVx X dX8_wiseChance_16 miX8_areMany lm8_429 (t_X8_areMany (by assumption) f_16) (by assumption) rfl rfl rfl (Nat.le_of_ble_eq_true rfl) ⟨by decide, by decide, by decide, by decide⟩ (fun r_16 S_16 q_16 => ?_)
    obtain ⟨rfl, rfl, b_16⟩ := q_16
    refine a_if_eq (tgt := 29) X dX8_wiseChance_19 (by decide) (fun h_19 => ?_) (fun h_19 => ?_)
    · replace h := (if_pos h_19).symm.trans h
      refine a_aload_n X dX8_wiseChance_29 rfl ?_
      refine a_iload_n X dX8_wiseChance_30 rfl ?_
      obtain ⟨e_31, f_31, h⟩ := zBx h
      refine a_callVv X dX8_wiseChance_31 miX8_wisest lm8_457 (t_X8_wisest (by assumption) f_31) (by assumption) rfl rfl rfl (Nat.le_of_ble_eq_true rfl) ⟨by decide, by decide, by decide, by decide⟩ ?_
      refine a_iconst (v := -1) X dX8_wiseChance_34 (by decide) ?_
      refine a_icmp_ne (tgt := 47) X dX8_wiseChance_35 (by decide) (fun h_35 => ?_) (fun h_35 => ?_)
      · replace h := (if_neg h_35).symm.trans h
        refine a_aload_n X dX8_wiseChance_47 rfl ?_
        refine a_aload_n X dX8_wiseChance_48 rfl ?_
        refine a_getl X lf8_454 (by assumption) rfl dX8_wiseChance_49 ?_
        obtain ⟨e_52, f_52, h⟩ := zBx h
        refine a_callVv X dX8_wiseChance_52 miX8_givesLong lm8_438 (t_X8_givesLong (by assumption) f_52) (by assumption) rfl rfl rfl (Nat.le_of_ble_eq_true rfl) ⟨by decide, by decide, by decide, by decide⟩ ?_
        exact Zw.to2 (J_55 _ _ _ _ h) rfl rfl rfl
      · replace h := (if_pos h_35).symm.trans h
        refine a_aload_n X dX8_wiseChance_38 rfl ?_
        refine a_iconst (v := 5) X dX8_wiseChance_39 (by decide) ?_
        obtain ⟨e_40, f_40, h⟩ := zBx h
        refine a_callVv X dX8_wiseChance_40 miX8_refuse lm8_263 (t_X8_refuse (by assumption) f_40) (by assumption) rfl rfl rfl (Nat.le_of_ble_eq_true rfl) ⟨by decide, by decide, by decide, by decide⟩ ?_
        refine a_i2l X dX8_wiseChance_43 ?_
        refine a_goto (tgt := 55) X dX8_wiseChance_44 (by decide) ?_
        exact Zw.to2 (J_55 _ _ _ _ h) rfl rfl rfl
    · replace h := (if_neg h_19).symm.trans h
      refine a_aload_n X dX8_wiseChance_22 rfl ?_
      refine a_iconst (v := 3) X dX8_wiseChance_23 (by decide) ?_
      obtain ⟨e_24, f_24, h⟩ := zBx h
      refine a_callVv X dX8_wiseChance_24 miX8_refuse lm8_263 (t_X8_refuse (by assumption) f_24) (by assumption) rfl rfl rfl (Nat.le_of_ble_eq_true rfl) ⟨by decide, by decide, by decide, by decide⟩ ?_
      refine a_i2l X dX8_wiseChance_27 ?_
      refine a_lret X hr dX8_wiseChance_28 ⟨by decide, by decide⟩ ?_
      subst hF
      rw [← Option.some.inj h]
      exact ⟨rfl, rfl⟩
  · replace h := (if_pos h_5).symm.trans h
    refine a_aload_n X dX8_wiseChance_8 rfl ?_
    refine a_iconst (v := 2) X dX8_wiseChance_9 (by decide) ?_
    obtain ⟨e_10, f_10, h⟩ := zBx h
    refine a_callVv X dX8_wiseChance_10 miX8_refuse lm8_263 (t_X8_refuse (by assumption) f_10) (by assumption) rfl rfl rfl (Nat.le_of_ble_eq_true rfl) ⟨by decide, by decide, by decide, by decide⟩ ?_
    refine a_i2l X dX8_wiseChance_13 ?_
    refine a_lret X hr dX8_wiseChance_14 ⟨by decide, by decide⟩ ?_
    subst hF
    rw [← Option.some.inj h]
    exact ⟨rfl, rfl⟩
noncomputable def D_X8_laysJoined_133 (P : Nat) : Nat → Int32 → Int32 → zMt → Option (Int32 × zMt)
  | 0, _, _, _ => none
  | n + 1, x3_133, x4_133, M_133 =>
    if (M_133 P 33) ≤ x4_133 then
      some (x3_133, M_133)
    else
      zB (D_X8_laysOne P x4_133 M_133) fun e_145 =>
      (D_X8_laysJoined_133 P n) x3_133 (x4_133 + 1) e_145
noncomputable def D_X8_laysJoined_85 (P : Nat) (k5 : Int32 → Int32 → Int32 → Int32 → zMt → Option (Int32 × zMt)) (x1_85 : Int32) (x2_85 : Int32) (x3_85 : Int32) (x4_85 : Int32) (M_85 : zMt) : Option (Int32 × zMt) :=
  k5 x1_85 x2_85 x3_85 (x4_85 + 1) M_85
noncomputable def D_X8_laysJoined_5 (P : Nat) : Nat → Int32 → Int32 → Int32 → Int32 → zMt → Option (Int32 × zMt)
  | 0, _, _, _, _, _ => none
  | n + 1, x1_5, x2_5, x3_5, x4_5, M_5 =>
    if (M_5 P 33) ≤ x4_5 then
      zI x3_5 10 <|
      zLt (zu M_5 (P + 11) x3_5.toNatClampNeg (((1 : Int32) <<< (x1_5 &&& 31)) ||| ((1 : Int32) <<< (x2_5 &&& 31)))) fun M_103 =>
      zI x3_5 10 <|
      zLt (zu M_103 (P + 12) x3_5.toNatClampNeg (-1 : Int32)) fun M_110 =>
      zI x3_5 10 <|
      zLt (zu M_110 (P + 13) x3_5.toNatClampNeg ((20 : Int32) + ((3 : Int32) * x1_5))) fun M_122 =>
      zLt (zu M_122 P 33 (x3_5 + (1 : Int32))) fun M_127 =>
      D_X8_laysJoined_133 P zFu x3_5 (0 : Int32) M_127
    else
      zI x4_5 10 <|
      if (M_5 (P + 11) x4_5.toNatClampNeg) = ((1 : Int32) <<< (x1_5 &&& 31)) then
        D_X8_laysJoined_85 P (D_X8_laysJoined_5 P n) x1_5 x2_5 x3_5 x4_5 M_5
      else
        zI x4_5 10 <|
        if (M_5 (P + 11) x4_5.toNatClampNeg) = ((1 : Int32) <<< (x2_5 &&& 31)) then
          D_X8_laysJoined_85 P (D_X8_laysJoined_5 P n) x1_5 x2_5 x3_5 x4_5 M_5
        else
          zI x4_5 10 <|
          zI x3_5 10 <|
          zLt (zu M_5 (P + 11) x3_5.toNatClampNeg (M_5 (P + 11) x4_5.toNatClampNeg)) fun M_55 =>
          zI x4_5 10 <|
          zI x3_5 10 <|
          zLt (zu M_55 (P + 12) x3_5.toNatClampNeg (M_55 (P + 12) x4_5.toNatClampNeg)) fun M_68 =>
          zI x4_5 10 <|
          zI x3_5 10 <|
          zLt (zu M_68 (P + 13) x3_5.toNatClampNeg (M_68 (P + 13) x4_5.toNatClampNeg)) fun M_81 =>
          D_X8_laysJoined_85 P (D_X8_laysJoined_5 P n) x1_5 x2_5 (x3_5 + 1) x4_5 M_81
noncomputable def D_X8_laysJoined (P : Nat) (v0 : Int32) (v1 : Int32) (M : zMt) : Option (Int32 × zMt) :=
  D_X8_laysJoined_5 P zFu v0 v1 (0 : Int32) (0 : Int32) M
set_option maxRecDepth 100000 in
set_option maxHeartbeats 4000000 in
theorem t_X8_laysJoined {l : Launch} {G : zG} {b : Nat} {L : List zC} {M : zMt} {N : zNt} {P : Nat} (hP : LX8 L P) {v0 : Int32} {v1 : Int32} {r : Int32 × zMt} (h : D_X8_laysJoined P v0 v1 M = some r) : zM l G b yX8_laysJoined cX8_laysJoined 5 (some .int) 2 0 0 [.ref P, .int v0, .int v1] (L, M, N) (fun r2 z => r2 = some (.int r.1) ∧ z = (L, r.2, N)) := by
  refine zM.of miX8_laysJoined (Nat.le_of_ble_eq_true rfl) ?_
  intro p e s m args below meth c X hr hname
  generalize hF : ((fun r2 z => r2 = some (.int r.1) ∧ z = (L, r.2, N)) : Option Value → zS → Prop) = FQ
  change Zw p l e { frames := 2, cells := 0, slots := 0, locals := 80 * (2) } s m args below meth c G b 5 (MQ below (zQ G b FQ) args s 0 0 (fun q : Nat => b ≤ q)) 0 0 0 [some (.ref P), some (.int v0), some (.int v1), none, none] [] (L, M, N)
  obtain ⟨p_lt, p_o, p_s, p_read, p_aside, p_kept, p_guest, p_readGuest, p_tape, p_unitName, p_hunterName, p_partyName, p_bits, p_partyOf, p_choiceAt, p_sizes, p_guestMany, p_pointsOf, p_ticketsOf, p_ord, p_given, p_roundOf, p_tags, p_guestTags, p_places, p_sumAt, p_sumFirst, p_sumRound, p_sumBoth, p_sumTags, p_isEnd, p_newPoints, p_inRow, p_out⟩ := id hP
  have L_133 : ∀ u : Nat, ∀ (x1_133 : Int32) (x2_133 : Int32) (x3_133 : Int32) (x4_133 : Int32) (M_133 : zMt), D_X8_laysJoined_133 P u x3_133 x4_133 M_133 = some r → Zw p l e { frames := 2, cells := 0, slots := 0, locals := 80 * (2) } s m args below meth c G b 5 (MQ below (zQ G b FQ) args s 0 0 (fun q : Nat => b ≤ q)) 0 0 133 [some (.ref (P)), some (.int x1_133), some (.int x2_133), some (.int x3_133), some (.int x4_133)] [] (L, M_133, N) := by
    intro u
    induction u with
    | zero => intro x1_133 x2_133 x3_133 x4_133 M_133 h; cases (show none = some r from h)
    | succ u_133 ih_133 =>
      intro x1_133 x2_133 x3_133 x4_133 M_133 h
      rw [D_X8_laysJoined_133] at h
      refine a_iload X dX8_laysJoined_133 rfl ?_
      refine a_aload_n X dX8_laysJoined_135 rfl ?_
      refine a_geti X lf8_275 (by assumption) rfl dX8_laysJoined_136 ?_
      refine a_icmp_ge (tgt := 154) X dX8_laysJoined_139 (by decide) (fun h_139 => ?_) (fun h_139 => ?_)
      · replace h := (if_pos h_139).symm.trans h
        refine a_iload_n X dX8_laysJoined_154 rfl ?_
        refine a_iret X hr dX8_laysJoined_155 ⟨by decide, by decide⟩ ?_
        subst hF
        rw [← Option.some.inj h]
        exact ⟨rfl, rfl⟩
      · replace h := (if_neg h_139).symm.trans h
        refine a_aload_n X dX8_laysJoined_142 rfl ?_
        refine a_iload X dX8_laysJoined_143 rfl ?_
        obtain ⟨e_145, f_145, h⟩ := zBx h
        refine a_callVu X dX8_laysJoined_145 miX8_laysOne lm8_278 (t_X8_laysOne (by assumption) f_145) (by assumption) rfl rfl rfl (Nat.le_of_ble_eq_true rfl) ⟨by decide, by decide, by decide, by decide⟩ ?_
        refine a_iinc (v := x4_133 + 1) X dX8_laysJoined_148 (by decide) rfl zi_1 ?_
        refine a_goto (tgt := 133) X dX8_laysJoined_151 (by decide) ?_
        exact Zw.to2 (ih_133 _ _ _ _ _ h) rfl rfl rfl
  have H_133 : ∀ (x1_133 : Int32) (x2_133 : Int32) (x3_133 : Int32) (x4_133 : Int32) (M_133 : zMt), D_X8_laysJoined_133 P zFu x3_133 x4_133 M_133 = some r → Zw p l e { frames := 2, cells := 0, slots := 0, locals := 80 * (2) } s m args below meth c G b 5 (MQ below (zQ G b FQ) args s 0 0 (fun q : Nat => b ≤ q)) 0 0 133 [some (.ref (P)), some (.int x1_133), some (.int x2_133), some (.int x3_133), some (.int x4_133)] [] (L, M_133, N) := L_133 zFu
  have L_5 : ∀ u : Nat, ∀ (x1_5 : Int32) (x2_5 : Int32) (x3_5 : Int32) (x4_5 : Int32) (M_5 : zMt), D_X8_laysJoined_5 P u x1_5 x2_5 x3_5 x4_5 M_5 = some r → Zw p l e { frames := 2, cells := 0, slots := 0, locals := 80 * (2) } s m args below meth c G b 5 (MQ below (zQ G b FQ) args s 0 0 (fun q : Nat => b ≤ q)) 0 0 5 [some (.ref (P)), some (.int x1_5), some (.int x2_5), some (.int x3_5), some (.int x4_5)] [] (L, M_5, N) := by
    intro u
    induction u with
    | zero => intro x1_5 x2_5 x3_5 x4_5 M_5 h; cases (show none = some r from h)
    | succ u_5 ih_5 =>
      have J_85 : ∀ (x1_85 : Int32) (x2_85 : Int32) (x3_85 : Int32) (x4_85 : Int32) (M_85 : zMt), D_X8_laysJoined_85 P (D_X8_laysJoined_5 P u_5) x1_85 x2_85 x3_85 x4_85 M_85 = some r → Zw p l e { frames := 2, cells := 0, slots := 0, locals := 80 * (2) } s m args below meth c G b 5 (MQ below (zQ G b FQ) args s 0 0 (fun q : Nat => b ≤ q)) 0 0 85 [some (.ref (P)), some (.int x1_85), some (.int x2_85), some (.int x3_85), some (.int x4_85)] [] (L, M_85, N) := by
        intro x1_85 x2_85 x3_85 x4_85 M_85 h
        unfold D_X8_laysJoined_85 at h
        refine a_iinc (v := x4_85 + 1) X dX8_laysJoined_85 (by decide) rfl zi_1 ?_
        refine a_goto (tgt := 5) X dX8_laysJoined_88 (by decide) ?_
        exact Zw.to2 (ih_5 _ _ _ _ _ h) rfl rfl rfl
      intro x1_5 x2_5 x3_5 x4_5 M_5 h
      rw [D_X8_laysJoined_5] at h
      refine a_iload X dX8_laysJoined_5 rfl ?_
      refine a_aload_n X dX8_laysJoined_7 rfl ?_
      refine a_geti X lf8_275 (by assumption) rfl dX8_laysJoined_8 ?_
      refine a_icmp_ge (tgt := 91) X dX8_laysJoined_11 (by decide) (fun h_11 => ?_) (fun h_11 => ?_)
      · replace h := (if_pos h_11).symm.trans h
        refine a_aload_n X dX8_laysJoined_91 rfl ?_
        refine a_getr X lf8_49 (by assumption) rfl (by omega) dX8_laysJoined_92 ?_
        refine a_iload_n X dX8_laysJoined_95 rfl ?_
        refine a_iconst (v := 1) X dX8_laysJoined_96 (by decide) ?_
        refine a_iload_n X dX8_laysJoined_97 rfl ?_
        refine a_ishl X dX8_laysJoined_98 ?_
        refine a_iconst (v := 1) X dX8_laysJoined_99 (by decide) ?_
        refine a_iload_n X dX8_laysJoined_100 rfl ?_
        refine a_ishl X dX8_laysJoined_101 ?_
        refine a_ior X dX8_laysJoined_102 ?_
        obtain ⟨g_103, h⟩ := zIx h
        obtain ⟨M_103, f_103, h⟩ := zLtx h
        refine d_iastore X (by assumption) g_103 dX8_laysJoined_103 f_103 ?_
        refine a_aload_n X dX8_laysJoined_104 rfl ?_
        refine a_getr X lf8_52 (by assumption) rfl (by omega) dX8_laysJoined_105 ?_
        refine a_iload_n X dX8_laysJoined_108 rfl ?_
        refine a_iconst (v := -1) X dX8_laysJoined_109 (by decide) ?_
        obtain ⟨g_110, h⟩ := zIx h
        obtain ⟨M_110, f_110, h⟩ := zLtx h
        refine d_iastore X (by assumption) g_110 dX8_laysJoined_110 f_110 ?_
        refine a_aload_n X dX8_laysJoined_111 rfl ?_
        refine a_getr X lf8_55 (by assumption) rfl (by omega) dX8_laysJoined_112 ?_
        refine a_iload_n X dX8_laysJoined_115 rfl ?_
        refine a_bipush (v := 20) X dX8_laysJoined_116 (by decide) ?_
        refine a_iconst (v := 3) X dX8_laysJoined_118 (by decide) ?_
        refine a_iload_n X dX8_laysJoined_119 rfl ?_
        refine a_imul X dX8_laysJoined_120 ?_
        refine a_iadd X dX8_laysJoined_121 ?_
        obtain ⟨g_122, h⟩ := zIx h
        obtain ⟨M_122, f_122, h⟩ := zLtx h
        refine d_iastore X (by assumption) g_122 dX8_laysJoined_122 f_122 ?_
        refine a_aload_n X dX8_laysJoined_123 rfl ?_
        refine a_iload_n X dX8_laysJoined_124 rfl ?_
        refine a_iconst (v := 1) X dX8_laysJoined_125 (by decide) ?_
        refine a_iadd X dX8_laysJoined_126 ?_
        obtain ⟨M_127, f_127, h⟩ := zLtx h
        refine d_puti X lf8_275 (by assumption) rfl dX8_laysJoined_127 f_127 ?_
        refine a_iconst (v := 0) X dX8_laysJoined_130 (by decide) ?_
        refine a_istore X dX8_laysJoined_131 (by decide) ?_
        exact Zw.to2 (H_133 _ _ _ _ _ h) rfl rfl rfl
      · replace h := (if_neg h_11).symm.trans h
        refine a_aload_n X dX8_laysJoined_14 rfl ?_
        refine a_getr X lf8_49 (by assumption) rfl (by omega) dX8_laysJoined_15 ?_
        refine a_iload X dX8_laysJoined_18 rfl ?_
        obtain ⟨g_20, h⟩ := zIx h
        refine a_iaload X (by assumption) g_20 dX8_laysJoined_20 ?_
        refine a_iconst (v := 1) X dX8_laysJoined_21 (by decide) ?_
        refine a_iload_n X dX8_laysJoined_22 rfl ?_
        refine a_ishl X dX8_laysJoined_23 ?_
        refine a_icmp_eq (tgt := 85) X dX8_laysJoined_24 (by decide) (fun h_24 => ?_) (fun h_24 => ?_)
        · replace h := (if_pos h_24).symm.trans h
          exact Zw.to2 (J_85 _ _ _ _ _ h) rfl rfl rfl
        · replace h := (if_neg h_24).symm.trans h
          refine a_aload_n X dX8_laysJoined_27 rfl ?_
          refine a_getr X lf8_49 (by assumption) rfl (by omega) dX8_laysJoined_28 ?_
          refine a_iload X dX8_laysJoined_31 rfl ?_
          obtain ⟨g_33, h⟩ := zIx h
          refine a_iaload X (by assumption) g_33 dX8_laysJoined_33 ?_
          refine a_iconst (v := 1) X dX8_laysJoined_34 (by decide) ?_
          refine a_iload_n X dX8_laysJoined_35 rfl ?_
          refine a_ishl X dX8_laysJoined_36 ?_
          refine a_icmp_ne (tgt := 43) X dX8_laysJoined_37 (by decide) (fun h_37 => ?_) (fun h_37 => ?_)
          · replace h := (if_neg h_37).symm.trans h
            refine a_aload_n X dX8_laysJoined_43 rfl ?_
            refine a_getr X lf8_49 (by assumption) rfl (by omega) dX8_laysJoined_44 ?_
            refine a_iload_n X dX8_laysJoined_47 rfl ?_
            refine a_aload_n X dX8_laysJoined_48 rfl ?_
            refine a_getr X lf8_49 (by assumption) rfl (by omega) dX8_laysJoined_49 ?_
            refine a_iload X dX8_laysJoined_52 rfl ?_
            obtain ⟨g_54, h⟩ := zIx h
            refine a_iaload X (by assumption) g_54 dX8_laysJoined_54 ?_
            obtain ⟨g_55, h⟩ := zIx h
            obtain ⟨M_55, f_55, h⟩ := zLtx h
            refine d_iastore X (by assumption) g_55 dX8_laysJoined_55 f_55 ?_
            refine a_aload_n X dX8_laysJoined_56 rfl ?_
            refine a_getr X lf8_52 (by assumption) rfl (by omega) dX8_laysJoined_57 ?_
            refine a_iload_n X dX8_laysJoined_60 rfl ?_
            refine a_aload_n X dX8_laysJoined_61 rfl ?_
            refine a_getr X lf8_52 (by assumption) rfl (by omega) dX8_laysJoined_62 ?_
            refine a_iload X dX8_laysJoined_65 rfl ?_
            obtain ⟨g_67, h⟩ := zIx h
            refine a_iaload X (by assumption) g_67 dX8_laysJoined_67 ?_
            obtain ⟨g_68, h⟩ := zIx h
            obtain ⟨M_68, f_68, h⟩ := zLtx h
            refine d_iastore X (by assumption) g_68 dX8_laysJoined_68 f_68 ?_
            refine a_aload_n X dX8_laysJoined_69 rfl ?_
            refine a_getr X lf8_55 (by assumption) rfl (by omega) dX8_laysJoined_70 ?_
            refine a_iload_n X dX8_laysJoined_73 rfl ?_
            refine a_aload_n X dX8_laysJoined_74 rfl ?_
            refine a_getr X lf8_55 (by assumption) rfl (by omega) dX8_laysJoined_75 ?_
            refine a_iload X dX8_laysJoined_78 rfl ?_
            obtain ⟨g_80, h⟩ := zIx h
            refine a_iaload X (by assumption) g_80 dX8_laysJoined_80 ?_
            obtain ⟨g_81, h⟩ := zIx h
            obtain ⟨M_81, f_81, h⟩ := zLtx h
            refine d_iastore X (by assumption) g_81 dX8_laysJoined_81 f_81 ?_
            refine a_iinc (v := x3_5 + 1) X dX8_laysJoined_82 (by decide) rfl zi_1 ?_
            exact Zw.to2 (J_85 _ _ _ _ _ h) rfl rfl rfl
          · replace h := (if_pos h_37).symm.trans h
            refine a_goto (tgt := 85) X dX8_laysJoined_40 (by decide) ?_
            exact Zw.to2 (J_85 _ _ _ _ _ h) rfl rfl rfl
  have H_5 : ∀ (x1_5 : Int32) (x2_5 : Int32) (x3_5 : Int32) (x4_5 : Int32) (M_5 : zMt), D_X8_laysJoined_5 P zFu x1_5 x2_5 x3_5 x4_5 M_5 = some r → Zw p l e { frames := 2, cells := 0, slots := 0, locals := 80 * (2) } s m args below meth c G b 5 (MQ below (zQ G b FQ) args s 0 0 (fun q : Nat => b ≤ q)) 0 0 5 [some (.ref (P)), some (.int x1_5), some (.int x2_5), some (.int x3_5), some (.int x4_5)] [] (L, M_5, N) := L_5 zFu
  unfold D_X8_laysJoined at h
  refine a_iconst (v := 0) X dX8_laysJoined_0 (by decide) ?_
  refine a_istore_n X dX8_laysJoined_1 (by decide) ?_
  refine a_iconst (v := 0) X dX8_laysJoined_2 (by decide) ?_
  refine a_istore X dX8_laysJoined_3 (by decide) ?_
  exact Zw.to2 (H_5 _ _ _ _ _ h) rfl rfl rfl
