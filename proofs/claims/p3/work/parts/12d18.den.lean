noncomputable def D_X8_bad_14 (P : Nat) (y1_14 : Int32) (M_14 : zMt) : Option (Int32 × zMt) :=
  zLt (zu M_14 P 21 y1_14) fun M_14 =>
  zLt (zu M_14 P 22 (M_14 P 16)) fun M_22 =>
  some ((0 : Int32), M_22)
noncomputable def D_X8_bad (P : Nat) (v0 : Int32) (M : zMt) : Option (Int32 × zMt) :=
  if (M P 18) = (1 : Int32) then
    D_X8_bad_14 P (1 : Int32) M
  else
    D_X8_bad_14 P v0 M
set_option maxRecDepth 100000 in
set_option maxHeartbeats 4000000 in
theorem t_X8_bad {l : Launch} {G : zG} {b : Nat} {L : List zC} {M : zMt} {N : zNt} {P : Nat} (hP : LX8 L P) {v0 : Int32} {r : Int32 × zMt} (h : D_X8_bad P v0 M = some r) : zM l G b yX8_bad cX8_bad 2 (some .boolean) 0 0 0 [.ref P, .int v0] (L, M, N) (fun r2 z => r2 = some (.int r.1) ∧ z = (L, r.2, N) ∧ (r.1 = 0 ∨ r.1 = 1)) := by
  refine zM.of miX8_bad (Nat.le_of_ble_eq_true rfl) ?_
  intro p e s m args below meth c X hr hname
  generalize hF : ((fun r2 z => r2 = some (.int r.1) ∧ z = (L, r.2, N) ∧ (r.1 = 0 ∨ r.1 = 1)) : Option Value → zS → Prop) = FQ
  change Zw p l e { frames := 0, cells := 0, slots := 0, locals := 80 * (0) } s m args below meth c G b 2 (MQ below (zQ G b FQ) args s 0 0 (fun q : Nat => b ≤ q)) 0 0 0 [some (.ref P), some (.int v0)] [] (L, M, N)
  obtain ⟨p_lt, p_o, p_s, p_read, p_aside, p_kept, p_guest, p_readGuest, p_tape, p_unitName, p_hunterName, p_partyName, p_bits, p_partyOf, p_choiceAt, p_sizes, p_guestMany, p_pointsOf, p_ticketsOf, p_ord, p_given, p_roundOf, p_tags, p_guestTags, p_places, p_sumAt, p_sumFirst, p_sumRound, p_sumBoth, p_sumTags, p_isEnd, p_newPoints, p_inRow, p_out⟩ := id hP
  have J_14 : ∀ (x1_14 : Int32) (y1_14 : Int32) (M_14 : zMt), D_X8_bad_14 P y1_14 M_14 = some r → Zw p l e { frames := 0, cells := 0, slots := 0, locals := 80 * (0) } s m args below meth c G b 2 (MQ below (zQ G b FQ) args s 0 0 (fun q : Nat => b ≤ q)) 0 0 14 [some (.ref (P)), some (.int x1_14)] [.int y1_14, .ref (P)] (L, M_14, N) := by
    intro x1_14 y1_14 M_14 h
    unfold D_X8_bad_14 at h
    obtain ⟨M_14, f_14, h⟩ := zLtx h
    refine d_puti X lf8_195 (by assumption) rfl dX8_bad_14 f_14 ?_
    refine a_aload_n X dX8_bad_17 rfl ?_
    refine a_aload_n X dX8_bad_18 rfl ?_
    refine a_geti X lf8_154 (by assumption) rfl dX8_bad_19 ?_
    obtain ⟨M_22, f_22, h⟩ := zLtx h
    refine d_puti X lf8_198 (by assumption) rfl dX8_bad_22 f_22 ?_
    refine a_iconst (v := 0) X dX8_bad_25 (by decide) ?_
    refine a_zret X (by first | exact Or.inl rfl | exact Or.inr rfl | assumption) hr dX8_bad_26 ⟨by decide, by decide⟩ ?_
    subst hF
    rw [← Option.some.inj h]
    exact ⟨rfl, rfl, (by first | exact Or.inl rfl | exact Or.inr rfl | assumption)⟩
  unfold D_X8_bad at h
  refine a_aload_n X dX8_bad_0 rfl ?_
  refine a_aload_n X dX8_bad_1 rfl ?_
  refine a_geti X lf8_160 (by assumption) rfl dX8_bad_2 ?_
  refine a_iconst (v := 1) X dX8_bad_5 (by decide) ?_
  refine a_icmp_ne (tgt := 13) X dX8_bad_6 (by decide) (fun h_6 => ?_) (fun h_6 => ?_)
  · replace h := (if_neg h_6).symm.trans h
    refine a_iload_n X dX8_bad_13 rfl ?_
    exact Zw.to2 (J_14 _ _ _ h) rfl rfl rfl
  · replace h := (if_pos h_6).symm.trans h
    refine a_iconst (v := 1) X dX8_bad_9 (by decide) ?_
    refine a_goto (tgt := 14) X dX8_bad_10 (by decide) ?_
    exact Zw.to2 (J_14 _ _ _ h) rfl rfl rfl
noncomputable def D_X8_isName_21 (P : Nat) (M : zMt) (y0_21 : Int32) : Option (Int32) :=
  some (y0_21)
noncomputable def D_X8_isName_20 (P : Nat) (M : zMt)  : Option (Int32) :=
  D_X8_isName_21 P M (0 : Int32)
noncomputable def D_X8_isName (P : Nat) (M : zMt)  : Option (Int32) :=
  if (M P 18) = (2 : Int32) then
    if (M P 19) = (-1 : Int32) then
      D_X8_isName_21 P M (1 : Int32)
    else
      D_X8_isName_20 P M
  else
    D_X8_isName_20 P M
set_option maxRecDepth 100000 in
set_option maxHeartbeats 4000000 in
theorem t_X8_isName {l : Launch} {G : zG} {b : Nat} {L : List zC} {M : zMt} {N : zNt} {P : Nat} (hP : LX8 L P)  {r : Int32} (h : D_X8_isName P M = some r) : zM l G b yX8_isName cX8_isName 1 (some .boolean) 0 0 0 [.ref P] (L, M, N) (fun r2 z => r2 = some (.int r) ∧ z = (L, M, N) ∧ (r = 0 ∨ r = 1)) := by
  refine zM.of miX8_isName (Nat.le_of_ble_eq_true rfl) ?_
  intro p e s m args below meth c X hr hname
  generalize hF : ((fun r2 z => r2 = some (.int r) ∧ z = (L, M, N) ∧ (r = 0 ∨ r = 1)) : Option Value → zS → Prop) = FQ
  change Zw p l e { frames := 0, cells := 0, slots := 0, locals := 80 * (0) } s m args below meth c G b 1 (MQ below (zQ G b FQ) args s 0 0 (fun q : Nat => b ≤ q)) 0 0 0 [some (.ref P)] [] (L, M, N)
  obtain ⟨p_lt, p_o, p_s, p_read, p_aside, p_kept, p_guest, p_readGuest, p_tape, p_unitName, p_hunterName, p_partyName, p_bits, p_partyOf, p_choiceAt, p_sizes, p_guestMany, p_pointsOf, p_ticketsOf, p_ord, p_given, p_roundOf, p_tags, p_guestTags, p_places, p_sumAt, p_sumFirst, p_sumRound, p_sumBoth, p_sumTags, p_isEnd, p_newPoints, p_inRow, p_out⟩ := id hP
  have J_21 : ∀ (y0_21 : Int32), (y0_21 = 0 ∨ y0_21 = 1) → D_X8_isName_21 P M y0_21 = some r → Zw p l e { frames := 0, cells := 0, slots := 0, locals := 80 * (0) } s m args below meth c G b 1 (MQ below (zQ G b FQ) args s 0 0 (fun q : Nat => b ≤ q)) 0 0 21 [some (.ref (P))] [.int y0_21] (L, M, N) := by
    intro y0_21 fb_y0_21 h
    unfold D_X8_isName_21 at h
    refine a_zret X (by first | exact Or.inl rfl | exact Or.inr rfl | assumption) hr dX8_isName_21 ⟨by decide, by decide⟩ ?_
    subst hF
    rw [← Option.some.inj h]
    exact ⟨rfl, rfl, (by first | exact Or.inl rfl | exact Or.inr rfl | assumption)⟩
  have J_20 : D_X8_isName_20 P M = some r → Zw p l e { frames := 0, cells := 0, slots := 0, locals := 80 * (0) } s m args below meth c G b 1 (MQ below (zQ G b FQ) args s 0 0 (fun q : Nat => b ≤ q)) 0 0 20 [some (.ref (P))] [] (L, M, N) := by
    intro h
    unfold D_X8_isName_20 at h
    refine a_iconst (v := 0) X dX8_isName_20 (by decide) ?_
    exact Zw.to2 (J_21 _ (by first | exact Or.inl rfl | exact Or.inr rfl | assumption) h) rfl rfl rfl
  unfold D_X8_isName at h
  refine a_aload_n X dX8_isName_0 rfl ?_
  refine a_geti X lf8_160 (by assumption) rfl dX8_isName_1 ?_
  refine a_iconst (v := 2) X dX8_isName_4 (by decide) ?_
  refine a_icmp_ne (tgt := 20) X dX8_isName_5 (by decide) (fun h_5 => ?_) (fun h_5 => ?_)
  · replace h := (if_neg h_5).symm.trans h
    exact Zw.to2 (J_20 h) rfl rfl rfl
  · replace h := (if_pos h_5).symm.trans h
    refine a_aload_n X dX8_isName_8 rfl ?_
    refine a_geti X lf8_157 (by assumption) rfl dX8_isName_9 ?_
    refine a_iconst (v := -1) X dX8_isName_12 (by decide) ?_
    refine a_icmp_ne (tgt := 20) X dX8_isName_13 (by decide) (fun h_13 => ?_) (fun h_13 => ?_)
    · replace h := (if_neg h_13).symm.trans h
      exact Zw.to2 (J_20 h) rfl rfl rfl
    · replace h := (if_pos h_13).symm.trans h
      refine a_iconst (v := 1) X dX8_isName_16 (by decide) ?_
      refine a_goto (tgt := 21) X dX8_isName_17 (by decide) ?_
      exact Zw.to2 (J_21 _ (by first | exact Or.inl rfl | exact Or.inr rfl | assumption) h) rfl rfl rfl
noncomputable def D_X8_found_3 (Q : Nat) (nQ : Nat) (N : zNt) : Nat → Int32 → Int64 → Int32 → Option (Int32)
  | 0, _, _, _ => none
  | n + 1, x1_3, x2_3, x4_3 =>
    if x1_3 ≤ x4_3 then
      some ((-1 : Int32))
    else
      zI x4_3 nQ <|
      if (lg_cmp (N Q x4_3.toNatClampNeg) x2_3) = 0 then
        some (x4_3)
      else
        (D_X8_found_3 Q nQ N n) x1_3 x2_3 (x4_3 + 1)
noncomputable def D_X8_found (Q : Nat) (nQ : Nat) (N : zNt) (v0 : Int32) (v1 : Int64) : Option (Int32) :=
  D_X8_found_3 Q nQ N zFu v0 v1 (0 : Int32)
set_option maxRecDepth 100000 in
set_option maxHeartbeats 4000000 in
theorem t_X8_found {l : Launch} {G : zG} {b : Nat} {L : List zC} {M : zMt} {N : zNt} {Q : Nat} {nQ : Nat} (hQ : L[Q]? = some (3, nQ, [])) (lQ : nQ < 2 ^ 31) {v0 : Int32} {v1 : Int64} {r : Int32} (h : D_X8_found Q nQ N v0 v1 = some r) : zM l G b yX8_found cX8_found 5 (some .int) 0 0 0 [.ref Q, .int v0, .long v1] (L, M, N) (fun r2 z => r2 = some (.int r) ∧ z = (L, M, N)) := by
  refine zM.of miX8_found (Nat.le_of_ble_eq_true rfl) ?_
  intro p e s m args below meth c X hr hname
  generalize hF : ((fun r2 z => r2 = some (.int r) ∧ z = (L, M, N)) : Option Value → zS → Prop) = FQ
  change Zw p l e { frames := 0, cells := 0, slots := 0, locals := 80 * (0) } s m args below meth c G b 5 (MQ below (zQ G b FQ) args s 0 0 (fun q : Nat => b ≤ q)) 0 0 0 [some (.ref Q), some (.int v0), some (.long v1), none, none] [] (L, M, N)
  have L_3 : ∀ u : Nat, ∀ (x1_3 : Int32) (x2_3 : Int64) (x4_3 : Int32), D_X8_found_3 Q nQ N u x1_3 x2_3 x4_3 = some r → Zw p l e { frames := 0, cells := 0, slots := 0, locals := 80 * (0) } s m args below meth c G b 5 (MQ below (zQ G b FQ) args s 0 0 (fun q : Nat => b ≤ q)) 0 0 3 [some (.ref (Q)), some (.int x1_3), some (.long x2_3), none, some (.int x4_3)] [] (L, M, N) := by
    intro u
    induction u with
    | zero => intro x1_3 x2_3 x4_3 h; cases (show none = some r from h)
    | succ u_3 ih_3 =>
      intro x1_3 x2_3 x4_3 h
      rw [D_X8_found_3] at h
      refine a_iload X dX8_found_3 rfl ?_
      refine a_iload_n X dX8_found_5 rfl ?_
      refine a_icmp_ge (tgt := 27) X dX8_found_6 (by decide) (fun h_6 => ?_) (fun h_6 => ?_)
      · replace h := (if_pos h_6).symm.trans h
        refine a_iconst (v := -1) X dX8_found_27 (by decide) ?_
        refine a_iret X hr dX8_found_28 ⟨by decide, by decide⟩ ?_
        subst hF
        rw [← Option.some.inj h]
        exact ⟨rfl, rfl⟩
      · replace h := (if_neg h_6).symm.trans h
        refine a_aload_n X dX8_found_9 rfl ?_
        refine a_iload X dX8_found_10 rfl ?_
        obtain ⟨g_12, h⟩ := zIx h
        refine a_laload X (by assumption) g_12 dX8_found_12 ?_
        refine a_lload_n X dX8_found_13 rfl ?_
        refine a_lcmp X dX8_found_14 ?_
        refine a_if_ne (tgt := 21) X dX8_found_15 (by decide) (fun h_15 => ?_) (fun h_15 => ?_)
        · replace h := (if_neg h_15).symm.trans h
          refine a_iinc (v := x4_3 + 1) X dX8_found_21 (by decide) rfl zi_1 ?_
          refine a_goto (tgt := 3) X dX8_found_24 (by decide) ?_
          exact Zw.to2 (ih_3 _ _ _ h) rfl rfl rfl
        · replace h := (if_pos h_15).symm.trans h
          refine a_iload X dX8_found_18 rfl ?_
          refine a_iret X hr dX8_found_20 ⟨by decide, by decide⟩ ?_
          subst hF
          rw [← Option.some.inj h]
          exact ⟨rfl, rfl⟩
  have H_3 : ∀ (x1_3 : Int32) (x2_3 : Int64) (x4_3 : Int32), D_X8_found_3 Q nQ N zFu x1_3 x2_3 x4_3 = some r → Zw p l e { frames := 0, cells := 0, slots := 0, locals := 80 * (0) } s m args below meth c G b 5 (MQ below (zQ G b FQ) args s 0 0 (fun q : Nat => b ≤ q)) 0 0 3 [some (.ref (Q)), some (.int x1_3), some (.long x2_3), none, some (.int x4_3)] [] (L, M, N) := L_3 zFu
  unfold D_X8_found at h
  refine a_iconst (v := 0) X dX8_found_0 (by decide) ?_
  refine a_istore X dX8_found_1 (by decide) ?_
  exact Zw.to2 (H_3 _ _ _ h) rfl rfl rfl
noncomputable def D_X8_isTaken_62 (P : Nat) (M : zMt) (N : zNt) (y0_62 : Int32) : Option (Int32) :=
  some (y0_62)
noncomputable def D_X8_isTaken_57 (P : Nat) (M : zMt) (N : zNt)  : Option (Int32) :=
  D_X8_isTaken_62 P M N (1 : Int32)
noncomputable def D_X8_isTaken (P : Nat) (M : zMt) (N : zNt)  : Option (Int32) :=
  zB (D_X8_found (P + 8) 5 N (M P 28) (N P 24)) fun e_12 =>
  if e_12 = (-1 : Int32) then
    zB (D_X8_found (P + 9) 10 N (M P 29) (N P 24)) fun e_31 =>
    if e_31 = (-1 : Int32) then
      zB (D_X8_found (P + 10) 4 N (M P 30) (N P 24)) fun e_50 =>
      if e_50 = (-1 : Int32) then
        D_X8_isTaken_62 P M N (0 : Int32)
      else
        D_X8_isTaken_57 P M N
    else
      D_X8_isTaken_57 P M N
  else
    D_X8_isTaken_57 P M N
set_option maxRecDepth 100000 in
set_option maxHeartbeats 4000000 in
theorem t_X8_isTaken {l : Launch} {G : zG} {b : Nat} {L : List zC} {M : zMt} {N : zNt} {P : Nat} (hP : LX8 L P)  {r : Int32} (h : D_X8_isTaken P M N = some r) : zM l G b yX8_isTaken cX8_isTaken 1 (some .boolean) 1 0 0 [.ref P] (L, M, N) (fun r2 z => r2 = some (.int r) ∧ z = (L, M, N) ∧ (r = 0 ∨ r = 1)) := by
  refine zM.of miX8_isTaken (Nat.le_of_ble_eq_true rfl) ?_
  intro p e s m args below meth c X hr hname
  generalize hF : ((fun r2 z => r2 = some (.int r) ∧ z = (L, M, N) ∧ (r = 0 ∨ r = 1)) : Option Value → zS → Prop) = FQ
  change Zw p l e { frames := 1, cells := 0, slots := 0, locals := 80 * (1) } s m args below meth c G b 1 (MQ below (zQ G b FQ) args s 0 0 (fun q : Nat => b ≤ q)) 0 0 0 [some (.ref P)] [] (L, M, N)
  obtain ⟨p_lt, p_o, p_s, p_read, p_aside, p_kept, p_guest, p_readGuest, p_tape, p_unitName, p_hunterName, p_partyName, p_bits, p_partyOf, p_choiceAt, p_sizes, p_guestMany, p_pointsOf, p_ticketsOf, p_ord, p_given, p_roundOf, p_tags, p_guestTags, p_places, p_sumAt, p_sumFirst, p_sumRound, p_sumBoth, p_sumTags, p_isEnd, p_newPoints, p_inRow, p_out⟩ := id hP
  have J_62 : ∀ (y0_62 : Int32), (y0_62 = 0 ∨ y0_62 = 1) → D_X8_isTaken_62 P M N y0_62 = some r → Zw p l e { frames := 1, cells := 0, slots := 0, locals := 80 * (1) } s m args below meth c G b 1 (MQ below (zQ G b FQ) args s 0 0 (fun q : Nat => b ≤ q)) 0 0 62 [some (.ref (P))] [.int y0_62] (L, M, N) := by
    intro y0_62 fb_y0_62 h
    unfold D_X8_isTaken_62 at h
    refine a_zret X (by first | exact Or.inl rfl | exact Or.inr rfl | assumption) hr dX8_isTaken_62 ⟨by decide, by decide⟩ ?_
    subst hF
    rw [← Option.some.inj h]
    exact ⟨rfl, rfl, (by first | exact Or.inl rfl | exact Or.inr rfl | assumption)⟩
  have J_57 : D_X8_isTaken_57 P M N = some r → Zw p l e { frames := 1, cells := 0, slots := 0, locals := 80 * (1) } s m args below meth c G b 1 (MQ below (zQ G b FQ) args s 0 0 (fun q : Nat => b ≤ q)) 0 0 57 [some (.ref (P))] [] (L, M, N) := by
    intro h
    unfold D_X8_isTaken_57 at h
    refine a_iconst (v := 1) X dX8_isTaken_57 (by decide) ?_
    refine a_goto (tgt := 62) X dX8_isTaken_58 (by decide) ?_
    exact Zw.to2 (J_62 _ (by first | exact Or.inl rfl | exact Or.inr rfl | assumption) h) rfl rfl rfl
  unfold D_X8_isTaken at h
  refine a_aload_n X dX8_isTaken_0 rfl ?_
  refine a_getr X lf8_39 (by assumption) rfl (by omega) dX8_isTaken_1 ?_
  refine a_aload_n X dX8_isTaken_4 rfl ?_
  refine a_geti X lf8_201 (by assumption) rfl dX8_isTaken_5 ?_
  refine a_aload_n X dX8_isTaken_8 rfl ?_
  refine a_getl X lf8_167 (by assumption) rfl dX8_isTaken_9 ?_
  obtain ⟨e_12, f_12, h⟩ := zBx h
  refine a_callSv X dX8_isTaken_12 miX8_found lm8_204 (t_X8_found (by assumption) (by first | decide | assumption) f_12) rfl rfl (Nat.le_of_ble_eq_true rfl) ⟨by decide, by decide, by decide, by decide⟩ ?_
  refine a_iconst (v := -1) X dX8_isTaken_15 (by decide) ?_
  refine a_icmp_ne (tgt := 57) X dX8_isTaken_16 (by decide) (fun h_16 => ?_) (fun h_16 => ?_)
  · replace h := (if_neg h_16).symm.trans h
    exact Zw.to2 (J_57 h) rfl rfl rfl
  · replace h := (if_pos h_16).symm.trans h
    refine a_aload_n X dX8_isTaken_19 rfl ?_
    refine a_getr X lf8_43 (by assumption) rfl (by omega) dX8_isTaken_20 ?_
    refine a_aload_n X dX8_isTaken_23 rfl ?_
    refine a_geti X lf8_208 (by assumption) rfl dX8_isTaken_24 ?_
    refine a_aload_n X dX8_isTaken_27 rfl ?_
    refine a_getl X lf8_167 (by assumption) rfl dX8_isTaken_28 ?_
    obtain ⟨e_31, f_31, h⟩ := zBx h
    refine a_callSv X dX8_isTaken_31 miX8_found lm8_204 (t_X8_found (by assumption) (by first | decide | assumption) f_31) rfl rfl (Nat.le_of_ble_eq_true rfl) ⟨by decide, by decide, by decide, by decide⟩ ?_
    refine a_iconst (v := -1) X dX8_isTaken_34 (by decide) ?_
    refine a_icmp_ne (tgt := 57) X dX8_isTaken_35 (by decide) (fun h_35 => ?_) (fun h_35 => ?_)
    · replace h := (if_neg h_35).symm.trans h
      exact Zw.to2 (J_57 h) rfl rfl rfl
    · replace h := (if_pos h_35).symm.trans h
      refine a_aload_n X dX8_isTaken_38 rfl ?_
      refine a_getr X lf8_46 (by assumption) rfl (by omega) dX8_isTaken_39 ?_
      refine a_aload_n X dX8_isTaken_42 rfl ?_
      refine a_geti X lf8_211 (by assumption) rfl dX8_isTaken_43 ?_
      refine a_aload_n X dX8_isTaken_46 rfl ?_
      refine a_getl X lf8_167 (by assumption) rfl dX8_isTaken_47 ?_
      obtain ⟨e_50, f_50, h⟩ := zBx h
      refine a_callSv X dX8_isTaken_50 miX8_found lm8_204 (t_X8_found (by assumption) (by first | decide | assumption) f_50) rfl rfl (Nat.le_of_ble_eq_true rfl) ⟨by decide, by decide, by decide, by decide⟩ ?_
      refine a_iconst (v := -1) X dX8_isTaken_53 (by decide) ?_
      refine a_icmp_eq (tgt := 61) X dX8_isTaken_54 (by decide) (fun h_54 => ?_) (fun h_54 => ?_)
      · replace h := (if_pos h_54).symm.trans h
        refine a_iconst (v := 0) X dX8_isTaken_61 (by decide) ?_
        exact Zw.to2 (J_62 _ (by first | exact Or.inl rfl | exact Or.inr rfl | assumption) h) rfl rfl rfl
      · replace h := (if_neg h_54).symm.trans h
        exact Zw.to2 (J_57 h) rfl rfl rfl
noncomputable def D_X8_number (P : Nat) (v0 : Int32) (v1 : Int32) (M : zMt) (N : zNt) : Option (Int32 × zMt × zNt) :=
  if (M P 18) = (3 : Int32) then
    zB (D_X8_isFrom (Int32.toInt64 (M P 20)) (Int32.toInt64 v0) (Int32.toInt64 v1)) fun e_23 =>
    if e_23 = 0 then
      zB (D_X8_bad P (3 : Int32) M) fun e_31 =>
      some (e_31.1, e_31.2, N)
    else
      zLt (zu M P 31 (M P 20)) fun M_40 =>
      zB (D_X8_next P M_40 N) fun e_44 =>
      some (e_44.1, e_44.2.1, e_44.2.2)
  else
    zB (D_X8_bad P (2 : Int32) M) fun e_10 =>
    some (e_10.1, e_10.2, N)
set_option maxRecDepth 100000 in
set_option maxHeartbeats 4000000 in
theorem t_X8_number {l : Launch} {G : zG} {b : Nat} {L : List zC} {M : zMt} {N : zNt} {P : Nat} (hP : LX8 L P) {v0 : Int32} {v1 : Int32} {r : Int32 × zMt × zNt} (h : D_X8_number P v0 v1 M N = some r) : zM l G b yX8_number cX8_number 3 (some .boolean) 6 0 0 [.ref P, .int v0, .int v1] (L, M, N) (fun r2 z => r2 = some (.int r.1) ∧ z = (L, r.2.1, r.2.2) ∧ (r.1 = 0 ∨ r.1 = 1)) := by
  refine zM.of miX8_number (Nat.le_of_ble_eq_true rfl) ?_
  intro p e s m args below meth c X hr hname
  generalize hF : ((fun r2 z => r2 = some (.int r.1) ∧ z = (L, r.2.1, r.2.2) ∧ (r.1 = 0 ∨ r.1 = 1)) : Option Value → zS → Prop) = FQ
  change Zw p l e { frames := 6, cells := 0, slots := 0, locals := 80 * (6) } s m args below meth c G b 3 (MQ below (zQ G b FQ) args s 0 0 (fun q : Nat => b ≤ q)) 0 0 0 [some (.ref P), some (.int v0), some (.int v1)] [] (L, M, N)
  obtain ⟨p_lt, p_o, p_s, p_read, p_aside, p_kept, p_guest, p_readGuest, p_tape, p_unitName, p_hunterName, p_partyName, p_bits, p_partyOf, p_choiceAt, p_sizes, p_guestMany, p_pointsOf, p_ticketsOf, p_ord, p_given, p_roundOf, p_tags, p_guestTags, p_places, p_sumAt, p_sumFirst, p_sumRound, p_sumBoth, p_sumTags, p_isEnd, p_newPoints, p_inRow, p_out⟩ := id hP
  unfold D_X8_number at h
  refine a_aload_n X dX8_number_0 rfl ?_
  refine a_geti X lf8_160 (by assumption) rfl dX8_number_1 ?_
  refine a_iconst (v := 3) X dX8_number_4 (by decide) ?_
  refine a_icmp_eq (tgt := 14) X dX8_number_5 (by decide) (fun h_5 => ?_) (fun h_5 => ?_)
  · replace h := (if_pos h_5).symm.trans h
    refine a_aload_n X dX8_number_14 rfl ?_
    refine a_geti X lf8_182 (by assumption) rfl dX8_number_15 ?_
    refine a_i2l X dX8_number_18 ?_
    refine a_iload_n X dX8_number_19 rfl ?_
    refine a_i2l X dX8_number_20 ?_
    refine a_iload_n X dX8_number_21 rfl ?_
    refine a_i2l X dX8_number_22 ?_
    obtain ⟨e_23, f_23, h⟩ := zBx h
    refine a_callSx X dX8_number_23 miX8_isFrom lm8_128 (t_X8_isFrom f_23) rfl rfl (Nat.le_of_ble_eq_true rfl) ⟨by decide, by decide, by decide, by decide⟩ (fun r_23 S_23 q_23 => ?_)
    obtain ⟨rfl, rfl, b_23⟩ := q_23
    refine a_if_ne (tgt := 35) X dX8_number_26 (by decide) (fun h_26 => ?_) (fun h_26 => ?_)
    · replace h := (if_neg h_26).symm.trans h
      refine a_aload_n X dX8_number_35 rfl ?_
      refine a_aload_n X dX8_number_36 rfl ?_
      refine a_geti X lf8_182 (by assumption) rfl dX8_number_37 ?_
      obtain ⟨M_40, f_40, h⟩ := zLtx h
      refine d_puti X lf8_217 (by assumption) rfl dX8_number_40 f_40 ?_
      refine a_aload_n X dX8_number_43 rfl ?_
      obtain ⟨e_44, f_44, h⟩ := zBx h
      refine a_callVx X dX8_number_44 miX8_next lm8_220 (t_X8_next (by assumption) f_44) (by assumption) rfl rfl rfl (Nat.le_of_ble_eq_true rfl) ⟨by decide, by decide, by decide, by decide⟩ (fun r_44 S_44 q_44 => ?_)
      obtain ⟨rfl, rfl, b_44⟩ := q_44
      refine a_zret X (by first | exact Or.inl rfl | exact Or.inr rfl | assumption) hr dX8_number_47 ⟨by decide, by decide⟩ ?_
      subst hF
      rw [← Option.some.inj h]
      exact ⟨rfl, rfl, (by first | exact Or.inl rfl | exact Or.inr rfl | assumption)⟩
    · replace h := (if_pos h_26).symm.trans h
      refine a_aload_n X dX8_number_29 rfl ?_
      refine a_iconst (v := 3) X dX8_number_30 (by decide) ?_
      obtain ⟨e_31, f_31, h⟩ := zBx h
      refine a_callVx X dX8_number_31 miX8_bad lm8_214 (t_X8_bad (by assumption) f_31) (by assumption) rfl rfl rfl (Nat.le_of_ble_eq_true rfl) ⟨by decide, by decide, by decide, by decide⟩ (fun r_31 S_31 q_31 => ?_)
      obtain ⟨rfl, rfl, b_31⟩ := q_31
      refine a_zret X (by first | exact Or.inl rfl | exact Or.inr rfl | assumption) hr dX8_number_34 ⟨by decide, by decide⟩ ?_
      subst hF
      rw [← Option.some.inj h]
      exact ⟨rfl, rfl, (by first | exact Or.inl rfl | exact Or.inr rfl | assumption)⟩
  · replace h := (if_neg h_5).symm.trans h
    refine a_aload_n X dX8_number_8 rfl ?_
    refine a_iconst (v := 2) X dX8_number_9 (by decide) ?_
    obtain ⟨e_10, f_10, h⟩ := zBx h
    refine a_callVx X dX8_number_10 miX8_bad lm8_214 (t_X8_bad (by assumption) f_10) (by assumption) rfl rfl rfl (Nat.le_of_ble_eq_true rfl) ⟨by decide, by decide, by decide, by decide⟩ (fun r_10 S_10 q_10 => ?_)
    obtain ⟨rfl, rfl, b_10⟩ := q_10
    refine a_zret X (by first | exact Or.inl rfl | exact Or.inr rfl | assumption) hr dX8_number_13 ⟨by decide, by decide⟩ ?_
    subst hF
    rw [← Option.some.inj h]
    exact ⟨rfl, rfl, (by first | exact Or.inl rfl | exact Or.inr rfl | assumption)⟩
noncomputable def D_X8_newName (P : Nat) (M : zMt) (N : zNt) : Option (Int32 × zMt × zNt) :=
  zB (D_X8_isName P M) fun e_1 =>
  if e_1 = 0 then
    zB (D_X8_bad P (2 : Int32) M) fun e_9 =>
    some (e_9.1, e_9.2, N)
  else
    zB (D_X8_isTaken P M N) fun e_14 =>
    if e_14 = 0 then
      zLt (zu N P 32 (N P 24)) fun N_31 =>
      zB (D_X8_next P M N_31) fun e_35 =>
      some (e_35.1, e_35.2.1, e_35.2.2)
    else
      zB (D_X8_bad P (4 : Int32) M) fun e_22 =>
      some (e_22.1, e_22.2, N)
set_option maxRecDepth 100000 in
set_option maxHeartbeats 4000000 in
theorem t_X8_newName {l : Launch} {G : zG} {b : Nat} {L : List zC} {M : zMt} {N : zNt} {P : Nat} (hP : LX8 L P)  {r : Int32 × zMt × zNt} (h : D_X8_newName P M N = some r) : zM l G b yX8_newName cX8_newName 1 (some .boolean) 6 0 0 [.ref P] (L, M, N) (fun r2 z => r2 = some (.int r.1) ∧ z = (L, r.2.1, r.2.2) ∧ (r.1 = 0 ∨ r.1 = 1)) := by
  refine zM.of miX8_newName (Nat.le_of_ble_eq_true rfl) ?_
  intro p e s m args below meth c X hr hname
  generalize hF : ((fun r2 z => r2 = some (.int r.1) ∧ z = (L, r.2.1, r.2.2) ∧ (r.1 = 0 ∨ r.1 = 1)) : Option Value → zS → Prop) = FQ
  change Zw p l e { frames := 6, cells := 0, slots := 0, locals := 80 * (6) } s m args below meth c G b 1 (MQ below (zQ G b FQ) args s 0 0 (fun q : Nat => b ≤ q)) 0 0 0 [some (.ref P)] [] (L, M, N)
  obtain ⟨p_lt, p_o, p_s, p_read, p_aside, p_kept, p_guest, p_readGuest, p_tape, p_unitName, p_hunterName, p_partyName, p_bits, p_partyOf, p_choiceAt, p_sizes, p_guestMany, p_pointsOf, p_ticketsOf, p_ord, p_given, p_roundOf, p_tags, p_guestTags, p_places, p_sumAt, p_sumFirst, p_sumRound, p_sumBoth, p_sumTags, p_isEnd, p_newPoints, p_inRow, p_out⟩ := id hP
  unfold D_X8_newName at h
  refine a_aload_n X dX8_newName_0 rfl ?_
  obtain ⟨e_1, f_1, h⟩ := zBx h
  refine a_callVx X dX8_newName_1 miX8_isName lm8_224 (t_X8_isName (by assumption) f_1) (by assumption) rfl rfl rfl (Nat.le_of_ble_eq_true rfl) ⟨by decide, by decide, by decide, by decide⟩ (fun r_1 S_1 q_1 => ?_)
  obtain ⟨rfl, rfl, b_1⟩ := q_1
  refine a_if_ne (tgt := 13) X dX8_newName_4 (by decide) (fun h_4 => ?_) (fun h_4 => ?_)
  · replace h := (if_neg h_4).symm.trans h
    refine a_aload_n X dX8_newName_13 rfl ?_
    obtain ⟨e_14, f_14, h⟩ := zBx h
    refine a_callVx X dX8_newName_14 miX8_isTaken lm8_227 (t_X8_isTaken (by assumption) f_14) (by assumption) rfl rfl rfl (Nat.le_of_ble_eq_true rfl) ⟨by decide, by decide, by decide, by decide⟩ (fun r_14 S_14 q_14 => ?_)
    obtain ⟨rfl, rfl, b_14⟩ := q_14
    refine a_if_eq (tgt := 26) X dX8_newName_17 (by decide) (fun h_17 => ?_) (fun h_17 => ?_)
    · replace h := (if_pos h_17).symm.trans h
      refine a_aload_n X dX8_newName_26 rfl ?_
      refine a_aload_n X dX8_newName_27 rfl ?_
      refine a_getl X lf8_167 (by assumption) rfl dX8_newName_28 ?_
      obtain ⟨N_31, f_31, h⟩ := zLtx h
      refine d_putl X lf8_230 (by assumption) rfl dX8_newName_31 f_31 ?_
      refine a_aload_n X dX8_newName_34 rfl ?_
      obtain ⟨e_35, f_35, h⟩ := zBx h
      refine a_callVx X dX8_newName_35 miX8_next lm8_220 (t_X8_next (by assumption) f_35) (by assumption) rfl rfl rfl (Nat.le_of_ble_eq_true rfl) ⟨by decide, by decide, by decide, by decide⟩ (fun r_35 S_35 q_35 => ?_)
      obtain ⟨rfl, rfl, b_35⟩ := q_35
      refine a_zret X (by first | exact Or.inl rfl | exact Or.inr rfl | assumption) hr dX8_newName_38 ⟨by decide, by decide⟩ ?_
      subst hF
      rw [← Option.some.inj h]
      exact ⟨rfl, rfl, (by first | exact Or.inl rfl | exact Or.inr rfl | assumption)⟩
    · replace h := (if_neg h_17).symm.trans h
      refine a_aload_n X dX8_newName_20 rfl ?_
      refine a_iconst (v := 4) X dX8_newName_21 (by decide) ?_
      obtain ⟨e_22, f_22, h⟩ := zBx h
      refine a_callVx X dX8_newName_22 miX8_bad lm8_214 (t_X8_bad (by assumption) f_22) (by assumption) rfl rfl rfl (Nat.le_of_ble_eq_true rfl) ⟨by decide, by decide, by decide, by decide⟩ (fun r_22 S_22 q_22 => ?_)
      obtain ⟨rfl, rfl, b_22⟩ := q_22
      refine a_zret X (by first | exact Or.inl rfl | exact Or.inr rfl | assumption) hr dX8_newName_25 ⟨by decide, by decide⟩ ?_
      subst hF
      rw [← Option.some.inj h]
      exact ⟨rfl, rfl, (by first | exact Or.inl rfl | exact Or.inr rfl | assumption)⟩
  · replace h := (if_pos h_4).symm.trans h
    refine a_aload_n X dX8_newName_7 rfl ?_
    refine a_iconst (v := 2) X dX8_newName_8 (by decide) ?_
    obtain ⟨e_9, f_9, h⟩ := zBx h
    refine a_callVx X dX8_newName_9 miX8_bad lm8_214 (t_X8_bad (by assumption) f_9) (by assumption) rfl rfl rfl (Nat.le_of_ble_eq_true rfl) ⟨by decide, by decide, by decide, by decide⟩ (fun r_9 S_9 q_9 => ?_)
    obtain ⟨rfl, rfl, b_9⟩ := q_9
    refine a_zret X (by first | exact Or.inl rfl | exact Or.inr rfl | assumption) hr dX8_newName_12 ⟨by decide, by decide⟩ ?_
    subst hF
    rw [← Option.some.inj h]
    exact ⟨rfl, rfl, (by first | exact Or.inl rfl | exact Or.inr rfl | assumption)⟩
noncomputable def D_X8_readUnit_38 (P : Nat) (M_38 : zMt) (N_38 : zNt) : Option (Int32 × zMt × zNt) :=
  some ((0 : Int32), M_38, N_38)
noncomputable def D_X8_readUnit (P : Nat) (M : zMt) (N : zNt) : Option (Int32 × zMt × zNt) :=
  if (M P 28) = (5 : Int32) then
    zB (D_X8_bad P (2 : Int32) M) fun e_10 =>
    some (e_10.1, e_10.2, N)
  else
    zB (D_X8_next P M N) fun e_15 =>
    if e_15.1 = 0 then
      D_X8_readUnit_38 P e_15.2.1 e_15.2.2
    else
      zB (D_X8_newName P e_15.2.1 e_15.2.2) fun e_22 =>
      if e_22.1 = 0 then
        D_X8_readUnit_38 P e_22.2.1 e_22.2.2
      else
        zB (D_X8_number P (0 : Int32) (20 : Int32) e_22.2.1 e_22.2.2) fun e_32 =>
        if e_32.1 = 0 then
          D_X8_readUnit_38 P e_32.2.1 e_32.2.2
        else
          zI (e_32.2.1 P 28) 5 <|
          zLt (zu e_32.2.2 (P + 8) (e_32.2.1 P 28).toNatClampNeg (e_32.2.2 P 32)) fun N_52 =>
          zI ((62 : Int32) + (e_32.2.1 P 28)) 82 <|
          zLt (zu e_32.2.1 (P + 2) ((62 : Int32) + (e_32.2.1 P 28)).toNatClampNeg (e_32.2.1 P 31)) fun M_68 =>
          zLt (zu M_68 P 28 ((M_68 P 28) + (1 : Int32))) fun M_76 =>
          some ((1 : Int32), M_76, N_52)
set_option maxRecDepth 100000 in
set_option maxHeartbeats 4000000 in
theorem t_X8_readUnit {l : Launch} {G : zG} {b : Nat} {L : List zC} {M : zMt} {N : zNt} {P : Nat} (hP : LX8 L P)  {r : Int32 × zMt × zNt} (h : D_X8_readUnit P M N = some r) : zM l G b yX8_readUnit cX8_readUnit 1 (some .boolean) 7 0 0 [.ref P] (L, M, N) (fun r2 z => r2 = some (.int r.1) ∧ z = (L, r.2.1, r.2.2) ∧ (r.1 = 0 ∨ r.1 = 1)) := by
  refine zM.of miX8_readUnit (Nat.le_of_ble_eq_true rfl) ?_
  intro p e s m args below meth c X hr hname
  generalize hF : ((fun r2 z => r2 = some (.int r.1) ∧ z = (L, r.2.1, r.2.2) ∧ (r.1 = 0 ∨ r.1 = 1)) : Option Value → zS → Prop) = FQ
  change Zw p l e { frames := 7, cells := 0, slots := 0, locals := 80 * (7) } s m args below meth c G b 1 (MQ below (zQ G b FQ) args s 0 0 (fun q : Nat => b ≤ q)) 0 0 0 [some (.ref P)] [] (L, M, N)
  obtain ⟨p_lt, p_o, p_s, p_read, p_aside, p_kept, p_guest, p_readGuest, p_tape, p_unitName, p_hunterName, p_partyName, p_bits, p_partyOf, p_choiceAt, p_sizes, p_guestMany, p_pointsOf, p_ticketsOf, p_ord, p_given, p_roundOf, p_tags, p_guestTags, p_places, p_sumAt, p_sumFirst, p_sumRound, p_sumBoth, p_sumTags, p_isEnd, p_newPoints, p_inRow, p_out⟩ := id hP
  have J_38 : ∀ (M_38 : zMt) (N_38 : zNt), D_X8_readUnit_38 P M_38 N_38 = some r → Zw p l e { frames := 7, cells := 0, slots := 0, locals := 80 * (7) } s m args below meth c G b 1 (MQ below (zQ G b FQ) args s 0 0 (fun q : Nat => b ≤ q)) 0 0 38 [some (.ref (P))] [] (L, M_38, N_38) := by
    intro M_38 N_38 h
    unfold D_X8_readUnit_38 at h
    refine a_iconst (v := 0) X dX8_readUnit_38 (by decide) ?_
    refine a_zret X (by first | exact Or.inl rfl | exact Or.inr rfl | assumption) hr dX8_readUnit_39 ⟨by decide, by decide⟩ ?_
    subst hF
    rw [← Option.some.inj h]
    exact ⟨rfl, rfl, (by first | exact Or.inl rfl | exact Or.inr rfl | assumption)⟩
  unfold D_X8_readUnit at h
  refine a_aload_n X dX8_readUnit_0 rfl ?_
  refine a_geti X lf8_201 (by assumption) rfl dX8_readUnit_1 ?_
  refine a_iconst (v := 5) X dX8_readUnit_4 (by decide) ?_
  refine a_icmp_ne (tgt := 14) X dX8_readUnit_5 (by decide) (fun h_5 => ?_) (fun h_5 => ?_)
  · replace h := (if_neg h_5).symm.trans h
    refine a_aload_n X dX8_readUnit_14 rfl ?_
    obtain ⟨e_15, f_15, h⟩ := zBx h
    refine a_callVx X dX8_readUnit_15 miX8_next lm8_220 (t_X8_next (by assumption) f_15) (by assumption) rfl rfl rfl (Nat.le_of_ble_eq_true rfl) ⟨by decide, by decide, by decide, by decide⟩ (fun r_15 S_15 q_15 => ?_)
    obtain ⟨rfl, rfl, b_15⟩ := q_15
    refine a_if_eq (tgt := 38) X dX8_readUnit_18 (by decide) (fun h_18 => ?_) (fun h_18 => ?_)
    · replace h := (if_pos h_18).symm.trans h
      exact Zw.to2 (J_38 _ _ h) rfl rfl rfl
    · replace h := (if_neg h_18).symm.trans h
      refine a_aload_n X dX8_readUnit_21 rfl ?_
      obtain ⟨e_22, f_22, h⟩ := zBx h
      refine a_callVx X dX8_readUnit_22 miX8_newName lm8_233 (t_X8_newName (by assumption) f_22) (by assumption) rfl rfl rfl (Nat.le_of_ble_eq_true rfl) ⟨by decide, by decide, by decide, by decide⟩ (fun r_22 S_22 q_22 => ?_)
      obtain ⟨rfl, rfl, b_22⟩ := q_22
      refine a_if_eq (tgt := 38) X dX8_readUnit_25 (by decide) (fun h_25 => ?_) (fun h_25 => ?_)
      · replace h := (if_pos h_25).symm.trans h
        exact Zw.to2 (J_38 _ _ h) rfl rfl rfl
      · replace h := (if_neg h_25).symm.trans h
        refine a_aload_n X dX8_readUnit_28 rfl ?_
        refine a_iconst (v := 0) X dX8_readUnit_29 (by decide) ?_
        refine a_bipush (v := 20) X dX8_readUnit_30 (by decide) ?_
        obtain ⟨e_32, f_32, h⟩ := zBx h
        refine a_callVx X dX8_readUnit_32 miX8_number lm8_236 (t_X8_number (by assumption) f_32) (by assumption) rfl rfl rfl (Nat.le_of_ble_eq_true rfl) ⟨by decide, by decide, by decide, by decide⟩ (fun r_32 S_32 q_32 => ?_)
        obtain ⟨rfl, rfl, b_32⟩ := q_32
        refine a_if_ne (tgt := 40) X dX8_readUnit_35 (by decide) (fun h_35 => ?_) (fun h_35 => ?_)
        · replace h := (if_neg h_35).symm.trans h
          refine a_aload_n X dX8_readUnit_40 rfl ?_
          refine a_getr X lf8_39 (by assumption) rfl (by omega) dX8_readUnit_41 ?_
          refine a_aload_n X dX8_readUnit_44 rfl ?_
          refine a_geti X lf8_201 (by assumption) rfl dX8_readUnit_45 ?_
          refine a_aload_n X dX8_readUnit_48 rfl ?_
          refine a_getl X lf8_230 (by assumption) rfl dX8_readUnit_49 ?_
          obtain ⟨g_52, h⟩ := zIx h
          obtain ⟨N_52, f_52, h⟩ := zLtx h
          refine d_lastore X (by assumption) g_52 dX8_readUnit_52 f_52 ?_
          refine a_aload_n X dX8_readUnit_53 rfl ?_
          refine a_getr X lf8_13 (by assumption) rfl (by omega) dX8_readUnit_54 ?_
          refine a_bipush (v := 62) X dX8_readUnit_57 (by decide) ?_
          refine a_aload_n X dX8_readUnit_59 rfl ?_
          refine a_geti X lf8_201 (by assumption) rfl dX8_readUnit_60 ?_
          refine a_iadd X dX8_readUnit_63 ?_
          refine a_aload_n X dX8_readUnit_64 rfl ?_
          refine a_geti X lf8_217 (by assumption) rfl dX8_readUnit_65 ?_
          obtain ⟨g_68, h⟩ := zIx h
          obtain ⟨M_68, f_68, h⟩ := zLtx h
          refine d_iastore X (by assumption) g_68 dX8_readUnit_68 f_68 ?_
          refine a_aload_n X dX8_readUnit_69 rfl ?_
          refine a_dup X dX8_readUnit_70 rfl ?_
          refine a_geti X lf8_201 (by assumption) rfl dX8_readUnit_71 ?_
          refine a_iconst (v := 1) X dX8_readUnit_74 (by decide) ?_
          refine a_iadd X dX8_readUnit_75 ?_
          obtain ⟨M_76, f_76, h⟩ := zLtx h
          refine d_puti X lf8_201 (by assumption) rfl dX8_readUnit_76 f_76 ?_
          refine a_iconst (v := 1) X dX8_readUnit_79 (by decide) ?_
          refine a_zret X (by first | exact Or.inl rfl | exact Or.inr rfl | assumption) hr dX8_readUnit_80 ⟨by decide, by decide⟩ ?_
          subst hF
          rw [← Option.some.inj h]
          exact ⟨rfl, rfl, (by first | exact Or.inl rfl | exact Or.inr rfl | assumption)⟩
        · replace h := (if_pos h_35).symm.trans h
          exact Zw.to2 (J_38 _ _ h) rfl rfl rfl
  · replace h := (if_pos h_5).symm.trans h
    refine a_aload_n X dX8_readUnit_8 rfl ?_
    refine a_iconst (v := 2) X dX8_readUnit_9 (by decide) ?_
    obtain ⟨e_10, f_10, h⟩ := zBx h
    refine a_callVx X dX8_readUnit_10 miX8_bad lm8_214 (t_X8_bad (by assumption) f_10) (by assumption) rfl rfl rfl (Nat.le_of_ble_eq_true rfl) ⟨by decide, by decide, by decide, by decide⟩ (fun r_10 S_10 q_10 => ?_)
    obtain ⟨rfl, rfl, b_10⟩ := q_10
    refine a_zret X (by first | exact Or.inl rfl | exact Or.inr rfl | assumption) hr dX8_readUnit_13 ⟨by decide, by decide⟩ ?_
    subst hF
    rw [← Option.some.inj h]
    exact ⟨rfl, rfl, (by first | exact Or.inl rfl | exact Or.inr rfl | assumption)⟩
noncomputable def D_X8_readHunter_116 (P : Nat) (M_116 : zMt) (N_116 : zNt) : Option (Int32 × zMt × zNt) :=
  zLt (zu M_116 P 29 ((M_116 P 29) + (1 : Int32))) fun M_123 =>
  some ((1 : Int32), M_123, N_116)
noncomputable def D_X8_readHunter_98 (P : Nat) (y1_98 : Int32) (y2_98 : Int32) (M_98 : zMt) (N_98 : zNt) : Option (Int32 × zMt × zNt) :=
  zI y1_98 10 <|
  zLt (zu M_98 (P + 6) y1_98.toNatClampNeg y2_98) fun M_98 =>
  zI (M_98 P 29) 10 <|
  if (M_98 (P + 6) (M_98 P 29).toNatClampNeg) = 0 then
    D_X8_readHunter_116 P M_98 N_98
  else
    zB (D_X8_next P M_98 N_98) fun e_112 =>
    D_X8_readHunter_116 P e_112.2.1 e_112.2.2
noncomputable def D_X8_readHunter_97 (P : Nat) (y1_97 : Int32) (M_97 : zMt) (N_97 : zNt) : Option (Int32 × zMt × zNt) :=
  D_X8_readHunter_98 P y1_97 (0 : Int32) M_97 N_97
noncomputable def D_X8_readHunter_39 (P : Nat) (M_39 : zMt) (N_39 : zNt) : Option (Int32 × zMt × zNt) :=
  some ((0 : Int32), M_39, N_39)
noncomputable def D_X8_readHunter (P : Nat) (M : zMt) (N : zNt) : Option (Int32 × zMt × zNt) :=
  if (M P 29) = (10 : Int32) then
    zB (D_X8_bad P (2 : Int32) M) fun e_11 =>
    some (e_11.1, e_11.2, N)
  else
    zB (D_X8_next P M N) fun e_16 =>
    if e_16.1 = 0 then
      D_X8_readHunter_39 P e_16.2.1 e_16.2.2
    else
      zB (D_X8_newName P e_16.2.1 e_16.2.2) fun e_23 =>
      if e_23.1 = 0 then
        D_X8_readHunter_39 P e_23.2.1 e_23.2.2
      else
        zB (D_X8_number P (0 : Int32) (20 : Int32) e_23.2.1 e_23.2.2) fun e_33 =>
        if e_33.1 = 0 then
          D_X8_readHunter_39 P e_33.2.1 e_33.2.2
        else
          zI (e_33.2.1 P 29) 10 <|
          zLt (zu e_33.2.2 (P + 9) (e_33.2.1 P 29).toNatClampNeg (e_33.2.2 P 32)) fun N_53 =>
          zI ((0 : Int32) + (e_33.2.1 P 29)) 82 <|
          zLt (zu e_33.2.1 (P + 2) ((0 : Int32) + (e_33.2.1 P 29)).toNatClampNeg (e_33.2.1 P 31)) fun M_68 =>
          if (M_68 P 18) = (2 : Int32) then
            if (M_68 P 19) = (2 : Int32) then
              D_X8_readHunter_98 P (M_68 P 29) (1 : Int32) M_68 N_53
            else
              D_X8_readHunter_97 P (M_68 P 29) M_68 N_53
          else
            D_X8_readHunter_97 P (M_68 P 29) M_68 N_53
set_option maxRecDepth 100000 in
set_option maxHeartbeats 4000000 in
theorem t_X8_readHunter {l : Launch} {G : zG} {b : Nat} {L : List zC} {M : zMt} {N : zNt} {P : Nat} (hP : LX8 L P)  {r : Int32 × zMt × zNt} (h : D_X8_readHunter P M N = some r) : zM l G b yX8_readHunter cX8_readHunter 1 (some .boolean) 7 0 0 [.ref P] (L, M, N) (fun r2 z => r2 = some (.int r.1) ∧ z = (L, r.2.1, r.2.2) ∧ (r.1 = 0 ∨ r.1 = 1)) := by
  refine zM.of miX8_readHunter (Nat.le_of_ble_eq_true rfl) ?_
  intro p e s m args below meth c X hr hname
  generalize hF : ((fun r2 z => r2 = some (.int r.1) ∧ z = (L, r.2.1, r.2.2) ∧ (r.1 = 0 ∨ r.1 = 1)) : Option Value → zS → Prop) = FQ
  change Zw p l e { frames := 7, cells := 0, slots := 0, locals := 80 * (7) } s m args below meth c G b 1 (MQ below (zQ G b FQ) args s 0 0 (fun q : Nat => b ≤ q)) 0 0 0 [some (.ref P)] [] (L, M, N)
  obtain ⟨p_lt, p_o, p_s, p_read, p_aside, p_kept, p_guest, p_readGuest, p_tape, p_unitName, p_hunterName, p_partyName, p_bits, p_partyOf, p_choiceAt, p_sizes, p_guestMany, p_pointsOf, p_ticketsOf, p_ord, p_given, p_roundOf, p_tags, p_guestTags, p_places, p_sumAt, p_sumFirst, p_sumRound, p_sumBoth, p_sumTags, p_isEnd, p_newPoints, p_inRow, p_out⟩ := id hP
  have J_116 : ∀ (M_116 : zMt) (N_116 : zNt), D_X8_readHunter_116 P M_116 N_116 = some r → Zw p l e { frames := 7, cells := 0, slots := 0, locals := 80 * (7) } s m args below meth c G b 1 (MQ below (zQ G b FQ) args s 0 0 (fun q : Nat => b ≤ q)) 0 0 116 [some (.ref (P))] [] (L, M_116, N_116) := by
    intro M_116 N_116 h
    unfold D_X8_readHunter_116 at h
    refine a_aload_n X dX8_readHunter_116 rfl ?_
    refine a_dup X dX8_readHunter_117 rfl ?_
    refine a_geti X lf8_208 (by assumption) rfl dX8_readHunter_118 ?_
    refine a_iconst (v := 1) X dX8_readHunter_121 (by decide) ?_
    refine a_iadd X dX8_readHunter_122 ?_
    obtain ⟨M_123, f_123, h⟩ := zLtx h
    refine d_puti X lf8_208 (by assumption) rfl dX8_readHunter_123 f_123 ?_
    refine a_iconst (v := 1) X dX8_readHunter_126 (by decide) ?_
    refine a_zret X (by first | exact Or.inl rfl | exact Or.inr rfl | assumption) hr dX8_readHunter_127 ⟨by decide, by decide⟩ ?_
    subst hF
    rw [← Option.some.inj h]
    exact ⟨rfl, rfl, (by first | exact Or.inl rfl | exact Or.inr rfl | assumption)⟩
  have J_98 : ∀ (y1_98 : Int32) (y2_98 : Int32) (M_98 : zMt) (N_98 : zNt), (y2_98 = 0 ∨ y2_98 = 1) → D_X8_readHunter_98 P y1_98 y2_98 M_98 N_98 = some r → Zw p l e { frames := 7, cells := 0, slots := 0, locals := 80 * (7) } s m args below meth c G b 1 (MQ below (zQ G b FQ) args s 0 0 (fun q : Nat => b ≤ q)) 0 0 98 [some (.ref (P))] [.int y2_98, .int y1_98, .ref (P + 6)] (L, M_98, N_98) := by
    intro y1_98 y2_98 M_98 N_98 fb_y2_98 h
    unfold D_X8_readHunter_98 at h
    obtain ⟨g_98, h⟩ := zIx h
    obtain ⟨M_98, f_98, h⟩ := zLtx h
    refine d_bastore X (by first | exact Or.inl rfl | exact Or.inr rfl | assumption) (by assumption) g_98 dX8_readHunter_98 f_98 ?_
    refine a_aload_n X dX8_readHunter_99 rfl ?_
    refine a_getr X lf8_26 (by assumption) rfl (by omega) dX8_readHunter_100 ?_
    refine a_aload_n X dX8_readHunter_103 rfl ?_
    refine a_geti X lf8_208 (by assumption) rfl dX8_readHunter_104 ?_
    obtain ⟨g_107, h⟩ := zIx h
    refine a_baload X (by assumption) g_107 dX8_readHunter_107 ?_
    refine a_if_eq (tgt := 116) X dX8_readHunter_108 (by decide) (fun h_108 => ?_) (fun h_108 => ?_)
    · replace h := (if_pos h_108).symm.trans h
      exact Zw.to2 (J_116 _ _ h) rfl rfl rfl
    · replace h := (if_neg h_108).symm.trans h
      refine a_aload_n X dX8_readHunter_111 rfl ?_
      obtain ⟨e_112, f_112, h⟩ := zBx h
      refine a_callVx X dX8_readHunter_112 miX8_next lm8_220 (t_X8_next (by assumption) f_112) (by assumption) rfl rfl rfl (Nat.le_of_ble_eq_true rfl) ⟨by decide, by decide, by decide, by decide⟩ (fun r_112 S_112 q_112 => ?_)
      obtain ⟨rfl, rfl, b_112⟩ := q_112
      refine a_pop X dX8_readHunter_115 rfl ?_
      exact Zw.to2 (J_116 _ _ h) rfl rfl rfl
  have J_97 : ∀ (y1_97 : Int32) (M_97 : zMt) (N_97 : zNt), D_X8_readHunter_97 P y1_97 M_97 N_97 = some r → Zw p l e { frames := 7, cells := 0, slots := 0, locals := 80 * (7) } s m args below meth c G b 1 (MQ below (zQ G b FQ) args s 0 0 (fun q : Nat => b ≤ q)) 0 0 97 [some (.ref (P))] [.int y1_97, .ref (P + 6)] (L, M_97, N_97) := by
    intro y1_97 M_97 N_97 h
    unfold D_X8_readHunter_97 at h
    refine a_iconst (v := 0) X dX8_readHunter_97 (by decide) ?_
    exact Zw.to2 (J_98 _ _ _ _ (by first | exact Or.inl rfl | exact Or.inr rfl | assumption) h) rfl rfl rfl
  have J_39 : ∀ (M_39 : zMt) (N_39 : zNt), D_X8_readHunter_39 P M_39 N_39 = some r → Zw p l e { frames := 7, cells := 0, slots := 0, locals := 80 * (7) } s m args below meth c G b 1 (MQ below (zQ G b FQ) args s 0 0 (fun q : Nat => b ≤ q)) 0 0 39 [some (.ref (P))] [] (L, M_39, N_39) := by
    intro M_39 N_39 h
    unfold D_X8_readHunter_39 at h
    refine a_iconst (v := 0) X dX8_readHunter_39 (by decide) ?_
    refine a_zret X (by first | exact Or.inl rfl | exact Or.inr rfl | assumption) hr dX8_readHunter_40 ⟨by decide, by decide⟩ ?_
    subst hF
    rw [← Option.some.inj h]
    exact ⟨rfl, rfl, (by first | exact Or.inl rfl | exact Or.inr rfl | assumption)⟩
  unfold D_X8_readHunter at h
  refine a_aload_n X dX8_readHunter_0 rfl ?_
  refine a_geti X lf8_208 (by assumption) rfl dX8_readHunter_1 ?_
  refine a_bipush (v := 10) X dX8_readHunter_4 (by decide) ?_
  refine a_icmp_ne (tgt := 15) X dX8_readHunter_6 (by decide) (fun h_6 => ?_) (fun h_6 => ?_)
  · replace h := (if_neg h_6).symm.trans h
    refine a_aload_n X dX8_readHunter_15 rfl ?_
    obtain ⟨e_16, f_16, h⟩ := zBx h
    refine a_callVx X dX8_readHunter_16 miX8_next lm8_220 (t_X8_next (by assumption) f_16) (by assumption) rfl rfl rfl (Nat.le_of_ble_eq_true rfl) ⟨by decide, by decide, by decide, by decide⟩ (fun r_16 S_16 q_16 => ?_)
    obtain ⟨rfl, rfl, b_16⟩ := q_16
    refine a_if_eq (tgt := 39) X dX8_readHunter_19 (by decide) (fun h_19 => ?_) (fun h_19 => ?_)
    · replace h := (if_pos h_19).symm.trans h
      exact Zw.to2 (J_39 _ _ h) rfl rfl rfl
    · replace h := (if_neg h_19).symm.trans h
      refine a_aload_n X dX8_readHunter_22 rfl ?_
      obtain ⟨e_23, f_23, h⟩ := zBx h
      refine a_callVx X dX8_readHunter_23 miX8_newName lm8_233 (t_X8_newName (by assumption) f_23) (by assumption) rfl rfl rfl (Nat.le_of_ble_eq_true rfl) ⟨by decide, by decide, by decide, by decide⟩ (fun r_23 S_23 q_23 => ?_)
      obtain ⟨rfl, rfl, b_23⟩ := q_23
      refine a_if_eq (tgt := 39) X dX8_readHunter_26 (by decide) (fun h_26 => ?_) (fun h_26 => ?_)
      · replace h := (if_pos h_26).symm.trans h
        exact Zw.to2 (J_39 _ _ h) rfl rfl rfl
      · replace h := (if_neg h_26).symm.trans h
        refine a_aload_n X dX8_readHunter_29 rfl ?_
        refine a_iconst (v := 0) X dX8_readHunter_30 (by decide) ?_
        refine a_bipush (v := 20) X dX8_readHunter_31 (by decide) ?_
        obtain ⟨e_33, f_33, h⟩ := zBx h
        refine a_callVx X dX8_readHunter_33 miX8_number lm8_236 (t_X8_number (by assumption) f_33) (by assumption) rfl rfl rfl (Nat.le_of_ble_eq_true rfl) ⟨by decide, by decide, by decide, by decide⟩ (fun r_33 S_33 q_33 => ?_)
        obtain ⟨rfl, rfl, b_33⟩ := q_33
        refine a_if_ne (tgt := 41) X dX8_readHunter_36 (by decide) (fun h_36 => ?_) (fun h_36 => ?_)
        · replace h := (if_neg h_36).symm.trans h
          refine a_aload_n X dX8_readHunter_41 rfl ?_
          refine a_getr X lf8_43 (by assumption) rfl (by omega) dX8_readHunter_42 ?_
          refine a_aload_n X dX8_readHunter_45 rfl ?_
          refine a_geti X lf8_208 (by assumption) rfl dX8_readHunter_46 ?_
          refine a_aload_n X dX8_readHunter_49 rfl ?_
          refine a_getl X lf8_230 (by assumption) rfl dX8_readHunter_50 ?_
          obtain ⟨g_53, h⟩ := zIx h
          obtain ⟨N_53, f_53, h⟩ := zLtx h
          refine d_lastore X (by assumption) g_53 dX8_readHunter_53 f_53 ?_
          refine a_aload_n X dX8_readHunter_54 rfl ?_
          refine a_getr X lf8_13 (by assumption) rfl (by omega) dX8_readHunter_55 ?_
          refine a_iconst (v := 0) X dX8_readHunter_58 (by decide) ?_
          refine a_aload_n X dX8_readHunter_59 rfl ?_
          refine a_geti X lf8_208 (by assumption) rfl dX8_readHunter_60 ?_
          refine a_iadd X dX8_readHunter_63 ?_
          refine a_aload_n X dX8_readHunter_64 rfl ?_
          refine a_geti X lf8_217 (by assumption) rfl dX8_readHunter_65 ?_
          obtain ⟨g_68, h⟩ := zIx h
          obtain ⟨M_68, f_68, h⟩ := zLtx h
          refine d_iastore X (by assumption) g_68 dX8_readHunter_68 f_68 ?_
          refine a_aload_n X dX8_readHunter_69 rfl ?_
          refine a_getr X lf8_26 (by assumption) rfl (by omega) dX8_readHunter_70 ?_
          refine a_aload_n X dX8_readHunter_73 rfl ?_
          refine a_geti X lf8_208 (by assumption) rfl dX8_readHunter_74 ?_
          refine a_aload_n X dX8_readHunter_77 rfl ?_
          refine a_geti X lf8_160 (by assumption) rfl dX8_readHunter_78 ?_
          refine a_iconst (v := 2) X dX8_readHunter_81 (by decide) ?_
          refine a_icmp_ne (tgt := 97) X dX8_readHunter_82 (by decide) (fun h_82 => ?_) (fun h_82 => ?_)
          · replace h := (if_neg h_82).symm.trans h
            exact Zw.to2 (J_97 _ _ _ h) rfl rfl rfl
          · replace h := (if_pos h_82).symm.trans h
            refine a_aload_n X dX8_readHunter_85 rfl ?_
            refine a_geti X lf8_157 (by assumption) rfl dX8_readHunter_86 ?_
            refine a_iconst (v := 2) X dX8_readHunter_89 (by decide) ?_
            refine a_icmp_ne (tgt := 97) X dX8_readHunter_90 (by decide) (fun h_90 => ?_) (fun h_90 => ?_)
            · replace h := (if_neg h_90).symm.trans h
              exact Zw.to2 (J_97 _ _ _ h) rfl rfl rfl
            · replace h := (if_pos h_90).symm.trans h
              refine a_iconst (v := 1) X dX8_readHunter_93 (by decide) ?_
              refine a_goto (tgt := 98) X dX8_readHunter_94 (by decide) ?_
              exact Zw.to2 (J_98 _ _ _ _ (by first | exact Or.inl rfl | exact Or.inr rfl | assumption) h) rfl rfl rfl
        · replace h := (if_pos h_36).symm.trans h
          exact Zw.to2 (J_39 _ _ h) rfl rfl rfl
  · replace h := (if_pos h_6).symm.trans h
    refine a_aload_n X dX8_readHunter_9 rfl ?_
    refine a_iconst (v := 2) X dX8_readHunter_10 (by decide) ?_
    obtain ⟨e_11, f_11, h⟩ := zBx h
    refine a_callVx X dX8_readHunter_11 miX8_bad lm8_214 (t_X8_bad (by assumption) f_11) (by assumption) rfl rfl rfl (Nat.le_of_ble_eq_true rfl) ⟨by decide, by decide, by decide, by decide⟩ (fun r_11 S_11 q_11 => ?_)
    obtain ⟨rfl, rfl, b_11⟩ := q_11
    refine a_zret X (by first | exact Or.inl rfl | exact Or.inr rfl | assumption) hr dX8_readHunter_14 ⟨by decide, by decide⟩ ?_
    subst hF
    rw [← Option.some.inj h]
    exact ⟨rfl, rfl, (by first | exact Or.inl rfl | exact Or.inr rfl | assumption)⟩
noncomputable def D_X8_readParty_193 (P : Nat) (k161 : Int64 → Int32 → Int32 → zMt → zNt → Option (Int32 × zMt × zNt)) (x1_193 : Int64) (x3_193 : Int32) (x5_193 : Int32) (M_193 : zMt) (N_193 : zNt) : Option (Int32 × zMt × zNt) :=
  k161 x1_193 x3_193 (x5_193 + 1) M_193 N_193
noncomputable def D_X8_readParty_161 (P : Nat) : Nat → Int64 → Int32 → Int32 → zMt → zNt → Option (Int32 × zMt × zNt)
  | 0, _, _, _, _, _ => none
  | n + 1, x1_161, x3_161, x5_161, M_161, N_161 =>
    if (M_161 P 29) ≤ x5_161 then
      zI (M_161 P 30) 4 <|
      zLt (zu N_161 (P + 10) (M_161 P 30).toNatClampNeg x1_161) fun N_208 =>
      zLt (zu M_161 P 30 ((M_161 P 30) + (1 : Int32))) fun M_216 =>
      some ((1 : Int32), M_216, N_208)
    else
      zB (D_X8_has x3_161 x5_161) fun e_173 =>
      if e_173 = 0 then
        D_X8_readParty_193 P (D_X8_readParty_161 P n) x1_161 x3_161 x5_161 M_161 N_161
      else
        zI ((10 : Int32) + x5_161) 82 <|
        zLt (zu M_161 (P + 2) ((10 : Int32) + x5_161).toNatClampNeg (M_161 P 30)) fun M_192 =>
        D_X8_readParty_193 P (D_X8_readParty_161 P n) x1_161 x3_161 x5_161 M_192 N_161
noncomputable def D_X8_readParty_134 (P : Nat) (M_134 : zMt) (N_134 : zNt) : Option (Int32 × zMt × zNt) :=
  zB (D_X8_bad P (4 : Int32) M_134) fun e_136 =>
  some (e_136.1, e_136.2, N_134)
noncomputable def D_X8_readParty_66 (P : Nat) (M_66 : zMt) (N_66 : zNt) : Option (Int32 × zMt × zNt) :=
  zB (D_X8_bad P (2 : Int32) M_66) fun e_68 =>
  some (e_68.1, e_68.2, N_66)
noncomputable def D_X8_readParty_53 (P : Nat) (k40 : Int64 → Int32 → Int32 → zMt → zNt → Option (Int32 × zMt × zNt)) (x1_53 : Int64) (x3_53 : Int32) (x4_53 : Int32) (M_53 : zMt) (N_53 : zNt) : Option (Int32 × zMt × zNt) :=
  zB (D_X8_isName P M_53) fun e_54 =>
  if e_54 = 0 then
    D_X8_readParty_66 P M_53 N_53
  else
    if x4_53 = (4 : Int32) then
      D_X8_readParty_66 P M_53 N_53
    else
      zB (D_X8_found (P + 9) 10 N_53 (M_53 P 29) (N_53 P 24)) fun e_84 =>
      if e_84 = (-1 : Int32) then
        D_X8_readParty_134 P M_53 N_53
      else
        zI ((10 : Int32) + e_84) 82 <|
        if (M_53 (P + 2) ((10 : Int32) + e_84).toNatClampNeg) = (-1 : Int32) then
          zI ((20 : Int32) + ((3 : Int32) * e_84)) 82 <|
          if (M_53 (P + 2) ((20 : Int32) + ((3 : Int32) * e_84)).toNatClampNeg) = (-1 : Int32) then
            zB (D_X8_has x3_53 e_84) fun e_128 =>
            if e_128 = 0 then
              zB (D_X8_next P M_53 N_53) fun e_151 =>
              k40 x1_53 (x3_53 ||| ((1 : Int32) <<< (e_84 &&& 31))) (x4_53 + 1) e_151.2.1 e_151.2.2
            else
              D_X8_readParty_134 P M_53 N_53
          else
            D_X8_readParty_134 P M_53 N_53
        else
          D_X8_readParty_134 P M_53 N_53
noncomputable def D_X8_readParty_40 (P : Nat) : Nat → Int64 → Int32 → Int32 → zMt → zNt → Option (Int32 × zMt × zNt)
  | 0, _, _, _, _, _ => none
  | n + 1, x1_40, x3_40, x4_40, M_40, N_40 =>
    if x4_40 < (2 : Int32) then
      D_X8_readParty_53 P (D_X8_readParty_40 P n) x1_40 x3_40 x4_40 M_40 N_40
    else
      zB (D_X8_isName P M_40) fun e_47 =>
      if e_47 = 0 then
        D_X8_readParty_161 P zFu x1_40 x3_40 (0 : Int32) M_40 N_40
      else
        D_X8_readParty_53 P (D_X8_readParty_40 P n) x1_40 x3_40 x4_40 M_40 N_40
noncomputable def D_X8_readParty_28 (P : Nat) (M_28 : zMt) (N_28 : zNt) : Option (Int32 × zMt × zNt) :=
  some ((0 : Int32), M_28, N_28)
noncomputable def D_X8_readParty (P : Nat) (M : zMt) (N : zNt) : Option (Int32 × zMt × zNt) :=
  if (M P 30) = (4 : Int32) then
    zB (D_X8_bad P (2 : Int32) M) fun e_10 =>
    some (e_10.1, e_10.2, N)
  else
    zB (D_X8_next P M N) fun e_15 =>
    if e_15.1 = 0 then
      D_X8_readParty_28 P e_15.2.1 e_15.2.2
    else
      zB (D_X8_newName P e_15.2.1 e_15.2.2) fun e_22 =>
      if e_22.1 = 0 then
        D_X8_readParty_28 P e_22.2.1 e_22.2.2
      else
        D_X8_readParty_40 P zFu (e_22.2.2 P 32) (0 : Int32) (0 : Int32) e_22.2.1 e_22.2.2
set_option maxRecDepth 100000 in
set_option maxHeartbeats 4000000 in
theorem t_X8_readParty {l : Launch} {G : zG} {b : Nat} {L : List zC} {M : zMt} {N : zNt} {P : Nat} (hP : LX8 L P)  {r : Int32 × zMt × zNt} (h : D_X8_readParty P M N = some r) : zM l G b yX8_readParty cX8_readParty 6 (some .boolean) 7 0 0 [.ref P] (L, M, N) (fun r2 z => r2 = some (.int r.1) ∧ z = (L, r.2.1, r.2.2) ∧ (r.1 = 0 ∨ r.1 = 1)) := by
  refine zM.of miX8_readParty (Nat.le_of_ble_eq_true rfl) ?_
  intro p e s m args below meth c X hr hname
  generalize hF : ((fun r2 z => r2 = some (.int r.1) ∧ z = (L, r.2.1, r.2.2) ∧ (r.1 = 0 ∨ r.1 = 1)) : Option Value → zS → Prop) = FQ
  change Zw p l e { frames := 7, cells := 0, slots := 0, locals := 80 * (7) } s m args below meth c G b 6 (MQ below (zQ G b FQ) args s 0 0 (fun q : Nat => b ≤ q)) 0 0 0 [some (.ref P), none, none, none, none, none] [] (L, M, N)
  obtain ⟨p_lt, p_o, p_s, p_read, p_aside, p_kept, p_guest, p_readGuest, p_tape, p_unitName, p_hunterName, p_partyName, p_bits, p_partyOf, p_choiceAt, p_sizes, p_guestMany, p_pointsOf, p_ticketsOf, p_ord, p_given, p_roundOf, p_tags, p_guestTags, p_places, p_sumAt, p_sumFirst, p_sumRound, p_sumBoth, p_sumTags, p_isEnd, p_newPoints, p_inRow, p_out⟩ := id hP
  have L_161 : ∀ u : Nat, ∀ (x1_161 : Int64) (x3_161 : Int32) (x4_161 : Int32) (x5_161 : Int32) (M_161 : zMt) (N_161 : zNt), D_X8_readParty_161 P u x1_161 x3_161 x5_161 M_161 N_161 = some r → Zw p l e { frames := 7, cells := 0, slots := 0, locals := 80 * (7) } s m args below meth c G b 6 (MQ below (zQ G b FQ) args s 0 0 (fun q : Nat => b ≤ q)) 0 0 161 [some (.ref (P)), some (.long x1_161), none, some (.int x3_161), some (.int x4_161), some (.int x5_161)] [] (L, M_161, N_161) := by
    intro u
    induction u with
    | zero => intro x1_161 x3_161 x4_161 x5_161 M_161 N_161 h; cases (show none = some r from h)
    | succ u_161 ih_161 =>
      have J_193 : ∀ (x1_193 : Int64) (x3_193 : Int32) (x4_193 : Int32) (x5_193 : Int32) (M_193 : zMt) (N_193 : zNt), D_X8_readParty_193 P (D_X8_readParty_161 P u_161) x1_193 x3_193 x5_193 M_193 N_193 = some r → Zw p l e { frames := 7, cells := 0, slots := 0, locals := 80 * (7) } s m args below meth c G b 6 (MQ below (zQ G b FQ) args s 0 0 (fun q : Nat => b ≤ q)) 0 0 193 [some (.ref (P)), some (.long x1_193), none, some (.int x3_193), some (.int x4_193), some (.int x5_193)] [] (L, M_193, N_193) := by
        intro x1_193 x3_193 x4_193 x5_193 M_193 N_193 h
        unfold D_X8_readParty_193 at h
        refine a_iinc (v := x5_193 + 1) X dX8_readParty_193 (by decide) rfl zi_1 ?_
        refine a_goto (tgt := 161) X dX8_readParty_196 (by decide) ?_
        exact Zw.to2 (ih_161 _ _ _ _ _ _ h) rfl rfl rfl
      intro x1_161 x3_161 x4_161 x5_161 M_161 N_161 h
      rw [D_X8_readParty_161] at h
      refine a_iload X dX8_readParty_161 rfl ?_
      refine a_aload_n X dX8_readParty_163 rfl ?_
      refine a_geti X lf8_208 (by assumption) rfl dX8_readParty_164 ?_
      refine a_icmp_ge (tgt := 199) X dX8_readParty_167 (by decide) (fun h_167 => ?_) (fun h_167 => ?_)
      · replace h := (if_pos h_167).symm.trans h
        refine a_aload_n X dX8_readParty_199 rfl ?_
        refine a_getr X lf8_46 (by assumption) rfl (by omega) dX8_readParty_200 ?_
        refine a_aload_n X dX8_readParty_203 rfl ?_
        refine a_geti X lf8_211 (by assumption) rfl dX8_readParty_204 ?_
        refine a_lload_n X dX8_readParty_207 rfl ?_
        obtain ⟨g_208, h⟩ := zIx h
        obtain ⟨N_208, f_208, h⟩ := zLtx h
        refine d_lastore X (by assumption) g_208 dX8_readParty_208 f_208 ?_
        refine a_aload_n X dX8_readParty_209 rfl ?_
        refine a_dup X dX8_readParty_210 rfl ?_
        refine a_geti X lf8_211 (by assumption) rfl dX8_readParty_211 ?_
        refine a_iconst (v := 1) X dX8_readParty_214 (by decide) ?_
        refine a_iadd X dX8_readParty_215 ?_
        obtain ⟨M_216, f_216, h⟩ := zLtx h
        refine d_puti X lf8_211 (by assumption) rfl dX8_readParty_216 f_216 ?_
        refine a_iconst (v := 1) X dX8_readParty_219 (by decide) ?_
        refine a_zret X (by first | exact Or.inl rfl | exact Or.inr rfl | assumption) hr dX8_readParty_220 ⟨by decide, by decide⟩ ?_
        subst hF
        rw [← Option.some.inj h]
        exact ⟨rfl, rfl, (by first | exact Or.inl rfl | exact Or.inr rfl | assumption)⟩
      · replace h := (if_neg h_167).symm.trans h
        refine a_iload_n X dX8_readParty_170 rfl ?_
        refine a_iload X dX8_readParty_171 rfl ?_
        obtain ⟨e_173, f_173, h⟩ := zBx h
        refine a_callSx X dX8_readParty_173 miX8_has lm8_240 (t_X8_has f_173) rfl rfl (Nat.le_of_ble_eq_true rfl) ⟨by decide, by decide, by decide, by decide⟩ (fun r_173 S_173 q_173 => ?_)
        obtain ⟨rfl, rfl, b_173⟩ := q_173
        refine a_if_eq (tgt := 193) X dX8_readParty_176 (by decide) (fun h_176 => ?_) (fun h_176 => ?_)
        · replace h := (if_pos h_176).symm.trans h
          exact Zw.to2 (J_193 _ _ _ _ _ _ h) rfl rfl rfl
        · replace h := (if_neg h_176).symm.trans h
          refine a_aload_n X dX8_readParty_179 rfl ?_
          refine a_getr X lf8_13 (by assumption) rfl (by omega) dX8_readParty_180 ?_
          refine a_bipush (v := 10) X dX8_readParty_183 (by decide) ?_
          refine a_iload X dX8_readParty_185 rfl ?_
          refine a_iadd X dX8_readParty_187 ?_
          refine a_aload_n X dX8_readParty_188 rfl ?_
          refine a_geti X lf8_211 (by assumption) rfl dX8_readParty_189 ?_
          obtain ⟨g_192, h⟩ := zIx h
          obtain ⟨M_192, f_192, h⟩ := zLtx h
          refine d_iastore X (by assumption) g_192 dX8_readParty_192 f_192 ?_
          exact Zw.to2 (J_193 _ _ _ _ _ _ h) rfl rfl rfl
  have H_161 : ∀ (x1_161 : Int64) (x3_161 : Int32) (x4_161 : Int32) (x5_161 : Int32) (M_161 : zMt) (N_161 : zNt), D_X8_readParty_161 P zFu x1_161 x3_161 x5_161 M_161 N_161 = some r → Zw p l e { frames := 7, cells := 0, slots := 0, locals := 80 * (7) } s m args below meth c G b 6 (MQ below (zQ G b FQ) args s 0 0 (fun q : Nat => b ≤ q)) 0 0 161 [some (.ref (P)), some (.long x1_161), none, some (.int x3_161), some (.int x4_161), some (.int x5_161)] [] (L, M_161, N_161) := L_161 zFu
  have J_134 : ∀ (x1_134 : Int64) (x3_134 : Int32) (x4_134 : Int32) (x5_134 : Int32) (M_134 : zMt) (N_134 : zNt), D_X8_readParty_134 P M_134 N_134 = some r → Zw p l e { frames := 7, cells := 0, slots := 0, locals := 80 * (7) } s m args below meth c G b 6 (MQ below (zQ G b FQ) args s 0 0 (fun q : Nat => b ≤ q)) 0 0 134 [some (.ref (P)), some (.long x1_134), none, some (.int x3_134), some (.int x4_134), some (.int x5_134)] [] (L, M_134, N_134) := by
    intro x1_134 x3_134 x4_134 x5_134 M_134 N_134 h
    unfold D_X8_readParty_134 at h
    refine a_aload_n X dX8_readParty_134 rfl ?_
    refine a_iconst (v := 4) X dX8_readParty_135 (by decide) ?_
    obtain ⟨e_136, f_136, h⟩ := zBx h
    refine a_callVx X dX8_readParty_136 miX8_bad lm8_214 (t_X8_bad (by assumption) f_136) (by assumption) rfl rfl rfl (Nat.le_of_ble_eq_true rfl) ⟨by decide, by decide, by decide, by decide⟩ (fun r_136 S_136 q_136 => ?_)
    obtain ⟨rfl, rfl, b_136⟩ := q_136
    refine a_zret X (by first | exact Or.inl rfl | exact Or.inr rfl | assumption) hr dX8_readParty_139 ⟨by decide, by decide⟩ ?_
    subst hF
    rw [← Option.some.inj h]
    exact ⟨rfl, rfl, (by first | exact Or.inl rfl | exact Or.inr rfl | assumption)⟩
  have J_66 : ∀ (x1_66 : Int64) (x3_66 : Int32) (x4_66 : Int32) (x5_66 : Option Value) (M_66 : zMt) (N_66 : zNt), D_X8_readParty_66 P M_66 N_66 = some r → Zw p l e { frames := 7, cells := 0, slots := 0, locals := 80 * (7) } s m args below meth c G b 6 (MQ below (zQ G b FQ) args s 0 0 (fun q : Nat => b ≤ q)) 0 0 66 [some (.ref (P)), some (.long x1_66), none, some (.int x3_66), some (.int x4_66), x5_66] [] (L, M_66, N_66) := by
    intro x1_66 x3_66 x4_66 x5_66 M_66 N_66 h
    unfold D_X8_readParty_66 at h
    refine a_aload_n X dX8_readParty_66 rfl ?_
    refine a_iconst (v := 2) X dX8_readParty_67 (by decide) ?_
    obtain ⟨e_68, f_68, h⟩ := zBx h
    refine a_callVx X dX8_readParty_68 miX8_bad lm8_214 (t_X8_bad (by assumption) f_68) (by assumption) rfl rfl rfl (Nat.le_of_ble_eq_true rfl) ⟨by decide, by decide, by decide, by decide⟩ (fun r_68 S_68 q_68 => ?_)
    obtain ⟨rfl, rfl, b_68⟩ := q_68
    refine a_zret X (by first | exact Or.inl rfl | exact Or.inr rfl | assumption) hr dX8_readParty_71 ⟨by decide, by decide⟩ ?_
    subst hF
    rw [← Option.some.inj h]
    exact ⟨rfl, rfl, (by first | exact Or.inl rfl | exact Or.inr rfl | assumption)⟩
  have L_40 : ∀ u : Nat, ∀ (x1_40 : Int64) (x3_40 : Int32) (x4_40 : Int32) (x5_40 : Option Value) (M_40 : zMt) (N_40 : zNt), D_X8_readParty_40 P u x1_40 x3_40 x4_40 M_40 N_40 = some r → Zw p l e { frames := 7, cells := 0, slots := 0, locals := 80 * (7) } s m args below meth c G b 6 (MQ below (zQ G b FQ) args s 0 0 (fun q : Nat => b ≤ q)) 0 0 40 [some (.ref (P)), some (.long x1_40), none, some (.int x3_40), some (.int x4_40), x5_40] [] (L, M_40, N_40) := by
    intro u
    induction u with
    | zero => intro x1_40 x3_40 x4_40 x5_40 M_40 N_40 h; cases (show none = some r from h)
    | succ u_40 ih_40 =>
      have J_53 : ∀ (x1_53 : Int64) (x3_53 : Int32) (x4_53 : Int32) (x5_53 : Option Value) (M_53 : zMt) (N_53 : zNt), D_X8_readParty_53 P (D_X8_readParty_40 P u_40) x1_53 x3_53 x4_53 M_53 N_53 = some r → Zw p l e { frames := 7, cells := 0, slots := 0, locals := 80 * (7) } s m args below meth c G b 6 (MQ below (zQ G b FQ) args s 0 0 (fun q : Nat => b ≤ q)) 0 0 53 [some (.ref (P)), some (.long x1_53), none, some (.int x3_53), some (.int x4_53), x5_53] [] (L, M_53, N_53) := by
        intro x1_53 x3_53 x4_53 x5_53 M_53 N_53 h
        unfold D_X8_readParty_53 at h
        refine a_aload_n X dX8_readParty_53 rfl ?_
        obtain ⟨e_54, f_54, h⟩ := zBx h
        refine a_callVx X dX8_readParty_54 miX8_isName lm8_224 (t_X8_isName (by assumption) f_54) (by assumption) rfl rfl rfl (Nat.le_of_ble_eq_true rfl) ⟨by decide, by decide, by decide, by decide⟩ (fun r_54 S_54 q_54 => ?_)
        obtain ⟨rfl, rfl, b_54⟩ := q_54
        refine a_if_eq (tgt := 66) X dX8_readParty_57 (by decide) (fun h_57 => ?_) (fun h_57 => ?_)
        · replace h := (if_pos h_57).symm.trans h
          exact Zw.to2 (J_66 _ _ _ _ _ _ h) rfl rfl rfl
        · replace h := (if_neg h_57).symm.trans h
          refine a_iload X dX8_readParty_60 rfl ?_
          refine a_iconst (v := 4) X dX8_readParty_62 (by decide) ?_
          refine a_icmp_ne (tgt := 72) X dX8_readParty_63 (by decide) (fun h_63 => ?_) (fun h_63 => ?_)
          · replace h := (if_neg h_63).symm.trans h
            refine a_aload_n X dX8_readParty_72 rfl ?_
            refine a_getr X lf8_43 (by assumption) rfl (by omega) dX8_readParty_73 ?_
            refine a_aload_n X dX8_readParty_76 rfl ?_
            refine a_geti X lf8_208 (by assumption) rfl dX8_readParty_77 ?_
            refine a_aload_n X dX8_readParty_80 rfl ?_
            refine a_getl X lf8_167 (by assumption) rfl dX8_readParty_81 ?_
            obtain ⟨e_84, f_84, h⟩ := zBx h
            refine a_callSv X dX8_readParty_84 miX8_found lm8_204 (t_X8_found (by assumption) (by first | decide | assumption) f_84) rfl rfl (Nat.le_of_ble_eq_true rfl) ⟨by decide, by decide, by decide, by decide⟩ ?_
            refine a_istore X dX8_readParty_87 (by decide) ?_
            refine a_iload X dX8_readParty_89 rfl ?_
            refine a_iconst (v := -1) X dX8_readParty_91 (by decide) ?_
            refine a_icmp_eq (tgt := 134) X dX8_readParty_92 (by decide) (fun h_92 => ?_) (fun h_92 => ?_)
            · replace h := (if_pos h_92).symm.trans h
              exact Zw.to2 (J_134 _ _ _ _ _ _ h) rfl rfl rfl
            · replace h := (if_neg h_92).symm.trans h
              refine a_aload_n X dX8_readParty_95 rfl ?_
              refine a_getr X lf8_13 (by assumption) rfl (by omega) dX8_readParty_96 ?_
              refine a_bipush (v := 10) X dX8_readParty_99 (by decide) ?_
              refine a_iload X dX8_readParty_101 rfl ?_
              refine a_iadd X dX8_readParty_103 ?_
              obtain ⟨g_104, h⟩ := zIx h
              refine a_iaload X (by assumption) g_104 dX8_readParty_104 ?_
              refine a_iconst (v := -1) X dX8_readParty_105 (by decide) ?_
              refine a_icmp_ne (tgt := 134) X dX8_readParty_106 (by decide) (fun h_106 => ?_) (fun h_106 => ?_)
              · replace h := (if_neg h_106).symm.trans h
                exact Zw.to2 (J_134 _ _ _ _ _ _ h) rfl rfl rfl
              · replace h := (if_pos h_106).symm.trans h
                refine a_aload_n X dX8_readParty_109 rfl ?_
                refine a_getr X lf8_13 (by assumption) rfl (by omega) dX8_readParty_110 ?_
                refine a_bipush (v := 20) X dX8_readParty_113 (by decide) ?_
                refine a_iconst (v := 3) X dX8_readParty_115 (by decide) ?_
                refine a_iload X dX8_readParty_116 rfl ?_
                refine a_imul X dX8_readParty_118 ?_
                refine a_iadd X dX8_readParty_119 ?_
                obtain ⟨g_120, h⟩ := zIx h
                refine a_iaload X (by assumption) g_120 dX8_readParty_120 ?_
                refine a_iconst (v := -1) X dX8_readParty_121 (by decide) ?_
                refine a_icmp_ne (tgt := 134) X dX8_readParty_122 (by decide) (fun h_122 => ?_) (fun h_122 => ?_)
                · replace h := (if_neg h_122).symm.trans h
                  exact Zw.to2 (J_134 _ _ _ _ _ _ h) rfl rfl rfl
                · replace h := (if_pos h_122).symm.trans h
                  refine a_iload_n X dX8_readParty_125 rfl ?_
                  refine a_iload X dX8_readParty_126 rfl ?_
                  obtain ⟨e_128, f_128, h⟩ := zBx h
                  refine a_callSx X dX8_readParty_128 miX8_has lm8_240 (t_X8_has f_128) rfl rfl (Nat.le_of_ble_eq_true rfl) ⟨by decide, by decide, by decide, by decide⟩ (fun r_128 S_128 q_128 => ?_)
                  obtain ⟨rfl, rfl, b_128⟩ := q_128
                  refine a_if_eq (tgt := 140) X dX8_readParty_131 (by decide) (fun h_131 => ?_) (fun h_131 => ?_)
                  · replace h := (if_pos h_131).symm.trans h
                    refine a_iload_n X dX8_readParty_140 rfl ?_
                    refine a_iconst (v := 1) X dX8_readParty_141 (by decide) ?_
                    refine a_iload X dX8_readParty_142 rfl ?_
                    refine a_ishl X dX8_readParty_144 ?_
                    refine a_ior X dX8_readParty_145 ?_
                    refine a_istore_n X dX8_readParty_146 (by decide) ?_
                    refine a_iinc (v := x4_53 + 1) X dX8_readParty_147 (by decide) rfl zi_1 ?_
                    refine a_aload_n X dX8_readParty_150 rfl ?_
                    obtain ⟨e_151, f_151, h⟩ := zBx h
                    refine a_callVx X dX8_readParty_151 miX8_next lm8_220 (t_X8_next (by assumption) f_151) (by assumption) rfl rfl rfl (Nat.le_of_ble_eq_true rfl) ⟨by decide, by decide, by decide, by decide⟩ (fun r_151 S_151 q_151 => ?_)
                    obtain ⟨rfl, rfl, b_151⟩ := q_151
                    refine a_pop X dX8_readParty_154 rfl ?_
                    refine a_goto (tgt := 40) X dX8_readParty_155 (by decide) ?_
                    exact Zw.to2 (ih_40 _ _ _ _ _ _ h) rfl rfl rfl
                  · replace h := (if_neg h_131).symm.trans h
                    exact Zw.to2 (J_134 _ _ _ _ _ _ h) rfl rfl rfl
          · replace h := (if_pos h_63).symm.trans h
            exact Zw.to2 (J_66 _ _ _ _ _ _ h) rfl rfl rfl
      intro x1_40 x3_40 x4_40 x5_40 M_40 N_40 h
      rw [D_X8_readParty_40] at h
      refine a_iload X dX8_readParty_40 rfl ?_
      refine a_iconst (v := 2) X dX8_readParty_42 (by decide) ?_
      refine a_icmp_lt (tgt := 53) X dX8_readParty_43 (by decide) (fun h_43 => ?_) (fun h_43 => ?_)
      · replace h := (if_pos h_43).symm.trans h
        exact Zw.to2 (J_53 _ _ _ _ _ _ h) rfl rfl rfl
      · replace h := (if_neg h_43).symm.trans h
        refine a_aload_n X dX8_readParty_46 rfl ?_
        obtain ⟨e_47, f_47, h⟩ := zBx h
        refine a_callVx X dX8_readParty_47 miX8_isName lm8_224 (t_X8_isName (by assumption) f_47) (by assumption) rfl rfl rfl (Nat.le_of_ble_eq_true rfl) ⟨by decide, by decide, by decide, by decide⟩ (fun r_47 S_47 q_47 => ?_)
        obtain ⟨rfl, rfl, b_47⟩ := q_47
        refine a_if_eq (tgt := 158) X dX8_readParty_50 (by decide) (fun h_50 => ?_) (fun h_50 => ?_)
        · replace h := (if_pos h_50).symm.trans h
          refine a_iconst (v := 0) X dX8_readParty_158 (by decide) ?_
          refine a_istore X dX8_readParty_159 (by decide) ?_
          exact Zw.to2 (H_161 _ _ _ _ _ _ h) rfl rfl rfl
        · replace h := (if_neg h_50).symm.trans h
          exact Zw.to2 (J_53 _ _ _ _ _ _ h) rfl rfl rfl
  have H_40 : ∀ (x1_40 : Int64) (x3_40 : Int32) (x4_40 : Int32) (x5_40 : Option Value) (M_40 : zMt) (N_40 : zNt), D_X8_readParty_40 P zFu x1_40 x3_40 x4_40 M_40 N_40 = some r → Zw p l e { frames := 7, cells := 0, slots := 0, locals := 80 * (7) } s m args below meth c G b 6 (MQ below (zQ G b FQ) args s 0 0 (fun q : Nat => b ≤ q)) 0 0 40 [some (.ref (P)), some (.long x1_40), none, some (.int x3_40), some (.int x4_40), x5_40] [] (L, M_40, N_40) := L_40 zFu
  have J_28 : ∀ (x1_28 : Option Value) (x2_28 : Option Value) (x3_28 : Option Value) (x4_28 : Option Value) (x5_28 : Option Value) (M_28 : zMt) (N_28 : zNt), D_X8_readParty_28 P M_28 N_28 = some r → Zw p l e { frames := 7, cells := 0, slots := 0, locals := 80 * (7) } s m args below meth c G b 6 (MQ below (zQ G b FQ) args s 0 0 (fun q : Nat => b ≤ q)) 0 0 28 [some (.ref (P)), x1_28, x2_28, x3_28, x4_28, x5_28] [] (L, M_28, N_28) := by
    intro x1_28 x2_28 x3_28 x4_28 x5_28 M_28 N_28 h
    unfold D_X8_readParty_28 at h
    refine a_iconst (v := 0) X dX8_readParty_28 (by decide) ?_
    refine a_zret X (by first | exact Or.inl rfl | exact Or.inr rfl | assumption) hr dX8_readParty_29 ⟨by decide, by decide⟩ ?_
    subst hF
    rw [← Option.some.inj h]
    exact ⟨rfl, rfl, (by first | exact Or.inl rfl | exact Or.inr rfl | assumption)⟩
  unfold D_X8_readParty at h
  refine a_aload_n X dX8_readParty_0 rfl ?_
  refine a_geti X lf8_211 (by assumption) rfl dX8_readParty_1 ?_
  refine a_iconst (v := 4) X dX8_readParty_4 (by decide) ?_
  refine a_icmp_ne (tgt := 14) X dX8_readParty_5 (by decide) (fun h_5 => ?_) (fun h_5 => ?_)
  · replace h := (if_neg h_5).symm.trans h
    refine a_aload_n X dX8_readParty_14 rfl ?_
    obtain ⟨e_15, f_15, h⟩ := zBx h
    refine a_callVx X dX8_readParty_15 miX8_next lm8_220 (t_X8_next (by assumption) f_15) (by assumption) rfl rfl rfl (Nat.le_of_ble_eq_true rfl) ⟨by decide, by decide, by decide, by decide⟩ (fun r_15 S_15 q_15 => ?_)
    obtain ⟨rfl, rfl, b_15⟩ := q_15
    refine a_if_eq (tgt := 28) X dX8_readParty_18 (by decide) (fun h_18 => ?_) (fun h_18 => ?_)
    · replace h := (if_pos h_18).symm.trans h
      exact Zw.to2 (J_28 _ _ _ _ _ _ _ h) rfl rfl rfl
    · replace h := (if_neg h_18).symm.trans h
      refine a_aload_n X dX8_readParty_21 rfl ?_
      obtain ⟨e_22, f_22, h⟩ := zBx h
      refine a_callVx X dX8_readParty_22 miX8_newName lm8_233 (t_X8_newName (by assumption) f_22) (by assumption) rfl rfl rfl (Nat.le_of_ble_eq_true rfl) ⟨by decide, by decide, by decide, by decide⟩ (fun r_22 S_22 q_22 => ?_)
      obtain ⟨rfl, rfl, b_22⟩ := q_22
      refine a_if_ne (tgt := 30) X dX8_readParty_25 (by decide) (fun h_25 => ?_) (fun h_25 => ?_)
      · replace h := (if_neg h_25).symm.trans h
        refine a_aload_n X dX8_readParty_30 rfl ?_
        refine a_getl X lf8_230 (by assumption) rfl dX8_readParty_31 ?_
        refine a_lstore_n X dX8_readParty_34 (by decide) ?_
        refine a_iconst (v := 0) X dX8_readParty_35 (by decide) ?_
        refine a_istore_n X dX8_readParty_36 (by decide) ?_
        refine a_iconst (v := 0) X dX8_readParty_37 (by decide) ?_
        refine a_istore X dX8_readParty_38 (by decide) ?_
        exact Zw.to2 (H_40 _ _ _ _ _ _ h) rfl rfl rfl
      · replace h := (if_pos h_25).symm.trans h
        exact Zw.to2 (J_28 _ _ _ _ _ _ _ h) rfl rfl rfl
  · replace h := (if_pos h_5).symm.trans h
    refine a_aload_n X dX8_readParty_8 rfl ?_
    refine a_iconst (v := 2) X dX8_readParty_9 (by decide) ?_
    obtain ⟨e_10, f_10, h⟩ := zBx h
    refine a_callVx X dX8_readParty_10 miX8_bad lm8_214 (t_X8_bad (by assumption) f_10) (by assumption) rfl rfl rfl (Nat.le_of_ble_eq_true rfl) ⟨by decide, by decide, by decide, by decide⟩ (fun r_10 S_10 q_10 => ?_)
    obtain ⟨rfl, rfl, b_10⟩ := q_10
    refine a_zret X (by first | exact Or.inl rfl | exact Or.inr rfl | assumption) hr dX8_readParty_13 ⟨by decide, by decide⟩ ?_
    subst hF
    rw [← Option.some.inj h]
    exact ⟨rfl, rfl, (by first | exact Or.inl rfl | exact Or.inr rfl | assumption)⟩
