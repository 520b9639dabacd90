noncomputable def D_X8_come_3 (P : Nat) : Nat → Int32 → Int32 → zMt → Option (zMt)
  | 0, _, _, _ => none
  | n + 1, x1_3, x2_3, M_3 =>
    if x2_3 < 0 then
      some (M_3)
    else
      zI (M_3 P 11) 700 <|
      zLt (zu M_3 (P + 7) (M_3 P 11).toNatClampNeg (((Int32.toUInt32 x1_3 >>> (Int32.toUInt32 x2_3 &&& Int32.toUInt32 31)).toInt32) &&& (255 : Int32))) fun M_22 =>
      zLt (zu M_22 P 11 ((M_22 P 11) + (1 : Int32))) fun M_30 =>
      (D_X8_come_3 P n) x1_3 (x2_3 + (-8)) M_30
noncomputable def D_X8_come (P : Nat) (v0 : Int32) (M : zMt) : Option (zMt) :=
  D_X8_come_3 P zFu v0 (24 : Int32) M
set_option maxRecDepth 100000 in
set_option maxHeartbeats 4000000 in
theorem t_X8_come {l : Launch} {G : zG} {b : Nat} {L : List zC} {M : zMt} {N : zNt} {P : Nat} {v0 : Int32} (hP : LX8 L P) {r : zMt} (h : D_X8_come P v0 M = some r) : zM l G b yX8_come cX8_come 3 none 0 0 0 [.ref P, .int v0] (L, M, N) (fun r2 z => r2 = none ∧ z = (L, r, N)) := by
  refine zM.of miX8_come (Nat.le_of_ble_eq_true rfl) ?_
  intro p e s m args below meth c X hr hname
  generalize hF : ((fun r2 z => r2 = none ∧ z = (L, r, N)) : Option Value → zS → Prop) = FQ
  change Zw p l e { frames := 0, cells := 0, slots := 0, locals := 80 * (0) } s m args below meth c G b 3 (MQ below (zQ G b FQ) args s 0 0 (fun q : Nat => b ≤ q)) 0 0 0 [some (.ref P), some (.int v0), none] [] (L, M, N)
  obtain ⟨p_lt, p_o, p_s, p_read, p_aside, p_kept, p_guest, p_readGuest, p_tape, p_unitName, p_hunterName, p_partyName, p_bits, p_partyOf, p_choiceAt, p_sizes, p_guestMany, p_pointsOf, p_ticketsOf, p_ord, p_given, p_roundOf, p_tags, p_guestTags, p_places, p_sumAt, p_sumFirst, p_sumRound, p_sumBoth, p_sumTags, p_isEnd, p_newPoints, p_inRow, p_out⟩ := id hP
  have L_3 : ∀ u : Nat, ∀ (x1_3 : Int32) (x2_3 : Int32) (M_3 : zMt), D_X8_come_3 P u x1_3 x2_3 M_3 = some r → Zw p l e { frames := 0, cells := 0, slots := 0, locals := 80 * (0) } s m args below meth c G b 3 (MQ below (zQ G b FQ) args s 0 0 (fun q : Nat => b ≤ q)) 0 0 3 [some (.ref (P)), some (.int x1_3), some (.int x2_3)] [] (L, M_3, N) := by
    intro u
    induction u with
    | zero => intro x1_3 x2_3 M_3 h; cases (show none = some r from h)
    | succ u_3 ih_3 =>
      intro x1_3 x2_3 M_3 h
      rw [D_X8_come_3] at h
      refine a_iload_n X dX8_come_3 rfl ?_
      refine a_if_lt (tgt := 39) X dX8_come_4 (by decide) (fun h_4 => ?_) (fun h_4 => ?_)
      · replace h := (if_pos h_4).symm.trans h
        refine a_vret X hr dX8_come_39 ⟨by decide, by decide⟩ ?_
        subst hF
        rw [← Option.some.inj h]
        exact ⟨rfl, rfl⟩
      · replace h := (if_neg h_4).symm.trans h
        refine a_aload_n X dX8_come_7 rfl ?_
        refine a_getr X lf8_29 (by assumption) rfl (by omega) dX8_come_8 ?_
        refine a_aload_n X dX8_come_11 rfl ?_
        refine a_geti X lf8_137 (by assumption) rfl dX8_come_12 ?_
        refine a_iload_n X dX8_come_15 rfl ?_
        refine a_iload_n X dX8_come_16 rfl ?_
        refine a_iushr X dX8_come_17 ?_
        refine a_sipush (v := 255) X dX8_come_18 (by decide) ?_
        refine a_iand X dX8_come_21 ?_
        obtain ⟨g_22, h⟩ := zIx h
        obtain ⟨M_22, f_22, h⟩ := zLtx h
        refine d_iastore X (by assumption) g_22 dX8_come_22 f_22 ?_
        refine a_aload_n X dX8_come_23 rfl ?_
        refine a_dup X dX8_come_24 rfl ?_
        refine a_geti X lf8_137 (by assumption) rfl dX8_come_25 ?_
        refine a_iconst (v := 1) X dX8_come_28 (by decide) ?_
        refine a_iadd X dX8_come_29 ?_
        obtain ⟨M_30, f_30, h⟩ := zLtx h
        refine d_puti X lf8_137 (by assumption) rfl dX8_come_30 f_30 ?_
        refine a_iinc (v := x2_3 + (-8)) X dX8_come_33 (by decide) rfl (by rw [show Int32.ofInt (-8) = (-8 : Int32) by decide]) ?_
        refine a_goto (tgt := 3) X dX8_come_36 (by decide) ?_
        exact Zw.to2 (ih_3 _ _ _ h) rfl rfl rfl
  have H_3 : ∀ (x1_3 : Int32) (x2_3 : Int32) (M_3 : zMt), D_X8_come_3 P zFu x1_3 x2_3 M_3 = some r → Zw p l e { frames := 0, cells := 0, slots := 0, locals := 80 * (0) } s m args below meth c G b 3 (MQ below (zQ G b FQ) args s 0 0 (fun q : Nat => b ≤ q)) 0 0 3 [some (.ref (P)), some (.int x1_3), some (.int x2_3)] [] (L, M_3, N) := L_3 zFu
  unfold D_X8_come at h
  refine a_bipush (v := 24) X dX8_come_0 (by decide) ?_
  refine a_istore_n X dX8_come_2 (by decide) ?_
  exact Zw.to2 (H_3 _ _ _ h) rfl rfl rfl
noncomputable def D_X8_feed (P : Nat) (v0 : Int32) (v1 : Int32) (v2 : Int32) (v3 : Int32) (v4 : Int32) (M : zMt) : Option (Int32 × zMt) :=
  zLt (zu M P 6 (0 : Int32)) fun M_2 =>
  if ((M_2 P 11) + (20 : Int32)) ≤ (700 : Int32) then
    zB (D_X8_come P v0 M_2) fun e_22 =>
    zB (D_X8_come P v1 e_22) fun e_27 =>
    zB (D_X8_come P v2 e_27) fun e_32 =>
    zB (D_X8_come P v3 e_32) fun e_38 =>
    zB (D_X8_come P v4 e_38) fun e_44 =>
    some ((e_44 P 11), e_44)
  else
    some ((-1 : Int32), M_2)
set_option maxRecDepth 100000 in
set_option maxHeartbeats 4000000 in
theorem t_X8_feed {l : Launch} {G : zG} {b : Nat} {L : List zC} {M : zMt} {N : zNt} {P : Nat} {v0 : Int32} {v1 : Int32} {v2 : Int32} {v3 : Int32} {v4 : Int32} (hP : LX8 L P) {r : Int32 × zMt} (h : D_X8_feed P v0 v1 v2 v3 v4 M = some r) : zM l G b yX8_feed cX8_feed 6 (some .int) 1 0 0 [.ref P, .int v0, .int v1, .int v2, .int v3, .int v4] (L, M, N) (fun r2 z => r2 = some (.int r.1) ∧ z = (L, r.2, N)) := by
  refine zM.of miX8_feed (Nat.le_of_ble_eq_true rfl) ?_
  intro p e s m args below meth c X hr hname
  generalize hF : ((fun r2 z => r2 = some (.int r.1) ∧ z = (L, r.2, N)) : Option Value → zS → Prop) = FQ
  change Zw p l e { frames := 1, cells := 0, slots := 0, locals := 80 * (1) } s m args below meth c G b 6 (MQ below (zQ G b FQ) args s 0 0 (fun q : Nat => b ≤ q)) 0 0 0 [some (.ref P), some (.int v0), some (.int v1), some (.int v2), some (.int v3), some (.int v4)] [] (L, M, N)
  obtain ⟨p_lt, p_o, p_s, p_read, p_aside, p_kept, p_guest, p_readGuest, p_tape, p_unitName, p_hunterName, p_partyName, p_bits, p_partyOf, p_choiceAt, p_sizes, p_guestMany, p_pointsOf, p_ticketsOf, p_ord, p_given, p_roundOf, p_tags, p_guestTags, p_places, p_sumAt, p_sumFirst, p_sumRound, p_sumBoth, p_sumTags, p_isEnd, p_newPoints, p_inRow, p_out⟩ := id hP
  unfold D_X8_feed at h
  refine a_aload_n X dX8_feed_0 rfl ?_
  refine a_iconst (v := 0) X dX8_feed_1 (by decide) ?_
  obtain ⟨M_2, f_2, h⟩ := zLtx h
  refine d_puti X lf8_119 (by assumption) rfl dX8_feed_2 f_2 ?_
  refine a_aload_n X dX8_feed_5 rfl ?_
  refine a_geti X lf8_137 (by assumption) rfl dX8_feed_6 ?_
  refine a_bipush (v := 20) X dX8_feed_9 (by decide) ?_
  refine a_iadd X dX8_feed_11 ?_
  refine a_sipush (v := 700) X dX8_feed_12 (by decide) ?_
  refine a_icmp_le (tgt := 20) X dX8_feed_15 (by decide) (fun h_15 => ?_) (fun h_15 => ?_)
  · replace h := (if_pos h_15).symm.trans h
    refine a_aload_n X dX8_feed_20 rfl ?_
    refine a_iload_n X dX8_feed_21 rfl ?_
    obtain ⟨e_22, f_22, h⟩ := zBx h
    refine a_callVu X dX8_feed_22 miX8_come lm8_140 (t_X8_come (by assumption) f_22) (by assumption) rfl rfl rfl (Nat.le_of_ble_eq_true rfl) ⟨by decide, by decide, by decide, by decide⟩ ?_
    refine a_aload_n X dX8_feed_25 rfl ?_
    refine a_iload_n X dX8_feed_26 rfl ?_
    obtain ⟨e_27, f_27, h⟩ := zBx h
    refine a_callVu X dX8_feed_27 miX8_come lm8_140 (t_X8_come (by assumption) f_27) (by assumption) rfl rfl rfl (Nat.le_of_ble_eq_true rfl) ⟨by decide, by decide, by decide, by decide⟩ ?_
    refine a_aload_n X dX8_feed_30 rfl ?_
    refine a_iload_n X dX8_feed_31 rfl ?_
    obtain ⟨e_32, f_32, h⟩ := zBx h
    refine a_callVu X dX8_feed_32 miX8_come lm8_140 (t_X8_come (by assumption) f_32) (by assumption) rfl rfl rfl (Nat.le_of_ble_eq_true rfl) ⟨by decide, by decide, by decide, by decide⟩ ?_
    refine a_aload_n X dX8_feed_35 rfl ?_
    refine a_iload X dX8_feed_36 rfl ?_
    obtain ⟨e_38, f_38, h⟩ := zBx h
    refine a_callVu X dX8_feed_38 miX8_come lm8_140 (t_X8_come (by assumption) f_38) (by assumption) rfl rfl rfl (Nat.le_of_ble_eq_true rfl) ⟨by decide, by decide, by decide, by decide⟩ ?_
    refine a_aload_n X dX8_feed_41 rfl ?_
    refine a_iload X dX8_feed_42 rfl ?_
    obtain ⟨e_44, f_44, h⟩ := zBx h
    refine a_callVu X dX8_feed_44 miX8_come lm8_140 (t_X8_come (by assumption) f_44) (by assumption) rfl rfl rfl (Nat.le_of_ble_eq_true rfl) ⟨by decide, by decide, by decide, by decide⟩ ?_
    refine a_aload_n X dX8_feed_47 rfl ?_
    refine a_geti X lf8_137 (by assumption) rfl dX8_feed_48 ?_
    refine a_iret X hr dX8_feed_51 ⟨by decide, by decide⟩ ?_
    subst hF
    rw [← Option.some.inj h]
    exact ⟨rfl, rfl⟩
  · replace h := (if_neg h_15).symm.trans h
    refine a_iconst (v := -1) X dX8_feed_18 (by decide) ?_
    refine a_iret X hr dX8_feed_19 ⟨by decide, by decide⟩ ?_
    subst hF
    rw [← Option.some.inj h]
    exact ⟨rfl, rfl⟩
noncomputable def D_X8_byteAt_18 (P : Nat) (M : zMt) (y0_18 : Int32) : Option (Int32) :=
  some (y0_18)
noncomputable def D_X8_byteAt (P : Nat) (M : zMt) (v0 : Int32) : Option (Int32) :=
  if (M P 15) ≤ v0 then
    D_X8_byteAt_18 P M (-1 : Int32)
  else
    zI v0 700 <|
    D_X8_byteAt_18 P M (M (P + 7) v0.toNatClampNeg)
set_option maxRecDepth 100000 in
set_option maxHeartbeats 4000000 in
theorem t_X8_byteAt {l : Launch} {G : zG} {b : Nat} {L : List zC} {M : zMt} {N : zNt} {P : Nat} {v0 : Int32} (hP : LX8 L P) {r : Int32} (h : D_X8_byteAt P M v0 = some r) : zM l G b yX8_byteAt cX8_byteAt 2 (some .int) 0 0 0 [.ref P, .int v0] (L, M, N) (fun r2 z => r2 = some (.int r) ∧ z = (L, M, N)) := by
  refine zM.of miX8_byteAt (Nat.le_of_ble_eq_true rfl) ?_
  intro p e s m args below meth c X hr hname
  generalize hF : ((fun r2 z => r2 = some (.int r) ∧ z = (L, M, N)) : Option Value → zS → Prop) = FQ
  change Zw p l e { frames := 0, cells := 0, slots := 0, locals := 80 * (0) } s m args below meth c G b 2 (MQ below (zQ G b FQ) args s 0 0 (fun q : Nat => b ≤ q)) 0 0 0 [some (.ref P), some (.int v0)] [] (L, M, N)
  obtain ⟨p_lt, p_o, p_s, p_read, p_aside, p_kept, p_guest, p_readGuest, p_tape, p_unitName, p_hunterName, p_partyName, p_bits, p_partyOf, p_choiceAt, p_sizes, p_guestMany, p_pointsOf, p_ticketsOf, p_ord, p_given, p_roundOf, p_tags, p_guestTags, p_places, p_sumAt, p_sumFirst, p_sumRound, p_sumBoth, p_sumTags, p_isEnd, p_newPoints, p_inRow, p_out⟩ := id hP
  have J_18 : ∀ (x1_18 : Int32) (y0_18 : Int32), D_X8_byteAt_18 P M y0_18 = some r → Zw p l e { frames := 0, cells := 0, slots := 0, locals := 80 * (0) } s m args below meth c G b 2 (MQ below (zQ G b FQ) args s 0 0 (fun q : Nat => b ≤ q)) 0 0 18 [some (.ref (P)), some (.int x1_18)] [.int y0_18] (L, M, N) := by
    intro x1_18 y0_18 h
    unfold D_X8_byteAt_18 at h
    refine a_iret X hr dX8_byteAt_18 ⟨by decide, by decide⟩ ?_
    subst hF
    rw [← Option.some.inj h]
    exact ⟨rfl, rfl⟩
  unfold D_X8_byteAt at h
  refine a_iload_n X dX8_byteAt_0 rfl ?_
  refine a_aload_n X dX8_byteAt_1 rfl ?_
  refine a_geti X lf8_144 (by assumption) rfl dX8_byteAt_2 ?_
  refine a_icmp_ge (tgt := 17) X dX8_byteAt_5 (by decide) (fun h_5 => ?_) (fun h_5 => ?_)
  · replace h := (if_pos h_5).symm.trans h
    refine a_iconst (v := -1) X dX8_byteAt_17 (by decide) ?_
    exact Zw.to2 (J_18 _ _ h) rfl rfl rfl
  · replace h := (if_neg h_5).symm.trans h
    refine a_aload_n X dX8_byteAt_8 rfl ?_
    refine a_getr X lf8_29 (by assumption) rfl (by omega) dX8_byteAt_9 ?_
    refine a_iload_n X dX8_byteAt_12 rfl ?_
    obtain ⟨g_13, h⟩ := zIx h
    refine a_iaload X (by assumption) g_13 dX8_byteAt_13 ?_
    refine a_goto (tgt := 18) X dX8_byteAt_14 (by decide) ?_
    exact Zw.to2 (J_18 _ _ h) rfl rfl rfl
noncomputable def D_X8_isLetter_17  (y0_17 : Int32) : Option (Int32) :=
  some (y0_17)
noncomputable def D_X8_isLetter_16   : Option (Int32) :=
  D_X8_isLetter_17 (0 : Int32)
noncomputable def D_X8_isLetter  (v0 : Int32) : Option (Int32) :=
  if v0 < (97 : Int32) then
    D_X8_isLetter_16
  else
    if (122 : Int32) < v0 then
      D_X8_isLetter_16
    else
      D_X8_isLetter_17 (1 : Int32)
set_option maxRecDepth 100000 in
set_option maxHeartbeats 4000000 in
theorem t_X8_isLetter {l : Launch} {G : zG} {b : Nat} {L : List zC} {M : zMt} {N : zNt}  {v0 : Int32}  {r : Int32} (h : D_X8_isLetter v0 = some r) : zM l G b yX8_isLetter cX8_isLetter 1 (some .boolean) 0 0 0 [.int v0] (L, M, N) (fun r2 z => r2 = some (.int r) ∧ z = (L, M, N) ∧ (r = 0 ∨ r = 1)) := by
  refine zM.of miX8_isLetter (Nat.le_of_ble_eq_true rfl) ?_
  intro p e s m args below meth c X hr hname
  generalize hF : ((fun r2 z => r2 = some (.int r) ∧ z = (L, M, N) ∧ (r = 0 ∨ r = 1)) : Option Value → zS → Prop) = FQ
  change Zw p l e { frames := 0, cells := 0, slots := 0, locals := 80 * (0) } s m args below meth c G b 1 (MQ below (zQ G b FQ) args s 0 0 (fun q : Nat => b ≤ q)) 0 0 0 [some (.int v0)] [] (L, M, N)
  have J_17 : ∀ (x0_17 : Int32) (y0_17 : Int32), (y0_17 = 0 ∨ y0_17 = 1) → D_X8_isLetter_17 y0_17 = some r → Zw p l e { frames := 0, cells := 0, slots := 0, locals := 80 * (0) } s m args below meth c G b 1 (MQ below (zQ G b FQ) args s 0 0 (fun q : Nat => b ≤ q)) 0 0 17 [some (.int x0_17)] [.int y0_17] (L, M, N) := by
    intro x0_17 y0_17 fb_y0_17 h
    unfold D_X8_isLetter_17 at h
    refine a_zret X (by first | exact Or.inl rfl | exact Or.inr rfl | assumption) hr dX8_isLetter_17 ⟨by decide, by decide⟩ ?_
    subst hF
    rw [← Option.some.inj h]
    exact ⟨rfl, rfl, (by first | exact Or.inl rfl | exact Or.inr rfl | assumption)⟩
  have J_16 : ∀ (x0_16 : Int32), D_X8_isLetter_16 = some r → Zw p l e { frames := 0, cells := 0, slots := 0, locals := 80 * (0) } s m args below meth c G b 1 (MQ below (zQ G b FQ) args s 0 0 (fun q : Nat => b ≤ q)) 0 0 16 [some (.int x0_16)] [] (L, M, N) := by
    intro x0_16 h
    unfold D_X8_isLetter_16 at h
    refine a_iconst (v := 0) X dX8_isLetter_16 (by decide) ?_
    exact Zw.to2 (J_17 _ _ (by first | exact Or.inl rfl | exact Or.inr rfl | assumption) h) rfl rfl rfl
  unfold D_X8_isLetter at h
  refine a_iload_n X dX8_isLetter_0 rfl ?_
  refine a_bipush (v := 97) X dX8_isLetter_1 (by decide) ?_
  refine a_icmp_lt (tgt := 16) X dX8_isLetter_3 (by decide) (fun h_3 => ?_) (fun h_3 => ?_)
  · replace h := (if_pos h_3).symm.trans h
    exact Zw.to2 (J_16 _ h) rfl rfl rfl
  · replace h := (if_neg h_3).symm.trans h
    refine a_iload_n X dX8_isLetter_6 rfl ?_
    refine a_bipush (v := 122) X dX8_isLetter_7 (by decide) ?_
    refine a_icmp_gt (tgt := 16) X dX8_isLetter_9 (by decide) (fun h_9 => ?_) (fun h_9 => ?_)
    · replace h := (if_pos h_9).symm.trans h
      exact Zw.to2 (J_16 _ h) rfl rfl rfl
    · replace h := (if_neg h_9).symm.trans h
      refine a_iconst (v := 1) X dX8_isLetter_12 (by decide) ?_
      refine a_goto (tgt := 17) X dX8_isLetter_13 (by decide) ?_
      exact Zw.to2 (J_17 _ _ (by first | exact Or.inl rfl | exact Or.inr rfl | assumption) h) rfl rfl rfl
noncomputable def D_X8_isDigit_17  (y0_17 : Int32) : Option (Int32) :=
  some (y0_17)
noncomputable def D_X8_isDigit_16   : Option (Int32) :=
  D_X8_isDigit_17 (0 : Int32)
noncomputable def D_X8_isDigit  (v0 : Int32) : Option (Int32) :=
  if v0 < (48 : Int32) then
    D_X8_isDigit_16
  else
    if (57 : Int32) < v0 then
      D_X8_isDigit_16
    else
      D_X8_isDigit_17 (1 : Int32)
set_option maxRecDepth 100000 in
set_option maxHeartbeats 4000000 in
theorem t_X8_isDigit {l : Launch} {G : zG} {b : Nat} {L : List zC} {M : zMt} {N : zNt}  {v0 : Int32}  {r : Int32} (h : D_X8_isDigit v0 = some r) : zM l G b yX8_isDigit cX8_isDigit 1 (some .boolean) 0 0 0 [.int v0] (L, M, N) (fun r2 z => r2 = some (.int r) ∧ z = (L, M, N) ∧ (r = 0 ∨ r = 1)) := by
  refine zM.of miX8_isDigit (Nat.le_of_ble_eq_true rfl) ?_
  intro p e s m args below meth c X hr hname
  generalize hF : ((fun r2 z => r2 = some (.int r) ∧ z = (L, M, N) ∧ (r = 0 ∨ r = 1)) : Option Value → zS → Prop) = FQ
  change Zw p l e { frames := 0, cells := 0, slots := 0, locals := 80 * (0) } s m args below meth c G b 1 (MQ below (zQ G b FQ) args s 0 0 (fun q : Nat => b ≤ q)) 0 0 0 [some (.int v0)] [] (L, M, N)
  have J_17 : ∀ (x0_17 : Int32) (y0_17 : Int32), (y0_17 = 0 ∨ y0_17 = 1) → D_X8_isDigit_17 y0_17 = some r → Zw p l e { frames := 0, cells := 0, slots := 0, locals := 80 * (0) } s m args below meth c G b 1 (MQ below (zQ G b FQ) args s 0 0 (fun q : Nat => b ≤ q)) 0 0 17 [some (.int x0_17)] [.int y0_17] (L, M, N) := by
    intro x0_17 y0_17 fb_y0_17 h
    unfold D_X8_isDigit_17 at h
    refine a_zret X (by first | exact Or.inl rfl | exact Or.inr rfl | assumption) hr dX8_isDigit_17 ⟨by decide, by decide⟩ ?_
    subst hF
    rw [← Option.some.inj h]
    exact ⟨rfl, rfl, (by first | exact Or.inl rfl | exact Or.inr rfl | assumption)⟩
  have J_16 : ∀ (x0_16 : Int32), D_X8_isDigit_16 = some r → Zw p l e { frames := 0, cells := 0, slots := 0, locals := 80 * (0) } s m args below meth c G b 1 (MQ below (zQ G b FQ) args s 0 0 (fun q : Nat => b ≤ q)) 0 0 16 [some (.int x0_16)] [] (L, M, N) := by
    intro x0_16 h
    unfold D_X8_isDigit_16 at h
    refine a_iconst (v := 0) X dX8_isDigit_16 (by decide) ?_
    exact Zw.to2 (J_17 _ _ (by first | exact Or.inl rfl | exact Or.inr rfl | assumption) h) rfl rfl rfl
  unfold D_X8_isDigit at h
  refine a_iload_n X dX8_isDigit_0 rfl ?_
  refine a_bipush (v := 48) X dX8_isDigit_1 (by decide) ?_
  refine a_icmp_lt (tgt := 16) X dX8_isDigit_3 (by decide) (fun h_3 => ?_) (fun h_3 => ?_)
  · replace h := (if_pos h_3).symm.trans h
    exact Zw.to2 (J_16 _ h) rfl rfl rfl
  · replace h := (if_neg h_3).symm.trans h
    refine a_iload_n X dX8_isDigit_6 rfl ?_
    refine a_bipush (v := 57) X dX8_isDigit_7 (by decide) ?_
    refine a_icmp_gt (tgt := 16) X dX8_isDigit_9 (by decide) (fun h_9 => ?_) (fun h_9 => ?_)
    · replace h := (if_pos h_9).symm.trans h
      exact Zw.to2 (J_16 _ h) rfl rfl rfl
    · replace h := (if_neg h_9).symm.trans h
      refine a_iconst (v := 1) X dX8_isDigit_12 (by decide) ?_
      refine a_goto (tgt := 17) X dX8_isDigit_13 (by decide) ?_
      exact Zw.to2 (J_17 _ _ (by first | exact Or.inl rfl | exact Or.inr rfl | assumption) h) rfl rfl rfl
noncomputable def D_X8_among_62 (P : Nat) (w0 : Nat) (N : zNt) (k7 : Int32 → Int64 → Int32 → Option (Int32)) (x2_62 : Int32) (x3_62 : Int64) (x5_62 : Int32) : Option (Int32) :=
  k7 x2_62 x3_62 (x5_62 + 1)
noncomputable def D_X8_among_7 (P : Nat) (w0 : Nat) (N : zNt) : Nat → Int32 → Int64 → Int32 → Option (Int32)
  | 0, _, _, _ => none
  | n + 1, x2_7, x3_7, x5_7 =>
    if (Int32.ofNat (zLen.getD w0 0)) ≤ x5_7 then
      some ((-1 : Int32))
    else
      zI x5_7 (zLen.getD w0 0) <|
      if (zCh w0 x5_7.toNatClampNeg) = (32 : Int32) then
        if (lg_cmp x3_7 (N P 24)) = 0 then
          some (x2_7)
        else
          D_X8_among_62 P w0 N (D_X8_among_7 P w0 N n) (x2_7 + 1) (0 : Int64) x5_7
      else
        D_X8_among_62 P w0 N (D_X8_among_7 P w0 N n) x2_7 ((x3_7 <<< (Int32.toInt64 (5 : Int32) &&& 63)) ||| ((Int32.toInt64 (zCh w0 x5_7.toNatClampNeg)) - (96 : Int64))) x5_7
noncomputable def D_X8_among (P : Nat) (w0 : Nat) (N : zNt)  : Option (Int32) :=
  D_X8_among_7 P w0 N zFu (0 : Int32) (0 : Int64) (0 : Int32)
set_option maxRecDepth 100000 in
set_option maxHeartbeats 4000000 in
theorem t_X8_among {l : Launch} {G : zG} {b : Nat} {L : List zC} {M : zMt} {N : zNt} {P : Nat} {w0 : Nat}  (hP : LX8 L P) (hw0 : w0 < zLit.length) {r : Int32} (h : D_X8_among P w0 N = some r) : zM l G b yX8_among cX8_among 7 (some .int) 4 0 0 [.ref P, .ref (1000000 + zKa G w0)] (L, M, N) (fun r2 z => r2 = some (.int r) ∧ z = (L, M, N)) := by
  refine zM.of miX8_among (Nat.le_of_ble_eq_true rfl) ?_
  intro p e s m args below meth c X hr hname
  generalize hF : ((fun r2 z => r2 = some (.int r) ∧ z = (L, M, N)) : Option Value → zS → Prop) = FQ
  change Zw p l e { frames := 4, cells := 0, slots := 0, locals := 80 * (4) } s m args below meth c G b 7 (MQ below (zQ G b FQ) args s 0 0 (fun q : Nat => b ≤ q)) 0 0 0 [some (.ref P), some (.ref (1000000 + zKa G w0)), none, none, none, none, none] [] (L, M, N)
  obtain ⟨p_lt, p_o, p_s, p_read, p_aside, p_kept, p_guest, p_readGuest, p_tape, p_unitName, p_hunterName, p_partyName, p_bits, p_partyOf, p_choiceAt, p_sizes, p_guestMany, p_pointsOf, p_ticketsOf, p_ord, p_given, p_roundOf, p_tags, p_guestTags, p_places, p_sumAt, p_sumFirst, p_sumRound, p_sumBoth, p_sumTags, p_isEnd, p_newPoints, p_inRow, p_out⟩ := id hP
  have L_7 : ∀ u : Nat, ∀ (x2_7 : Int32) (x3_7 : Int64) (x5_7 : Int32) (x6_7 : Option Value), D_X8_among_7 P w0 N u x2_7 x3_7 x5_7 = some r → Zw p l e { frames := 4, cells := 0, slots := 0, locals := 80 * (4) } s m args below meth c G b 7 (MQ below (zQ G b FQ) args s 0 0 (fun q : Nat => b ≤ q)) 0 0 7 [some (.ref (P)), some (.ref (1000000 + zKa G w0)), some (.int x2_7), some (.long x3_7), none, some (.int x5_7), x6_7] [] (L, M, N) := by
    intro u
    induction u with
    | zero => intro x2_7 x3_7 x5_7 x6_7 h; cases (show none = some r from h)
    | succ u_7 ih_7 =>
      have J_62 : ∀ (x2_62 : Int32) (x3_62 : Int64) (x5_62 : Int32) (x6_62 : Int32), D_X8_among_62 P w0 N (D_X8_among_7 P w0 N u_7) x2_62 x3_62 x5_62 = some r → Zw p l e { frames := 4, cells := 0, slots := 0, locals := 80 * (4) } s m args below meth c G b 7 (MQ below (zQ G b FQ) args s 0 0 (fun q : Nat => b ≤ q)) 0 0 62 [some (.ref (P)), some (.ref (1000000 + zKa G w0)), some (.int x2_62), some (.long x3_62), none, some (.int x5_62), some (.int x6_62)] [] (L, M, N) := by
        intro x2_62 x3_62 x5_62 x6_62 h
        unfold D_X8_among_62 at h
        refine a_iinc (v := x5_62 + 1) X dX8_among_62 (by decide) rfl zi_1 ?_
        refine a_goto (tgt := 7) X dX8_among_65 (by decide) ?_
        exact Zw.to2 (ih_7 _ _ _ _ h) rfl rfl rfl
      intro x2_7 x3_7 x5_7 x6_7 h
      rw [D_X8_among_7] at h
      refine a_iload X dX8_among_7 rfl ?_
      refine a_aload_n X dX8_among_9 rfl ?_
      refine a_invVs X miJ0_length_8abf5 lm8_185 (by first | assumption | decide) rfl rfl rfl (Nat.le_of_ble_eq_true rfl) ⟨by decide, by decide, by decide, by decide⟩ dX8_among_10 (c_length (by first | assumption | decide)) (fun r_10 S_10 q_10 => ?_)
      obtain ⟨rfl, rfl⟩ := q_10
      refine a_icmp_ge (tgt := 68) X dX8_among_13 (by decide) (fun h_13 => ?_) (fun h_13 => ?_)
      · replace h := (if_pos h_13).symm.trans h
        refine a_iconst (v := -1) X dX8_among_68 (by decide) ?_
        refine a_iret X hr dX8_among_69 ⟨by decide, by decide⟩ ?_
        subst hF
        rw [← Option.some.inj h]
        exact ⟨rfl, rfl⟩
      · replace h := (if_neg h_13).symm.trans h
        refine a_aload_n X dX8_among_16 rfl ?_
        refine a_iload X dX8_among_17 rfl ?_
        obtain ⟨g_19, h⟩ := zIx h
        refine a_invVs X miJ0_charAt_5068e lm8_191 (by first | assumption | decide) rfl rfl rfl (Nat.le_of_ble_eq_true rfl) ⟨by decide, by decide, by decide, by decide⟩ dX8_among_19 (t_charAt (by first | assumption | decide) g_19) (fun r_19 S_19 q_19 => ?_)
        obtain ⟨rfl, rfl⟩ := q_19
        refine a_istore X dX8_among_22 (by decide) ?_
        refine a_iload X dX8_among_24 rfl ?_
        refine a_bipush (v := 32) X dX8_among_26 (by decide) ?_
        refine a_icmp_eq (tgt := 46) X dX8_among_28 (by decide) (fun h_28 => ?_) (fun h_28 => ?_)
        · replace h := (if_pos h_28).symm.trans h
          refine a_lload_n X dX8_among_46 rfl ?_
          refine a_aload_n X dX8_among_47 rfl ?_
          refine a_getl X lf8_167 (by assumption) rfl dX8_among_48 ?_
          refine a_lcmp X dX8_among_51 ?_
          refine a_if_ne (tgt := 57) X dX8_among_52 (by decide) (fun h_52 => ?_) (fun h_52 => ?_)
          · replace h := (if_neg h_52).symm.trans h
            refine a_lconst (v := 0) X dX8_among_57 (by decide) ?_
            refine a_lstore_n X dX8_among_58 (by decide) ?_
            refine a_iinc (v := x2_7 + 1) X dX8_among_59 (by decide) rfl zi_1 ?_
            exact Zw.to2 (J_62 _ _ _ _ h) rfl rfl rfl
          · replace h := (if_pos h_52).symm.trans h
            refine a_iload_n X dX8_among_55 rfl ?_
            refine a_iret X hr dX8_among_56 ⟨by decide, by decide⟩ ?_
            subst hF
            rw [← Option.some.inj h]
            exact ⟨rfl, rfl⟩
        · replace h := (if_neg h_28).symm.trans h
          refine a_lload_n X dX8_among_31 rfl ?_
          refine a_iconst (v := 5) X dX8_among_32 (by decide) ?_
          refine a_lshl X dX8_among_33 ?_
          refine a_iload X dX8_among_34 rfl ?_
          refine a_i2l X dX8_among_36 ?_
          refine a_ldc2 X dX8_among_37 lk8_171 ?_
          refine a_lsub X dX8_among_40 ?_
          refine a_lor X dX8_among_41 ?_
          refine a_lstore_n X dX8_among_42 (by decide) ?_
          refine a_goto (tgt := 62) X dX8_among_43 (by decide) ?_
          exact Zw.to2 (J_62 _ _ _ _ h) rfl rfl rfl
  have H_7 : ∀ (x2_7 : Int32) (x3_7 : Int64) (x5_7 : Int32) (x6_7 : Option Value), D_X8_among_7 P w0 N zFu x2_7 x3_7 x5_7 = some r → Zw p l e { frames := 4, cells := 0, slots := 0, locals := 80 * (4) } s m args below meth c G b 7 (MQ below (zQ G b FQ) args s 0 0 (fun q : Nat => b ≤ q)) 0 0 7 [some (.ref (P)), some (.ref (1000000 + zKa G w0)), some (.int x2_7), some (.long x3_7), none, some (.int x5_7), x6_7] [] (L, M, N) := L_7 zFu
  unfold D_X8_among at h
  refine a_iconst (v := 0) X dX8_among_0 (by decide) ?_
  refine a_istore_n X dX8_among_1 (by decide) ?_
  refine a_lconst (v := 0) X dX8_among_2 (by decide) ?_
  refine a_lstore_n X dX8_among_3 (by decide) ?_
  refine a_iconst (v := 0) X dX8_among_4 (by decide) ?_
  refine a_istore X dX8_among_5 (by decide) ?_
  exact Zw.to2 (H_7 _ _ _ _ h) rfl rfl rfl
noncomputable def D_X8_next_320 (P : Nat) (M_320 : zMt) (N_320 : zNt) : Option (Int32 × zMt × zNt) :=
  some ((1 : Int32), M_320, N_320)
noncomputable def D_X8_next_317 (P : Nat) (y1_317 : Int32) (M_317 : zMt) (N_317 : zNt) : Option (Int32 × zMt × zNt) :=
  zLt (zu M_317 P 18 y1_317) fun M_317 =>
  D_X8_next_320 P M_317 N_317
noncomputable def D_X8_next_289 (P : Nat) (y1_289 : Int32) (M_289 : zMt) (N_289 : zNt) : Option (Int32 × zMt × zNt) :=
  zLt (zu M_289 P 18 y1_289) fun M_289 =>
  D_X8_next_320 P M_289 N_289
noncomputable def D_X8_next_257 (P : Nat) (k207 : zMt → zNt → Option (Int32 × zMt × zNt)) (M_257 : zMt) (N_257 : zNt) : Option (Int32 × zMt × zNt) :=
  zLt (zu M_257 P 17 ((M_257 P 17) + (1 : Int32))) fun M_264 =>
  k207 M_264 N_257
noncomputable def D_X8_next_207 (P : Nat) : Nat → zMt → zNt → Option (Int32 × zMt × zNt)
  | 0, _, _ => none
  | n + 1, M_207, N_207 =>
    zB (D_X8_byteAt P M_207 (M_207 P 17)) fun e_212 =>
    zB (D_X8_isDigit e_212) fun e_215 =>
    if e_215 = 0 then
      if ((M_207 P 17) - (M_207 P 16)) ≤ (3 : Int32) then
        D_X8_next_289 P (3 : Int32) M_207 N_207
      else
        D_X8_next_289 P (1 : Int32) M_207 N_207
    else
      if (3 : Int32) ≤ ((M_207 P 17) - (M_207 P 16)) then
        D_X8_next_257 P (D_X8_next_207 P n) M_207 N_207
      else
        zB (D_X8_byteAt P M_207 (M_207 P 17)) fun e_247 =>
        zLt (zu M_207 P 20 ((((10 : Int32) * (M_207 P 20)) + e_247) - (48 : Int32))) fun M_254 =>
        D_X8_next_257 P (D_X8_next_207 P n) M_254 N_207
noncomputable def D_X8_next_171 (P : Nat) (y1_171 : Int32) (M_171 : zMt) (N_171 : zNt) : Option (Int32 × zMt × zNt) :=
  zLt (zu M_171 P 18 y1_171) fun M_171 =>
  if (M_171 P 18) = (2 : Int32) then
    zB (D_X8_among P 11 N_171) fun e_186 =>
    zLt (zu M_171 P 19 e_186) fun M_189 =>
    D_X8_next_320 P M_189 N_171
  else
    D_X8_next_320 P M_171 N_171
noncomputable def D_X8_next_138 (P : Nat) (k86 : zMt → zNt → Option (Int32 × zMt × zNt)) (M_138 : zMt) (N_138 : zNt) : Option (Int32 × zMt × zNt) :=
  zLt (zu M_138 P 17 ((M_138 P 17) + (1 : Int32))) fun M_145 =>
  k86 M_145 N_138
noncomputable def D_X8_next_86 (P : Nat) : Nat → zMt → zNt → Option (Int32 × zMt × zNt)
  | 0, _, _ => none
  | n + 1, M_86, N_86 =>
    zB (D_X8_byteAt P M_86 (M_86 P 17)) fun e_91 =>
    zB (D_X8_isLetter e_91) fun e_94 =>
    if e_94 = 0 then
      if ((M_86 P 17) - (M_86 P 16)) ≤ (8 : Int32) then
        D_X8_next_171 P (2 : Int32) M_86 N_86
      else
        D_X8_next_171 P (1 : Int32) M_86 N_86
    else
      if (8 : Int32) ≤ ((M_86 P 17) - (M_86 P 16)) then
        D_X8_next_138 P (D_X8_next_86 P n) M_86 N_86
      else
        zB (D_X8_byteAt P M_86 (M_86 P 17)) fun e_126 =>
        zLt (zu N_86 P 24 (((N_86 P 24) <<< (Int32.toInt64 (5 : Int32) &&& 63)) ||| ((Int32.toInt64 e_126) - (96 : Int64)))) fun N_135 =>
        D_X8_next_138 P (D_X8_next_86 P n) M_86 N_135
noncomputable def D_X8_next_26 (P : Nat) (k0 : zMt → zNt → Option (Int32 × zMt × zNt)) (M_26 : zMt) (N_26 : zNt) : Option (Int32 × zMt × zNt) :=
  zLt (zu M_26 P 17 ((M_26 P 17) + (1 : Int32))) fun M_33 =>
  k0 M_33 N_26
noncomputable def D_X8_next_0 (P : Nat) : Nat → zMt → zNt → Option (Int32 × zMt × zNt)
  | 0, _, _ => none
  | n + 1, M_0, N_0 =>
    zB (D_X8_byteAt P M_0 (M_0 P 17)) fun e_5 =>
    if e_5 = (32 : Int32) then
      D_X8_next_26 P (D_X8_next_0 P n) M_0 N_0
    else
      zB (D_X8_byteAt P M_0 (M_0 P 17)) fun e_18 =>
      if e_18 = (10 : Int32) then
        D_X8_next_26 P (D_X8_next_0 P n) M_0 N_0
      else
        zLt (zu M_0 P 16 (M_0 P 17)) fun M_44 =>
        zLt (zu M_44 P 19 (-1 : Int32)) fun M_49 =>
        zB (D_X8_byteAt P M_49 (M_49 P 17)) fun e_57 =>
        if e_57 = (-1 : Int32) then
          zLt (zu M_49 P 18 (0 : Int32)) fun M_68 =>
          D_X8_next_320 P M_68 N_0
        else
          zB (D_X8_isLetter e_57) fun e_75 =>
          if e_75 = 0 then
            zB (D_X8_isDigit e_57) fun e_196 =>
            if e_196 = 0 then
              zLt (zu M_49 P 17 ((M_49 P 17) + (1 : Int32))) fun M_302 =>
              if e_57 = (59 : Int32) then
                D_X8_next_317 P (4 : Int32) M_302 N_0
              else
                D_X8_next_317 P (1 : Int32) M_302 N_0
            else
              zLt (zu M_49 P 20 (0 : Int32)) fun M_204 =>
              D_X8_next_207 P zFu M_204 N_0
          else
            zLt (zu N_0 P 24 (0 : Int64)) fun N_83 =>
            D_X8_next_86 P zFu M_49 N_83
noncomputable def D_X8_next (P : Nat) (M : zMt) (N : zNt) : Option (Int32 × zMt × zNt) :=
  D_X8_next_0 P zFu M N
set_option maxRecDepth 100000 in
set_option maxHeartbeats 4000000 in
theorem t_X8_next {l : Launch} {G : zG} {b : Nat} {L : List zC} {M : zMt} {N : zNt} {P : Nat}  (hP : LX8 L P) {r : Int32 × zMt × zNt} (h : D_X8_next P M N = some r) : zM l G b yX8_next cX8_next 2 (some .boolean) 5 0 0 [.ref P] (L, M, N) (fun r2 z => r2 = some (.int r.1) ∧ z = (L, r.2.1, r.2.2) ∧ (r.1 = 0 ∨ r.1 = 1)) := by
  refine zM.of miX8_next (Nat.le_of_ble_eq_true rfl) ?_
  intro p e s m args below meth c X hr hname
  generalize hF : ((fun r2 z => r2 = some (.int r.1) ∧ z = (L, r.2.1, r.2.2) ∧ (r.1 = 0 ∨ r.1 = 1)) : Option Value → zS → Prop) = FQ
  change Zw p l e { frames := 5, cells := 0, slots := 0, locals := 80 * (5) } s m args below meth c G b 2 (MQ below (zQ G b FQ) args s 0 0 (fun q : Nat => b ≤ q)) 0 0 0 [some (.ref P), none] [] (L, M, N)
  obtain ⟨p_lt, p_o, p_s, p_read, p_aside, p_kept, p_guest, p_readGuest, p_tape, p_unitName, p_hunterName, p_partyName, p_bits, p_partyOf, p_choiceAt, p_sizes, p_guestMany, p_pointsOf, p_ticketsOf, p_ord, p_given, p_roundOf, p_tags, p_guestTags, p_places, p_sumAt, p_sumFirst, p_sumRound, p_sumBoth, p_sumTags, p_isEnd, p_newPoints, p_inRow, p_out⟩ := id hP
  have J_320 : ∀ (x1_320 : Int32) (M_320 : zMt) (N_320 : zNt), D_X8_next_320 P M_320 N_320 = some r → Zw p l e { frames := 5, cells := 0, slots := 0, locals := 80 * (5) } s m args below meth c G b 2 (MQ below (zQ G b FQ) args s 0 0 (fun q : Nat => b ≤ q)) 0 0 320 [some (.ref (P)), some (.int x1_320)] [] (L, M_320, N_320) := by
    intro x1_320 M_320 N_320 h
    unfold D_X8_next_320 at h
    refine a_iconst (v := 1) X dX8_next_320 (by decide) ?_
    refine a_zret X (by first | exact Or.inl rfl | exact Or.inr rfl | assumption) hr dX8_next_321 ⟨by decide, by decide⟩ ?_
    subst hF
    rw [← Option.some.inj h]
    exact ⟨rfl, rfl, (by first | exact Or.inl rfl | exact Or.inr rfl | assumption)⟩
  have J_317 : ∀ (x1_317 : Int32) (y1_317 : Int32) (M_317 : zMt) (N_317 : zNt), D_X8_next_317 P y1_317 M_317 N_317 = some r → Zw p l e { frames := 5, cells := 0, slots := 0, locals := 80 * (5) } s m args below meth c G b 2 (MQ below (zQ G b FQ) args s 0 0 (fun q : Nat => b ≤ q)) 0 0 317 [some (.ref (P)), some (.int x1_317)] [.int y1_317, .ref (P)] (L, M_317, N_317) := by
    intro x1_317 y1_317 M_317 N_317 h
    unfold D_X8_next_317 at h
    obtain ⟨M_317, f_317, h⟩ := zLtx h
    refine d_puti X lf8_160 (by assumption) rfl dX8_next_317 f_317 ?_
    exact Zw.to2 (J_320 _ _ _ h) rfl rfl rfl
  have J_289 : ∀ (x1_289 : Int32) (y1_289 : Int32) (M_289 : zMt) (N_289 : zNt), D_X8_next_289 P y1_289 M_289 N_289 = some r → Zw p l e { frames := 5, cells := 0, slots := 0, locals := 80 * (5) } s m args below meth c G b 2 (MQ below (zQ G b FQ) args s 0 0 (fun q : Nat => b ≤ q)) 0 0 289 [some (.ref (P)), some (.int x1_289)] [.int y1_289, .ref (P)] (L, M_289, N_289) := by
    intro x1_289 y1_289 M_289 N_289 h
    unfold D_X8_next_289 at h
    obtain ⟨M_289, f_289, h⟩ := zLtx h
    refine d_puti X lf8_160 (by assumption) rfl dX8_next_289 f_289 ?_
    refine a_goto (tgt := 320) X dX8_next_292 (by decide) ?_
    exact Zw.to2 (J_320 _ _ _ h) rfl rfl rfl
  have L_207 : ∀ u : Nat, ∀ (x1_207 : Int32) (M_207 : zMt) (N_207 : zNt), D_X8_next_207 P u M_207 N_207 = some r → Zw p l e { frames := 5, cells := 0, slots := 0, locals := 80 * (5) } s m args below meth c G b 2 (MQ below (zQ G b FQ) args s 0 0 (fun q : Nat => b ≤ q)) 0 0 207 [some (.ref (P)), some (.int x1_207)] [] (L, M_207, N_207) := by
    intro u
    induction u with
    | zero => intro x1_207 M_207 N_207 h; cases (show none = some r from h)
    | succ u_207 ih_207 =>
      have J_257 : ∀ (x1_257 : Int32) (M_257 : zMt) (N_257 : zNt), D_X8_next_257 P (D_X8_next_207 P u_207) M_257 N_257 = some r → Zw p l e { frames := 5, cells := 0, slots := 0, locals := 80 * (5) } s m args below meth c G b 2 (MQ below (zQ G b FQ) args s 0 0 (fun q : Nat => b ≤ q)) 0 0 257 [some (.ref (P)), some (.int x1_257)] [] (L, M_257, N_257) := by
        intro x1_257 M_257 N_257 h
        unfold D_X8_next_257 at h
        refine a_aload_n X dX8_next_257 rfl ?_
        refine a_dup X dX8_next_258 rfl ?_
        refine a_geti X lf8_147 (by assumption) rfl dX8_next_259 ?_
        refine a_iconst (v := 1) X dX8_next_262 (by decide) ?_
        refine a_iadd X dX8_next_263 ?_
        obtain ⟨M_264, f_264, h⟩ := zLtx h
        refine d_puti X lf8_147 (by assumption) rfl dX8_next_264 f_264 ?_
        refine a_goto (tgt := 207) X dX8_next_267 (by decide) ?_
        exact Zw.to2 (ih_207 _ _ _ h) rfl rfl rfl
      intro x1_207 M_207 N_207 h
      rw [D_X8_next_207] at h
      refine a_aload_n X dX8_next_207 rfl ?_
      refine a_aload_n X dX8_next_208 rfl ?_
      refine a_geti X lf8_147 (by assumption) rfl dX8_next_209 ?_
      obtain ⟨e_212, f_212, h⟩ := zBx h
      refine a_callVv X dX8_next_212 miX8_byteAt lm8_150 (t_X8_byteAt (by assumption) f_212) (by assumption) rfl rfl rfl (Nat.le_of_ble_eq_true rfl) ⟨by decide, by decide, by decide, by decide⟩ ?_
      obtain ⟨e_215, f_215, h⟩ := zBx h
      refine a_callSx X dX8_next_215 miX8_isDigit lm8_179 (t_X8_isDigit f_215) rfl rfl (Nat.le_of_ble_eq_true rfl) ⟨by decide, by decide, by decide, by decide⟩ (fun r_215 S_215 q_215 => ?_)
      obtain ⟨rfl, rfl, b_215⟩ := q_215
      refine a_if_eq (tgt := 270) X dX8_next_218 (by decide) (fun h_218 => ?_) (fun h_218 => ?_)
      · replace h := (if_pos h_218).symm.trans h
        refine a_aload_n X dX8_next_270 rfl ?_
        refine a_aload_n X dX8_next_271 rfl ?_
        refine a_geti X lf8_147 (by assumption) rfl dX8_next_272 ?_
        refine a_aload_n X dX8_next_275 rfl ?_
        refine a_geti X lf8_154 (by assumption) rfl dX8_next_276 ?_
        refine a_isub X dX8_next_279 ?_
        refine a_iconst (v := 3) X dX8_next_280 (by decide) ?_
        refine a_icmp_le (tgt := 288) X dX8_next_281 (by decide) (fun h_281 => ?_) (fun h_281 => ?_)
        · replace h := (if_pos h_281).symm.trans h
          refine a_iconst (v := 3) X dX8_next_288 (by decide) ?_
          exact Zw.to2 (J_289 _ _ _ _ h) rfl rfl rfl
        · replace h := (if_neg h_281).symm.trans h
          refine a_iconst (v := 1) X dX8_next_284 (by decide) ?_
          refine a_goto (tgt := 289) X dX8_next_285 (by decide) ?_
          exact Zw.to2 (J_289 _ _ _ _ h) rfl rfl rfl
      · replace h := (if_neg h_218).symm.trans h
        refine a_aload_n X dX8_next_221 rfl ?_
        refine a_geti X lf8_147 (by assumption) rfl dX8_next_222 ?_
        refine a_aload_n X dX8_next_225 rfl ?_
        refine a_geti X lf8_154 (by assumption) rfl dX8_next_226 ?_
        refine a_isub X dX8_next_229 ?_
        refine a_iconst (v := 3) X dX8_next_230 (by decide) ?_
        refine a_icmp_ge (tgt := 257) X dX8_next_231 (by decide) (fun h_231 => ?_) (fun h_231 => ?_)
        · replace h := (if_pos h_231).symm.trans h
          exact Zw.to2 (J_257 _ _ _ h) rfl rfl rfl
        · replace h := (if_neg h_231).symm.trans h
          refine a_aload_n X dX8_next_234 rfl ?_
          refine a_bipush (v := 10) X dX8_next_235 (by decide) ?_
          refine a_aload_n X dX8_next_237 rfl ?_
          refine a_geti X lf8_182 (by assumption) rfl dX8_next_238 ?_
          refine a_imul X dX8_next_241 ?_
          refine a_aload_n X dX8_next_242 rfl ?_
          refine a_aload_n X dX8_next_243 rfl ?_
          refine a_geti X lf8_147 (by assumption) rfl dX8_next_244 ?_
          obtain ⟨e_247, f_247, h⟩ := zBx h
          refine a_callVv X dX8_next_247 miX8_byteAt lm8_150 (t_X8_byteAt (by assumption) f_247) (by assumption) rfl rfl rfl (Nat.le_of_ble_eq_true rfl) ⟨by decide, by decide, by decide, by decide⟩ ?_
          refine a_iadd X dX8_next_250 ?_
          refine a_bipush (v := 48) X dX8_next_251 (by decide) ?_
          refine a_isub X dX8_next_253 ?_
          obtain ⟨M_254, f_254, h⟩ := zLtx h
          refine d_puti X lf8_182 (by assumption) rfl dX8_next_254 f_254 ?_
          exact Zw.to2 (J_257 _ _ _ h) rfl rfl rfl
  have H_207 : ∀ (x1_207 : Int32) (M_207 : zMt) (N_207 : zNt), D_X8_next_207 P zFu M_207 N_207 = some r → Zw p l e { frames := 5, cells := 0, slots := 0, locals := 80 * (5) } s m args below meth c G b 2 (MQ below (zQ G b FQ) args s 0 0 (fun q : Nat => b ≤ q)) 0 0 207 [some (.ref (P)), some (.int x1_207)] [] (L, M_207, N_207) := L_207 zFu
  have J_171 : ∀ (x1_171 : Int32) (y1_171 : Int32) (M_171 : zMt) (N_171 : zNt), D_X8_next_171 P y1_171 M_171 N_171 = some r → Zw p l e { frames := 5, cells := 0, slots := 0, locals := 80 * (5) } s m args below meth c G b 2 (MQ below (zQ G b FQ) args s 0 0 (fun q : Nat => b ≤ q)) 0 0 171 [some (.ref (P)), some (.int x1_171)] [.int y1_171, .ref (P)] (L, M_171, N_171) := by
    intro x1_171 y1_171 M_171 N_171 h
    unfold D_X8_next_171 at h
    obtain ⟨M_171, f_171, h⟩ := zLtx h
    refine d_puti X lf8_160 (by assumption) rfl dX8_next_171 f_171 ?_
    refine a_aload_n X dX8_next_174 rfl ?_
    refine a_geti X lf8_160 (by assumption) rfl dX8_next_175 ?_
    refine a_iconst (v := 2) X dX8_next_178 (by decide) ?_
    refine a_icmp_ne (tgt := 320) X dX8_next_179 (by decide) (fun h_179 => ?_) (fun h_179 => ?_)
    · replace h := (if_neg h_179).symm.trans h
      exact Zw.to2 (J_320 _ _ _ h) rfl rfl rfl
    · replace h := (if_pos h_179).symm.trans h
      refine a_aload_n X dX8_next_182 rfl ?_
      refine a_aload_n X dX8_next_183 rfl ?_
      refine a_ldcS (i := 11) (q := ("TagDrawModel", 173, "unit hunter guest party asks law prefer guests ")) X rfl rfl rfl dX8_next_184 ?_
      obtain ⟨e_186, f_186, h⟩ := zBx h
      refine a_callVv X dX8_next_186 miX8_among lm8_175 (t_X8_among (by assumption) (by first | assumption | decide) f_186) (by assumption) rfl rfl rfl (Nat.le_of_ble_eq_true rfl) ⟨by decide, by decide, by decide, by decide⟩ ?_
      obtain ⟨M_189, f_189, h⟩ := zLtx h
      refine d_puti X lf8_157 (by assumption) rfl dX8_next_189 f_189 ?_
      refine a_goto (tgt := 320) X dX8_next_192 (by decide) ?_
      exact Zw.to2 (J_320 _ _ _ h) rfl rfl rfl
  have L_86 : ∀ u : Nat, ∀ (x1_86 : Int32) (M_86 : zMt) (N_86 : zNt), D_X8_next_86 P u M_86 N_86 = some r → Zw p l e { frames := 5, cells := 0, slots := 0, locals := 80 * (5) } s m args below meth c G b 2 (MQ below (zQ G b FQ) args s 0 0 (fun q : Nat => b ≤ q)) 0 0 86 [some (.ref (P)), some (.int x1_86)] [] (L, M_86, N_86) := by
    intro u
    induction u with
    | zero => intro x1_86 M_86 N_86 h; cases (show none = some r from h)
    | succ u_86 ih_86 =>
      have J_138 : ∀ (x1_138 : Int32) (M_138 : zMt) (N_138 : zNt), D_X8_next_138 P (D_X8_next_86 P u_86) M_138 N_138 = some r → Zw p l e { frames := 5, cells := 0, slots := 0, locals := 80 * (5) } s m args below meth c G b 2 (MQ below (zQ G b FQ) args s 0 0 (fun q : Nat => b ≤ q)) 0 0 138 [some (.ref (P)), some (.int x1_138)] [] (L, M_138, N_138) := by
        intro x1_138 M_138 N_138 h
        unfold D_X8_next_138 at h
        refine a_aload_n X dX8_next_138 rfl ?_
        refine a_dup X dX8_next_139 rfl ?_
        refine a_geti X lf8_147 (by assumption) rfl dX8_next_140 ?_
        refine a_iconst (v := 1) X dX8_next_143 (by decide) ?_
        refine a_iadd X dX8_next_144 ?_
        obtain ⟨M_145, f_145, h⟩ := zLtx h
        refine d_puti X lf8_147 (by assumption) rfl dX8_next_145 f_145 ?_
        refine a_goto (tgt := 86) X dX8_next_148 (by decide) ?_
        exact Zw.to2 (ih_86 _ _ _ h) rfl rfl rfl
      intro x1_86 M_86 N_86 h
      rw [D_X8_next_86] at h
      refine a_aload_n X dX8_next_86 rfl ?_
      refine a_aload_n X dX8_next_87 rfl ?_
      refine a_geti X lf8_147 (by assumption) rfl dX8_next_88 ?_
      obtain ⟨e_91, f_91, h⟩ := zBx h
      refine a_callVv X dX8_next_91 miX8_byteAt lm8_150 (t_X8_byteAt (by assumption) f_91) (by assumption) rfl rfl rfl (Nat.le_of_ble_eq_true rfl) ⟨by decide, by decide, by decide, by decide⟩ ?_
      obtain ⟨e_94, f_94, h⟩ := zBx h
      refine a_callSx X dX8_next_94 miX8_isLetter lm8_163 (t_X8_isLetter f_94) rfl rfl (Nat.le_of_ble_eq_true rfl) ⟨by decide, by decide, by decide, by decide⟩ (fun r_94 S_94 q_94 => ?_)
      obtain ⟨rfl, rfl, b_94⟩ := q_94
      refine a_if_eq (tgt := 151) X dX8_next_97 (by decide) (fun h_97 => ?_) (fun h_97 => ?_)
      · replace h := (if_pos h_97).symm.trans h
        refine a_aload_n X dX8_next_151 rfl ?_
        refine a_aload_n X dX8_next_152 rfl ?_
        refine a_geti X lf8_147 (by assumption) rfl dX8_next_153 ?_
        refine a_aload_n X dX8_next_156 rfl ?_
        refine a_geti X lf8_154 (by assumption) rfl dX8_next_157 ?_
        refine a_isub X dX8_next_160 ?_
        refine a_bipush (v := 8) X dX8_next_161 (by decide) ?_
        refine a_icmp_le (tgt := 170) X dX8_next_163 (by decide) (fun h_163 => ?_) (fun h_163 => ?_)
        · replace h := (if_pos h_163).symm.trans h
          refine a_iconst (v := 2) X dX8_next_170 (by decide) ?_
          exact Zw.to2 (J_171 _ _ _ _ h) rfl rfl rfl
        · replace h := (if_neg h_163).symm.trans h
          refine a_iconst (v := 1) X dX8_next_166 (by decide) ?_
          refine a_goto (tgt := 171) X dX8_next_167 (by decide) ?_
          exact Zw.to2 (J_171 _ _ _ _ h) rfl rfl rfl
      · replace h := (if_neg h_97).symm.trans h
        refine a_aload_n X dX8_next_100 rfl ?_
        refine a_geti X lf8_147 (by assumption) rfl dX8_next_101 ?_
        refine a_aload_n X dX8_next_104 rfl ?_
        refine a_geti X lf8_154 (by assumption) rfl dX8_next_105 ?_
        refine a_isub X dX8_next_108 ?_
        refine a_bipush (v := 8) X dX8_next_109 (by decide) ?_
        refine a_icmp_ge (tgt := 138) X dX8_next_111 (by decide) (fun h_111 => ?_) (fun h_111 => ?_)
        · replace h := (if_pos h_111).symm.trans h
          exact Zw.to2 (J_138 _ _ _ h) rfl rfl rfl
        · replace h := (if_neg h_111).symm.trans h
          refine a_aload_n X dX8_next_114 rfl ?_
          refine a_aload_n X dX8_next_115 rfl ?_
          refine a_getl X lf8_167 (by assumption) rfl dX8_next_116 ?_
          refine a_iconst (v := 5) X dX8_next_119 (by decide) ?_
          refine a_lshl X dX8_next_120 ?_
          refine a_aload_n X dX8_next_121 rfl ?_
          refine a_aload_n X dX8_next_122 rfl ?_
          refine a_geti X lf8_147 (by assumption) rfl dX8_next_123 ?_
          obtain ⟨e_126, f_126, h⟩ := zBx h
          refine a_callVv X dX8_next_126 miX8_byteAt lm8_150 (t_X8_byteAt (by assumption) f_126) (by assumption) rfl rfl rfl (Nat.le_of_ble_eq_true rfl) ⟨by decide, by decide, by decide, by decide⟩ ?_
          refine a_i2l X dX8_next_129 ?_
          refine a_ldc2 X dX8_next_130 lk8_171 ?_
          refine a_lsub X dX8_next_133 ?_
          refine a_lor X dX8_next_134 ?_
          obtain ⟨N_135, f_135, h⟩ := zLtx h
          refine d_putl X lf8_167 (by assumption) rfl dX8_next_135 f_135 ?_
          exact Zw.to2 (J_138 _ _ _ h) rfl rfl rfl
  have H_86 : ∀ (x1_86 : Int32) (M_86 : zMt) (N_86 : zNt), D_X8_next_86 P zFu M_86 N_86 = some r → Zw p l e { frames := 5, cells := 0, slots := 0, locals := 80 * (5) } s m args below meth c G b 2 (MQ below (zQ G b FQ) args s 0 0 (fun q : Nat => b ≤ q)) 0 0 86 [some (.ref (P)), some (.int x1_86)] [] (L, M_86, N_86) := L_86 zFu
  have L_0 : ∀ u : Nat, ∀ (x1_0 : Option Value) (M_0 : zMt) (N_0 : zNt), D_X8_next_0 P u M_0 N_0 = some r → Zw p l e { frames := 5, cells := 0, slots := 0, locals := 80 * (5) } s m args below meth c G b 2 (MQ below (zQ G b FQ) args s 0 0 (fun q : Nat => b ≤ q)) 0 0 0 [some (.ref (P)), x1_0] [] (L, M_0, N_0) := by
    intro u
    induction u with
    | zero => intro x1_0 M_0 N_0 h; cases (show none = some r from h)
    | succ u_0 ih_0 =>
      have J_26 : ∀ (x1_26 : Option Value) (M_26 : zMt) (N_26 : zNt), D_X8_next_26 P (D_X8_next_0 P u_0) M_26 N_26 = some r → Zw p l e { frames := 5, cells := 0, slots := 0, locals := 80 * (5) } s m args below meth c G b 2 (MQ below (zQ G b FQ) args s 0 0 (fun q : Nat => b ≤ q)) 0 0 26 [some (.ref (P)), x1_26] [] (L, M_26, N_26) := by
        intro x1_26 M_26 N_26 h
        unfold D_X8_next_26 at h
        refine a_aload_n X dX8_next_26 rfl ?_
        refine a_dup X dX8_next_27 rfl ?_
        refine a_geti X lf8_147 (by assumption) rfl dX8_next_28 ?_
        refine a_iconst (v := 1) X dX8_next_31 (by decide) ?_
        refine a_iadd X dX8_next_32 ?_
        obtain ⟨M_33, f_33, h⟩ := zLtx h
        refine d_puti X lf8_147 (by assumption) rfl dX8_next_33 f_33 ?_
        refine a_goto (tgt := 0) X dX8_next_36 (by decide) ?_
        exact Zw.to2 (ih_0 _ _ _ h) rfl rfl rfl
      intro x1_0 M_0 N_0 h
      rw [D_X8_next_0] at h
      refine a_aload_n X dX8_next_0 rfl ?_
      refine a_aload_n X dX8_next_1 rfl ?_
      refine a_geti X lf8_147 (by assumption) rfl dX8_next_2 ?_
      obtain ⟨e_5, f_5, h⟩ := zBx h
      refine a_callVv X dX8_next_5 miX8_byteAt lm8_150 (t_X8_byteAt (by assumption) f_5) (by assumption) rfl rfl rfl (Nat.le_of_ble_eq_true rfl) ⟨by decide, by decide, by decide, by decide⟩ ?_
      refine a_bipush (v := 32) X dX8_next_8 (by decide) ?_
      refine a_icmp_eq (tgt := 26) X dX8_next_10 (by decide) (fun h_10 => ?_) (fun h_10 => ?_)
      · replace h := (if_pos h_10).symm.trans h
        exact Zw.to2 (J_26 _ _ _ h) rfl rfl rfl
      · replace h := (if_neg h_10).symm.trans h
        refine a_aload_n X dX8_next_13 rfl ?_
        refine a_aload_n X dX8_next_14 rfl ?_
        refine a_geti X lf8_147 (by assumption) rfl dX8_next_15 ?_
        obtain ⟨e_18, f_18, h⟩ := zBx h
        refine a_callVv X dX8_next_18 miX8_byteAt lm8_150 (t_X8_byteAt (by assumption) f_18) (by assumption) rfl rfl rfl (Nat.le_of_ble_eq_true rfl) ⟨by decide, by decide, by decide, by decide⟩ ?_
        refine a_bipush (v := 10) X dX8_next_21 (by decide) ?_
        refine a_icmp_ne (tgt := 39) X dX8_next_23 (by decide) (fun h_23 => ?_) (fun h_23 => ?_)
        · replace h := (if_neg h_23).symm.trans h
          refine a_aload_n X dX8_next_39 rfl ?_
          refine a_aload_n X dX8_next_40 rfl ?_
          refine a_geti X lf8_147 (by assumption) rfl dX8_next_41 ?_
          obtain ⟨M_44, f_44, h⟩ := zLtx h
          refine d_puti X lf8_154 (by assumption) rfl dX8_next_44 f_44 ?_
          refine a_aload_n X dX8_next_47 rfl ?_
          refine a_iconst (v := -1) X dX8_next_48 (by decide) ?_
          obtain ⟨M_49, f_49, h⟩ := zLtx h
          refine d_puti X lf8_157 (by assumption) rfl dX8_next_49 f_49 ?_
          refine a_aload_n X dX8_next_52 rfl ?_
          refine a_aload_n X dX8_next_53 rfl ?_
          refine a_geti X lf8_147 (by assumption) rfl dX8_next_54 ?_
          obtain ⟨e_57, f_57, h⟩ := zBx h
          refine a_callVv X dX8_next_57 miX8_byteAt lm8_150 (t_X8_byteAt (by assumption) f_57) (by assumption) rfl rfl rfl (Nat.le_of_ble_eq_true rfl) ⟨by decide, by decide, by decide, by decide⟩ ?_
          refine a_istore_n X dX8_next_60 (by decide) ?_
          refine a_iload_n X dX8_next_61 rfl ?_
          refine a_iconst (v := -1) X dX8_next_62 (by decide) ?_
          refine a_icmp_ne (tgt := 74) X dX8_next_63 (by decide) (fun h_63 => ?_) (fun h_63 => ?_)
          · replace h := (if_neg h_63).symm.trans h
            refine a_iload_n X dX8_next_74 rfl ?_
            obtain ⟨e_75, f_75, h⟩ := zBx h
            refine a_callSx X dX8_next_75 miX8_isLetter lm8_163 (t_X8_isLetter f_75) rfl rfl (Nat.le_of_ble_eq_true rfl) ⟨by decide, by decide, by decide, by decide⟩ (fun r_75 S_75 q_75 => ?_)
            obtain ⟨rfl, rfl, b_75⟩ := q_75
            refine a_if_eq (tgt := 195) X dX8_next_78 (by decide) (fun h_78 => ?_) (fun h_78 => ?_)
            · replace h := (if_pos h_78).symm.trans h
              refine a_iload_n X dX8_next_195 rfl ?_
              obtain ⟨e_196, f_196, h⟩ := zBx h
              refine a_callSx X dX8_next_196 miX8_isDigit lm8_179 (t_X8_isDigit f_196) rfl rfl (Nat.le_of_ble_eq_true rfl) ⟨by decide, by decide, by decide, by decide⟩ (fun r_196 S_196 q_196 => ?_)
              obtain ⟨rfl, rfl, b_196⟩ := q_196
              refine a_if_eq (tgt := 295) X dX8_next_199 (by decide) (fun h_199 => ?_) (fun h_199 => ?_)
              · replace h := (if_pos h_199).symm.trans h
                refine a_aload_n X dX8_next_295 rfl ?_
                refine a_dup X dX8_next_296 rfl ?_
                refine a_geti X lf8_147 (by assumption) rfl dX8_next_297 ?_
                refine a_iconst (v := 1) X dX8_next_300 (by decide) ?_
                refine a_iadd X dX8_next_301 ?_
                obtain ⟨M_302, f_302, h⟩ := zLtx h
                refine d_puti X lf8_147 (by assumption) rfl dX8_next_302 f_302 ?_
                refine a_aload_n X dX8_next_305 rfl ?_
                refine a_iload_n X dX8_next_306 rfl ?_
                refine a_bipush (v := 59) X dX8_next_307 (by decide) ?_
                refine a_icmp_ne (tgt := 316) X dX8_next_309 (by decide) (fun h_309 => ?_) (fun h_309 => ?_)
                · replace h := (if_neg h_309).symm.trans h
                  refine a_iconst (v := 1) X dX8_next_316 (by decide) ?_
                  exact Zw.to2 (J_317 _ _ _ _ h) rfl rfl rfl
                · replace h := (if_pos h_309).symm.trans h
                  refine a_iconst (v := 4) X dX8_next_312 (by decide) ?_
                  refine a_goto (tgt := 317) X dX8_next_313 (by decide) ?_
                  exact Zw.to2 (J_317 _ _ _ _ h) rfl rfl rfl
              · replace h := (if_neg h_199).symm.trans h
                refine a_aload_n X dX8_next_202 rfl ?_
                refine a_iconst (v := 0) X dX8_next_203 (by decide) ?_
                obtain ⟨M_204, f_204, h⟩ := zLtx h
                refine d_puti X lf8_182 (by assumption) rfl dX8_next_204 f_204 ?_
                exact Zw.to2 (H_207 _ _ _ h) rfl rfl rfl
            · replace h := (if_neg h_78).symm.trans h
              refine a_aload_n X dX8_next_81 rfl ?_
              refine a_lconst (v := 0) X dX8_next_82 (by decide) ?_
              obtain ⟨N_83, f_83, h⟩ := zLtx h
              refine d_putl X lf8_167 (by assumption) rfl dX8_next_83 f_83 ?_
              exact Zw.to2 (H_86 _ _ _ h) rfl rfl rfl
          · replace h := (if_pos h_63).symm.trans h
            refine a_aload_n X dX8_next_66 rfl ?_
            refine a_iconst (v := 0) X dX8_next_67 (by decide) ?_
            obtain ⟨M_68, f_68, h⟩ := zLtx h
            refine d_puti X lf8_160 (by assumption) rfl dX8_next_68 f_68 ?_
            refine a_goto (tgt := 320) X dX8_next_71 (by decide) ?_
            exact Zw.to2 (J_320 _ _ _ h) rfl rfl rfl
        · replace h := (if_pos h_23).symm.trans h
          exact Zw.to2 (J_26 _ _ _ h) rfl rfl rfl
  have H_0 : ∀ (x1_0 : Option Value) (M_0 : zMt) (N_0 : zNt), D_X8_next_0 P zFu M_0 N_0 = some r → Zw p l e { frames := 5, cells := 0, slots := 0, locals := 80 * (5) } s m args below meth c G b 2 (MQ below (zQ G b FQ) args s 0 0 (fun q : Nat => b ≤ q)) 0 0 0 [some (.ref (P)), x1_0] [] (L, M_0, N_0) := L_0 zFu
  unfold D_X8_next at h
  exact Zw.to2 (H_0 _ _ _ h) rfl rfl rfl
noncomputable def D_X8_bad_14 (P : Nat) (y1_14 : Int32) (M_14 : zMt) : Option (Int32 × zMt) :=
  zLt (zu M_14 P 21 y1_14) fun M_14 =>
  zLt (zu M_14 P 22 (M_14 P 16)) fun M_22 =>
  some ((0 : Int32), M_22)
noncomputable def D_X8_bad (P : Nat) (v0 : Int32) (M : zMt) : Option (Int32 × zMt) :=
  if (M P 18) = (1 : Int32) then
    D_X8_bad_14 P (1 : Int32) M
  else
    D_X8_bad_14 P v0 M
set_option maxRecDepth 100000 in
set_option maxHeartbeats 4000000 in
theorem t_X8_bad {l : Launch} {G : zG} {b : Nat} {L : List zC} {M : zMt} {N : zNt} {P : Nat} {v0 : Int32} (hP : LX8 L P) {r : Int32 × zMt} (h : D_X8_bad P v0 M = some r) : zM l G b yX8_bad cX8_bad 2 (some .boolean) 0 0 0 [.ref P, .int v0] (L, M, N) (fun r2 z => r2 = some (.int r.1) ∧ z = (L, r.2, N) ∧ (r.1 = 0 ∨ r.1 = 1)) := by
  refine zM.of miX8_bad (Nat.le_of_ble_eq_true rfl) ?_
  intro p e s m args below meth c X hr hname
  generalize hF : ((fun r2 z => r2 = some (.int r.1) ∧ z = (L, r.2, N) ∧ (r.1 = 0 ∨ r.1 = 1)) : Option Value → zS → Prop) = FQ
  change Zw p l e { frames := 0, cells := 0, slots := 0, locals := 80 * (0) } s m args below meth c G b 2 (MQ below (zQ G b FQ) args s 0 0 (fun q : Nat => b ≤ q)) 0 0 0 [some (.ref P), some (.int v0)] [] (L, M, N)
  obtain ⟨p_lt, p_o, p_s, p_read, p_aside, p_kept, p_guest, p_readGuest, p_tape, p_unitName, p_hunterName, p_partyName, p_bits, p_partyOf, p_choiceAt, p_sizes, p_guestMany, p_pointsOf, p_ticketsOf, p_ord, p_given, p_roundOf, p_tags, p_guestTags, p_places, p_sumAt, p_sumFirst, p_sumRound, p_sumBoth, p_sumTags, p_isEnd, p_newPoints, p_inRow, p_out⟩ := id hP
  have J_14 : ∀ (x1_14 : Int32) (y1_14 : Int32) (M_14 : zMt), D_X8_bad_14 P y1_14 M_14 = some r → Zw p l e { frames := 0, cells := 0, slots := 0, locals := 80 * (0) } s m args below meth c G b 2 (MQ below (zQ G b FQ) args s 0 0 (fun q : Nat => b ≤ q)) 0 0 14 [some (.ref (P)), some (.int x1_14)] [.int y1_14, .ref (P)] (L, M_14, N) := by
    intro x1_14 y1_14 M_14 h
    unfold D_X8_bad_14 at h
    obtain ⟨M_14, f_14, h⟩ := zLtx h
    refine d_puti X lf8_195 (by assumption) rfl dX8_bad_14 f_14 ?_
    refine a_aload_n X dX8_bad_17 rfl ?_
    refine a_aload_n X dX8_bad_18 rfl ?_
    refine a_geti X lf8_154 (by assumption) rfl dX8_bad_19 ?_
    obtain ⟨M_22, f_22, h⟩ := zLtx h
    refine d_puti X lf8_198 (by assumption) rfl dX8_bad_22 f_22 ?_
    refine a_iconst (v := 0) X dX8_bad_25 (by decide) ?_
    refine a_zret X (by first | exact Or.inl rfl | exact Or.inr rfl | assumption) hr dX8_bad_26 ⟨by decide, by decide⟩ ?_
    subst hF
    rw [← Option.some.inj h]
    exact ⟨rfl, rfl, (by first | exact Or.inl rfl | exact Or.inr rfl | assumption)⟩
  unfold D_X8_bad at h
  refine a_aload_n X dX8_bad_0 rfl ?_
  refine a_aload_n X dX8_bad_1 rfl ?_
  refine a_geti X lf8_160 (by assumption) rfl dX8_bad_2 ?_
  refine a_iconst (v := 1) X dX8_bad_5 (by decide) ?_
  refine a_icmp_ne (tgt := 13) X dX8_bad_6 (by decide) (fun h_6 => ?_) (fun h_6 => ?_)
  · replace h := (if_neg h_6).symm.trans h
    refine a_iload_n X dX8_bad_13 rfl ?_
    exact Zw.to2 (J_14 _ _ _ h) rfl rfl rfl
  · replace h := (if_pos h_6).symm.trans h
    refine a_iconst (v := 1) X dX8_bad_9 (by decide) ?_
    refine a_goto (tgt := 14) X dX8_bad_10 (by decide) ?_
    exact Zw.to2 (J_14 _ _ _ h) rfl rfl rfl
noncomputable def D_X8_isName_21 (P : Nat) (M : zMt) (y0_21 : Int32) : Option (Int32) :=
  some (y0_21)
noncomputable def D_X8_isName_20 (P : Nat) (M : zMt)  : Option (Int32) :=
  D_X8_isName_21 P M (0 : Int32)
noncomputable def D_X8_isName (P : Nat) (M : zMt)  : Option (Int32) :=
  if (M P 18) = (2 : Int32) then
    if (M P 19) = (-1 : Int32) then
      D_X8_isName_21 P M (1 : Int32)
    else
      D_X8_isName_20 P M
  else
    D_X8_isName_20 P M
set_option maxRecDepth 100000 in
set_option maxHeartbeats 4000000 in
theorem t_X8_isName {l : Launch} {G : zG} {b : Nat} {L : List zC} {M : zMt} {N : zNt} {P : Nat}  (hP : LX8 L P) {r : Int32} (h : D_X8_isName P M = some r) : zM l G b yX8_isName cX8_isName 1 (some .boolean) 0 0 0 [.ref P] (L, M, N) (fun r2 z => r2 = some (.int r) ∧ z = (L, M, N) ∧ (r = 0 ∨ r = 1)) := by
  refine zM.of miX8_isName (Nat.le_of_ble_eq_true rfl) ?_
  intro p e s m args below meth c X hr hname
  generalize hF : ((fun r2 z => r2 = some (.int r) ∧ z = (L, M, N) ∧ (r = 0 ∨ r = 1)) : Option Value → zS → Prop) = FQ
  change Zw p l e { frames := 0, cells := 0, slots := 0, locals := 80 * (0) } s m args below meth c G b 1 (MQ below (zQ G b FQ) args s 0 0 (fun q : Nat => b ≤ q)) 0 0 0 [some (.ref P)] [] (L, M, N)
  obtain ⟨p_lt, p_o, p_s, p_read, p_aside, p_kept, p_guest, p_readGuest, p_tape, p_unitName, p_hunterName, p_partyName, p_bits, p_partyOf, p_choiceAt, p_sizes, p_guestMany, p_pointsOf, p_ticketsOf, p_ord, p_given, p_roundOf, p_tags, p_guestTags, p_places, p_sumAt, p_sumFirst, p_sumRound, p_sumBoth, p_sumTags, p_isEnd, p_newPoints, p_inRow, p_out⟩ := id hP
  have J_21 : ∀ (y0_21 : Int32), (y0_21 = 0 ∨ y0_21 = 1) → D_X8_isName_21 P M y0_21 = some r → Zw p l e { frames := 0, cells := 0, slots := 0, locals := 80 * (0) } s m args below meth c G b 1 (MQ below (zQ G b FQ) args s 0 0 (fun q : Nat => b ≤ q)) 0 0 21 [some (.ref (P))] [.int y0_21] (L, M, N) := by
    intro y0_21 fb_y0_21 h
    unfold D_X8_isName_21 at h
    refine a_zret X (by first | exact Or.inl rfl | exact Or.inr rfl | assumption) hr dX8_isName_21 ⟨by decide, by decide⟩ ?_
    subst hF
    rw [← Option.some.inj h]
    exact ⟨rfl, rfl, (by first | exact Or.inl rfl | exact Or.inr rfl | assumption)⟩
  have J_20 : D_X8_isName_20 P M = some r → Zw p l e { frames := 0, cells := 0, slots := 0, locals := 80 * (0) } s m args below meth c G b 1 (MQ below (zQ G b FQ) args s 0 0 (fun q : Nat => b ≤ q)) 0 0 20 [some (.ref (P))] [] (L, M, N) := by
    intro h
    unfold D_X8_isName_20 at h
    refine a_iconst (v := 0) X dX8_isName_20 (by decide) ?_
    exact Zw.to2 (J_21 _ (by first | exact Or.inl rfl | exact Or.inr rfl | assumption) h) rfl rfl rfl
  unfold D_X8_isName at h
  refine a_aload_n X dX8_isName_0 rfl ?_
  refine a_geti X lf8_160 (by assumption) rfl dX8_isName_1 ?_
  refine a_iconst (v := 2) X dX8_isName_4 (by decide) ?_
  refine a_icmp_ne (tgt := 20) X dX8_isName_5 (by decide) (fun h_5 => ?_) (fun h_5 => ?_)
  · replace h := (if_neg h_5).symm.trans h
    exact Zw.to2 (J_20 h) rfl rfl rfl
  · replace h := (if_pos h_5).symm.trans h
    refine a_aload_n X dX8_isName_8 rfl ?_
    refine a_geti X lf8_157 (by assumption) rfl dX8_isName_9 ?_
    refine a_iconst (v := -1) X dX8_isName_12 (by decide) ?_
    refine a_icmp_ne (tgt := 20) X dX8_isName_13 (by decide) (fun h_13 => ?_) (fun h_13 => ?_)
    · replace h := (if_neg h_13).symm.trans h
      exact Zw.to2 (J_20 h) rfl rfl rfl
    · replace h := (if_pos h_13).symm.trans h
      refine a_iconst (v := 1) X dX8_isName_16 (by decide) ?_
      refine a_goto (tgt := 21) X dX8_isName_17 (by decide) ?_
      exact Zw.to2 (J_21 _ (by first | exact Or.inl rfl | exact Or.inr rfl | assumption) h) rfl rfl rfl
noncomputable def D_X8_found_3 (Q : Nat) (nQ : Nat) (N : zNt) : Nat → Int32 → Int64 → Int32 → Option (Int32)
  | 0, _, _, _ => none
  | n + 1, x1_3, x2_3, x4_3 =>
    if x1_3 ≤ x4_3 then
      some ((-1 : Int32))
    else
      zI x4_3 nQ <|
      if (lg_cmp (N Q x4_3.toNatClampNeg) x2_3) = 0 then
        some (x4_3)
      else
        (D_X8_found_3 Q nQ N n) x1_3 x2_3 (x4_3 + 1)
noncomputable def D_X8_found (Q : Nat) (nQ : Nat) (N : zNt) (v0 : Int32) (v1 : Int64) : Option (Int32) :=
  D_X8_found_3 Q nQ N zFu v0 v1 (0 : Int32)
set_option maxRecDepth 100000 in
set_option maxHeartbeats 4000000 in
theorem t_X8_found {l : Launch} {G : zG} {b : Nat} {L : List zC} {M : zMt} {N : zNt} {Q : Nat} {nQ : Nat} {v0 : Int32} {v1 : Int64} (hQ : L[Q]? = some (3, nQ, [])) (lQ : nQ < 2 ^ 31) {r : Int32} (h : D_X8_found Q nQ N v0 v1 = some r) : zM l G b yX8_found cX8_found 5 (some .int) 0 0 0 [.ref Q, .int v0, .long v1] (L, M, N) (fun r2 z => r2 = some (.int r) ∧ z = (L, M, N)) := by
  refine zM.of miX8_found (Nat.le_of_ble_eq_true rfl) ?_
  intro p e s m args below meth c X hr hname
  generalize hF : ((fun r2 z => r2 = some (.int r) ∧ z = (L, M, N)) : Option Value → zS → Prop) = FQ
  change Zw p l e { frames := 0, cells := 0, slots := 0, locals := 80 * (0) } s m args below meth c G b 5 (MQ below (zQ G b FQ) args s 0 0 (fun q : Nat => b ≤ q)) 0 0 0 [some (.ref Q), some (.int v0), some (.long v1), none, none] [] (L, M, N)
  have L_3 : ∀ u : Nat, ∀ (x1_3 : Int32) (x2_3 : Int64) (x4_3 : Int32), D_X8_found_3 Q nQ N u x1_3 x2_3 x4_3 = some r → Zw p l e { frames := 0, cells := 0, slots := 0, locals := 80 * (0) } s m args below meth c G b 5 (MQ below (zQ G b FQ) args s 0 0 (fun q : Nat => b ≤ q)) 0 0 3 [some (.ref (Q)), some (.int x1_3), some (.long x2_3), none, some (.int x4_3)] [] (L, M, N) := by
    intro u
    induction u with
    | zero => intro x1_3 x2_3 x4_3 h; cases (show none = some r from h)
    | succ u_3 ih_3 =>
      intro x1_3 x2_3 x4_3 h
      rw [D_X8_found_3] at h
      refine a_iload X dX8_found_3 rfl ?_
      refine a_iload_n X dX8_found_5 rfl ?_
      refine a_icmp_ge (tgt := 27) X dX8_found_6 (by decide) (fun h_6 => ?_) (fun h_6 => ?_)
      · replace h := (if_pos h_6).symm.trans h
        refine a_iconst (v := -1) X dX8_found_27 (by decide) ?_
        refine a_iret X hr dX8_found_28 ⟨by decide, by decide⟩ ?_
        subst hF
        rw [← Option.some.inj h]
        exact ⟨rfl, rfl⟩
      · replace h := (if_neg h_6).symm.trans h
        refine a_aload_n X dX8_found_9 rfl ?_
        refine a_iload X dX8_found_10 rfl ?_
        obtain ⟨g_12, h⟩ := zIx h
        refine a_laload X (by assumption) g_12 dX8_found_12 ?_
        refine a_lload_n X dX8_found_13 rfl ?_
        refine a_lcmp X dX8_found_14 ?_
        refine a_if_ne (tgt := 21) X dX8_found_15 (by decide) (fun h_15 => ?_) (fun h_15 => ?_)
        · replace h := (if_neg h_15).symm.trans h
          refine a_iinc (v := x4_3 + 1) X dX8_found_21 (by decide) rfl zi_1 ?_
          refine a_goto (tgt := 3) X dX8_found_24 (by decide) ?_
          exact Zw.to2 (ih_3 _ _ _ h) rfl rfl rfl
        · replace h := (if_pos h_15).symm.trans h
          refine a_iload X dX8_found_18 rfl ?_
          refine a_iret X hr dX8_found_20 ⟨by decide, by decide⟩ ?_
          subst hF
          rw [← Option.some.inj h]
          exact ⟨rfl, rfl⟩
  have H_3 : ∀ (x1_3 : Int32) (x2_3 : Int64) (x4_3 : Int32), D_X8_found_3 Q nQ N zFu x1_3 x2_3 x4_3 = some r → Zw p l e { frames := 0, cells := 0, slots := 0, locals := 80 * (0) } s m args below meth c G b 5 (MQ below (zQ G b FQ) args s 0 0 (fun q : Nat => b ≤ q)) 0 0 3 [some (.ref (Q)), some (.int x1_3), some (.long x2_3), none, some (.int x4_3)] [] (L, M, N) := L_3 zFu
  unfold D_X8_found at h
  refine a_iconst (v := 0) X dX8_found_0 (by decide) ?_
  refine a_istore X dX8_found_1 (by decide) ?_
  exact Zw.to2 (H_3 _ _ _ h) rfl rfl rfl
noncomputable def D_X8_isTaken_62 (P : Nat) (M : zMt) (N : zNt) (y0_62 : Int32) : Option (Int32) :=
  some (y0_62)
noncomputable def D_X8_isTaken_57 (P : Nat) (M : zMt) (N : zNt)  : Option (Int32) :=
  D_X8_isTaken_62 P M N (1 : Int32)
noncomputable def D_X8_isTaken (P : Nat) (M : zMt) (N : zNt)  : Option (Int32) :=
  zB (D_X8_found (P + 8) 5 N (M P 28) (N P 24)) fun e_12 =>
  if e_12 = (-1 : Int32) then
    zB (D_X8_found (P + 9) 10 N (M P 29) (N P 24)) fun e_31 =>
    if e_31 = (-1 : Int32) then
      zB (D_X8_found (P + 10) 4 N (M P 30) (N P 24)) fun e_50 =>
      if e_50 = (-1 : Int32) then
        D_X8_isTaken_62 P M N (0 : Int32)
      else
        D_X8_isTaken_57 P M N
    else
      D_X8_isTaken_57 P M N
  else
    D_X8_isTaken_57 P M N
set_option maxRecDepth 100000 in
set_option maxHeartbeats 4000000 in
theorem t_X8_isTaken {l : Launch} {G : zG} {b : Nat} {L : List zC} {M : zMt} {N : zNt} {P : Nat}  (hP : LX8 L P) {r : Int32} (h : D_X8_isTaken P M N = some r) : zM l G b yX8_isTaken cX8_isTaken 1 (some .boolean) 1 0 0 [.ref P] (L, M, N) (fun r2 z => r2 = some (.int r) ∧ z = (L, M, N) ∧ (r = 0 ∨ r = 1)) := by
  refine zM.of miX8_isTaken (Nat.le_of_ble_eq_true rfl) ?_
  intro p e s m args below meth c X hr hname
  generalize hF : ((fun r2 z => r2 = some (.int r) ∧ z = (L, M, N) ∧ (r = 0 ∨ r = 1)) : Option Value → zS → Prop) = FQ
  change Zw p l e { frames := 1, cells := 0, slots := 0, locals := 80 * (1) } s m args below meth c G b 1 (MQ below (zQ G b FQ) args s 0 0 (fun q : Nat => b ≤ q)) 0 0 0 [some (.ref P)] [] (L, M, N)
  obtain ⟨p_lt, p_o, p_s, p_read, p_aside, p_kept, p_guest, p_readGuest, p_tape, p_unitName, p_hunterName, p_partyName, p_bits, p_partyOf, p_choiceAt, p_sizes, p_guestMany, p_pointsOf, p_ticketsOf, p_ord, p_given, p_roundOf, p_tags, p_guestTags, p_places, p_sumAt, p_sumFirst, p_sumRound, p_sumBoth, p_sumTags, p_isEnd, p_newPoints, p_inRow, p_out⟩ := id hP
  have J_62 : ∀ (y0_62 : Int32), (y0_62 = 0 ∨ y0_62 = 1) → D_X8_isTaken_62 P M N y0_62 = some r → Zw p l e { frames := 1, cells := 0, slots := 0, locals := 80 * (1) } s m args below meth c G b 1 (MQ below (zQ G b FQ) args s 0 0 (fun q : Nat => b ≤ q)) 0 0 62 [some (.ref (P))] [.int y0_62] (L, M, N) := by
    intro y0_62 fb_y0_62 h
    unfold D_X8_isTaken_62 at h
    refine a_zret X (by first | exact Or.inl rfl | exact Or.inr rfl | assumption) hr dX8_isTaken_62 ⟨by decide, by decide⟩ ?_
    subst hF
    rw [← Option.some.inj h]
    exact ⟨rfl, rfl, (by first | exact Or.inl rfl | exact Or.inr rfl | assumption)⟩
  have J_57 : D_X8_isTaken_57 P M N = some r → Zw p l e { frames := 1, cells := 0, slots := 0, locals := 80 * (1) } s m args below meth c G b 1 (MQ below (zQ G b FQ) args s 0 0 (fun q : Nat => b ≤ q)) 0 0 57 [some (.ref (P))] [] (L, M, N) := by
    intro h
    unfold D_X8_isTaken_57 at h
    refine a_iconst (v := 1) X dX8_isTaken_57 (by decide) ?_
    refine a_goto (tgt := 62) X dX8_isTaken_58 (by decide) ?_
    exact Zw.to2 (J_62 _ (by first | exact Or.inl rfl | exact Or.inr rfl | assumption) h) rfl rfl rfl
  unfold D_X8_isTaken at h
  refine a_aload_n X dX8_isTaken_0 rfl ?_
  refine a_getr X lf8_39 (by assumption) rfl (by omega) dX8_isTaken_1 ?_
  refine a_aload_n X dX8_isTaken_4 rfl ?_
  refine a_geti X lf8_201 (by assumption) rfl dX8_isTaken_5 ?_
  refine a_aload_n X dX8_isTaken_8 rfl ?_
  refine a_getl X lf8_167 (by assumption) rfl dX8_isTaken_9 ?_
  obtain ⟨e_12, f_12, h⟩ := zBx h
  refine a_callSv X dX8_isTaken_12 miX8_found lm8_204 (t_X8_found (by assumption) (by first | decide | assumption) f_12) rfl rfl (Nat.le_of_ble_eq_true rfl) ⟨by decide, by decide, by decide, by decide⟩ ?_
  refine a_iconst (v := -1) X dX8_isTaken_15 (by decide) ?_
  refine a_icmp_ne (tgt := 57) X dX8_isTaken_16 (by decide) (fun h_16 => ?_) (fun h_16 => ?_)
  · replace h := (if_neg h_16).symm.trans h
    exact Zw.to2 (J_57 h) rfl rfl rfl
  · replace h := (if_pos h_16).symm.trans h
    refine a_aload_n X dX8_isTaken_19 rfl ?_
    refine a_getr X lf8_43 (by assumption) rfl (by omega) dX8_isTaken_20 ?_
    refine a_aload_n X dX8_isTaken_23 rfl ?_
    refine a_geti X lf8_208 (by assumption) rfl dX8_isTaken_24 ?_
    refine a_aload_n X dX8_isTaken_27 rfl ?_
    refine a_getl X lf8_167 (by assumption) rfl dX8_isTaken_28 ?_
    obtain ⟨e_31, f_31, h⟩ := zBx h
    refine a_callSv X dX8_isTaken_31 miX8_found lm8_204 (t_X8_found (by assumption) (by first | decide | assumption) f_31) rfl rfl (Nat.le_of_ble_eq_true rfl) ⟨by decide, by decide, by decide, by decide⟩ ?_
    refine a_iconst (v := -1) X dX8_isTaken_34 (by decide) ?_
    refine a_icmp_ne (tgt := 57) X dX8_isTaken_35 (by decide) (fun h_35 => ?_) (fun h_35 => ?_)
    · replace h := (if_neg h_35).symm.trans h
      exact Zw.to2 (J_57 h) rfl rfl rfl
    · replace h := (if_pos h_35).symm.trans h
      refine a_aload_n X dX8_isTaken_38 rfl ?_
      refine a_getr X lf8_46 (by assumption) rfl (by omega) dX8_isTaken_39 ?_
      refine a_aload_n X dX8_isTaken_42 rfl ?_
      refine a_geti X lf8_211 (by assumption) rfl dX8_isTaken_43 ?_
      refine a_aload_n X dX8_isTaken_46 rfl ?_
      refine a_getl X lf8_167 (by assumption) rfl dX8_isTaken_47 ?_
      obtain ⟨e_50, f_50, h⟩ := zBx h
      refine a_callSv X dX8_isTaken_50 miX8_found lm8_204 (t_X8_found (by assumption) (by first | decide | assumption) f_50) rfl rfl (Nat.le_of_ble_eq_true rfl) ⟨by decide, by decide, by decide, by decide⟩ ?_
      refine a_iconst (v := -1) X dX8_isTaken_53 (by decide) ?_
      refine a_icmp_eq (tgt := 61) X dX8_isTaken_54 (by decide) (fun h_54 => ?_) (fun h_54 => ?_)
      · replace h := (if_pos h_54).symm.trans h
        refine a_iconst (v := 0) X dX8_isTaken_61 (by decide) ?_
        exact Zw.to2 (J_62 _ (by first | exact Or.inl rfl | exact Or.inr rfl | assumption) h) rfl rfl rfl
      · replace h := (if_neg h_54).symm.trans h
        exact Zw.to2 (J_57 h) rfl rfl rfl
noncomputable def D_X8_number (P : Nat) (v0 : Int32) (v1 : Int32) (M : zMt) (N : zNt) : Option (Int32 × zMt × zNt) :=
  if (M P 18) = (3 : Int32) then
    zB (D_X8_isFrom (Int32.toInt64 (M P 20)) (Int32.toInt64 v0) (Int32.toInt64 v1)) fun e_23 =>
    if e_23 = 0 then
      zB (D_X8_bad P (3 : Int32) M) fun e_31 =>
      some (e_31.1, e_31.2, N)
    else
      zLt (zu M P 31 (M P 20)) fun M_40 =>
      zB (D_X8_next P M_40 N) fun e_44 =>
      some (e_44.1, e_44.2.1, e_44.2.2)
  else
    zB (D_X8_bad P (2 : Int32) M) fun e_10 =>
    some (e_10.1, e_10.2, N)
set_option maxRecDepth 100000 in
set_option maxHeartbeats 4000000 in
theorem t_X8_number {l : Launch} {G : zG} {b : Nat} {L : List zC} {M : zMt} {N : zNt} {P : Nat} {v0 : Int32} {v1 : Int32} (hP : LX8 L P) {r : Int32 × zMt × zNt} (h : D_X8_number P v0 v1 M N = some r) : zM l G b yX8_number cX8_number 3 (some .boolean) 6 0 0 [.ref P, .int v0, .int v1] (L, M, N) (fun r2 z => r2 = some (.int r.1) ∧ z = (L, r.2.1, r.2.2) ∧ (r.1 = 0 ∨ r.1 = 1)) := by
  refine zM.of miX8_number (Nat.le_of_ble_eq_true rfl) ?_
  intro p e s m args below meth c X hr hname
  generalize hF : ((fun r2 z => r2 = some (.int r.1) ∧ z = (L, r.2.1, r.2.2) ∧ (r.1 = 0 ∨ r.1 = 1)) : Option Value → zS → Prop) = FQ
  change Zw p l e { frames := 6, cells := 0, slots := 0, locals := 80 * (6) } s m args below meth c G b 3 (MQ below (zQ G b FQ) args s 0 0 (fun q : Nat => b ≤ q)) 0 0 0 [some (.ref P), some (.int v0), some (.int v1)] [] (L, M, N)
  obtain ⟨p_lt, p_o, p_s, p_read, p_aside, p_kept, p_guest, p_readGuest, p_tape, p_unitName, p_hunterName, p_partyName, p_bits, p_partyOf, p_choiceAt, p_sizes, p_guestMany, p_pointsOf, p_ticketsOf, p_ord, p_given, p_roundOf, p_tags, p_guestTags, p_places, p_sumAt, p_sumFirst, p_sumRound, p_sumBoth, p_sumTags, p_isEnd, p_newPoints, p_inRow, p_out⟩ := id hP
  unfold D_X8_number at h
  refine a_aload_n X dX8_number_0 rfl ?_
  refine a_geti X lf8_160 (by assumption) rfl dX8_number_1 ?_
  refine a_iconst (v := 3) X dX8_number_4 (by decide) ?_
  refine a_icmp_eq (tgt := 14) X dX8_number_5 (by decide) (fun h_5 => ?_) (fun h_5 => ?_)
  · replace h := (if_pos h_5).symm.trans h
    refine a_aload_n X dX8_number_14 rfl ?_
    refine a_geti X lf8_182 (by assumption) rfl dX8_number_15 ?_
    refine a_i2l X dX8_number_18 ?_
    refine a_iload_n X dX8_number_19 rfl ?_
    refine a_i2l X dX8_number_20 ?_
    refine a_iload_n X dX8_number_21 rfl ?_
    refine a_i2l X dX8_number_22 ?_
    obtain ⟨e_23, f_23, h⟩ := zBx h
    refine a_callSx X dX8_number_23 miX8_isFrom lm8_128 (t_X8_isFrom f_23) rfl rfl (Nat.le_of_ble_eq_true rfl) ⟨by decide, by decide, by decide, by decide⟩ (fun r_23 S_23 q_23 => ?_)
    obtain ⟨rfl, rfl, b_23⟩ := q_23
    refine a_if_ne (tgt := 35) X dX8_number_26 (by decide) (fun h_26 => ?_) (fun h_26 => ?_)
    · replace h := (if_neg h_26).symm.trans h
      refine a_aload_n X dX8_number_35 rfl ?_
      refine a_aload_n X dX8_number_36 rfl ?_
      refine a_geti X lf8_182 (by assumption) rfl dX8_number_37 ?_
      obtain ⟨M_40, f_40, h⟩ := zLtx h
      refine d_puti X lf8_217 (by assumption) rfl dX8_number_40 f_40 ?_
      refine a_aload_n X dX8_number_43 rfl ?_
      obtain ⟨e_44, f_44, h⟩ := zBx h
      refine a_callVx X dX8_number_44 miX8_next lm8_220 (t_X8_next (by assumption) f_44) (by assumption) rfl rfl rfl (Nat.le_of_ble_eq_true rfl) ⟨by decide, by decide, by decide, by decide⟩ (fun r_44 S_44 q_44 => ?_)
      obtain ⟨rfl, rfl, b_44⟩ := q_44
      refine a_zret X (by first | exact Or.inl rfl | exact Or.inr rfl | assumption) hr dX8_number_47 ⟨by decide, by decide⟩ ?_
      subst hF
      rw [← Option.some.inj h]
      exact ⟨rfl, rfl, (by first | exact Or.inl rfl | exact Or.inr rfl | assumption)⟩
    · replace h := (if_pos h_26).symm.trans h
      refine a_aload_n X dX8_number_29 rfl ?_
      refine a_iconst (v := 3) X dX8_number_30 (by decide) ?_
      obtain ⟨e_31, f_31, h⟩ := zBx h
      refine a_callVx X dX8_number_31 miX8_bad lm8_214 (t_X8_bad (by assumption) f_31) (by assumption) rfl rfl rfl (Nat.le_of_ble_eq_true rfl) ⟨by decide, by decide, by decide, by decide⟩ (fun r_31 S_31 q_31 => ?_)
      obtain ⟨rfl, rfl, b_31⟩ := q_31
      refine a_zret X (by first | exact Or.inl rfl | exact Or.inr rfl | assumption) hr dX8_number_34 ⟨by decide, by decide⟩ ?_
      subst hF
      rw [← Option.some.inj h]
      exact ⟨rfl, rfl, (by first | exact Or.inl rfl | exact Or.inr rfl | assumption)⟩
  · replace h := (if_neg h_5).symm.trans h
    refine a_aload_n X dX8_number_8 rfl ?_
    refine a_iconst (v := 2) X dX8_number_9 (by decide) ?_
    obtain ⟨e_10, f_10, h⟩ := zBx h
    refine a_callVx X dX8_number_10 miX8_bad lm8_214 (t_X8_bad (by assumption) f_10) (by assumption) rfl rfl rfl (Nat.le_of_ble_eq_true rfl) ⟨by decide, by decide, by decide, by decide⟩ (fun r_10 S_10 q_10 => ?_)
    obtain ⟨rfl, rfl, b_10⟩ := q_10
    refine a_zret X (by first | exact Or.inl rfl | exact Or.inr rfl | assumption) hr dX8_number_13 ⟨by decide, by decide⟩ ?_
    subst hF
    rw [← Option.some.inj h]
    exact ⟨rfl, rfl, (by first | exact Or.inl rfl | exact Or.inr rfl | assumption)⟩
noncomputable def D_X8_newName (P : Nat) (M : zMt) (N : zNt) : Option (Int32 × zMt × zNt) :=
  zB (D_X8_isName P M) fun e_1 =>
  if e_1 = 0 then
    zB (D_X8_bad P (2 : Int32) M) fun e_9 =>
    some (e_9.1, e_9.2, N)
  else
    zB (D_X8_isTaken P M N) fun e_14 =>
    if e_14 = 0 then
      zLt (zu N P 32 (N P 24)) fun N_31 =>
      zB (D_X8_next P M N_31) fun e_35 =>
      some (e_35.1, e_35.2.1, e_35.2.2)
    else
      zB (D_X8_bad P (4 : Int32) M) fun e_22 =>
      some (e_22.1, e_22.2, N)
set_option maxRecDepth 100000 in
set_option maxHeartbeats 4000000 in
theorem t_X8_newName {l : Launch} {G : zG} {b : Nat} {L : List zC} {M : zMt} {N : zNt} {P : Nat}  (hP : LX8 L P) {r : Int32 × zMt × zNt} (h : D_X8_newName P M N = some r) : zM l G b yX8_newName cX8_newName 1 (some .boolean) 6 0 0 [.ref P] (L, M, N) (fun r2 z => r2 = some (.int r.1) ∧ z = (L, r.2.1, r.2.2) ∧ (r.1 = 0 ∨ r.1 = 1)) := by
  refine zM.of miX8_newName (Nat.le_of_ble_eq_true rfl) ?_
  intro p e s m args below meth c X hr hname
  generalize hF : ((fun r2 z => r2 = some (.int r.1) ∧ z = (L, r.2.1, r.2.2) ∧ (r.1 = 0 ∨ r.1 = 1)) : Option Value → zS → Prop) = FQ
  change Zw p l e { frames := 6, cells := 0, slots := 0, locals := 80 * (6) } s m args below meth c G b 1 (MQ below (zQ G b FQ) args s 0 0 (fun q : Nat => b ≤ q)) 0 0 0 [some (.ref P)] [] (L, M, N)
  obtain ⟨p_lt, p_o, p_s, p_read, p_aside, p_kept, p_guest, p_readGuest, p_tape, p_unitName, p_hunterName, p_partyName, p_bits, p_partyOf, p_choiceAt, p_sizes, p_guestMany, p_pointsOf, p_ticketsOf, p_ord, p_given, p_roundOf, p_tags, p_guestTags, p_places, p_sumAt, p_sumFirst, p_sumRound, p_sumBoth, p_sumTags, p_isEnd, p_newPoints, p_inRow, p_out⟩ := id hP
  unfold D_X8_newName at h
  refine a_aload_n X dX8_newName_0 rfl ?_
  obtain ⟨e_1, f_1, h⟩ := zBx h
  refine a_callVx X dX8_newName_1 miX8_isName lm8_224 (t_X8_isName (by assumption) f_1) (by assumption) rfl rfl rfl (Nat.le_of_ble_eq_true rfl) ⟨by decide, by decide, by decide, by decide⟩ (fun r_1 S_1 q_1 => ?_)
  obtain ⟨rfl, rfl, b_1⟩ := q_1
  refine a_if_ne (tgt := 13) X dX8_newName_4 (by decide) (fun h_4 => ?_) (fun h_4 => ?_)
  · replace h := (if_neg h_4).symm.trans h
    refine a_aload_n X dX8_newName_13 rfl ?_
    obtain ⟨e_14, f_14, h⟩ := zBx h
    refine a_callVx X dX8_newName_14 miX8_isTaken lm8_227 (t_X8_isTaken (by assumption) f_14) (by assumption) rfl rfl rfl (Nat.le_of_ble_eq_true rfl) ⟨by decide, by decide, by decide, by decide⟩ (fun r_14 S_14 q_14 => ?_)
    obtain ⟨rfl, rfl, b_14⟩ := q_14
    refine a_if_eq (tgt := 26) X dX8_newName_17 (by decide) (fun h_17 => ?_) (fun h_17 => ?_)
    · replace h := (if_pos h_17).symm.trans h
      refine a_aload_n X dX8_newName_26 rfl ?_
      refine a_aload_n X dX8_newName_27 rfl ?_
      refine a_getl X lf8_167 (by assumption) rfl dX8_newName_28 ?_
      obtain ⟨N_31, f_31, h⟩ := zLtx h
      refine d_putl X lf8_230 (by assumption) rfl dX8_newName_31 f_31 ?_
      refine a_aload_n X dX8_newName_34 rfl ?_
      obtain ⟨e_35, f_35, h⟩ := zBx h
      refine a_callVx X dX8_newName_35 miX8_next lm8_220 (t_X8_next (by assumption) f_35) (by assumption) rfl rfl rfl (Nat.le_of_ble_eq_true rfl) ⟨by decide, by decide, by decide, by decide⟩ (fun r_35 S_35 q_35 => ?_)
      obtain ⟨rfl, rfl, b_35⟩ := q_35
      refine a_zret X (by first | exact Or.inl rfl | exact Or.inr rfl | assumption) hr dX8_newName_38 ⟨by decide, by decide⟩ ?_
      subst hF
      rw [← Option.some.inj h]
      exact ⟨rfl, rfl, (by first | exact Or.inl rfl | exact Or.inr rfl | assumption)⟩
    · replace h := (if_neg h_17).symm.trans h
      refine a_aload_n X dX8_newName_20 rfl ?_
      refine a_iconst (v := 4) X dX8_newName_21 (by decide) ?_
      obtain ⟨e_22, f_22, h⟩ := zBx h
      refine a_callVx X dX8_newName_22 miX8_bad lm8_214 (t_X8_bad (by assumption) f_22) (by assumption) rfl rfl rfl (Nat.le_of_ble_eq_true rfl) ⟨by decide, by decide, by decide, by decide⟩ (fun r_22 S_22 q_22 => ?_)
      obtain ⟨rfl, rfl, b_22⟩ := q_22
      refine a_zret X (by first | exact Or.inl rfl | exact Or.inr rfl | assumption) hr dX8_newName_25 ⟨by decide, by decide⟩ ?_
      subst hF
      rw [← Option.some.inj h]
      exact ⟨rfl, rfl, (by first | exact Or.inl rfl | exact Or.inr rfl | assumption)⟩
  · replace h := (if_pos h_4).symm.trans h
    refine a_aload_n X dX8_newName_7 rfl ?_
    refine a_iconst (v := 2) X dX8_newName_8 (by decide) ?_
    obtain ⟨e_9, f_9, h⟩ := zBx h
    refine a_callVx X dX8_newName_9 miX8_bad lm8_214 (t_X8_bad (by assumption) f_9) (by assumption) rfl rfl rfl (Nat.le_of_ble_eq_true rfl) ⟨by decide, by decide, by decide, by decide⟩ (fun r_9 S_9 q_9 => ?_)
    obtain ⟨rfl, rfl, b_9⟩ := q_9
    refine a_zret X (by first | exact Or.inl rfl | exact Or.inr rfl | assumption) hr dX8_newName_12 ⟨by decide, by decide⟩ ?_
    subst hF
    rw [← Option.some.inj h]
    exact ⟨rfl, rfl, (by first | exact Or.inl rfl | exact Or.inr rfl | assumption)⟩
noncomputable def D_X8_readUnit_38 (P : Nat) (M_38 : zMt) (N_38 : zNt) : Option (Int32 × zMt × zNt) :=
  some ((0 : Int32), M_38, N_38)
noncomputable def D_X8_readUnit (P : Nat) (M : zMt) (N : zNt) : Option (Int32 × zMt × zNt) :=
  if (M P 28) = (5 : Int32) then
    zB (D_X8_bad P (2 : Int32) M) fun e_10 =>
    some (e_10.1, e_10.2, N)
  else
    zB (D_X8_next P M N) fun e_15 =>
    if e_15.1 = 0 then
      D_X8_readUnit_38 P e_15.2.1 e_15.2.2
    else
      zB (D_X8_newName P e_15.2.1 e_15.2.2) fun e_22 =>
      if e_22.1 = 0 then
        D_X8_readUnit_38 P e_22.2.1 e_22.2.2
      else
        zB (D_X8_number P (0 : Int32) (20 : Int32) e_22.2.1 e_22.2.2) fun e_32 =>
        if e_32.1 = 0 then
          D_X8_readUnit_38 P e_32.2.1 e_32.2.2
        else
          zI (e_32.2.1 P 28) 5 <|
          zLt (zu e_32.2.2 (P + 8) (e_32.2.1 P 28).toNatClampNeg (e_32.2.2 P 32)) fun N_52 =>
          zI ((62 : Int32) + (e_32.2.1 P 28)) 82 <|
          zLt (zu e_32.2.1 (P + 2) ((62 : Int32) + (e_32.2.1 P 28)).toNatClampNeg (e_32.2.1 P 31)) fun M_68 =>
          zLt (zu M_68 P 28 ((M_68 P 28) + (1 : Int32))) fun M_76 =>
          some ((1 : Int32), M_76, N_52)
set_option maxRecDepth 100000 in
set_option maxHeartbeats 4000000 in
theorem t_X8_readUnit {l : Launch} {G : zG} {b : Nat} {L : List zC} {M : zMt} {N : zNt} {P : Nat}  (hP : LX8 L P) {r : Int32 × zMt × zNt} (h : D_X8_readUnit P M N = some r) : zM l G b yX8_readUnit cX8_readUnit 1 (some .boolean) 7 0 0 [.ref P] (L, M, N) (fun r2 z => r2 = some (.int r.1) ∧ z = (L, r.2.1, r.2.2) ∧ (r.1 = 0 ∨ r.1 = 1)) := by
  refine zM.of miX8_readUnit (Nat.le_of_ble_eq_true rfl) ?_
  intro p e s m args below meth c X hr hname
  generalize hF : ((fun r2 z => r2 = some (.int r.1) ∧ z = (L, r.2.1, r.2.2) ∧ (r.1 = 0 ∨ r.1 = 1)) : Option Value → zS → Prop) = FQ
  change Zw p l e { frames := 7, cells := 0, slots := 0, locals := 80 * (7) } s m args below meth c G b 1 (MQ below (zQ G b FQ) args s 0 0 (fun q : Nat => b ≤ q)) 0 0 0 [some (.ref P)] [] (L, M, N)
  obtain ⟨p_lt, p_o, p_s, p_read, p_aside, p_kept, p_guest, p_readGuest, p_tape, p_unitName, p_hunterName, p_partyName, p_bits, p_partyOf, p_choiceAt, p_sizes, p_guestMany, p_pointsOf, p_ticketsOf, p_ord, p_given, p_roundOf, p_tags, p_guestTags, p_places, p_sumAt, p_sumFirst, p_sumRound, p_sumBoth, p_sumTags, p_isEnd, p_newPoints, p_inRow, p_out⟩ := id hP
  have J_38 : ∀ (M_38 : zMt) (N_38 : zNt), D_X8_readUnit_38 P M_38 N_38 = some r → Zw p l e { frames := 7, cells := 0, slots := 0, locals := 80 * (7) } s m args below meth c G b 1 (MQ below (zQ G b FQ) args s 0 0 (fun q : Nat => b ≤ q)) 0 0 38 [some (.ref (P))] [] (L, M_38, N_38) := by
    intro M_38 N_38 h
    unfold D_X8_readUnit_38 at h
    refine a_iconst (v := 0) X dX8_readUnit_38 (by decide) ?_
    refine a_zret X (by first | exact Or.inl rfl | exact Or.inr rfl | assumption) hr dX8_readUnit_39 ⟨by decide, by decide⟩ ?_
    subst hF
    rw [← Option.some.inj h]
    exact ⟨rfl, rfl, (by first | exact Or.inl rfl | exact Or.inr rfl | assumption)⟩
  unfold D_X8_readUnit at h
  refine a_aload_n X dX8_readUnit_0 rfl ?_
  refine a_geti X lf8_201 (by assumption) rfl dX8_readUnit_1 ?_
  refine a_iconst (v := 5) X dX8_readUnit_4 (by decide) ?_
  refine a_icmp_ne (tgt := 14) X dX8_readUnit_5 (by decide) (fun h_5 => ?_) (fun h_5 => ?_)
  · replace h := (if_neg h_5).symm.trans h
    refine a_aload_n X dX8_readUnit_14 rfl ?_
    obtain ⟨e_15, f_15, h⟩ := zBx h
    refine a_callVx X dX8_readUnit_15 miX8_next lm8_220 (t_X8_next (by assumption) f_15) (by assumption) rfl rfl rfl (Nat.le_of_ble_eq_true rfl) ⟨by decide, by decide, by decide, by decide⟩ (fun r_15 S_15 q_15 => ?_)
    obtain ⟨rfl, rfl, b_15⟩ := q_15
    refine a_if_eq (tgt := 38) X dX8_readUnit_18 (by decide) (fun h_18 => ?_) (fun h_18 => ?_)
    · replace h := (if_pos h_18).symm.trans h
      exact Zw.to2 (J_38 _ _ h) rfl rfl rfl
    · replace h := (if_neg h_18).symm.trans h
      refine a_aload_n X dX8_readUnit_21 rfl ?_
      obtain ⟨e_22, f_22, h⟩ := zBx h
      refine a_callVx X dX8_readUnit_22 miX8_newName lm8_233 (t_X8_newName (by assumption) f_22) (by assumption) rfl rfl rfl (Nat.le_of_ble_eq_true rfl) ⟨by decide, by decide, by decide, by decide⟩ (fun r_22 S_22 q_22 => ?_)
      obtain ⟨rfl, rfl, b_22⟩ := q_22
      refine a_if_eq (tgt := 38) X dX8_readUnit_25 (by decide) (fun h_25 => ?_) (fun h_25 => ?_)
      · replace h := (if_pos h_25).symm.trans h
        exact Zw.to2 (J_38 _ _ h) rfl rfl rfl
      · replace h := (if_neg h_25).symm.trans h
        refine a_aload_n X dX8_readUnit_28 rfl ?_
        refine a_iconst (v := 0) X dX8_readUnit_29 (by decide) ?_
        refine a_bipush (v := 20) X dX8_readUnit_30 (by decide) ?_
        obtain ⟨e_32, f_32, h⟩ := zBx h
        refine a_callVx X dX8_readUnit_32 miX8_number lm8_236 (t_X8_number (by assumption) f_32) (by assumption) rfl rfl rfl (Nat.le_of_ble_eq_true rfl) ⟨by decide, by decide, by decide, by decide⟩ (fun r_32 S_32 q_32 => ?_)
        obtain ⟨rfl, rfl, b_32⟩ := q_32
        refine a_if_ne (tgt := 40) X dX8_readUnit_35 (by decide) (fun h_35 => ?_) (fun h_35 => ?_)
        · replace h := (if_neg h_35).symm.trans h
          refine a_aload_n X dX8_readUnit_40 rfl ?_
          refine a_getr X lf8_39 (by assumption) rfl (by omega) dX8_readUnit_41 ?_
          refine a_aload_n X dX8_readUnit_44 rfl ?_
          refine a_geti X lf8_201 (by assumption) rfl dX8_readUnit_45 ?_
          refine a_aload_n X dX8_readUnit_48 rfl ?_
          refine a_getl X lf8_230 (by assumption) rfl dX8_readUnit_49 ?_
          obtain ⟨g_52, h⟩ := zIx h
          obtain ⟨N_52, f_52, h⟩ := zLtx h
          refine d_lastore X (by assumption) g_52 dX8_readUnit_52 f_52 ?_
          refine a_aload_n X dX8_readUnit_53 rfl ?_
          refine a_getr X lf8_13 (by assumption) rfl (by omega) dX8_readUnit_54 ?_
          refine a_bipush (v := 62) X dX8_readUnit_57 (by decide) ?_
          refine a_aload_n X dX8_readUnit_59 rfl ?_
          refine a_geti X lf8_201 (by assumption) rfl dX8_readUnit_60 ?_
          refine a_iadd X dX8_readUnit_63 ?_
          refine a_aload_n X dX8_readUnit_64 rfl ?_
          refine a_geti X lf8_217 (by assumption) rfl dX8_readUnit_65 ?_
          obtain ⟨g_68, h⟩ := zIx h
          obtain ⟨M_68, f_68, h⟩ := zLtx h
          refine d_iastore X (by assumption) g_68 dX8_readUnit_68 f_68 ?_
          refine a_aload_n X dX8_readUnit_69 rfl ?_
          refine a_dup X dX8_readUnit_70 rfl ?_
          refine a_geti X lf8_201 (by assumption) rfl dX8_readUnit_71 ?_
          refine a_iconst (v := 1) X dX8_readUnit_74 (by decide) ?_
          refine a_iadd X dX8_readUnit_75 ?_
          obtain ⟨M_76, f_76, h⟩ := zLtx h
          refine d_puti X lf8_201 (by assumption) rfl dX8_readUnit_76 f_76 ?_
          refine a_iconst (v := 1) X dX8_readUnit_79 (by decide) ?_
          refine a_zret X (by first | exact Or.inl rfl | exact Or.inr rfl | assumption) hr dX8_readUnit_80 ⟨by decide, by decide⟩ ?_
          subst hF
          rw [← Option.some.inj h]
          exact ⟨rfl, rfl, (by first | exact Or.inl rfl | exact Or.inr rfl | assumption)⟩
        · replace h := (if_pos h_35).symm.trans h
          exact Zw.to2 (J_38 _ _ h) rfl rfl rfl
  · replace h := (if_pos h_5).symm.trans h
    refine a_aload_n X dX8_readUnit_8 rfl ?_
    refine a_iconst (v := 2) X dX8_readUnit_9 (by decide) ?_
    obtain ⟨e_10, f_10, h⟩ := zBx h
    refine a_callVx X dX8_readUnit_10 miX8_bad lm8_214 (t_X8_bad (by assumption) f_10) (by assumption) rfl rfl rfl (Nat.le_of_ble_eq_true rfl) ⟨by decide, by decide, by decide, by decide⟩ (fun r_10 S_10 q_10 => ?_)
    obtain ⟨rfl, rfl, b_10⟩ := q_10
    refine a_zret X (by first | exact Or.inl rfl | exact Or.inr rfl | assumption) hr dX8_readUnit_13 ⟨by decide, by decide⟩ ?_
    subst hF
    rw [← Option.some.inj h]
    exact ⟨rfl, rfl, (by first | exact Or.inl rfl | exact Or.inr rfl | assumption)⟩
noncomputable def D_X8_readHunter_116 (P : Nat) (M_116 : zMt) (N_116 : zNt) : Option (Int32 × zMt × zNt) :=
  zLt (zu M_116 P 29 ((M_116 P 29) + (1 : Int32))) fun M_123 =>
  some ((1 : Int32), M_123, N_116)
noncomputable def D_X8_readHunter_98 (P : Nat) (y1_98 : Int32) (y2_98 : Int32) (M_98 : zMt) (N_98 : zNt) : Option (Int32 × zMt × zNt) :=
  zI y1_98 10 <|
  zLt (zu M_98 (P + 6) y1_98.toNatClampNeg y2_98) fun M_98 =>
  zI (M_98 P 29) 10 <|
  if (M_98 (P + 6) (M_98 P 29).toNatClampNeg) = 0 then
    D_X8_readHunter_116 P M_98 N_98
  else
    zB (D_X8_next P M_98 N_98) fun e_112 =>
    D_X8_readHunter_116 P e_112.2.1 e_112.2.2
noncomputable def D_X8_readHunter_97 (P : Nat) (y1_97 : Int32) (M_97 : zMt) (N_97 : zNt) : Option (Int32 × zMt × zNt) :=
  D_X8_readHunter_98 P y1_97 (0 : Int32) M_97 N_97
noncomputable def D_X8_readHunter_39 (P : Nat) (M_39 : zMt) (N_39 : zNt) : Option (Int32 × zMt × zNt) :=
  some ((0 : Int32), M_39, N_39)
noncomputable def D_X8_readHunter (P : Nat) (M : zMt) (N : zNt) : Option (Int32 × zMt × zNt) :=
  if (M P 29) = (10 : Int32) then
    zB (D_X8_bad P (2 : Int32) M) fun e_11 =>
    some (e_11.1, e_11.2, N)
  else
    zB (D_X8_next P M N) fun e_16 =>
    if e_16.1 = 0 then
      D_X8_readHunter_39 P e_16.2.1 e_16.2.2
    else
      zB (D_X8_newName P e_16.2.1 e_16.2.2) fun e_23 =>
      if e_23.1 = 0 then
        D_X8_readHunter_39 P e_23.2.1 e_23.2.2
      else
        zB (D_X8_number P (0 : Int32) (20 : Int32) e_23.2.1 e_23.2.2) fun e_33 =>
        if e_33.1 = 0 then
          D_X8_readHunter_39 P e_33.2.1 e_33.2.2
        else
          zI (e_33.2.1 P 29) 10 <|
          zLt (zu e_33.2.2 (P + 9) (e_33.2.1 P 29).toNatClampNeg (e_33.2.2 P 32)) fun N_53 =>
          zI ((0 : Int32) + (e_33.2.1 P 29)) 82 <|
          zLt (zu e_33.2.1 (P + 2) ((0 : Int32) + (e_33.2.1 P 29)).toNatClampNeg (e_33.2.1 P 31)) fun M_68 =>
          if (M_68 P 18) = (2 : Int32) then
            if (M_68 P 19) = (2 : Int32) then
              D_X8_readHunter_98 P (M_68 P 29) (1 : Int32) M_68 N_53
            else
              D_X8_readHunter_97 P (M_68 P 29) M_68 N_53
          else
            D_X8_readHunter_97 P (M_68 P 29) M_68 N_53
set_option maxRecDepth 100000 in
set_option maxHeartbeats 4000000 in
theorem t_X8_readHunter {l : Launch} {G : zG} {b : Nat} {L : List zC} {M : zMt} {N : zNt} {P : Nat}  (hP : LX8 L P) {r : Int32 × zMt × zNt} (h : D_X8_readHunter P M N = some r) : zM l G b yX8_readHunter cX8_readHunter 1 (some .boolean) 7 0 0 [.ref P] (L, M, N) (fun r2 z => r2 = some (.int r.1) ∧ z = (L, r.2.1, r.2.2) ∧ (r.1 = 0 ∨ r.1 = 1)) := by
  refine zM.of miX8_readHunter (Nat.le_of_ble_eq_true rfl) ?_
  intro p e s m args below meth c X hr hname
  generalize hF : ((fun r2 z => r2 = some (.int r.1) ∧ z = (L, r.2.1, r.2.2) ∧ (r.1 = 0 ∨ r.1 = 1)) : Option Value → zS → Prop) = FQ
  change Zw p l e { frames := 7, cells := 0, slots := 0, locals := 80 * (7) } s m args below meth c G b 1 (MQ below (zQ G b FQ) args s 0 0 (fun q : Nat => b ≤ q)) 0 0 0 [some (.ref P)] [] (L, M, N)
  obtain ⟨p_lt, p_o, p_s, p_read, p_aside, p_kept, p_guest, p_readGuest, p_tape, p_unitName, p_hunterName, p_partyName, p_bits, p_partyOf, p_choiceAt, p_sizes, p_guestMany, p_pointsOf, p_ticketsOf, p_ord, p_given, p_roundOf, p_tags, p_guestTags, p_places, p_sumAt, p_sumFirst, p_sumRound, p_sumBoth, p_sumTags, p_isEnd, p_newPoints, p_inRow, p_out⟩ := id hP
  have J_116 : ∀ (M_116 : zMt) (N_116 : zNt), D_X8_readHunter_116 P M_116 N_116 = some r → Zw p l e { frames := 7, cells := 0, slots := 0, locals := 80 * (7) } s m args below meth c G b 1 (MQ below (zQ G b FQ) args s 0 0 (fun q : Nat => b ≤ q)) 0 0 116 [some (.ref (P))] [] (L, M_116, N_116) := by
    intro M_116 N_116 h
    unfold D_X8_readHunter_116 at h
    refine a_aload_n X dX8_readHunter_116 rfl ?_
    refine a_dup X dX8_readHunter_117 rfl ?_
    refine a_geti X lf8_208 (by assumption) rfl dX8_readHunter_118 ?_
    refine a_iconst (v := 1) X dX8_readHunter_121 (by decide) ?_
    refine a_iadd X dX8_readHunter_122 ?_
    obtain ⟨M_123, f_123, h⟩ := zLtx h
    refine d_puti X lf8_208 (by assumption) rfl dX8_readHunter_123 f_123 ?_
    refine a_iconst (v := 1) X dX8_readHunter_126 (by decide) ?_
    refine a_zret X (by first | exact Or.inl rfl | exact Or.inr rfl | assumption) hr dX8_readHunter_127 ⟨by decide, by decide⟩ ?_
    subst hF
    rw [← Option.some.inj h]
    exact ⟨rfl, rfl, (by first | exact Or.inl rfl | exact Or.inr rfl | assumption)⟩
  have J_98 : ∀ (y1_98 : Int32) (y2_98 : Int32) (M_98 : zMt) (N_98 : zNt), (y2_98 = 0 ∨ y2_98 = 1) → D_X8_readHunter_98 P y1_98 y2_98 M_98 N_98 = some r → Zw p l e { frames := 7, cells := 0, slots := 0, locals := 80 * (7) } s m args below meth c G b 1 (MQ below (zQ G b FQ) args s 0 0 (fun q : Nat => b ≤ q)) 0 0 98 [some (.ref (P))] [.int y2_98, .int y1_98, .ref (P + 6)] (L, M_98, N_98) := by
    intro y1_98 y2_98 M_98 N_98 fb_y2_98 h
    unfold D_X8_readHunter_98 at h
    obtain ⟨g_98, h⟩ := zIx h
    obtain ⟨M_98, f_98, h⟩ := zLtx h
    refine d_bastore X (by first | exact Or.inl rfl | exact Or.inr rfl | assumption) (by assumption) g_98 dX8_readHunter_98 f_98 ?_
    refine a_aload_n X dX8_readHunter_99 rfl ?_
    refine a_getr X lf8_26 (by assumption) rfl (by omega) dX8_readHunter_100 ?_
    refine a_aload_n X dX8_readHunter_103 rfl ?_
    refine a_geti X lf8_208 (by assumption) rfl dX8_readHunter_104 ?_
    obtain ⟨g_107, h⟩ := zIx h
    refine a_baload X (by assumption) g_107 dX8_readHunter_107 ?_
    refine a_if_eq (tgt := 116) X dX8_readHunter_108 (by decide) (fun h_108 => ?_) (fun h_108 => ?_)
    · replace h := (if_pos h_108).symm.trans h
      exact Zw.to2 (J_116 _ _ h) rfl rfl rfl
    · replace h := (if_neg h_108).symm.trans h
      refine a_aload_n X dX8_readHunter_111 rfl ?_
      obtain ⟨e_112, f_112, h⟩ := zBx h
      refine a_callVx X dX8_readHunter_112 miX8_next lm8_220 (t_X8_next (by assumption) f_112) (by assumption) rfl rfl rfl (Nat.le_of_ble_eq_true rfl) ⟨by decide, by decide, by decide, by decide⟩ (fun r_112 S_112 q_112 => ?_)
      obtain ⟨rfl, rfl, b_112⟩ := q_112
      refine a_pop X dX8_readHunter_115 rfl ?_
      exact Zw.to2 (J_116 _ _ h) rfl rfl rfl
  have J_97 : ∀ (y1_97 : Int32) (M_97 : zMt) (N_97 : zNt), D_X8_readHunter_97 P y1_97 M_97 N_97 = some r → Zw p l e { frames := 7, cells := 0, slots := 0, locals := 80 * (7) } s m args below meth c G b 1 (MQ below (zQ G b FQ) args s 0 0 (fun q : Nat => b ≤ q)) 0 0 97 [some (.ref (P))] [.int y1_97, .ref (P + 6)] (L, M_97, N_97) := by
    intro y1_97 M_97 N_97 h
    unfold D_X8_readHunter_97 at h
    refine a_iconst (v := 0) X dX8_readHunter_97 (by decide) ?_
    exact Zw.to2 (J_98 _ _ _ _ (by first | exact Or.inl rfl | exact Or.inr rfl | assumption) h) rfl rfl rfl
  have J_39 : ∀ (M_39 : zMt) (N_39 : zNt), D_X8_readHunter_39 P M_39 N_39 = some r → Zw p l e { frames := 7, cells := 0, slots := 0, locals := 80 * (7) } s m args below meth c G b 1 (MQ below (zQ G b FQ) args s 0 0 (fun q : Nat => b ≤ q)) 0 0 39 [some (.ref (P))] [] (L, M_39, N_39) := by
    intro M_39 N_39 h
    unfold D_X8_readHunter_39 at h
    refine a_iconst (v := 0) X dX8_readHunter_39 (by decide) ?_
    refine a_zret X (by first | exact Or.inl rfl | exact Or.inr rfl | assumption) hr dX8_readHunter_40 ⟨by decide, by decide⟩ ?_
    subst hF
    rw [← Option.some.inj h]
    exact ⟨rfl, rfl, (by first | exact Or.inl rfl | exact Or.inr rfl | assumption)⟩
  unfold D_X8_readHunter at h
  refine a_aload_n X dX8_readHunter_0 rfl ?_
  refine a_geti X lf8_208 (by assumption) rfl dX8_readHunter_1 ?_
  refine a_bipush (v := 10) X dX8_readHunter_4 (by decide) ?_
  refine a_icmp_ne (tgt := 15) X dX8_readHunter_6 (by decide) (fun h_6 => ?_) (fun h_6 => ?_)
  · replace h := (if_neg h_6).symm.trans h
    refine a_aload_n X dX8_readHunter_15 rfl ?_
    obtain ⟨e_16, f_16, h⟩ := zBx h
    refine a_callVx X dX8_readHunter_16 miX8_next lm8_220 (t_X8_next (by assumption) f_16) (by assumption) rfl rfl rfl (Nat.le_of_ble_eq_true rfl) ⟨by decide, by decide, by decide, by decide⟩ (fun r_16 S_16 q_16 => ?_)
    obtain ⟨rfl, rfl, b_16⟩ := q_16
    refine a_if_eq (tgt := 39) X dX8_readHunter_19 (by decide) (fun h_19 => ?_) (fun h_19 => ?_)
    · replace h := (if_pos h_19).symm.trans h
      exact Zw.to2 (J_39 _ _ h) rfl rfl rfl
    · replace h := (if_neg h_19).symm.trans h
      refine a_aload_n X dX8_readHunter_22 rfl ?_
      obtain ⟨e_23, f_23, h⟩ := zBx h
      refine a_callVx X dX8_readHunter_23 miX8_newName lm8_233 (t_X8_newName (by assumption) f_23) (by assumption) rfl rfl rfl (Nat.le_of_ble_eq_true rfl) ⟨by decide, by decide, by decide, by decide⟩ (fun r_23 S_23 q_23 => ?_)
      obtain ⟨rfl, rfl, b_23⟩ := q_23
      refine a_if_eq (tgt := 39) X dX8_readHunter_26 (by decide) (fun h_26 => ?_) (fun h_26 => ?_)
      · replace h := (if_pos h_26).symm.trans h
        exact Zw.to2 (J_39 _ _ h) rfl rfl rfl
      · replace h := (if_neg h_26).symm.trans h
        refine a_aload_n X dX8_readHunter_29 rfl ?_
        refine a_iconst (v := 0) X dX8_readHunter_30 (by decide) ?_
        refine a_bipush (v := 20) X dX8_readHunter_31 (by decide) ?_
        obtain ⟨e_33, f_33, h⟩ := zBx h
        refine a_callVx X dX8_readHunter_33 miX8_number lm8_236 (t_X8_number (by assumption) f_33) (by assumption) rfl rfl rfl (Nat.le_of_ble_eq_true rfl) ⟨by decide, by decide, by decide, by decide⟩ (fun r_33 S_33 q_33 => ?_)
        obtain ⟨rfl, rfl, b_33⟩ := q_33
        refine a_if_ne (tgt := 41) X dX8_readHunter_36 (by decide) (fun h_36 => ?_) (fun h_36 => ?_)
        · replace h := (if_neg h_36).symm.trans h
          refine a_aload_n X dX8_readHunter_41 rfl ?_
          refine a_getr X lf8_43 (by assumption) rfl (by omega) dX8_readHunter_42 ?_
          refine a_aload_n X dX8_readHunter_45 rfl ?_
          refine a_geti X lf8_208 (by assumption) rfl dX8_readHunter_46 ?_
          refine a_aload_n X dX8_readHunter_49 rfl ?_
          refine a_getl X lf8_230 (by assumption) rfl dX8_readHunter_50 ?_
          obtain ⟨g_53, h⟩ := zIx h
          obtain ⟨N_53, f_53, h⟩ := zLtx h
          refine d_lastore X (by assumption) g_53 dX8_readHunter_53 f_53 ?_
          refine a_aload_n X dX8_readHunter_54 rfl ?_
          refine a_getr X lf8_13 (by assumption) rfl (by omega) dX8_readHunter_55 ?_
          refine a_iconst (v := 0) X dX8_readHunter_58 (by decide) ?_
          refine a_aload_n X dX8_readHunter_59 rfl ?_
          refine a_geti X lf8_208 (by assumption) rfl dX8_readHunter_60 ?_
          refine a_iadd X dX8_readHunter_63 ?_
          refine a_aload_n X dX8_readHunter_64 rfl ?_
          refine a_geti X lf8_217 (by assumption) rfl dX8_readHunter_65 ?_
          obtain ⟨g_68, h⟩ := zIx h
          obtain ⟨M_68, f_68, h⟩ := zLtx h
          refine d_iastore X (by assumption) g_68 dX8_readHunter_68 f_68 ?_
          refine a_aload_n X dX8_readHunter_69 rfl ?_
          refine a_getr X lf8_26 (by assumption) rfl (by omega) dX8_readHunter_70 ?_
          refine a_aload_n X dX8_readHunter_73 rfl ?_
          refine a_geti X lf8_208 (by assumption) rfl dX8_readHunter_74 ?_
          refine a_aload_n X dX8_readHunter_77 rfl ?_
          refine a_geti X lf8_160 (by assumption) rfl dX8_readHunter_78 ?_
          refine a_iconst (v := 2) X dX8_readHunter_81 (by decide) ?_
          refine a_icmp_ne (tgt := 97) X dX8_readHunter_82 (by decide) (fun h_82 => ?_) (fun h_82 => ?_)
          · replace h := (if_neg h_82).symm.trans h
            exact Zw.to2 (J_97 _ _ _ h) rfl rfl rfl
          · replace h := (if_pos h_82).symm.trans h
            refine a_aload_n X dX8_readHunter_85 rfl ?_
            refine a_geti X lf8_157 (by assumption) rfl dX8_readHunter_86 ?_
            refine a_iconst (v := 2) X dX8_readHunter_89 (by decide) ?_
            refine a_icmp_ne (tgt := 97) X dX8_readHunter_90 (by decide) (fun h_90 => ?_) (fun h_90 => ?_)
            · replace h := (if_neg h_90).symm.trans h
              exact Zw.to2 (J_97 _ _ _ h) rfl rfl rfl
            · replace h := (if_pos h_90).symm.trans h
              refine a_iconst (v := 1) X dX8_readHunter_93 (by decide) ?_
              refine a_goto (tgt := 98) X dX8_readHunter_94 (by decide) ?_
              exact Zw.to2 (J_98 _ _ _ _ (by first | exact Or.inl rfl | exact Or.inr rfl | assumption) h) rfl rfl rfl
        · replace h := (if_pos h_36).symm.trans h
          exact Zw.to2 (J_39 _ _ h) rfl rfl rfl
  · replace h := (if_pos h_6).symm.trans h
    refine a_aload_n X dX8_readHunter_9 rfl ?_
    refine a_iconst (v := 2) X dX8_readHunter_10 (by decide) ?_
    obtain ⟨e_11, f_11, h⟩ := zBx h
    refine a_callVx X dX8_readHunter_11 miX8_bad lm8_214 (t_X8_bad (by assumption) f_11) (by assumption) rfl rfl rfl (Nat.le_of_ble_eq_true rfl) ⟨by decide, by decide, by decide, by decide⟩ (fun r_11 S_11 q_11 => ?_)
    obtain ⟨rfl, rfl, b_11⟩ := q_11
    refine a_zret X (by first | exact Or.inl rfl | exact Or.inr rfl | assumption) hr dX8_readHunter_14 ⟨by decide, by decide⟩ ?_
    subst hF
    rw [← Option.some.inj h]
    exact ⟨rfl, rfl, (by first | exact Or.inl rfl | exact Or.inr rfl | assumption)⟩
