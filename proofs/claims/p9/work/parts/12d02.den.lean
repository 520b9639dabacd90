noncomputable def D_X4_clear (Q : Nat) (M : zMt) : Option (zMt) :=
  zLt (zu M Q 0 (0 : Int32)) fun M_2 =>
  zLt (zu M_2 Q 1 (0 : Int32)) fun M_7 =>
  zLt (zu M_7 Q 2 (0 : Int32)) fun M_12 =>
  zLt (zu M_12 Q 3 (0 : Int32)) fun M_17 =>
  zLt (zu M_17 Q 4 (0 : Int32)) fun M_22 =>
  zLt (zu M_22 Q 5 (100 : Int32)) fun M_28 =>
  zLt (zu M_28 Q 6 (0 : Int32)) fun M_33 =>
  zLt (zfil M_33 (Q + 1) 5 (0 : Int32)) fun M_41 =>
  zLt (zfil M_41 (Q + 2) 10 (0 : Int32)) fun M_49 =>
  zLt (zfil M_49 (Q + 3) 10 (0 : Int32)) fun M_57 =>
  zLt (zfil M_57 (Q + 4) 10 (-1 : Int32)) fun M_65 =>
  zLt (zfil M_65 (Q + 5) 10 (0 : Int32)) fun M_73 =>
  zLt (zfil M_73 (Q + 6) 30 (-1 : Int32)) fun M_81 =>
  zLt (zfil M_81 (Q + 7) 10 (-1 : Int32)) fun M_89 =>
  some (M_89)
set_option maxRecDepth 100000 in
set_option maxHeartbeats 4000000 in
theorem t_X4_clear {l : Launch} {G : zG} {b : Nat} {L : List zC} {M : zMt} {N : zNt} {Q : Nat}  (hQ : LX4 L Q) {r : zMt} (h : D_X4_clear Q M = some r) : zM l G b yX4_clear cX4_clear 1 none 1 0 0 [.ref Q] (L, M, N) (fun r2 z => r2 = none ∧ z = (L, r, N)) := by
  refine zM.of miX4_clear (Nat.le_of_ble_eq_true rfl) ?_
  intro p e s m args below meth c X hr hname
  generalize hF : ((fun r2 z => r2 = none ∧ z = (L, r, N)) : Option Value → zS → Prop) = FQ
  change Zw p l e { frames := 1, cells := 0, slots := 0, locals := 80 * (1) } s m args below meth c G b 1 (MQ below (zQ G b FQ) args s 0 0 (fun q : Nat => b ≤ q)) 0 0 0 [some (.ref Q)] [] (L, M, N)
  obtain ⟨q_lt, q_o, q_quota, q_score, q_guest, q_party, q_wishCount, q_wishes, q_has⟩ := id hQ
  unfold D_X4_clear at h
  refine a_aload_n X dX4_clear_0 rfl ?_
  refine a_iconst (v := 0) X dX4_clear_1 (by decide) ?_
  obtain ⟨M_2, f_2, h⟩ := zLtx h
  refine d_puti X lf4_33 (by assumption) rfl dX4_clear_2 f_2 ?_
  refine a_aload_n X dX4_clear_5 rfl ?_
  refine a_iconst (v := 0) X dX4_clear_6 (by decide) ?_
  obtain ⟨M_7, f_7, h⟩ := zLtx h
  refine d_puti X lf4_37 (by assumption) rfl dX4_clear_7 f_7 ?_
  refine a_aload_n X dX4_clear_10 rfl ?_
  refine a_iconst (v := 0) X dX4_clear_11 (by decide) ?_
  obtain ⟨M_12, f_12, h⟩ := zLtx h
  refine d_puti X lf4_40 (by assumption) rfl dX4_clear_12 f_12 ?_
  refine a_aload_n X dX4_clear_15 rfl ?_
  refine a_iconst (v := 0) X dX4_clear_16 (by decide) ?_
  obtain ⟨M_17, f_17, h⟩ := zLtx h
  refine d_puti X lf4_43 (by assumption) rfl dX4_clear_17 f_17 ?_
  refine a_aload_n X dX4_clear_20 rfl ?_
  refine a_iconst (v := 0) X dX4_clear_21 (by decide) ?_
  obtain ⟨M_22, f_22, h⟩ := zLtx h
  refine d_puti X lf4_46 (by assumption) rfl dX4_clear_22 f_22 ?_
  refine a_aload_n X dX4_clear_25 rfl ?_
  refine a_bipush (v := 100) X dX4_clear_26 (by decide) ?_
  obtain ⟨M_28, f_28, h⟩ := zLtx h
  refine d_puti X lf4_49 (by assumption) rfl dX4_clear_28 f_28 ?_
  refine a_aload_n X dX4_clear_31 rfl ?_
  refine a_iconst (v := 0) X dX4_clear_32 (by decide) ?_
  obtain ⟨M_33, f_33, h⟩ := zLtx h
  refine d_puti X lf4_52 (by assumption) rfl dX4_clear_33 f_33 ?_
  refine a_aload_n X dX4_clear_36 rfl ?_
  refine a_getr X lf4_9 (by assumption) rfl (by omega) dX4_clear_37 ?_
  refine a_iconst (v := 0) X dX4_clear_40 (by decide) ?_
  obtain ⟨M_41, f_41, h⟩ := zLtx h
  refine a_callSNu X dX4_clear_41 miX7_fill lm4_55 (zMu (c_fill (by assumption) (by first | decide | assumption)) f_41) rfl rfl (Nat.le_of_ble_eq_true rfl) ⟨by decide, by decide, by decide, by decide⟩ ?_
  refine a_aload_n X dX4_clear_44 rfl ?_
  refine a_getr X lf4_15 (by assumption) rfl (by omega) dX4_clear_45 ?_
  refine a_iconst (v := 0) X dX4_clear_48 (by decide) ?_
  obtain ⟨M_49, f_49, h⟩ := zLtx h
  refine a_callSNu X dX4_clear_49 miX7_fill lm4_55 (zMu (c_fill (by assumption) (by first | decide | assumption)) f_49) rfl rfl (Nat.le_of_ble_eq_true rfl) ⟨by decide, by decide, by decide, by decide⟩ ?_
  refine a_aload_n X dX4_clear_52 rfl ?_
  refine a_getr X lf4_18 (by assumption) rfl (by omega) dX4_clear_53 ?_
  refine a_iconst (v := 0) X dX4_clear_56 (by decide) ?_
  obtain ⟨M_57, f_57, h⟩ := zLtx h
  refine a_callSNu X dX4_clear_57 miX7_fill lm4_55 (zMu (c_fill (by assumption) (by first | decide | assumption)) f_57) rfl rfl (Nat.le_of_ble_eq_true rfl) ⟨by decide, by decide, by decide, by decide⟩ ?_
  refine a_aload_n X dX4_clear_60 rfl ?_
  refine a_getr X lf4_21 (by assumption) rfl (by omega) dX4_clear_61 ?_
  refine a_iconst (v := -1) X dX4_clear_64 (by decide) ?_
  obtain ⟨M_65, f_65, h⟩ := zLtx h
  refine a_callSNu X dX4_clear_65 miX7_fill lm4_55 (zMu (c_fill (by assumption) (by first | decide | assumption)) f_65) rfl rfl (Nat.le_of_ble_eq_true rfl) ⟨by decide, by decide, by decide, by decide⟩ ?_
  refine a_aload_n X dX4_clear_68 rfl ?_
  refine a_getr X lf4_24 (by assumption) rfl (by omega) dX4_clear_69 ?_
  refine a_iconst (v := 0) X dX4_clear_72 (by decide) ?_
  obtain ⟨M_73, f_73, h⟩ := zLtx h
  refine a_callSNu X dX4_clear_73 miX7_fill lm4_55 (zMu (c_fill (by assumption) (by first | decide | assumption)) f_73) rfl rfl (Nat.le_of_ble_eq_true rfl) ⟨by decide, by decide, by decide, by decide⟩ ?_
  refine a_aload_n X dX4_clear_76 rfl ?_
  refine a_getr X lf4_27 (by assumption) rfl (by omega) dX4_clear_77 ?_
  refine a_iconst (v := -1) X dX4_clear_80 (by decide) ?_
  obtain ⟨M_81, f_81, h⟩ := zLtx h
  refine a_callSNu X dX4_clear_81 miX7_fill lm4_55 (zMu (c_fill (by assumption) (by first | decide | assumption)) f_81) rfl rfl (Nat.le_of_ble_eq_true rfl) ⟨by decide, by decide, by decide, by decide⟩ ?_
  refine a_aload_n X dX4_clear_84 rfl ?_
  refine a_getr X lf4_30 (by assumption) rfl (by omega) dX4_clear_85 ?_
  refine a_iconst (v := -1) X dX4_clear_88 (by decide) ?_
  obtain ⟨M_89, f_89, h⟩ := zLtx h
  refine a_callSNu X dX4_clear_89 miX7_fill lm4_55 (zMu (c_fill (by assumption) (by first | decide | assumption)) f_89) rfl rfl (Nat.le_of_ble_eq_true rfl) ⟨by decide, by decide, by decide, by decide⟩ ?_
  refine a_vret X hr dX4_clear_92 ⟨by decide, by decide⟩ ?_
  subst hF
  rw [← Option.some.inj h]
  exact ⟨rfl, rfl⟩
noncomputable def D_X3_isBlank_17  (y0_17 : Int32) : Option (Int32) :=
  some (y0_17)
noncomputable def D_X3_isBlank_12   : Option (Int32) :=
  D_X3_isBlank_17 (1 : Int32)
noncomputable def D_X3_isBlank  (v0 : Int32) : Option (Int32) :=
  if v0 = (10 : Int32) then
    D_X3_isBlank_12
  else
    if v0 = (32 : Int32) then
      D_X3_isBlank_12
    else
      D_X3_isBlank_17 (0 : Int32)
set_option maxRecDepth 100000 in
set_option maxHeartbeats 4000000 in
theorem t_X3_isBlank {l : Launch} {G : zG} {b : Nat} {L : List zC} {M : zMt} {N : zNt}  {v0 : Int32}  {r : Int32} (h : D_X3_isBlank v0 = some r) : zM l G b yX3_isBlank cX3_isBlank 1 (some .boolean) 0 0 0 [.int v0] (L, M, N) (fun r2 z => r2 = some (.int r) ∧ z = (L, M, N) ∧ (r = 0 ∨ r = 1)) := by
  refine zM.of miX3_isBlank (Nat.le_of_ble_eq_true rfl) ?_
  intro p e s m args below meth c X hr hname
  generalize hF : ((fun r2 z => r2 = some (.int r) ∧ z = (L, M, N) ∧ (r = 0 ∨ r = 1)) : Option Value → zS → Prop) = FQ
  change Zw p l e { frames := 0, cells := 0, slots := 0, locals := 80 * (0) } s m args below meth c G b 1 (MQ below (zQ G b FQ) args s 0 0 (fun q : Nat => b ≤ q)) 0 0 0 [some (.int v0)] [] (L, M, N)
  have J_17 : ∀ (x0_17 : Int32) (y0_17 : Int32), (y0_17 = 0 ∨ y0_17 = 1) → D_X3_isBlank_17 y0_17 = some r → Zw p l e { frames := 0, cells := 0, slots := 0, locals := 80 * (0) } s m args below meth c G b 1 (MQ below (zQ G b FQ) args s 0 0 (fun q : Nat => b ≤ q)) 0 0 17 [some (.int x0_17)] [.int y0_17] (L, M, N) := by
    intro x0_17 y0_17 fb_y0_17 h
    unfold D_X3_isBlank_17 at h
    refine a_zret X (by first | exact Or.inl rfl | exact Or.inr rfl | assumption) hr dX3_isBlank_17 ⟨by decide, by decide⟩ ?_
    subst hF
    rw [← Option.some.inj h]
    exact ⟨rfl, rfl, (by first | exact Or.inl rfl | exact Or.inr rfl | assumption)⟩
  have J_12 : ∀ (x0_12 : Int32), D_X3_isBlank_12 = some r → Zw p l e { frames := 0, cells := 0, slots := 0, locals := 80 * (0) } s m args below meth c G b 1 (MQ below (zQ G b FQ) args s 0 0 (fun q : Nat => b ≤ q)) 0 0 12 [some (.int x0_12)] [] (L, M, N) := by
    intro x0_12 h
    unfold D_X3_isBlank_12 at h
    refine a_iconst (v := 1) X dX3_isBlank_12 (by decide) ?_
    refine a_goto (tgt := 17) X dX3_isBlank_13 (by decide) ?_
    exact Zw.to2 (J_17 _ _ (by first | exact Or.inl rfl | exact Or.inr rfl | assumption) h) rfl rfl rfl
  unfold D_X3_isBlank at h
  refine a_iload_n X dX3_isBlank_0 rfl ?_
  refine a_bipush (v := 10) X dX3_isBlank_1 (by decide) ?_
  refine a_icmp_eq (tgt := 12) X dX3_isBlank_3 (by decide) (fun h_3 => ?_) (fun h_3 => ?_)
  · replace h := (if_pos h_3).symm.trans h
    exact Zw.to2 (J_12 _ h) rfl rfl rfl
  · replace h := (if_neg h_3).symm.trans h
    refine a_iload_n X dX3_isBlank_6 rfl ?_
    refine a_bipush (v := 32) X dX3_isBlank_7 (by decide) ?_
    refine a_icmp_ne (tgt := 16) X dX3_isBlank_9 (by decide) (fun h_9 => ?_) (fun h_9 => ?_)
    · replace h := (if_neg h_9).symm.trans h
      refine a_iconst (v := 0) X dX3_isBlank_16 (by decide) ?_
      exact Zw.to2 (J_17 _ _ (by first | exact Or.inl rfl | exact Or.inr rfl | assumption) h) rfl rfl rfl
    · replace h := (if_pos h_9).symm.trans h
      exact Zw.to2 (J_12 _ h) rfl rfl rfl
noncomputable def D_X3_isLetter_17  (y0_17 : Int32) : Option (Int32) :=
  some (y0_17)
noncomputable def D_X3_isLetter_16   : Option (Int32) :=
  D_X3_isLetter_17 (0 : Int32)
noncomputable def D_X3_isLetter  (v0 : Int32) : Option (Int32) :=
  if v0 < (97 : Int32) then
    D_X3_isLetter_16
  else
    if (122 : Int32) < v0 then
      D_X3_isLetter_16
    else
      D_X3_isLetter_17 (1 : Int32)
set_option maxRecDepth 100000 in
set_option maxHeartbeats 4000000 in
theorem t_X3_isLetter {l : Launch} {G : zG} {b : Nat} {L : List zC} {M : zMt} {N : zNt}  {v0 : Int32}  {r : Int32} (h : D_X3_isLetter v0 = some r) : zM l G b yX3_isLetter cX3_isLetter 1 (some .boolean) 0 0 0 [.int v0] (L, M, N) (fun r2 z => r2 = some (.int r) ∧ z = (L, M, N) ∧ (r = 0 ∨ r = 1)) := by
  refine zM.of miX3_isLetter (Nat.le_of_ble_eq_true rfl) ?_
  intro p e s m args below meth c X hr hname
  generalize hF : ((fun r2 z => r2 = some (.int r) ∧ z = (L, M, N) ∧ (r = 0 ∨ r = 1)) : Option Value → zS → Prop) = FQ
  change Zw p l e { frames := 0, cells := 0, slots := 0, locals := 80 * (0) } s m args below meth c G b 1 (MQ below (zQ G b FQ) args s 0 0 (fun q : Nat => b ≤ q)) 0 0 0 [some (.int v0)] [] (L, M, N)
  have J_17 : ∀ (x0_17 : Int32) (y0_17 : Int32), (y0_17 = 0 ∨ y0_17 = 1) → D_X3_isLetter_17 y0_17 = some r → Zw p l e { frames := 0, cells := 0, slots := 0, locals := 80 * (0) } s m args below meth c G b 1 (MQ below (zQ G b FQ) args s 0 0 (fun q : Nat => b ≤ q)) 0 0 17 [some (.int x0_17)] [.int y0_17] (L, M, N) := by
    intro x0_17 y0_17 fb_y0_17 h
    unfold D_X3_isLetter_17 at h
    refine a_zret X (by first | exact Or.inl rfl | exact Or.inr rfl | assumption) hr dX3_isLetter_17 ⟨by decide, by decide⟩ ?_
    subst hF
    rw [← Option.some.inj h]
    exact ⟨rfl, rfl, (by first | exact Or.inl rfl | exact Or.inr rfl | assumption)⟩
  have J_16 : ∀ (x0_16 : Int32), D_X3_isLetter_16 = some r → Zw p l e { frames := 0, cells := 0, slots := 0, locals := 80 * (0) } s m args below meth c G b 1 (MQ below (zQ G b FQ) args s 0 0 (fun q : Nat => b ≤ q)) 0 0 16 [some (.int x0_16)] [] (L, M, N) := by
    intro x0_16 h
    unfold D_X3_isLetter_16 at h
    refine a_iconst (v := 0) X dX3_isLetter_16 (by decide) ?_
    exact Zw.to2 (J_17 _ _ (by first | exact Or.inl rfl | exact Or.inr rfl | assumption) h) rfl rfl rfl
  unfold D_X3_isLetter at h
  refine a_iload_n X dX3_isLetter_0 rfl ?_
  refine a_bipush (v := 97) X dX3_isLetter_1 (by decide) ?_
  refine a_icmp_lt (tgt := 16) X dX3_isLetter_3 (by decide) (fun h_3 => ?_) (fun h_3 => ?_)
  · replace h := (if_pos h_3).symm.trans h
    exact Zw.to2 (J_16 _ h) rfl rfl rfl
  · replace h := (if_neg h_3).symm.trans h
    refine a_iload_n X dX3_isLetter_6 rfl ?_
    refine a_bipush (v := 122) X dX3_isLetter_7 (by decide) ?_
    refine a_icmp_gt (tgt := 16) X dX3_isLetter_9 (by decide) (fun h_9 => ?_) (fun h_9 => ?_)
    · replace h := (if_pos h_9).symm.trans h
      exact Zw.to2 (J_16 _ h) rfl rfl rfl
    · replace h := (if_neg h_9).symm.trans h
      refine a_iconst (v := 1) X dX3_isLetter_12 (by decide) ?_
      refine a_goto (tgt := 17) X dX3_isLetter_13 (by decide) ?_
      exact Zw.to2 (J_17 _ _ (by first | exact Or.inl rfl | exact Or.inr rfl | assumption) h) rfl rfl rfl
noncomputable def D_X3_stepWord_96 (Q : Nat) (y1_96 : Int32) (M_96 : zMt) (N_96 : zNt) : Option (zMt × zNt) :=
  zLt (zu M_96 Q 6 y1_96) fun M_96 =>
  some (M_96, N_96)
noncomputable def D_X3_stepWord_76 (Q : Nat) (M_76 : zMt) (N_76 : zNt) : Option (zMt × zNt) :=
  if (8 : Int32) < ((M_76 Q 5) - (M_76 Q 7)) then
    D_X3_stepWord_96 Q (4 : Int32) M_76 N_76
  else
    D_X3_stepWord_96 Q (1 : Int32) M_76 N_76
noncomputable def D_X3_stepWord_5 (Q : Nat) : Nat → zMt → zNt → Option (zMt × zNt)
  | 0, _, _ => none
  | n + 1, M_5, N_5 =>
    if (M_5 Q 4) ≤ (M_5 Q 5) then
      D_X3_stepWord_76 Q M_5 N_5
    else
      zB (D_X3_isLetter (zrd 0 (M_5 (Q + 9)) 700 (M_5 Q 5))) fun e_27 =>
      if e_27 = 0 then
        D_X3_stepWord_76 Q M_5 N_5
      else
        zLt (zu N_5 Q 8 (((N_5 Q 8) * (27 : Int64)) + (Int32.toInt64 (((zrd 0 (M_5 (Q + 9)) 700 (M_5 Q 5)) - (97 : Int32)) + (1 : Int32))))) fun N_60 =>
        zLt (zu M_5 Q 5 ((M_5 Q 5) + (1 : Int32))) fun M_70 =>
        (D_X3_stepWord_5 Q n) M_70 N_60
noncomputable def D_X3_stepWord (Q : Nat) (M : zMt) (N : zNt) : Option (zMt × zNt) :=
  zLt (zu N Q 8 (0 : Int64)) fun N_2 =>
  D_X3_stepWord_5 Q zFu M N_2
set_option maxRecDepth 100000 in
set_option maxHeartbeats 4000000 in
theorem t_X3_stepWord {l : Launch} {G : zG} {b : Nat} {L : List zC} {M : zMt} {N : zNt} {Q : Nat}  (hQ : LX3 L Q) {r : zMt × zNt} (h : D_X3_stepWord Q M N = some r) : zM l G b yX3_stepWord cX3_stepWord 1 none 1 0 0 [.ref Q] (L, M, N) (fun r2 z => r2 = none ∧ z = (L, r.1, r.2)) := by
  refine zM.of miX3_stepWord (Nat.le_of_ble_eq_true rfl) ?_
  intro p e s m args below meth c X hr hname
  generalize hF : ((fun r2 z => r2 = none ∧ z = (L, r.1, r.2)) : Option Value → zS → Prop) = FQ
  change Zw p l e { frames := 1, cells := 0, slots := 0, locals := 80 * (1) } s m args below meth c G b 1 (MQ below (zQ G b FQ) args s 0 0 (fun q : Nat => b ≤ q)) 0 0 0 [some (.ref Q)] [] (L, M, N)
  obtain ⟨q_lt, q_o, q_draft, q_text, q_unitNames, q_hunterNames, q_partyNames, q_asked⟩ := id hQ
  obtain ⟨q_draft_lt, q_draft_o, q_draft_quota, q_draft_score, q_draft_guest, q_draft_party, q_draft_wishCount, q_draft_wishes, q_draft_has⟩ := id q_draft
  have J_96 : ∀ (y1_96 : Int32) (M_96 : zMt) (N_96 : zNt), D_X3_stepWord_96 Q y1_96 M_96 N_96 = some r → Zw p l e { frames := 1, cells := 0, slots := 0, locals := 80 * (1) } s m args below meth c G b 1 (MQ below (zQ G b FQ) args s 0 0 (fun q : Nat => b ≤ q)) 0 0 96 [some (.ref (Q))] [.int y1_96, .ref (Q)] (L, M_96, N_96) := by
    intro y1_96 M_96 N_96 h
    unfold D_X3_stepWord_96 at h
    obtain ⟨M_96, f_96, h⟩ := zLtx h
    refine d_puti X lf3_74 (by assumption) rfl dX3_stepWord_96 f_96 ?_
    refine a_vret X hr dX3_stepWord_99 ⟨by decide, by decide⟩ ?_
    subst hF
    rw [← Option.some.inj h]
    exact ⟨rfl, rfl⟩
  have J_76 : ∀ (M_76 : zMt) (N_76 : zNt), D_X3_stepWord_76 Q M_76 N_76 = some r → Zw p l e { frames := 1, cells := 0, slots := 0, locals := 80 * (1) } s m args below meth c G b 1 (MQ below (zQ G b FQ) args s 0 0 (fun q : Nat => b ≤ q)) 0 0 76 [some (.ref (Q))] [] (L, M_76, N_76) := by
    intro M_76 N_76 h
    unfold D_X3_stepWord_76 at h
    refine a_aload_n X dX3_stepWord_76 rfl ?_
    refine a_aload_n X dX3_stepWord_77 rfl ?_
    refine a_geti X lf3_55 (by assumption) rfl dX3_stepWord_78 ?_
    refine a_aload_n X dX3_stepWord_81 rfl ?_
    refine a_geti X lf3_89 (by assumption) rfl dX3_stepWord_82 ?_
    refine a_isub X dX3_stepWord_85 ?_
    refine a_bipush (v := 8) X dX3_stepWord_86 (by decide) ?_
    refine a_icmp_gt (tgt := 95) X dX3_stepWord_88 (by decide) (fun h_88 => ?_) (fun h_88 => ?_)
    · replace h := (if_pos h_88).symm.trans h
      refine a_iconst (v := 4) X dX3_stepWord_95 (by decide) ?_
      exact Zw.to2 (J_96 _ _ _ h) rfl rfl rfl
    · replace h := (if_neg h_88).symm.trans h
      refine a_iconst (v := 1) X dX3_stepWord_91 (by decide) ?_
      refine a_goto (tgt := 96) X dX3_stepWord_92 (by decide) ?_
      exact Zw.to2 (J_96 _ _ _ h) rfl rfl rfl
  have L_5 : ∀ u : Nat, ∀ (M_5 : zMt) (N_5 : zNt), D_X3_stepWord_5 Q u M_5 N_5 = some r → Zw p l e { frames := 1, cells := 0, slots := 0, locals := 80 * (1) } s m args below meth c G b 1 (MQ below (zQ G b FQ) args s 0 0 (fun q : Nat => b ≤ q)) 0 0 5 [some (.ref (Q))] [] (L, M_5, N_5) := by
    intro u
    induction u with
    | zero => intro M_5 N_5 h; cases (show none = some r from h)
    | succ u_5 ih_5 =>
      intro M_5 N_5 h
      rw [D_X3_stepWord_5] at h
      refine a_aload_n X dX3_stepWord_5 rfl ?_
      refine a_geti X lf3_55 (by assumption) rfl dX3_stepWord_6 ?_
      refine a_aload_n X dX3_stepWord_9 rfl ?_
      refine a_geti X lf3_52 (by assumption) rfl dX3_stepWord_10 ?_
      refine a_icmp_ge (tgt := 76) X dX3_stepWord_13 (by decide) (fun h_13 => ?_) (fun h_13 => ?_)
      · replace h := (if_pos h_13).symm.trans h
        exact Zw.to2 (J_76 _ _ h) rfl rfl rfl
      · replace h := (if_neg h_13).symm.trans h
        refine a_aload_n X dX3_stepWord_16 rfl ?_
        refine a_getr X lf3_25 (by assumption) rfl (by omega) dX3_stepWord_17 ?_
        refine a_aload_n X dX3_stepWord_20 rfl ?_
        refine a_geti X lf3_55 (by assumption) rfl dX3_stepWord_21 ?_
        refine a_callSNv X dX3_stepWord_24 miX7_cell lm3_81 (c_cell (by assumption) (by first | decide | assumption)) rfl rfl (Nat.le_of_ble_eq_true rfl) ⟨by decide, by decide, by decide, by decide⟩ ?_
        obtain ⟨e_27, f_27, h⟩ := zBx h
        refine a_callSx X dX3_stepWord_27 miX3_isLetter lm3_92 (t_X3_isLetter f_27) rfl rfl (Nat.le_of_ble_eq_true rfl) ⟨by decide, by decide, by decide, by decide⟩ (fun r_27 S_27 q_27 => ?_)
        obtain ⟨rfl, rfl, b_27⟩ := q_27
        refine a_if_eq (tgt := 76) X dX3_stepWord_30 (by decide) (fun h_30 => ?_) (fun h_30 => ?_)
        · replace h := (if_pos h_30).symm.trans h
          exact Zw.to2 (J_76 _ _ h) rfl rfl rfl
        · replace h := (if_neg h_30).symm.trans h
          refine a_aload_n X dX3_stepWord_33 rfl ?_
          refine a_aload_n X dX3_stepWord_34 rfl ?_
          refine a_getl X lf3_104 (by assumption) rfl dX3_stepWord_35 ?_
          refine a_ldc2 X dX3_stepWord_38 lk3_108 ?_
          refine a_lmul X dX3_stepWord_41 ?_
          refine a_aload_n X dX3_stepWord_42 rfl ?_
          refine a_getr X lf3_25 (by assumption) rfl (by omega) dX3_stepWord_43 ?_
          refine a_aload_n X dX3_stepWord_46 rfl ?_
          refine a_geti X lf3_55 (by assumption) rfl dX3_stepWord_47 ?_
          refine a_callSNv X dX3_stepWord_50 miX7_cell lm3_81 (c_cell (by assumption) (by first | decide | assumption)) rfl rfl (Nat.le_of_ble_eq_true rfl) ⟨by decide, by decide, by decide, by decide⟩ ?_
          refine a_bipush (v := 97) X dX3_stepWord_53 (by decide) ?_
          refine a_isub X dX3_stepWord_55 ?_
          refine a_iconst (v := 1) X dX3_stepWord_56 (by decide) ?_
          refine a_iadd X dX3_stepWord_57 ?_
          refine a_i2l X dX3_stepWord_58 ?_
          refine a_ladd X dX3_stepWord_59 ?_
          obtain ⟨N_60, f_60, h⟩ := zLtx h
          refine d_putl X lf3_104 (by assumption) rfl dX3_stepWord_60 f_60 ?_
          refine a_aload_n X dX3_stepWord_63 rfl ?_
          refine a_dup X dX3_stepWord_64 rfl ?_
          refine a_geti X lf3_55 (by assumption) rfl dX3_stepWord_65 ?_
          refine a_iconst (v := 1) X dX3_stepWord_68 (by decide) ?_
          refine a_iadd X dX3_stepWord_69 ?_
          obtain ⟨M_70, f_70, h⟩ := zLtx h
          refine d_puti X lf3_55 (by assumption) rfl dX3_stepWord_70 f_70 ?_
          refine a_goto (tgt := 5) X dX3_stepWord_73 (by decide) ?_
          exact Zw.to2 (ih_5 _ _ h) rfl rfl rfl
  have H_5 : ∀ (M_5 : zMt) (N_5 : zNt), D_X3_stepWord_5 Q zFu M_5 N_5 = some r → Zw p l e { frames := 1, cells := 0, slots := 0, locals := 80 * (1) } s m args below meth c G b 1 (MQ below (zQ G b FQ) args s 0 0 (fun q : Nat => b ≤ q)) 0 0 5 [some (.ref (Q))] [] (L, M_5, N_5) := L_5 zFu
  unfold D_X3_stepWord at h
  refine a_aload_n X dX3_stepWord_0 rfl ?_
  refine a_lconst (v := 0) X dX3_stepWord_1 (by decide) ?_
  obtain ⟨N_2, f_2, h⟩ := zLtx h
  refine d_putl X lf3_104 (by assumption) rfl dX3_stepWord_2 f_2 ?_
  exact Zw.to2 (H_5 _ _ h) rfl rfl rfl
noncomputable def D_X3_isDigit_17  (y0_17 : Int32) : Option (Int32) :=
  some (y0_17)
noncomputable def D_X3_isDigit_16   : Option (Int32) :=
  D_X3_isDigit_17 (0 : Int32)
noncomputable def D_X3_isDigit  (v0 : Int32) : Option (Int32) :=
  if v0 < (48 : Int32) then
    D_X3_isDigit_16
  else
    if (57 : Int32) < v0 then
      D_X3_isDigit_16
    else
      D_X3_isDigit_17 (1 : Int32)
set_option maxRecDepth 100000 in
set_option maxHeartbeats 4000000 in
theorem t_X3_isDigit {l : Launch} {G : zG} {b : Nat} {L : List zC} {M : zMt} {N : zNt}  {v0 : Int32}  {r : Int32} (h : D_X3_isDigit v0 = some r) : zM l G b yX3_isDigit cX3_isDigit 1 (some .boolean) 0 0 0 [.int v0] (L, M, N) (fun r2 z => r2 = some (.int r) ∧ z = (L, M, N) ∧ (r = 0 ∨ r = 1)) := by
  refine zM.of miX3_isDigit (Nat.le_of_ble_eq_true rfl) ?_
  intro p e s m args below meth c X hr hname
  generalize hF : ((fun r2 z => r2 = some (.int r) ∧ z = (L, M, N) ∧ (r = 0 ∨ r = 1)) : Option Value → zS → Prop) = FQ
  change Zw p l e { frames := 0, cells := 0, slots := 0, locals := 80 * (0) } s m args below meth c G b 1 (MQ below (zQ G b FQ) args s 0 0 (fun q : Nat => b ≤ q)) 0 0 0 [some (.int v0)] [] (L, M, N)
  have J_17 : ∀ (x0_17 : Int32) (y0_17 : Int32), (y0_17 = 0 ∨ y0_17 = 1) → D_X3_isDigit_17 y0_17 = some r → Zw p l e { frames := 0, cells := 0, slots := 0, locals := 80 * (0) } s m args below meth c G b 1 (MQ below (zQ G b FQ) args s 0 0 (fun q : Nat => b ≤ q)) 0 0 17 [some (.int x0_17)] [.int y0_17] (L, M, N) := by
    intro x0_17 y0_17 fb_y0_17 h
    unfold D_X3_isDigit_17 at h
    refine a_zret X (by first | exact Or.inl rfl | exact Or.inr rfl | assumption) hr dX3_isDigit_17 ⟨by decide, by decide⟩ ?_
    subst hF
    rw [← Option.some.inj h]
    exact ⟨rfl, rfl, (by first | exact Or.inl rfl | exact Or.inr rfl | assumption)⟩
  have J_16 : ∀ (x0_16 : Int32), D_X3_isDigit_16 = some r → Zw p l e { frames := 0, cells := 0, slots := 0, locals := 80 * (0) } s m args below meth c G b 1 (MQ below (zQ G b FQ) args s 0 0 (fun q : Nat => b ≤ q)) 0 0 16 [some (.int x0_16)] [] (L, M, N) := by
    intro x0_16 h
    unfold D_X3_isDigit_16 at h
    refine a_iconst (v := 0) X dX3_isDigit_16 (by decide) ?_
    exact Zw.to2 (J_17 _ _ (by first | exact Or.inl rfl | exact Or.inr rfl | assumption) h) rfl rfl rfl
  unfold D_X3_isDigit at h
  refine a_iload_n X dX3_isDigit_0 rfl ?_
  refine a_bipush (v := 48) X dX3_isDigit_1 (by decide) ?_
  refine a_icmp_lt (tgt := 16) X dX3_isDigit_3 (by decide) (fun h_3 => ?_) (fun h_3 => ?_)
  · replace h := (if_pos h_3).symm.trans h
    exact Zw.to2 (J_16 _ h) rfl rfl rfl
  · replace h := (if_neg h_3).symm.trans h
    refine a_iload_n X dX3_isDigit_6 rfl ?_
    refine a_bipush (v := 57) X dX3_isDigit_7 (by decide) ?_
    refine a_icmp_gt (tgt := 16) X dX3_isDigit_9 (by decide) (fun h_9 => ?_) (fun h_9 => ?_)
    · replace h := (if_pos h_9).symm.trans h
      exact Zw.to2 (J_16 _ h) rfl rfl rfl
    · replace h := (if_neg h_9).symm.trans h
      refine a_iconst (v := 1) X dX3_isDigit_12 (by decide) ?_
      refine a_goto (tgt := 17) X dX3_isDigit_13 (by decide) ?_
      exact Zw.to2 (J_17 _ _ (by first | exact Or.inl rfl | exact Or.inr rfl | assumption) h) rfl rfl rfl
noncomputable def D_X3_stepNumber_91 (Q : Nat) (y1_91 : Int32) (M_91 : zMt) : Option (zMt) :=
  zLt (zu M_91 Q 6 y1_91) fun M_91 =>
  some (M_91)
noncomputable def D_X3_stepNumber_72 (Q : Nat) (M_72 : zMt) : Option (zMt) :=
  if (3 : Int32) < ((M_72 Q 5) - (M_72 Q 7)) then
    D_X3_stepNumber_91 Q (4 : Int32) M_72
  else
    D_X3_stepNumber_91 Q (2 : Int32) M_72
noncomputable def D_X3_stepNumber_5 (Q : Nat) : Nat → zMt → Option (zMt)
  | 0, _ => none
  | n + 1, M_5 =>
    if (M_5 Q 4) ≤ (M_5 Q 5) then
      D_X3_stepNumber_72 Q M_5
    else
      zB (D_X3_isDigit (zrd 0 (M_5 (Q + 9)) 700 (M_5 Q 5))) fun e_27 =>
      if e_27 = 0 then
        D_X3_stepNumber_72 Q M_5
      else
        zLt (zu M_5 Q 9 (((M_5 Q 9) * (10 : Int32)) + ((zrd 0 (M_5 (Q + 9)) 700 (M_5 Q 5)) - (48 : Int32)))) fun M_56 =>
        zLt (zu M_56 Q 5 ((M_56 Q 5) + (1 : Int32))) fun M_66 =>
        (D_X3_stepNumber_5 Q n) M_66
noncomputable def D_X3_stepNumber (Q : Nat) (M : zMt) : Option (zMt) :=
  zLt (zu M Q 9 (0 : Int32)) fun M_2 =>
  D_X3_stepNumber_5 Q zFu M_2
set_option maxRecDepth 100000 in
set_option maxHeartbeats 4000000 in
theorem t_X3_stepNumber {l : Launch} {G : zG} {b : Nat} {L : List zC} {M : zMt} {N : zNt} {Q : Nat}  (hQ : LX3 L Q) {r : zMt} (h : D_X3_stepNumber Q M = some r) : zM l G b yX3_stepNumber cX3_stepNumber 1 none 1 0 0 [.ref Q] (L, M, N) (fun r2 z => r2 = none ∧ z = (L, r, N)) := by
  refine zM.of miX3_stepNumber (Nat.le_of_ble_eq_true rfl) ?_
  intro p e s m args below meth c X hr hname
  generalize hF : ((fun r2 z => r2 = none ∧ z = (L, r, N)) : Option Value → zS → Prop) = FQ
  change Zw p l e { frames := 1, cells := 0, slots := 0, locals := 80 * (1) } s m args below meth c G b 1 (MQ below (zQ G b FQ) args s 0 0 (fun q : Nat => b ≤ q)) 0 0 0 [some (.ref Q)] [] (L, M, N)
  obtain ⟨q_lt, q_o, q_draft, q_text, q_unitNames, q_hunterNames, q_partyNames, q_asked⟩ := id hQ
  obtain ⟨q_draft_lt, q_draft_o, q_draft_quota, q_draft_score, q_draft_guest, q_draft_party, q_draft_wishCount, q_draft_wishes, q_draft_has⟩ := id q_draft
  have J_91 : ∀ (y1_91 : Int32) (M_91 : zMt), D_X3_stepNumber_91 Q y1_91 M_91 = some r → Zw p l e { frames := 1, cells := 0, slots := 0, locals := 80 * (1) } s m args below meth c G b 1 (MQ below (zQ G b FQ) args s 0 0 (fun q : Nat => b ≤ q)) 0 0 91 [some (.ref (Q))] [.int y1_91, .ref (Q)] (L, M_91, N) := by
    intro y1_91 M_91 h
    unfold D_X3_stepNumber_91 at h
    obtain ⟨M_91, f_91, h⟩ := zLtx h
    refine d_puti X lf3_74 (by assumption) rfl dX3_stepNumber_91 f_91 ?_
    refine a_vret X hr dX3_stepNumber_94 ⟨by decide, by decide⟩ ?_
    subst hF
    rw [← Option.some.inj h]
    exact ⟨rfl, rfl⟩
  have J_72 : ∀ (M_72 : zMt), D_X3_stepNumber_72 Q M_72 = some r → Zw p l e { frames := 1, cells := 0, slots := 0, locals := 80 * (1) } s m args below meth c G b 1 (MQ below (zQ G b FQ) args s 0 0 (fun q : Nat => b ≤ q)) 0 0 72 [some (.ref (Q))] [] (L, M_72, N) := by
    intro M_72 h
    unfold D_X3_stepNumber_72 at h
    refine a_aload_n X dX3_stepNumber_72 rfl ?_
    refine a_aload_n X dX3_stepNumber_73 rfl ?_
    refine a_geti X lf3_55 (by assumption) rfl dX3_stepNumber_74 ?_
    refine a_aload_n X dX3_stepNumber_77 rfl ?_
    refine a_geti X lf3_89 (by assumption) rfl dX3_stepNumber_78 ?_
    refine a_isub X dX3_stepNumber_81 ?_
    refine a_iconst (v := 3) X dX3_stepNumber_82 (by decide) ?_
    refine a_icmp_gt (tgt := 90) X dX3_stepNumber_83 (by decide) (fun h_83 => ?_) (fun h_83 => ?_)
    · replace h := (if_pos h_83).symm.trans h
      refine a_iconst (v := 4) X dX3_stepNumber_90 (by decide) ?_
      exact Zw.to2 (J_91 _ _ h) rfl rfl rfl
    · replace h := (if_neg h_83).symm.trans h
      refine a_iconst (v := 2) X dX3_stepNumber_86 (by decide) ?_
      refine a_goto (tgt := 91) X dX3_stepNumber_87 (by decide) ?_
      exact Zw.to2 (J_91 _ _ h) rfl rfl rfl
  have L_5 : ∀ u : Nat, ∀ (M_5 : zMt), D_X3_stepNumber_5 Q u M_5 = some r → Zw p l e { frames := 1, cells := 0, slots := 0, locals := 80 * (1) } s m args below meth c G b 1 (MQ below (zQ G b FQ) args s 0 0 (fun q : Nat => b ≤ q)) 0 0 5 [some (.ref (Q))] [] (L, M_5, N) := by
    intro u
    induction u with
    | zero => intro M_5 h; cases (show none = some r from h)
    | succ u_5 ih_5 =>
      intro M_5 h
      rw [D_X3_stepNumber_5] at h
      refine a_aload_n X dX3_stepNumber_5 rfl ?_
      refine a_geti X lf3_55 (by assumption) rfl dX3_stepNumber_6 ?_
      refine a_aload_n X dX3_stepNumber_9 rfl ?_
      refine a_geti X lf3_52 (by assumption) rfl dX3_stepNumber_10 ?_
      refine a_icmp_ge (tgt := 72) X dX3_stepNumber_13 (by decide) (fun h_13 => ?_) (fun h_13 => ?_)
      · replace h := (if_pos h_13).symm.trans h
        exact Zw.to2 (J_72 _ h) rfl rfl rfl
      · replace h := (if_neg h_13).symm.trans h
        refine a_aload_n X dX3_stepNumber_16 rfl ?_
        refine a_getr X lf3_25 (by assumption) rfl (by omega) dX3_stepNumber_17 ?_
        refine a_aload_n X dX3_stepNumber_20 rfl ?_
        refine a_geti X lf3_55 (by assumption) rfl dX3_stepNumber_21 ?_
        refine a_callSNv X dX3_stepNumber_24 miX7_cell lm3_81 (c_cell (by assumption) (by first | decide | assumption)) rfl rfl (Nat.le_of_ble_eq_true rfl) ⟨by decide, by decide, by decide, by decide⟩ ?_
        obtain ⟨e_27, f_27, h⟩ := zBx h
        refine a_callSx X dX3_stepNumber_27 miX3_isDigit lm3_98 (t_X3_isDigit f_27) rfl rfl (Nat.le_of_ble_eq_true rfl) ⟨by decide, by decide, by decide, by decide⟩ (fun r_27 S_27 q_27 => ?_)
        obtain ⟨rfl, rfl, b_27⟩ := q_27
        refine a_if_eq (tgt := 72) X dX3_stepNumber_30 (by decide) (fun h_30 => ?_) (fun h_30 => ?_)
        · replace h := (if_pos h_30).symm.trans h
          exact Zw.to2 (J_72 _ h) rfl rfl rfl
        · replace h := (if_neg h_30).symm.trans h
          refine a_aload_n X dX3_stepNumber_33 rfl ?_
          refine a_aload_n X dX3_stepNumber_34 rfl ?_
          refine a_geti X lf3_110 (by assumption) rfl dX3_stepNumber_35 ?_
          refine a_bipush (v := 10) X dX3_stepNumber_38 (by decide) ?_
          refine a_imul X dX3_stepNumber_40 ?_
          refine a_aload_n X dX3_stepNumber_41 rfl ?_
          refine a_getr X lf3_25 (by assumption) rfl (by omega) dX3_stepNumber_42 ?_
          refine a_aload_n X dX3_stepNumber_45 rfl ?_
          refine a_geti X lf3_55 (by assumption) rfl dX3_stepNumber_46 ?_
          refine a_callSNv X dX3_stepNumber_49 miX7_cell lm3_81 (c_cell (by assumption) (by first | decide | assumption)) rfl rfl (Nat.le_of_ble_eq_true rfl) ⟨by decide, by decide, by decide, by decide⟩ ?_
          refine a_bipush (v := 48) X dX3_stepNumber_52 (by decide) ?_
          refine a_isub X dX3_stepNumber_54 ?_
          refine a_iadd X dX3_stepNumber_55 ?_
          obtain ⟨M_56, f_56, h⟩ := zLtx h
          refine d_puti X lf3_110 (by assumption) rfl dX3_stepNumber_56 f_56 ?_
          refine a_aload_n X dX3_stepNumber_59 rfl ?_
          refine a_dup X dX3_stepNumber_60 rfl ?_
          refine a_geti X lf3_55 (by assumption) rfl dX3_stepNumber_61 ?_
          refine a_iconst (v := 1) X dX3_stepNumber_64 (by decide) ?_
          refine a_iadd X dX3_stepNumber_65 ?_
          obtain ⟨M_66, f_66, h⟩ := zLtx h
          refine d_puti X lf3_55 (by assumption) rfl dX3_stepNumber_66 f_66 ?_
          refine a_goto (tgt := 5) X dX3_stepNumber_69 (by decide) ?_
          exact Zw.to2 (ih_5 _ h) rfl rfl rfl
  have H_5 : ∀ (M_5 : zMt), D_X3_stepNumber_5 Q zFu M_5 = some r → Zw p l e { frames := 1, cells := 0, slots := 0, locals := 80 * (1) } s m args below meth c G b 1 (MQ below (zQ G b FQ) args s 0 0 (fun q : Nat => b ≤ q)) 0 0 5 [some (.ref (Q))] [] (L, M_5, N) := L_5 zFu
  unfold D_X3_stepNumber at h
  refine a_aload_n X dX3_stepNumber_0 rfl ?_
  refine a_iconst (v := 0) X dX3_stepNumber_1 (by decide) ?_
  obtain ⟨M_2, f_2, h⟩ := zLtx h
  refine d_puti X lf3_110 (by assumption) rfl dX3_stepNumber_2 f_2 ?_
  exact Zw.to2 (H_5 _ h) rfl rfl rfl
noncomputable def D_X3_step_137 (Q : Nat) (M_137 : zMt) (N_137 : zNt) : Option (zMt × zNt) :=
  some (M_137, N_137)
noncomputable def D_X3_step_41 (Q : Nat) (M_41 : zMt) (N_41 : zNt) : Option (zMt × zNt) :=
  zLt (zu M_41 Q 7 (M_41 Q 5)) fun M_46 =>
  if (M_46 Q 5) < (M_46 Q 4) then
    zB (D_X3_isLetter (zrd 0 (M_46 (Q + 9)) 700 (M_46 Q 5))) fun e_81 =>
    if e_81 = 0 then
      zB (D_X3_isDigit (zrd 0 (M_46 (Q + 9)) 700 (M_46 Q 5))) fun e_95 =>
      if e_95 = 0 then
        if (zrd 0 (M_46 (Q + 9)) 700 (M_46 Q 5)) = (59 : Int32) then
          zLt (zu M_46 Q 6 (3 : Int32)) fun M_116 =>
          zLt (zu M_116 Q 5 ((M_116 Q 5) + (1 : Int32))) fun M_126 =>
          D_X3_step_137 Q M_126 N_41
        else
          zLt (zu M_46 Q 6 (4 : Int32)) fun M_134 =>
          D_X3_step_137 Q M_134 N_41
      else
        zB (D_X3_stepNumber Q M_46) fun e_102 =>
        D_X3_step_137 Q e_102 N_41
    else
      zB (D_X3_stepWord Q M_46 N_41) fun e_88 =>
      D_X3_step_137 Q e_88.1 e_88.2
  else
    zLt (zu M_46 Q 6 (0 : Int32)) fun M_74 =>
    D_X3_step_137 Q M_74 N_41
noncomputable def D_X3_step_0 (Q : Nat) : Nat → zMt → zNt → Option (zMt × zNt)
  | 0, _, _ => none
  | n + 1, M_0, N_0 =>
    if (M_0 Q 4) ≤ (M_0 Q 5) then
      D_X3_step_41 Q M_0 N_0
    else
      zB (D_X3_isBlank (zrd 0 (M_0 (Q + 9)) 700 (M_0 Q 5))) fun e_22 =>
      if e_22 = 0 then
        D_X3_step_41 Q M_0 N_0
      else
        zLt (zu M_0 Q 5 ((M_0 Q 5) + (1 : Int32))) fun M_35 =>
        (D_X3_step_0 Q n) M_35 N_0
noncomputable def D_X3_step (Q : Nat) (M : zMt) (N : zNt) : Option (zMt × zNt) :=
  D_X3_step_0 Q zFu M N
set_option maxRecDepth 100000 in
set_option maxHeartbeats 4000000 in
theorem t_X3_step {l : Launch} {G : zG} {b : Nat} {L : List zC} {M : zMt} {N : zNt} {Q : Nat}  (hQ : LX3 L Q) {r : zMt × zNt} (h : D_X3_step Q M N = some r) : zM l G b yX3_step cX3_step 2 none 2 0 0 [.ref Q] (L, M, N) (fun r2 z => r2 = none ∧ z = (L, r.1, r.2)) := by
  refine zM.of miX3_step (Nat.le_of_ble_eq_true rfl) ?_
  intro p e s m args below meth c X hr hname
  generalize hF : ((fun r2 z => r2 = none ∧ z = (L, r.1, r.2)) : Option Value → zS → Prop) = FQ
  change Zw p l e { frames := 2, cells := 0, slots := 0, locals := 80 * (2) } s m args below meth c G b 2 (MQ below (zQ G b FQ) args s 0 0 (fun q : Nat => b ≤ q)) 0 0 0 [some (.ref Q), none] [] (L, M, N)
  obtain ⟨q_lt, q_o, q_draft, q_text, q_unitNames, q_hunterNames, q_partyNames, q_asked⟩ := id hQ
  obtain ⟨q_draft_lt, q_draft_o, q_draft_quota, q_draft_score, q_draft_guest, q_draft_party, q_draft_wishCount, q_draft_wishes, q_draft_has⟩ := id q_draft
  have J_137 : ∀ (x1_137 : Int32) (M_137 : zMt) (N_137 : zNt), D_X3_step_137 Q M_137 N_137 = some r → Zw p l e { frames := 2, cells := 0, slots := 0, locals := 80 * (2) } s m args below meth c G b 2 (MQ below (zQ G b FQ) args s 0 0 (fun q : Nat => b ≤ q)) 0 0 137 [some (.ref (Q)), some (.int x1_137)] [] (L, M_137, N_137) := by
    intro x1_137 M_137 N_137 h
    unfold D_X3_step_137 at h
    refine a_vret X hr dX3_step_137 ⟨by decide, by decide⟩ ?_
    subst hF
    rw [← Option.some.inj h]
    exact ⟨rfl, rfl⟩
  have J_41 : ∀ (x1_41 : Option Value) (M_41 : zMt) (N_41 : zNt), D_X3_step_41 Q M_41 N_41 = some r → Zw p l e { frames := 2, cells := 0, slots := 0, locals := 80 * (2) } s m args below meth c G b 2 (MQ below (zQ G b FQ) args s 0 0 (fun q : Nat => b ≤ q)) 0 0 41 [some (.ref (Q)), x1_41] [] (L, M_41, N_41) := by
    intro x1_41 M_41 N_41 h
    unfold D_X3_step_41 at h
    refine a_aload_n X dX3_step_41 rfl ?_
    refine a_aload_n X dX3_step_42 rfl ?_
    refine a_geti X lf3_55 (by assumption) rfl dX3_step_43 ?_
    obtain ⟨M_46, f_46, h⟩ := zLtx h
    refine d_puti X lf3_89 (by assumption) rfl dX3_step_46 f_46 ?_
    refine a_aload_n X dX3_step_49 rfl ?_
    refine a_getr X lf3_25 (by assumption) rfl (by omega) dX3_step_50 ?_
    refine a_aload_n X dX3_step_53 rfl ?_
    refine a_geti X lf3_55 (by assumption) rfl dX3_step_54 ?_
    refine a_callSNv X dX3_step_57 miX7_cell lm3_81 (c_cell (by assumption) (by first | decide | assumption)) rfl rfl (Nat.le_of_ble_eq_true rfl) ⟨by decide, by decide, by decide, by decide⟩ ?_
    refine a_istore_n X dX3_step_60 (by decide) ?_
    refine a_aload_n X dX3_step_61 rfl ?_
    refine a_geti X lf3_55 (by assumption) rfl dX3_step_62 ?_
    refine a_aload_n X dX3_step_65 rfl ?_
    refine a_geti X lf3_52 (by assumption) rfl dX3_step_66 ?_
    refine a_icmp_lt (tgt := 80) X dX3_step_69 (by decide) (fun h_69 => ?_) (fun h_69 => ?_)
    · replace h := (if_pos h_69).symm.trans h
      refine a_iload_n X dX3_step_80 rfl ?_
      obtain ⟨e_81, f_81, h⟩ := zBx h
      refine a_callSx X dX3_step_81 miX3_isLetter lm3_92 (t_X3_isLetter f_81) rfl rfl (Nat.le_of_ble_eq_true rfl) ⟨by decide, by decide, by decide, by decide⟩ (fun r_81 S_81 q_81 => ?_)
      obtain ⟨rfl, rfl, b_81⟩ := q_81
      refine a_if_eq (tgt := 94) X dX3_step_84 (by decide) (fun h_84 => ?_) (fun h_84 => ?_)
      · replace h := (if_pos h_84).symm.trans h
        refine a_iload_n X dX3_step_94 rfl ?_
        obtain ⟨e_95, f_95, h⟩ := zBx h
        refine a_callSx X dX3_step_95 miX3_isDigit lm3_98 (t_X3_isDigit f_95) rfl rfl (Nat.le_of_ble_eq_true rfl) ⟨by decide, by decide, by decide, by decide⟩ (fun r_95 S_95 q_95 => ?_)
        obtain ⟨rfl, rfl, b_95⟩ := q_95
        refine a_if_eq (tgt := 108) X dX3_step_98 (by decide) (fun h_98 => ?_) (fun h_98 => ?_)
        · replace h := (if_pos h_98).symm.trans h
          refine a_iload_n X dX3_step_108 rfl ?_
          refine a_bipush (v := 59) X dX3_step_109 (by decide) ?_
          refine a_icmp_ne (tgt := 132) X dX3_step_111 (by decide) (fun h_111 => ?_) (fun h_111 => ?_)
          · replace h := (if_neg h_111).symm.trans h
            refine a_aload_n X dX3_step_132 rfl ?_
            refine a_iconst (v := 4) X dX3_step_133 (by decide) ?_
            obtain ⟨M_134, f_134, h⟩ := zLtx h
            refine d_puti X lf3_74 (by assumption) rfl dX3_step_134 f_134 ?_
            exact Zw.to2 (J_137 _ _ _ h) rfl rfl rfl
          · replace h := (if_pos h_111).symm.trans h
            refine a_aload_n X dX3_step_114 rfl ?_
            refine a_iconst (v := 3) X dX3_step_115 (by decide) ?_
            obtain ⟨M_116, f_116, h⟩ := zLtx h
            refine d_puti X lf3_74 (by assumption) rfl dX3_step_116 f_116 ?_
            refine a_aload_n X dX3_step_119 rfl ?_
            refine a_dup X dX3_step_120 rfl ?_
            refine a_geti X lf3_55 (by assumption) rfl dX3_step_121 ?_
            refine a_iconst (v := 1) X dX3_step_124 (by decide) ?_
            refine a_iadd X dX3_step_125 ?_
            obtain ⟨M_126, f_126, h⟩ := zLtx h
            refine d_puti X lf3_55 (by assumption) rfl dX3_step_126 f_126 ?_
            refine a_goto (tgt := 137) X dX3_step_129 (by decide) ?_
            exact Zw.to2 (J_137 _ _ _ h) rfl rfl rfl
        · replace h := (if_neg h_98).symm.trans h
          refine a_aload_n X dX3_step_101 rfl ?_
          obtain ⟨e_102, f_102, h⟩ := zBx h
          refine a_callVu X dX3_step_102 miX3_stepNumber lm3_101 (t_X3_stepNumber (by assumption) f_102) (by assumption) rfl rfl rfl (Nat.le_of_ble_eq_true rfl) ⟨by decide, by decide, by decide, by decide⟩ ?_
          refine a_goto (tgt := 137) X dX3_step_105 (by decide) ?_
          exact Zw.to2 (J_137 _ _ _ h) rfl rfl rfl
      · replace h := (if_neg h_84).symm.trans h
        refine a_aload_n X dX3_step_87 rfl ?_
        obtain ⟨e_88, f_88, h⟩ := zBx h
        refine a_callVu X dX3_step_88 miX3_stepWord lm3_95 (t_X3_stepWord (by assumption) f_88) (by assumption) rfl rfl rfl (Nat.le_of_ble_eq_true rfl) ⟨by decide, by decide, by decide, by decide⟩ ?_
        refine a_goto (tgt := 137) X dX3_step_91 (by decide) ?_
        exact Zw.to2 (J_137 _ _ _ h) rfl rfl rfl
    · replace h := (if_neg h_69).symm.trans h
      refine a_aload_n X dX3_step_72 rfl ?_
      refine a_iconst (v := 0) X dX3_step_73 (by decide) ?_
      obtain ⟨M_74, f_74, h⟩ := zLtx h
      refine d_puti X lf3_74 (by assumption) rfl dX3_step_74 f_74 ?_
      refine a_goto (tgt := 137) X dX3_step_77 (by decide) ?_
      exact Zw.to2 (J_137 _ _ _ h) rfl rfl rfl
  have L_0 : ∀ u : Nat, ∀ (x1_0 : Option Value) (M_0 : zMt) (N_0 : zNt), D_X3_step_0 Q u M_0 N_0 = some r → Zw p l e { frames := 2, cells := 0, slots := 0, locals := 80 * (2) } s m args below meth c G b 2 (MQ below (zQ G b FQ) args s 0 0 (fun q : Nat => b ≤ q)) 0 0 0 [some (.ref (Q)), x1_0] [] (L, M_0, N_0) := by
    intro u
    induction u with
    | zero => intro x1_0 M_0 N_0 h; cases (show none = some r from h)
    | succ u_0 ih_0 =>
      intro x1_0 M_0 N_0 h
      rw [D_X3_step_0] at h
      refine a_aload_n X dX3_step_0 rfl ?_
      refine a_geti X lf3_55 (by assumption) rfl dX3_step_1 ?_
      refine a_aload_n X dX3_step_4 rfl ?_
      refine a_geti X lf3_52 (by assumption) rfl dX3_step_5 ?_
      refine a_icmp_ge (tgt := 41) X dX3_step_8 (by decide) (fun h_8 => ?_) (fun h_8 => ?_)
      · replace h := (if_pos h_8).symm.trans h
        exact Zw.to2 (J_41 _ _ _ h) rfl rfl rfl
      · replace h := (if_neg h_8).symm.trans h
        refine a_aload_n X dX3_step_11 rfl ?_
        refine a_getr X lf3_25 (by assumption) rfl (by omega) dX3_step_12 ?_
        refine a_aload_n X dX3_step_15 rfl ?_
        refine a_geti X lf3_55 (by assumption) rfl dX3_step_16 ?_
        refine a_callSNv X dX3_step_19 miX7_cell lm3_81 (c_cell (by assumption) (by first | decide | assumption)) rfl rfl (Nat.le_of_ble_eq_true rfl) ⟨by decide, by decide, by decide, by decide⟩ ?_
        obtain ⟨e_22, f_22, h⟩ := zBx h
        refine a_callSx X dX3_step_22 miX3_isBlank lm3_85 (t_X3_isBlank f_22) rfl rfl (Nat.le_of_ble_eq_true rfl) ⟨by decide, by decide, by decide, by decide⟩ (fun r_22 S_22 q_22 => ?_)
        obtain ⟨rfl, rfl, b_22⟩ := q_22
        refine a_if_eq (tgt := 41) X dX3_step_25 (by decide) (fun h_25 => ?_) (fun h_25 => ?_)
        · replace h := (if_pos h_25).symm.trans h
          exact Zw.to2 (J_41 _ _ _ h) rfl rfl rfl
        · replace h := (if_neg h_25).symm.trans h
          refine a_aload_n X dX3_step_28 rfl ?_
          refine a_dup X dX3_step_29 rfl ?_
          refine a_geti X lf3_55 (by assumption) rfl dX3_step_30 ?_
          refine a_iconst (v := 1) X dX3_step_33 (by decide) ?_
          refine a_iadd X dX3_step_34 ?_
          obtain ⟨M_35, f_35, h⟩ := zLtx h
          refine d_puti X lf3_55 (by assumption) rfl dX3_step_35 f_35 ?_
          refine a_goto (tgt := 0) X dX3_step_38 (by decide) ?_
          exact Zw.to2 (ih_0 _ _ _ h) rfl rfl rfl
  have H_0 : ∀ (x1_0 : Option Value) (M_0 : zMt) (N_0 : zNt), D_X3_step_0 Q zFu M_0 N_0 = some r → Zw p l e { frames := 2, cells := 0, slots := 0, locals := 80 * (2) } s m args below meth c G b 2 (MQ below (zQ G b FQ) args s 0 0 (fun q : Nat => b ≤ q)) 0 0 0 [some (.ref (Q)), x1_0] [] (L, M_0, N_0) := L_0 zFu
  unfold D_X3_step at h
  exact Zw.to2 (H_0 _ _ _ h) rfl rfl rfl
noncomputable def D_X3_says_28 (Q : Nat) (w0 : Nat) (M : zMt) : Nat → Int32 → Option (Int32)
  | 0, _ => none
  | n + 1, x2_28 =>
    if (Int32.ofNat (zLen.getD w0 0)) ≤ x2_28 then
      some ((1 : Int32))
    else
      zI x2_28 (zLen.getD w0 0) <|
      if (zrd 0 (M (Q + 9)) 700 ((M Q 7) + x2_28)) = (zCh w0 x2_28.toNatClampNeg) then
        (D_X3_says_28 Q w0 M n) (x2_28 + 1)
      else
        some ((0 : Int32))
noncomputable def D_X3_says_24 (Q : Nat) (w0 : Nat) (M : zMt)  : Option (Int32) :=
  some ((0 : Int32))
noncomputable def D_X3_says (Q : Nat) (w0 : Nat) (M : zMt)  : Option (Int32) :=
  if (M Q 6) = (1 : Int32) then
    if ((M Q 5) - (M Q 7)) = (Int32.ofNat (zLen.getD w0 0)) then
      D_X3_says_28 Q w0 M zFu (0 : Int32)
    else
      D_X3_says_24 Q w0 M
  else
    D_X3_says_24 Q w0 M
set_option maxRecDepth 100000 in
set_option maxHeartbeats 4000000 in
theorem t_X3_says {l : Launch} {G : zG} {b : Nat} {L : List zC} {M : zMt} {N : zNt} {Q : Nat} {w0 : Nat}  (hQ : LX3 L Q) (hw0 : w0 < zLit.length) {r : Int32} (h : D_X3_says Q w0 M = some r) : zM l G b yX3_says cX3_says 3 (some .boolean) 4 0 0 [.ref Q, .ref (1000000 + zKa G w0)] (L, M, N) (fun r2 z => r2 = some (.int r) ∧ z = (L, M, N) ∧ (r = 0 ∨ r = 1)) := by
  refine zM.of miX3_says (Nat.le_of_ble_eq_true rfl) ?_
  intro p e s m args below meth c X hr hname
  generalize hF : ((fun r2 z => r2 = some (.int r) ∧ z = (L, M, N) ∧ (r = 0 ∨ r = 1)) : Option Value → zS → Prop) = FQ
  change Zw p l e { frames := 4, cells := 0, slots := 0, locals := 80 * (4) } s m args below meth c G b 3 (MQ below (zQ G b FQ) args s 0 0 (fun q : Nat => b ≤ q)) 0 0 0 [some (.ref Q), some (.ref (1000000 + zKa G w0)), none] [] (L, M, N)
  obtain ⟨q_lt, q_o, q_draft, q_text, q_unitNames, q_hunterNames, q_partyNames, q_asked⟩ := id hQ
  obtain ⟨q_draft_lt, q_draft_o, q_draft_quota, q_draft_score, q_draft_guest, q_draft_party, q_draft_wishCount, q_draft_wishes, q_draft_has⟩ := id q_draft
  have L_28 : ∀ u : Nat, ∀ (x2_28 : Int32), D_X3_says_28 Q w0 M u x2_28 = some r → Zw p l e { frames := 4, cells := 0, slots := 0, locals := 80 * (4) } s m args below meth c G b 3 (MQ below (zQ G b FQ) args s 0 0 (fun q : Nat => b ≤ q)) 0 0 28 [some (.ref (Q)), some (.ref (1000000 + zKa G w0)), some (.int x2_28)] [] (L, M, N) := by
    intro u
    induction u with
    | zero => intro x2_28 h; cases (show none = some r from h)
    | succ u_28 ih_28 =>
      intro x2_28 h
      rw [D_X3_says_28] at h
      refine a_iload_n X dX3_says_28 rfl ?_
      refine a_aload_n X dX3_says_29 rfl ?_
      refine a_invVs X miJ0_length_8abf5 lm3_113 (by first | assumption | decide) rfl rfl rfl (Nat.le_of_ble_eq_true rfl) ⟨by decide, by decide, by decide, by decide⟩ dX3_says_30 (c_length (by first | assumption | decide)) (fun r_30 S_30 q_30 => ?_)
      obtain ⟨rfl, rfl⟩ := q_30
      refine a_icmp_ge (tgt := 65) X dX3_says_33 (by decide) (fun h_33 => ?_) (fun h_33 => ?_)
      · replace h := (if_pos h_33).symm.trans h
        refine a_iconst (v := 1) X dX3_says_65 (by decide) ?_
        refine a_zret X (by first | exact Or.inl rfl | exact Or.inr rfl | assumption) hr dX3_says_66 ⟨by decide, by decide⟩ ?_
        subst hF
        rw [← Option.some.inj h]
        exact ⟨rfl, rfl, (by first | exact Or.inl rfl | exact Or.inr rfl | assumption)⟩
      · replace h := (if_neg h_33).symm.trans h
        refine a_aload_n X dX3_says_36 rfl ?_
        refine a_getr X lf3_25 (by assumption) rfl (by omega) dX3_says_37 ?_
        refine a_aload_n X dX3_says_40 rfl ?_
        refine a_geti X lf3_89 (by assumption) rfl dX3_says_41 ?_
        refine a_iload_n X dX3_says_44 rfl ?_
        refine a_iadd X dX3_says_45 ?_
        refine a_callSNv X dX3_says_46 miX7_cell lm3_81 (c_cell (by assumption) (by first | decide | assumption)) rfl rfl (Nat.le_of_ble_eq_true rfl) ⟨by decide, by decide, by decide, by decide⟩ ?_
        refine a_aload_n X dX3_says_49 rfl ?_
        refine a_iload_n X dX3_says_50 rfl ?_
        obtain ⟨g_51, h⟩ := zIx h
        refine a_invVs X miJ0_charAt_5068e lm3_118 (by first | assumption | decide) rfl rfl rfl (Nat.le_of_ble_eq_true rfl) ⟨by decide, by decide, by decide, by decide⟩ dX3_says_51 (t_charAt (by first | assumption | decide) g_51) (fun r_51 S_51 q_51 => ?_)
        obtain ⟨rfl, rfl⟩ := q_51
        refine a_icmp_eq (tgt := 59) X dX3_says_54 (by decide) (fun h_54 => ?_) (fun h_54 => ?_)
        · replace h := (if_pos h_54).symm.trans h
          refine a_iinc (v := x2_28 + 1) X dX3_says_59 (by decide) rfl zi_1 ?_
          refine a_goto (tgt := 28) X dX3_says_62 (by decide) ?_
          exact Zw.to2 (ih_28 _ h) rfl rfl rfl
        · replace h := (if_neg h_54).symm.trans h
          refine a_iconst (v := 0) X dX3_says_57 (by decide) ?_
          refine a_zret X (by first | exact Or.inl rfl | exact Or.inr rfl | assumption) hr dX3_says_58 ⟨by decide, by decide⟩ ?_
          subst hF
          rw [← Option.some.inj h]
          exact ⟨rfl, rfl, (by first | exact Or.inl rfl | exact Or.inr rfl | assumption)⟩
  have H_28 : ∀ (x2_28 : Int32), D_X3_says_28 Q w0 M zFu x2_28 = some r → Zw p l e { frames := 4, cells := 0, slots := 0, locals := 80 * (4) } s m args below meth c G b 3 (MQ below (zQ G b FQ) args s 0 0 (fun q : Nat => b ≤ q)) 0 0 28 [some (.ref (Q)), some (.ref (1000000 + zKa G w0)), some (.int x2_28)] [] (L, M, N) := L_28 zFu
  have J_24 : ∀ (x2_24 : Option Value), D_X3_says_24 Q w0 M = some r → Zw p l e { frames := 4, cells := 0, slots := 0, locals := 80 * (4) } s m args below meth c G b 3 (MQ below (zQ G b FQ) args s 0 0 (fun q : Nat => b ≤ q)) 0 0 24 [some (.ref (Q)), some (.ref (1000000 + zKa G w0)), x2_24] [] (L, M, N) := by
    intro x2_24 h
    unfold D_X3_says_24 at h
    refine a_iconst (v := 0) X dX3_says_24 (by decide) ?_
    refine a_zret X (by first | exact Or.inl rfl | exact Or.inr rfl | assumption) hr dX3_says_25 ⟨by decide, by decide⟩ ?_
    subst hF
    rw [← Option.some.inj h]
    exact ⟨rfl, rfl, (by first | exact Or.inl rfl | exact Or.inr rfl | assumption)⟩
  unfold D_X3_says at h
  refine a_aload_n X dX3_says_0 rfl ?_
  refine a_geti X lf3_74 (by assumption) rfl dX3_says_1 ?_
  refine a_iconst (v := 1) X dX3_says_4 (by decide) ?_
  refine a_icmp_ne (tgt := 24) X dX3_says_5 (by decide) (fun h_5 => ?_) (fun h_5 => ?_)
  · replace h := (if_neg h_5).symm.trans h
    exact Zw.to2 (J_24 _ h) rfl rfl rfl
  · replace h := (if_pos h_5).symm.trans h
    refine a_aload_n X dX3_says_8 rfl ?_
    refine a_geti X lf3_55 (by assumption) rfl dX3_says_9 ?_
    refine a_aload_n X dX3_says_12 rfl ?_
    refine a_geti X lf3_89 (by assumption) rfl dX3_says_13 ?_
    refine a_isub X dX3_says_16 ?_
    refine a_aload_n X dX3_says_17 rfl ?_
    refine a_invVs X miJ0_length_8abf5 lm3_113 (by first | assumption | decide) rfl rfl rfl (Nat.le_of_ble_eq_true rfl) ⟨by decide, by decide, by decide, by decide⟩ dX3_says_18 (c_length (by first | assumption | decide)) (fun r_18 S_18 q_18 => ?_)
    obtain ⟨rfl, rfl⟩ := q_18
    refine a_icmp_eq (tgt := 26) X dX3_says_21 (by decide) (fun h_21 => ?_) (fun h_21 => ?_)
    · replace h := (if_pos h_21).symm.trans h
      refine a_iconst (v := 0) X dX3_says_26 (by decide) ?_
      refine a_istore_n X dX3_says_27 (by decide) ?_
      exact Zw.to2 (H_28 _ h) rfl rfl rfl
    · replace h := (if_neg h_21).symm.trans h
      exact Zw.to2 (J_24 _ h) rfl rfl rfl
noncomputable def D_X3_isName_85 (Q : Nat) (M : zMt) (y0_85 : Int32) : Option (Int32) :=
  some (y0_85)
noncomputable def D_X3_isName_84 (Q : Nat) (M : zMt)  : Option (Int32) :=
  D_X3_isName_85 Q M (0 : Int32)
noncomputable def D_X3_isName (Q : Nat) (M : zMt)  : Option (Int32) :=
  if (M Q 6) = (1 : Int32) then
    zB (D_X3_says Q 0 M) fun e_11 =>
    if e_11 = 0 then
      zB (D_X3_says Q 1 M) fun e_20 =>
      if e_20 = 0 then
        zB (D_X3_says Q 2 M) fun e_29 =>
        if e_29 = 0 then
          zB (D_X3_says Q 3 M) fun e_38 =>
          if e_38 = 0 then
            zB (D_X3_says Q 4 M) fun e_47 =>
            if e_47 = 0 then
              zB (D_X3_says Q 5 M) fun e_56 =>
              if e_56 = 0 then
                zB (D_X3_says Q 6 M) fun e_65 =>
                if e_65 = 0 then
                  zB (D_X3_says Q 7 M) fun e_74 =>
                  if e_74 = 0 then
                    D_X3_isName_85 Q M (1 : Int32)
                  else
                    D_X3_isName_84 Q M
                else
                  D_X3_isName_84 Q M
              else
                D_X3_isName_84 Q M
            else
              D_X3_isName_84 Q M
          else
            D_X3_isName_84 Q M
        else
          D_X3_isName_84 Q M
      else
        D_X3_isName_84 Q M
    else
      D_X3_isName_84 Q M
  else
    D_X3_isName_84 Q M
set_option maxRecDepth 100000 in
set_option maxHeartbeats 4000000 in
theorem t_X3_isName {l : Launch} {G : zG} {b : Nat} {L : List zC} {M : zMt} {N : zNt} {Q : Nat}  (hQ : LX3 L Q) {r : Int32} (h : D_X3_isName Q M = some r) : zM l G b yX3_isName cX3_isName 1 (some .boolean) 5 0 0 [.ref Q] (L, M, N) (fun r2 z => r2 = some (.int r) ∧ z = (L, M, N) ∧ (r = 0 ∨ r = 1)) := by
  refine zM.of miX3_isName (Nat.le_of_ble_eq_true rfl) ?_
  intro p e s m args below meth c X hr hname
  generalize hF : ((fun r2 z => r2 = some (.int r) ∧ z = (L, M, N) ∧ (r = 0 ∨ r = 1)) : Option Value → zS → Prop) = FQ
  change Zw p l e { frames := 5, cells := 0, slots := 0, locals := 80 * (5) } s m args below meth c G b 1 (MQ below (zQ G b FQ) args s 0 0 (fun q : Nat => b ≤ q)) 0 0 0 [some (.ref Q)] [] (L, M, N)
  obtain ⟨q_lt, q_o, q_draft, q_text, q_unitNames, q_hunterNames, q_partyNames, q_asked⟩ := id hQ
  obtain ⟨q_draft_lt, q_draft_o, q_draft_quota, q_draft_score, q_draft_guest, q_draft_party, q_draft_wishCount, q_draft_wishes, q_draft_has⟩ := id q_draft
  have J_85 : ∀ (y0_85 : Int32), (y0_85 = 0 ∨ y0_85 = 1) → D_X3_isName_85 Q M y0_85 = some r → Zw p l e { frames := 5, cells := 0, slots := 0, locals := 80 * (5) } s m args below meth c G b 1 (MQ below (zQ G b FQ) args s 0 0 (fun q : Nat => b ≤ q)) 0 0 85 [some (.ref (Q))] [.int y0_85] (L, M, N) := by
    intro y0_85 fb_y0_85 h
    unfold D_X3_isName_85 at h
    refine a_zret X (by first | exact Or.inl rfl | exact Or.inr rfl | assumption) hr dX3_isName_85 ⟨by decide, by decide⟩ ?_
    subst hF
    rw [← Option.some.inj h]
    exact ⟨rfl, rfl, (by first | exact Or.inl rfl | exact Or.inr rfl | assumption)⟩
  have J_84 : D_X3_isName_84 Q M = some r → Zw p l e { frames := 5, cells := 0, slots := 0, locals := 80 * (5) } s m args below meth c G b 1 (MQ below (zQ G b FQ) args s 0 0 (fun q : Nat => b ≤ q)) 0 0 84 [some (.ref (Q))] [] (L, M, N) := by
    intro h
    unfold D_X3_isName_84 at h
    refine a_iconst (v := 0) X dX3_isName_84 (by decide) ?_
    exact Zw.to2 (J_85 _ (by first | exact Or.inl rfl | exact Or.inr rfl | assumption) h) rfl rfl rfl
  unfold D_X3_isName at h
  refine a_aload_n X dX3_isName_0 rfl ?_
  refine a_geti X lf3_74 (by assumption) rfl dX3_isName_1 ?_
  refine a_iconst (v := 1) X dX3_isName_4 (by decide) ?_
  refine a_icmp_ne (tgt := 84) X dX3_isName_5 (by decide) (fun h_5 => ?_) (fun h_5 => ?_)
  · replace h := (if_neg h_5).symm.trans h
    exact Zw.to2 (J_84 h) rfl rfl rfl
  · replace h := (if_pos h_5).symm.trans h
    refine a_aload_n X dX3_isName_8 rfl ?_
    refine a_ldcS (i := 0) (q := ("TagDraw$Reader", 122, "unit")) X rfl rfl rfl dX3_isName_9 ?_
    obtain ⟨e_11, f_11, h⟩ := zBx h
    refine a_callVx X dX3_isName_11 miX3_says lm3_124 (t_X3_says (by assumption) (by first | assumption | decide) f_11) (by assumption) rfl rfl rfl (Nat.le_of_ble_eq_true rfl) ⟨by decide, by decide, by decide, by decide⟩ (fun r_11 S_11 q_11 => ?_)
    obtain ⟨rfl, rfl, b_11⟩ := q_11
    refine a_if_ne (tgt := 84) X dX3_isName_14 (by decide) (fun h_14 => ?_) (fun h_14 => ?_)
    · replace h := (if_neg h_14).symm.trans h
      exact Zw.to2 (J_84 h) rfl rfl rfl
    · replace h := (if_pos h_14).symm.trans h
      refine a_aload_n X dX3_isName_17 rfl ?_
      refine a_ldcS (i := 1) (q := ("TagDraw$Reader", 128, "hunter")) X rfl rfl rfl dX3_isName_18 ?_
      obtain ⟨e_20, f_20, h⟩ := zBx h
      refine a_callVx X dX3_isName_20 miX3_says lm3_124 (t_X3_says (by assumption) (by first | assumption | decide) f_20) (by assumption) rfl rfl rfl (Nat.le_of_ble_eq_true rfl) ⟨by decide, by decide, by decide, by decide⟩ (fun r_20 S_20 q_20 => ?_)
      obtain ⟨rfl, rfl, b_20⟩ := q_20
      refine a_if_ne (tgt := 84) X dX3_isName_23 (by decide) (fun h_23 => ?_) (fun h_23 => ?_)
      · replace h := (if_neg h_23).symm.trans h
        exact Zw.to2 (J_84 h) rfl rfl rfl
      · replace h := (if_pos h_23).symm.trans h
        refine a_aload_n X dX3_isName_26 rfl ?_
        refine a_ldcS (i := 2) (q := ("TagDraw$Reader", 130, "guest")) X rfl rfl rfl dX3_isName_27 ?_
        obtain ⟨e_29, f_29, h⟩ := zBx h
        refine a_callVx X dX3_isName_29 miX3_says lm3_124 (t_X3_says (by assumption) (by first | assumption | decide) f_29) (by assumption) rfl rfl rfl (Nat.le_of_ble_eq_true rfl) ⟨by decide, by decide, by decide, by decide⟩ (fun r_29 S_29 q_29 => ?_)
        obtain ⟨rfl, rfl, b_29⟩ := q_29
        refine a_if_ne (tgt := 84) X dX3_isName_32 (by decide) (fun h_32 => ?_) (fun h_32 => ?_)
        · replace h := (if_neg h_32).symm.trans h
          exact Zw.to2 (J_84 h) rfl rfl rfl
        · replace h := (if_pos h_32).symm.trans h
          refine a_aload_n X dX3_isName_35 rfl ?_
          refine a_ldcS (i := 3) (q := ("TagDraw$Reader", 132, "party")) X rfl rfl rfl dX3_isName_36 ?_
          obtain ⟨e_38, f_38, h⟩ := zBx h
          refine a_callVx X dX3_isName_38 miX3_says lm3_124 (t_X3_says (by assumption) (by first | assumption | decide) f_38) (by assumption) rfl rfl rfl (Nat.le_of_ble_eq_true rfl) ⟨by decide, by decide, by decide, by decide⟩ (fun r_38 S_38 q_38 => ?_)
          obtain ⟨rfl, rfl, b_38⟩ := q_38
          refine a_if_ne (tgt := 84) X dX3_isName_41 (by decide) (fun h_41 => ?_) (fun h_41 => ?_)
          · replace h := (if_neg h_41).symm.trans h
            exact Zw.to2 (J_84 h) rfl rfl rfl
          · replace h := (if_pos h_41).symm.trans h
            refine a_aload_n X dX3_isName_44 rfl ?_
            refine a_ldcS (i := 4) (q := ("TagDraw$Reader", 134, "asks")) X rfl rfl rfl dX3_isName_45 ?_
            obtain ⟨e_47, f_47, h⟩ := zBx h
            refine a_callVx X dX3_isName_47 miX3_says lm3_124 (t_X3_says (by assumption) (by first | assumption | decide) f_47) (by assumption) rfl rfl rfl (Nat.le_of_ble_eq_true rfl) ⟨by decide, by decide, by decide, by decide⟩ (fun r_47 S_47 q_47 => ?_)
            obtain ⟨rfl, rfl, b_47⟩ := q_47
            refine a_if_ne (tgt := 84) X dX3_isName_50 (by decide) (fun h_50 => ?_) (fun h_50 => ?_)
            · replace h := (if_neg h_50).symm.trans h
              exact Zw.to2 (J_84 h) rfl rfl rfl
            · replace h := (if_pos h_50).symm.trans h
              refine a_aload_n X dX3_isName_53 rfl ?_
              refine a_ldcS (i := 5) (q := ("TagDraw$Reader", 136, "law")) X rfl rfl rfl dX3_isName_54 ?_
              obtain ⟨e_56, f_56, h⟩ := zBx h
              refine a_callVx X dX3_isName_56 miX3_says lm3_124 (t_X3_says (by assumption) (by first | assumption | decide) f_56) (by assumption) rfl rfl rfl (Nat.le_of_ble_eq_true rfl) ⟨by decide, by decide, by decide, by decide⟩ (fun r_56 S_56 q_56 => ?_)
              obtain ⟨rfl, rfl, b_56⟩ := q_56
              refine a_if_ne (tgt := 84) X dX3_isName_59 (by decide) (fun h_59 => ?_) (fun h_59 => ?_)
              · replace h := (if_neg h_59).symm.trans h
                exact Zw.to2 (J_84 h) rfl rfl rfl
              · replace h := (if_pos h_59).symm.trans h
                refine a_aload_n X dX3_isName_62 rfl ?_
                refine a_ldcS (i := 6) (q := ("TagDraw$Reader", 138, "prefer")) X rfl rfl rfl dX3_isName_63 ?_
                obtain ⟨e_65, f_65, h⟩ := zBx h
                refine a_callVx X dX3_isName_65 miX3_says lm3_124 (t_X3_says (by assumption) (by first | assumption | decide) f_65) (by assumption) rfl rfl rfl (Nat.le_of_ble_eq_true rfl) ⟨by decide, by decide, by decide, by decide⟩ (fun r_65 S_65 q_65 => ?_)
                obtain ⟨rfl, rfl, b_65⟩ := q_65
                refine a_if_ne (tgt := 84) X dX3_isName_68 (by decide) (fun h_68 => ?_) (fun h_68 => ?_)
                · replace h := (if_neg h_68).symm.trans h
                  exact Zw.to2 (J_84 h) rfl rfl rfl
                · replace h := (if_pos h_68).symm.trans h
                  refine a_aload_n X dX3_isName_71 rfl ?_
                  refine a_ldcS (i := 7) (q := ("TagDraw$Reader", 140, "guests")) X rfl rfl rfl dX3_isName_72 ?_
                  obtain ⟨e_74, f_74, h⟩ := zBx h
                  refine a_callVx X dX3_isName_74 miX3_says lm3_124 (t_X3_says (by assumption) (by first | assumption | decide) f_74) (by assumption) rfl rfl rfl (Nat.le_of_ble_eq_true rfl) ⟨by decide, by decide, by decide, by decide⟩ (fun r_74 S_74 q_74 => ?_)
                  obtain ⟨rfl, rfl, b_74⟩ := q_74
                  refine a_if_ne (tgt := 84) X dX3_isName_77 (by decide) (fun h_77 => ?_) (fun h_77 => ?_)
                  · replace h := (if_neg h_77).symm.trans h
                    exact Zw.to2 (J_84 h) rfl rfl rfl
                  · replace h := (if_pos h_77).symm.trans h
                    refine a_iconst (v := 1) X dX3_isName_80 (by decide) ?_
                    refine a_goto (tgt := 85) X dX3_isName_81 (by decide) ?_
                    exact Zw.to2 (J_85 _ (by first | exact Or.inl rfl | exact Or.inr rfl | assumption) h) rfl rfl rfl
noncomputable def D_X3_fail_14 (Q : Nat) (y1_14 : Int32) (M_14 : zMt) : Option (Int32 × zMt) :=
  zLt (zu M_14 Q 1 y1_14) fun M_14 =>
  zLt (zu M_14 Q 2 (M_14 Q 7)) fun M_22 =>
  some ((0 : Int32), M_22)
noncomputable def D_X3_fail (Q : Nat) (v0 : Int32) (M : zMt) : Option (Int32 × zMt) :=
  if (M Q 6) = (4 : Int32) then
    D_X3_fail_14 Q (1 : Int32) M
  else
    D_X3_fail_14 Q v0 M
set_option maxRecDepth 100000 in
set_option maxHeartbeats 4000000 in
theorem t_X3_fail {l : Launch} {G : zG} {b : Nat} {L : List zC} {M : zMt} {N : zNt} {Q : Nat} {v0 : Int32} (hQ : LX3 L Q) {r : Int32 × zMt} (h : D_X3_fail Q v0 M = some r) : zM l G b yX3_fail cX3_fail 2 (some .boolean) 0 0 0 [.ref Q, .int v0] (L, M, N) (fun r2 z => r2 = some (.int r.1) ∧ z = (L, r.2, N) ∧ (r.1 = 0 ∨ r.1 = 1)) := by
  refine zM.of miX3_fail (Nat.le_of_ble_eq_true rfl) ?_
  intro p e s m args below meth c X hr hname
  generalize hF : ((fun r2 z => r2 = some (.int r.1) ∧ z = (L, r.2, N) ∧ (r.1 = 0 ∨ r.1 = 1)) : Option Value → zS → Prop) = FQ
  change Zw p l e { frames := 0, cells := 0, slots := 0, locals := 80 * (0) } s m args below meth c G b 2 (MQ below (zQ G b FQ) args s 0 0 (fun q : Nat => b ≤ q)) 0 0 0 [some (.ref Q), some (.int v0)] [] (L, M, N)
  obtain ⟨q_lt, q_o, q_draft, q_text, q_unitNames, q_hunterNames, q_partyNames, q_asked⟩ := id hQ
  obtain ⟨q_draft_lt, q_draft_o, q_draft_quota, q_draft_score, q_draft_guest, q_draft_party, q_draft_wishCount, q_draft_wishes, q_draft_has⟩ := id q_draft
  have J_14 : ∀ (x1_14 : Int32) (y1_14 : Int32) (M_14 : zMt), D_X3_fail_14 Q y1_14 M_14 = some r → Zw p l e { frames := 0, cells := 0, slots := 0, locals := 80 * (0) } s m args below meth c G b 2 (MQ below (zQ G b FQ) args s 0 0 (fun q : Nat => b ≤ q)) 0 0 14 [some (.ref (Q)), some (.int x1_14)] [.int y1_14, .ref (Q)] (L, M_14, N) := by
    intro x1_14 y1_14 M_14 h
    unfold D_X3_fail_14 at h
    obtain ⟨M_14, f_14, h⟩ := zLtx h
    refine d_puti X lf3_18 (by assumption) rfl dX3_fail_14 f_14 ?_
    refine a_aload_n X dX3_fail_17 rfl ?_
    refine a_aload_n X dX3_fail_18 rfl ?_
    refine a_geti X lf3_89 (by assumption) rfl dX3_fail_19 ?_
    obtain ⟨M_22, f_22, h⟩ := zLtx h
    refine d_puti X lf3_22 (by assumption) rfl dX3_fail_22 f_22 ?_
    refine a_iconst (v := 0) X dX3_fail_25 (by decide) ?_
    refine a_zret X (by first | exact Or.inl rfl | exact Or.inr rfl | assumption) hr dX3_fail_26 ⟨by decide, by decide⟩ ?_
    subst hF
    rw [← Option.some.inj h]
    exact ⟨rfl, rfl, (by first | exact Or.inl rfl | exact Or.inr rfl | assumption)⟩
  unfold D_X3_fail at h
  refine a_aload_n X dX3_fail_0 rfl ?_
  refine a_aload_n X dX3_fail_1 rfl ?_
  refine a_geti X lf3_74 (by assumption) rfl dX3_fail_2 ?_
  refine a_iconst (v := 4) X dX3_fail_5 (by decide) ?_
  refine a_icmp_ne (tgt := 13) X dX3_fail_6 (by decide) (fun h_6 => ?_) (fun h_6 => ?_)
  · replace h := (if_neg h_6).symm.trans h
    refine a_iload_n X dX3_fail_13 rfl ?_
    exact Zw.to2 (J_14 _ _ _ h) rfl rfl rfl
  · replace h := (if_pos h_6).symm.trans h
    refine a_iconst (v := 1) X dX3_fail_9 (by decide) ?_
    refine a_goto (tgt := 14) X dX3_fail_10 (by decide) ?_
    exact Zw.to2 (J_14 _ _ _ h) rfl rfl rfl
noncomputable def D_X3_find_3 (Q : Nat) (nQ : Nat) (N : zNt) : Nat → Int32 → Int64 → Int32 → Option (Int32)
  | 0, _, _, _ => none
  | n + 1, x1_3, x2_3, x4_3 =>
    if x1_3 ≤ x4_3 then
      some ((-1 : Int32))
    else
      if (lg_cmp (zrd 0 (N Q) nQ x4_3) x2_3) = 0 then
        some (x4_3)
      else
        (D_X3_find_3 Q nQ N n) x1_3 x2_3 (x4_3 + 1)
noncomputable def D_X3_find (Q : Nat) (nQ : Nat) (N : zNt) (v0 : Int32) (v1 : Int64) : Option (Int32) :=
  D_X3_find_3 Q nQ N zFu v0 v1 (0 : Int32)
set_option maxRecDepth 100000 in
set_option maxHeartbeats 4000000 in
theorem t_X3_find {l : Launch} {G : zG} {b : Nat} {L : List zC} {M : zMt} {N : zNt} {Q : Nat} {nQ : Nat} {v0 : Int32} {v1 : Int64} (hQ : L[Q]? = some (3, nQ, [])) (lQ : nQ < 2 ^ 31) {r : Int32} (h : D_X3_find Q nQ N v0 v1 = some r) : zM l G b yX3_find cX3_find 5 (some .int) 1 0 0 [.ref Q, .int v0, .long v1] (L, M, N) (fun r2 z => r2 = some (.int r) ∧ z = (L, M, N)) := by
  refine zM.of miX3_find (Nat.le_of_ble_eq_true rfl) ?_
  intro p e s m args below meth c X hr hname
  generalize hF : ((fun r2 z => r2 = some (.int r) ∧ z = (L, M, N)) : Option Value → zS → Prop) = FQ
  change Zw p l e { frames := 1, cells := 0, slots := 0, locals := 80 * (1) } s m args below meth c G b 5 (MQ below (zQ G b FQ) args s 0 0 (fun q : Nat => b ≤ q)) 0 0 0 [some (.ref Q), some (.int v0), some (.long v1), none, none] [] (L, M, N)
  have L_3 : ∀ u : Nat, ∀ (x1_3 : Int32) (x2_3 : Int64) (x4_3 : Int32), D_X3_find_3 Q nQ N u x1_3 x2_3 x4_3 = some r → Zw p l e { frames := 1, cells := 0, slots := 0, locals := 80 * (1) } s m args below meth c G b 5 (MQ below (zQ G b FQ) args s 0 0 (fun q : Nat => b ≤ q)) 0 0 3 [some (.ref (Q)), some (.int x1_3), some (.long x2_3), none, some (.int x4_3)] [] (L, M, N) := by
    intro u
    induction u with
    | zero => intro x1_3 x2_3 x4_3 h; cases (show none = some r from h)
    | succ u_3 ih_3 =>
      intro x1_3 x2_3 x4_3 h
      rw [D_X3_find_3] at h
      refine a_iload X dX3_find_3 rfl ?_
      refine a_iload_n X dX3_find_5 rfl ?_
      refine a_icmp_ge (tgt := 29) X dX3_find_6 (by decide) (fun h_6 => ?_) (fun h_6 => ?_)
      · replace h := (if_pos h_6).symm.trans h
        refine a_iconst (v := -1) X dX3_find_29 (by decide) ?_
        refine a_iret X hr dX3_find_30 ⟨by decide, by decide⟩ ?_
        subst hF
        rw [← Option.some.inj h]
        exact ⟨rfl, rfl⟩
      · replace h := (if_neg h_6).symm.trans h
        refine a_aload_n X dX3_find_9 rfl ?_
        refine a_iload X dX3_find_10 rfl ?_
        refine a_callSNv X dX3_find_12 miX7_bigCell lm3_246 (c_bigCell (by assumption) (by first | decide | assumption)) rfl rfl (Nat.le_of_ble_eq_true rfl) ⟨by decide, by decide, by decide, by decide⟩ ?_
        refine a_lload_n X dX3_find_15 rfl ?_
        refine a_lcmp X dX3_find_16 ?_
        refine a_if_ne (tgt := 23) X dX3_find_17 (by decide) (fun h_17 => ?_) (fun h_17 => ?_)
        · replace h := (if_neg h_17).symm.trans h
          refine a_iinc (v := x4_3 + 1) X dX3_find_23 (by decide) rfl zi_1 ?_
          refine a_goto (tgt := 3) X dX3_find_26 (by decide) ?_
          exact Zw.to2 (ih_3 _ _ _ h) rfl rfl rfl
        · replace h := (if_pos h_17).symm.trans h
          refine a_iload X dX3_find_20 rfl ?_
          refine a_iret X hr dX3_find_22 ⟨by decide, by decide⟩ ?_
          subst hF
          rw [← Option.some.inj h]
          exact ⟨rfl, rfl⟩
  have H_3 : ∀ (x1_3 : Int32) (x2_3 : Int64) (x4_3 : Int32), D_X3_find_3 Q nQ N zFu x1_3 x2_3 x4_3 = some r → Zw p l e { frames := 1, cells := 0, slots := 0, locals := 80 * (1) } s m args below meth c G b 5 (MQ below (zQ G b FQ) args s 0 0 (fun q : Nat => b ≤ q)) 0 0 3 [some (.ref (Q)), some (.int x1_3), some (.long x2_3), none, some (.int x4_3)] [] (L, M, N) := L_3 zFu
  unfold D_X3_find at h
  refine a_iconst (v := 0) X dX3_find_0 (by decide) ?_
  refine a_istore X dX3_find_1 (by decide) ?_
  exact Zw.to2 (H_3 _ _ _ h) rfl rfl rfl
noncomputable def D_X3_isTaken_62 (Q : Nat) (M : zMt) (N : zNt) (y0_62 : Int32) : Option (Int32) :=
  some (y0_62)
noncomputable def D_X3_isTaken_57 (Q : Nat) (M : zMt) (N : zNt)  : Option (Int32) :=
  D_X3_isTaken_62 Q M N (1 : Int32)
noncomputable def D_X3_isTaken (Q : Nat) (M : zMt) (N : zNt) (v0 : Int64) : Option (Int32) :=
  zB (D_X3_find (Q + 10) 5 N (M (Q + 1) 0) v0) fun e_12 =>
  if e_12 = (-1 : Int32) then
    zB (D_X3_find (Q + 11) 10 N (M (Q + 1) 1) v0) fun e_31 =>
    if e_31 = (-1 : Int32) then
      zB (D_X3_find (Q + 12) 4 N (M (Q + 1) 2) v0) fun e_50 =>
      if e_50 = (-1 : Int32) then
        D_X3_isTaken_62 Q M N (0 : Int32)
      else
        D_X3_isTaken_57 Q M N
    else
      D_X3_isTaken_57 Q M N
  else
    D_X3_isTaken_57 Q M N
set_option maxRecDepth 100000 in
set_option maxHeartbeats 4000000 in
theorem t_X3_isTaken {l : Launch} {G : zG} {b : Nat} {L : List zC} {M : zMt} {N : zNt} {Q : Nat} {v0 : Int64} (hQ : LX3 L Q) {r : Int32} (h : D_X3_isTaken Q M N v0 = some r) : zM l G b yX3_isTaken cX3_isTaken 3 (some .boolean) 2 0 0 [.ref Q, .long v0] (L, M, N) (fun r2 z => r2 = some (.int r) ∧ z = (L, M, N) ∧ (r = 0 ∨ r = 1)) := by
  refine zM.of miX3_isTaken (Nat.le_of_ble_eq_true rfl) ?_
  intro p e s m args below meth c X hr hname
  generalize hF : ((fun r2 z => r2 = some (.int r) ∧ z = (L, M, N) ∧ (r = 0 ∨ r = 1)) : Option Value → zS → Prop) = FQ
  change Zw p l e { frames := 2, cells := 0, slots := 0, locals := 80 * (2) } s m args below meth c G b 3 (MQ below (zQ G b FQ) args s 0 0 (fun q : Nat => b ≤ q)) 0 0 0 [some (.ref Q), some (.long v0), none] [] (L, M, N)
  obtain ⟨q_lt, q_o, q_draft, q_text, q_unitNames, q_hunterNames, q_partyNames, q_asked⟩ := id hQ
  obtain ⟨q_draft_lt, q_draft_o, q_draft_quota, q_draft_score, q_draft_guest, q_draft_party, q_draft_wishCount, q_draft_wishes, q_draft_has⟩ := id q_draft
  have J_62 : ∀ (x1_62 : Int64) (y0_62 : Int32), (y0_62 = 0 ∨ y0_62 = 1) → D_X3_isTaken_62 Q M N y0_62 = some r → Zw p l e { frames := 2, cells := 0, slots := 0, locals := 80 * (2) } s m args below meth c G b 3 (MQ below (zQ G b FQ) args s 0 0 (fun q : Nat => b ≤ q)) 0 0 62 [some (.ref (Q)), some (.long x1_62), none] [.int y0_62] (L, M, N) := by
    intro x1_62 y0_62 fb_y0_62 h
    unfold D_X3_isTaken_62 at h
    refine a_zret X (by first | exact Or.inl rfl | exact Or.inr rfl | assumption) hr dX3_isTaken_62 ⟨by decide, by decide⟩ ?_
    subst hF
    rw [← Option.some.inj h]
    exact ⟨rfl, rfl, (by first | exact Or.inl rfl | exact Or.inr rfl | assumption)⟩
  have J_57 : ∀ (x1_57 : Int64), D_X3_isTaken_57 Q M N = some r → Zw p l e { frames := 2, cells := 0, slots := 0, locals := 80 * (2) } s m args below meth c G b 3 (MQ below (zQ G b FQ) args s 0 0 (fun q : Nat => b ≤ q)) 0 0 57 [some (.ref (Q)), some (.long x1_57), none] [] (L, M, N) := by
    intro x1_57 h
    unfold D_X3_isTaken_57 at h
    refine a_iconst (v := 1) X dX3_isTaken_57 (by decide) ?_
    refine a_goto (tgt := 62) X dX3_isTaken_58 (by decide) ?_
    exact Zw.to2 (J_62 _ _ (by first | exact Or.inl rfl | exact Or.inr rfl | assumption) h) rfl rfl rfl
  unfold D_X3_isTaken at h
  refine a_aload_n X dX3_isTaken_0 rfl ?_
  refine a_getr X lf3_29 (by assumption) rfl (by omega) dX3_isTaken_1 ?_
  refine a_aload_n X dX3_isTaken_4 rfl ?_
  refine a_getr X lf3_12 (by assumption) rfl (by omega) dX3_isTaken_5 ?_
  refine a_geti X lf3_142 (by assumption) rfl dX3_isTaken_8 ?_
  refine a_lload_n X dX3_isTaken_11 rfl ?_
  obtain ⟨e_12, f_12, h⟩ := zBx h
  refine a_callSv X dX3_isTaken_12 miX3_find lm3_202 (t_X3_find (by assumption) (by first | decide | assumption) f_12) rfl rfl (Nat.le_of_ble_eq_true rfl) ⟨by decide, by decide, by decide, by decide⟩ ?_
  refine a_iconst (v := -1) X dX3_isTaken_15 (by decide) ?_
  refine a_icmp_ne (tgt := 57) X dX3_isTaken_16 (by decide) (fun h_16 => ?_) (fun h_16 => ?_)
  · replace h := (if_neg h_16).symm.trans h
    exact Zw.to2 (J_57 _ h) rfl rfl rfl
  · replace h := (if_pos h_16).symm.trans h
    refine a_aload_n X dX3_isTaken_19 rfl ?_
    refine a_getr X lf3_33 (by assumption) rfl (by omega) dX3_isTaken_20 ?_
    refine a_aload_n X dX3_isTaken_23 rfl ?_
    refine a_getr X lf3_12 (by assumption) rfl (by omega) dX3_isTaken_24 ?_
    refine a_geti X lf3_151 (by assumption) rfl dX3_isTaken_27 ?_
    refine a_lload_n X dX3_isTaken_30 rfl ?_
    obtain ⟨e_31, f_31, h⟩ := zBx h
    refine a_callSv X dX3_isTaken_31 miX3_find lm3_202 (t_X3_find (by assumption) (by first | decide | assumption) f_31) rfl rfl (Nat.le_of_ble_eq_true rfl) ⟨by decide, by decide, by decide, by decide⟩ ?_
    refine a_iconst (v := -1) X dX3_isTaken_34 (by decide) ?_
    refine a_icmp_ne (tgt := 57) X dX3_isTaken_35 (by decide) (fun h_35 => ?_) (fun h_35 => ?_)
    · replace h := (if_neg h_35).symm.trans h
      exact Zw.to2 (J_57 _ h) rfl rfl rfl
    · replace h := (if_pos h_35).symm.trans h
      refine a_aload_n X dX3_isTaken_38 rfl ?_
      refine a_getr X lf3_36 (by assumption) rfl (by omega) dX3_isTaken_39 ?_
      refine a_aload_n X dX3_isTaken_42 rfl ?_
      refine a_getr X lf3_12 (by assumption) rfl (by omega) dX3_isTaken_43 ?_
      refine a_geti X lf3_157 (by assumption) rfl dX3_isTaken_46 ?_
      refine a_lload_n X dX3_isTaken_49 rfl ?_
      obtain ⟨e_50, f_50, h⟩ := zBx h
      refine a_callSv X dX3_isTaken_50 miX3_find lm3_202 (t_X3_find (by assumption) (by first | decide | assumption) f_50) rfl rfl (Nat.le_of_ble_eq_true rfl) ⟨by decide, by decide, by decide, by decide⟩ ?_
      refine a_iconst (v := -1) X dX3_isTaken_53 (by decide) ?_
      refine a_icmp_eq (tgt := 61) X dX3_isTaken_54 (by decide) (fun h_54 => ?_) (fun h_54 => ?_)
      · replace h := (if_pos h_54).symm.trans h
        refine a_iconst (v := 0) X dX3_isTaken_61 (by decide) ?_
        exact Zw.to2 (J_62 _ _ (by first | exact Or.inl rfl | exact Or.inr rfl | assumption) h) rfl rfl rfl
      · replace h := (if_neg h_54).symm.trans h
        exact Zw.to2 (J_57 _ h) rfl rfl rfl
noncomputable def D_X3_readNewName (Q : Nat) (M : zMt) (N : zNt) : Option (Int32 × zMt × zNt) :=
  zB (D_X3_isName Q M) fun e_1 =>
  if e_1 = 0 then
    zB (D_X3_fail Q (2 : Int32) M) fun e_9 =>
    some (e_9.1, e_9.2, N)
  else
    zB (D_X3_isTaken Q M N (N Q 8)) fun e_18 =>
    if e_18 = 0 then
      zLt (zu N Q 10 (N Q 8)) fun N_35 =>
      zB (D_X3_step Q M N_35) fun e_39 =>
      some ((1 : Int32), e_39.1, e_39.2)
    else
      zB (D_X3_fail Q (4 : Int32) M) fun e_26 =>
      some (e_26.1, e_26.2, N)
set_option maxRecDepth 100000 in
set_option maxHeartbeats 4000000 in
theorem t_X3_readNewName {l : Launch} {G : zG} {b : Nat} {L : List zC} {M : zMt} {N : zNt} {Q : Nat}  (hQ : LX3 L Q) {r : Int32 × zMt × zNt} (h : D_X3_readNewName Q M N = some r) : zM l G b yX3_readNewName cX3_readNewName 1 (some .boolean) 6 0 0 [.ref Q] (L, M, N) (fun r2 z => r2 = some (.int r.1) ∧ z = (L, r.2.1, r.2.2) ∧ (r.1 = 0 ∨ r.1 = 1)) := by
  refine zM.of miX3_readNewName (Nat.le_of_ble_eq_true rfl) ?_
  intro p e s m args below meth c X hr hname
  generalize hF : ((fun r2 z => r2 = some (.int r.1) ∧ z = (L, r.2.1, r.2.2) ∧ (r.1 = 0 ∨ r.1 = 1)) : Option Value → zS → Prop) = FQ
  change Zw p l e { frames := 6, cells := 0, slots := 0, locals := 80 * (6) } s m args below meth c G b 1 (MQ below (zQ G b FQ) args s 0 0 (fun q : Nat => b ≤ q)) 0 0 0 [some (.ref Q)] [] (L, M, N)
  obtain ⟨q_lt, q_o, q_draft, q_text, q_unitNames, q_hunterNames, q_partyNames, q_asked⟩ := id hQ
  obtain ⟨q_draft_lt, q_draft_o, q_draft_quota, q_draft_score, q_draft_guest, q_draft_party, q_draft_wishCount, q_draft_wishes, q_draft_has⟩ := id q_draft
  unfold D_X3_readNewName at h
  refine a_aload_n X dX3_readNewName_0 rfl ?_
  obtain ⟨e_1, f_1, h⟩ := zBx h
  refine a_callVx X dX3_readNewName_1 miX3_isName lm3_199 (t_X3_isName (by assumption) f_1) (by assumption) rfl rfl rfl (Nat.le_of_ble_eq_true rfl) ⟨by decide, by decide, by decide, by decide⟩ (fun r_1 S_1 q_1 => ?_)
  obtain ⟨rfl, rfl, b_1⟩ := q_1
  refine a_if_ne (tgt := 13) X dX3_readNewName_4 (by decide) (fun h_4 => ?_) (fun h_4 => ?_)
  · replace h := (if_neg h_4).symm.trans h
    refine a_aload_n X dX3_readNewName_13 rfl ?_
    refine a_aload_n X dX3_readNewName_14 rfl ?_
    refine a_getl X lf3_104 (by assumption) rfl dX3_readNewName_15 ?_
    obtain ⟨e_18, f_18, h⟩ := zBx h
    refine a_callVx X dX3_readNewName_18 miX3_isTaken lm3_242 (t_X3_isTaken (by assumption) f_18) (by assumption) rfl rfl rfl (Nat.le_of_ble_eq_true rfl) ⟨by decide, by decide, by decide, by decide⟩ (fun r_18 S_18 q_18 => ?_)
    obtain ⟨rfl, rfl, b_18⟩ := q_18
    refine a_if_eq (tgt := 30) X dX3_readNewName_21 (by decide) (fun h_21 => ?_) (fun h_21 => ?_)
    · replace h := (if_pos h_21).symm.trans h
      refine a_aload_n X dX3_readNewName_30 rfl ?_
      refine a_aload_n X dX3_readNewName_31 rfl ?_
      refine a_getl X lf3_104 (by assumption) rfl dX3_readNewName_32 ?_
      obtain ⟨N_35, f_35, h⟩ := zLtx h
      refine d_putl X lf3_184 (by assumption) rfl dX3_readNewName_35 f_35 ?_
      refine a_aload_n X dX3_readNewName_38 rfl ?_
      obtain ⟨e_39, f_39, h⟩ := zBx h
      refine a_callVu X dX3_readNewName_39 miX3_step lm3_71 (t_X3_step (by assumption) f_39) (by assumption) rfl rfl rfl (Nat.le_of_ble_eq_true rfl) ⟨by decide, by decide, by decide, by decide⟩ ?_
      refine a_iconst (v := 1) X dX3_readNewName_42 (by decide) ?_
      refine a_zret X (by first | exact Or.inl rfl | exact Or.inr rfl | assumption) hr dX3_readNewName_43 ⟨by decide, by decide⟩ ?_
      subst hF
      rw [← Option.some.inj h]
      exact ⟨rfl, rfl, (by first | exact Or.inl rfl | exact Or.inr rfl | assumption)⟩
    · replace h := (if_neg h_21).symm.trans h
      refine a_aload_n X dX3_readNewName_24 rfl ?_
      refine a_iconst (v := 4) X dX3_readNewName_25 (by decide) ?_
      obtain ⟨e_26, f_26, h⟩ := zBx h
      refine a_callVx X dX3_readNewName_26 miX3_fail lm3_148 (t_X3_fail (by assumption) f_26) (by assumption) rfl rfl rfl (Nat.le_of_ble_eq_true rfl) ⟨by decide, by decide, by decide, by decide⟩ (fun r_26 S_26 q_26 => ?_)
      obtain ⟨rfl, rfl, b_26⟩ := q_26
      refine a_zret X (by first | exact Or.inl rfl | exact Or.inr rfl | assumption) hr dX3_readNewName_29 ⟨by decide, by decide⟩ ?_
      subst hF
      rw [← Option.some.inj h]
      exact ⟨rfl, rfl, (by first | exact Or.inl rfl | exact Or.inr rfl | assumption)⟩
  · replace h := (if_pos h_4).symm.trans h
    refine a_aload_n X dX3_readNewName_7 rfl ?_
    refine a_iconst (v := 2) X dX3_readNewName_8 (by decide) ?_
    obtain ⟨e_9, f_9, h⟩ := zBx h
    refine a_callVx X dX3_readNewName_9 miX3_fail lm3_148 (t_X3_fail (by assumption) f_9) (by assumption) rfl rfl rfl (Nat.le_of_ble_eq_true rfl) ⟨by decide, by decide, by decide, by decide⟩ (fun r_9 S_9 q_9 => ?_)
    obtain ⟨rfl, rfl, b_9⟩ := q_9
    refine a_zret X (by first | exact Or.inl rfl | exact Or.inr rfl | assumption) hr dX3_readNewName_12 ⟨by decide, by decide⟩ ?_
    subst hF
    rw [← Option.some.inj h]
    exact ⟨rfl, rfl, (by first | exact Or.inl rfl | exact Or.inr rfl | assumption)⟩
noncomputable def D_X3_numberUpTo (Q : Nat) (v0 : Int32) (M : zMt) (N : zNt) : Option (Int32 × zMt × zNt) :=
  if (M Q 6) = (2 : Int32) then
    if (M Q 9) ≤ v0 then
      zB (D_X3_step Q M N) fun e_29 =>
      some ((1 : Int32), e_29.1, e_29.2)
    else
      zB (D_X3_fail Q (3 : Int32) M) fun e_24 =>
      some (e_24.1, e_24.2, N)
  else
    zB (D_X3_fail Q (2 : Int32) M) fun e_10 =>
    some (e_10.1, e_10.2, N)
set_option maxRecDepth 100000 in
set_option maxHeartbeats 4000000 in
theorem t_X3_numberUpTo {l : Launch} {G : zG} {b : Nat} {L : List zC} {M : zMt} {N : zNt} {Q : Nat} {v0 : Int32} (hQ : LX3 L Q) {r : Int32 × zMt × zNt} (h : D_X3_numberUpTo Q v0 M N = some r) : zM l G b yX3_numberUpTo cX3_numberUpTo 2 (some .boolean) 3 0 0 [.ref Q, .int v0] (L, M, N) (fun r2 z => r2 = some (.int r.1) ∧ z = (L, r.2.1, r.2.2) ∧ (r.1 = 0 ∨ r.1 = 1)) := by
  refine zM.of miX3_numberUpTo (Nat.le_of_ble_eq_true rfl) ?_
  intro p e s m args below meth c X hr hname
  generalize hF : ((fun r2 z => r2 = some (.int r.1) ∧ z = (L, r.2.1, r.2.2) ∧ (r.1 = 0 ∨ r.1 = 1)) : Option Value → zS → Prop) = FQ
  change Zw p l e { frames := 3, cells := 0, slots := 0, locals := 80 * (3) } s m args below meth c G b 2 (MQ below (zQ G b FQ) args s 0 0 (fun q : Nat => b ≤ q)) 0 0 0 [some (.ref Q), some (.int v0)] [] (L, M, N)
  obtain ⟨q_lt, q_o, q_draft, q_text, q_unitNames, q_hunterNames, q_partyNames, q_asked⟩ := id hQ
  obtain ⟨q_draft_lt, q_draft_o, q_draft_quota, q_draft_score, q_draft_guest, q_draft_party, q_draft_wishCount, q_draft_wishes, q_draft_has⟩ := id q_draft
  unfold D_X3_numberUpTo at h
  refine a_aload_n X dX3_numberUpTo_0 rfl ?_
  refine a_geti X lf3_74 (by assumption) rfl dX3_numberUpTo_1 ?_
  refine a_iconst (v := 2) X dX3_numberUpTo_4 (by decide) ?_
  refine a_icmp_eq (tgt := 14) X dX3_numberUpTo_5 (by decide) (fun h_5 => ?_) (fun h_5 => ?_)
  · replace h := (if_pos h_5).symm.trans h
    refine a_aload_n X dX3_numberUpTo_14 rfl ?_
    refine a_geti X lf3_110 (by assumption) rfl dX3_numberUpTo_15 ?_
    refine a_iload_n X dX3_numberUpTo_18 rfl ?_
    refine a_icmp_le (tgt := 28) X dX3_numberUpTo_19 (by decide) (fun h_19 => ?_) (fun h_19 => ?_)
    · replace h := (if_pos h_19).symm.trans h
      refine a_aload_n X dX3_numberUpTo_28 rfl ?_
      obtain ⟨e_29, f_29, h⟩ := zBx h
      refine a_callVu X dX3_numberUpTo_29 miX3_step lm3_71 (t_X3_step (by assumption) f_29) (by assumption) rfl rfl rfl (Nat.le_of_ble_eq_true rfl) ⟨by decide, by decide, by decide, by decide⟩ ?_
      refine a_iconst (v := 1) X dX3_numberUpTo_32 (by decide) ?_
      refine a_zret X (by first | exact Or.inl rfl | exact Or.inr rfl | assumption) hr dX3_numberUpTo_33 ⟨by decide, by decide⟩ ?_
      subst hF
      rw [← Option.some.inj h]
      exact ⟨rfl, rfl, (by first | exact Or.inl rfl | exact Or.inr rfl | assumption)⟩
    · replace h := (if_neg h_19).symm.trans h
      refine a_aload_n X dX3_numberUpTo_22 rfl ?_
      refine a_iconst (v := 3) X dX3_numberUpTo_23 (by decide) ?_
      obtain ⟨e_24, f_24, h⟩ := zBx h
      refine a_callVx X dX3_numberUpTo_24 miX3_fail lm3_148 (t_X3_fail (by assumption) f_24) (by assumption) rfl rfl rfl (Nat.le_of_ble_eq_true rfl) ⟨by decide, by decide, by decide, by decide⟩ (fun r_24 S_24 q_24 => ?_)
      obtain ⟨rfl, rfl, b_24⟩ := q_24
      refine a_zret X (by first | exact Or.inl rfl | exact Or.inr rfl | assumption) hr dX3_numberUpTo_27 ⟨by decide, by decide⟩ ?_
      subst hF
      rw [← Option.some.inj h]
      exact ⟨rfl, rfl, (by first | exact Or.inl rfl | exact Or.inr rfl | assumption)⟩
  · replace h := (if_neg h_5).symm.trans h
    refine a_aload_n X dX3_numberUpTo_8 rfl ?_
    refine a_iconst (v := 2) X dX3_numberUpTo_9 (by decide) ?_
    obtain ⟨e_10, f_10, h⟩ := zBx h
    refine a_callVx X dX3_numberUpTo_10 miX3_fail lm3_148 (t_X3_fail (by assumption) f_10) (by assumption) rfl rfl rfl (Nat.le_of_ble_eq_true rfl) ⟨by decide, by decide, by decide, by decide⟩ (fun r_10 S_10 q_10 => ?_)
    obtain ⟨rfl, rfl, b_10⟩ := q_10
    refine a_zret X (by first | exact Or.inl rfl | exact Or.inr rfl | assumption) hr dX3_numberUpTo_13 ⟨by decide, by decide⟩ ?_
    subst hF
    rw [← Option.some.inj h]
    exact ⟨rfl, rfl, (by first | exact Or.inl rfl | exact Or.inr rfl | assumption)⟩
noncomputable def D_X3_endOfLine (Q : Nat) (M : zMt) (N : zNt) : Option (Int32 × zMt × zNt) :=
  if (M Q 6) = (3 : Int32) then
    zB (D_X3_step Q M N) fun e_15 =>
    some ((1 : Int32), e_15.1, e_15.2)
  else
    zB (D_X3_fail Q (2 : Int32) M) fun e_10 =>
    some (e_10.1, e_10.2, N)
set_option maxRecDepth 100000 in
set_option maxHeartbeats 4000000 in
theorem t_X3_endOfLine {l : Launch} {G : zG} {b : Nat} {L : List zC} {M : zMt} {N : zNt} {Q : Nat}  (hQ : LX3 L Q) {r : Int32 × zMt × zNt} (h : D_X3_endOfLine Q M N = some r) : zM l G b yX3_endOfLine cX3_endOfLine 1 (some .boolean) 3 0 0 [.ref Q] (L, M, N) (fun r2 z => r2 = some (.int r.1) ∧ z = (L, r.2.1, r.2.2) ∧ (r.1 = 0 ∨ r.1 = 1)) := by
  refine zM.of miX3_endOfLine (Nat.le_of_ble_eq_true rfl) ?_
  intro p e s m args below meth c X hr hname
  generalize hF : ((fun r2 z => r2 = some (.int r.1) ∧ z = (L, r.2.1, r.2.2) ∧ (r.1 = 0 ∨ r.1 = 1)) : Option Value → zS → Prop) = FQ
  change Zw p l e { frames := 3, cells := 0, slots := 0, locals := 80 * (3) } s m args below meth c G b 1 (MQ below (zQ G b FQ) args s 0 0 (fun q : Nat => b ≤ q)) 0 0 0 [some (.ref Q)] [] (L, M, N)
  obtain ⟨q_lt, q_o, q_draft, q_text, q_unitNames, q_hunterNames, q_partyNames, q_asked⟩ := id hQ
  obtain ⟨q_draft_lt, q_draft_o, q_draft_quota, q_draft_score, q_draft_guest, q_draft_party, q_draft_wishCount, q_draft_wishes, q_draft_has⟩ := id q_draft
  unfold D_X3_endOfLine at h
  refine a_aload_n X dX3_endOfLine_0 rfl ?_
  refine a_geti X lf3_74 (by assumption) rfl dX3_endOfLine_1 ?_
  refine a_iconst (v := 3) X dX3_endOfLine_4 (by decide) ?_
  refine a_icmp_eq (tgt := 14) X dX3_endOfLine_5 (by decide) (fun h_5 => ?_) (fun h_5 => ?_)
  · replace h := (if_pos h_5).symm.trans h
    refine a_aload_n X dX3_endOfLine_14 rfl ?_
    obtain ⟨e_15, f_15, h⟩ := zBx h
    refine a_callVu X dX3_endOfLine_15 miX3_step lm3_71 (t_X3_step (by assumption) f_15) (by assumption) rfl rfl rfl (Nat.le_of_ble_eq_true rfl) ⟨by decide, by decide, by decide, by decide⟩ ?_
    refine a_iconst (v := 1) X dX3_endOfLine_18 (by decide) ?_
    refine a_zret X (by first | exact Or.inl rfl | exact Or.inr rfl | assumption) hr dX3_endOfLine_19 ⟨by decide, by decide⟩ ?_
    subst hF
    rw [← Option.some.inj h]
    exact ⟨rfl, rfl, (by first | exact Or.inl rfl | exact Or.inr rfl | assumption)⟩
  · replace h := (if_neg h_5).symm.trans h
    refine a_aload_n X dX3_endOfLine_8 rfl ?_
    refine a_iconst (v := 2) X dX3_endOfLine_9 (by decide) ?_
    obtain ⟨e_10, f_10, h⟩ := zBx h
    refine a_callVx X dX3_endOfLine_10 miX3_fail lm3_148 (t_X3_fail (by assumption) f_10) (by assumption) rfl rfl rfl (Nat.le_of_ble_eq_true rfl) ⟨by decide, by decide, by decide, by decide⟩ (fun r_10 S_10 q_10 => ?_)
    obtain ⟨rfl, rfl, b_10⟩ := q_10
    refine a_zret X (by first | exact Or.inl rfl | exact Or.inr rfl | assumption) hr dX3_endOfLine_13 ⟨by decide, by decide⟩ ?_
    subst hF
    rw [← Option.some.inj h]
    exact ⟨rfl, rfl, (by first | exact Or.inl rfl | exact Or.inr rfl | assumption)⟩
noncomputable def D_X4_addUnit (Q : Nat) (v0 : Int32) (M : zMt) : Option (zMt) :=
  zLt (zwr M (Q + 1) 5 (M Q 0) v0) fun M_9 =>
  zLt (zu M_9 Q 0 ((M_9 Q 0) + (1 : Int32))) fun M_19 =>
  some (M_19)
set_option maxRecDepth 100000 in
set_option maxHeartbeats 4000000 in
theorem t_X4_addUnit {l : Launch} {G : zG} {b : Nat} {L : List zC} {M : zMt} {N : zNt} {Q : Nat} {v0 : Int32} (hQ : LX4 L Q) {r : zMt} (h : D_X4_addUnit Q v0 M = some r) : zM l G b yX4_addUnit cX4_addUnit 2 none 1 0 0 [.ref Q, .int v0] (L, M, N) (fun r2 z => r2 = none ∧ z = (L, r, N)) := by
  refine zM.of miX4_addUnit (Nat.le_of_ble_eq_true rfl) ?_
  intro p e s m args below meth c X hr hname
  generalize hF : ((fun r2 z => r2 = none ∧ z = (L, r, N)) : Option Value → zS → Prop) = FQ
  change Zw p l e { frames := 1, cells := 0, slots := 0, locals := 80 * (1) } s m args below meth c G b 2 (MQ below (zQ G b FQ) args s 0 0 (fun q : Nat => b ≤ q)) 0 0 0 [some (.ref Q), some (.int v0)] [] (L, M, N)
  obtain ⟨q_lt, q_o, q_quota, q_score, q_guest, q_party, q_wishCount, q_wishes, q_has⟩ := id hQ
  unfold D_X4_addUnit at h
  refine a_aload_n X dX4_addUnit_0 rfl ?_
  refine a_getr X lf4_9 (by assumption) rfl (by omega) dX4_addUnit_1 ?_
  refine a_aload_n X dX4_addUnit_4 rfl ?_
  refine a_geti X lf4_33 (by assumption) rfl dX4_addUnit_5 ?_
  refine a_iload_n X dX4_addUnit_8 rfl ?_
  obtain ⟨M_9, f_9, h⟩ := zLtx h
  refine a_callSNu X dX4_addUnit_9 miX7_put lm4_63 (zMu (c_put (by assumption) (by first | decide | assumption)) f_9) rfl rfl (Nat.le_of_ble_eq_true rfl) ⟨by decide, by decide, by decide, by decide⟩ ?_
  refine a_aload_n X dX4_addUnit_12 rfl ?_
  refine a_dup X dX4_addUnit_13 rfl ?_
  refine a_geti X lf4_33 (by assumption) rfl dX4_addUnit_14 ?_
  refine a_iconst (v := 1) X dX4_addUnit_17 (by decide) ?_
  refine a_iadd X dX4_addUnit_18 ?_
  obtain ⟨M_19, f_19, h⟩ := zLtx h
  refine d_puti X lf4_33 (by assumption) rfl dX4_addUnit_19 f_19 ?_
  refine a_vret X hr dX4_addUnit_22 ⟨by decide, by decide⟩ ?_
  subst hF
  rw [← Option.some.inj h]
  exact ⟨rfl, rfl⟩
noncomputable def D_X3_readUnit_29 (Q : Nat) (M_29 : zMt) (N_29 : zNt) : Option (Int32 × zMt × zNt) :=
  some ((0 : Int32), M_29, N_29)
noncomputable def D_X3_readUnit (Q : Nat) (M : zMt) (N : zNt) : Option (Int32 × zMt × zNt) :=
  zB (D_X3_step Q M N) fun e_1 =>
  zB (D_X3_readNewName Q e_1.1 e_1.2) fun e_5 =>
  if e_5.1 = 0 then
    some ((0 : Int32), e_5.2.1, e_5.2.2)
  else
    zB (D_X3_numberUpTo Q (20 : Int32) e_5.2.1 e_5.2.2) fun e_16 =>
    if e_16.1 = 0 then
      D_X3_readUnit_29 Q e_16.2.1 e_16.2.2
    else
      zB (D_X3_endOfLine Q e_16.2.1 e_16.2.2) fun e_23 =>
      if e_23.1 = 0 then
        D_X3_readUnit_29 Q e_23.2.1 e_23.2.2
      else
        zLt (zwr e_23.2.2 (Q + 10) 5 (e_23.2.1 (Q + 1) 0) (e_23.2.2 Q 10)) fun N_46 =>
        zB (D_X4_addUnit (Q + 1) (e_23.2.1 Q 9) e_23.2.1) fun e_57 =>
        some ((1 : Int32), e_57, N_46)
set_option maxRecDepth 100000 in
set_option maxHeartbeats 4000000 in
theorem t_X3_readUnit {l : Launch} {G : zG} {b : Nat} {L : List zC} {M : zMt} {N : zNt} {Q : Nat}  (hQ : LX3 L Q) {r : Int32 × zMt × zNt} (h : D_X3_readUnit Q M N = some r) : zM l G b yX3_readUnit cX3_readUnit 1 (some .boolean) 7 0 0 [.ref Q] (L, M, N) (fun r2 z => r2 = some (.int r.1) ∧ z = (L, r.2.1, r.2.2) ∧ (r.1 = 0 ∨ r.1 = 1)) := by
  refine zM.of miX3_readUnit (Nat.le_of_ble_eq_true rfl) ?_
  intro p e s m args below meth c X hr hname
  generalize hF : ((fun r2 z => r2 = some (.int r.1) ∧ z = (L, r.2.1, r.2.2) ∧ (r.1 = 0 ∨ r.1 = 1)) : Option Value → zS → Prop) = FQ
  change Zw p l e { frames := 7, cells := 0, slots := 0, locals := 80 * (7) } s m args below meth c G b 1 (MQ below (zQ G b FQ) args s 0 0 (fun q : Nat => b ≤ q)) 0 0 0 [some (.ref Q)] [] (L, M, N)
  obtain ⟨q_lt, q_o, q_draft, q_text, q_unitNames, q_hunterNames, q_partyNames, q_asked⟩ := id hQ
  obtain ⟨q_draft_lt, q_draft_o, q_draft_quota, q_draft_score, q_draft_guest, q_draft_party, q_draft_wishCount, q_draft_wishes, q_draft_has⟩ := id q_draft
  have J_29 : ∀ (M_29 : zMt) (N_29 : zNt), D_X3_readUnit_29 Q M_29 N_29 = some r → Zw p l e { frames := 7, cells := 0, slots := 0, locals := 80 * (7) } s m args below meth c G b 1 (MQ below (zQ G b FQ) args s 0 0 (fun q : Nat => b ≤ q)) 0 0 29 [some (.ref (Q))] [] (L, M_29, N_29) := by
    intro M_29 N_29 h
    unfold D_X3_readUnit_29 at h
    refine a_iconst (v := 0) X dX3_readUnit_29 (by decide) ?_
    refine a_zret X (by first | exact Or.inl rfl | exact Or.inr rfl | assumption) hr dX3_readUnit_30 ⟨by decide, by decide⟩ ?_
    subst hF
    rw [← Option.some.inj h]
    exact ⟨rfl, rfl, (by first | exact Or.inl rfl | exact Or.inr rfl | assumption)⟩
  unfold D_X3_readUnit at h
  refine a_aload_n X dX3_readUnit_0 rfl ?_
  obtain ⟨e_1, f_1, h⟩ := zBx h
  refine a_callVu X dX3_readUnit_1 miX3_step lm3_71 (t_X3_step (by assumption) f_1) (by assumption) rfl rfl rfl (Nat.le_of_ble_eq_true rfl) ⟨by decide, by decide, by decide, by decide⟩ ?_
  refine a_aload_n X dX3_readUnit_4 rfl ?_
  obtain ⟨e_5, f_5, h⟩ := zBx h
  refine a_callVx X dX3_readUnit_5 miX3_readNewName lm3_175 (t_X3_readNewName (by assumption) f_5) (by assumption) rfl rfl rfl (Nat.le_of_ble_eq_true rfl) ⟨by decide, by decide, by decide, by decide⟩ (fun r_5 S_5 q_5 => ?_)
  obtain ⟨rfl, rfl, b_5⟩ := q_5
  refine a_if_ne (tgt := 13) X dX3_readUnit_8 (by decide) (fun h_8 => ?_) (fun h_8 => ?_)
  · replace h := (if_neg h_8).symm.trans h
    refine a_aload_n X dX3_readUnit_13 rfl ?_
    refine a_bipush (v := 20) X dX3_readUnit_14 (by decide) ?_
    obtain ⟨e_16, f_16, h⟩ := zBx h
    refine a_callVx X dX3_readUnit_16 miX3_numberUpTo lm3_178 (t_X3_numberUpTo (by assumption) f_16) (by assumption) rfl rfl rfl (Nat.le_of_ble_eq_true rfl) ⟨by decide, by decide, by decide, by decide⟩ (fun r_16 S_16 q_16 => ?_)
    obtain ⟨rfl, rfl, b_16⟩ := q_16
    refine a_if_eq (tgt := 29) X dX3_readUnit_19 (by decide) (fun h_19 => ?_) (fun h_19 => ?_)
    · replace h := (if_pos h_19).symm.trans h
      exact Zw.to2 (J_29 _ _ h) rfl rfl rfl
    · replace h := (if_neg h_19).symm.trans h
      refine a_aload_n X dX3_readUnit_22 rfl ?_
      obtain ⟨e_23, f_23, h⟩ := zBx h
      refine a_callVx X dX3_readUnit_23 miX3_endOfLine lm3_181 (t_X3_endOfLine (by assumption) f_23) (by assumption) rfl rfl rfl (Nat.le_of_ble_eq_true rfl) ⟨by decide, by decide, by decide, by decide⟩ (fun r_23 S_23 q_23 => ?_)
      obtain ⟨rfl, rfl, b_23⟩ := q_23
      refine a_if_ne (tgt := 31) X dX3_readUnit_26 (by decide) (fun h_26 => ?_) (fun h_26 => ?_)
      · replace h := (if_neg h_26).symm.trans h
        refine a_aload_n X dX3_readUnit_31 rfl ?_
        refine a_getr X lf3_29 (by assumption) rfl (by omega) dX3_readUnit_32 ?_
        refine a_aload_n X dX3_readUnit_35 rfl ?_
        refine a_getr X lf3_12 (by assumption) rfl (by omega) dX3_readUnit_36 ?_
        refine a_geti X lf3_142 (by assumption) rfl dX3_readUnit_39 ?_
        refine a_aload_n X dX3_readUnit_42 rfl ?_
        refine a_getl X lf3_184 (by assumption) rfl dX3_readUnit_43 ?_
        obtain ⟨N_46, f_46, h⟩ := zLtx h
        refine a_callSNu X dX3_readUnit_46 miX7_bigPut lm3_187 (zMuN (c_bigPut (by assumption) (by first | decide | assumption)) f_46) rfl rfl (Nat.le_of_ble_eq_true rfl) ⟨by decide, by decide, by decide, by decide⟩ ?_
        refine a_aload_n X dX3_readUnit_49 rfl ?_
        refine a_getr X lf3_12 (by assumption) rfl (by omega) dX3_readUnit_50 ?_
        refine a_aload_n X dX3_readUnit_53 rfl ?_
        refine a_geti X lf3_110 (by assumption) rfl dX3_readUnit_54 ?_
        obtain ⟨e_57, f_57, h⟩ := zBx h
        refine a_callVu X dX3_readUnit_57 miX4_addUnit lm3_191 (t_X4_addUnit (by assumption) f_57) (by assumption) rfl rfl rfl (Nat.le_of_ble_eq_true rfl) ⟨by decide, by decide, by decide, by decide⟩ ?_
        refine a_iconst (v := 1) X dX3_readUnit_60 (by decide) ?_
        refine a_zret X (by first | exact Or.inl rfl | exact Or.inr rfl | assumption) hr dX3_readUnit_61 ⟨by decide, by decide⟩ ?_
        subst hF
        rw [← Option.some.inj h]
        exact ⟨rfl, rfl, (by first | exact Or.inl rfl | exact Or.inr rfl | assumption)⟩
      · replace h := (if_pos h_26).symm.trans h
        exact Zw.to2 (J_29 _ _ h) rfl rfl rfl
  · replace h := (if_pos h_8).symm.trans h
    refine a_iconst (v := 0) X dX3_readUnit_11 (by decide) ?_
    refine a_zret X (by first | exact Or.inl rfl | exact Or.inr rfl | assumption) hr dX3_readUnit_12 ⟨by decide, by decide⟩ ?_
    subst hF
    rw [← Option.some.inj h]
    exact ⟨rfl, rfl, (by first | exact Or.inl rfl | exact Or.inr rfl | assumption)⟩
