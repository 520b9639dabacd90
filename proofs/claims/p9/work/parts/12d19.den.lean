noncomputable def D_X8_takesBack_2 (P : Nat) : Nat → Int32 → zMt → Option (zMt)
  | 0, _, _ => none
  | n + 1, x1_2, M_2 =>
    if (82 : Int32) ≤ x1_2 then
      some (M_2)
    else
      zI x1_2 82 <|
      zI x1_2 82 <|
      zLt (zu M_2 (P + 1) x1_2.toNatClampNeg (M_2 (P + 3) x1_2.toNatClampNeg)) fun M_19 =>
      (D_X8_takesBack_2 P n) (x1_2 + 1) M_19
noncomputable def D_X8_takesBack (P : Nat) (M : zMt) : Option (zMt) :=
  D_X8_takesBack_2 P zFu (0 : Int32) M
set_option maxRecDepth 100000 in
set_option maxHeartbeats 4000000 in
theorem t_X8_takesBack {l : Launch} {G : zG} {b : Nat} {L : List zC} {M : zMt} {N : zNt} {P : Nat}  (hP : LX8 L P) {r : zMt} (h : D_X8_takesBack P M = some r) : zM l G b yX8_takesBack cX8_takesBack 2 none 0 0 0 [.ref P] (L, M, N) (fun r2 z => r2 = none ∧ z = (L, r, N)) := by
  refine zM.of miX8_takesBack (Nat.le_of_ble_eq_true rfl) ?_
  intro p e s m args below meth c X hr hname
  generalize hF : ((fun r2 z => r2 = none ∧ z = (L, r, N)) : Option Value → zS → Prop) = FQ
  change Zw p l e { frames := 0, cells := 0, slots := 0, locals := 80 * (0) } s m args below meth c G b 2 (MQ below (zQ G b FQ) args s 0 0 (fun q : Nat => b ≤ q)) 0 0 0 [some (.ref P), none] [] (L, M, N)
  obtain ⟨p_lt, p_o, p_s, p_read, p_aside, p_kept, p_guest, p_readGuest, p_tape, p_unitName, p_hunterName, p_partyName, p_bits, p_partyOf, p_choiceAt, p_sizes, p_guestMany, p_pointsOf, p_ticketsOf, p_ord, p_given, p_roundOf, p_tags, p_guestTags, p_places, p_sumAt, p_sumFirst, p_sumRound, p_sumBoth, p_sumTags, p_isEnd, p_newPoints, p_inRow, p_out⟩ := id hP
  have L_2 : ∀ u : Nat, ∀ (x1_2 : Int32) (M_2 : zMt), D_X8_takesBack_2 P u x1_2 M_2 = some r → Zw p l e { frames := 0, cells := 0, slots := 0, locals := 80 * (0) } s m args below meth c G b 2 (MQ below (zQ G b FQ) args s 0 0 (fun q : Nat => b ≤ q)) 0 0 2 [some (.ref (P)), some (.int x1_2)] [] (L, M_2, N) := by
    intro u
    induction u with
    | zero => intro x1_2 M_2 h; cases (show none = some r from h)
    | succ u_2 ih_2 =>
      intro x1_2 M_2 h
      rw [D_X8_takesBack_2] at h
      refine a_iload_n X dX8_takesBack_2 rfl ?_
      refine a_bipush (v := 82) X dX8_takesBack_3 (by decide) ?_
      refine a_icmp_ge (tgt := 26) X dX8_takesBack_5 (by decide) (fun h_5 => ?_) (fun h_5 => ?_)
      · replace h := (if_pos h_5).symm.trans h
        refine a_vret X hr dX8_takesBack_26 ⟨by decide, by decide⟩ ?_
        subst hF
        rw [← Option.some.inj h]
        exact ⟨rfl, rfl⟩
      · replace h := (if_neg h_5).symm.trans h
        refine a_aload_n X dX8_takesBack_8 rfl ?_
        refine a_getr X lf8_7 (by assumption) rfl (by omega) dX8_takesBack_9 ?_
        refine a_iload_n X dX8_takesBack_12 rfl ?_
        refine a_aload_n X dX8_takesBack_13 rfl ?_
        refine a_getr X lf8_16 (by assumption) rfl (by omega) dX8_takesBack_14 ?_
        refine a_iload_n X dX8_takesBack_17 rfl ?_
        obtain ⟨g_18, h⟩ := zIx h
        refine a_iaload X (by assumption) g_18 dX8_takesBack_18 ?_
        obtain ⟨g_19, h⟩ := zIx h
        obtain ⟨M_19, f_19, h⟩ := zLtx h
        refine d_iastore X (by assumption) g_19 dX8_takesBack_19 f_19 ?_
        refine a_iinc (v := x1_2 + 1) X dX8_takesBack_20 (by decide) rfl zi_1 ?_
        refine a_goto (tgt := 2) X dX8_takesBack_23 (by decide) ?_
        exact Zw.to2 (ih_2 _ _ h) rfl rfl rfl
  have H_2 : ∀ (x1_2 : Int32) (M_2 : zMt), D_X8_takesBack_2 P zFu x1_2 M_2 = some r → Zw p l e { frames := 0, cells := 0, slots := 0, locals := 80 * (0) } s m args below meth c G b 2 (MQ below (zQ G b FQ) args s 0 0 (fun q : Nat => b ≤ q)) 0 0 2 [some (.ref (P)), some (.int x1_2)] [] (L, M_2, N) := L_2 zFu
  unfold D_X8_takesBack at h
  refine a_iconst (v := 0) X dX8_takesBack_0 (by decide) ?_
  refine a_istore_n X dX8_takesBack_1 (by decide) ?_
  exact Zw.to2 (H_2 _ _ h) rfl rfl rfl
noncomputable def D_X8_need_161 (P : Nat) (y0_161 : Int32) (M_161 : zMt) (N_161 : zNt) : Option (Int32 × zMt × zNt) :=
  some (y0_161, M_161, N_161)
noncomputable def D_X8_need_137 (P : Nat) (x4_137 : Int32) (M_137 : zMt) (N_137 : zNt) : Option (Int32 × zMt × zNt) :=
  zB (D_X8_takesBack P M_137) fun e_138 =>
  if x4_137 = (-1 : Int32) then
    zB (D_X8_refuse P (5 : Int32) e_138) fun e_149 =>
    D_X8_need_161 P e_149.1 e_149.2 N_137
  else
    zB (D_X8_gives P x4_137 e_138) fun e_158 =>
    D_X8_need_161 P e_158.1 e_158.2 N_137
noncomputable def D_X8_need_129 (P : Nat) (k81 : Int32 → Int32 → Int32 → Int32 → Int32 → zMt → zNt → Option (Int32 × zMt × zNt)) (x1_129 : Int32) (x2_129 : Int32) (x3_129 : Int32) (x5_129 : Int32) (y0_129 : Int32) (M_129 : zMt) (N_129 : zNt) : Option (Int32 × zMt × zNt) :=
  k81 x1_129 x2_129 x3_129 y0_129 (x5_129 + 1) M_129 N_129
noncomputable def D_X8_need_81 (P : Nat) : Nat → Int32 → Int32 → Int32 → Int32 → Int32 → zMt → zNt → Option (Int32 × zMt × zNt)
  | 0, _, _, _, _, _, _, _ => none
  | n + 1, x1_81, x2_81, x3_81, x4_81, x5_81, M_81, N_81 =>
    if (20 : Int32) < x5_81 then
      D_X8_need_137 P x4_81 M_81 N_81
    else
      if x4_81 = (-1 : Int32) then
        zI ((0 : Int32) + x1_81) 82 <|
        zLt (zu M_81 (P + 1) ((0 : Int32) + x1_81).toNatClampNeg x5_81) fun M_103 =>
        zB (D_X8_laysAll P M_103 N_81) fun e_105 =>
        zB (D_X8_chanceOf P e_105.1 e_105.2 x3_81) fun e_110 =>
        if (lg_cmp (e_110 / (1000000000 : Int64)) (Int32.toInt64 x2_81)) < 0 then
          D_X8_need_129 P (D_X8_need_81 P n) x1_81 x2_81 x3_81 x5_81 (-1 : Int32) e_105.1 e_105.2
        else
          D_X8_need_129 P (D_X8_need_81 P n) x1_81 x2_81 x3_81 x5_81 x5_81 e_105.1 e_105.2
      else
        D_X8_need_137 P x4_81 M_81 N_81
noncomputable def D_X8_need (P : Nat) (v0 : Int32) (v1 : Int32) (M : zMt) (N : zNt) : Option (Int32 × zMt × zNt) :=
  zB (D_X8_isFrom (Int32.toInt64 v1) (0 : Int64) (1000 : Int64)) fun e_6 =>
  if e_6 = 0 then
    zB (D_X8_refuse P (1 : Int32) M) fun e_14 =>
    some (e_14.1, e_14.2, N)
  else
    zB (D_X8_isHunter P M v0) fun e_20 =>
    if e_20 = 0 then
      zB (D_X8_refuse P (2 : Int32) M) fun e_28 =>
      some (e_28.1, e_28.2, N)
    else
      zI ((10 : Int32) + v0) 82 <|
      if (M (P + 1) ((10 : Int32) + v0).toNatClampNeg) = (-1 : Int32) then
        zB (D_X8_areMany P M) fun e_53 =>
        if e_53.1 = 0 then
          zB (D_X8_applicantOf P v0 e_53.2) fun e_67 =>
          zB (D_X8_putsAside P e_67.2) fun e_72 =>
          D_X8_need_81 P zFu v0 v1 e_67.1 (-1 : Int32) (0 : Int32) e_72 N
        else
          zB (D_X8_refuse P (3 : Int32) e_53.2) fun e_61 =>
          some (e_61.1, e_61.2, N)
      else
        zB (D_X8_refuse P (7 : Int32) M) fun e_48 =>
        some (e_48.1, e_48.2, N)
set_option maxRecDepth 100000 in
set_option maxHeartbeats 4000000 in
theorem t_X8_need {l : Launch} {G : zG} {b : Nat} {L : List zC} {M : zMt} {N : zNt} {P : Nat} {v0 : Int32} {v1 : Int32} (hP : LX8 L P) {r : Int32 × zMt × zNt} (h : D_X8_need P v0 v1 M N = some r) : zM l G b yX8_need cX8_need 6 (some .int) 14 0 0 [.ref P, .int v0, .int v1] (L, M, N) (fun r2 z => r2 = some (.int r.1) ∧ z = (L, r.2.1, r.2.2)) := by
  refine zM.of miX8_need (Nat.le_of_ble_eq_true rfl) ?_
  intro p e s m args below meth c X hr hname
  generalize hF : ((fun r2 z => r2 = some (.int r.1) ∧ z = (L, r.2.1, r.2.2)) : Option Value → zS → Prop) = FQ
  change Zw p l e { frames := 14, cells := 0, slots := 0, locals := 80 * (14) } s m args below meth c G b 6 (MQ below (zQ G b FQ) args s 0 0 (fun q : Nat => b ≤ q)) 0 0 0 [some (.ref P), some (.int v0), some (.int v1), none, none, none] [] (L, M, N)
  obtain ⟨p_lt, p_o, p_s, p_read, p_aside, p_kept, p_guest, p_readGuest, p_tape, p_unitName, p_hunterName, p_partyName, p_bits, p_partyOf, p_choiceAt, p_sizes, p_guestMany, p_pointsOf, p_ticketsOf, p_ord, p_given, p_roundOf, p_tags, p_guestTags, p_places, p_sumAt, p_sumFirst, p_sumRound, p_sumBoth, p_sumTags, p_isEnd, p_newPoints, p_inRow, p_out⟩ := id hP
  have J_161 : ∀ (x1_161 : Int32) (x2_161 : Int32) (x3_161 : Int32) (x4_161 : Int32) (x5_161 : Int32) (y0_161 : Int32) (M_161 : zMt) (N_161 : zNt), D_X8_need_161 P y0_161 M_161 N_161 = some r → Zw p l e { frames := 14, cells := 0, slots := 0, locals := 80 * (14) } s m args below meth c G b 6 (MQ below (zQ G b FQ) args s 0 0 (fun q : Nat => b ≤ q)) 0 0 161 [some (.ref (P)), some (.int x1_161), some (.int x2_161), some (.int x3_161), some (.int x4_161), some (.int x5_161)] [.int y0_161] (L, M_161, N_161) := by
    intro x1_161 x2_161 x3_161 x4_161 x5_161 y0_161 M_161 N_161 h
    unfold D_X8_need_161 at h
    refine a_iret X hr dX8_need_161 ⟨by decide, by decide⟩ ?_
    subst hF
    rw [← Option.some.inj h]
    exact ⟨rfl, rfl⟩
  have J_137 : ∀ (x1_137 : Int32) (x2_137 : Int32) (x3_137 : Int32) (x4_137 : Int32) (x5_137 : Int32) (M_137 : zMt) (N_137 : zNt), D_X8_need_137 P x4_137 M_137 N_137 = some r → Zw p l e { frames := 14, cells := 0, slots := 0, locals := 80 * (14) } s m args below meth c G b 6 (MQ below (zQ G b FQ) args s 0 0 (fun q : Nat => b ≤ q)) 0 0 137 [some (.ref (P)), some (.int x1_137), some (.int x2_137), some (.int x3_137), some (.int x4_137), some (.int x5_137)] [] (L, M_137, N_137) := by
    intro x1_137 x2_137 x3_137 x4_137 x5_137 M_137 N_137 h
    unfold D_X8_need_137 at h
    refine a_aload_n X dX8_need_137 rfl ?_
    obtain ⟨e_138, f_138, h⟩ := zBx h
    refine a_callVu X dX8_need_138 miX8_takesBack lm8_449 (t_X8_takesBack (by assumption) f_138) (by assumption) rfl rfl rfl (Nat.le_of_ble_eq_true rfl) ⟨by decide, by decide, by decide, by decide⟩ ?_
    refine a_iload X dX8_need_141 rfl ?_
    refine a_iconst (v := -1) X dX8_need_143 (by decide) ?_
    refine a_icmp_ne (tgt := 155) X dX8_need_144 (by decide) (fun h_144 => ?_) (fun h_144 => ?_)
    · replace h := (if_neg h_144).symm.trans h
      refine a_aload_n X dX8_need_155 rfl ?_
      refine a_iload X dX8_need_156 rfl ?_
      obtain ⟨e_158, f_158, h⟩ := zBx h
      refine a_callVv X dX8_need_158 miX8_gives lm8_272 (t_X8_gives (by assumption) f_158) (by assumption) rfl rfl rfl (Nat.le_of_ble_eq_true rfl) ⟨by decide, by decide, by decide, by decide⟩ ?_
      exact Zw.to2 (J_161 _ _ _ _ _ _ _ _ h) rfl rfl rfl
    · replace h := (if_pos h_144).symm.trans h
      refine a_aload_n X dX8_need_147 rfl ?_
      refine a_iconst (v := 5) X dX8_need_148 (by decide) ?_
      obtain ⟨e_149, f_149, h⟩ := zBx h
      refine a_callVv X dX8_need_149 miX8_refuse lm8_263 (t_X8_refuse (by assumption) f_149) (by assumption) rfl rfl rfl (Nat.le_of_ble_eq_true rfl) ⟨by decide, by decide, by decide, by decide⟩ ?_
      refine a_goto (tgt := 161) X dX8_need_152 (by decide) ?_
      exact Zw.to2 (J_161 _ _ _ _ _ _ _ _ h) rfl rfl rfl
  have L_81 : ∀ u : Nat, ∀ (x1_81 : Int32) (x2_81 : Int32) (x3_81 : Int32) (x4_81 : Int32) (x5_81 : Int32) (M_81 : zMt) (N_81 : zNt), D_X8_need_81 P u x1_81 x2_81 x3_81 x4_81 x5_81 M_81 N_81 = some r → Zw p l e { frames := 14, cells := 0, slots := 0, locals := 80 * (14) } s m args below meth c G b 6 (MQ below (zQ G b FQ) args s 0 0 (fun q : Nat => b ≤ q)) 0 0 81 [some (.ref (P)), some (.int x1_81), some (.int x2_81), some (.int x3_81), some (.int x4_81), some (.int x5_81)] [] (L, M_81, N_81) := by
    intro u
    induction u with
    | zero => intro x1_81 x2_81 x3_81 x4_81 x5_81 M_81 N_81 h; cases (show none = some r from h)
    | succ u_81 ih_81 =>
      have J_129 : ∀ (x1_129 : Int32) (x2_129 : Int32) (x3_129 : Int32) (x4_129 : Int32) (x5_129 : Int32) (y0_129 : Int32) (M_129 : zMt) (N_129 : zNt), D_X8_need_129 P (D_X8_need_81 P u_81) x1_129 x2_129 x3_129 x5_129 y0_129 M_129 N_129 = some r → Zw p l e { frames := 14, cells := 0, slots := 0, locals := 80 * (14) } s m args below meth c G b 6 (MQ below (zQ G b FQ) args s 0 0 (fun q : Nat => b ≤ q)) 0 0 129 [some (.ref (P)), some (.int x1_129), some (.int x2_129), some (.int x3_129), some (.int x4_129), some (.int x5_129)] [.int y0_129] (L, M_129, N_129) := by
        intro x1_129 x2_129 x3_129 x4_129 x5_129 y0_129 M_129 N_129 h
        unfold D_X8_need_129 at h
        refine a_istore X dX8_need_129 (by decide) ?_
        refine a_iinc (v := x5_129 + 1) X dX8_need_131 (by decide) rfl zi_1 ?_
        refine a_goto (tgt := 81) X dX8_need_134 (by decide) ?_
        exact Zw.to2 (ih_81 _ _ _ _ _ _ _ h) rfl rfl rfl
      intro x1_81 x2_81 x3_81 x4_81 x5_81 M_81 N_81 h
      rw [D_X8_need_81] at h
      refine a_iload X dX8_need_81 rfl ?_
      refine a_bipush (v := 20) X dX8_need_83 (by decide) ?_
      refine a_icmp_gt (tgt := 137) X dX8_need_85 (by decide) (fun h_85 => ?_) (fun h_85 => ?_)
      · replace h := (if_pos h_85).symm.trans h
        exact Zw.to2 (J_137 _ _ _ _ _ _ _ h) rfl rfl rfl
      · replace h := (if_neg h_85).symm.trans h
        refine a_iload X dX8_need_88 rfl ?_
        refine a_iconst (v := -1) X dX8_need_90 (by decide) ?_
        refine a_icmp_ne (tgt := 137) X dX8_need_91 (by decide) (fun h_91 => ?_) (fun h_91 => ?_)
        · replace h := (if_neg h_91).symm.trans h
          exact Zw.to2 (J_137 _ _ _ _ _ _ _ h) rfl rfl rfl
        · replace h := (if_pos h_91).symm.trans h
          refine a_aload_n X dX8_need_94 rfl ?_
          refine a_getr X lf8_7 (by assumption) rfl (by omega) dX8_need_95 ?_
          refine a_iconst (v := 0) X dX8_need_98 (by decide) ?_
          refine a_iload_n X dX8_need_99 rfl ?_
          refine a_iadd X dX8_need_100 ?_
          refine a_iload X dX8_need_101 rfl ?_
          obtain ⟨g_103, h⟩ := zIx h
          obtain ⟨M_103, f_103, h⟩ := zLtx h
          refine d_iastore X (by assumption) g_103 dX8_need_103 f_103 ?_
          refine a_aload_n X dX8_need_104 rfl ?_
          obtain ⟨e_105, f_105, h⟩ := zBx h
          refine a_callVu X dX8_need_105 miX8_laysAll lm8_432 (t_X8_laysAll (by assumption) f_105) (by assumption) rfl rfl rfl (Nat.le_of_ble_eq_true rfl) ⟨by decide, by decide, by decide, by decide⟩ ?_
          refine a_aload_n X dX8_need_108 rfl ?_
          refine a_iload_n X dX8_need_109 rfl ?_
          obtain ⟨e_110, f_110, h⟩ := zBx h
          refine a_callVv X dX8_need_110 miX8_chanceOf lm8_435 (t_X8_chanceOf (by assumption) f_110) (by assumption) rfl rfl rfl (Nat.le_of_ble_eq_true rfl) ⟨by decide, by decide, by decide, by decide⟩ ?_
          refine a_ldc2 X dX8_need_113 lk8_447 ?_
          refine a_ldiv X dX8_need_116 (by decide) ?_
          refine a_iload_n X dX8_need_117 rfl ?_
          refine a_i2l X dX8_need_118 ?_
          refine a_lcmp X dX8_need_119 ?_
          refine a_if_lt (tgt := 128) X dX8_need_120 (by decide) (fun h_120 => ?_) (fun h_120 => ?_)
          · replace h := (if_pos h_120).symm.trans h
            refine a_iconst (v := -1) X dX8_need_128 (by decide) ?_
            exact Zw.to2 (J_129 _ _ _ _ _ _ _ _ h) rfl rfl rfl
          · replace h := (if_neg h_120).symm.trans h
            refine a_iload X dX8_need_123 rfl ?_
            refine a_goto (tgt := 129) X dX8_need_125 (by decide) ?_
            exact Zw.to2 (J_129 _ _ _ _ _ _ _ _ h) rfl rfl rfl
  have H_81 : ∀ (x1_81 : Int32) (x2_81 : Int32) (x3_81 : Int32) (x4_81 : Int32) (x5_81 : Int32) (M_81 : zMt) (N_81 : zNt), D_X8_need_81 P zFu x1_81 x2_81 x3_81 x4_81 x5_81 M_81 N_81 = some r → Zw p l e { frames := 14, cells := 0, slots := 0, locals := 80 * (14) } s m args below meth c G b 6 (MQ below (zQ G b FQ) args s 0 0 (fun q : Nat => b ≤ q)) 0 0 81 [some (.ref (P)), some (.int x1_81), some (.int x2_81), some (.int x3_81), some (.int x4_81), some (.int x5_81)] [] (L, M_81, N_81) := L_81 zFu
  unfold D_X8_need at h
  refine a_iload_n X dX8_need_0 rfl ?_
  refine a_i2l X dX8_need_1 ?_
  refine a_lconst (v := 0) X dX8_need_2 (by decide) ?_
  refine a_ldc2 X dX8_need_3 lk8_442 ?_
  obtain ⟨e_6, f_6, h⟩ := zBx h
  refine a_callSx X dX8_need_6 miX8_isFrom lm8_128 (t_X8_isFrom f_6) rfl rfl (Nat.le_of_ble_eq_true rfl) ⟨by decide, by decide, by decide, by decide⟩ (fun r_6 S_6 q_6 => ?_)
  obtain ⟨rfl, rfl, b_6⟩ := q_6
  refine a_if_ne (tgt := 18) X dX8_need_9 (by decide) (fun h_9 => ?_) (fun h_9 => ?_)
  · replace h := (if_neg h_9).symm.trans h
    refine a_aload_n X dX8_need_18 rfl ?_
    refine a_iload_n X dX8_need_19 rfl ?_
    obtain ⟨e_20, f_20, h⟩ := zBx h
    refine a_callVx X dX8_need_20 miX8_isHunter lm8_293 (t_X8_isHunter (by assumption) f_20) (by assumption) rfl rfl rfl (Nat.le_of_ble_eq_true rfl) ⟨by decide, by decide, by decide, by decide⟩ (fun r_20 S_20 q_20 => ?_)
    obtain ⟨rfl, rfl, b_20⟩ := q_20
    refine a_if_ne (tgt := 32) X dX8_need_23 (by decide) (fun h_23 => ?_) (fun h_23 => ?_)
    · replace h := (if_neg h_23).symm.trans h
      refine a_aload_n X dX8_need_32 rfl ?_
      refine a_getr X lf8_7 (by assumption) rfl (by omega) dX8_need_33 ?_
      refine a_bipush (v := 10) X dX8_need_36 (by decide) ?_
      refine a_iload_n X dX8_need_38 rfl ?_
      refine a_iadd X dX8_need_39 ?_
      obtain ⟨g_40, h⟩ := zIx h
      refine a_iaload X (by assumption) g_40 dX8_need_40 ?_
      refine a_iconst (v := -1) X dX8_need_41 (by decide) ?_
      refine a_icmp_eq (tgt := 52) X dX8_need_42 (by decide) (fun h_42 => ?_) (fun h_42 => ?_)
      · replace h := (if_pos h_42).symm.trans h
        refine a_aload_n X dX8_need_52 rfl ?_
        obtain ⟨e_53, f_53, h⟩ := zBx h
        refine a_callVx X dX8_need_53 miX8_areMany lm8_429 (t_X8_areMany (by assumption) f_53) (by assumption) rfl rfl rfl (Nat.le_of_ble_eq_true rfl) ⟨by decide, by decide, by decide, by decide⟩ (fun r_53 S_53 q_53 => ?_)
        obtain ⟨rfl, rfl, b_53⟩ := q_53
        refine a_if_eq (tgt := 65) X dX8_need_56 (by decide) (fun h_56 => ?_) (fun h_56 => ?_)
        · replace h := (if_pos h_56).symm.trans h
          refine a_aload_n X dX8_need_65 rfl ?_
          refine a_iload_n X dX8_need_66 rfl ?_
          obtain ⟨e_67, f_67, h⟩ := zBx h
          refine a_callVv X dX8_need_67 miX8_applicantOf lm8_296 (t_X8_applicantOf (by assumption) f_67) (by assumption) rfl rfl rfl (Nat.le_of_ble_eq_true rfl) ⟨by decide, by decide, by decide, by decide⟩ ?_
          refine a_istore_n X dX8_need_70 (by decide) ?_
          refine a_aload_n X dX8_need_71 rfl ?_
          obtain ⟨e_72, f_72, h⟩ := zBx h
          refine a_callVu X dX8_need_72 miX8_putsAside lm8_444 (t_X8_putsAside (by assumption) f_72) (by assumption) rfl rfl rfl (Nat.le_of_ble_eq_true rfl) ⟨by decide, by decide, by decide, by decide⟩ ?_
          refine a_iconst (v := -1) X dX8_need_75 (by decide) ?_
          refine a_istore X dX8_need_76 (by decide) ?_
          refine a_iconst (v := 0) X dX8_need_78 (by decide) ?_
          refine a_istore X dX8_need_79 (by decide) ?_
          exact Zw.to2 (H_81 _ _ _ _ _ _ _ h) rfl rfl rfl
        · replace h := (if_neg h_56).symm.trans h
          refine a_aload_n X dX8_need_59 rfl ?_
          refine a_iconst (v := 3) X dX8_need_60 (by decide) ?_
          obtain ⟨e_61, f_61, h⟩ := zBx h
          refine a_callVv X dX8_need_61 miX8_refuse lm8_263 (t_X8_refuse (by assumption) f_61) (by assumption) rfl rfl rfl (Nat.le_of_ble_eq_true rfl) ⟨by decide, by decide, by decide, by decide⟩ ?_
          refine a_iret X hr dX8_need_64 ⟨by decide, by decide⟩ ?_
          subst hF
          rw [← Option.some.inj h]
          exact ⟨rfl, rfl⟩
      · replace h := (if_neg h_42).symm.trans h
        refine a_aload_n X dX8_need_45 rfl ?_
        refine a_bipush (v := 7) X dX8_need_46 (by decide) ?_
        obtain ⟨e_48, f_48, h⟩ := zBx h
        refine a_callVv X dX8_need_48 miX8_refuse lm8_263 (t_X8_refuse (by assumption) f_48) (by assumption) rfl rfl rfl (Nat.le_of_ble_eq_true rfl) ⟨by decide, by decide, by decide, by decide⟩ ?_
        refine a_iret X hr dX8_need_51 ⟨by decide, by decide⟩ ?_
        subst hF
        rw [← Option.some.inj h]
        exact ⟨rfl, rfl⟩
    · replace h := (if_pos h_23).symm.trans h
      refine a_aload_n X dX8_need_26 rfl ?_
      refine a_iconst (v := 2) X dX8_need_27 (by decide) ?_
      obtain ⟨e_28, f_28, h⟩ := zBx h
      refine a_callVv X dX8_need_28 miX8_refuse lm8_263 (t_X8_refuse (by assumption) f_28) (by assumption) rfl rfl rfl (Nat.le_of_ble_eq_true rfl) ⟨by decide, by decide, by decide, by decide⟩ ?_
      refine a_iret X hr dX8_need_31 ⟨by decide, by decide⟩ ?_
      subst hF
      rw [← Option.some.inj h]
      exact ⟨rfl, rfl⟩
  · replace h := (if_pos h_9).symm.trans h
    refine a_aload_n X dX8_need_12 rfl ?_
    refine a_iconst (v := 1) X dX8_need_13 (by decide) ?_
    obtain ⟨e_14, f_14, h⟩ := zBx h
    refine a_callVv X dX8_need_14 miX8_refuse lm8_263 (t_X8_refuse (by assumption) f_14) (by assumption) rfl rfl rfl (Nat.le_of_ble_eq_true rfl) ⟨by decide, by decide, by decide, by decide⟩ ?_
    refine a_iret X hr dX8_need_17 ⟨by decide, by decide⟩ ?_
    subst hF
    rw [← Option.some.inj h]
    exact ⟨rfl, rfl⟩
noncomputable def D_X8_wisest_90 (P : Nat) (k15 : Int32 → Int32 → Int32 → zMt → zNt → Option (Int32 × zMt × zNt)) (x1_90 : Int32) (x2_90 : Int32) (x3_90 : Int32) (M_90 : zMt) (N_90 : zNt) : Option (Int32 × zMt × zNt) :=
  k15 x1_90 x2_90 (x3_90 + 1) M_90 N_90
noncomputable def D_X8_wisest_55 (P : Nat) (k15 : Int32 → Int32 → Int32 → zMt → zNt → Option (Int32 × zMt × zNt)) (k26 : Int32 → Int32 → Int32 → Int32 → zMt → zNt → Option (Int32 × zMt × zNt)) (x1_55 : Int32) (x2_55 : Int32) (x3_55 : Int32) (x4_55 : Int32) (y1_55 : Int32) (y2_55 : Int32) (M_55 : zMt) (N_55 : zNt) : Option (Int32 × zMt × zNt) :=
  zI y1_55 82 <|
  zLt (zu M_55 (P + 1) y1_55.toNatClampNeg y2_55) fun M_55 =>
  k26 x1_55 x2_55 x3_55 (x4_55 + 1) M_55 N_55
noncomputable def D_X8_wisest_26 (P : Nat) (k15 : Int32 → Int32 → Int32 → zMt → zNt → Option (Int32 × zMt × zNt)) : Nat → Int32 → Int32 → Int32 → Int32 → zMt → zNt → Option (Int32 × zMt × zNt)
  | 0, _, _, _, _, _, _ => none
  | n + 1, x1_26, x2_26, x3_26, x4_26, M_26, N_26 =>
    if (3 : Int32) ≤ x4_26 then
      zB (D_X8_laysAll P M_26 N_26) fun e_63 =>
      zB (D_X8_chanceOf P e_63.1 e_63.2 x1_26) fun e_68 =>
      if (lg_cmp e_68 (e_63.2 P 60)) ≤ 0 then
        D_X8_wisest_90 P k15 x1_26 x2_26 x3_26 e_63.1 e_63.2
      else
        zB (D_X8_chanceOf P e_63.1 e_63.2 x1_26) fun e_84 =>
        zLt (zu e_63.2 P 60 e_84) fun N_87 =>
        D_X8_wisest_90 P k15 x1_26 x3_26 x3_26 e_63.1 N_87
    else
      zI x1_26 10 <|
      if x4_26 = 0 then
        D_X8_wisest_55 P k15 (D_X8_wisest_26 P k15 n) x1_26 x2_26 x3_26 x4_26 ((M_26 (P + 13) x1_26.toNatClampNeg) + x4_26) x3_26 M_26 N_26
      else
        D_X8_wisest_55 P k15 (D_X8_wisest_26 P k15 n) x1_26 x2_26 x3_26 x4_26 ((M_26 (P + 13) x1_26.toNatClampNeg) + x4_26) (-1 : Int32) M_26 N_26
noncomputable def D_X8_wisest_15 (P : Nat) : Nat → Int32 → Int32 → Int32 → zMt → zNt → Option (Int32 × zMt × zNt)
  | 0, _, _, _, _, _ => none
  | n + 1, x1_15, x2_15, x3_15, M_15, N_15 =>
    if (M_15 P 7) ≤ x3_15 then
      zB (D_X8_takesBack P M_15) fun e_97 =>
      some (x2_15, e_97, N_15)
    else
      D_X8_wisest_26 P (D_X8_wisest_15 P n) zFu x1_15 x2_15 x3_15 (0 : Int32) M_15 N_15
noncomputable def D_X8_wisest (P : Nat) (v0 : Int32) (M : zMt) (N : zNt) : Option (Int32 × zMt × zNt) :=
  zB (D_X8_putsAside P M) fun e_1 =>
  zLt (zu N P 60 (-1 : Int64)) fun N_10 =>
  D_X8_wisest_15 P zFu v0 (-1 : Int32) (0 : Int32) e_1 N_10
set_option maxRecDepth 100000 in
set_option maxHeartbeats 4000000 in
theorem t_X8_wisest {l : Launch} {G : zG} {b : Nat} {L : List zC} {M : zMt} {N : zNt} {P : Nat} {v0 : Int32} (hP : LX8 L P) {r : Int32 × zMt × zNt} (h : D_X8_wisest P v0 M N = some r) : zM l G b yX8_wisest cX8_wisest 5 (some .int) 14 0 0 [.ref P, .int v0] (L, M, N) (fun r2 z => r2 = some (.int r.1) ∧ z = (L, r.2.1, r.2.2)) := by
  refine zM.of miX8_wisest (Nat.le_of_ble_eq_true rfl) ?_
  intro p e s m args below meth c X hr hname
  generalize hF : ((fun r2 z => r2 = some (.int r.1) ∧ z = (L, r.2.1, r.2.2)) : Option Value → zS → Prop) = FQ
  change Zw p l e { frames := 14, cells := 0, slots := 0, locals := 80 * (14) } s m args below meth c G b 5 (MQ below (zQ G b FQ) args s 0 0 (fun q : Nat => b ≤ q)) 0 0 0 [some (.ref P), some (.int v0), none, none, none] [] (L, M, N)
  obtain ⟨p_lt, p_o, p_s, p_read, p_aside, p_kept, p_guest, p_readGuest, p_tape, p_unitName, p_hunterName, p_partyName, p_bits, p_partyOf, p_choiceAt, p_sizes, p_guestMany, p_pointsOf, p_ticketsOf, p_ord, p_given, p_roundOf, p_tags, p_guestTags, p_places, p_sumAt, p_sumFirst, p_sumRound, p_sumBoth, p_sumTags, p_isEnd, p_newPoints, p_inRow, p_out⟩ := id hP
  have L_15 : ∀ u : Nat, ∀ (x1_15 : Int32) (x2_15 : Int32) (x3_15 : Int32) (x4_15 : Option Value) (M_15 : zMt) (N_15 : zNt), D_X8_wisest_15 P u x1_15 x2_15 x3_15 M_15 N_15 = some r → Zw p l e { frames := 14, cells := 0, slots := 0, locals := 80 * (14) } s m args below meth c G b 5 (MQ below (zQ G b FQ) args s 0 0 (fun q : Nat => b ≤ q)) 0 0 15 [some (.ref (P)), some (.int x1_15), some (.int x2_15), some (.int x3_15), x4_15] [] (L, M_15, N_15) := by
    intro u
    induction u with
    | zero => intro x1_15 x2_15 x3_15 x4_15 M_15 N_15 h; cases (show none = some r from h)
    | succ u_15 ih_15 =>
      have J_90 : ∀ (x1_90 : Int32) (x2_90 : Int32) (x3_90 : Int32) (x4_90 : Int32) (M_90 : zMt) (N_90 : zNt), D_X8_wisest_90 P (D_X8_wisest_15 P u_15) x1_90 x2_90 x3_90 M_90 N_90 = some r → Zw p l e { frames := 14, cells := 0, slots := 0, locals := 80 * (14) } s m args below meth c G b 5 (MQ below (zQ G b FQ) args s 0 0 (fun q : Nat => b ≤ q)) 0 0 90 [some (.ref (P)), some (.int x1_90), some (.int x2_90), some (.int x3_90), some (.int x4_90)] [] (L, M_90, N_90) := by
        intro x1_90 x2_90 x3_90 x4_90 M_90 N_90 h
        unfold D_X8_wisest_90 at h
        refine a_iinc (v := x3_90 + 1) X dX8_wisest_90 (by decide) rfl zi_1 ?_
        refine a_goto (tgt := 15) X dX8_wisest_93 (by decide) ?_
        exact Zw.to2 (ih_15 _ _ _ _ _ _ h) rfl rfl rfl
      have L_26 : ∀ u : Nat, ∀ (x1_26 : Int32) (x2_26 : Int32) (x3_26 : Int32) (x4_26 : Int32) (M_26 : zMt) (N_26 : zNt), D_X8_wisest_26 P (D_X8_wisest_15 P u_15) u x1_26 x2_26 x3_26 x4_26 M_26 N_26 = some r → Zw p l e { frames := 14, cells := 0, slots := 0, locals := 80 * (14) } s m args below meth c G b 5 (MQ below (zQ G b FQ) args s 0 0 (fun q : Nat => b ≤ q)) 0 0 26 [some (.ref (P)), some (.int x1_26), some (.int x2_26), some (.int x3_26), some (.int x4_26)] [] (L, M_26, N_26) := by
        intro u
        induction u with
        | zero => intro x1_26 x2_26 x3_26 x4_26 M_26 N_26 h; cases (show none = some r from h)
        | succ u_26 ih_26 =>
          have J_55 : ∀ (x1_55 : Int32) (x2_55 : Int32) (x3_55 : Int32) (x4_55 : Int32) (y1_55 : Int32) (y2_55 : Int32) (M_55 : zMt) (N_55 : zNt), D_X8_wisest_55 P (D_X8_wisest_15 P u_15) (D_X8_wisest_26 P (D_X8_wisest_15 P u_15) u_26) x1_55 x2_55 x3_55 x4_55 y1_55 y2_55 M_55 N_55 = some r → Zw p l e { frames := 14, cells := 0, slots := 0, locals := 80 * (14) } s m args below meth c G b 5 (MQ below (zQ G b FQ) args s 0 0 (fun q : Nat => b ≤ q)) 0 0 55 [some (.ref (P)), some (.int x1_55), some (.int x2_55), some (.int x3_55), some (.int x4_55)] [.int y2_55, .int y1_55, .ref (P + 1)] (L, M_55, N_55) := by
            intro x1_55 x2_55 x3_55 x4_55 y1_55 y2_55 M_55 N_55 h
            unfold D_X8_wisest_55 at h
            obtain ⟨g_55, h⟩ := zIx h
            obtain ⟨M_55, f_55, h⟩ := zLtx h
            refine d_iastore X (by assumption) g_55 dX8_wisest_55 f_55 ?_
            refine a_iinc (v := x4_55 + 1) X dX8_wisest_56 (by decide) rfl zi_1 ?_
            refine a_goto (tgt := 26) X dX8_wisest_59 (by decide) ?_
            exact Zw.to2 (ih_26 _ _ _ _ _ _ h) rfl rfl rfl
          intro x1_26 x2_26 x3_26 x4_26 M_26 N_26 h
          rw [D_X8_wisest_26] at h
          refine a_iload X dX8_wisest_26 rfl ?_
          refine a_iconst (v := 3) X dX8_wisest_28 (by decide) ?_
          refine a_icmp_ge (tgt := 62) X dX8_wisest_29 (by decide) (fun h_29 => ?_) (fun h_29 => ?_)
          · replace h := (if_pos h_29).symm.trans h
            refine a_aload_n X dX8_wisest_62 rfl ?_
            obtain ⟨e_63, f_63, h⟩ := zBx h
            refine a_callVu X dX8_wisest_63 miX8_laysAll lm8_432 (t_X8_laysAll (by assumption) f_63) (by assumption) rfl rfl rfl (Nat.le_of_ble_eq_true rfl) ⟨by decide, by decide, by decide, by decide⟩ ?_
            refine a_aload_n X dX8_wisest_66 rfl ?_
            refine a_iload_n X dX8_wisest_67 rfl ?_
            obtain ⟨e_68, f_68, h⟩ := zBx h
            refine a_callVv X dX8_wisest_68 miX8_chanceOf lm8_435 (t_X8_chanceOf (by assumption) f_68) (by assumption) rfl rfl rfl (Nat.le_of_ble_eq_true rfl) ⟨by decide, by decide, by decide, by decide⟩ ?_
            refine a_aload_n X dX8_wisest_71 rfl ?_
            refine a_getl X lf8_454 (by assumption) rfl dX8_wisest_72 ?_
            refine a_lcmp X dX8_wisest_75 ?_
            refine a_if_le (tgt := 90) X dX8_wisest_76 (by decide) (fun h_76 => ?_) (fun h_76 => ?_)
            · replace h := (if_pos h_76).symm.trans h
              exact Zw.to2 (J_90 _ _ _ _ _ _ h) rfl rfl rfl
            · replace h := (if_neg h_76).symm.trans h
              refine a_iload_n X dX8_wisest_79 rfl ?_
              refine a_istore_n X dX8_wisest_80 (by decide) ?_
              refine a_aload_n X dX8_wisest_81 rfl ?_
              refine a_aload_n X dX8_wisest_82 rfl ?_
              refine a_iload_n X dX8_wisest_83 rfl ?_
              obtain ⟨e_84, f_84, h⟩ := zBx h
              refine a_callVv X dX8_wisest_84 miX8_chanceOf lm8_435 (t_X8_chanceOf (by assumption) f_84) (by assumption) rfl rfl rfl (Nat.le_of_ble_eq_true rfl) ⟨by decide, by decide, by decide, by decide⟩ ?_
              obtain ⟨N_87, f_87, h⟩ := zLtx h
              refine d_putl X lf8_454 (by assumption) rfl dX8_wisest_87 f_87 ?_
              exact Zw.to2 (J_90 _ _ _ _ _ _ h) rfl rfl rfl
          · replace h := (if_neg h_29).symm.trans h
            refine a_aload_n X dX8_wisest_32 rfl ?_
            refine a_getr X lf8_7 (by assumption) rfl (by omega) dX8_wisest_33 ?_
            refine a_aload_n X dX8_wisest_36 rfl ?_
            refine a_getr X lf8_55 (by assumption) rfl (by omega) dX8_wisest_37 ?_
            refine a_iload_n X dX8_wisest_40 rfl ?_
            obtain ⟨g_41, h⟩ := zIx h
            refine a_iaload X (by assumption) g_41 dX8_wisest_41 ?_
            refine a_iload X dX8_wisest_42 rfl ?_
            refine a_iadd X dX8_wisest_44 ?_
            refine a_iload X dX8_wisest_45 rfl ?_
            refine a_if_ne (tgt := 54) X dX8_wisest_47 (by decide) (fun h_47 => ?_) (fun h_47 => ?_)
            · replace h := (if_neg h_47).symm.trans h
              refine a_iconst (v := -1) X dX8_wisest_54 (by decide) ?_
              exact Zw.to2 (J_55 _ _ _ _ _ _ _ _ h) rfl rfl rfl
            · replace h := (if_pos h_47).symm.trans h
              refine a_iload_n X dX8_wisest_50 rfl ?_
              refine a_goto (tgt := 55) X dX8_wisest_51 (by decide) ?_
              exact Zw.to2 (J_55 _ _ _ _ _ _ _ _ h) rfl rfl rfl
      have H_26 : ∀ (x1_26 : Int32) (x2_26 : Int32) (x3_26 : Int32) (x4_26 : Int32) (M_26 : zMt) (N_26 : zNt), D_X8_wisest_26 P (D_X8_wisest_15 P u_15) zFu x1_26 x2_26 x3_26 x4_26 M_26 N_26 = some r → Zw p l e { frames := 14, cells := 0, slots := 0, locals := 80 * (14) } s m args below meth c G b 5 (MQ below (zQ G b FQ) args s 0 0 (fun q : Nat => b ≤ q)) 0 0 26 [some (.ref (P)), some (.int x1_26), some (.int x2_26), some (.int x3_26), some (.int x4_26)] [] (L, M_26, N_26) := L_26 zFu
      intro x1_15 x2_15 x3_15 x4_15 M_15 N_15 h
      rw [D_X8_wisest_15] at h
      refine a_iload_n X dX8_wisest_15 rfl ?_
      refine a_aload_n X dX8_wisest_16 rfl ?_
      refine a_geti X lf8_125 (by assumption) rfl dX8_wisest_17 ?_
      refine a_icmp_ge (tgt := 96) X dX8_wisest_20 (by decide) (fun h_20 => ?_) (fun h_20 => ?_)
      · replace h := (if_pos h_20).symm.trans h
        refine a_aload_n X dX8_wisest_96 rfl ?_
        obtain ⟨e_97, f_97, h⟩ := zBx h
        refine a_callVu X dX8_wisest_97 miX8_takesBack lm8_449 (t_X8_takesBack (by assumption) f_97) (by assumption) rfl rfl rfl (Nat.le_of_ble_eq_true rfl) ⟨by decide, by decide, by decide, by decide⟩ ?_
        refine a_iload_n X dX8_wisest_100 rfl ?_
        refine a_iret X hr dX8_wisest_101 ⟨by decide, by decide⟩ ?_
        subst hF
        rw [← Option.some.inj h]
        exact ⟨rfl, rfl⟩
      · replace h := (if_neg h_20).symm.trans h
        refine a_iconst (v := 0) X dX8_wisest_23 (by decide) ?_
        refine a_istore X dX8_wisest_24 (by decide) ?_
        exact Zw.to2 (H_26 _ _ _ _ _ _ h) rfl rfl rfl
  have H_15 : ∀ (x1_15 : Int32) (x2_15 : Int32) (x3_15 : Int32) (x4_15 : Option Value) (M_15 : zMt) (N_15 : zNt), D_X8_wisest_15 P zFu x1_15 x2_15 x3_15 M_15 N_15 = some r → Zw p l e { frames := 14, cells := 0, slots := 0, locals := 80 * (14) } s m args below meth c G b 5 (MQ below (zQ G b FQ) args s 0 0 (fun q : Nat => b ≤ q)) 0 0 15 [some (.ref (P)), some (.int x1_15), some (.int x2_15), some (.int x3_15), x4_15] [] (L, M_15, N_15) := L_15 zFu
  unfold D_X8_wisest at h
  refine a_aload_n X dX8_wisest_0 rfl ?_
  obtain ⟨e_1, f_1, h⟩ := zBx h
  refine a_callVu X dX8_wisest_1 miX8_putsAside lm8_444 (t_X8_putsAside (by assumption) f_1) (by assumption) rfl rfl rfl (Nat.le_of_ble_eq_true rfl) ⟨by decide, by decide, by decide, by decide⟩ ?_
  refine a_iconst (v := -1) X dX8_wisest_4 (by decide) ?_
  refine a_istore_n X dX8_wisest_5 (by decide) ?_
  refine a_aload_n X dX8_wisest_6 rfl ?_
  refine a_ldc2 X dX8_wisest_7 lk8_452 ?_
  obtain ⟨N_10, f_10, h⟩ := zLtx h
  refine d_putl X lf8_454 (by assumption) rfl dX8_wisest_10 f_10 ?_
  refine a_iconst (v := 0) X dX8_wisest_13 (by decide) ?_
  refine a_istore_n X dX8_wisest_14 (by decide) ?_
  exact Zw.to2 (H_15 _ _ _ _ _ _ h) rfl rfl rfl
noncomputable def D_X8_wise_51 (P : Nat) (y0_51 : Int32) (M_51 : zMt) (N_51 : zNt) : Option (Int32 × zMt × zNt) :=
  some (y0_51, M_51, N_51)
noncomputable def D_X8_wise (P : Nat) (v0 : Int32) (M : zMt) (N : zNt) : Option (Int32 × zMt × zNt) :=
  zB (D_X8_isApplicant P v0 M) fun e_2 =>
  if e_2.1 = 0 then
    zB (D_X8_refuse P (2 : Int32) e_2.2) fun e_10 =>
    some (e_10.1, e_10.2, N)
  else
    zB (D_X8_areMany P e_2.2) fun e_15 =>
    if e_15.1 = 0 then
      zB (D_X8_wisest P v0 e_15.2 N) fun e_29 =>
      if e_29.1 = (-1 : Int32) then
        zB (D_X8_refuse P (5 : Int32) e_29.2.1) fun e_40 =>
        D_X8_wise_51 P e_40.1 e_40.2 e_29.2.2
      else
        zB (D_X8_gives P e_29.1 e_29.2.1) fun e_48 =>
        D_X8_wise_51 P e_48.1 e_48.2 e_29.2.2
    else
      zB (D_X8_refuse P (3 : Int32) e_15.2) fun e_23 =>
      some (e_23.1, e_23.2, N)
set_option maxRecDepth 100000 in
set_option maxHeartbeats 4000000 in
theorem t_X8_wise {l : Launch} {G : zG} {b : Nat} {L : List zC} {M : zMt} {N : zNt} {P : Nat} {v0 : Int32} (hP : LX8 L P) {r : Int32 × zMt × zNt} (h : D_X8_wise P v0 M N = some r) : zM l G b yX8_wise cX8_wise 3 (some .int) 15 0 0 [.ref P, .int v0] (L, M, N) (fun r2 z => r2 = some (.int r.1) ∧ z = (L, r.2.1, r.2.2)) := by
  refine zM.of miX8_wise (Nat.le_of_ble_eq_true rfl) ?_
  intro p e s m args below meth c X hr hname
  generalize hF : ((fun r2 z => r2 = some (.int r.1) ∧ z = (L, r.2.1, r.2.2)) : Option Value → zS → Prop) = FQ
  change Zw p l e { frames := 15, cells := 0, slots := 0, locals := 80 * (15) } s m args below meth c G b 3 (MQ below (zQ G b FQ) args s 0 0 (fun q : Nat => b ≤ q)) 0 0 0 [some (.ref P), some (.int v0), none] [] (L, M, N)
  obtain ⟨p_lt, p_o, p_s, p_read, p_aside, p_kept, p_guest, p_readGuest, p_tape, p_unitName, p_hunterName, p_partyName, p_bits, p_partyOf, p_choiceAt, p_sizes, p_guestMany, p_pointsOf, p_ticketsOf, p_ord, p_given, p_roundOf, p_tags, p_guestTags, p_places, p_sumAt, p_sumFirst, p_sumRound, p_sumBoth, p_sumTags, p_isEnd, p_newPoints, p_inRow, p_out⟩ := id hP
  have J_51 : ∀ (x1_51 : Int32) (x2_51 : Int32) (y0_51 : Int32) (M_51 : zMt) (N_51 : zNt), D_X8_wise_51 P y0_51 M_51 N_51 = some r → Zw p l e { frames := 15, cells := 0, slots := 0, locals := 80 * (15) } s m args below meth c G b 3 (MQ below (zQ G b FQ) args s 0 0 (fun q : Nat => b ≤ q)) 0 0 51 [some (.ref (P)), some (.int x1_51), some (.int x2_51)] [.int y0_51] (L, M_51, N_51) := by
    intro x1_51 x2_51 y0_51 M_51 N_51 h
    unfold D_X8_wise_51 at h
    refine a_iret X hr dX8_wise_51 ⟨by decide, by decide⟩ ?_
    subst hF
    rw [← Option.some.inj h]
    exact ⟨rfl, rfl⟩
  unfold D_X8_wise at h
  refine a_aload_n X dX8_wise_0 rfl ?_
  refine a_iload_n X dX8_wise_1 rfl ?_
  obtain ⟨e_2, f_2, h⟩ := zBx h
  refine a_callVx X dX8_wise_2 miX8_isApplicant lm8_315 (t_X8_isApplicant (by assumption) f_2) (by assumption) rfl rfl rfl (Nat.le_of_ble_eq_true rfl) ⟨by decide, by decide, by decide, by decide⟩ (fun r_2 S_2 q_2 => ?_)
  obtain ⟨rfl, rfl, b_2⟩ := q_2
  refine a_if_ne (tgt := 14) X dX8_wise_5 (by decide) (fun h_5 => ?_) (fun h_5 => ?_)
  · replace h := (if_neg h_5).symm.trans h
    refine a_aload_n X dX8_wise_14 rfl ?_
    obtain ⟨e_15, f_15, h⟩ := zBx h
    refine a_callVx X dX8_wise_15 miX8_areMany lm8_429 (t_X8_areMany (by assumption) f_15) (by assumption) rfl rfl rfl (Nat.le_of_ble_eq_true rfl) ⟨by decide, by decide, by decide, by decide⟩ (fun r_15 S_15 q_15 => ?_)
    obtain ⟨rfl, rfl, b_15⟩ := q_15
    refine a_if_eq (tgt := 27) X dX8_wise_18 (by decide) (fun h_18 => ?_) (fun h_18 => ?_)
    · replace h := (if_pos h_18).symm.trans h
      refine a_aload_n X dX8_wise_27 rfl ?_
      refine a_iload_n X dX8_wise_28 rfl ?_
      obtain ⟨e_29, f_29, h⟩ := zBx h
      refine a_callVv X dX8_wise_29 miX8_wisest lm8_457 (t_X8_wisest (by assumption) f_29) (by assumption) rfl rfl rfl (Nat.le_of_ble_eq_true rfl) ⟨by decide, by decide, by decide, by decide⟩ ?_
      refine a_istore_n X dX8_wise_32 (by decide) ?_
      refine a_iload_n X dX8_wise_33 rfl ?_
      refine a_iconst (v := -1) X dX8_wise_34 (by decide) ?_
      refine a_icmp_ne (tgt := 46) X dX8_wise_35 (by decide) (fun h_35 => ?_) (fun h_35 => ?_)
      · replace h := (if_neg h_35).symm.trans h
        refine a_aload_n X dX8_wise_46 rfl ?_
        refine a_iload_n X dX8_wise_47 rfl ?_
        obtain ⟨e_48, f_48, h⟩ := zBx h
        refine a_callVv X dX8_wise_48 miX8_gives lm8_272 (t_X8_gives (by assumption) f_48) (by assumption) rfl rfl rfl (Nat.le_of_ble_eq_true rfl) ⟨by decide, by decide, by decide, by decide⟩ ?_
        exact Zw.to2 (J_51 _ _ _ _ _ h) rfl rfl rfl
      · replace h := (if_pos h_35).symm.trans h
        refine a_aload_n X dX8_wise_38 rfl ?_
        refine a_iconst (v := 5) X dX8_wise_39 (by decide) ?_
        obtain ⟨e_40, f_40, h⟩ := zBx h
        refine a_callVv X dX8_wise_40 miX8_refuse lm8_263 (t_X8_refuse (by assumption) f_40) (by assumption) rfl rfl rfl (Nat.le_of_ble_eq_true rfl) ⟨by decide, by decide, by decide, by decide⟩ ?_
        refine a_goto (tgt := 51) X dX8_wise_43 (by decide) ?_
        exact Zw.to2 (J_51 _ _ _ _ _ h) rfl rfl rfl
    · replace h := (if_neg h_18).symm.trans h
      refine a_aload_n X dX8_wise_21 rfl ?_
      refine a_iconst (v := 3) X dX8_wise_22 (by decide) ?_
      obtain ⟨e_23, f_23, h⟩ := zBx h
      refine a_callVv X dX8_wise_23 miX8_refuse lm8_263 (t_X8_refuse (by assumption) f_23) (by assumption) rfl rfl rfl (Nat.le_of_ble_eq_true rfl) ⟨by decide, by decide, by decide, by decide⟩ ?_
      refine a_iret X hr dX8_wise_26 ⟨by decide, by decide⟩ ?_
      subst hF
      rw [← Option.some.inj h]
      exact ⟨rfl, rfl⟩
  · replace h := (if_pos h_5).symm.trans h
    refine a_aload_n X dX8_wise_8 rfl ?_
    refine a_iconst (v := 2) X dX8_wise_9 (by decide) ?_
    obtain ⟨e_10, f_10, h⟩ := zBx h
    refine a_callVv X dX8_wise_10 miX8_refuse lm8_263 (t_X8_refuse (by assumption) f_10) (by assumption) rfl rfl rfl (Nat.le_of_ble_eq_true rfl) ⟨by decide, by decide, by decide, by decide⟩ ?_
    refine a_iret X hr dX8_wise_13 ⟨by decide, by decide⟩ ?_
    subst hF
    rw [← Option.some.inj h]
    exact ⟨rfl, rfl⟩
noncomputable def D_X8_wiseChance_55 (P : Nat) (y0_55 : Int64) (M_55 : zMt) (N_55 : zNt) : Option (Int64 × zMt × zNt) :=
  some (y0_55, M_55, N_55)
noncomputable def D_X8_wiseChance (P : Nat) (v0 : Int32) (M : zMt) (N : zNt) : Option (Int64 × zMt × zNt) :=
  zB (D_X8_isApplicant P v0 M) fun e_2 =>
  if e_2.1 = 0 then
    zB (D_X8_refuse P (2 : Int32) e_2.2) fun e_10 =>
    some ((Int32.toInt64 e_10.1), e_10.2, N)
  else
    zB (D_X8_areMany P e_2.2) fun e_16 =>
    if e_16.1 = 0 then
      zB (D_X8_wisest P v0 e_16.2 N) fun e_31 =>
      if e_31.1 = (-1 : Int32) then
        zB (D_X8_refuse P (5 : Int32) e_31.2.1) fun e_40 =>
        D_X8_wiseChance_55 P (Int32.toInt64 e_40.1) e_40.2 e_31.2.2
      else
        zB (D_X8_givesLong P (e_31.2.2 P 60) e_31.2.1) fun e_52 =>
        D_X8_wiseChance_55 P e_52.1 e_52.2 e_31.2.2
    else
      zB (D_X8_refuse P (3 : Int32) e_16.2) fun e_24 =>
      some ((Int32.toInt64 e_24.1), e_24.2, N)
set_option maxRecDepth 100000 in
set_option maxHeartbeats 4000000 in
theorem t_X8_wiseChance {l : Launch} {G : zG} {b : Nat} {L : List zC} {M : zMt} {N : zNt} {P : Nat} {v0 : Int32} (hP : LX8 L P) {r : Int64 × zMt × zNt} (h : D_X8_wiseChance P v0 M N = some r) : zM l G b yX8_wiseChance cX8_wiseChance 2 (some .long) 15 0 0 [.ref P, .int v0] (L, M, N) (fun r2 z => r2 = some (.long r.1) ∧ z = (L, r.2.1, r.2.2)) := by
  refine zM.of miX8_wiseChance (Nat.le_of_ble_eq_true rfl) ?_
  intro p e s m args below meth c X hr hname
  generalize hF : ((fun r2 z => r2 = some (.long r.1) ∧ z = (L, r.2.1, r.2.2)) : Option Value → zS → Prop) = FQ
  change Zw p l e { frames := 15, cells := 0, slots := 0, locals := 80 * (15) } s m args below meth c G b 2 (MQ below (zQ G b FQ) args s 0 0 (fun q : Nat => b ≤ q)) 0 0 0 [some (.ref P), some (.int v0)] [] (L, M, N)
  obtain ⟨p_lt, p_o, p_s, p_read, p_aside, p_kept, p_guest, p_readGuest, p_tape, p_unitName, p_hunterName, p_partyName, p_bits, p_partyOf, p_choiceAt, p_sizes, p_guestMany, p_pointsOf, p_ticketsOf, p_ord, p_given, p_roundOf, p_tags, p_guestTags, p_places, p_sumAt, p_sumFirst, p_sumRound, p_sumBoth, p_sumTags, p_isEnd, p_newPoints, p_inRow, p_out⟩ := id hP
  have J_55 : ∀ (x1_55 : Int32) (y0_55 : Int64) (M_55 : zMt) (N_55 : zNt), D_X8_wiseChance_55 P y0_55 M_55 N_55 = some r → Zw p l e { frames := 15, cells := 0, slots := 0, locals := 80 * (15) } s m args below meth c G b 2 (MQ below (zQ G b FQ) args s 0 0 (fun q : Nat => b ≤ q)) 0 0 55 [some (.ref (P)), some (.int x1_55)] [.long y0_55] (L, M_55, N_55) := by
    intro x1_55 y0_55 M_55 N_55 h
    unfold D_X8_wiseChance_55 at h
    refine a_lret X hr dX8_wiseChance_55 ⟨by decide, by decide⟩ ?_
    subst hF
    rw [← Option.some.inj h]
    exact ⟨rfl, rfl⟩
  unfold D_X8_wiseChance at h
  refine a_aload_n X dX8_wiseChance_0 rfl ?_
  refine a_iload_n X dX8_wiseChance_1 rfl ?_
  obtain ⟨e_2, f_2, h⟩ := zBx h
  refine a_callVx X dX8_wiseChance_2 miX8_isApplicant lm8_315 (t_X8_isApplicant (by assumption) f_2) (by assumption) rfl rfl rfl (Nat.le_of_ble_eq_true rfl) ⟨by decide, by decide, by decide, by decide⟩ (fun r_2 S_2 q_2 => ?_)
  obtain ⟨rfl, rfl, b_2⟩ := q_2
  refine a_if_ne (tgt := 15) X dX8_wiseChance_5 (by decide) (fun h_5 => ?_) (fun h_5 => ?_)
  · replace h := (if_neg h_5).symm.trans h
    refine a_aload_n X dX8_wiseChance_15 rfl ?_
    obtain ⟨e_16, f_16, h⟩ := zBx h
    refine a_callVx X dX8_wiseChance_16 miX8_areMany lm8_429 (t_X8_areMany (by assumption) f_16) (by assumption) rfl rfl rfl (Nat.le_of_ble_eq_true rfl) ⟨by decide, by decide, by decide, by decide⟩ (fun r_16 S_16 q_16 => ?_)
    obtain ⟨rfl, rfl, b_16⟩ := q_16
    refine a_if_eq (tgt := 29) X dX8_wiseChance_19 (by decide) (fun h_19 => ?_) (fun h_19 => ?_)
    · replace h := (if_pos h_19).symm.trans h
      refine a_aload_n X dX8_wiseChance_29 rfl ?_
      refine a_iload_n X dX8_wiseChance_30 rfl ?_
      obtain ⟨e_31, f_31, h⟩ := zBx h
      refine a_callVv X dX8_wiseChance_31 miX8_wisest lm8_457 (t_X8_wisest (by assumption) f_31) (by assumption) rfl rfl rfl (Nat.le_of_ble_eq_true rfl) ⟨by decide, by decide, by decide, by decide⟩ ?_
      refine a_iconst (v := -1) X dX8_wiseChance_34 (by decide) ?_
      refine a_icmp_ne (tgt := 47) X dX8_wiseChance_35 (by decide) (fun h_35 => ?_) (fun h_35 => ?_)
      · replace h := (if_neg h_35).symm.trans h
        refine a_aload_n X dX8_wiseChance_47 rfl ?_
        refine a_aload_n X dX8_wiseChance_48 rfl ?_
        refine a_getl X lf8_454 (by assumption) rfl dX8_wiseChance_49 ?_
        obtain ⟨e_52, f_52, h⟩ := zBx h
        refine a_callVv X dX8_wiseChance_52 miX8_givesLong lm8_438 (t_X8_givesLong (by assumption) f_52) (by assumption) rfl rfl rfl (Nat.le_of_ble_eq_true rfl) ⟨by decide, by decide, by decide, by decide⟩ ?_
        exact Zw.to2 (J_55 _ _ _ _ h) rfl rfl rfl
      · replace h := (if_pos h_35).symm.trans h
        refine a_aload_n X dX8_wiseChance_38 rfl ?_
        refine a_iconst (v := 5) X dX8_wiseChance_39 (by decide) ?_
        obtain ⟨e_40, f_40, h⟩ := zBx h
        refine a_callVv X dX8_wiseChance_40 miX8_refuse lm8_263 (t_X8_refuse (by assumption) f_40) (by assumption) rfl rfl rfl (Nat.le_of_ble_eq_true rfl) ⟨by decide, by decide, by decide, by decide⟩ ?_
        refine a_i2l X dX8_wiseChance_43 ?_
        refine a_goto (tgt := 55) X dX8_wiseChance_44 (by decide) ?_
        exact Zw.to2 (J_55 _ _ _ _ h) rfl rfl rfl
    · replace h := (if_neg h_19).symm.trans h
      refine a_aload_n X dX8_wiseChance_22 rfl ?_
      refine a_iconst (v := 3) X dX8_wiseChance_23 (by decide) ?_
      obtain ⟨e_24, f_24, h⟩ := zBx h
      refine a_callVv X dX8_wiseChance_24 miX8_refuse lm8_263 (t_X8_refuse (by assumption) f_24) (by assumption) rfl rfl rfl (Nat.le_of_ble_eq_true rfl) ⟨by decide, by decide, by decide, by decide⟩ ?_
      refine a_i2l X dX8_wiseChance_27 ?_
      refine a_lret X hr dX8_wiseChance_28 ⟨by decide, by decide⟩ ?_
      subst hF
      rw [← Option.some.inj h]
      exact ⟨rfl, rfl⟩
  · replace h := (if_pos h_5).symm.trans h
    refine a_aload_n X dX8_wiseChance_8 rfl ?_
    refine a_iconst (v := 2) X dX8_wiseChance_9 (by decide) ?_
    obtain ⟨e_10, f_10, h⟩ := zBx h
    refine a_callVv X dX8_wiseChance_10 miX8_refuse lm8_263 (t_X8_refuse (by assumption) f_10) (by assumption) rfl rfl rfl (Nat.le_of_ble_eq_true rfl) ⟨by decide, by decide, by decide, by decide⟩ ?_
    refine a_i2l X dX8_wiseChance_13 ?_
    refine a_lret X hr dX8_wiseChance_14 ⟨by decide, by decide⟩ ?_
    subst hF
    rw [← Option.some.inj h]
    exact ⟨rfl, rfl⟩
noncomputable def D_X8_laysJoined_133 (P : Nat) : Nat → Int32 → Int32 → zMt → Option (Int32 × zMt)
  | 0, _, _, _ => none
  | n + 1, x3_133, x4_133, M_133 =>
    if (M_133 P 33) ≤ x4_133 then
      some (x3_133, M_133)
    else
      zB (D_X8_laysOne P x4_133 M_133) fun e_145 =>
      (D_X8_laysJoined_133 P n) x3_133 (x4_133 + 1) e_145
noncomputable def D_X8_laysJoined_85 (P : Nat) (k5 : Int32 → Int32 → Int32 → Int32 → zMt → Option (Int32 × zMt)) (x1_85 : Int32) (x2_85 : Int32) (x3_85 : Int32) (x4_85 : Int32) (M_85 : zMt) : Option (Int32 × zMt) :=
  k5 x1_85 x2_85 x3_85 (x4_85 + 1) M_85
noncomputable def D_X8_laysJoined_5 (P : Nat) : Nat → Int32 → Int32 → Int32 → Int32 → zMt → Option (Int32 × zMt)
  | 0, _, _, _, _, _ => none
  | n + 1, x1_5, x2_5, x3_5, x4_5, M_5 =>
    if (M_5 P 33) ≤ x4_5 then
      zI x3_5 10 <|
      zLt (zu M_5 (P + 11) x3_5.toNatClampNeg (((1 : Int32) <<< (x1_5 &&& 31)) ||| ((1 : Int32) <<< (x2_5 &&& 31)))) fun M_103 =>
      zI x3_5 10 <|
      zLt (zu M_103 (P + 12) x3_5.toNatClampNeg (-1 : Int32)) fun M_110 =>
      zI x3_5 10 <|
      zLt (zu M_110 (P + 13) x3_5.toNatClampNeg ((20 : Int32) + ((3 : Int32) * x1_5))) fun M_122 =>
      zLt (zu M_122 P 33 (x3_5 + (1 : Int32))) fun M_127 =>
      D_X8_laysJoined_133 P zFu x3_5 (0 : Int32) M_127
    else
      zI x4_5 10 <|
      if (M_5 (P + 11) x4_5.toNatClampNeg) = ((1 : Int32) <<< (x1_5 &&& 31)) then
        D_X8_laysJoined_85 P (D_X8_laysJoined_5 P n) x1_5 x2_5 x3_5 x4_5 M_5
      else
        zI x4_5 10 <|
        if (M_5 (P + 11) x4_5.toNatClampNeg) = ((1 : Int32) <<< (x2_5 &&& 31)) then
          D_X8_laysJoined_85 P (D_X8_laysJoined_5 P n) x1_5 x2_5 x3_5 x4_5 M_5
        else
          zI x4_5 10 <|
          zI x3_5 10 <|
          zLt (zu M_5 (P + 11) x3_5.toNatClampNeg (M_5 (P + 11) x4_5.toNatClampNeg)) fun M_55 =>
          zI x4_5 10 <|
          zI x3_5 10 <|
          zLt (zu M_55 (P + 12) x3_5.toNatClampNeg (M_55 (P + 12) x4_5.toNatClampNeg)) fun M_68 =>
          zI x4_5 10 <|
          zI x3_5 10 <|
          zLt (zu M_68 (P + 13) x3_5.toNatClampNeg (M_68 (P + 13) x4_5.toNatClampNeg)) fun M_81 =>
          D_X8_laysJoined_85 P (D_X8_laysJoined_5 P n) x1_5 x2_5 (x3_5 + 1) x4_5 M_81
noncomputable def D_X8_laysJoined (P : Nat) (v0 : Int32) (v1 : Int32) (M : zMt) : Option (Int32 × zMt) :=
  D_X8_laysJoined_5 P zFu v0 v1 (0 : Int32) (0 : Int32) M
set_option maxRecDepth 100000 in
set_option maxHeartbeats 4000000 in
theorem t_X8_laysJoined {l : Launch} {G : zG} {b : Nat} {L : List zC} {M : zMt} {N : zNt} {P : Nat} {v0 : Int32} {v1 : Int32} (hP : LX8 L P) {r : Int32 × zMt} (h : D_X8_laysJoined P v0 v1 M = some r) : zM l G b yX8_laysJoined cX8_laysJoined 5 (some .int) 2 0 0 [.ref P, .int v0, .int v1] (L, M, N) (fun r2 z => r2 = some (.int r.1) ∧ z = (L, r.2, N)) := by
  refine zM.of miX8_laysJoined (Nat.le_of_ble_eq_true rfl) ?_
  intro p e s m args below meth c X hr hname
  generalize hF : ((fun r2 z => r2 = some (.int r.1) ∧ z = (L, r.2, N)) : Option Value → zS → Prop) = FQ
  change Zw p l e { frames := 2, cells := 0, slots := 0, locals := 80 * (2) } s m args below meth c G b 5 (MQ below (zQ G b FQ) args s 0 0 (fun q : Nat => b ≤ q)) 0 0 0 [some (.ref P), some (.int v0), some (.int v1), none, none] [] (L, M, N)
  obtain ⟨p_lt, p_o, p_s, p_read, p_aside, p_kept, p_guest, p_readGuest, p_tape, p_unitName, p_hunterName, p_partyName, p_bits, p_partyOf, p_choiceAt, p_sizes, p_guestMany, p_pointsOf, p_ticketsOf, p_ord, p_given, p_roundOf, p_tags, p_guestTags, p_places, p_sumAt, p_sumFirst, p_sumRound, p_sumBoth, p_sumTags, p_isEnd, p_newPoints, p_inRow, p_out⟩ := id hP
  have L_133 : ∀ u : Nat, ∀ (x1_133 : Int32) (x2_133 : Int32) (x3_133 : Int32) (x4_133 : Int32) (M_133 : zMt), D_X8_laysJoined_133 P u x3_133 x4_133 M_133 = some r → Zw p l e { frames := 2, cells := 0, slots := 0, locals := 80 * (2) } s m args below meth c G b 5 (MQ below (zQ G b FQ) args s 0 0 (fun q : Nat => b ≤ q)) 0 0 133 [some (.ref (P)), some (.int x1_133), some (.int x2_133), some (.int x3_133), some (.int x4_133)] [] (L, M_133, N) := by
    intro u
    induction u with
    | zero => intro x1_133 x2_133 x3_133 x4_133 M_133 h; cases (show none = some r from h)
    | succ u_133 ih_133 =>
      intro x1_133 x2_133 x3_133 x4_133 M_133 h
      rw [D_X8_laysJoined_133] at h
      refine a_iload X dX8_laysJoined_133 rfl ?_
      refine a_aload_n X dX8_laysJoined_135 rfl ?_
      refine a_geti X lf8_275 (by assumption) rfl dX8_laysJoined_136 ?_
      refine a_icmp_ge (tgt := 154) X dX8_laysJoined_139 (by decide) (fun h_139 => ?_) (fun h_139 => ?_)
      · replace h := (if_pos h_139).symm.trans h
        refine a_iload_n X dX8_laysJoined_154 rfl ?_
        refine a_iret X hr dX8_laysJoined_155 ⟨by decide, by decide⟩ ?_
        subst hF
        rw [← Option.some.inj h]
        exact ⟨rfl, rfl⟩
      · replace h := (if_neg h_139).symm.trans h
        refine a_aload_n X dX8_laysJoined_142 rfl ?_
        refine a_iload X dX8_laysJoined_143 rfl ?_
        obtain ⟨e_145, f_145, h⟩ := zBx h
        refine a_callVu X dX8_laysJoined_145 miX8_laysOne lm8_278 (t_X8_laysOne (by assumption) f_145) (by assumption) rfl rfl rfl (Nat.le_of_ble_eq_true rfl) ⟨by decide, by decide, by decide, by decide⟩ ?_
        refine a_iinc (v := x4_133 + 1) X dX8_laysJoined_148 (by decide) rfl zi_1 ?_
        refine a_goto (tgt := 133) X dX8_laysJoined_151 (by decide) ?_
        exact Zw.to2 (ih_133 _ _ _ _ _ h) rfl rfl rfl
  have H_133 : ∀ (x1_133 : Int32) (x2_133 : Int32) (x3_133 : Int32) (x4_133 : Int32) (M_133 : zMt), D_X8_laysJoined_133 P zFu x3_133 x4_133 M_133 = some r → Zw p l e { frames := 2, cells := 0, slots := 0, locals := 80 * (2) } s m args below meth c G b 5 (MQ below (zQ G b FQ) args s 0 0 (fun q : Nat => b ≤ q)) 0 0 133 [some (.ref (P)), some (.int x1_133), some (.int x2_133), some (.int x3_133), some (.int x4_133)] [] (L, M_133, N) := L_133 zFu
  have L_5 : ∀ u : Nat, ∀ (x1_5 : Int32) (x2_5 : Int32) (x3_5 : Int32) (x4_5 : Int32) (M_5 : zMt), D_X8_laysJoined_5 P u x1_5 x2_5 x3_5 x4_5 M_5 = some r → Zw p l e { frames := 2, cells := 0, slots := 0, locals := 80 * (2) } s m args below meth c G b 5 (MQ below (zQ G b FQ) args s 0 0 (fun q : Nat => b ≤ q)) 0 0 5 [some (.ref (P)), some (.int x1_5), some (.int x2_5), some (.int x3_5), some (.int x4_5)] [] (L, M_5, N) := by
    intro u
    induction u with
    | zero => intro x1_5 x2_5 x3_5 x4_5 M_5 h; cases (show none = some r from h)
    | succ u_5 ih_5 =>
      have J_85 : ∀ (x1_85 : Int32) (x2_85 : Int32) (x3_85 : Int32) (x4_85 : Int32) (M_85 : zMt), D_X8_laysJoined_85 P (D_X8_laysJoined_5 P u_5) x1_85 x2_85 x3_85 x4_85 M_85 = some r → Zw p l e { frames := 2, cells := 0, slots := 0, locals := 80 * (2) } s m args below meth c G b 5 (MQ below (zQ G b FQ) args s 0 0 (fun q : Nat => b ≤ q)) 0 0 85 [some (.ref (P)), some (.int x1_85), some (.int x2_85), some (.int x3_85), some (.int x4_85)] [] (L, M_85, N) := by
        intro x1_85 x2_85 x3_85 x4_85 M_85 h
        unfold D_X8_laysJoined_85 at h
        refine a_iinc (v := x4_85 + 1) X dX8_laysJoined_85 (by decide) rfl zi_1 ?_
        refine a_goto (tgt := 5) X dX8_laysJoined_88 (by decide) ?_
        exact Zw.to2 (ih_5 _ _ _ _ _ h) rfl rfl rfl
      intro x1_5 x2_5 x3_5 x4_5 M_5 h
      rw [D_X8_laysJoined_5] at h
      refine a_iload X dX8_laysJoined_5 rfl ?_
      refine a_aload_n X dX8_laysJoined_7 rfl ?_
      refine a_geti X lf8_275 (by assumption) rfl dX8_laysJoined_8 ?_
      refine a_icmp_ge (tgt := 91) X dX8_laysJoined_11 (by decide) (fun h_11 => ?_) (fun h_11 => ?_)
      · replace h := (if_pos h_11).symm.trans h
        refine a_aload_n X dX8_laysJoined_91 rfl ?_
        refine a_getr X lf8_49 (by assumption) rfl (by omega) dX8_laysJoined_92 ?_
        refine a_iload_n X dX8_laysJoined_95 rfl ?_
        refine a_iconst (v := 1) X dX8_laysJoined_96 (by decide) ?_
        refine a_iload_n X dX8_laysJoined_97 rfl ?_
        refine a_ishl X dX8_laysJoined_98 ?_
        refine a_iconst (v := 1) X dX8_laysJoined_99 (by decide) ?_
        refine a_iload_n X dX8_laysJoined_100 rfl ?_
        refine a_ishl X dX8_laysJoined_101 ?_
        refine a_ior X dX8_laysJoined_102 ?_
        obtain ⟨g_103, h⟩ := zIx h
        obtain ⟨M_103, f_103, h⟩ := zLtx h
        refine d_iastore X (by assumption) g_103 dX8_laysJoined_103 f_103 ?_
        refine a_aload_n X dX8_laysJoined_104 rfl ?_
        refine a_getr X lf8_52 (by assumption) rfl (by omega) dX8_laysJoined_105 ?_
        refine a_iload_n X dX8_laysJoined_108 rfl ?_
        refine a_iconst (v := -1) X dX8_laysJoined_109 (by decide) ?_
        obtain ⟨g_110, h⟩ := zIx h
        obtain ⟨M_110, f_110, h⟩ := zLtx h
        refine d_iastore X (by assumption) g_110 dX8_laysJoined_110 f_110 ?_
        refine a_aload_n X dX8_laysJoined_111 rfl ?_
        refine a_getr X lf8_55 (by assumption) rfl (by omega) dX8_laysJoined_112 ?_
        refine a_iload_n X dX8_laysJoined_115 rfl ?_
        refine a_bipush (v := 20) X dX8_laysJoined_116 (by decide) ?_
        refine a_iconst (v := 3) X dX8_laysJoined_118 (by decide) ?_
        refine a_iload_n X dX8_laysJoined_119 rfl ?_
        refine a_imul X dX8_laysJoined_120 ?_
        refine a_iadd X dX8_laysJoined_121 ?_
        obtain ⟨g_122, h⟩ := zIx h
        obtain ⟨M_122, f_122, h⟩ := zLtx h
        refine d_iastore X (by assumption) g_122 dX8_laysJoined_122 f_122 ?_
        refine a_aload_n X dX8_laysJoined_123 rfl ?_
        refine a_iload_n X dX8_laysJoined_124 rfl ?_
        refine a_iconst (v := 1) X dX8_laysJoined_125 (by decide) ?_
        refine a_iadd X dX8_laysJoined_126 ?_
        obtain ⟨M_127, f_127, h⟩ := zLtx h
        refine d_puti X lf8_275 (by assumption) rfl dX8_laysJoined_127 f_127 ?_
        refine a_iconst (v := 0) X dX8_laysJoined_130 (by decide) ?_
        refine a_istore X dX8_laysJoined_131 (by decide) ?_
        exact Zw.to2 (H_133 _ _ _ _ _ h) rfl rfl rfl
      · replace h := (if_neg h_11).symm.trans h
        refine a_aload_n X dX8_laysJoined_14 rfl ?_
        refine a_getr X lf8_49 (by assumption) rfl (by omega) dX8_laysJoined_15 ?_
        refine a_iload X dX8_laysJoined_18 rfl ?_
        obtain ⟨g_20, h⟩ := zIx h
        refine a_iaload X (by assumption) g_20 dX8_laysJoined_20 ?_
        refine a_iconst (v := 1) X dX8_laysJoined_21 (by decide) ?_
        refine a_iload_n X dX8_laysJoined_22 rfl ?_
        refine a_ishl X dX8_laysJoined_23 ?_
        refine a_icmp_eq (tgt := 85) X dX8_laysJoined_24 (by decide) (fun h_24 => ?_) (fun h_24 => ?_)
        · replace h := (if_pos h_24).symm.trans h
          exact Zw.to2 (J_85 _ _ _ _ _ h) rfl rfl rfl
        · replace h := (if_neg h_24).symm.trans h
          refine a_aload_n X dX8_laysJoined_27 rfl ?_
          refine a_getr X lf8_49 (by assumption) rfl (by omega) dX8_laysJoined_28 ?_
          refine a_iload X dX8_laysJoined_31 rfl ?_
          obtain ⟨g_33, h⟩ := zIx h
          refine a_iaload X (by assumption) g_33 dX8_laysJoined_33 ?_
          refine a_iconst (v := 1) X dX8_laysJoined_34 (by decide) ?_
          refine a_iload_n X dX8_laysJoined_35 rfl ?_
          refine a_ishl X dX8_laysJoined_36 ?_
          refine a_icmp_ne (tgt := 43) X dX8_laysJoined_37 (by decide) (fun h_37 => ?_) (fun h_37 => ?_)
          · replace h := (if_neg h_37).symm.trans h
            refine a_aload_n X dX8_laysJoined_43 rfl ?_
            refine a_getr X lf8_49 (by assumption) rfl (by omega) dX8_laysJoined_44 ?_
            refine a_iload_n X dX8_laysJoined_47 rfl ?_
            refine a_aload_n X dX8_laysJoined_48 rfl ?_
            refine a_getr X lf8_49 (by assumption) rfl (by omega) dX8_laysJoined_49 ?_
            refine a_iload X dX8_laysJoined_52 rfl ?_
            obtain ⟨g_54, h⟩ := zIx h
            refine a_iaload X (by assumption) g_54 dX8_laysJoined_54 ?_
            obtain ⟨g_55, h⟩ := zIx h
            obtain ⟨M_55, f_55, h⟩ := zLtx h
            refine d_iastore X (by assumption) g_55 dX8_laysJoined_55 f_55 ?_
            refine a_aload_n X dX8_laysJoined_56 rfl ?_
            refine a_getr X lf8_52 (by assumption) rfl (by omega) dX8_laysJoined_57 ?_
            refine a_iload_n X dX8_laysJoined_60 rfl ?_
            refine a_aload_n X dX8_laysJoined_61 rfl ?_
            refine a_getr X lf8_52 (by assumption) rfl (by omega) dX8_laysJoined_62 ?_
            refine a_iload X dX8_laysJoined_65 rfl ?_
            obtain ⟨g_67, h⟩ := zIx h
            refine a_iaload X (by assumption) g_67 dX8_laysJoined_67 ?_
            obtain ⟨g_68, h⟩ := zIx h
            obtain ⟨M_68, f_68, h⟩ := zLtx h
            refine d_iastore X (by assumption) g_68 dX8_laysJoined_68 f_68 ?_
            refine a_aload_n X dX8_laysJoined_69 rfl ?_
            refine a_getr X lf8_55 (by assumption) rfl (by omega) dX8_laysJoined_70 ?_
            refine a_iload_n X dX8_laysJoined_73 rfl ?_
            refine a_aload_n X dX8_laysJoined_74 rfl ?_
            refine a_getr X lf8_55 (by assumption) rfl (by omega) dX8_laysJoined_75 ?_
            refine a_iload X dX8_laysJoined_78 rfl ?_
            obtain ⟨g_80, h⟩ := zIx h
            refine a_iaload X (by assumption) g_80 dX8_laysJoined_80 ?_
            obtain ⟨g_81, h⟩ := zIx h
            obtain ⟨M_81, f_81, h⟩ := zLtx h
            refine d_iastore X (by assumption) g_81 dX8_laysJoined_81 f_81 ?_
            refine a_iinc (v := x3_5 + 1) X dX8_laysJoined_82 (by decide) rfl zi_1 ?_
            exact Zw.to2 (J_85 _ _ _ _ _ h) rfl rfl rfl
          · replace h := (if_pos h_37).symm.trans h
            refine a_goto (tgt := 85) X dX8_laysJoined_40 (by decide) ?_
            exact Zw.to2 (J_85 _ _ _ _ _ h) rfl rfl rfl
  have H_5 : ∀ (x1_5 : Int32) (x2_5 : Int32) (x3_5 : Int32) (x4_5 : Int32) (M_5 : zMt), D_X8_laysJoined_5 P zFu x1_5 x2_5 x3_5 x4_5 M_5 = some r → Zw p l e { frames := 2, cells := 0, slots := 0, locals := 80 * (2) } s m args below meth c G b 5 (MQ below (zQ G b FQ) args s 0 0 (fun q : Nat => b ≤ q)) 0 0 5 [some (.ref (P)), some (.int x1_5), some (.int x2_5), some (.int x3_5), some (.int x4_5)] [] (L, M_5, N) := L_5 zFu
  unfold D_X8_laysJoined at h
  refine a_iconst (v := 0) X dX8_laysJoined_0 (by decide) ?_
  refine a_istore_n X dX8_laysJoined_1 (by decide) ?_
  refine a_iconst (v := 0) X dX8_laysJoined_2 (by decide) ?_
  refine a_istore X dX8_laysJoined_3 (by decide) ?_
  exact Zw.to2 (H_5 _ _ _ _ _ h) rfl rfl rfl
noncomputable def D_X8_together_61 (P : Nat) (M_61 : zMt) (N_61 : zNt) : Option (Int64 × zMt × zNt) :=
  zB (D_X8_refuse P (7 : Int32) M_61) fun e_64 =>
  some ((Int32.toInt64 e_64.1), e_64.2, N_61)
noncomputable def D_X8_together_16 (P : Nat) (M_16 : zMt) (N_16 : zNt) : Option (Int64 × zMt × zNt) :=
  zB (D_X8_refuse P (2 : Int32) M_16) fun e_18 =>
  some ((Int32.toInt64 e_18.1), e_18.2, N_16)
noncomputable def D_X8_together (P : Nat) (v0 : Int32) (v1 : Int32) (M : zMt) (N : zNt) : Option (Int64 × zMt × zNt) :=
  zB (D_X8_isHunter P M v0) fun e_2 =>
  if e_2 = 0 then
    D_X8_together_16 P M N
  else
    zB (D_X8_isHunter P M v1) fun e_10 =>
    if e_10 = 0 then
      D_X8_together_16 P M N
    else
      if v0 = v1 then
        zB (D_X8_refuse P (4 : Int32) M) fun e_30 =>
        some ((Int32.toInt64 e_30.1), e_30.2, N)
      else
        zI ((10 : Int32) + v0) 82 <|
        if (M (P + 1) ((10 : Int32) + v0).toNatClampNeg) = (-1 : Int32) then
          zI ((10 : Int32) + v1) 82 <|
          if (M (P + 1) ((10 : Int32) + v1).toNatClampNeg) = (-1 : Int32) then
            zB (D_X8_laysApplicants P M) fun e_70 =>
            if (e_70 P 33) ≤ (8 : Int32) then
              zB (D_X8_laysJoined P v0 v1 e_70) fun e_92 =>
              zB (D_X8_allOrders P e_92.2 N) fun e_97 =>
              zB (D_X8_chanceOf P e_97.1 e_97.2 e_92.1) fun e_103 =>
              zB (D_X8_givesLong P e_103 e_97.1) fun e_106 =>
              some (e_106.1, e_106.2, e_97.2)
            else
              zB (D_X8_refuse P (3 : Int32) e_70) fun e_84 =>
              some ((Int32.toInt64 e_84.1), e_84.2, N)
          else
            D_X8_together_61 P M N
        else
          D_X8_together_61 P M N
set_option maxRecDepth 100000 in
set_option maxHeartbeats 4000000 in
theorem t_X8_together {l : Launch} {G : zG} {b : Nat} {L : List zC} {M : zMt} {N : zNt} {P : Nat} {v0 : Int32} {v1 : Int32} (hP : LX8 L P) {r : Int64 × zMt × zNt} (h : D_X8_together P v0 v1 M N = some r) : zM l G b yX8_together cX8_together 4 (some .long) 13 0 0 [.ref P, .int v0, .int v1] (L, M, N) (fun r2 z => r2 = some (.long r.1) ∧ z = (L, r.2.1, r.2.2)) := by
  refine zM.of miX8_together (Nat.le_of_ble_eq_true rfl) ?_
  intro p e s m args below meth c X hr hname
  generalize hF : ((fun r2 z => r2 = some (.long r.1) ∧ z = (L, r.2.1, r.2.2)) : Option Value → zS → Prop) = FQ
  change Zw p l e { frames := 13, cells := 0, slots := 0, locals := 80 * (13) } s m args below meth c G b 4 (MQ below (zQ G b FQ) args s 0 0 (fun q : Nat => b ≤ q)) 0 0 0 [some (.ref P), some (.int v0), some (.int v1), none] [] (L, M, N)
  obtain ⟨p_lt, p_o, p_s, p_read, p_aside, p_kept, p_guest, p_readGuest, p_tape, p_unitName, p_hunterName, p_partyName, p_bits, p_partyOf, p_choiceAt, p_sizes, p_guestMany, p_pointsOf, p_ticketsOf, p_ord, p_given, p_roundOf, p_tags, p_guestTags, p_places, p_sumAt, p_sumFirst, p_sumRound, p_sumBoth, p_sumTags, p_isEnd, p_newPoints, p_inRow, p_out⟩ := id hP
  have J_61 : ∀ (x1_61 : Int32) (x2_61 : Int32) (x3_61 : Option Value) (M_61 : zMt) (N_61 : zNt), D_X8_together_61 P M_61 N_61 = some r → Zw p l e { frames := 13, cells := 0, slots := 0, locals := 80 * (13) } s m args below meth c G b 4 (MQ below (zQ G b FQ) args s 0 0 (fun q : Nat => b ≤ q)) 0 0 61 [some (.ref (P)), some (.int x1_61), some (.int x2_61), x3_61] [] (L, M_61, N_61) := by
    intro x1_61 x2_61 x3_61 M_61 N_61 h
    unfold D_X8_together_61 at h
    refine a_aload_n X dX8_together_61 rfl ?_
    refine a_bipush (v := 7) X dX8_together_62 (by decide) ?_
    obtain ⟨e_64, f_64, h⟩ := zBx h
    refine a_callVv X dX8_together_64 miX8_refuse lm8_263 (t_X8_refuse (by assumption) f_64) (by assumption) rfl rfl rfl (Nat.le_of_ble_eq_true rfl) ⟨by decide, by decide, by decide, by decide⟩ ?_
    refine a_i2l X dX8_together_67 ?_
    refine a_lret X hr dX8_together_68 ⟨by decide, by decide⟩ ?_
    subst hF
    rw [← Option.some.inj h]
    exact ⟨rfl, rfl⟩
  have J_16 : ∀ (x1_16 : Int32) (x2_16 : Int32) (x3_16 : Option Value) (M_16 : zMt) (N_16 : zNt), D_X8_together_16 P M_16 N_16 = some r → Zw p l e { frames := 13, cells := 0, slots := 0, locals := 80 * (13) } s m args below meth c G b 4 (MQ below (zQ G b FQ) args s 0 0 (fun q : Nat => b ≤ q)) 0 0 16 [some (.ref (P)), some (.int x1_16), some (.int x2_16), x3_16] [] (L, M_16, N_16) := by
    intro x1_16 x2_16 x3_16 M_16 N_16 h
    unfold D_X8_together_16 at h
    refine a_aload_n X dX8_together_16 rfl ?_
    refine a_iconst (v := 2) X dX8_together_17 (by decide) ?_
    obtain ⟨e_18, f_18, h⟩ := zBx h
    refine a_callVv X dX8_together_18 miX8_refuse lm8_263 (t_X8_refuse (by assumption) f_18) (by assumption) rfl rfl rfl (Nat.le_of_ble_eq_true rfl) ⟨by decide, by decide, by decide, by decide⟩ ?_
    refine a_i2l X dX8_together_21 ?_
    refine a_lret X hr dX8_together_22 ⟨by decide, by decide⟩ ?_
    subst hF
    rw [← Option.some.inj h]
    exact ⟨rfl, rfl⟩
  unfold D_X8_together at h
  refine a_aload_n X dX8_together_0 rfl ?_
  refine a_iload_n X dX8_together_1 rfl ?_
  obtain ⟨e_2, f_2, h⟩ := zBx h
  refine a_callVx X dX8_together_2 miX8_isHunter lm8_293 (t_X8_isHunter (by assumption) f_2) (by assumption) rfl rfl rfl (Nat.le_of_ble_eq_true rfl) ⟨by decide, by decide, by decide, by decide⟩ (fun r_2 S_2 q_2 => ?_)
  obtain ⟨rfl, rfl, b_2⟩ := q_2
  refine a_if_eq (tgt := 16) X dX8_together_5 (by decide) (fun h_5 => ?_) (fun h_5 => ?_)
  · replace h := (if_pos h_5).symm.trans h
    exact Zw.to2 (J_16 _ _ _ _ _ h) rfl rfl rfl
  · replace h := (if_neg h_5).symm.trans h
    refine a_aload_n X dX8_together_8 rfl ?_
    refine a_iload_n X dX8_together_9 rfl ?_
    obtain ⟨e_10, f_10, h⟩ := zBx h
    refine a_callVx X dX8_together_10 miX8_isHunter lm8_293 (t_X8_isHunter (by assumption) f_10) (by assumption) rfl rfl rfl (Nat.le_of_ble_eq_true rfl) ⟨by decide, by decide, by decide, by decide⟩ (fun r_10 S_10 q_10 => ?_)
    obtain ⟨rfl, rfl, b_10⟩ := q_10
    refine a_if_ne (tgt := 23) X dX8_together_13 (by decide) (fun h_13 => ?_) (fun h_13 => ?_)
    · replace h := (if_neg h_13).symm.trans h
      refine a_iload_n X dX8_together_23 rfl ?_
      refine a_iload_n X dX8_together_24 rfl ?_
      refine a_icmp_ne (tgt := 35) X dX8_together_25 (by decide) (fun h_25 => ?_) (fun h_25 => ?_)
      · replace h := (if_neg h_25).symm.trans h
        refine a_aload_n X dX8_together_35 rfl ?_
        refine a_getr X lf8_7 (by assumption) rfl (by omega) dX8_together_36 ?_
        refine a_bipush (v := 10) X dX8_together_39 (by decide) ?_
        refine a_iload_n X dX8_together_41 rfl ?_
        refine a_iadd X dX8_together_42 ?_
        obtain ⟨g_43, h⟩ := zIx h
        refine a_iaload X (by assumption) g_43 dX8_together_43 ?_
        refine a_iconst (v := -1) X dX8_together_44 (by decide) ?_
        refine a_icmp_ne (tgt := 61) X dX8_together_45 (by decide) (fun h_45 => ?_) (fun h_45 => ?_)
        · replace h := (if_neg h_45).symm.trans h
          exact Zw.to2 (J_61 _ _ _ _ _ h) rfl rfl rfl
        · replace h := (if_pos h_45).symm.trans h
          refine a_aload_n X dX8_together_48 rfl ?_
          refine a_getr X lf8_7 (by assumption) rfl (by omega) dX8_together_49 ?_
          refine a_bipush (v := 10) X dX8_together_52 (by decide) ?_
          refine a_iload_n X dX8_together_54 rfl ?_
          refine a_iadd X dX8_together_55 ?_
          obtain ⟨g_56, h⟩ := zIx h
          refine a_iaload X (by assumption) g_56 dX8_together_56 ?_
          refine a_iconst (v := -1) X dX8_together_57 (by decide) ?_
          refine a_icmp_eq (tgt := 69) X dX8_together_58 (by decide) (fun h_58 => ?_) (fun h_58 => ?_)
          · replace h := (if_pos h_58).symm.trans h
            refine a_aload_n X dX8_together_69 rfl ?_
            obtain ⟨e_70, f_70, h⟩ := zBx h
            refine a_callVu X dX8_together_70 miX8_laysApplicants lm8_281 (t_X8_laysApplicants (by assumption) f_70) (by assumption) rfl rfl rfl (Nat.le_of_ble_eq_true rfl) ⟨by decide, by decide, by decide, by decide⟩ ?_
            refine a_aload_n X dX8_together_73 rfl ?_
            refine a_geti X lf8_275 (by assumption) rfl dX8_together_74 ?_
            refine a_bipush (v := 8) X dX8_together_77 (by decide) ?_
            refine a_icmp_le (tgt := 89) X dX8_together_79 (by decide) (fun h_79 => ?_) (fun h_79 => ?_)
            · replace h := (if_pos h_79).symm.trans h
              refine a_aload_n X dX8_together_89 rfl ?_
              refine a_iload_n X dX8_together_90 rfl ?_
              refine a_iload_n X dX8_together_91 rfl ?_
              obtain ⟨e_92, f_92, h⟩ := zBx h
              refine a_callVv X dX8_together_92 miX8_laysJoined lm8_460 (t_X8_laysJoined (by assumption) f_92) (by assumption) rfl rfl rfl (Nat.le_of_ble_eq_true rfl) ⟨by decide, by decide, by decide, by decide⟩ ?_
              refine a_istore_n X dX8_together_95 (by decide) ?_
              refine a_aload_n X dX8_together_96 rfl ?_
              obtain ⟨e_97, f_97, h⟩ := zBx h
              refine a_callVu X dX8_together_97 miX8_allOrders lm8_390 (t_X8_allOrders (by assumption) f_97) (by assumption) rfl rfl rfl (Nat.le_of_ble_eq_true rfl) ⟨by decide, by decide, by decide, by decide⟩ ?_
              refine a_aload_n X dX8_together_100 rfl ?_
              refine a_aload_n X dX8_together_101 rfl ?_
              refine a_iload_n X dX8_together_102 rfl ?_
              obtain ⟨e_103, f_103, h⟩ := zBx h
              refine a_callVv X dX8_together_103 miX8_chanceOf lm8_435 (t_X8_chanceOf (by assumption) f_103) (by assumption) rfl rfl rfl (Nat.le_of_ble_eq_true rfl) ⟨by decide, by decide, by decide, by decide⟩ ?_
              obtain ⟨e_106, f_106, h⟩ := zBx h
              refine a_callVv X dX8_together_106 miX8_givesLong lm8_438 (t_X8_givesLong (by assumption) f_106) (by assumption) rfl rfl rfl (Nat.le_of_ble_eq_true rfl) ⟨by decide, by decide, by decide, by decide⟩ ?_
              refine a_lret X hr dX8_together_109 ⟨by decide, by decide⟩ ?_
              subst hF
              rw [← Option.some.inj h]
              exact ⟨rfl, rfl⟩
            · replace h := (if_neg h_79).symm.trans h
              refine a_aload_n X dX8_together_82 rfl ?_
              refine a_iconst (v := 3) X dX8_together_83 (by decide) ?_
              obtain ⟨e_84, f_84, h⟩ := zBx h
              refine a_callVv X dX8_together_84 miX8_refuse lm8_263 (t_X8_refuse (by assumption) f_84) (by assumption) rfl rfl rfl (Nat.le_of_ble_eq_true rfl) ⟨by decide, by decide, by decide, by decide⟩ ?_
              refine a_i2l X dX8_together_87 ?_
              refine a_lret X hr dX8_together_88 ⟨by decide, by decide⟩ ?_
              subst hF
              rw [← Option.some.inj h]
              exact ⟨rfl, rfl⟩
          · replace h := (if_neg h_58).symm.trans h
            exact Zw.to2 (J_61 _ _ _ _ _ h) rfl rfl rfl
      · replace h := (if_pos h_25).symm.trans h
        refine a_aload_n X dX8_together_28 rfl ?_
        refine a_iconst (v := 4) X dX8_together_29 (by decide) ?_
        obtain ⟨e_30, f_30, h⟩ := zBx h
        refine a_callVv X dX8_together_30 miX8_refuse lm8_263 (t_X8_refuse (by assumption) f_30) (by assumption) rfl rfl rfl (Nat.le_of_ble_eq_true rfl) ⟨by decide, by decide, by decide, by decide⟩ ?_
        refine a_i2l X dX8_together_33 ?_
        refine a_lret X hr dX8_together_34 ⟨by decide, by decide⟩ ?_
        subst hF
        rw [← Option.some.inj h]
        exact ⟨rfl, rfl⟩
    · replace h := (if_pos h_13).symm.trans h
      exact Zw.to2 (J_16 _ _ _ _ _ h) rfl rfl rfl
noncomputable def D_X8_splits_157 (P : Nat) (k122 : Int32 → zMt → Option (zMt)) (x2_157 : Int32) (y1_157 : Int32) (y2_157 : Int32) (M_157 : zMt) : Option (zMt) :=
  zI y1_157 82 <|
  zLt (zu M_157 (P + 1) y1_157.toNatClampNeg y2_157) fun M_157 =>
  k122 (x2_157 + 1) M_157
noncomputable def D_X8_splits_122 (P : Nat) : Nat → Int32 → zMt → Option (zMt)
  | 0, _, _ => none
  | n + 1, x2_122, M_122 =>
    if (12 : Int32) ≤ x2_122 then
      some (M_122)
    else
      if (9 : Int32) ≤ x2_122 then
        D_X8_splits_157 P (D_X8_splits_122 P n) x2_122 ((50 : Int32) + x2_122) (-1 : Int32) M_122
      else
        zI (((50 : Int32) + x2_122) + (3 : Int32)) 82 <|
        D_X8_splits_157 P (D_X8_splits_122 P n) x2_122 ((50 : Int32) + x2_122) (M_122 (P + 1) (((50 : Int32) + x2_122) + (3 : Int32)).toNatClampNeg) M_122
noncomputable def D_X8_splits_101 (P : Nat) (k2 : Int32 → Int32 → zMt → Option (zMt)) (x1_101 : Int32) (x2_101 : Int32) (M_101 : zMt) : Option (zMt) :=
  k2 x1_101 (x2_101 + 1) M_101
noncomputable def D_X8_splits_35 (P : Nat) (k2 : Int32 → Int32 → zMt → Option (zMt)) : Nat → Int32 → Int32 → Int32 → zMt → Option (zMt)
  | 0, _, _, _, _ => none
  | n + 1, x1_35, x2_35, x3_35, M_35 =>
    if (3 : Int32) ≤ x3_35 then
      D_X8_splits_101 P k2 x1_35 x2_35 M_35
    else
      zI (((50 : Int32) + ((3 : Int32) * x1_35)) + x3_35) 82 <|
      zI (((20 : Int32) + ((3 : Int32) * x2_35)) + x3_35) 82 <|
      zLt (zu M_35 (P + 1) (((20 : Int32) + ((3 : Int32) * x2_35)) + x3_35).toNatClampNeg (M_35 (P + 1) (((50 : Int32) + ((3 : Int32) * x1_35)) + x3_35).toNatClampNeg)) fun M_65 =>
      (D_X8_splits_35 P k2 n) x1_35 x2_35 (x3_35 + 1) M_65
noncomputable def D_X8_splits_2 (P : Nat) : Nat → Int32 → Int32 → zMt → Option (zMt)
  | 0, _, _, _ => none
  | n + 1, x1_2, x2_2, M_2 =>
    if (M_2 P 8) ≤ x2_2 then
      zI (70 : Int32) 82 <|
      zI (70 : Int32) 82 <|
      zLt (zu M_2 (P + 1) (70 : Int32).toNatClampNeg ((M_2 (P + 1) (70 : Int32).toNatClampNeg) - (1 : Int32))) fun M_117 =>
      D_X8_splits_122 P zFu ((3 : Int32) * x1_2) M_117
    else
      zI ((10 : Int32) + x2_2) 82 <|
      if (M_2 (P + 1) ((10 : Int32) + x2_2).toNatClampNeg) = x1_2 then
        zI ((10 : Int32) + x2_2) 82 <|
        zLt (zu M_2 (P + 1) ((10 : Int32) + x2_2).toNatClampNeg (-1 : Int32)) fun M_32 =>
        D_X8_splits_35 P (D_X8_splits_2 P n) zFu x1_2 x2_2 (0 : Int32) M_32
      else
        zI ((10 : Int32) + x2_2) 82 <|
        if (M_2 (P + 1) ((10 : Int32) + x2_2).toNatClampNeg) ≤ x1_2 then
          D_X8_splits_101 P (D_X8_splits_2 P n) x1_2 x2_2 M_2
        else
          zI ((10 : Int32) + x2_2) 82 <|
          zI ((10 : Int32) + x2_2) 82 <|
          zLt (zu M_2 (P + 1) ((10 : Int32) + x2_2).toNatClampNeg ((M_2 (P + 1) ((10 : Int32) + x2_2).toNatClampNeg) - (1 : Int32))) fun M_100 =>
          D_X8_splits_101 P (D_X8_splits_2 P n) x1_2 x2_2 M_100
noncomputable def D_X8_splits (P : Nat) (v0 : Int32) (M : zMt) : Option (zMt) :=
  D_X8_splits_2 P zFu v0 (0 : Int32) M
set_option maxRecDepth 100000 in
set_option maxHeartbeats 4000000 in
theorem t_X8_splits {l : Launch} {G : zG} {b : Nat} {L : List zC} {M : zMt} {N : zNt} {P : Nat} {v0 : Int32} (hP : LX8 L P) {r : zMt} (h : D_X8_splits P v0 M = some r) : zM l G b yX8_splits cX8_splits 4 none 0 0 0 [.ref P, .int v0] (L, M, N) (fun r2 z => r2 = none ∧ z = (L, r, N)) := by
  refine zM.of miX8_splits (Nat.le_of_ble_eq_true rfl) ?_
  intro p e s m args below meth c X hr hname
  generalize hF : ((fun r2 z => r2 = none ∧ z = (L, r, N)) : Option Value → zS → Prop) = FQ
  change Zw p l e { frames := 0, cells := 0, slots := 0, locals := 80 * (0) } s m args below meth c G b 4 (MQ below (zQ G b FQ) args s 0 0 (fun q : Nat => b ≤ q)) 0 0 0 [some (.ref P), some (.int v0), none, none] [] (L, M, N)
  obtain ⟨p_lt, p_o, p_s, p_read, p_aside, p_kept, p_guest, p_readGuest, p_tape, p_unitName, p_hunterName, p_partyName, p_bits, p_partyOf, p_choiceAt, p_sizes, p_guestMany, p_pointsOf, p_ticketsOf, p_ord, p_given, p_roundOf, p_tags, p_guestTags, p_places, p_sumAt, p_sumFirst, p_sumRound, p_sumBoth, p_sumTags, p_isEnd, p_newPoints, p_inRow, p_out⟩ := id hP
  have L_122 : ∀ u : Nat, ∀ (x1_122 : Int32) (x2_122 : Int32) (x3_122 : Option Value) (M_122 : zMt), D_X8_splits_122 P u x2_122 M_122 = some r → Zw p l e { frames := 0, cells := 0, slots := 0, locals := 80 * (0) } s m args below meth c G b 4 (MQ below (zQ G b FQ) args s 0 0 (fun q : Nat => b ≤ q)) 0 0 122 [some (.ref (P)), some (.int x1_122), some (.int x2_122), x3_122] [] (L, M_122, N) := by
    intro u
    induction u with
    | zero => intro x1_122 x2_122 x3_122 M_122 h; cases (show none = some r from h)
    | succ u_122 ih_122 =>
      have J_157 : ∀ (x1_157 : Int32) (x2_157 : Int32) (x3_157 : Option Value) (y1_157 : Int32) (y2_157 : Int32) (M_157 : zMt), D_X8_splits_157 P (D_X8_splits_122 P u_122) x2_157 y1_157 y2_157 M_157 = some r → Zw p l e { frames := 0, cells := 0, slots := 0, locals := 80 * (0) } s m args below meth c G b 4 (MQ below (zQ G b FQ) args s 0 0 (fun q : Nat => b ≤ q)) 0 0 157 [some (.ref (P)), some (.int x1_157), some (.int x2_157), x3_157] [.int y2_157, .int y1_157, .ref (P + 1)] (L, M_157, N) := by
        intro x1_157 x2_157 x3_157 y1_157 y2_157 M_157 h
        unfold D_X8_splits_157 at h
        obtain ⟨g_157, h⟩ := zIx h
        obtain ⟨M_157, f_157, h⟩ := zLtx h
        refine d_iastore X (by assumption) g_157 dX8_splits_157 f_157 ?_
        refine a_iinc (v := x2_157 + 1) X dX8_splits_158 (by decide) rfl zi_1 ?_
        refine a_goto (tgt := 122) X dX8_splits_161 (by decide) ?_
        exact Zw.to2 (ih_122 _ _ _ _ h) rfl rfl rfl
      intro x1_122 x2_122 x3_122 M_122 h
      rw [D_X8_splits_122] at h
      refine a_iload_n X dX8_splits_122 rfl ?_
      refine a_bipush (v := 12) X dX8_splits_123 (by decide) ?_
      refine a_icmp_ge (tgt := 164) X dX8_splits_125 (by decide) (fun h_125 => ?_) (fun h_125 => ?_)
      · replace h := (if_pos h_125).symm.trans h
        refine a_vret X hr dX8_splits_164 ⟨by decide, by decide⟩ ?_
        subst hF
        rw [← Option.some.inj h]
        exact ⟨rfl, rfl⟩
      · replace h := (if_neg h_125).symm.trans h
        refine a_aload_n X dX8_splits_128 rfl ?_
        refine a_getr X lf8_7 (by assumption) rfl (by omega) dX8_splits_129 ?_
        refine a_bipush (v := 50) X dX8_splits_132 (by decide) ?_
        refine a_iload_n X dX8_splits_134 rfl ?_
        refine a_iadd X dX8_splits_135 ?_
        refine a_iload_n X dX8_splits_136 rfl ?_
        refine a_bipush (v := 9) X dX8_splits_137 (by decide) ?_
        refine a_icmp_ge (tgt := 156) X dX8_splits_139 (by decide) (fun h_139 => ?_) (fun h_139 => ?_)
        · replace h := (if_pos h_139).symm.trans h
          refine a_iconst (v := -1) X dX8_splits_156 (by decide) ?_
          exact Zw.to2 (J_157 _ _ _ _ _ _ h) rfl rfl rfl
        · replace h := (if_neg h_139).symm.trans h
          refine a_aload_n X dX8_splits_142 rfl ?_
          refine a_getr X lf8_7 (by assumption) rfl (by omega) dX8_splits_143 ?_
          refine a_bipush (v := 50) X dX8_splits_146 (by decide) ?_
          refine a_iload_n X dX8_splits_148 rfl ?_
          refine a_iadd X dX8_splits_149 ?_
          refine a_iconst (v := 3) X dX8_splits_150 (by decide) ?_
          refine a_iadd X dX8_splits_151 ?_
          obtain ⟨g_152, h⟩ := zIx h
          refine a_iaload X (by assumption) g_152 dX8_splits_152 ?_
          refine a_goto (tgt := 157) X dX8_splits_153 (by decide) ?_
          exact Zw.to2 (J_157 _ _ _ _ _ _ h) rfl rfl rfl
  have H_122 : ∀ (x1_122 : Int32) (x2_122 : Int32) (x3_122 : Option Value) (M_122 : zMt), D_X8_splits_122 P zFu x2_122 M_122 = some r → Zw p l e { frames := 0, cells := 0, slots := 0, locals := 80 * (0) } s m args below meth c G b 4 (MQ below (zQ G b FQ) args s 0 0 (fun q : Nat => b ≤ q)) 0 0 122 [some (.ref (P)), some (.int x1_122), some (.int x2_122), x3_122] [] (L, M_122, N) := L_122 zFu
  have L_2 : ∀ u : Nat, ∀ (x1_2 : Int32) (x2_2 : Int32) (x3_2 : Option Value) (M_2 : zMt), D_X8_splits_2 P u x1_2 x2_2 M_2 = some r → Zw p l e { frames := 0, cells := 0, slots := 0, locals := 80 * (0) } s m args below meth c G b 4 (MQ below (zQ G b FQ) args s 0 0 (fun q : Nat => b ≤ q)) 0 0 2 [some (.ref (P)), some (.int x1_2), some (.int x2_2), x3_2] [] (L, M_2, N) := by
    intro u
    induction u with
    | zero => intro x1_2 x2_2 x3_2 M_2 h; cases (show none = some r from h)
    | succ u_2 ih_2 =>
      have J_101 : ∀ (x1_101 : Int32) (x2_101 : Int32) (x3_101 : Option Value) (M_101 : zMt), D_X8_splits_101 P (D_X8_splits_2 P u_2) x1_101 x2_101 M_101 = some r → Zw p l e { frames := 0, cells := 0, slots := 0, locals := 80 * (0) } s m args below meth c G b 4 (MQ below (zQ G b FQ) args s 0 0 (fun q : Nat => b ≤ q)) 0 0 101 [some (.ref (P)), some (.int x1_101), some (.int x2_101), x3_101] [] (L, M_101, N) := by
        intro x1_101 x2_101 x3_101 M_101 h
        unfold D_X8_splits_101 at h
        refine a_iinc (v := x2_101 + 1) X dX8_splits_101 (by decide) rfl zi_1 ?_
        refine a_goto (tgt := 2) X dX8_splits_104 (by decide) ?_
        exact Zw.to2 (ih_2 _ _ _ _ h) rfl rfl rfl
      have L_35 : ∀ u : Nat, ∀ (x1_35 : Int32) (x2_35 : Int32) (x3_35 : Int32) (M_35 : zMt), D_X8_splits_35 P (D_X8_splits_2 P u_2) u x1_35 x2_35 x3_35 M_35 = some r → Zw p l e { frames := 0, cells := 0, slots := 0, locals := 80 * (0) } s m args below meth c G b 4 (MQ below (zQ G b FQ) args s 0 0 (fun q : Nat => b ≤ q)) 0 0 35 [some (.ref (P)), some (.int x1_35), some (.int x2_35), some (.int x3_35)] [] (L, M_35, N) := by
        intro u
        induction u with
        | zero => intro x1_35 x2_35 x3_35 M_35 h; cases (show none = some r from h)
        | succ u_35 ih_35 =>
          intro x1_35 x2_35 x3_35 M_35 h
          rw [D_X8_splits_35] at h
          refine a_iload_n X dX8_splits_35 rfl ?_
          refine a_iconst (v := 3) X dX8_splits_36 (by decide) ?_
          refine a_icmp_ge (tgt := 72) X dX8_splits_37 (by decide) (fun h_37 => ?_) (fun h_37 => ?_)
          · replace h := (if_pos h_37).symm.trans h
            refine a_goto (tgt := 101) X dX8_splits_72 (by decide) ?_
            exact Zw.to2 (J_101 _ _ _ _ h) rfl rfl rfl
          · replace h := (if_neg h_37).symm.trans h
            refine a_aload_n X dX8_splits_40 rfl ?_
            refine a_getr X lf8_7 (by assumption) rfl (by omega) dX8_splits_41 ?_
            refine a_bipush (v := 20) X dX8_splits_44 (by decide) ?_
            refine a_iconst (v := 3) X dX8_splits_46 (by decide) ?_
            refine a_iload_n X dX8_splits_47 rfl ?_
            refine a_imul X dX8_splits_48 ?_
            refine a_iadd X dX8_splits_49 ?_
            refine a_iload_n X dX8_splits_50 rfl ?_
            refine a_iadd X dX8_splits_51 ?_
            refine a_aload_n X dX8_splits_52 rfl ?_
            refine a_getr X lf8_7 (by assumption) rfl (by omega) dX8_splits_53 ?_
            refine a_bipush (v := 50) X dX8_splits_56 (by decide) ?_
            refine a_iconst (v := 3) X dX8_splits_58 (by decide) ?_
            refine a_iload_n X dX8_splits_59 rfl ?_
            refine a_imul X dX8_splits_60 ?_
            refine a_iadd X dX8_splits_61 ?_
            refine a_iload_n X dX8_splits_62 rfl ?_
            refine a_iadd X dX8_splits_63 ?_
            obtain ⟨g_64, h⟩ := zIx h
            refine a_iaload X (by assumption) g_64 dX8_splits_64 ?_
            obtain ⟨g_65, h⟩ := zIx h
            obtain ⟨M_65, f_65, h⟩ := zLtx h
            refine d_iastore X (by assumption) g_65 dX8_splits_65 f_65 ?_
            refine a_iinc (v := x3_35 + 1) X dX8_splits_66 (by decide) rfl zi_1 ?_
            refine a_goto (tgt := 35) X dX8_splits_69 (by decide) ?_
            exact Zw.to2 (ih_35 _ _ _ _ h) rfl rfl rfl
      have H_35 : ∀ (x1_35 : Int32) (x2_35 : Int32) (x3_35 : Int32) (M_35 : zMt), D_X8_splits_35 P (D_X8_splits_2 P u_2) zFu x1_35 x2_35 x3_35 M_35 = some r → Zw p l e { frames := 0, cells := 0, slots := 0, locals := 80 * (0) } s m args below meth c G b 4 (MQ below (zQ G b FQ) args s 0 0 (fun q : Nat => b ≤ q)) 0 0 35 [some (.ref (P)), some (.int x1_35), some (.int x2_35), some (.int x3_35)] [] (L, M_35, N) := L_35 zFu
      intro x1_2 x2_2 x3_2 M_2 h
      rw [D_X8_splits_2] at h
      refine a_iload_n X dX8_splits_2 rfl ?_
      refine a_aload_n X dX8_splits_3 rfl ?_
      refine a_geti X lf8_132 (by assumption) rfl dX8_splits_4 ?_
      refine a_icmp_ge (tgt := 107) X dX8_splits_7 (by decide) (fun h_7 => ?_) (fun h_7 => ?_)
      · replace h := (if_pos h_7).symm.trans h
        refine a_aload_n X dX8_splits_107 rfl ?_
        refine a_getr X lf8_7 (by assumption) rfl (by omega) dX8_splits_108 ?_
        refine a_bipush (v := 70) X dX8_splits_111 (by decide) ?_
        refine a_dup2 X dX8_splits_113 rfl rfl ?_
        obtain ⟨g_114, h⟩ := zIx h
        refine a_iaload X (by assumption) g_114 dX8_splits_114 ?_
        refine a_iconst (v := 1) X dX8_splits_115 (by decide) ?_
        refine a_isub X dX8_splits_116 ?_
        obtain ⟨g_117, h⟩ := zIx h
        obtain ⟨M_117, f_117, h⟩ := zLtx h
        refine d_iastore X (by assumption) g_117 dX8_splits_117 f_117 ?_
        refine a_iconst (v := 3) X dX8_splits_118 (by decide) ?_
        refine a_iload_n X dX8_splits_119 rfl ?_
        refine a_imul X dX8_splits_120 ?_
        refine a_istore_n X dX8_splits_121 (by decide) ?_
        exact Zw.to2 (H_122 _ _ _ _ h) rfl rfl rfl
      · replace h := (if_neg h_7).symm.trans h
        refine a_aload_n X dX8_splits_10 rfl ?_
        refine a_getr X lf8_7 (by assumption) rfl (by omega) dX8_splits_11 ?_
        refine a_bipush (v := 10) X dX8_splits_14 (by decide) ?_
        refine a_iload_n X dX8_splits_16 rfl ?_
        refine a_iadd X dX8_splits_17 ?_
        obtain ⟨g_18, h⟩ := zIx h
        refine a_iaload X (by assumption) g_18 dX8_splits_18 ?_
        refine a_iload_n X dX8_splits_19 rfl ?_
        refine a_icmp_ne (tgt := 75) X dX8_splits_20 (by decide) (fun h_20 => ?_) (fun h_20 => ?_)
        · replace h := (if_neg h_20).symm.trans h
          refine a_aload_n X dX8_splits_75 rfl ?_
          refine a_getr X lf8_7 (by assumption) rfl (by omega) dX8_splits_76 ?_
          refine a_bipush (v := 10) X dX8_splits_79 (by decide) ?_
          refine a_iload_n X dX8_splits_81 rfl ?_
          refine a_iadd X dX8_splits_82 ?_
          obtain ⟨g_83, h⟩ := zIx h
          refine a_iaload X (by assumption) g_83 dX8_splits_83 ?_
          refine a_iload_n X dX8_splits_84 rfl ?_
          refine a_icmp_le (tgt := 101) X dX8_splits_85 (by decide) (fun h_85 => ?_) (fun h_85 => ?_)
          · replace h := (if_pos h_85).symm.trans h
            exact Zw.to2 (J_101 _ _ _ _ h) rfl rfl rfl
          · replace h := (if_neg h_85).symm.trans h
            refine a_aload_n X dX8_splits_88 rfl ?_
            refine a_getr X lf8_7 (by assumption) rfl (by omega) dX8_splits_89 ?_
            refine a_bipush (v := 10) X dX8_splits_92 (by decide) ?_
            refine a_iload_n X dX8_splits_94 rfl ?_
            refine a_iadd X dX8_splits_95 ?_
            refine a_dup2 X dX8_splits_96 rfl rfl ?_
            obtain ⟨g_97, h⟩ := zIx h
            refine a_iaload X (by assumption) g_97 dX8_splits_97 ?_
            refine a_iconst (v := 1) X dX8_splits_98 (by decide) ?_
            refine a_isub X dX8_splits_99 ?_
            obtain ⟨g_100, h⟩ := zIx h
            obtain ⟨M_100, f_100, h⟩ := zLtx h
            refine d_iastore X (by assumption) g_100 dX8_splits_100 f_100 ?_
            exact Zw.to2 (J_101 _ _ _ _ h) rfl rfl rfl
        · replace h := (if_pos h_20).symm.trans h
          refine a_aload_n X dX8_splits_23 rfl ?_
          refine a_getr X lf8_7 (by assumption) rfl (by omega) dX8_splits_24 ?_
          refine a_bipush (v := 10) X dX8_splits_27 (by decide) ?_
          refine a_iload_n X dX8_splits_29 rfl ?_
          refine a_iadd X dX8_splits_30 ?_
          refine a_iconst (v := -1) X dX8_splits_31 (by decide) ?_
          obtain ⟨g_32, h⟩ := zIx h
          obtain ⟨M_32, f_32, h⟩ := zLtx h
          refine d_iastore X (by assumption) g_32 dX8_splits_32 f_32 ?_
          refine a_iconst (v := 0) X dX8_splits_33 (by decide) ?_
          refine a_istore_n X dX8_splits_34 (by decide) ?_
          exact Zw.to2 (H_35 _ _ _ _ h) rfl rfl rfl
  have H_2 : ∀ (x1_2 : Int32) (x2_2 : Int32) (x3_2 : Option Value) (M_2 : zMt), D_X8_splits_2 P zFu x1_2 x2_2 M_2 = some r → Zw p l e { frames := 0, cells := 0, slots := 0, locals := 80 * (0) } s m args below meth c G b 4 (MQ below (zQ G b FQ) args s 0 0 (fun q : Nat => b ≤ q)) 0 0 2 [some (.ref (P)), some (.int x1_2), some (.int x2_2), x3_2] [] (L, M_2, N) := L_2 zFu
  unfold D_X8_splits at h
  refine a_iconst (v := 0) X dX8_splits_0 (by decide) ?_
  refine a_istore_n X dX8_splits_1 (by decide) ?_
  exact Zw.to2 (H_2 _ _ _ _ h) rfl rfl rfl
noncomputable def D_X8_apart_163 (P : Nat) (y0_163 : Int64) (M_163 : zMt) (N_163 : zNt) : Option (Int64 × zMt × zNt) :=
  some (y0_163, M_163, N_163)
noncomputable def D_X8_apart_138 (P : Nat) (x3_138 : Int32) (M_138 : zMt) (N_138 : zNt) : Option (Int64 × zMt × zNt) :=
  zB (D_X8_takesBack P M_138) fun e_139 =>
  if x3_138 = 0 then
    zB (D_X8_refuse P (3 : Int32) e_139) fun e_159 =>
    D_X8_apart_163 P (Int32.toInt64 e_159.1) e_159.2 N_138
  else
    zB (D_X8_givesLong P (N_138 P 59) e_139) fun e_151 =>
    D_X8_apart_163 P e_151.1 e_151.2 N_138
noncomputable def D_X8_apart_124 (P : Nat) (k90 : Int32 → Int32 → Int32 → zMt → zNt → Option (Int64 × zMt × zNt)) (x2_124 : Int32) (x3_124 : Int32) (x4_124 : Int32) (y1_124 : Int32) (y2_124 : Int32) (M_124 : zMt) (N_124 : zNt) : Option (Int64 × zMt × zNt) :=
  zLt (zu M_124 P 58 (y1_124 ||| y2_124)) fun M_125 =>
  k90 x2_124 x3_124 (x4_124 + 1) M_125 N_124
noncomputable def D_X8_apart_90 (P : Nat) : Nat → Int32 → Int32 → Int32 → zMt → zNt → Option (Int64 × zMt × zNt)
  | 0, _, _, _, _, _ => none
  | n + 1, x2_90, x3_90, x4_90, M_90, N_90 =>
    if (M_90 P 33) ≤ x4_90 then
      zB (D_X8_laysAll P M_90 N_90) fun e_135 =>
      D_X8_apart_138 P x3_90 e_135.1 e_135.2
    else
      zI x4_90 10 <|
      if ((M_90 (P + 11) x4_90.toNatClampNeg) &&& x2_90) = 0 then
        D_X8_apart_124 P (D_X8_apart_90 P n) x2_90 x3_90 x4_90 (M_90 P 58) (0 : Int32) M_90 N_90
      else
        D_X8_apart_124 P (D_X8_apart_90 P n) x2_90 x3_90 x4_90 (M_90 P 58) ((1 : Int32) <<< (x4_90 &&& 31)) M_90 N_90
noncomputable def D_X8_apart_77 (P : Nat) (x2_77 : Int32) (y0_77 : Int32) (M_77 : zMt) (N_77 : zNt) : Option (Int64 × zMt × zNt) :=
  if y0_77 = 0 then
    D_X8_apart_138 P y0_77 M_77 N_77
  else
    zLt (zu M_77 P 58 (0 : Int32)) fun M_84 =>
    D_X8_apart_90 P zFu x2_77 y0_77 (0 : Int32) M_84 N_77
noncomputable def D_X8_apart_48 (P : Nat) (k19 : Int32 → Int32 → Int32 → zMt → zNt → Option (Int64 × zMt × zNt)) (x1_48 : Int32) (x3_48 : Int32) (y0_48 : Int32) (y1_48 : Int32) (M_48 : zMt) (N_48 : zNt) : Option (Int64 × zMt × zNt) :=
  k19 x1_48 (y0_48 ||| y1_48) (x3_48 + 1) M_48 N_48
noncomputable def D_X8_apart_19 (P : Nat) : Nat → Int32 → Int32 → Int32 → zMt → zNt → Option (Int64 × zMt × zNt)
  | 0, _, _, _, _, _ => none
  | n + 1, x1_19, x2_19, x3_19, M_19, N_19 =>
    if (M_19 P 8) ≤ x3_19 then
      zB (D_X8_putsAside P M_19) fun e_57 =>
      zB (D_X8_splits P x1_19 e_57) fun e_62 =>
      zB (D_X8_areMany P e_62) fun e_66 =>
      if e_66.1 = 0 then
        D_X8_apart_77 P x2_19 (1 : Int32) e_66.2 N_19
      else
        D_X8_apart_77 P x2_19 (0 : Int32) e_66.2 N_19
    else
      zI ((10 : Int32) + x3_19) 82 <|
      if (M_19 (P + 1) ((10 : Int32) + x3_19).toNatClampNeg) = x1_19 then
        D_X8_apart_48 P (D_X8_apart_19 P n) x1_19 x3_19 x2_19 ((1 : Int32) <<< (x3_19 &&& 31)) M_19 N_19
      else
        D_X8_apart_48 P (D_X8_apart_19 P n) x1_19 x3_19 x2_19 (0 : Int32) M_19 N_19
noncomputable def D_X8_apart (P : Nat) (v0 : Int32) (M : zMt) (N : zNt) : Option (Int64 × zMt × zNt) :=
  zB (D_X8_isParty P M v0) fun e_2 =>
  if e_2 = 0 then
    zB (D_X8_refuse P (2 : Int32) M) fun e_10 =>
    some ((Int32.toInt64 e_10.1), e_10.2, N)
  else
    D_X8_apart_19 P zFu v0 (0 : Int32) (0 : Int32) M N
set_option maxRecDepth 100000 in
set_option maxHeartbeats 4000000 in
theorem t_X8_apart {l : Launch} {G : zG} {b : Nat} {L : List zC} {M : zMt} {N : zNt} {P : Nat} {v0 : Int32} (hP : LX8 L P) {r : Int64 × zMt × zNt} (h : D_X8_apart P v0 M N = some r) : zM l G b yX8_apart cX8_apart 5 (some .long) 14 0 0 [.ref P, .int v0] (L, M, N) (fun r2 z => r2 = some (.long r.1) ∧ z = (L, r.2.1, r.2.2)) := by
  refine zM.of miX8_apart (Nat.le_of_ble_eq_true rfl) ?_
  intro p e s m args below meth c X hr hname
  generalize hF : ((fun r2 z => r2 = some (.long r.1) ∧ z = (L, r.2.1, r.2.2)) : Option Value → zS → Prop) = FQ
  change Zw p l e { frames := 14, cells := 0, slots := 0, locals := 80 * (14) } s m args below meth c G b 5 (MQ below (zQ G b FQ) args s 0 0 (fun q : Nat => b ≤ q)) 0 0 0 [some (.ref P), some (.int v0), none, none, none] [] (L, M, N)
  obtain ⟨p_lt, p_o, p_s, p_read, p_aside, p_kept, p_guest, p_readGuest, p_tape, p_unitName, p_hunterName, p_partyName, p_bits, p_partyOf, p_choiceAt, p_sizes, p_guestMany, p_pointsOf, p_ticketsOf, p_ord, p_given, p_roundOf, p_tags, p_guestTags, p_places, p_sumAt, p_sumFirst, p_sumRound, p_sumBoth, p_sumTags, p_isEnd, p_newPoints, p_inRow, p_out⟩ := id hP
  have J_163 : ∀ (x1_163 : Int32) (x2_163 : Int32) (x3_163 : Int32) (x4_163 : Option Value) (y0_163 : Int64) (M_163 : zMt) (N_163 : zNt), D_X8_apart_163 P y0_163 M_163 N_163 = some r → Zw p l e { frames := 14, cells := 0, slots := 0, locals := 80 * (14) } s m args below meth c G b 5 (MQ below (zQ G b FQ) args s 0 0 (fun q : Nat => b ≤ q)) 0 0 163 [some (.ref (P)), some (.int x1_163), some (.int x2_163), some (.int x3_163), x4_163] [.long y0_163] (L, M_163, N_163) := by
    intro x1_163 x2_163 x3_163 x4_163 y0_163 M_163 N_163 h
    unfold D_X8_apart_163 at h
    refine a_lret X hr dX8_apart_163 ⟨by decide, by decide⟩ ?_
    subst hF
    rw [← Option.some.inj h]
    exact ⟨rfl, rfl⟩
  have J_138 : ∀ (x1_138 : Int32) (x2_138 : Int32) (x3_138 : Int32) (x4_138 : Option Value) (M_138 : zMt) (N_138 : zNt), (x3_138 = 0 ∨ x3_138 = 1) → D_X8_apart_138 P x3_138 M_138 N_138 = some r → Zw p l e { frames := 14, cells := 0, slots := 0, locals := 80 * (14) } s m args below meth c G b 5 (MQ below (zQ G b FQ) args s 0 0 (fun q : Nat => b ≤ q)) 0 0 138 [some (.ref (P)), some (.int x1_138), some (.int x2_138), some (.int x3_138), x4_138] [] (L, M_138, N_138) := by
    intro x1_138 x2_138 x3_138 x4_138 M_138 N_138 fb_x3_138 h
    unfold D_X8_apart_138 at h
    refine a_aload_n X dX8_apart_138 rfl ?_
    obtain ⟨e_139, f_139, h⟩ := zBx h
    refine a_callVu X dX8_apart_139 miX8_takesBack lm8_449 (t_X8_takesBack (by assumption) f_139) (by assumption) rfl rfl rfl (Nat.le_of_ble_eq_true rfl) ⟨by decide, by decide, by decide, by decide⟩ ?_
    refine a_iload_n X dX8_apart_142 rfl ?_
    refine a_if_eq (tgt := 157) X dX8_apart_143 (by decide) (fun h_143 => ?_) (fun h_143 => ?_)
    · replace h := (if_pos h_143).symm.trans h
      refine a_aload_n X dX8_apart_157 rfl ?_
      refine a_iconst (v := 3) X dX8_apart_158 (by decide) ?_
      obtain ⟨e_159, f_159, h⟩ := zBx h
      refine a_callVv X dX8_apart_159 miX8_refuse lm8_263 (t_X8_refuse (by assumption) f_159) (by assumption) rfl rfl rfl (Nat.le_of_ble_eq_true rfl) ⟨by decide, by decide, by decide, by decide⟩ ?_
      refine a_i2l X dX8_apart_162 ?_
      exact Zw.to2 (J_163 _ _ _ _ _ _ _ h) rfl rfl rfl
    · replace h := (if_neg h_143).symm.trans h
      refine a_aload_n X dX8_apart_146 rfl ?_
      refine a_aload_n X dX8_apart_147 rfl ?_
      refine a_getl X lf8_393 (by assumption) rfl dX8_apart_148 ?_
      obtain ⟨e_151, f_151, h⟩ := zBx h
      refine a_callVv X dX8_apart_151 miX8_givesLong lm8_438 (t_X8_givesLong (by assumption) f_151) (by assumption) rfl rfl rfl (Nat.le_of_ble_eq_true rfl) ⟨by decide, by decide, by decide, by decide⟩ ?_
      refine a_goto (tgt := 163) X dX8_apart_154 (by decide) ?_
      exact Zw.to2 (J_163 _ _ _ _ _ _ _ h) rfl rfl rfl
  have L_90 : ∀ u : Nat, ∀ (x1_90 : Int32) (x2_90 : Int32) (x3_90 : Int32) (x4_90 : Int32) (M_90 : zMt) (N_90 : zNt), (x3_90 = 0 ∨ x3_90 = 1) → D_X8_apart_90 P u x2_90 x3_90 x4_90 M_90 N_90 = some r → Zw p l e { frames := 14, cells := 0, slots := 0, locals := 80 * (14) } s m args below meth c G b 5 (MQ below (zQ G b FQ) args s 0 0 (fun q : Nat => b ≤ q)) 0 0 90 [some (.ref (P)), some (.int x1_90), some (.int x2_90), some (.int x3_90), some (.int x4_90)] [] (L, M_90, N_90) := by
    intro u
    induction u with
    | zero => intro x1_90 x2_90 x3_90 x4_90 M_90 N_90 fb_x3_90 h; cases (show none = some r from h)
    | succ u_90 ih_90 =>
      have J_124 : ∀ (x1_124 : Int32) (x2_124 : Int32) (x3_124 : Int32) (x4_124 : Int32) (y1_124 : Int32) (y2_124 : Int32) (M_124 : zMt) (N_124 : zNt), (x3_124 = 0 ∨ x3_124 = 1) → D_X8_apart_124 P (D_X8_apart_90 P u_90) x2_124 x3_124 x4_124 y1_124 y2_124 M_124 N_124 = some r → Zw p l e { frames := 14, cells := 0, slots := 0, locals := 80 * (14) } s m args below meth c G b 5 (MQ below (zQ G b FQ) args s 0 0 (fun q : Nat => b ≤ q)) 0 0 124 [some (.ref (P)), some (.int x1_124), some (.int x2_124), some (.int x3_124), some (.int x4_124)] [.int y2_124, .int y1_124, .ref (P)] (L, M_124, N_124) := by
        intro x1_124 x2_124 x3_124 x4_124 y1_124 y2_124 M_124 N_124 fb_x3_124 h
        unfold D_X8_apart_124 at h
        refine a_ior X dX8_apart_124 ?_
        obtain ⟨M_125, f_125, h⟩ := zLtx h
        refine d_puti X lf8_418 (by assumption) rfl dX8_apart_125 f_125 ?_
        refine a_iinc (v := x4_124 + 1) X dX8_apart_128 (by decide) rfl zi_1 ?_
        refine a_goto (tgt := 90) X dX8_apart_131 (by decide) ?_
        exact Zw.to2 (ih_90 _ _ _ _ _ _ (by first | exact Or.inl rfl | exact Or.inr rfl | assumption) h) rfl rfl rfl
      intro x1_90 x2_90 x3_90 x4_90 M_90 N_90 fb_x3_90 h
      rw [D_X8_apart_90] at h
      refine a_iload X dX8_apart_90 rfl ?_
      refine a_aload_n X dX8_apart_92 rfl ?_
      refine a_geti X lf8_275 (by assumption) rfl dX8_apart_93 ?_
      refine a_icmp_ge (tgt := 134) X dX8_apart_96 (by decide) (fun h_96 => ?_) (fun h_96 => ?_)
      · replace h := (if_pos h_96).symm.trans h
        refine a_aload_n X dX8_apart_134 rfl ?_
        obtain ⟨e_135, f_135, h⟩ := zBx h
        refine a_callVu X dX8_apart_135 miX8_laysAll lm8_432 (t_X8_laysAll (by assumption) f_135) (by assumption) rfl rfl rfl (Nat.le_of_ble_eq_true rfl) ⟨by decide, by decide, by decide, by decide⟩ ?_
        exact Zw.to2 (J_138 _ _ _ _ _ _ (by first | exact Or.inl rfl | exact Or.inr rfl | assumption) h) rfl rfl rfl
      · replace h := (if_neg h_96).symm.trans h
        refine a_aload_n X dX8_apart_99 rfl ?_
        refine a_dup X dX8_apart_100 rfl ?_
        refine a_geti X lf8_418 (by assumption) rfl dX8_apart_101 ?_
        refine a_aload_n X dX8_apart_104 rfl ?_
        refine a_getr X lf8_49 (by assumption) rfl (by omega) dX8_apart_105 ?_
        refine a_iload X dX8_apart_108 rfl ?_
        obtain ⟨g_110, h⟩ := zIx h
        refine a_iaload X (by assumption) g_110 dX8_apart_110 ?_
        refine a_iload_n X dX8_apart_111 rfl ?_
        refine a_iand X dX8_apart_112 ?_
        refine a_if_eq (tgt := 123) X dX8_apart_113 (by decide) (fun h_113 => ?_) (fun h_113 => ?_)
        · replace h := (if_pos h_113).symm.trans h
          refine a_iconst (v := 0) X dX8_apart_123 (by decide) ?_
          exact Zw.to2 (J_124 _ _ _ _ _ _ _ _ (by first | exact Or.inl rfl | exact Or.inr rfl | assumption) h) rfl rfl rfl
        · replace h := (if_neg h_113).symm.trans h
          refine a_iconst (v := 1) X dX8_apart_116 (by decide) ?_
          refine a_iload X dX8_apart_117 rfl ?_
          refine a_ishl X dX8_apart_119 ?_
          refine a_goto (tgt := 124) X dX8_apart_120 (by decide) ?_
          exact Zw.to2 (J_124 _ _ _ _ _ _ _ _ (by first | exact Or.inl rfl | exact Or.inr rfl | assumption) h) rfl rfl rfl
  have H_90 : ∀ (x1_90 : Int32) (x2_90 : Int32) (x3_90 : Int32) (x4_90 : Int32) (M_90 : zMt) (N_90 : zNt), (x3_90 = 0 ∨ x3_90 = 1) → D_X8_apart_90 P zFu x2_90 x3_90 x4_90 M_90 N_90 = some r → Zw p l e { frames := 14, cells := 0, slots := 0, locals := 80 * (14) } s m args below meth c G b 5 (MQ below (zQ G b FQ) args s 0 0 (fun q : Nat => b ≤ q)) 0 0 90 [some (.ref (P)), some (.int x1_90), some (.int x2_90), some (.int x3_90), some (.int x4_90)] [] (L, M_90, N_90) := L_90 zFu
  have J_77 : ∀ (x1_77 : Int32) (x2_77 : Int32) (x3_77 : Int32) (x4_77 : Option Value) (y0_77 : Int32) (M_77 : zMt) (N_77 : zNt), (y0_77 = 0 ∨ y0_77 = 1) → D_X8_apart_77 P x2_77 y0_77 M_77 N_77 = some r → Zw p l e { frames := 14, cells := 0, slots := 0, locals := 80 * (14) } s m args below meth c G b 5 (MQ below (zQ G b FQ) args s 0 0 (fun q : Nat => b ≤ q)) 0 0 77 [some (.ref (P)), some (.int x1_77), some (.int x2_77), some (.int x3_77), x4_77] [.int y0_77] (L, M_77, N_77) := by
    intro x1_77 x2_77 x3_77 x4_77 y0_77 M_77 N_77 fb_y0_77 h
    unfold D_X8_apart_77 at h
    refine a_istore_n X dX8_apart_77 (by decide) ?_
    refine a_iload_n X dX8_apart_78 rfl ?_
    refine a_if_eq (tgt := 138) X dX8_apart_79 (by decide) (fun h_79 => ?_) (fun h_79 => ?_)
    · replace h := (if_pos h_79).symm.trans h
      exact Zw.to2 (J_138 _ _ _ _ _ _ (by first | exact Or.inl rfl | exact Or.inr rfl | assumption) h) rfl rfl rfl
    · replace h := (if_neg h_79).symm.trans h
      refine a_aload_n X dX8_apart_82 rfl ?_
      refine a_iconst (v := 0) X dX8_apart_83 (by decide) ?_
      obtain ⟨M_84, f_84, h⟩ := zLtx h
      refine d_puti X lf8_418 (by assumption) rfl dX8_apart_84 f_84 ?_
      refine a_iconst (v := 0) X dX8_apart_87 (by decide) ?_
      refine a_istore X dX8_apart_88 (by decide) ?_
      exact Zw.to2 (H_90 _ _ _ _ _ _ (by first | exact Or.inl rfl | exact Or.inr rfl | assumption) h) rfl rfl rfl
  have L_19 : ∀ u : Nat, ∀ (x1_19 : Int32) (x2_19 : Int32) (x3_19 : Int32) (x4_19 : Option Value) (M_19 : zMt) (N_19 : zNt), D_X8_apart_19 P u x1_19 x2_19 x3_19 M_19 N_19 = some r → Zw p l e { frames := 14, cells := 0, slots := 0, locals := 80 * (14) } s m args below meth c G b 5 (MQ below (zQ G b FQ) args s 0 0 (fun q : Nat => b ≤ q)) 0 0 19 [some (.ref (P)), some (.int x1_19), some (.int x2_19), some (.int x3_19), x4_19] [] (L, M_19, N_19) := by
    intro u
    induction u with
    | zero => intro x1_19 x2_19 x3_19 x4_19 M_19 N_19 h; cases (show none = some r from h)
    | succ u_19 ih_19 =>
      have J_48 : ∀ (x1_48 : Int32) (x2_48 : Int32) (x3_48 : Int32) (x4_48 : Option Value) (y0_48 : Int32) (y1_48 : Int32) (M_48 : zMt) (N_48 : zNt), D_X8_apart_48 P (D_X8_apart_19 P u_19) x1_48 x3_48 y0_48 y1_48 M_48 N_48 = some r → Zw p l e { frames := 14, cells := 0, slots := 0, locals := 80 * (14) } s m args below meth c G b 5 (MQ below (zQ G b FQ) args s 0 0 (fun q : Nat => b ≤ q)) 0 0 48 [some (.ref (P)), some (.int x1_48), some (.int x2_48), some (.int x3_48), x4_48] [.int y1_48, .int y0_48] (L, M_48, N_48) := by
        intro x1_48 x2_48 x3_48 x4_48 y0_48 y1_48 M_48 N_48 h
        unfold D_X8_apart_48 at h
        refine a_ior X dX8_apart_48 ?_
        refine a_istore_n X dX8_apart_49 (by decide) ?_
        refine a_iinc (v := x3_48 + 1) X dX8_apart_50 (by decide) rfl zi_1 ?_
        refine a_goto (tgt := 19) X dX8_apart_53 (by decide) ?_
        exact Zw.to2 (ih_19 _ _ _ _ _ _ h) rfl rfl rfl
      intro x1_19 x2_19 x3_19 x4_19 M_19 N_19 h
      rw [D_X8_apart_19] at h
      refine a_iload_n X dX8_apart_19 rfl ?_
      refine a_aload_n X dX8_apart_20 rfl ?_
      refine a_geti X lf8_132 (by assumption) rfl dX8_apart_21 ?_
      refine a_icmp_ge (tgt := 56) X dX8_apart_24 (by decide) (fun h_24 => ?_) (fun h_24 => ?_)
      · replace h := (if_pos h_24).symm.trans h
        refine a_aload_n X dX8_apart_56 rfl ?_
        obtain ⟨e_57, f_57, h⟩ := zBx h
        refine a_callVu X dX8_apart_57 miX8_putsAside lm8_444 (t_X8_putsAside (by assumption) f_57) (by assumption) rfl rfl rfl (Nat.le_of_ble_eq_true rfl) ⟨by decide, by decide, by decide, by decide⟩ ?_
        refine a_aload_n X dX8_apart_60 rfl ?_
        refine a_iload_n X dX8_apart_61 rfl ?_
        obtain ⟨e_62, f_62, h⟩ := zBx h
        refine a_callVu X dX8_apart_62 miX8_splits lm8_466 (t_X8_splits (by assumption) f_62) (by assumption) rfl rfl rfl (Nat.le_of_ble_eq_true rfl) ⟨by decide, by decide, by decide, by decide⟩ ?_
        refine a_aload_n X dX8_apart_65 rfl ?_
        obtain ⟨e_66, f_66, h⟩ := zBx h
        refine a_callVx X dX8_apart_66 miX8_areMany lm8_429 (t_X8_areMany (by assumption) f_66) (by assumption) rfl rfl rfl (Nat.le_of_ble_eq_true rfl) ⟨by decide, by decide, by decide, by decide⟩ (fun r_66 S_66 q_66 => ?_)
        obtain ⟨rfl, rfl, b_66⟩ := q_66
        refine a_if_ne (tgt := 76) X dX8_apart_69 (by decide) (fun h_69 => ?_) (fun h_69 => ?_)
        · replace h := (if_neg h_69).symm.trans h
          refine a_iconst (v := 0) X dX8_apart_76 (by decide) ?_
          exact Zw.to2 (J_77 _ _ _ _ _ _ _ (by first | exact Or.inl rfl | exact Or.inr rfl | assumption) h) rfl rfl rfl
        · replace h := (if_pos h_69).symm.trans h
          refine a_iconst (v := 1) X dX8_apart_72 (by decide) ?_
          refine a_goto (tgt := 77) X dX8_apart_73 (by decide) ?_
          exact Zw.to2 (J_77 _ _ _ _ _ _ _ (by first | exact Or.inl rfl | exact Or.inr rfl | assumption) h) rfl rfl rfl
      · replace h := (if_neg h_24).symm.trans h
        refine a_iload_n X dX8_apart_27 rfl ?_
        refine a_aload_n X dX8_apart_28 rfl ?_
        refine a_getr X lf8_7 (by assumption) rfl (by omega) dX8_apart_29 ?_
        refine a_bipush (v := 10) X dX8_apart_32 (by decide) ?_
        refine a_iload_n X dX8_apart_34 rfl ?_
        refine a_iadd X dX8_apart_35 ?_
        obtain ⟨g_36, h⟩ := zIx h
        refine a_iaload X (by assumption) g_36 dX8_apart_36 ?_
        refine a_iload_n X dX8_apart_37 rfl ?_
        refine a_icmp_ne (tgt := 47) X dX8_apart_38 (by decide) (fun h_38 => ?_) (fun h_38 => ?_)
        · replace h := (if_neg h_38).symm.trans h
          refine a_iconst (v := 0) X dX8_apart_47 (by decide) ?_
          exact Zw.to2 (J_48 _ _ _ _ _ _ _ _ h) rfl rfl rfl
        · replace h := (if_pos h_38).symm.trans h
          refine a_iconst (v := 1) X dX8_apart_41 (by decide) ?_
          refine a_iload_n X dX8_apart_42 rfl ?_
          refine a_ishl X dX8_apart_43 ?_
          refine a_goto (tgt := 48) X dX8_apart_44 (by decide) ?_
          exact Zw.to2 (J_48 _ _ _ _ _ _ _ _ h) rfl rfl rfl
  have H_19 : ∀ (x1_19 : Int32) (x2_19 : Int32) (x3_19 : Int32) (x4_19 : Option Value) (M_19 : zMt) (N_19 : zNt), D_X8_apart_19 P zFu x1_19 x2_19 x3_19 M_19 N_19 = some r → Zw p l e { frames := 14, cells := 0, slots := 0, locals := 80 * (14) } s m args below meth c G b 5 (MQ below (zQ G b FQ) args s 0 0 (fun q : Nat => b ≤ q)) 0 0 19 [some (.ref (P)), some (.int x1_19), some (.int x2_19), some (.int x3_19), x4_19] [] (L, M_19, N_19) := L_19 zFu
  unfold D_X8_apart at h
  refine a_aload_n X dX8_apart_0 rfl ?_
  refine a_iload_n X dX8_apart_1 rfl ?_
  obtain ⟨e_2, f_2, h⟩ := zBx h
  refine a_callVx X dX8_apart_2 miX8_isParty lm8_463 (t_X8_isParty (by assumption) f_2) (by assumption) rfl rfl rfl (Nat.le_of_ble_eq_true rfl) ⟨by decide, by decide, by decide, by decide⟩ (fun r_2 S_2 q_2 => ?_)
  obtain ⟨rfl, rfl, b_2⟩ := q_2
  refine a_if_ne (tgt := 15) X dX8_apart_5 (by decide) (fun h_5 => ?_) (fun h_5 => ?_)
  · replace h := (if_neg h_5).symm.trans h
    refine a_iconst (v := 0) X dX8_apart_15 (by decide) ?_
    refine a_istore_n X dX8_apart_16 (by decide) ?_
    refine a_iconst (v := 0) X dX8_apart_17 (by decide) ?_
    refine a_istore_n X dX8_apart_18 (by decide) ?_
    exact Zw.to2 (H_19 _ _ _ _ _ _ h) rfl rfl rfl
  · replace h := (if_pos h_5).symm.trans h
    refine a_aload_n X dX8_apart_8 rfl ?_
    refine a_iconst (v := 2) X dX8_apart_9 (by decide) ?_
    obtain ⟨e_10, f_10, h⟩ := zBx h
    refine a_callVv X dX8_apart_10 miX8_refuse lm8_263 (t_X8_refuse (by assumption) f_10) (by assumption) rfl rfl rfl (Nat.le_of_ble_eq_true rfl) ⟨by decide, by decide, by decide, by decide⟩ ?_
    refine a_i2l X dX8_apart_13 ?_
    refine a_lret X hr dX8_apart_14 ⟨by decide, by decide⟩ ?_
    subst hF
    rw [← Option.some.inj h]
    exact ⟨rfl, rfl⟩
