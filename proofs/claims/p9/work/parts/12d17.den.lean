noncomputable def D_X8_next__116 (P : Nat) (k57 : Int32 → Int32 → Int32 → zMt → zNt → Option (Int32 × zMt × zNt)) (x2_116 : Int32) (x3_116 : Int32) (x4_116 : Int32) (M_116 : zMt) (N_116 : zNt) : Option (Int32 × zMt × zNt) :=
  k57 x2_116 x3_116 (x4_116 + 1) M_116 N_116
noncomputable def D_X8_next__57 (P : Nat) : Nat → Int32 → Int32 → Int32 → zMt → zNt → Option (Int32 × zMt × zNt)
  | 0, _, _, _, _, _ => none
  | n + 1, x2_57, x3_57, x4_57, M_57, N_57 =>
    if (M_57 P 33) ≤ x4_57 then
      zB (D_X8_refuse P (5 : Int32) M_57) fun e_124 =>
      some (e_124.1, e_124.2, N_57)
    else
      zI x4_57 10 <|
      zB (D_X8_isWaiting P M_57 (M_57 (P + 18) x4_57.toNatClampNeg) x2_57) fun e_75 =>
      if e_75 = 0 then
        D_X8_next__116 P (D_X8_next__57 P n) x2_57 x3_57 x4_57 M_57 N_57
      else
        zI x4_57 10 <|
        zI x2_57 5 <|
        zB (D_X8_fits P M_57 (M_57 (P + 18) x4_57.toNatClampNeg) x2_57 ((M_57 (P + 21) x2_57.toNatClampNeg) + x3_57)) fun e_98 =>
        if e_98 = 0 then
          D_X8_next__116 P (D_X8_next__57 P n) x2_57 x3_57 x4_57 M_57 N_57
        else
          zI x4_57 10 <|
          zB (D_X8_gives P (M_57 (P + 18) x4_57.toNatClampNeg) M_57) fun e_112 =>
          some (e_112.1, e_112.2, N_57)
noncomputable def D_X8_next__19 (P : Nat) (M_19 : zMt) (N_19 : zNt) : Option (Int32 × zMt × zNt) :=
  zB (D_X8_refuse P (1 : Int32) M_19) fun e_21 =>
  some (e_21.1, e_21.2, N_19)
noncomputable def D_X8_next_ (P : Nat) (v0 : Int32) (v1 : Int32) (v2 : Int32) (M : zMt) (N : zNt) : Option (Int32 × zMt × zNt) :=
  zB (D_X8_isSeed v0) fun e_1 =>
  if e_1 = 0 then
    D_X8_next__19 P M N
  else
    zB (D_X8_isFrom (Int32.toInt64 v2) (0 : Int64) (20 : Int64)) fun e_13 =>
    if e_13 = 0 then
      D_X8_next__19 P M N
    else
      zB (D_X8_isUnit P M v1) fun e_27 =>
      if e_27 = 0 then
        zB (D_X8_refuse P (2 : Int32) M) fun e_35 =>
        some (e_35.1, e_35.2, N)
      else
        zB (D_X8_laysResult P v0 M N) fun e_41 =>
        zI v1 5 <|
        zI v1 5 <|
        zLt (zu e_41.1 (P + 22) v1.toNatClampNeg ((e_41.1 (P + 22) v1.toNatClampNeg) + v2)) fun M_53 =>
        D_X8_next__57 P zFu v1 v2 (0 : Int32) M_53 e_41.2
set_option maxRecDepth 100000 in
set_option maxHeartbeats 4000000 in
theorem t_X8_next_ {l : Launch} {G : zG} {b : Nat} {L : List zC} {M : zMt} {N : zNt} {P : Nat} {v0 : Int32} {v1 : Int32} {v2 : Int32} (hP : LX8 L P) {r : Int32 × zMt × zNt} (h : D_X8_next_ P v0 v1 v2 M N = some r) : zM l G b yX8_next_ cX8_next_ 5 (some .int) 5 0 0 [.ref P, .int v0, .int v1, .int v2] (L, M, N) (fun r2 z => r2 = some (.int r.1) ∧ z = (L, r.2.1, r.2.2)) := by
  refine zM.of miX8_next_ (Nat.le_of_ble_eq_true rfl) ?_
  intro p e s m args below meth c X hr hname
  generalize hF : ((fun r2 z => r2 = some (.int r.1) ∧ z = (L, r.2.1, r.2.2)) : Option Value → zS → Prop) = FQ
  change Zw p l e { frames := 5, cells := 0, slots := 0, locals := 80 * (5) } s m args below meth c G b 5 (MQ below (zQ G b FQ) args s 0 0 (fun q : Nat => b ≤ q)) 0 0 0 [some (.ref P), some (.int v0), some (.int v1), some (.int v2), none] [] (L, M, N)
  obtain ⟨p_lt, p_o, p_s, p_read, p_aside, p_kept, p_guest, p_readGuest, p_tape, p_unitName, p_hunterName, p_partyName, p_bits, p_partyOf, p_choiceAt, p_sizes, p_guestMany, p_pointsOf, p_ticketsOf, p_ord, p_given, p_roundOf, p_tags, p_guestTags, p_places, p_sumAt, p_sumFirst, p_sumRound, p_sumBoth, p_sumTags, p_isEnd, p_newPoints, p_inRow, p_out⟩ := id hP
  have L_57 : ∀ u : Nat, ∀ (x1_57 : Int32) (x2_57 : Int32) (x3_57 : Int32) (x4_57 : Int32) (M_57 : zMt) (N_57 : zNt), D_X8_next__57 P u x2_57 x3_57 x4_57 M_57 N_57 = some r → Zw p l e { frames := 5, cells := 0, slots := 0, locals := 80 * (5) } s m args below meth c G b 5 (MQ below (zQ G b FQ) args s 0 0 (fun q : Nat => b ≤ q)) 0 0 57 [some (.ref (P)), some (.int x1_57), some (.int x2_57), some (.int x3_57), some (.int x4_57)] [] (L, M_57, N_57) := by
    intro u
    induction u with
    | zero => intro x1_57 x2_57 x3_57 x4_57 M_57 N_57 h; cases (show none = some r from h)
    | succ u_57 ih_57 =>
      have J_116 : ∀ (x1_116 : Int32) (x2_116 : Int32) (x3_116 : Int32) (x4_116 : Int32) (M_116 : zMt) (N_116 : zNt), D_X8_next__116 P (D_X8_next__57 P u_57) x2_116 x3_116 x4_116 M_116 N_116 = some r → Zw p l e { frames := 5, cells := 0, slots := 0, locals := 80 * (5) } s m args below meth c G b 5 (MQ below (zQ G b FQ) args s 0 0 (fun q : Nat => b ≤ q)) 0 0 116 [some (.ref (P)), some (.int x1_116), some (.int x2_116), some (.int x3_116), some (.int x4_116)] [] (L, M_116, N_116) := by
        intro x1_116 x2_116 x3_116 x4_116 M_116 N_116 h
        unfold D_X8_next__116 at h
        refine a_iinc (v := x4_116 + 1) X dX8_next__116 (by decide) rfl zi_1 ?_
        refine a_goto (tgt := 57) X dX8_next__119 (by decide) ?_
        exact Zw.to2 (ih_57 _ _ _ _ _ _ h) rfl rfl rfl
      intro x1_57 x2_57 x3_57 x4_57 M_57 N_57 h
      rw [D_X8_next__57] at h
      refine a_iload X dX8_next__57 rfl ?_
      refine a_aload_n X dX8_next__59 rfl ?_
      refine a_geti X lf8_275 (by assumption) rfl dX8_next__60 ?_
      refine a_icmp_ge (tgt := 122) X dX8_next__63 (by decide) (fun h_63 => ?_) (fun h_63 => ?_)
      · replace h := (if_pos h_63).symm.trans h
        refine a_aload_n X dX8_next__122 rfl ?_
        refine a_iconst (v := 5) X dX8_next__123 (by decide) ?_
        obtain ⟨e_124, f_124, h⟩ := zBx h
        refine a_callVv X dX8_next__124 miX8_refuse lm8_263 (t_X8_refuse (by assumption) f_124) (by assumption) rfl rfl rfl (Nat.le_of_ble_eq_true rfl) ⟨by decide, by decide, by decide, by decide⟩ ?_
        refine a_iret X hr dX8_next__127 ⟨by decide, by decide⟩ ?_
        subst hF
        rw [← Option.some.inj h]
        exact ⟨rfl, rfl⟩
      · replace h := (if_neg h_63).symm.trans h
        refine a_aload_n X dX8_next__66 rfl ?_
        refine a_aload_n X dX8_next__67 rfl ?_
        refine a_getr X lf8_70 (by assumption) rfl (by omega) dX8_next__68 ?_
        refine a_iload X dX8_next__71 rfl ?_
        obtain ⟨g_73, h⟩ := zIx h
        refine a_iaload X (by assumption) g_73 dX8_next__73 ?_
        refine a_iload_n X dX8_next__74 rfl ?_
        obtain ⟨e_75, f_75, h⟩ := zBx h
        refine a_callVx X dX8_next__75 miX8_isWaiting lm8_374 (t_X8_isWaiting (by assumption) f_75) (by assumption) rfl rfl rfl (Nat.le_of_ble_eq_true rfl) ⟨by decide, by decide, by decide, by decide⟩ (fun r_75 S_75 q_75 => ?_)
        obtain ⟨rfl, rfl, b_75⟩ := q_75
        refine a_if_eq (tgt := 116) X dX8_next__78 (by decide) (fun h_78 => ?_) (fun h_78 => ?_)
        · replace h := (if_pos h_78).symm.trans h
          exact Zw.to2 (J_116 _ _ _ _ _ _ h) rfl rfl rfl
        · replace h := (if_neg h_78).symm.trans h
          refine a_aload_n X dX8_next__81 rfl ?_
          refine a_aload_n X dX8_next__82 rfl ?_
          refine a_getr X lf8_70 (by assumption) rfl (by omega) dX8_next__83 ?_
          refine a_iload X dX8_next__86 rfl ?_
          obtain ⟨g_88, h⟩ := zIx h
          refine a_iaload X (by assumption) g_88 dX8_next__88 ?_
          refine a_iload_n X dX8_next__89 rfl ?_
          refine a_aload_n X dX8_next__90 rfl ?_
          refine a_getr X lf8_79 (by assumption) rfl (by omega) dX8_next__91 ?_
          refine a_iload_n X dX8_next__94 rfl ?_
          obtain ⟨g_95, h⟩ := zIx h
          refine a_iaload X (by assumption) g_95 dX8_next__95 ?_
          refine a_iload_n X dX8_next__96 rfl ?_
          refine a_iadd X dX8_next__97 ?_
          obtain ⟨e_98, f_98, h⟩ := zBx h
          refine a_callVx X dX8_next__98 miX8_fits lm8_329 (t_X8_fits (by assumption) f_98) (by assumption) rfl rfl rfl (Nat.le_of_ble_eq_true rfl) ⟨by decide, by decide, by decide, by decide⟩ (fun r_98 S_98 q_98 => ?_)
          obtain ⟨rfl, rfl, b_98⟩ := q_98
          refine a_if_eq (tgt := 116) X dX8_next__101 (by decide) (fun h_101 => ?_) (fun h_101 => ?_)
          · replace h := (if_pos h_101).symm.trans h
            exact Zw.to2 (J_116 _ _ _ _ _ _ h) rfl rfl rfl
          · replace h := (if_neg h_101).symm.trans h
            refine a_aload_n X dX8_next__104 rfl ?_
            refine a_aload_n X dX8_next__105 rfl ?_
            refine a_getr X lf8_70 (by assumption) rfl (by omega) dX8_next__106 ?_
            refine a_iload X dX8_next__109 rfl ?_
            obtain ⟨g_111, h⟩ := zIx h
            refine a_iaload X (by assumption) g_111 dX8_next__111 ?_
            obtain ⟨e_112, f_112, h⟩ := zBx h
            refine a_callVv X dX8_next__112 miX8_gives lm8_272 (t_X8_gives (by assumption) f_112) (by assumption) rfl rfl rfl (Nat.le_of_ble_eq_true rfl) ⟨by decide, by decide, by decide, by decide⟩ ?_
            refine a_iret X hr dX8_next__115 ⟨by decide, by decide⟩ ?_
            subst hF
            rw [← Option.some.inj h]
            exact ⟨rfl, rfl⟩
  have H_57 : ∀ (x1_57 : Int32) (x2_57 : Int32) (x3_57 : Int32) (x4_57 : Int32) (M_57 : zMt) (N_57 : zNt), D_X8_next__57 P zFu x2_57 x3_57 x4_57 M_57 N_57 = some r → Zw p l e { frames := 5, cells := 0, slots := 0, locals := 80 * (5) } s m args below meth c G b 5 (MQ below (zQ G b FQ) args s 0 0 (fun q : Nat => b ≤ q)) 0 0 57 [some (.ref (P)), some (.int x1_57), some (.int x2_57), some (.int x3_57), some (.int x4_57)] [] (L, M_57, N_57) := L_57 zFu
  have J_19 : ∀ (x1_19 : Int32) (x2_19 : Int32) (x3_19 : Int32) (x4_19 : Option Value) (M_19 : zMt) (N_19 : zNt), D_X8_next__19 P M_19 N_19 = some r → Zw p l e { frames := 5, cells := 0, slots := 0, locals := 80 * (5) } s m args below meth c G b 5 (MQ below (zQ G b FQ) args s 0 0 (fun q : Nat => b ≤ q)) 0 0 19 [some (.ref (P)), some (.int x1_19), some (.int x2_19), some (.int x3_19), x4_19] [] (L, M_19, N_19) := by
    intro x1_19 x2_19 x3_19 x4_19 M_19 N_19 h
    unfold D_X8_next__19 at h
    refine a_aload_n X dX8_next__19 rfl ?_
    refine a_iconst (v := 1) X dX8_next__20 (by decide) ?_
    obtain ⟨e_21, f_21, h⟩ := zBx h
    refine a_callVv X dX8_next__21 miX8_refuse lm8_263 (t_X8_refuse (by assumption) f_21) (by assumption) rfl rfl rfl (Nat.le_of_ble_eq_true rfl) ⟨by decide, by decide, by decide, by decide⟩ ?_
    refine a_iret X hr dX8_next__24 ⟨by decide, by decide⟩ ?_
    subst hF
    rw [← Option.some.inj h]
    exact ⟨rfl, rfl⟩
  unfold D_X8_next_ at h
  refine a_iload_n X dX8_next__0 rfl ?_
  obtain ⟨e_1, f_1, h⟩ := zBx h
  refine a_callSx X dX8_next__1 miX8_isSeed lm8_358 (t_X8_isSeed f_1) rfl rfl (Nat.le_of_ble_eq_true rfl) ⟨by decide, by decide, by decide, by decide⟩ (fun r_1 S_1 q_1 => ?_)
  obtain ⟨rfl, rfl, b_1⟩ := q_1
  refine a_if_eq (tgt := 19) X dX8_next__4 (by decide) (fun h_4 => ?_) (fun h_4 => ?_)
  · replace h := (if_pos h_4).symm.trans h
    exact Zw.to2 (J_19 _ _ _ _ _ _ h) rfl rfl rfl
  · replace h := (if_neg h_4).symm.trans h
    refine a_iload_n X dX8_next__7 rfl ?_
    refine a_i2l X dX8_next__8 ?_
    refine a_lconst (v := 0) X dX8_next__9 (by decide) ?_
    refine a_ldc2 X dX8_next__10 lk8_377 ?_
    obtain ⟨e_13, f_13, h⟩ := zBx h
    refine a_callSx X dX8_next__13 miX8_isFrom lm8_128 (t_X8_isFrom f_13) rfl rfl (Nat.le_of_ble_eq_true rfl) ⟨by decide, by decide, by decide, by decide⟩ (fun r_13 S_13 q_13 => ?_)
    obtain ⟨rfl, rfl, b_13⟩ := q_13
    refine a_if_ne (tgt := 25) X dX8_next__16 (by decide) (fun h_16 => ?_) (fun h_16 => ?_)
    · replace h := (if_neg h_16).symm.trans h
      refine a_aload_n X dX8_next__25 rfl ?_
      refine a_iload_n X dX8_next__26 rfl ?_
      obtain ⟨e_27, f_27, h⟩ := zBx h
      refine a_callVx X dX8_next__27 miX8_isUnit lm8_301 (t_X8_isUnit (by assumption) f_27) (by assumption) rfl rfl rfl (Nat.le_of_ble_eq_true rfl) ⟨by decide, by decide, by decide, by decide⟩ (fun r_27 S_27 q_27 => ?_)
      obtain ⟨rfl, rfl, b_27⟩ := q_27
      refine a_if_ne (tgt := 39) X dX8_next__30 (by decide) (fun h_30 => ?_) (fun h_30 => ?_)
      · replace h := (if_neg h_30).symm.trans h
        refine a_aload_n X dX8_next__39 rfl ?_
        refine a_iload_n X dX8_next__40 rfl ?_
        obtain ⟨e_41, f_41, h⟩ := zBx h
        refine a_callVu X dX8_next__41 miX8_laysResult lm8_361 (t_X8_laysResult (by assumption) f_41) (by assumption) rfl rfl rfl (Nat.le_of_ble_eq_true rfl) ⟨by decide, by decide, by decide, by decide⟩ ?_
        refine a_aload_n X dX8_next__44 rfl ?_
        refine a_getr X lf8_82 (by assumption) rfl (by omega) dX8_next__45 ?_
        refine a_iload_n X dX8_next__48 rfl ?_
        refine a_dup2 X dX8_next__49 rfl rfl ?_
        obtain ⟨g_50, h⟩ := zIx h
        refine a_iaload X (by assumption) g_50 dX8_next__50 ?_
        refine a_iload_n X dX8_next__51 rfl ?_
        refine a_iadd X dX8_next__52 ?_
        obtain ⟨g_53, h⟩ := zIx h
        obtain ⟨M_53, f_53, h⟩ := zLtx h
        refine d_iastore X (by assumption) g_53 dX8_next__53 f_53 ?_
        refine a_iconst (v := 0) X dX8_next__54 (by decide) ?_
        refine a_istore X dX8_next__55 (by decide) ?_
        exact Zw.to2 (H_57 _ _ _ _ _ _ h) rfl rfl rfl
      · replace h := (if_pos h_30).symm.trans h
        refine a_aload_n X dX8_next__33 rfl ?_
        refine a_iconst (v := 2) X dX8_next__34 (by decide) ?_
        obtain ⟨e_35, f_35, h⟩ := zBx h
        refine a_callVv X dX8_next__35 miX8_refuse lm8_263 (t_X8_refuse (by assumption) f_35) (by assumption) rfl rfl rfl (Nat.le_of_ble_eq_true rfl) ⟨by decide, by decide, by decide, by decide⟩ ?_
        refine a_iret X hr dX8_next__38 ⟨by decide, by decide⟩ ?_
        subst hF
        rw [← Option.some.inj h]
        exact ⟨rfl, rfl⟩
    · replace h := (if_pos h_16).symm.trans h
      exact Zw.to2 (J_19 _ _ _ _ _ _ h) rfl rfl rfl
noncomputable def D_X8_placeNow_29 (P : Nat) (M : zMt) (y0_29 : Int32) : Option (Int32) :=
  some (y0_29)
noncomputable def D_X8_placeNow (P : Nat) (M : zMt) (v0 : Int32) : Option (Int32) :=
  zI v0 10 <|
  if (M (P + 19) v0.toNatClampNeg) = (-1 : Int32) then
    zB (D_X8_choiceMany P M v0) fun e_12 =>
    D_X8_placeNow_29 P M e_12
  else
    zI v0 10 <|
    zB (D_X8_placeOf P M v0 (M (P + 19) v0.toNatClampNeg)) fun e_26 =>
    D_X8_placeNow_29 P M e_26
set_option maxRecDepth 100000 in
set_option maxHeartbeats 4000000 in
theorem t_X8_placeNow {l : Launch} {G : zG} {b : Nat} {L : List zC} {M : zMt} {N : zNt} {P : Nat} {v0 : Int32} (hP : LX8 L P) {r : Int32} (h : D_X8_placeNow P M v0 = some r) : zM l G b yX8_placeNow cX8_placeNow 2 (some .int) 3 0 0 [.ref P, .int v0] (L, M, N) (fun r2 z => r2 = some (.int r) ∧ z = (L, M, N)) := by
  refine zM.of miX8_placeNow (Nat.le_of_ble_eq_true rfl) ?_
  intro p e s m args below meth c X hr hname
  generalize hF : ((fun r2 z => r2 = some (.int r) ∧ z = (L, M, N)) : Option Value → zS → Prop) = FQ
  change Zw p l e { frames := 3, cells := 0, slots := 0, locals := 80 * (3) } s m args below meth c G b 2 (MQ below (zQ G b FQ) args s 0 0 (fun q : Nat => b ≤ q)) 0 0 0 [some (.ref P), some (.int v0)] [] (L, M, N)
  obtain ⟨p_lt, p_o, p_s, p_read, p_aside, p_kept, p_guest, p_readGuest, p_tape, p_unitName, p_hunterName, p_partyName, p_bits, p_partyOf, p_choiceAt, p_sizes, p_guestMany, p_pointsOf, p_ticketsOf, p_ord, p_given, p_roundOf, p_tags, p_guestTags, p_places, p_sumAt, p_sumFirst, p_sumRound, p_sumBoth, p_sumTags, p_isEnd, p_newPoints, p_inRow, p_out⟩ := id hP
  have J_29 : ∀ (x1_29 : Int32) (y0_29 : Int32), D_X8_placeNow_29 P M y0_29 = some r → Zw p l e { frames := 3, cells := 0, slots := 0, locals := 80 * (3) } s m args below meth c G b 2 (MQ below (zQ G b FQ) args s 0 0 (fun q : Nat => b ≤ q)) 0 0 29 [some (.ref (P)), some (.int x1_29)] [.int y0_29] (L, M, N) := by
    intro x1_29 y0_29 h
    unfold D_X8_placeNow_29 at h
    refine a_iret X hr dX8_placeNow_29 ⟨by decide, by decide⟩ ?_
    subst hF
    rw [← Option.some.inj h]
    exact ⟨rfl, rfl⟩
  unfold D_X8_placeNow at h
  refine a_aload_n X dX8_placeNow_0 rfl ?_
  refine a_getr X lf8_73 (by assumption) rfl (by omega) dX8_placeNow_1 ?_
  refine a_iload_n X dX8_placeNow_4 rfl ?_
  obtain ⟨g_5, h⟩ := zIx h
  refine a_iaload X (by assumption) g_5 dX8_placeNow_5 ?_
  refine a_iconst (v := -1) X dX8_placeNow_6 (by decide) ?_
  refine a_icmp_ne (tgt := 18) X dX8_placeNow_7 (by decide) (fun h_7 => ?_) (fun h_7 => ?_)
  · replace h := (if_neg h_7).symm.trans h
    refine a_aload_n X dX8_placeNow_18 rfl ?_
    refine a_iload_n X dX8_placeNow_19 rfl ?_
    refine a_aload_n X dX8_placeNow_20 rfl ?_
    refine a_getr X lf8_73 (by assumption) rfl (by omega) dX8_placeNow_21 ?_
    refine a_iload_n X dX8_placeNow_24 rfl ?_
    obtain ⟨g_25, h⟩ := zIx h
    refine a_iaload X (by assumption) g_25 dX8_placeNow_25 ?_
    obtain ⟨e_26, f_26, h⟩ := zBx h
    refine a_callVv X dX8_placeNow_26 miX8_placeOf lm8_310 (t_X8_placeOf (by assumption) f_26) (by assumption) rfl rfl rfl (Nat.le_of_ble_eq_true rfl) ⟨by decide, by decide, by decide, by decide⟩ ?_
    exact Zw.to2 (J_29 _ _ h) rfl rfl rfl
  · replace h := (if_pos h_7).symm.trans h
    refine a_aload_n X dX8_placeNow_10 rfl ?_
    refine a_iload_n X dX8_placeNow_11 rfl ?_
    obtain ⟨e_12, f_12, h⟩ := zBx h
    refine a_callVv X dX8_placeNow_12 miX8_choiceMany lm8_288 (t_X8_choiceMany (by assumption) f_12) (by assumption) rfl rfl rfl (Nat.le_of_ble_eq_true rfl) ⟨by decide, by decide, by decide, by decide⟩ ?_
    refine a_goto (tgt := 29) X dX8_placeNow_15 (by decide) ?_
    exact Zw.to2 (J_29 _ _ h) rfl rfl rfl
noncomputable def D_X8_envies_117 (P : Nat) (k37 : Int32 → Int32 → Int32 → zMt → zNt → Option (Int32 × zMt × zNt)) (x2_117 : Int32) (x3_117 : Int32) (x4_117 : Int32) (M_117 : zMt) (N_117 : zNt) : Option (Int32 × zMt × zNt) :=
  k37 x2_117 x3_117 (x4_117 + 1) M_117 N_117
noncomputable def D_X8_envies_115 (P : Nat) (k37 : Int32 → Int32 → Int32 → zMt → zNt → Option (Int32 × zMt × zNt)) (x2_115 : Int32) (x4_115 : Int32) (y0_115 : Int32) (y1_115 : Int32) (M_115 : zMt) (N_115 : zNt) : Option (Int32 × zMt × zNt) :=
  D_X8_envies_117 P k37 x2_115 (y0_115 ||| y1_115) x4_115 M_115 N_115
noncomputable def D_X8_envies_114 (P : Nat) (k37 : Int32 → Int32 → Int32 → zMt → zNt → Option (Int32 × zMt × zNt)) (x2_114 : Int32) (x4_114 : Int32) (y0_114 : Int32) (M_114 : zMt) (N_114 : zNt) : Option (Int32 × zMt × zNt) :=
  D_X8_envies_115 P k37 x2_114 x4_114 y0_114 (0 : Int32) M_114 N_114
noncomputable def D_X8_envies_37 (P : Nat) : Nat → Int32 → Int32 → Int32 → zMt → zNt → Option (Int32 × zMt × zNt)
  | 0, _, _, _, _, _ => none
  | n + 1, x2_37, x3_37, x4_37, M_37, N_37 =>
    if (M_37 P 33) ≤ x4_37 then
      zB (D_X8_gives P x3_37 M_37) fun e_125 =>
      some (e_125.1, e_125.2, N_37)
    else
      zI x4_37 10 <|
      if (M_37 (P + 19) x4_37.toNatClampNeg) = (-1 : Int32) then
        D_X8_envies_117 P (D_X8_envies_37 P n) x2_37 x3_37 x4_37 M_37 N_37
      else
        zI x4_37 10 <|
        zI x2_37 10 <|
        if (M_37 (P + 16) x4_37.toNatClampNeg) < (M_37 (P + 16) x2_37.toNatClampNeg) then
          zI x4_37 10 <|
          zB (D_X8_placeOf P M_37 x2_37 (M_37 (P + 19) x4_37.toNatClampNeg)) fun e_85 =>
          if e_85 = (-1 : Int32) then
            D_X8_envies_114 P (D_X8_envies_37 P n) x2_37 x4_37 x3_37 M_37 N_37
          else
            zB (D_X8_placeNow P M_37 x2_37) fun e_101 =>
            if e_101 ≤ e_85 then
              D_X8_envies_114 P (D_X8_envies_37 P n) x2_37 x4_37 x3_37 M_37 N_37
            else
              D_X8_envies_115 P (D_X8_envies_37 P n) x2_37 x4_37 x3_37 ((1 : Int32) <<< (x4_37 &&& 31)) M_37 N_37
        else
          D_X8_envies_117 P (D_X8_envies_37 P n) x2_37 x3_37 x4_37 M_37 N_37
noncomputable def D_X8_envies (P : Nat) (v0 : Int32) (v1 : Int32) (M : zMt) (N : zNt) : Option (Int32 × zMt × zNt) :=
  zB (D_X8_isSeed v0) fun e_1 =>
  if e_1 = 0 then
    zB (D_X8_refuse P (1 : Int32) M) fun e_9 =>
    some (e_9.1, e_9.2, N)
  else
    zB (D_X8_isApplicant P v1 M) fun e_15 =>
    if e_15.1 = 0 then
      zB (D_X8_refuse P (2 : Int32) e_15.2) fun e_23 =>
      some (e_23.1, e_23.2, N)
    else
      zB (D_X8_laysResult P v0 e_15.2 N) fun e_29 =>
      D_X8_envies_37 P zFu v1 (0 : Int32) (0 : Int32) e_29.1 e_29.2
set_option maxRecDepth 100000 in
set_option maxHeartbeats 4000000 in
theorem t_X8_envies {l : Launch} {G : zG} {b : Nat} {L : List zC} {M : zMt} {N : zNt} {P : Nat} {v0 : Int32} {v1 : Int32} (hP : LX8 L P) {r : Int32 × zMt × zNt} (h : D_X8_envies P v0 v1 M N = some r) : zM l G b yX8_envies cX8_envies 6 (some .int) 5 0 0 [.ref P, .int v0, .int v1] (L, M, N) (fun r2 z => r2 = some (.int r.1) ∧ z = (L, r.2.1, r.2.2)) := by
  refine zM.of miX8_envies (Nat.le_of_ble_eq_true rfl) ?_
  intro p e s m args below meth c X hr hname
  generalize hF : ((fun r2 z => r2 = some (.int r.1) ∧ z = (L, r.2.1, r.2.2)) : Option Value → zS → Prop) = FQ
  change Zw p l e { frames := 5, cells := 0, slots := 0, locals := 80 * (5) } s m args below meth c G b 6 (MQ below (zQ G b FQ) args s 0 0 (fun q : Nat => b ≤ q)) 0 0 0 [some (.ref P), some (.int v0), some (.int v1), none, none, none] [] (L, M, N)
  obtain ⟨p_lt, p_o, p_s, p_read, p_aside, p_kept, p_guest, p_readGuest, p_tape, p_unitName, p_hunterName, p_partyName, p_bits, p_partyOf, p_choiceAt, p_sizes, p_guestMany, p_pointsOf, p_ticketsOf, p_ord, p_given, p_roundOf, p_tags, p_guestTags, p_places, p_sumAt, p_sumFirst, p_sumRound, p_sumBoth, p_sumTags, p_isEnd, p_newPoints, p_inRow, p_out⟩ := id hP
  have L_37 : ∀ u : Nat, ∀ (x1_37 : Int32) (x2_37 : Int32) (x3_37 : Int32) (x4_37 : Int32) (x5_37 : Option Value) (M_37 : zMt) (N_37 : zNt), D_X8_envies_37 P u x2_37 x3_37 x4_37 M_37 N_37 = some r → Zw p l e { frames := 5, cells := 0, slots := 0, locals := 80 * (5) } s m args below meth c G b 6 (MQ below (zQ G b FQ) args s 0 0 (fun q : Nat => b ≤ q)) 0 0 37 [some (.ref (P)), some (.int x1_37), some (.int x2_37), some (.int x3_37), some (.int x4_37), x5_37] [] (L, M_37, N_37) := by
    intro u
    induction u with
    | zero => intro x1_37 x2_37 x3_37 x4_37 x5_37 M_37 N_37 h; cases (show none = some r from h)
    | succ u_37 ih_37 =>
      have J_117 : ∀ (x1_117 : Int32) (x2_117 : Int32) (x3_117 : Int32) (x4_117 : Int32) (x5_117 : Option Value) (M_117 : zMt) (N_117 : zNt), D_X8_envies_117 P (D_X8_envies_37 P u_37) x2_117 x3_117 x4_117 M_117 N_117 = some r → Zw p l e { frames := 5, cells := 0, slots := 0, locals := 80 * (5) } s m args below meth c G b 6 (MQ below (zQ G b FQ) args s 0 0 (fun q : Nat => b ≤ q)) 0 0 117 [some (.ref (P)), some (.int x1_117), some (.int x2_117), some (.int x3_117), some (.int x4_117), x5_117] [] (L, M_117, N_117) := by
        intro x1_117 x2_117 x3_117 x4_117 x5_117 M_117 N_117 h
        unfold D_X8_envies_117 at h
        refine a_iinc (v := x4_117 + 1) X dX8_envies_117 (by decide) rfl zi_1 ?_
        refine a_goto (tgt := 37) X dX8_envies_120 (by decide) ?_
        exact Zw.to2 (ih_37 _ _ _ _ _ _ _ h) rfl rfl rfl
      have J_115 : ∀ (x1_115 : Int32) (x2_115 : Int32) (x3_115 : Int32) (x4_115 : Int32) (x5_115 : Int32) (y0_115 : Int32) (y1_115 : Int32) (M_115 : zMt) (N_115 : zNt), D_X8_envies_115 P (D_X8_envies_37 P u_37) x2_115 x4_115 y0_115 y1_115 M_115 N_115 = some r → Zw p l e { frames := 5, cells := 0, slots := 0, locals := 80 * (5) } s m args below meth c G b 6 (MQ below (zQ G b FQ) args s 0 0 (fun q : Nat => b ≤ q)) 0 0 115 [some (.ref (P)), some (.int x1_115), some (.int x2_115), some (.int x3_115), some (.int x4_115), some (.int x5_115)] [.int y1_115, .int y0_115] (L, M_115, N_115) := by
        intro x1_115 x2_115 x3_115 x4_115 x5_115 y0_115 y1_115 M_115 N_115 h
        unfold D_X8_envies_115 at h
        refine a_ior X dX8_envies_115 ?_
        refine a_istore_n X dX8_envies_116 (by decide) ?_
        exact Zw.to2 (J_117 _ _ _ _ _ _ _ h) rfl rfl rfl
      have J_114 : ∀ (x1_114 : Int32) (x2_114 : Int32) (x3_114 : Int32) (x4_114 : Int32) (x5_114 : Int32) (y0_114 : Int32) (M_114 : zMt) (N_114 : zNt), D_X8_envies_114 P (D_X8_envies_37 P u_37) x2_114 x4_114 y0_114 M_114 N_114 = some r → Zw p l e { frames := 5, cells := 0, slots := 0, locals := 80 * (5) } s m args below meth c G b 6 (MQ below (zQ G b FQ) args s 0 0 (fun q : Nat => b ≤ q)) 0 0 114 [some (.ref (P)), some (.int x1_114), some (.int x2_114), some (.int x3_114), some (.int x4_114), some (.int x5_114)] [.int y0_114] (L, M_114, N_114) := by
        intro x1_114 x2_114 x3_114 x4_114 x5_114 y0_114 M_114 N_114 h
        unfold D_X8_envies_114 at h
        refine a_iconst (v := 0) X dX8_envies_114 (by decide) ?_
        exact Zw.to2 (J_115 _ _ _ _ _ _ _ _ _ h) rfl rfl rfl
      intro x1_37 x2_37 x3_37 x4_37 x5_37 M_37 N_37 h
      rw [D_X8_envies_37] at h
      refine a_iload X dX8_envies_37 rfl ?_
      refine a_aload_n X dX8_envies_39 rfl ?_
      refine a_geti X lf8_275 (by assumption) rfl dX8_envies_40 ?_
      refine a_icmp_ge (tgt := 123) X dX8_envies_43 (by decide) (fun h_43 => ?_) (fun h_43 => ?_)
      · replace h := (if_pos h_43).symm.trans h
        refine a_aload_n X dX8_envies_123 rfl ?_
        refine a_iload_n X dX8_envies_124 rfl ?_
        obtain ⟨e_125, f_125, h⟩ := zBx h
        refine a_callVv X dX8_envies_125 miX8_gives lm8_272 (t_X8_gives (by assumption) f_125) (by assumption) rfl rfl rfl (Nat.le_of_ble_eq_true rfl) ⟨by decide, by decide, by decide, by decide⟩ ?_
        refine a_iret X hr dX8_envies_128 ⟨by decide, by decide⟩ ?_
        subst hF
        rw [← Option.some.inj h]
        exact ⟨rfl, rfl⟩
      · replace h := (if_neg h_43).symm.trans h
        refine a_aload_n X dX8_envies_46 rfl ?_
        refine a_getr X lf8_73 (by assumption) rfl (by omega) dX8_envies_47 ?_
        refine a_iload X dX8_envies_50 rfl ?_
        obtain ⟨g_52, h⟩ := zIx h
        refine a_iaload X (by assumption) g_52 dX8_envies_52 ?_
        refine a_iconst (v := -1) X dX8_envies_53 (by decide) ?_
        refine a_icmp_eq (tgt := 117) X dX8_envies_54 (by decide) (fun h_54 => ?_) (fun h_54 => ?_)
        · replace h := (if_pos h_54).symm.trans h
          exact Zw.to2 (J_117 _ _ _ _ _ _ _ h) rfl rfl rfl
        · replace h := (if_neg h_54).symm.trans h
          refine a_aload_n X dX8_envies_57 rfl ?_
          refine a_getr X lf8_64 (by assumption) rfl (by omega) dX8_envies_58 ?_
          refine a_iload X dX8_envies_61 rfl ?_
          obtain ⟨g_63, h⟩ := zIx h
          refine a_iaload X (by assumption) g_63 dX8_envies_63 ?_
          refine a_aload_n X dX8_envies_64 rfl ?_
          refine a_getr X lf8_64 (by assumption) rfl (by omega) dX8_envies_65 ?_
          refine a_iload_n X dX8_envies_68 rfl ?_
          obtain ⟨g_69, h⟩ := zIx h
          refine a_iaload X (by assumption) g_69 dX8_envies_69 ?_
          refine a_icmp_lt (tgt := 76) X dX8_envies_70 (by decide) (fun h_70 => ?_) (fun h_70 => ?_)
          · replace h := (if_pos h_70).symm.trans h
            refine a_aload_n X dX8_envies_76 rfl ?_
            refine a_iload_n X dX8_envies_77 rfl ?_
            refine a_aload_n X dX8_envies_78 rfl ?_
            refine a_getr X lf8_73 (by assumption) rfl (by omega) dX8_envies_79 ?_
            refine a_iload X dX8_envies_82 rfl ?_
            obtain ⟨g_84, h⟩ := zIx h
            refine a_iaload X (by assumption) g_84 dX8_envies_84 ?_
            obtain ⟨e_85, f_85, h⟩ := zBx h
            refine a_callVv X dX8_envies_85 miX8_placeOf lm8_310 (t_X8_placeOf (by assumption) f_85) (by assumption) rfl rfl rfl (Nat.le_of_ble_eq_true rfl) ⟨by decide, by decide, by decide, by decide⟩ ?_
            refine a_istore X dX8_envies_88 (by decide) ?_
            refine a_iload_n X dX8_envies_90 rfl ?_
            refine a_iload X dX8_envies_91 rfl ?_
            refine a_iconst (v := -1) X dX8_envies_93 (by decide) ?_
            refine a_icmp_eq (tgt := 114) X dX8_envies_94 (by decide) (fun h_94 => ?_) (fun h_94 => ?_)
            · replace h := (if_pos h_94).symm.trans h
              exact Zw.to2 (J_114 _ _ _ _ _ _ _ _ h) rfl rfl rfl
            · replace h := (if_neg h_94).symm.trans h
              refine a_iload X dX8_envies_97 rfl ?_
              refine a_aload_n X dX8_envies_99 rfl ?_
              refine a_iload_n X dX8_envies_100 rfl ?_
              obtain ⟨e_101, f_101, h⟩ := zBx h
              refine a_callVv X dX8_envies_101 miX8_placeNow lm8_379 (t_X8_placeNow (by assumption) f_101) (by assumption) rfl rfl rfl (Nat.le_of_ble_eq_true rfl) ⟨by decide, by decide, by decide, by decide⟩ ?_
              refine a_icmp_ge (tgt := 114) X dX8_envies_104 (by decide) (fun h_104 => ?_) (fun h_104 => ?_)
              · replace h := (if_pos h_104).symm.trans h
                exact Zw.to2 (J_114 _ _ _ _ _ _ _ _ h) rfl rfl rfl
              · replace h := (if_neg h_104).symm.trans h
                refine a_iconst (v := 1) X dX8_envies_107 (by decide) ?_
                refine a_iload X dX8_envies_108 rfl ?_
                refine a_ishl X dX8_envies_110 ?_
                refine a_goto (tgt := 115) X dX8_envies_111 (by decide) ?_
                exact Zw.to2 (J_115 _ _ _ _ _ _ _ _ _ h) rfl rfl rfl
          · replace h := (if_neg h_70).symm.trans h
            refine a_goto (tgt := 117) X dX8_envies_73 (by decide) ?_
            exact Zw.to2 (J_117 _ _ _ _ _ _ _ h) rfl rfl rfl
  have H_37 : ∀ (x1_37 : Int32) (x2_37 : Int32) (x3_37 : Int32) (x4_37 : Int32) (x5_37 : Option Value) (M_37 : zMt) (N_37 : zNt), D_X8_envies_37 P zFu x2_37 x3_37 x4_37 M_37 N_37 = some r → Zw p l e { frames := 5, cells := 0, slots := 0, locals := 80 * (5) } s m args below meth c G b 6 (MQ below (zQ G b FQ) args s 0 0 (fun q : Nat => b ≤ q)) 0 0 37 [some (.ref (P)), some (.int x1_37), some (.int x2_37), some (.int x3_37), some (.int x4_37), x5_37] [] (L, M_37, N_37) := L_37 zFu
  unfold D_X8_envies at h
  refine a_iload_n X dX8_envies_0 rfl ?_
  obtain ⟨e_1, f_1, h⟩ := zBx h
  refine a_callSx X dX8_envies_1 miX8_isSeed lm8_358 (t_X8_isSeed f_1) rfl rfl (Nat.le_of_ble_eq_true rfl) ⟨by decide, by decide, by decide, by decide⟩ (fun r_1 S_1 q_1 => ?_)
  obtain ⟨rfl, rfl, b_1⟩ := q_1
  refine a_if_ne (tgt := 13) X dX8_envies_4 (by decide) (fun h_4 => ?_) (fun h_4 => ?_)
  · replace h := (if_neg h_4).symm.trans h
    refine a_aload_n X dX8_envies_13 rfl ?_
    refine a_iload_n X dX8_envies_14 rfl ?_
    obtain ⟨e_15, f_15, h⟩ := zBx h
    refine a_callVx X dX8_envies_15 miX8_isApplicant lm8_315 (t_X8_isApplicant (by assumption) f_15) (by assumption) rfl rfl rfl (Nat.le_of_ble_eq_true rfl) ⟨by decide, by decide, by decide, by decide⟩ (fun r_15 S_15 q_15 => ?_)
    obtain ⟨rfl, rfl, b_15⟩ := q_15
    refine a_if_ne (tgt := 27) X dX8_envies_18 (by decide) (fun h_18 => ?_) (fun h_18 => ?_)
    · replace h := (if_neg h_18).symm.trans h
      refine a_aload_n X dX8_envies_27 rfl ?_
      refine a_iload_n X dX8_envies_28 rfl ?_
      obtain ⟨e_29, f_29, h⟩ := zBx h
      refine a_callVu X dX8_envies_29 miX8_laysResult lm8_361 (t_X8_laysResult (by assumption) f_29) (by assumption) rfl rfl rfl (Nat.le_of_ble_eq_true rfl) ⟨by decide, by decide, by decide, by decide⟩ ?_
      refine a_iconst (v := 0) X dX8_envies_32 (by decide) ?_
      refine a_istore_n X dX8_envies_33 (by decide) ?_
      refine a_iconst (v := 0) X dX8_envies_34 (by decide) ?_
      refine a_istore X dX8_envies_35 (by decide) ?_
      exact Zw.to2 (H_37 _ _ _ _ _ _ _ h) rfl rfl rfl
    · replace h := (if_pos h_18).symm.trans h
      refine a_aload_n X dX8_envies_21 rfl ?_
      refine a_iconst (v := 2) X dX8_envies_22 (by decide) ?_
      obtain ⟨e_23, f_23, h⟩ := zBx h
      refine a_callVv X dX8_envies_23 miX8_refuse lm8_263 (t_X8_refuse (by assumption) f_23) (by assumption) rfl rfl rfl (Nat.le_of_ble_eq_true rfl) ⟨by decide, by decide, by decide, by decide⟩ ?_
      refine a_iret X hr dX8_envies_26 ⟨by decide, by decide⟩ ?_
      subst hF
      rw [← Option.some.inj h]
      exact ⟨rfl, rfl⟩
  · replace h := (if_pos h_4).symm.trans h
    refine a_aload_n X dX8_envies_7 rfl ?_
    refine a_iconst (v := 1) X dX8_envies_8 (by decide) ?_
    obtain ⟨e_9, f_9, h⟩ := zBx h
    refine a_callVv X dX8_envies_9 miX8_refuse lm8_263 (t_X8_refuse (by assumption) f_9) (by assumption) rfl rfl rfl (Nat.le_of_ble_eq_true rfl) ⟨by decide, by decide, by decide, by decide⟩ ?_
    refine a_iret X hr dX8_envies_12 ⟨by decide, by decide⟩ ?_
    subst hF
    rw [← Option.some.inj h]
    exact ⟨rfl, rfl⟩
noncomputable def D_X8_spoils_109 (P : Nat) (k69 : Int32 → Int32 → Int32 → zMt → zNt → Option (Int32 × zMt × zNt)) (x2_109 : Int32) (x4_109 : Int32) (y0_109 : Int32) (y1_109 : Int32) (M_109 : zMt) (N_109 : zNt) : Option (Int32 × zMt × zNt) :=
  k69 x2_109 (y0_109 ||| y1_109) (x4_109 + 1) M_109 N_109
noncomputable def D_X8_spoils_108 (P : Nat) (k69 : Int32 → Int32 → Int32 → zMt → zNt → Option (Int32 × zMt × zNt)) (x2_108 : Int32) (x4_108 : Int32) (y0_108 : Int32) (M_108 : zMt) (N_108 : zNt) : Option (Int32 × zMt × zNt) :=
  D_X8_spoils_109 P k69 x2_108 x4_108 y0_108 (0 : Int32) M_108 N_108
noncomputable def D_X8_spoils_69 (P : Nat) : Nat → Int32 → Int32 → Int32 → zMt → zNt → Option (Int32 × zMt × zNt)
  | 0, _, _, _, _, _ => none
  | n + 1, x2_69, x3_69, x4_69, M_69, N_69 =>
    if (M_69 P 33) ≤ x4_69 then
      zB (D_X8_gives P x3_69 M_69) fun e_119 =>
      some (e_119.1, e_119.2, N_69)
    else
      if x4_69 = x2_69 then
        D_X8_spoils_108 P (D_X8_spoils_69 P n) x2_69 x4_69 x3_69 M_69 N_69
      else
        zB (D_X8_placeNow P M_69 x4_69) fun e_88 =>
        zI x4_69 10 <|
        if (M_69 (P + 23) x4_69.toNatClampNeg) ≤ e_88 then
          D_X8_spoils_108 P (D_X8_spoils_69 P n) x2_69 x4_69 x3_69 M_69 N_69
        else
          D_X8_spoils_109 P (D_X8_spoils_69 P n) x2_69 x4_69 x3_69 ((1 : Int32) <<< (x4_69 &&& 31)) M_69 N_69
noncomputable def D_X8_spoils_34 (P : Nat) : Nat → Int32 → Int32 → zMt → zNt → Option (Int32 × zMt × zNt)
  | 0, _, _, _, _ => none
  | n + 1, x2_34, x3_34, M_34, N_34 =>
    if (M_34 P 33) ≤ x3_34 then
      zB (D_X8_results P x2_34 M_34) fun e_61 =>
      D_X8_spoils_69 P zFu x2_34 (0 : Int32) (0 : Int32) e_61 N_34
    else
      zB (D_X8_placeNow P M_34 x3_34) fun e_49 =>
      zI x3_34 10 <|
      zLt (zu M_34 (P + 23) x3_34.toNatClampNeg e_49) fun M_52 =>
      (D_X8_spoils_34 P n) x2_34 (x3_34 + 1) M_52 N_34
noncomputable def D_X8_spoils (P : Nat) (v0 : Int32) (v1 : Int32) (M : zMt) (N : zNt) : Option (Int32 × zMt × zNt) :=
  zB (D_X8_isSeed v0) fun e_1 =>
  if e_1 = 0 then
    zB (D_X8_refuse P (1 : Int32) M) fun e_9 =>
    some (e_9.1, e_9.2, N)
  else
    zB (D_X8_isApplicant P v1 M) fun e_15 =>
    if e_15.1 = 0 then
      zB (D_X8_refuse P (2 : Int32) e_15.2) fun e_23 =>
      some (e_23.1, e_23.2, N)
    else
      zB (D_X8_laysResult P v0 e_15.2 N) fun e_29 =>
      D_X8_spoils_34 P zFu v1 (0 : Int32) e_29.1 e_29.2
set_option maxRecDepth 100000 in
set_option maxHeartbeats 4000000 in
theorem t_X8_spoils {l : Launch} {G : zG} {b : Nat} {L : List zC} {M : zMt} {N : zNt} {P : Nat} {v0 : Int32} {v1 : Int32} (hP : LX8 L P) {r : Int32 × zMt × zNt} (h : D_X8_spoils P v0 v1 M N = some r) : zM l G b yX8_spoils cX8_spoils 5 (some .int) 5 0 0 [.ref P, .int v0, .int v1] (L, M, N) (fun r2 z => r2 = some (.int r.1) ∧ z = (L, r.2.1, r.2.2)) := by
  refine zM.of miX8_spoils (Nat.le_of_ble_eq_true rfl) ?_
  intro p e s m args below meth c X hr hname
  generalize hF : ((fun r2 z => r2 = some (.int r.1) ∧ z = (L, r.2.1, r.2.2)) : Option Value → zS → Prop) = FQ
  change Zw p l e { frames := 5, cells := 0, slots := 0, locals := 80 * (5) } s m args below meth c G b 5 (MQ below (zQ G b FQ) args s 0 0 (fun q : Nat => b ≤ q)) 0 0 0 [some (.ref P), some (.int v0), some (.int v1), none, none] [] (L, M, N)
  obtain ⟨p_lt, p_o, p_s, p_read, p_aside, p_kept, p_guest, p_readGuest, p_tape, p_unitName, p_hunterName, p_partyName, p_bits, p_partyOf, p_choiceAt, p_sizes, p_guestMany, p_pointsOf, p_ticketsOf, p_ord, p_given, p_roundOf, p_tags, p_guestTags, p_places, p_sumAt, p_sumFirst, p_sumRound, p_sumBoth, p_sumTags, p_isEnd, p_newPoints, p_inRow, p_out⟩ := id hP
  have L_69 : ∀ u : Nat, ∀ (x1_69 : Int32) (x2_69 : Int32) (x3_69 : Int32) (x4_69 : Int32) (M_69 : zMt) (N_69 : zNt), D_X8_spoils_69 P u x2_69 x3_69 x4_69 M_69 N_69 = some r → Zw p l e { frames := 5, cells := 0, slots := 0, locals := 80 * (5) } s m args below meth c G b 5 (MQ below (zQ G b FQ) args s 0 0 (fun q : Nat => b ≤ q)) 0 0 69 [some (.ref (P)), some (.int x1_69), some (.int x2_69), some (.int x3_69), some (.int x4_69)] [] (L, M_69, N_69) := by
    intro u
    induction u with
    | zero => intro x1_69 x2_69 x3_69 x4_69 M_69 N_69 h; cases (show none = some r from h)
    | succ u_69 ih_69 =>
      have J_109 : ∀ (x1_109 : Int32) (x2_109 : Int32) (x3_109 : Int32) (x4_109 : Int32) (y0_109 : Int32) (y1_109 : Int32) (M_109 : zMt) (N_109 : zNt), D_X8_spoils_109 P (D_X8_spoils_69 P u_69) x2_109 x4_109 y0_109 y1_109 M_109 N_109 = some r → Zw p l e { frames := 5, cells := 0, slots := 0, locals := 80 * (5) } s m args below meth c G b 5 (MQ below (zQ G b FQ) args s 0 0 (fun q : Nat => b ≤ q)) 0 0 109 [some (.ref (P)), some (.int x1_109), some (.int x2_109), some (.int x3_109), some (.int x4_109)] [.int y1_109, .int y0_109] (L, M_109, N_109) := by
        intro x1_109 x2_109 x3_109 x4_109 y0_109 y1_109 M_109 N_109 h
        unfold D_X8_spoils_109 at h
        refine a_ior X dX8_spoils_109 ?_
        refine a_istore_n X dX8_spoils_110 (by decide) ?_
        refine a_iinc (v := x4_109 + 1) X dX8_spoils_111 (by decide) rfl zi_1 ?_
        refine a_goto (tgt := 69) X dX8_spoils_114 (by decide) ?_
        exact Zw.to2 (ih_69 _ _ _ _ _ _ h) rfl rfl rfl
      have J_108 : ∀ (x1_108 : Int32) (x2_108 : Int32) (x3_108 : Int32) (x4_108 : Int32) (y0_108 : Int32) (M_108 : zMt) (N_108 : zNt), D_X8_spoils_108 P (D_X8_spoils_69 P u_69) x2_108 x4_108 y0_108 M_108 N_108 = some r → Zw p l e { frames := 5, cells := 0, slots := 0, locals := 80 * (5) } s m args below meth c G b 5 (MQ below (zQ G b FQ) args s 0 0 (fun q : Nat => b ≤ q)) 0 0 108 [some (.ref (P)), some (.int x1_108), some (.int x2_108), some (.int x3_108), some (.int x4_108)] [.int y0_108] (L, M_108, N_108) := by
        intro x1_108 x2_108 x3_108 x4_108 y0_108 M_108 N_108 h
        unfold D_X8_spoils_108 at h
        refine a_iconst (v := 0) X dX8_spoils_108 (by decide) ?_
        exact Zw.to2 (J_109 _ _ _ _ _ _ _ _ h) rfl rfl rfl
      intro x1_69 x2_69 x3_69 x4_69 M_69 N_69 h
      rw [D_X8_spoils_69] at h
      refine a_iload X dX8_spoils_69 rfl ?_
      refine a_aload_n X dX8_spoils_71 rfl ?_
      refine a_geti X lf8_275 (by assumption) rfl dX8_spoils_72 ?_
      refine a_icmp_ge (tgt := 117) X dX8_spoils_75 (by decide) (fun h_75 => ?_) (fun h_75 => ?_)
      · replace h := (if_pos h_75).symm.trans h
        refine a_aload_n X dX8_spoils_117 rfl ?_
        refine a_iload_n X dX8_spoils_118 rfl ?_
        obtain ⟨e_119, f_119, h⟩ := zBx h
        refine a_callVv X dX8_spoils_119 miX8_gives lm8_272 (t_X8_gives (by assumption) f_119) (by assumption) rfl rfl rfl (Nat.le_of_ble_eq_true rfl) ⟨by decide, by decide, by decide, by decide⟩ ?_
        refine a_iret X hr dX8_spoils_122 ⟨by decide, by decide⟩ ?_
        subst hF
        rw [← Option.some.inj h]
        exact ⟨rfl, rfl⟩
      · replace h := (if_neg h_75).symm.trans h
        refine a_iload_n X dX8_spoils_78 rfl ?_
        refine a_iload X dX8_spoils_79 rfl ?_
        refine a_iload_n X dX8_spoils_81 rfl ?_
        refine a_icmp_eq (tgt := 108) X dX8_spoils_82 (by decide) (fun h_82 => ?_) (fun h_82 => ?_)
        · replace h := (if_pos h_82).symm.trans h
          exact Zw.to2 (J_108 _ _ _ _ _ _ _ h) rfl rfl rfl
        · replace h := (if_neg h_82).symm.trans h
          refine a_aload_n X dX8_spoils_85 rfl ?_
          refine a_iload X dX8_spoils_86 rfl ?_
          obtain ⟨e_88, f_88, h⟩ := zBx h
          refine a_callVv X dX8_spoils_88 miX8_placeNow lm8_379 (t_X8_placeNow (by assumption) f_88) (by assumption) rfl rfl rfl (Nat.le_of_ble_eq_true rfl) ⟨by decide, by decide, by decide, by decide⟩ ?_
          refine a_aload_n X dX8_spoils_91 rfl ?_
          refine a_getr X lf8_85 (by assumption) rfl (by omega) dX8_spoils_92 ?_
          refine a_iload X dX8_spoils_95 rfl ?_
          obtain ⟨g_97, h⟩ := zIx h
          refine a_iaload X (by assumption) g_97 dX8_spoils_97 ?_
          refine a_icmp_ge (tgt := 108) X dX8_spoils_98 (by decide) (fun h_98 => ?_) (fun h_98 => ?_)
          · replace h := (if_pos h_98).symm.trans h
            exact Zw.to2 (J_108 _ _ _ _ _ _ _ h) rfl rfl rfl
          · replace h := (if_neg h_98).symm.trans h
            refine a_iconst (v := 1) X dX8_spoils_101 (by decide) ?_
            refine a_iload X dX8_spoils_102 rfl ?_
            refine a_ishl X dX8_spoils_104 ?_
            refine a_goto (tgt := 109) X dX8_spoils_105 (by decide) ?_
            exact Zw.to2 (J_109 _ _ _ _ _ _ _ _ h) rfl rfl rfl
  have H_69 : ∀ (x1_69 : Int32) (x2_69 : Int32) (x3_69 : Int32) (x4_69 : Int32) (M_69 : zMt) (N_69 : zNt), D_X8_spoils_69 P zFu x2_69 x3_69 x4_69 M_69 N_69 = some r → Zw p l e { frames := 5, cells := 0, slots := 0, locals := 80 * (5) } s m args below meth c G b 5 (MQ below (zQ G b FQ) args s 0 0 (fun q : Nat => b ≤ q)) 0 0 69 [some (.ref (P)), some (.int x1_69), some (.int x2_69), some (.int x3_69), some (.int x4_69)] [] (L, M_69, N_69) := L_69 zFu
  have L_34 : ∀ u : Nat, ∀ (x1_34 : Int32) (x2_34 : Int32) (x3_34 : Int32) (x4_34 : Option Value) (M_34 : zMt) (N_34 : zNt), D_X8_spoils_34 P u x2_34 x3_34 M_34 N_34 = some r → Zw p l e { frames := 5, cells := 0, slots := 0, locals := 80 * (5) } s m args below meth c G b 5 (MQ below (zQ G b FQ) args s 0 0 (fun q : Nat => b ≤ q)) 0 0 34 [some (.ref (P)), some (.int x1_34), some (.int x2_34), some (.int x3_34), x4_34] [] (L, M_34, N_34) := by
    intro u
    induction u with
    | zero => intro x1_34 x2_34 x3_34 x4_34 M_34 N_34 h; cases (show none = some r from h)
    | succ u_34 ih_34 =>
      intro x1_34 x2_34 x3_34 x4_34 M_34 N_34 h
      rw [D_X8_spoils_34] at h
      refine a_iload_n X dX8_spoils_34 rfl ?_
      refine a_aload_n X dX8_spoils_35 rfl ?_
      refine a_geti X lf8_275 (by assumption) rfl dX8_spoils_36 ?_
      refine a_icmp_ge (tgt := 59) X dX8_spoils_39 (by decide) (fun h_39 => ?_) (fun h_39 => ?_)
      · replace h := (if_pos h_39).symm.trans h
        refine a_aload_n X dX8_spoils_59 rfl ?_
        refine a_iload_n X dX8_spoils_60 rfl ?_
        obtain ⟨e_61, f_61, h⟩ := zBx h
        refine a_callVu X dX8_spoils_61 miX8_results lm8_355 (t_X8_results (by assumption) f_61) (by assumption) rfl rfl rfl (Nat.le_of_ble_eq_true rfl) ⟨by decide, by decide, by decide, by decide⟩ ?_
        refine a_iconst (v := 0) X dX8_spoils_64 (by decide) ?_
        refine a_istore_n X dX8_spoils_65 (by decide) ?_
        refine a_iconst (v := 0) X dX8_spoils_66 (by decide) ?_
        refine a_istore X dX8_spoils_67 (by decide) ?_
        exact Zw.to2 (H_69 _ _ _ _ _ _ h) rfl rfl rfl
      · replace h := (if_neg h_39).symm.trans h
        refine a_aload_n X dX8_spoils_42 rfl ?_
        refine a_getr X lf8_85 (by assumption) rfl (by omega) dX8_spoils_43 ?_
        refine a_iload_n X dX8_spoils_46 rfl ?_
        refine a_aload_n X dX8_spoils_47 rfl ?_
        refine a_iload_n X dX8_spoils_48 rfl ?_
        obtain ⟨e_49, f_49, h⟩ := zBx h
        refine a_callVv X dX8_spoils_49 miX8_placeNow lm8_379 (t_X8_placeNow (by assumption) f_49) (by assumption) rfl rfl rfl (Nat.le_of_ble_eq_true rfl) ⟨by decide, by decide, by decide, by decide⟩ ?_
        obtain ⟨g_52, h⟩ := zIx h
        obtain ⟨M_52, f_52, h⟩ := zLtx h
        refine d_iastore X (by assumption) g_52 dX8_spoils_52 f_52 ?_
        refine a_iinc (v := x3_34 + 1) X dX8_spoils_53 (by decide) rfl zi_1 ?_
        refine a_goto (tgt := 34) X dX8_spoils_56 (by decide) ?_
        exact Zw.to2 (ih_34 _ _ _ _ _ _ h) rfl rfl rfl
  have H_34 : ∀ (x1_34 : Int32) (x2_34 : Int32) (x3_34 : Int32) (x4_34 : Option Value) (M_34 : zMt) (N_34 : zNt), D_X8_spoils_34 P zFu x2_34 x3_34 M_34 N_34 = some r → Zw p l e { frames := 5, cells := 0, slots := 0, locals := 80 * (5) } s m args below meth c G b 5 (MQ below (zQ G b FQ) args s 0 0 (fun q : Nat => b ≤ q)) 0 0 34 [some (.ref (P)), some (.int x1_34), some (.int x2_34), some (.int x3_34), x4_34] [] (L, M_34, N_34) := L_34 zFu
  unfold D_X8_spoils at h
  refine a_iload_n X dX8_spoils_0 rfl ?_
  obtain ⟨e_1, f_1, h⟩ := zBx h
  refine a_callSx X dX8_spoils_1 miX8_isSeed lm8_358 (t_X8_isSeed f_1) rfl rfl (Nat.le_of_ble_eq_true rfl) ⟨by decide, by decide, by decide, by decide⟩ (fun r_1 S_1 q_1 => ?_)
  obtain ⟨rfl, rfl, b_1⟩ := q_1
  refine a_if_ne (tgt := 13) X dX8_spoils_4 (by decide) (fun h_4 => ?_) (fun h_4 => ?_)
  · replace h := (if_neg h_4).symm.trans h
    refine a_aload_n X dX8_spoils_13 rfl ?_
    refine a_iload_n X dX8_spoils_14 rfl ?_
    obtain ⟨e_15, f_15, h⟩ := zBx h
    refine a_callVx X dX8_spoils_15 miX8_isApplicant lm8_315 (t_X8_isApplicant (by assumption) f_15) (by assumption) rfl rfl rfl (Nat.le_of_ble_eq_true rfl) ⟨by decide, by decide, by decide, by decide⟩ (fun r_15 S_15 q_15 => ?_)
    obtain ⟨rfl, rfl, b_15⟩ := q_15
    refine a_if_ne (tgt := 27) X dX8_spoils_18 (by decide) (fun h_18 => ?_) (fun h_18 => ?_)
    · replace h := (if_neg h_18).symm.trans h
      refine a_aload_n X dX8_spoils_27 rfl ?_
      refine a_iload_n X dX8_spoils_28 rfl ?_
      obtain ⟨e_29, f_29, h⟩ := zBx h
      refine a_callVu X dX8_spoils_29 miX8_laysResult lm8_361 (t_X8_laysResult (by assumption) f_29) (by assumption) rfl rfl rfl (Nat.le_of_ble_eq_true rfl) ⟨by decide, by decide, by decide, by decide⟩ ?_
      refine a_iconst (v := 0) X dX8_spoils_32 (by decide) ?_
      refine a_istore_n X dX8_spoils_33 (by decide) ?_
      exact Zw.to2 (H_34 _ _ _ _ _ _ h) rfl rfl rfl
    · replace h := (if_pos h_18).symm.trans h
      refine a_aload_n X dX8_spoils_21 rfl ?_
      refine a_iconst (v := 2) X dX8_spoils_22 (by decide) ?_
      obtain ⟨e_23, f_23, h⟩ := zBx h
      refine a_callVv X dX8_spoils_23 miX8_refuse lm8_263 (t_X8_refuse (by assumption) f_23) (by assumption) rfl rfl rfl (Nat.le_of_ble_eq_true rfl) ⟨by decide, by decide, by decide, by decide⟩ ?_
      refine a_iret X hr dX8_spoils_26 ⟨by decide, by decide⟩ ?_
      subst hF
      rw [← Option.some.inj h]
      exact ⟨rfl, rfl⟩
  · replace h := (if_pos h_4).symm.trans h
    refine a_aload_n X dX8_spoils_7 rfl ?_
    refine a_iconst (v := 1) X dX8_spoils_8 (by decide) ?_
    obtain ⟨e_9, f_9, h⟩ := zBx h
    refine a_callVv X dX8_spoils_9 miX8_refuse lm8_263 (t_X8_refuse (by assumption) f_9) (by assumption) rfl rfl rfl (Nat.le_of_ble_eq_true rfl) ⟨by decide, by decide, by decide, by decide⟩ ?_
    refine a_iret X hr dX8_spoils_12 ⟨by decide, by decide⟩ ?_
    subst hF
    rw [← Option.some.inj h]
    exact ⟨rfl, rfl⟩
noncomputable def D_X8_behindNow_93 (P : Nat) (M : zMt) (y0_93 : Int32) : Option (Int32) :=
  some (y0_93)
noncomputable def D_X8_behindNow_58 (P : Nat) (M : zMt) (y0_58 : Int32) : Option (Int32) :=
  some (y0_58)
noncomputable def D_X8_behindNow_2 (P : Nat) (M : zMt) : Nat → Int32 → Int32 → Option (Int32)
  | 0, _, _ => none
  | n + 1, x1_2, x2_2 =>
    zI x2_2 10 <|
    zB (D_X8_has (M (P + 11) x2_2.toNatClampNeg) x1_2) fun e_9 =>
    if e_9 = 0 then
      (D_X8_behindNow_2 P M n) x1_2 (x2_2 + 1)
    else
      zI x2_2 10 <|
      if (M (P + 19) x2_2.toNatClampNeg) = (-1 : Int32) then
        zB (D_X8_choiceMany P M x2_2) fun e_61 =>
        if e_61 = 0 then
          zI ((0 : Int32) + x1_2) 82 <|
          D_X8_behindNow_93 P M (M (P + 1) ((0 : Int32) + x1_2).toNatClampNeg)
        else
          zI ((0 : Int32) + x1_2) 82 <|
          D_X8_behindNow_93 P M (if ((M (P + 1) ((0 : Int32) + x1_2).toNatClampNeg) + (1 : Int32)) < (20 : Int32) then ((M (P + 1) ((0 : Int32) + x1_2).toNatClampNeg) + (1 : Int32)) else (20 : Int32))
      else
        zI x2_2 10 <|
        zB (D_X8_choiceOf P M x2_2 (0 : Int32)) fun e_40 =>
        if (M (P + 19) x2_2.toNatClampNeg) = e_40 then
          D_X8_behindNow_58 P M (0 : Int32)
        else
          zI ((0 : Int32) + x1_2) 82 <|
          D_X8_behindNow_58 P M (M (P + 1) ((0 : Int32) + x1_2).toNatClampNeg)
noncomputable def D_X8_behindNow (P : Nat) (M : zMt) (v0 : Int32) : Option (Int32) :=
  D_X8_behindNow_2 P M zFu v0 (0 : Int32)
set_option maxRecDepth 100000 in
set_option maxHeartbeats 4000000 in
theorem t_X8_behindNow {l : Launch} {G : zG} {b : Nat} {L : List zC} {M : zMt} {N : zNt} {P : Nat} {v0 : Int32} (hP : LX8 L P) {r : Int32} (h : D_X8_behindNow P M v0 = some r) : zM l G b yX8_behindNow cX8_behindNow 3 (some .int) 2 0 0 [.ref P, .int v0] (L, M, N) (fun r2 z => r2 = some (.int r) ∧ z = (L, M, N)) := by
  refine zM.of miX8_behindNow (Nat.le_of_ble_eq_true rfl) ?_
  intro p e s m args below meth c X hr hname
  generalize hF : ((fun r2 z => r2 = some (.int r) ∧ z = (L, M, N)) : Option Value → zS → Prop) = FQ
  change Zw p l e { frames := 2, cells := 0, slots := 0, locals := 80 * (2) } s m args below meth c G b 3 (MQ below (zQ G b FQ) args s 0 0 (fun q : Nat => b ≤ q)) 0 0 0 [some (.ref P), some (.int v0), none] [] (L, M, N)
  obtain ⟨p_lt, p_o, p_s, p_read, p_aside, p_kept, p_guest, p_readGuest, p_tape, p_unitName, p_hunterName, p_partyName, p_bits, p_partyOf, p_choiceAt, p_sizes, p_guestMany, p_pointsOf, p_ticketsOf, p_ord, p_given, p_roundOf, p_tags, p_guestTags, p_places, p_sumAt, p_sumFirst, p_sumRound, p_sumBoth, p_sumTags, p_isEnd, p_newPoints, p_inRow, p_out⟩ := id hP
  have J_93 : ∀ (x1_93 : Int32) (x2_93 : Int32) (y0_93 : Int32), D_X8_behindNow_93 P M y0_93 = some r → Zw p l e { frames := 2, cells := 0, slots := 0, locals := 80 * (2) } s m args below meth c G b 3 (MQ below (zQ G b FQ) args s 0 0 (fun q : Nat => b ≤ q)) 0 0 93 [some (.ref (P)), some (.int x1_93), some (.int x2_93)] [.int y0_93] (L, M, N) := by
    intro x1_93 x2_93 y0_93 h
    unfold D_X8_behindNow_93 at h
    refine a_iret X hr dX8_behindNow_93 ⟨by decide, by decide⟩ ?_
    subst hF
    rw [← Option.some.inj h]
    exact ⟨rfl, rfl⟩
  have J_58 : ∀ (x1_58 : Int32) (x2_58 : Int32) (y0_58 : Int32), D_X8_behindNow_58 P M y0_58 = some r → Zw p l e { frames := 2, cells := 0, slots := 0, locals := 80 * (2) } s m args below meth c G b 3 (MQ below (zQ G b FQ) args s 0 0 (fun q : Nat => b ≤ q)) 0 0 58 [some (.ref (P)), some (.int x1_58), some (.int x2_58)] [.int y0_58] (L, M, N) := by
    intro x1_58 x2_58 y0_58 h
    unfold D_X8_behindNow_58 at h
    refine a_iret X hr dX8_behindNow_58 ⟨by decide, by decide⟩ ?_
    subst hF
    rw [← Option.some.inj h]
    exact ⟨rfl, rfl⟩
  have L_2 : ∀ u : Nat, ∀ (x1_2 : Int32) (x2_2 : Int32), D_X8_behindNow_2 P M u x1_2 x2_2 = some r → Zw p l e { frames := 2, cells := 0, slots := 0, locals := 80 * (2) } s m args below meth c G b 3 (MQ below (zQ G b FQ) args s 0 0 (fun q : Nat => b ≤ q)) 0 0 2 [some (.ref (P)), some (.int x1_2), some (.int x2_2)] [] (L, M, N) := by
    intro u
    induction u with
    | zero => intro x1_2 x2_2 h; cases (show none = some r from h)
    | succ u_2 ih_2 =>
      intro x1_2 x2_2 h
      rw [D_X8_behindNow_2] at h
      refine a_aload_n X dX8_behindNow_2 rfl ?_
      refine a_getr X lf8_49 (by assumption) rfl (by omega) dX8_behindNow_3 ?_
      refine a_iload_n X dX8_behindNow_6 rfl ?_
      obtain ⟨g_7, h⟩ := zIx h
      refine a_iaload X (by assumption) g_7 dX8_behindNow_7 ?_
      refine a_iload_n X dX8_behindNow_8 rfl ?_
      obtain ⟨e_9, f_9, h⟩ := zBx h
      refine a_callSx X dX8_behindNow_9 miX8_has lm8_240 (t_X8_has f_9) rfl rfl (Nat.le_of_ble_eq_true rfl) ⟨by decide, by decide, by decide, by decide⟩ (fun r_9 S_9 q_9 => ?_)
      obtain ⟨rfl, rfl, b_9⟩ := q_9
      refine a_if_ne (tgt := 21) X dX8_behindNow_12 (by decide) (fun h_12 => ?_) (fun h_12 => ?_)
      · replace h := (if_neg h_12).symm.trans h
        refine a_aload_n X dX8_behindNow_21 rfl ?_
        refine a_getr X lf8_73 (by assumption) rfl (by omega) dX8_behindNow_22 ?_
        refine a_iload_n X dX8_behindNow_25 rfl ?_
        obtain ⟨g_26, h⟩ := zIx h
        refine a_iaload X (by assumption) g_26 dX8_behindNow_26 ?_
        refine a_iconst (v := -1) X dX8_behindNow_27 (by decide) ?_
        refine a_icmp_eq (tgt := 59) X dX8_behindNow_28 (by decide) (fun h_28 => ?_) (fun h_28 => ?_)
        · replace h := (if_pos h_28).symm.trans h
          refine a_aload_n X dX8_behindNow_59 rfl ?_
          refine a_iload_n X dX8_behindNow_60 rfl ?_
          obtain ⟨e_61, f_61, h⟩ := zBx h
          refine a_callVv X dX8_behindNow_61 miX8_choiceMany lm8_288 (t_X8_choiceMany (by assumption) f_61) (by assumption) rfl rfl rfl (Nat.le_of_ble_eq_true rfl) ⟨by decide, by decide, by decide, by decide⟩ ?_
          refine a_if_ne (tgt := 78) X dX8_behindNow_64 (by decide) (fun h_64 => ?_) (fun h_64 => ?_)
          · replace h := (if_neg h_64).symm.trans h
            refine a_bipush (v := 20) X dX8_behindNow_78 (by decide) ?_
            refine a_aload_n X dX8_behindNow_80 rfl ?_
            refine a_getr X lf8_7 (by assumption) rfl (by omega) dX8_behindNow_81 ?_
            refine a_iconst (v := 0) X dX8_behindNow_84 (by decide) ?_
            refine a_iload_n X dX8_behindNow_85 rfl ?_
            refine a_iadd X dX8_behindNow_86 ?_
            obtain ⟨g_87, h⟩ := zIx h
            refine a_iaload X (by assumption) g_87 dX8_behindNow_87 ?_
            refine a_iconst (v := 1) X dX8_behindNow_88 (by decide) ?_
            refine a_iadd X dX8_behindNow_89 ?_
            refine a_mmin X lm8_366 zmath2 zmath0 zmathc2 ⟨by decide, Nat.le_of_ble_eq_true rfl, by decide, by decide⟩ dX8_behindNow_90 ?_
            exact Zw.to2 (J_93 _ _ _ h) rfl rfl rfl
          · replace h := (if_pos h_64).symm.trans h
            refine a_aload_n X dX8_behindNow_67 rfl ?_
            refine a_getr X lf8_7 (by assumption) rfl (by omega) dX8_behindNow_68 ?_
            refine a_iconst (v := 0) X dX8_behindNow_71 (by decide) ?_
            refine a_iload_n X dX8_behindNow_72 rfl ?_
            refine a_iadd X dX8_behindNow_73 ?_
            obtain ⟨g_74, h⟩ := zIx h
            refine a_iaload X (by assumption) g_74 dX8_behindNow_74 ?_
            refine a_goto (tgt := 93) X dX8_behindNow_75 (by decide) ?_
            exact Zw.to2 (J_93 _ _ _ h) rfl rfl rfl
        · replace h := (if_neg h_28).symm.trans h
          refine a_aload_n X dX8_behindNow_31 rfl ?_
          refine a_getr X lf8_73 (by assumption) rfl (by omega) dX8_behindNow_32 ?_
          refine a_iload_n X dX8_behindNow_35 rfl ?_
          obtain ⟨g_36, h⟩ := zIx h
          refine a_iaload X (by assumption) g_36 dX8_behindNow_36 ?_
          refine a_aload_n X dX8_behindNow_37 rfl ?_
          refine a_iload_n X dX8_behindNow_38 rfl ?_
          refine a_iconst (v := 0) X dX8_behindNow_39 (by decide) ?_
          obtain ⟨e_40, f_40, h⟩ := zBx h
          refine a_callVv X dX8_behindNow_40 miX8_choiceOf lm8_284 (t_X8_choiceOf (by assumption) f_40) (by assumption) rfl rfl rfl (Nat.le_of_ble_eq_true rfl) ⟨by decide, by decide, by decide, by decide⟩ ?_
          refine a_icmp_ne (tgt := 50) X dX8_behindNow_43 (by decide) (fun h_43 => ?_) (fun h_43 => ?_)
          · replace h := (if_neg h_43).symm.trans h
            refine a_aload_n X dX8_behindNow_50 rfl ?_
            refine a_getr X lf8_7 (by assumption) rfl (by omega) dX8_behindNow_51 ?_
            refine a_iconst (v := 0) X dX8_behindNow_54 (by decide) ?_
            refine a_iload_n X dX8_behindNow_55 rfl ?_
            refine a_iadd X dX8_behindNow_56 ?_
            obtain ⟨g_57, h⟩ := zIx h
            refine a_iaload X (by assumption) g_57 dX8_behindNow_57 ?_
            exact Zw.to2 (J_58 _ _ _ h) rfl rfl rfl
          · replace h := (if_pos h_43).symm.trans h
            refine a_iconst (v := 0) X dX8_behindNow_46 (by decide) ?_
            refine a_goto (tgt := 58) X dX8_behindNow_47 (by decide) ?_
            exact Zw.to2 (J_58 _ _ _ h) rfl rfl rfl
      · replace h := (if_pos h_12).symm.trans h
        refine a_iinc (v := x2_2 + 1) X dX8_behindNow_15 (by decide) rfl zi_1 ?_
        refine a_goto (tgt := 2) X dX8_behindNow_18 (by decide) ?_
        exact Zw.to2 (ih_2 _ _ h) rfl rfl rfl
  have H_2 : ∀ (x1_2 : Int32) (x2_2 : Int32), D_X8_behindNow_2 P M zFu x1_2 x2_2 = some r → Zw p l e { frames := 2, cells := 0, slots := 0, locals := 80 * (2) } s m args below meth c G b 3 (MQ below (zQ G b FQ) args s 0 0 (fun q : Nat => b ≤ q)) 0 0 2 [some (.ref (P)), some (.int x1_2), some (.int x2_2)] [] (L, M, N) := L_2 zFu
  unfold D_X8_behindNow at h
  refine a_iconst (v := 0) X dX8_behindNow_0 (by decide) ?_
  refine a_istore_n X dX8_behindNow_1 (by decide) ?_
  exact Zw.to2 (H_2 _ _ h) rfl rfl rfl
noncomputable def D_X8_behind (P : Nat) (v0 : Int32) (v1 : Int32) (M : zMt) (N : zNt) : Option (Int32 × zMt × zNt) :=
  zB (D_X8_isSeed v0) fun e_1 =>
  if e_1 = 0 then
    zB (D_X8_refuse P (1 : Int32) M) fun e_9 =>
    some (e_9.1, e_9.2, N)
  else
    zB (D_X8_isHunter P M v1) fun e_15 =>
    if e_15 = 0 then
      zB (D_X8_refuse P (2 : Int32) M) fun e_23 =>
      some (e_23.1, e_23.2, N)
    else
      zB (D_X8_laysResult P v0 M N) fun e_29 =>
      zB (D_X8_behindNow P e_29.1 v1) fun e_35 =>
      zB (D_X8_gives P e_35 e_29.1) fun e_38 =>
      some (e_38.1, e_38.2, e_29.2)
set_option maxRecDepth 100000 in
set_option maxHeartbeats 4000000 in
theorem t_X8_behind {l : Launch} {G : zG} {b : Nat} {L : List zC} {M : zMt} {N : zNt} {P : Nat} {v0 : Int32} {v1 : Int32} (hP : LX8 L P) {r : Int32 × zMt × zNt} (h : D_X8_behind P v0 v1 M N = some r) : zM l G b yX8_behind cX8_behind 3 (some .int) 5 0 0 [.ref P, .int v0, .int v1] (L, M, N) (fun r2 z => r2 = some (.int r.1) ∧ z = (L, r.2.1, r.2.2)) := by
  refine zM.of miX8_behind (Nat.le_of_ble_eq_true rfl) ?_
  intro p e s m args below meth c X hr hname
  generalize hF : ((fun r2 z => r2 = some (.int r.1) ∧ z = (L, r.2.1, r.2.2)) : Option Value → zS → Prop) = FQ
  change Zw p l e { frames := 5, cells := 0, slots := 0, locals := 80 * (5) } s m args below meth c G b 3 (MQ below (zQ G b FQ) args s 0 0 (fun q : Nat => b ≤ q)) 0 0 0 [some (.ref P), some (.int v0), some (.int v1)] [] (L, M, N)
  obtain ⟨p_lt, p_o, p_s, p_read, p_aside, p_kept, p_guest, p_readGuest, p_tape, p_unitName, p_hunterName, p_partyName, p_bits, p_partyOf, p_choiceAt, p_sizes, p_guestMany, p_pointsOf, p_ticketsOf, p_ord, p_given, p_roundOf, p_tags, p_guestTags, p_places, p_sumAt, p_sumFirst, p_sumRound, p_sumBoth, p_sumTags, p_isEnd, p_newPoints, p_inRow, p_out⟩ := id hP
  unfold D_X8_behind at h
  refine a_iload_n X dX8_behind_0 rfl ?_
  obtain ⟨e_1, f_1, h⟩ := zBx h
  refine a_callSx X dX8_behind_1 miX8_isSeed lm8_358 (t_X8_isSeed f_1) rfl rfl (Nat.le_of_ble_eq_true rfl) ⟨by decide, by decide, by decide, by decide⟩ (fun r_1 S_1 q_1 => ?_)
  obtain ⟨rfl, rfl, b_1⟩ := q_1
  refine a_if_ne (tgt := 13) X dX8_behind_4 (by decide) (fun h_4 => ?_) (fun h_4 => ?_)
  · replace h := (if_neg h_4).symm.trans h
    refine a_aload_n X dX8_behind_13 rfl ?_
    refine a_iload_n X dX8_behind_14 rfl ?_
    obtain ⟨e_15, f_15, h⟩ := zBx h
    refine a_callVx X dX8_behind_15 miX8_isHunter lm8_293 (t_X8_isHunter (by assumption) f_15) (by assumption) rfl rfl rfl (Nat.le_of_ble_eq_true rfl) ⟨by decide, by decide, by decide, by decide⟩ (fun r_15 S_15 q_15 => ?_)
    obtain ⟨rfl, rfl, b_15⟩ := q_15
    refine a_if_ne (tgt := 27) X dX8_behind_18 (by decide) (fun h_18 => ?_) (fun h_18 => ?_)
    · replace h := (if_neg h_18).symm.trans h
      refine a_aload_n X dX8_behind_27 rfl ?_
      refine a_iload_n X dX8_behind_28 rfl ?_
      obtain ⟨e_29, f_29, h⟩ := zBx h
      refine a_callVu X dX8_behind_29 miX8_laysResult lm8_361 (t_X8_laysResult (by assumption) f_29) (by assumption) rfl rfl rfl (Nat.le_of_ble_eq_true rfl) ⟨by decide, by decide, by decide, by decide⟩ ?_
      refine a_aload_n X dX8_behind_32 rfl ?_
      refine a_aload_n X dX8_behind_33 rfl ?_
      refine a_iload_n X dX8_behind_34 rfl ?_
      obtain ⟨e_35, f_35, h⟩ := zBx h
      refine a_callVv X dX8_behind_35 miX8_behindNow lm8_382 (t_X8_behindNow (by assumption) f_35) (by assumption) rfl rfl rfl (Nat.le_of_ble_eq_true rfl) ⟨by decide, by decide, by decide, by decide⟩ ?_
      obtain ⟨e_38, f_38, h⟩ := zBx h
      refine a_callVv X dX8_behind_38 miX8_gives lm8_272 (t_X8_gives (by assumption) f_38) (by assumption) rfl rfl rfl (Nat.le_of_ble_eq_true rfl) ⟨by decide, by decide, by decide, by decide⟩ ?_
      refine a_iret X hr dX8_behind_41 ⟨by decide, by decide⟩ ?_
      subst hF
      rw [← Option.some.inj h]
      exact ⟨rfl, rfl⟩
    · replace h := (if_pos h_18).symm.trans h
      refine a_aload_n X dX8_behind_21 rfl ?_
      refine a_iconst (v := 2) X dX8_behind_22 (by decide) ?_
      obtain ⟨e_23, f_23, h⟩ := zBx h
      refine a_callVv X dX8_behind_23 miX8_refuse lm8_263 (t_X8_refuse (by assumption) f_23) (by assumption) rfl rfl rfl (Nat.le_of_ble_eq_true rfl) ⟨by decide, by decide, by decide, by decide⟩ ?_
      refine a_iret X hr dX8_behind_26 ⟨by decide, by decide⟩ ?_
      subst hF
      rw [← Option.some.inj h]
      exact ⟨rfl, rfl⟩
  · replace h := (if_pos h_4).symm.trans h
    refine a_aload_n X dX8_behind_7 rfl ?_
    refine a_iconst (v := 1) X dX8_behind_8 (by decide) ?_
    obtain ⟨e_9, f_9, h⟩ := zBx h
    refine a_callVv X dX8_behind_9 miX8_refuse lm8_263 (t_X8_refuse (by assumption) f_9) (by assumption) rfl rfl rfl (Nat.le_of_ble_eq_true rfl) ⟨by decide, by decide, by decide, by decide⟩ ?_
    refine a_iret X hr dX8_behind_12 ⟨by decide, by decide⟩ ?_
    subst hF
    rw [← Option.some.inj h]
    exact ⟨rfl, rfl⟩
noncomputable def D_X8_hasFirst_30 (P : Nat) (M : zMt) (y0_30 : Int32) : Option (Int32) :=
  some (y0_30)
noncomputable def D_X8_hasFirst_29 (P : Nat) (M : zMt)  : Option (Int32) :=
  D_X8_hasFirst_30 P M (0 : Int32)
noncomputable def D_X8_hasFirst (P : Nat) (M : zMt) (v0 : Int32) : Option (Int32) :=
  zI v0 10 <|
  if (M (P + 19) v0.toNatClampNeg) = (-1 : Int32) then
    D_X8_hasFirst_29 P M
  else
    zI v0 10 <|
    zB (D_X8_choiceOf P M v0 (0 : Int32)) fun e_19 =>
    if (M (P + 19) v0.toNatClampNeg) = e_19 then
      D_X8_hasFirst_30 P M (1 : Int32)
    else
      D_X8_hasFirst_29 P M
set_option maxRecDepth 100000 in
set_option maxHeartbeats 4000000 in
theorem t_X8_hasFirst {l : Launch} {G : zG} {b : Nat} {L : List zC} {M : zMt} {N : zNt} {P : Nat} {v0 : Int32} (hP : LX8 L P) {r : Int32} (h : D_X8_hasFirst P M v0 = some r) : zM l G b yX8_hasFirst cX8_hasFirst 2 (some .boolean) 1 0 0 [.ref P, .int v0] (L, M, N) (fun r2 z => r2 = some (.int r) ∧ z = (L, M, N) ∧ (r = 0 ∨ r = 1)) := by
  refine zM.of miX8_hasFirst (Nat.le_of_ble_eq_true rfl) ?_
  intro p e s m args below meth c X hr hname
  generalize hF : ((fun r2 z => r2 = some (.int r) ∧ z = (L, M, N) ∧ (r = 0 ∨ r = 1)) : Option Value → zS → Prop) = FQ
  change Zw p l e { frames := 1, cells := 0, slots := 0, locals := 80 * (1) } s m args below meth c G b 2 (MQ below (zQ G b FQ) args s 0 0 (fun q : Nat => b ≤ q)) 0 0 0 [some (.ref P), some (.int v0)] [] (L, M, N)
  obtain ⟨p_lt, p_o, p_s, p_read, p_aside, p_kept, p_guest, p_readGuest, p_tape, p_unitName, p_hunterName, p_partyName, p_bits, p_partyOf, p_choiceAt, p_sizes, p_guestMany, p_pointsOf, p_ticketsOf, p_ord, p_given, p_roundOf, p_tags, p_guestTags, p_places, p_sumAt, p_sumFirst, p_sumRound, p_sumBoth, p_sumTags, p_isEnd, p_newPoints, p_inRow, p_out⟩ := id hP
  have J_30 : ∀ (x1_30 : Int32) (y0_30 : Int32), (y0_30 = 0 ∨ y0_30 = 1) → D_X8_hasFirst_30 P M y0_30 = some r → Zw p l e { frames := 1, cells := 0, slots := 0, locals := 80 * (1) } s m args below meth c G b 2 (MQ below (zQ G b FQ) args s 0 0 (fun q : Nat => b ≤ q)) 0 0 30 [some (.ref (P)), some (.int x1_30)] [.int y0_30] (L, M, N) := by
    intro x1_30 y0_30 fb_y0_30 h
    unfold D_X8_hasFirst_30 at h
    refine a_zret X (by first | exact Or.inl rfl | exact Or.inr rfl | assumption) hr dX8_hasFirst_30 ⟨by decide, by decide⟩ ?_
    subst hF
    rw [← Option.some.inj h]
    exact ⟨rfl, rfl, (by first | exact Or.inl rfl | exact Or.inr rfl | assumption)⟩
  have J_29 : ∀ (x1_29 : Int32), D_X8_hasFirst_29 P M = some r → Zw p l e { frames := 1, cells := 0, slots := 0, locals := 80 * (1) } s m args below meth c G b 2 (MQ below (zQ G b FQ) args s 0 0 (fun q : Nat => b ≤ q)) 0 0 29 [some (.ref (P)), some (.int x1_29)] [] (L, M, N) := by
    intro x1_29 h
    unfold D_X8_hasFirst_29 at h
    refine a_iconst (v := 0) X dX8_hasFirst_29 (by decide) ?_
    exact Zw.to2 (J_30 _ _ (by first | exact Or.inl rfl | exact Or.inr rfl | assumption) h) rfl rfl rfl
  unfold D_X8_hasFirst at h
  refine a_aload_n X dX8_hasFirst_0 rfl ?_
  refine a_getr X lf8_73 (by assumption) rfl (by omega) dX8_hasFirst_1 ?_
  refine a_iload_n X dX8_hasFirst_4 rfl ?_
  obtain ⟨g_5, h⟩ := zIx h
  refine a_iaload X (by assumption) g_5 dX8_hasFirst_5 ?_
  refine a_iconst (v := -1) X dX8_hasFirst_6 (by decide) ?_
  refine a_icmp_eq (tgt := 29) X dX8_hasFirst_7 (by decide) (fun h_7 => ?_) (fun h_7 => ?_)
  · replace h := (if_pos h_7).symm.trans h
    exact Zw.to2 (J_29 _ h) rfl rfl rfl
  · replace h := (if_neg h_7).symm.trans h
    refine a_aload_n X dX8_hasFirst_10 rfl ?_
    refine a_getr X lf8_73 (by assumption) rfl (by omega) dX8_hasFirst_11 ?_
    refine a_iload_n X dX8_hasFirst_14 rfl ?_
    obtain ⟨g_15, h⟩ := zIx h
    refine a_iaload X (by assumption) g_15 dX8_hasFirst_15 ?_
    refine a_aload_n X dX8_hasFirst_16 rfl ?_
    refine a_iload_n X dX8_hasFirst_17 rfl ?_
    refine a_iconst (v := 0) X dX8_hasFirst_18 (by decide) ?_
    obtain ⟨e_19, f_19, h⟩ := zBx h
    refine a_callVv X dX8_hasFirst_19 miX8_choiceOf lm8_284 (t_X8_choiceOf (by assumption) f_19) (by assumption) rfl rfl rfl (Nat.le_of_ble_eq_true rfl) ⟨by decide, by decide, by decide, by decide⟩ ?_
    refine a_icmp_ne (tgt := 29) X dX8_hasFirst_22 (by decide) (fun h_22 => ?_) (fun h_22 => ?_)
    · replace h := (if_neg h_22).symm.trans h
      exact Zw.to2 (J_29 _ h) rfl rfl rfl
    · replace h := (if_pos h_22).symm.trans h
      refine a_iconst (v := 1) X dX8_hasFirst_25 (by decide) ?_
      refine a_goto (tgt := 30) X dX8_hasFirst_26 (by decide) ?_
      exact Zw.to2 (J_30 _ _ (by first | exact Or.inl rfl | exact Or.inr rfl | assumption) h) rfl rfl rfl
noncomputable def D_X8_lucky_34 (P : Nat) : Nat → Int32 → Int32 → Int32 → zMt → zNt → Option (Int32 × zMt × zNt)
  | 0, _, _, _, _, _ => none
  | n + 1, x1_34, x2_34, x3_34, M_34, N_34 =>
    if (x1_34 + (50 : Int32)) ≤ x3_34 then
      zB (D_X8_refuse P (5 : Int32) M_34) fun e_69 =>
      some (e_69.1, e_69.2, N_34)
    else
      zB (D_X8_laysResult P x3_34 M_34 N_34) fun e_44 =>
      zB (D_X8_hasFirst P e_44.1 x2_34) fun e_49 =>
      if e_49 = 0 then
        (D_X8_lucky_34 P n) x1_34 x2_34 (x3_34 + 1) e_44.1 e_44.2
      else
        zB (D_X8_gives P x3_34 e_44.1) fun e_57 =>
        some (e_57.1, e_57.2, e_44.2)
noncomputable def D_X8_lucky (P : Nat) (v0 : Int32) (v1 : Int32) (M : zMt) (N : zNt) : Option (Int32 × zMt × zNt) :=
  zB (D_X8_isFrom (Int32.toInt64 v0) (0 : Int64) (999999949 : Int64)) fun e_6 =>
  if e_6 = 0 then
    zB (D_X8_refuse P (1 : Int32) M) fun e_14 =>
    some (e_14.1, e_14.2, N)
  else
    zB (D_X8_isApplicant P v1 M) fun e_20 =>
    if e_20.1 = 0 then
      zB (D_X8_refuse P (2 : Int32) e_20.2) fun e_28 =>
      some (e_28.1, e_28.2, N)
    else
      D_X8_lucky_34 P zFu v0 v1 v0 e_20.2 N
set_option maxRecDepth 100000 in
set_option maxHeartbeats 4000000 in
theorem t_X8_lucky {l : Launch} {G : zG} {b : Nat} {L : List zC} {M : zMt} {N : zNt} {P : Nat} {v0 : Int32} {v1 : Int32} (hP : LX8 L P) {r : Int32 × zMt × zNt} (h : D_X8_lucky P v0 v1 M N = some r) : zM l G b yX8_lucky cX8_lucky 4 (some .int) 5 0 0 [.ref P, .int v0, .int v1] (L, M, N) (fun r2 z => r2 = some (.int r.1) ∧ z = (L, r.2.1, r.2.2)) := by
  refine zM.of miX8_lucky (Nat.le_of_ble_eq_true rfl) ?_
  intro p e s m args below meth c X hr hname
  generalize hF : ((fun r2 z => r2 = some (.int r.1) ∧ z = (L, r.2.1, r.2.2)) : Option Value → zS → Prop) = FQ
  change Zw p l e { frames := 5, cells := 0, slots := 0, locals := 80 * (5) } s m args below meth c G b 4 (MQ below (zQ G b FQ) args s 0 0 (fun q : Nat => b ≤ q)) 0 0 0 [some (.ref P), some (.int v0), some (.int v1), none] [] (L, M, N)
  obtain ⟨p_lt, p_o, p_s, p_read, p_aside, p_kept, p_guest, p_readGuest, p_tape, p_unitName, p_hunterName, p_partyName, p_bits, p_partyOf, p_choiceAt, p_sizes, p_guestMany, p_pointsOf, p_ticketsOf, p_ord, p_given, p_roundOf, p_tags, p_guestTags, p_places, p_sumAt, p_sumFirst, p_sumRound, p_sumBoth, p_sumTags, p_isEnd, p_newPoints, p_inRow, p_out⟩ := id hP
  have L_34 : ∀ u : Nat, ∀ (x1_34 : Int32) (x2_34 : Int32) (x3_34 : Int32) (M_34 : zMt) (N_34 : zNt), D_X8_lucky_34 P u x1_34 x2_34 x3_34 M_34 N_34 = some r → Zw p l e { frames := 5, cells := 0, slots := 0, locals := 80 * (5) } s m args below meth c G b 4 (MQ below (zQ G b FQ) args s 0 0 (fun q : Nat => b ≤ q)) 0 0 34 [some (.ref (P)), some (.int x1_34), some (.int x2_34), some (.int x3_34)] [] (L, M_34, N_34) := by
    intro u
    induction u with
    | zero => intro x1_34 x2_34 x3_34 M_34 N_34 h; cases (show none = some r from h)
    | succ u_34 ih_34 =>
      intro x1_34 x2_34 x3_34 M_34 N_34 h
      rw [D_X8_lucky_34] at h
      refine a_iload_n X dX8_lucky_34 rfl ?_
      refine a_iload_n X dX8_lucky_35 rfl ?_
      refine a_bipush (v := 50) X dX8_lucky_36 (by decide) ?_
      refine a_iadd X dX8_lucky_38 ?_
      refine a_icmp_ge (tgt := 67) X dX8_lucky_39 (by decide) (fun h_39 => ?_) (fun h_39 => ?_)
      · replace h := (if_pos h_39).symm.trans h
        refine a_aload_n X dX8_lucky_67 rfl ?_
        refine a_iconst (v := 5) X dX8_lucky_68 (by decide) ?_
        obtain ⟨e_69, f_69, h⟩ := zBx h
        refine a_callVv X dX8_lucky_69 miX8_refuse lm8_263 (t_X8_refuse (by assumption) f_69) (by assumption) rfl rfl rfl (Nat.le_of_ble_eq_true rfl) ⟨by decide, by decide, by decide, by decide⟩ ?_
        refine a_iret X hr dX8_lucky_72 ⟨by decide, by decide⟩ ?_
        subst hF
        rw [← Option.some.inj h]
        exact ⟨rfl, rfl⟩
      · replace h := (if_neg h_39).symm.trans h
        refine a_aload_n X dX8_lucky_42 rfl ?_
        refine a_iload_n X dX8_lucky_43 rfl ?_
        obtain ⟨e_44, f_44, h⟩ := zBx h
        refine a_callVu X dX8_lucky_44 miX8_laysResult lm8_361 (t_X8_laysResult (by assumption) f_44) (by assumption) rfl rfl rfl (Nat.le_of_ble_eq_true rfl) ⟨by decide, by decide, by decide, by decide⟩ ?_
        refine a_aload_n X dX8_lucky_47 rfl ?_
        refine a_iload_n X dX8_lucky_48 rfl ?_
        obtain ⟨e_49, f_49, h⟩ := zBx h
        refine a_callVx X dX8_lucky_49 miX8_hasFirst lm8_387 (t_X8_hasFirst (by assumption) f_49) (by assumption) rfl rfl rfl (Nat.le_of_ble_eq_true rfl) ⟨by decide, by decide, by decide, by decide⟩ (fun r_49 S_49 q_49 => ?_)
        obtain ⟨rfl, rfl, b_49⟩ := q_49
        refine a_if_eq (tgt := 61) X dX8_lucky_52 (by decide) (fun h_52 => ?_) (fun h_52 => ?_)
        · replace h := (if_pos h_52).symm.trans h
          refine a_iinc (v := x3_34 + 1) X dX8_lucky_61 (by decide) rfl zi_1 ?_
          refine a_goto (tgt := 34) X dX8_lucky_64 (by decide) ?_
          exact Zw.to2 (ih_34 _ _ _ _ _ h) rfl rfl rfl
        · replace h := (if_neg h_52).symm.trans h
          refine a_aload_n X dX8_lucky_55 rfl ?_
          refine a_iload_n X dX8_lucky_56 rfl ?_
          obtain ⟨e_57, f_57, h⟩ := zBx h
          refine a_callVv X dX8_lucky_57 miX8_gives lm8_272 (t_X8_gives (by assumption) f_57) (by assumption) rfl rfl rfl (Nat.le_of_ble_eq_true rfl) ⟨by decide, by decide, by decide, by decide⟩ ?_
          refine a_iret X hr dX8_lucky_60 ⟨by decide, by decide⟩ ?_
          subst hF
          rw [← Option.some.inj h]
          exact ⟨rfl, rfl⟩
  have H_34 : ∀ (x1_34 : Int32) (x2_34 : Int32) (x3_34 : Int32) (M_34 : zMt) (N_34 : zNt), D_X8_lucky_34 P zFu x1_34 x2_34 x3_34 M_34 N_34 = some r → Zw p l e { frames := 5, cells := 0, slots := 0, locals := 80 * (5) } s m args below meth c G b 4 (MQ below (zQ G b FQ) args s 0 0 (fun q : Nat => b ≤ q)) 0 0 34 [some (.ref (P)), some (.int x1_34), some (.int x2_34), some (.int x3_34)] [] (L, M_34, N_34) := L_34 zFu
  unfold D_X8_lucky at h
  refine a_iload_n X dX8_lucky_0 rfl ?_
  refine a_i2l X dX8_lucky_1 ?_
  refine a_lconst (v := 0) X dX8_lucky_2 (by decide) ?_
  refine a_ldc2 X dX8_lucky_3 lk8_385 ?_
  obtain ⟨e_6, f_6, h⟩ := zBx h
  refine a_callSx X dX8_lucky_6 miX8_isFrom lm8_128 (t_X8_isFrom f_6) rfl rfl (Nat.le_of_ble_eq_true rfl) ⟨by decide, by decide, by decide, by decide⟩ (fun r_6 S_6 q_6 => ?_)
  obtain ⟨rfl, rfl, b_6⟩ := q_6
  refine a_if_ne (tgt := 18) X dX8_lucky_9 (by decide) (fun h_9 => ?_) (fun h_9 => ?_)
  · replace h := (if_neg h_9).symm.trans h
    refine a_aload_n X dX8_lucky_18 rfl ?_
    refine a_iload_n X dX8_lucky_19 rfl ?_
    obtain ⟨e_20, f_20, h⟩ := zBx h
    refine a_callVx X dX8_lucky_20 miX8_isApplicant lm8_315 (t_X8_isApplicant (by assumption) f_20) (by assumption) rfl rfl rfl (Nat.le_of_ble_eq_true rfl) ⟨by decide, by decide, by decide, by decide⟩ (fun r_20 S_20 q_20 => ?_)
    obtain ⟨rfl, rfl, b_20⟩ := q_20
    refine a_if_ne (tgt := 32) X dX8_lucky_23 (by decide) (fun h_23 => ?_) (fun h_23 => ?_)
    · replace h := (if_neg h_23).symm.trans h
      refine a_iload_n X dX8_lucky_32 rfl ?_
      refine a_istore_n X dX8_lucky_33 (by decide) ?_
      exact Zw.to2 (H_34 _ _ _ _ _ h) rfl rfl rfl
    · replace h := (if_pos h_23).symm.trans h
      refine a_aload_n X dX8_lucky_26 rfl ?_
      refine a_iconst (v := 2) X dX8_lucky_27 (by decide) ?_
      obtain ⟨e_28, f_28, h⟩ := zBx h
      refine a_callVv X dX8_lucky_28 miX8_refuse lm8_263 (t_X8_refuse (by assumption) f_28) (by assumption) rfl rfl rfl (Nat.le_of_ble_eq_true rfl) ⟨by decide, by decide, by decide, by decide⟩ ?_
      refine a_iret X hr dX8_lucky_31 ⟨by decide, by decide⟩ ?_
      subst hF
      rw [← Option.some.inj h]
      exact ⟨rfl, rfl⟩
  · replace h := (if_pos h_9).symm.trans h
    refine a_aload_n X dX8_lucky_12 rfl ?_
    refine a_iconst (v := 1) X dX8_lucky_13 (by decide) ?_
    obtain ⟨e_14, f_14, h⟩ := zBx h
    refine a_callVv X dX8_lucky_14 miX8_refuse lm8_263 (t_X8_refuse (by assumption) f_14) (by assumption) rfl rfl rfl (Nat.le_of_ble_eq_true rfl) ⟨by decide, by decide, by decide, by decide⟩ ?_
    refine a_iret X hr dX8_lucky_17 ⟨by decide, by decide⟩ ?_
    subst hF
    rw [← Option.some.inj h]
    exact ⟨rfl, rfl⟩
noncomputable def D_X8_adds_208 (P : Nat) (x3_208 : Int32) (y1_208 : Int64) (y2_208 : Int64) (M_208 : zMt) (N_208 : zNt) : Option (zMt × zNt) :=
  zLt (zu N_208 P 59 (y1_208 + y2_208)) fun N_209 =>
  zLt (zu M_208 P 54 ((M_208 P 54) &&& x3_208)) fun M_219 =>
  zLt (zu M_219 P 55 ((M_219 P 55) ||| x3_208)) fun M_229 =>
  zI x3_208 128 <|
  zLt (zu M_229 (P + 29) x3_208.toNatClampNeg (1 : Int32)) fun M_238 =>
  zB (D_X8_givenTags P M_238) fun e_245 =>
  zLt (zu M_238 P 56 (if e_245 < (M_238 P 56) then e_245 else (M_238 P 56))) fun M_251 =>
  zB (D_X8_givenTags P M_251) fun e_260 =>
  zLt (zu M_251 P 57 (if (M_251 P 57) < e_260 then e_260 else (M_251 P 57))) fun M_266 =>
  some (M_266, N_209)
noncomputable def D_X8_adds_181 (P : Nat) (k5 : Int64 → Int32 → Int32 → zMt → zNt → Option (zMt × zNt)) (x1_181 : Int64) (x3_181 : Int32) (x4_181 : Int32) (M_181 : zMt) (N_181 : zNt) : Option (zMt × zNt) :=
  k5 x1_181 x3_181 (x4_181 + 1) M_181 N_181
noncomputable def D_X8_adds_173 (P : Nat) (k5 : Int64 → Int32 → Int32 → zMt → zNt → Option (zMt × zNt)) (k134 : Int64 → Int32 → Int32 → Int32 → zMt → zNt → Option (zMt × zNt)) (x1_173 : Int64) (x3_173 : Int32) (x4_173 : Int32) (x5_173 : Int32) (y1_173 : Int32) (y2_173 : Int64) (y3_173 : Int64) (M_173 : zMt) (N_173 : zNt) : Option (zMt × zNt) :=
  zI y1_173 49 <|
  zLt (zu N_173 (P + 27) y1_173.toNatClampNeg (y2_173 + y3_173)) fun N_174 =>
  k134 x1_173 x3_173 x4_173 (x5_173 + 1) M_173 N_174
noncomputable def D_X8_adds_134 (P : Nat) (k5 : Int64 → Int32 → Int32 → zMt → zNt → Option (zMt × zNt)) : Nat → Int64 → Int32 → Int32 → Int32 → zMt → zNt → Option (zMt × zNt)
  | 0, _, _, _, _, _, _ => none
  | n + 1, x1_134, x3_134, x4_134, x5_134, M_134, N_134 =>
    if (M_134 P 33) ≤ x5_134 then
      D_X8_adds_181 P k5 x1_134 x3_134 x4_134 M_134 N_134
    else
      zI (((7 : Int32) * x4_134) + x5_134) 49 <|
      zI x5_134 10 <|
      if (M_134 (P + 19) x5_134.toNatClampNeg) = (-1 : Int32) then
        D_X8_adds_173 P k5 (D_X8_adds_134 P k5 n) x1_134 x3_134 x4_134 x5_134 (((7 : Int32) * x4_134) + x5_134) (N_134 (P + 27) (((7 : Int32) * x4_134) + x5_134).toNatClampNeg) (0 : Int64) M_134 N_134
      else
        D_X8_adds_173 P k5 (D_X8_adds_134 P k5 n) x1_134 x3_134 x4_134 x5_134 (((7 : Int32) * x4_134) + x5_134) (N_134 (P + 27) (((7 : Int32) * x4_134) + x5_134).toNatClampNeg) x1_134 M_134 N_134
noncomputable def D_X8_adds_104 (P : Nat) (k5 : Int64 → Int32 → Int32 → zMt → zNt → Option (zMt × zNt)) (x1_104 : Int64) (x3_104 : Int32) (x4_104 : Int32) (y1_104 : Int32) (y2_104 : Int64) (y3_104 : Int64) (M_104 : zMt) (N_104 : zNt) : Option (zMt × zNt) :=
  zI y1_104 7 <|
  zLt (zu N_104 (P + 26) y1_104.toNatClampNeg (y2_104 + y3_104)) fun N_105 =>
  zI x4_104 10 <|
  zI (M_104 (P + 19) x4_104.toNatClampNeg) 5 <|
  zI x4_104 10 <|
  zI (M_104 (P + 19) x4_104.toNatClampNeg) 5 <|
  zLt (zu N_105 (P + 28) (M_104 (P + 19) x4_104.toNatClampNeg).toNatClampNeg ((N_105 (P + 28) (M_104 (P + 19) x4_104.toNatClampNeg).toNatClampNeg) + (x1_104 * (Int32.toInt64 (M_104 (P + 14) x4_104.toNatClampNeg))))) fun N_130 =>
  D_X8_adds_134 P k5 zFu x1_104 x3_104 x4_104 (0 : Int32) M_104 N_130
noncomputable def D_X8_adds_78 (P : Nat) (k5 : Int64 → Int32 → Int32 → zMt → zNt → Option (zMt × zNt)) (x1_78 : Int64) (x3_78 : Int32) (x4_78 : Int32) (y1_78 : Int32) (y2_78 : Int64) (y3_78 : Int64) (M_78 : zMt) (N_78 : zNt) : Option (zMt × zNt) :=
  zI y1_78 7 <|
  zLt (zu N_78 (P + 25) y1_78.toNatClampNeg (y2_78 + y3_78)) fun N_79 =>
  zI x4_78 7 <|
  zI x4_78 10 <|
  if (M_78 (P + 20) x4_78.toNatClampNeg) = (1 : Int32) then
    D_X8_adds_104 P k5 x1_78 x3_78 x4_78 x4_78 (N_79 (P + 26) x4_78.toNatClampNeg) x1_78 M_78 N_79
  else
    D_X8_adds_104 P k5 x1_78 x3_78 x4_78 x4_78 (N_79 (P + 26) x4_78.toNatClampNeg) (0 : Int64) M_78 N_79
noncomputable def D_X8_adds_5 (P : Nat) : Nat → Int64 → Int32 → Int32 → zMt → zNt → Option (zMt × zNt)
  | 0, _, _, _, _, _ => none
  | n + 1, x1_5, x3_5, x4_5, M_5, N_5 =>
    if (M_5 P 33) ≤ x4_5 then
      if ((M_5 P 58) &&& (x3_5 ^^^ (-1 : Int32))) = 0 then
        D_X8_adds_208 P x3_5 (N_5 P 59) x1_5 M_5 N_5
      else
        D_X8_adds_208 P x3_5 (N_5 P 59) (0 : Int64) M_5 N_5
    else
      zI x4_5 10 <|
      if (M_5 (P + 19) x4_5.toNatClampNeg) = (-1 : Int32) then
        D_X8_adds_181 P (D_X8_adds_5 P n) x1_5 x3_5 x4_5 M_5 N_5
      else
        zI x4_5 10 <|
        zI (((5 : Int32) * x4_5) + (M_5 (P + 19) x4_5.toNatClampNeg)) 35 <|
        zI (((5 : Int32) * x4_5) + (M_5 (P + 19) x4_5.toNatClampNeg)) 35 <|
        zLt (zu N_5 (P + 24) (((5 : Int32) * x4_5) + (M_5 (P + 19) x4_5.toNatClampNeg)).toNatClampNeg ((N_5 (P + 24) (((5 : Int32) * x4_5) + (M_5 (P + 19) x4_5.toNatClampNeg)).toNatClampNeg) + x1_5)) fun N_55 =>
        zI x4_5 7 <|
        zB (D_X8_hasFirst P M_5 x4_5) fun e_67 =>
        if e_67 = 0 then
          D_X8_adds_78 P (D_X8_adds_5 P n) x1_5 (x3_5 ||| ((1 : Int32) <<< (x4_5 &&& 31))) x4_5 x4_5 (N_55 (P + 25) x4_5.toNatClampNeg) (0 : Int64) M_5 N_55
        else
          D_X8_adds_78 P (D_X8_adds_5 P n) x1_5 (x3_5 ||| ((1 : Int32) <<< (x4_5 &&& 31))) x4_5 x4_5 (N_55 (P + 25) x4_5.toNatClampNeg) x1_5 M_5 N_55
noncomputable def D_X8_adds (P : Nat) (v0 : Int64) (M : zMt) (N : zNt) : Option (zMt × zNt) :=
  D_X8_adds_5 P zFu v0 (0 : Int32) (0 : Int32) M N
set_option maxRecDepth 100000 in
set_option maxHeartbeats 4000000 in
theorem t_X8_adds {l : Launch} {G : zG} {b : Nat} {L : List zC} {M : zMt} {N : zNt} {P : Nat} {v0 : Int64} (hP : LX8 L P) {r : zMt × zNt} (h : D_X8_adds P v0 M N = some r) : zM l G b yX8_adds cX8_adds 6 none 2 0 0 [.ref P, .long v0] (L, M, N) (fun r2 z => r2 = none ∧ z = (L, r.1, r.2)) := by
  refine zM.of miX8_adds (Nat.le_of_ble_eq_true rfl) ?_
  intro p e s m args below meth c X hr hname
  generalize hF : ((fun r2 z => r2 = none ∧ z = (L, r.1, r.2)) : Option Value → zS → Prop) = FQ
  change Zw p l e { frames := 2, cells := 0, slots := 0, locals := 80 * (2) } s m args below meth c G b 6 (MQ below (zQ G b FQ) args s 0 0 (fun q : Nat => b ≤ q)) 0 0 0 [some (.ref P), some (.long v0), none, none, none, none] [] (L, M, N)
  obtain ⟨p_lt, p_o, p_s, p_read, p_aside, p_kept, p_guest, p_readGuest, p_tape, p_unitName, p_hunterName, p_partyName, p_bits, p_partyOf, p_choiceAt, p_sizes, p_guestMany, p_pointsOf, p_ticketsOf, p_ord, p_given, p_roundOf, p_tags, p_guestTags, p_places, p_sumAt, p_sumFirst, p_sumRound, p_sumBoth, p_sumTags, p_isEnd, p_newPoints, p_inRow, p_out⟩ := id hP
  have J_208 : ∀ (x1_208 : Int64) (x3_208 : Int32) (x4_208 : Int32) (x5_208 : Option Value) (y1_208 : Int64) (y2_208 : Int64) (M_208 : zMt) (N_208 : zNt), D_X8_adds_208 P x3_208 y1_208 y2_208 M_208 N_208 = some r → Zw p l e { frames := 2, cells := 0, slots := 0, locals := 80 * (2) } s m args below meth c G b 6 (MQ below (zQ G b FQ) args s 0 0 (fun q : Nat => b ≤ q)) 0 0 208 [some (.ref (P)), some (.long x1_208), none, some (.int x3_208), some (.int x4_208), x5_208] [.long y2_208, .long y1_208, .ref (P)] (L, M_208, N_208) := by
    intro x1_208 x3_208 x4_208 x5_208 y1_208 y2_208 M_208 N_208 h
    unfold D_X8_adds_208 at h
    refine a_ladd X dX8_adds_208 ?_
    obtain ⟨N_209, f_209, h⟩ := zLtx h
    refine d_putl X lf8_393 (by assumption) rfl dX8_adds_209 f_209 ?_
    refine a_aload_n X dX8_adds_212 rfl ?_
    refine a_dup X dX8_adds_213 rfl ?_
    refine a_geti X lf8_396 (by assumption) rfl dX8_adds_214 ?_
    refine a_iload_n X dX8_adds_217 rfl ?_
    refine a_iand X dX8_adds_218 ?_
    obtain ⟨M_219, f_219, h⟩ := zLtx h
    refine d_puti X lf8_396 (by assumption) rfl dX8_adds_219 f_219 ?_
    refine a_aload_n X dX8_adds_222 rfl ?_
    refine a_dup X dX8_adds_223 rfl ?_
    refine a_geti X lf8_399 (by assumption) rfl dX8_adds_224 ?_
    refine a_iload_n X dX8_adds_227 rfl ?_
    refine a_ior X dX8_adds_228 ?_
    obtain ⟨M_229, f_229, h⟩ := zLtx h
    refine d_puti X lf8_399 (by assumption) rfl dX8_adds_229 f_229 ?_
    refine a_aload_n X dX8_adds_232 rfl ?_
    refine a_getr X lf8_103 (by assumption) rfl (by omega) dX8_adds_233 ?_
    refine a_iload_n X dX8_adds_236 rfl ?_
    refine a_iconst (v := 1) X dX8_adds_237 (by decide) ?_
    obtain ⟨g_238, h⟩ := zIx h
    obtain ⟨M_238, f_238, h⟩ := zLtx h
    refine d_bastore X (by first | exact Or.inl rfl | exact Or.inr rfl | assumption) (by assumption) g_238 dX8_adds_238 f_238 ?_
    refine a_aload_n X dX8_adds_239 rfl ?_
    refine a_aload_n X dX8_adds_240 rfl ?_
    refine a_geti X lf8_402 (by assumption) rfl dX8_adds_241 ?_
    refine a_aload_n X dX8_adds_244 rfl ?_
    obtain ⟨e_245, f_245, h⟩ := zBx h
    refine a_callVv X dX8_adds_245 miX8_givenTags lm8_421 (t_X8_givenTags (by assumption) f_245) (by assumption) rfl rfl rfl (Nat.le_of_ble_eq_true rfl) ⟨by decide, by decide, by decide, by decide⟩ ?_
    refine a_mmin X lm8_366 zmath2 zmath0 zmathc2 ⟨by decide, Nat.le_of_ble_eq_true rfl, by decide, by decide⟩ dX8_adds_248 ?_
    obtain ⟨M_251, f_251, h⟩ := zLtx h
    refine d_puti X lf8_402 (by assumption) rfl dX8_adds_251 f_251 ?_
    refine a_aload_n X dX8_adds_254 rfl ?_
    refine a_aload_n X dX8_adds_255 rfl ?_
    refine a_geti X lf8_405 (by assumption) rfl dX8_adds_256 ?_
    refine a_aload_n X dX8_adds_259 rfl ?_
    obtain ⟨e_260, f_260, h⟩ := zBx h
    refine a_callVv X dX8_adds_260 miX8_givenTags lm8_421 (t_X8_givenTags (by assumption) f_260) (by assumption) rfl rfl rfl (Nat.le_of_ble_eq_true rfl) ⟨by decide, by decide, by decide, by decide⟩ ?_
    refine a_mmax X lm8_424 zmath1 zmath0 zmathc1 ⟨by decide, Nat.le_of_ble_eq_true rfl, by decide, by decide⟩ dX8_adds_263 ?_
    obtain ⟨M_266, f_266, h⟩ := zLtx h
    refine d_puti X lf8_405 (by assumption) rfl dX8_adds_266 f_266 ?_
    refine a_vret X hr dX8_adds_269 ⟨by decide, by decide⟩ ?_
    subst hF
    rw [← Option.some.inj h]
    exact ⟨rfl, rfl⟩
  have L_5 : ∀ u : Nat, ∀ (x1_5 : Int64) (x3_5 : Int32) (x4_5 : Int32) (x5_5 : Option Value) (M_5 : zMt) (N_5 : zNt), D_X8_adds_5 P u x1_5 x3_5 x4_5 M_5 N_5 = some r → Zw p l e { frames := 2, cells := 0, slots := 0, locals := 80 * (2) } s m args below meth c G b 6 (MQ below (zQ G b FQ) args s 0 0 (fun q : Nat => b ≤ q)) 0 0 5 [some (.ref (P)), some (.long x1_5), none, some (.int x3_5), some (.int x4_5), x5_5] [] (L, M_5, N_5) := by
    intro u
    induction u with
    | zero => intro x1_5 x3_5 x4_5 x5_5 M_5 N_5 h; cases (show none = some r from h)
    | succ u_5 ih_5 =>
      have J_181 : ∀ (x1_181 : Int64) (x3_181 : Int32) (x4_181 : Int32) (x5_181 : Option Value) (M_181 : zMt) (N_181 : zNt), D_X8_adds_181 P (D_X8_adds_5 P u_5) x1_181 x3_181 x4_181 M_181 N_181 = some r → Zw p l e { frames := 2, cells := 0, slots := 0, locals := 80 * (2) } s m args below meth c G b 6 (MQ below (zQ G b FQ) args s 0 0 (fun q : Nat => b ≤ q)) 0 0 181 [some (.ref (P)), some (.long x1_181), none, some (.int x3_181), some (.int x4_181), x5_181] [] (L, M_181, N_181) := by
        intro x1_181 x3_181 x4_181 x5_181 M_181 N_181 h
        unfold D_X8_adds_181 at h
        refine a_iinc (v := x4_181 + 1) X dX8_adds_181 (by decide) rfl zi_1 ?_
        refine a_goto (tgt := 5) X dX8_adds_184 (by decide) ?_
        exact Zw.to2 (ih_5 _ _ _ _ _ _ h) rfl rfl rfl
      have L_134 : ∀ u : Nat, ∀ (x1_134 : Int64) (x3_134 : Int32) (x4_134 : Int32) (x5_134 : Int32) (M_134 : zMt) (N_134 : zNt), D_X8_adds_134 P (D_X8_adds_5 P u_5) u x1_134 x3_134 x4_134 x5_134 M_134 N_134 = some r → Zw p l e { frames := 2, cells := 0, slots := 0, locals := 80 * (2) } s m args below meth c G b 6 (MQ below (zQ G b FQ) args s 0 0 (fun q : Nat => b ≤ q)) 0 0 134 [some (.ref (P)), some (.long x1_134), none, some (.int x3_134), some (.int x4_134), some (.int x5_134)] [] (L, M_134, N_134) := by
        intro u
        induction u with
        | zero => intro x1_134 x3_134 x4_134 x5_134 M_134 N_134 h; cases (show none = some r from h)
        | succ u_134 ih_134 =>
          have J_173 : ∀ (x1_173 : Int64) (x3_173 : Int32) (x4_173 : Int32) (x5_173 : Int32) (y1_173 : Int32) (y2_173 : Int64) (y3_173 : Int64) (M_173 : zMt) (N_173 : zNt), D_X8_adds_173 P (D_X8_adds_5 P u_5) (D_X8_adds_134 P (D_X8_adds_5 P u_5) u_134) x1_173 x3_173 x4_173 x5_173 y1_173 y2_173 y3_173 M_173 N_173 = some r → Zw p l e { frames := 2, cells := 0, slots := 0, locals := 80 * (2) } s m args below meth c G b 6 (MQ below (zQ G b FQ) args s 0 0 (fun q : Nat => b ≤ q)) 0 0 173 [some (.ref (P)), some (.long x1_173), none, some (.int x3_173), some (.int x4_173), some (.int x5_173)] [.long y3_173, .long y2_173, .int y1_173, .ref (P + 27)] (L, M_173, N_173) := by
            intro x1_173 x3_173 x4_173 x5_173 y1_173 y2_173 y3_173 M_173 N_173 h
            unfold D_X8_adds_173 at h
            refine a_ladd X dX8_adds_173 ?_
            obtain ⟨g_174, h⟩ := zIx h
            obtain ⟨N_174, f_174, h⟩ := zLtx h
            refine d_lastore X (by assumption) g_174 dX8_adds_174 f_174 ?_
            refine a_iinc (v := x5_173 + 1) X dX8_adds_175 (by decide) rfl zi_1 ?_
            refine a_goto (tgt := 134) X dX8_adds_178 (by decide) ?_
            exact Zw.to2 (ih_134 _ _ _ _ _ _ h) rfl rfl rfl
          intro x1_134 x3_134 x4_134 x5_134 M_134 N_134 h
          rw [D_X8_adds_134] at h
          refine a_iload X dX8_adds_134 rfl ?_
          refine a_aload_n X dX8_adds_136 rfl ?_
          refine a_geti X lf8_275 (by assumption) rfl dX8_adds_137 ?_
          refine a_icmp_ge (tgt := 181) X dX8_adds_140 (by decide) (fun h_140 => ?_) (fun h_140 => ?_)
          · replace h := (if_pos h_140).symm.trans h
            exact Zw.to2 (J_181 _ _ _ _ _ _ h) rfl rfl rfl
          · replace h := (if_neg h_140).symm.trans h
            refine a_aload_n X dX8_adds_143 rfl ?_
            refine a_getr X lf8_97 (by assumption) rfl (by omega) dX8_adds_144 ?_
            refine a_bipush (v := 7) X dX8_adds_147 (by decide) ?_
            refine a_iload X dX8_adds_149 rfl ?_
            refine a_imul X dX8_adds_151 ?_
            refine a_iload X dX8_adds_152 rfl ?_
            refine a_iadd X dX8_adds_154 ?_
            refine a_dup2 X dX8_adds_155 rfl rfl ?_
            obtain ⟨g_156, h⟩ := zIx h
            refine a_laload X (by assumption) g_156 dX8_adds_156 ?_
            refine a_aload_n X dX8_adds_157 rfl ?_
            refine a_getr X lf8_73 (by assumption) rfl (by omega) dX8_adds_158 ?_
            refine a_iload X dX8_adds_161 rfl ?_
            obtain ⟨g_163, h⟩ := zIx h
            refine a_iaload X (by assumption) g_163 dX8_adds_163 ?_
            refine a_iconst (v := -1) X dX8_adds_164 (by decide) ?_
            refine a_icmp_ne (tgt := 172) X dX8_adds_165 (by decide) (fun h_165 => ?_) (fun h_165 => ?_)
            · replace h := (if_neg h_165).symm.trans h
              refine a_lload_n X dX8_adds_172 rfl ?_
              exact Zw.to2 (J_173 _ _ _ _ _ _ _ _ _ h) rfl rfl rfl
            · replace h := (if_pos h_165).symm.trans h
              refine a_lconst (v := 0) X dX8_adds_168 (by decide) ?_
              refine a_goto (tgt := 173) X dX8_adds_169 (by decide) ?_
              exact Zw.to2 (J_173 _ _ _ _ _ _ _ _ _ h) rfl rfl rfl
      have H_134 : ∀ (x1_134 : Int64) (x3_134 : Int32) (x4_134 : Int32) (x5_134 : Int32) (M_134 : zMt) (N_134 : zNt), D_X8_adds_134 P (D_X8_adds_5 P u_5) zFu x1_134 x3_134 x4_134 x5_134 M_134 N_134 = some r → Zw p l e { frames := 2, cells := 0, slots := 0, locals := 80 * (2) } s m args below meth c G b 6 (MQ below (zQ G b FQ) args s 0 0 (fun q : Nat => b ≤ q)) 0 0 134 [some (.ref (P)), some (.long x1_134), none, some (.int x3_134), some (.int x4_134), some (.int x5_134)] [] (L, M_134, N_134) := L_134 zFu
      have J_104 : ∀ (x1_104 : Int64) (x3_104 : Int32) (x4_104 : Int32) (x5_104 : Option Value) (y1_104 : Int32) (y2_104 : Int64) (y3_104 : Int64) (M_104 : zMt) (N_104 : zNt), D_X8_adds_104 P (D_X8_adds_5 P u_5) x1_104 x3_104 x4_104 y1_104 y2_104 y3_104 M_104 N_104 = some r → Zw p l e { frames := 2, cells := 0, slots := 0, locals := 80 * (2) } s m args below meth c G b 6 (MQ below (zQ G b FQ) args s 0 0 (fun q : Nat => b ≤ q)) 0 0 104 [some (.ref (P)), some (.long x1_104), none, some (.int x3_104), some (.int x4_104), x5_104] [.long y3_104, .long y2_104, .int y1_104, .ref (P + 26)] (L, M_104, N_104) := by
        intro x1_104 x3_104 x4_104 x5_104 y1_104 y2_104 y3_104 M_104 N_104 h
        unfold D_X8_adds_104 at h
        refine a_ladd X dX8_adds_104 ?_
        obtain ⟨g_105, h⟩ := zIx h
        obtain ⟨N_105, f_105, h⟩ := zLtx h
        refine d_lastore X (by assumption) g_105 dX8_adds_105 f_105 ?_
        refine a_aload_n X dX8_adds_106 rfl ?_
        refine a_getr X lf8_100 (by assumption) rfl (by omega) dX8_adds_107 ?_
        refine a_aload_n X dX8_adds_110 rfl ?_
        refine a_getr X lf8_73 (by assumption) rfl (by omega) dX8_adds_111 ?_
        refine a_iload X dX8_adds_114 rfl ?_
        obtain ⟨g_116, h⟩ := zIx h
        refine a_iaload X (by assumption) g_116 dX8_adds_116 ?_
        refine a_dup2 X dX8_adds_117 rfl rfl ?_
        obtain ⟨g_118, h⟩ := zIx h
        refine a_laload X (by assumption) g_118 dX8_adds_118 ?_
        refine a_lload_n X dX8_adds_119 rfl ?_
        refine a_aload_n X dX8_adds_120 rfl ?_
        refine a_getr X lf8_58 (by assumption) rfl (by omega) dX8_adds_121 ?_
        refine a_iload X dX8_adds_124 rfl ?_
        obtain ⟨g_126, h⟩ := zIx h
        refine a_iaload X (by assumption) g_126 dX8_adds_126 ?_
        refine a_i2l X dX8_adds_127 ?_
        refine a_lmul X dX8_adds_128 ?_
        refine a_ladd X dX8_adds_129 ?_
        obtain ⟨g_130, h⟩ := zIx h
        obtain ⟨N_130, f_130, h⟩ := zLtx h
        refine d_lastore X (by assumption) g_130 dX8_adds_130 f_130 ?_
        refine a_iconst (v := 0) X dX8_adds_131 (by decide) ?_
        refine a_istore X dX8_adds_132 (by decide) ?_
        exact Zw.to2 (H_134 _ _ _ _ _ _ h) rfl rfl rfl
      have J_78 : ∀ (x1_78 : Int64) (x3_78 : Int32) (x4_78 : Int32) (x5_78 : Option Value) (y1_78 : Int32) (y2_78 : Int64) (y3_78 : Int64) (M_78 : zMt) (N_78 : zNt), D_X8_adds_78 P (D_X8_adds_5 P u_5) x1_78 x3_78 x4_78 y1_78 y2_78 y3_78 M_78 N_78 = some r → Zw p l e { frames := 2, cells := 0, slots := 0, locals := 80 * (2) } s m args below meth c G b 6 (MQ below (zQ G b FQ) args s 0 0 (fun q : Nat => b ≤ q)) 0 0 78 [some (.ref (P)), some (.long x1_78), none, some (.int x3_78), some (.int x4_78), x5_78] [.long y3_78, .long y2_78, .int y1_78, .ref (P + 25)] (L, M_78, N_78) := by
        intro x1_78 x3_78 x4_78 x5_78 y1_78 y2_78 y3_78 M_78 N_78 h
        unfold D_X8_adds_78 at h
        refine a_ladd X dX8_adds_78 ?_
        obtain ⟨g_79, h⟩ := zIx h
        obtain ⟨N_79, f_79, h⟩ := zLtx h
        refine d_lastore X (by assumption) g_79 dX8_adds_79 f_79 ?_
        refine a_aload_n X dX8_adds_80 rfl ?_
        refine a_getr X lf8_94 (by assumption) rfl (by omega) dX8_adds_81 ?_
        refine a_iload X dX8_adds_84 rfl ?_
        refine a_dup2 X dX8_adds_86 rfl rfl ?_
        obtain ⟨g_87, h⟩ := zIx h
        refine a_laload X (by assumption) g_87 dX8_adds_87 ?_
        refine a_aload_n X dX8_adds_88 rfl ?_
        refine a_getr X lf8_76 (by assumption) rfl (by omega) dX8_adds_89 ?_
        refine a_iload X dX8_adds_92 rfl ?_
        obtain ⟨g_94, h⟩ := zIx h
        refine a_iaload X (by assumption) g_94 dX8_adds_94 ?_
        refine a_iconst (v := 1) X dX8_adds_95 (by decide) ?_
        refine a_icmp_ne (tgt := 103) X dX8_adds_96 (by decide) (fun h_96 => ?_) (fun h_96 => ?_)
        · replace h := (if_neg h_96).symm.trans h
          refine a_lconst (v := 0) X dX8_adds_103 (by decide) ?_
          exact Zw.to2 (J_104 _ _ _ _ _ _ _ _ _ h) rfl rfl rfl
        · replace h := (if_pos h_96).symm.trans h
          refine a_lload_n X dX8_adds_99 rfl ?_
          refine a_goto (tgt := 104) X dX8_adds_100 (by decide) ?_
          exact Zw.to2 (J_104 _ _ _ _ _ _ _ _ _ h) rfl rfl rfl
      intro x1_5 x3_5 x4_5 x5_5 M_5 N_5 h
      rw [D_X8_adds_5] at h
      refine a_iload X dX8_adds_5 rfl ?_
      refine a_aload_n X dX8_adds_7 rfl ?_
      refine a_geti X lf8_275 (by assumption) rfl dX8_adds_8 ?_
      refine a_icmp_ge (tgt := 187) X dX8_adds_11 (by decide) (fun h_11 => ?_) (fun h_11 => ?_)
      · replace h := (if_pos h_11).symm.trans h
        refine a_aload_n X dX8_adds_187 rfl ?_
        refine a_dup X dX8_adds_188 rfl ?_
        refine a_getl X lf8_393 (by assumption) rfl dX8_adds_189 ?_
        refine a_aload_n X dX8_adds_192 rfl ?_
        refine a_geti X lf8_418 (by assumption) rfl dX8_adds_193 ?_
        refine a_iload_n X dX8_adds_196 rfl ?_
        refine a_iconst (v := -1) X dX8_adds_197 (by decide) ?_
        refine a_ixor X dX8_adds_198 ?_
        refine a_iand X dX8_adds_199 ?_
        refine a_if_ne (tgt := 207) X dX8_adds_200 (by decide) (fun h_200 => ?_) (fun h_200 => ?_)
        · replace h := (if_neg h_200).symm.trans h
          refine a_lconst (v := 0) X dX8_adds_207 (by decide) ?_
          exact Zw.to2 (J_208 _ _ _ _ _ _ _ _ h) rfl rfl rfl
        · replace h := (if_pos h_200).symm.trans h
          refine a_lload_n X dX8_adds_203 rfl ?_
          refine a_goto (tgt := 208) X dX8_adds_204 (by decide) ?_
          exact Zw.to2 (J_208 _ _ _ _ _ _ _ _ h) rfl rfl rfl
      · replace h := (if_neg h_11).symm.trans h
        refine a_aload_n X dX8_adds_14 rfl ?_
        refine a_getr X lf8_73 (by assumption) rfl (by omega) dX8_adds_15 ?_
        refine a_iload X dX8_adds_18 rfl ?_
        obtain ⟨g_20, h⟩ := zIx h
        refine a_iaload X (by assumption) g_20 dX8_adds_20 ?_
        refine a_iconst (v := -1) X dX8_adds_21 (by decide) ?_
        refine a_icmp_ne (tgt := 28) X dX8_adds_22 (by decide) (fun h_22 => ?_) (fun h_22 => ?_)
        · replace h := (if_neg h_22).symm.trans h
          refine a_iload_n X dX8_adds_28 rfl ?_
          refine a_iconst (v := 1) X dX8_adds_29 (by decide) ?_
          refine a_iload X dX8_adds_30 rfl ?_
          refine a_ishl X dX8_adds_32 ?_
          refine a_ior X dX8_adds_33 ?_
          refine a_istore_n X dX8_adds_34 (by decide) ?_
          refine a_aload_n X dX8_adds_35 rfl ?_
          refine a_getr X lf8_88 (by assumption) rfl (by omega) dX8_adds_36 ?_
          refine a_iconst (v := 5) X dX8_adds_39 (by decide) ?_
          refine a_iload X dX8_adds_40 rfl ?_
          refine a_imul X dX8_adds_42 ?_
          refine a_aload_n X dX8_adds_43 rfl ?_
          refine a_getr X lf8_73 (by assumption) rfl (by omega) dX8_adds_44 ?_
          refine a_iload X dX8_adds_47 rfl ?_
          obtain ⟨g_49, h⟩ := zIx h
          refine a_iaload X (by assumption) g_49 dX8_adds_49 ?_
          refine a_iadd X dX8_adds_50 ?_
          refine a_dup2 X dX8_adds_51 rfl rfl ?_
          obtain ⟨g_52, h⟩ := zIx h
          refine a_laload X (by assumption) g_52 dX8_adds_52 ?_
          refine a_lload_n X dX8_adds_53 rfl ?_
          refine a_ladd X dX8_adds_54 ?_
          obtain ⟨g_55, h⟩ := zIx h
          obtain ⟨N_55, f_55, h⟩ := zLtx h
          refine d_lastore X (by assumption) g_55 dX8_adds_55 f_55 ?_
          refine a_aload_n X dX8_adds_56 rfl ?_
          refine a_getr X lf8_91 (by assumption) rfl (by omega) dX8_adds_57 ?_
          refine a_iload X dX8_adds_60 rfl ?_
          refine a_dup2 X dX8_adds_62 rfl rfl ?_
          obtain ⟨g_63, h⟩ := zIx h
          refine a_laload X (by assumption) g_63 dX8_adds_63 ?_
          refine a_aload_n X dX8_adds_64 rfl ?_
          refine a_iload X dX8_adds_65 rfl ?_
          obtain ⟨e_67, f_67, h⟩ := zBx h
          refine a_callVx X dX8_adds_67 miX8_hasFirst lm8_387 (t_X8_hasFirst (by assumption) f_67) (by assumption) rfl rfl rfl (Nat.le_of_ble_eq_true rfl) ⟨by decide, by decide, by decide, by decide⟩ (fun r_67 S_67 q_67 => ?_)
          obtain ⟨rfl, rfl, b_67⟩ := q_67
          refine a_if_eq (tgt := 77) X dX8_adds_70 (by decide) (fun h_70 => ?_) (fun h_70 => ?_)
          · replace h := (if_pos h_70).symm.trans h
            refine a_lconst (v := 0) X dX8_adds_77 (by decide) ?_
            exact Zw.to2 (J_78 _ _ _ _ _ _ _ _ _ h) rfl rfl rfl
          · replace h := (if_neg h_70).symm.trans h
            refine a_lload_n X dX8_adds_73 rfl ?_
            refine a_goto (tgt := 78) X dX8_adds_74 (by decide) ?_
            exact Zw.to2 (J_78 _ _ _ _ _ _ _ _ _ h) rfl rfl rfl
        · replace h := (if_pos h_22).symm.trans h
          refine a_goto (tgt := 181) X dX8_adds_25 (by decide) ?_
          exact Zw.to2 (J_181 _ _ _ _ _ _ h) rfl rfl rfl
  have H_5 : ∀ (x1_5 : Int64) (x3_5 : Int32) (x4_5 : Int32) (x5_5 : Option Value) (M_5 : zMt) (N_5 : zNt), D_X8_adds_5 P zFu x1_5 x3_5 x4_5 M_5 N_5 = some r → Zw p l e { frames := 2, cells := 0, slots := 0, locals := 80 * (2) } s m args below meth c G b 6 (MQ below (zQ G b FQ) args s 0 0 (fun q : Nat => b ≤ q)) 0 0 5 [some (.ref (P)), some (.long x1_5), none, some (.int x3_5), some (.int x4_5), x5_5] [] (L, M_5, N_5) := L_5 zFu
  unfold D_X8_adds at h
  refine a_iconst (v := 0) X dX8_adds_0 (by decide) ?_
  refine a_istore_n X dX8_adds_1 (by decide) ?_
  refine a_iconst (v := 0) X dX8_adds_2 (by decide) ?_
  refine a_istore X dX8_adds_3 (by decide) ?_
  exact Zw.to2 (H_5 _ _ _ _ _ _ h) rfl rfl rfl
