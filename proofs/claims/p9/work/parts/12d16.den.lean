noncomputable def D_X8_givenTags_33 (P : Nat) (M : zMt) (k4 : Int32 → Int32 → Option (Int32)) (x2_33 : Int32) (y0_33 : Int32) (y1_33 : Int32) : Option (Int32) :=
  k4 (y0_33 + y1_33) (x2_33 + 1)
noncomputable def D_X8_givenTags_4 (P : Nat) (M : zMt) : Nat → Int32 → Int32 → Option (Int32)
  | 0, _, _ => none
  | n + 1, x1_4, x2_4 =>
    if (M P 33) ≤ x2_4 then
      some (x1_4)
    else
      zI x2_4 10 <|
      if (M (P + 19) x2_4.toNatClampNeg) = (-1 : Int32) then
        D_X8_givenTags_33 P M (D_X8_givenTags_4 P M n) x2_4 x1_4 (0 : Int32)
      else
        zI x2_4 10 <|
        D_X8_givenTags_33 P M (D_X8_givenTags_4 P M n) x2_4 x1_4 (M (P + 14) x2_4.toNatClampNeg)
noncomputable def D_X8_givenTags (P : Nat) (M : zMt)  : Option (Int32) :=
  D_X8_givenTags_4 P M zFu (0 : Int32) (0 : Int32)
set_option maxRecDepth 100000 in
set_option maxHeartbeats 4000000 in
theorem t_X8_givenTags {l : Launch} {G : zG} {b : Nat} {L : List zC} {M : zMt} {N : zNt} {P : Nat}  (hP : LX8 L P) {r : Int32} (h : D_X8_givenTags P M = some r) : zM l G b yX8_givenTags cX8_givenTags 3 (some .int) 0 0 0 [.ref P] (L, M, N) (fun r2 z => r2 = some (.int r) ∧ z = (L, M, N)) := by
  refine zM.of miX8_givenTags (Nat.le_of_ble_eq_true rfl) ?_
  intro p e s m args below meth c X hr hname
  generalize hF : ((fun r2 z => r2 = some (.int r) ∧ z = (L, M, N)) : Option Value → zS → Prop) = FQ
  change Zw p l e { frames := 0, cells := 0, slots := 0, locals := 80 * (0) } s m args below meth c G b 3 (MQ below (zQ G b FQ) args s 0 0 (fun q : Nat => b ≤ q)) 0 0 0 [some (.ref P), none, none] [] (L, M, N)
  obtain ⟨p_lt, p_o, p_s, p_read, p_aside, p_kept, p_guest, p_readGuest, p_tape, p_unitName, p_hunterName, p_partyName, p_bits, p_partyOf, p_choiceAt, p_sizes, p_guestMany, p_pointsOf, p_ticketsOf, p_ord, p_given, p_roundOf, p_tags, p_guestTags, p_places, p_sumAt, p_sumFirst, p_sumRound, p_sumBoth, p_sumTags, p_isEnd, p_newPoints, p_inRow, p_out⟩ := id hP
  have L_4 : ∀ u : Nat, ∀ (x1_4 : Int32) (x2_4 : Int32), D_X8_givenTags_4 P M u x1_4 x2_4 = some r → Zw p l e { frames := 0, cells := 0, slots := 0, locals := 80 * (0) } s m args below meth c G b 3 (MQ below (zQ G b FQ) args s 0 0 (fun q : Nat => b ≤ q)) 0 0 4 [some (.ref (P)), some (.int x1_4), some (.int x2_4)] [] (L, M, N) := by
    intro u
    induction u with
    | zero => intro x1_4 x2_4 h; cases (show none = some r from h)
    | succ u_4 ih_4 =>
      have J_33 : ∀ (x1_33 : Int32) (x2_33 : Int32) (y0_33 : Int32) (y1_33 : Int32), D_X8_givenTags_33 P M (D_X8_givenTags_4 P M u_4) x2_33 y0_33 y1_33 = some r → Zw p l e { frames := 0, cells := 0, slots := 0, locals := 80 * (0) } s m args below meth c G b 3 (MQ below (zQ G b FQ) args s 0 0 (fun q : Nat => b ≤ q)) 0 0 33 [some (.ref (P)), some (.int x1_33), some (.int x2_33)] [.int y1_33, .int y0_33] (L, M, N) := by
        intro x1_33 x2_33 y0_33 y1_33 h
        unfold D_X8_givenTags_33 at h
        refine a_iadd X dX8_givenTags_33 ?_
        refine a_istore_n X dX8_givenTags_34 (by decide) ?_
        refine a_iinc (v := x2_33 + 1) X dX8_givenTags_35 (by decide) rfl zi_1 ?_
        refine a_goto (tgt := 4) X dX8_givenTags_38 (by decide) ?_
        exact Zw.to2 (ih_4 _ _ h) rfl rfl rfl
      intro x1_4 x2_4 h
      rw [D_X8_givenTags_4] at h
      refine a_iload_n X dX8_givenTags_4 rfl ?_
      refine a_aload_n X dX8_givenTags_5 rfl ?_
      refine a_geti X lf8_275 (by assumption) rfl dX8_givenTags_6 ?_
      refine a_icmp_ge (tgt := 41) X dX8_givenTags_9 (by decide) (fun h_9 => ?_) (fun h_9 => ?_)
      · replace h := (if_pos h_9).symm.trans h
        refine a_iload_n X dX8_givenTags_41 rfl ?_
        refine a_iret X hr dX8_givenTags_42 ⟨by decide, by decide⟩ ?_
        subst hF
        rw [← Option.some.inj h]
        exact ⟨rfl, rfl⟩
      · replace h := (if_neg h_9).symm.trans h
        refine a_iload_n X dX8_givenTags_12 rfl ?_
        refine a_aload_n X dX8_givenTags_13 rfl ?_
        refine a_getr X lf8_73 (by assumption) rfl (by omega) dX8_givenTags_14 ?_
        refine a_iload_n X dX8_givenTags_17 rfl ?_
        obtain ⟨g_18, h⟩ := zIx h
        refine a_iaload X (by assumption) g_18 dX8_givenTags_18 ?_
        refine a_iconst (v := -1) X dX8_givenTags_19 (by decide) ?_
        refine a_icmp_ne (tgt := 27) X dX8_givenTags_20 (by decide) (fun h_20 => ?_) (fun h_20 => ?_)
        · replace h := (if_neg h_20).symm.trans h
          refine a_aload_n X dX8_givenTags_27 rfl ?_
          refine a_getr X lf8_58 (by assumption) rfl (by omega) dX8_givenTags_28 ?_
          refine a_iload_n X dX8_givenTags_31 rfl ?_
          obtain ⟨g_32, h⟩ := zIx h
          refine a_iaload X (by assumption) g_32 dX8_givenTags_32 ?_
          exact Zw.to2 (J_33 _ _ _ _ h) rfl rfl rfl
        · replace h := (if_pos h_20).symm.trans h
          refine a_iconst (v := 0) X dX8_givenTags_23 (by decide) ?_
          refine a_goto (tgt := 33) X dX8_givenTags_24 (by decide) ?_
          exact Zw.to2 (J_33 _ _ _ _ h) rfl rfl rfl
  have H_4 : ∀ (x1_4 : Int32) (x2_4 : Int32), D_X8_givenTags_4 P M zFu x1_4 x2_4 = some r → Zw p l e { frames := 0, cells := 0, slots := 0, locals := 80 * (0) } s m args below meth c G b 3 (MQ below (zQ G b FQ) args s 0 0 (fun q : Nat => b ≤ q)) 0 0 4 [some (.ref (P)), some (.int x1_4), some (.int x2_4)] [] (L, M, N) := L_4 zFu
  unfold D_X8_givenTags at h
  refine a_iconst (v := 0) X dX8_givenTags_0 (by decide) ?_
  refine a_istore_n X dX8_givenTags_1 (by decide) ?_
  refine a_iconst (v := 0) X dX8_givenTags_2 (by decide) ?_
  refine a_istore_n X dX8_givenTags_3 (by decide) ?_
  exact Zw.to2 (H_4 _ _ h) rfl rfl rfl
noncomputable def D_X8_draws (P : Nat) (v0 : Int32) (N : zNt) : Option (Int64 × zNt) :=
  zLt (zu N P 46 ((((1103515245 : Int64) * (N P 46)) + (12345 : Int64)) - (((1103515245 : Int64) * (N P 46)) + (12345 : Int64)) / (2147483648 : Int64) * (2147483648 : Int64))) fun N_17 =>
  zZl (Int32.toInt64 v0) <|
  some ((((N_17 P 46) / (65536 : Int64)) - ((N_17 P 46) / (65536 : Int64)) / (Int32.toInt64 v0) * (Int32.toInt64 v0)), N_17)
set_option maxRecDepth 100000 in
set_option maxHeartbeats 4000000 in
theorem t_X8_draws {l : Launch} {G : zG} {b : Nat} {L : List zC} {M : zMt} {N : zNt} {P : Nat} {v0 : Int32} (hP : LX8 L P) {r : Int64 × zNt} (h : D_X8_draws P v0 N = some r) : zM l G b yX8_draws cX8_draws 2 (some .long) 0 0 0 [.ref P, .int v0] (L, M, N) (fun r2 z => r2 = some (.long r.1) ∧ z = (L, M, r.2)) := by
  refine zM.of miX8_draws (Nat.le_of_ble_eq_true rfl) ?_
  intro p e s m args below meth c X hr hname
  generalize hF : ((fun r2 z => r2 = some (.long r.1) ∧ z = (L, M, r.2)) : Option Value → zS → Prop) = FQ
  change Zw p l e { frames := 0, cells := 0, slots := 0, locals := 80 * (0) } s m args below meth c G b 2 (MQ below (zQ G b FQ) args s 0 0 (fun q : Nat => b ≤ q)) 0 0 0 [some (.ref P), some (.int v0)] [] (L, M, N)
  obtain ⟨p_lt, p_o, p_s, p_read, p_aside, p_kept, p_guest, p_readGuest, p_tape, p_unitName, p_hunterName, p_partyName, p_bits, p_partyOf, p_choiceAt, p_sizes, p_guestMany, p_pointsOf, p_ticketsOf, p_ord, p_given, p_roundOf, p_tags, p_guestTags, p_places, p_sumAt, p_sumFirst, p_sumRound, p_sumBoth, p_sumTags, p_isEnd, p_newPoints, p_inRow, p_out⟩ := id hP
  unfold D_X8_draws at h
  refine a_aload_n X dX8_draws_0 rfl ?_
  refine a_ldc2 X dX8_draws_1 lk8_337 ?_
  refine a_aload_n X dX8_draws_4 rfl ?_
  refine a_getl X lf8_339 (by assumption) rfl dX8_draws_5 ?_
  refine a_lmul X dX8_draws_8 ?_
  refine a_ldc2 X dX8_draws_9 lk8_342 ?_
  refine a_ladd X dX8_draws_12 ?_
  refine a_ldc2 X dX8_draws_13 lk8_344 ?_
  refine a_lrem X dX8_draws_16 (by decide) ?_
  obtain ⟨N_17, f_17, h⟩ := zLtx h
  refine d_putl X lf8_339 (by assumption) rfl dX8_draws_17 f_17 ?_
  refine a_aload_n X dX8_draws_20 rfl ?_
  refine a_getl X lf8_339 (by assumption) rfl dX8_draws_21 ?_
  refine a_ldc2 X dX8_draws_24 lk8_346 ?_
  refine a_ldiv X dX8_draws_27 (by decide) ?_
  refine a_iload_n X dX8_draws_28 rfl ?_
  refine a_i2l X dX8_draws_29 ?_
  obtain ⟨z_30, h⟩ := zZlx h
  refine a_lrem X dX8_draws_30 (z_30) ?_
  refine a_lret X hr dX8_draws_31 ⟨by decide, by decide⟩ ?_
  subst hF
  rw [← Option.some.inj h]
  exact ⟨rfl, rfl⟩
noncomputable def D_X8_laysOrder_101 (P : Nat) (k45 : Int32 → Int32 → Int32 → zMt → zNt → Option (zMt × zNt)) (k67 : Int32 → Int32 → Int32 → Int64 → Int32 → Int64 → zMt → zNt → Option (zMt × zNt)) (x2_101 : Int32) (x3_101 : Int32) (x4_101 : Int32) (x5_101 : Int64) (x7_101 : Int32) (y0_101 : Int64) (y1_101 : Int64) (M_101 : zMt) (N_101 : zNt) : Option (zMt × zNt) :=
  k67 x2_101 x3_101 x4_101 x5_101 x7_101 (y0_101 + y1_101) M_101 N_101
noncomputable def D_X8_laysOrder_67 (P : Nat) (k45 : Int32 → Int32 → Int32 → zMt → zNt → Option (zMt × zNt)) : Nat → Int32 → Int32 → Int32 → Int64 → Int32 → Int64 → zMt → zNt → Option (zMt × zNt)
  | 0, _, _, _, _, _, _, _, _ => none
  | n + 1, x2_67, x3_67, x4_67, x5_67, x7_67, x8_67, M_67, N_67 =>
    if 0 < (lg_cmp x8_67 x5_67) then
      zI x4_67 10 <|
      zLt (zu M_67 (P + 18) x4_67.toNatClampNeg x7_67) fun M_115 =>
      zI x7_67 10 <|
      k45 (x2_67 ||| ((1 : Int32) <<< (x7_67 &&& 31))) (x3_67 - (M_115 (P + 17) x7_67.toNatClampNeg)) (x4_67 + 1) M_115 N_67
    else
      zB (D_X8_has x2_67 (x7_67 + 1)) fun e_83 =>
      if e_83 = 0 then
        zI (x7_67 + 1) 10 <|
        D_X8_laysOrder_101 P k45 (D_X8_laysOrder_67 P k45 n) x2_67 x3_67 x4_67 x5_67 (x7_67 + 1) x8_67 (Int32.toInt64 (M_67 (P + 17) (x7_67 + 1).toNatClampNeg)) M_67 N_67
      else
        D_X8_laysOrder_101 P k45 (D_X8_laysOrder_67 P k45 n) x2_67 x3_67 x4_67 x5_67 (x7_67 + 1) x8_67 (0 : Int64) M_67 N_67
noncomputable def D_X8_laysOrder_45 (P : Nat) : Nat → Int32 → Int32 → Int32 → zMt → zNt → Option (zMt × zNt)
  | 0, _, _, _, _, _ => none
  | n + 1, x2_45, x3_45, x4_45, M_45, N_45 =>
    if (M_45 P 33) ≤ x4_45 then
      some (M_45, N_45)
    else
      zB (D_X8_draws P x3_45 N_45) fun e_56 =>
      D_X8_laysOrder_67 P (D_X8_laysOrder_45 P n) zFu x2_45 x3_45 x4_45 e_56.1 (-1 : Int32) (0 : Int64) M_45 e_56.2
noncomputable def D_X8_laysOrder_17 (P : Nat) : Nat → Int32 → Int32 → Int32 → zMt → zNt → Option (zMt × zNt)
  | 0, _, _, _, _, _ => none
  | n + 1, x2_17, x3_17, x4_17, M_17, N_17 =>
    if (M_17 P 33) ≤ x4_17 then
      D_X8_laysOrder_45 P zFu x2_17 x3_17 (0 : Int32) M_17 N_17
    else
      zI x4_17 10 <|
      (D_X8_laysOrder_17 P n) x2_17 (x3_17 + (M_17 (P + 17) x4_17.toNatClampNeg)) (x4_17 + 1) M_17 N_17
noncomputable def D_X8_laysOrder (P : Nat) (v0 : Int32) (M : zMt) (N : zNt) : Option (zMt × zNt) :=
  zB (D_X8_laysApplicants P M) fun e_1 =>
  zLt (zu N P 46 (Int32.toInt64 v0)) fun N_7 =>
  D_X8_laysOrder_17 P zFu (0 : Int32) (0 : Int32) (0 : Int32) e_1 N_7
set_option maxRecDepth 100000 in
set_option maxHeartbeats 4000000 in
theorem t_X8_laysOrder {l : Launch} {G : zG} {b : Nat} {L : List zC} {M : zMt} {N : zNt} {P : Nat} {v0 : Int32} (hP : LX8 L P) {r : zMt × zNt} (h : D_X8_laysOrder P v0 M N = some r) : zM l G b yX8_laysOrder cX8_laysOrder 10 none 3 0 0 [.ref P, .int v0] (L, M, N) (fun r2 z => r2 = none ∧ z = (L, r.1, r.2)) := by
  refine zM.of miX8_laysOrder (Nat.le_of_ble_eq_true rfl) ?_
  intro p e s m args below meth c X hr hname
  generalize hF : ((fun r2 z => r2 = none ∧ z = (L, r.1, r.2)) : Option Value → zS → Prop) = FQ
  change Zw p l e { frames := 3, cells := 0, slots := 0, locals := 80 * (3) } s m args below meth c G b 10 (MQ below (zQ G b FQ) args s 0 0 (fun q : Nat => b ≤ q)) 0 0 0 [some (.ref P), some (.int v0), none, none, none, none, none, none, none, none] [] (L, M, N)
  obtain ⟨p_lt, p_o, p_s, p_read, p_aside, p_kept, p_guest, p_readGuest, p_tape, p_unitName, p_hunterName, p_partyName, p_bits, p_partyOf, p_choiceAt, p_sizes, p_guestMany, p_pointsOf, p_ticketsOf, p_ord, p_given, p_roundOf, p_tags, p_guestTags, p_places, p_sumAt, p_sumFirst, p_sumRound, p_sumBoth, p_sumTags, p_isEnd, p_newPoints, p_inRow, p_out⟩ := id hP
  have L_45 : ∀ u : Nat, ∀ (x1_45 : Int32) (x2_45 : Int32) (x3_45 : Int32) (x4_45 : Int32) (x5_45 : Option Value) (x6_45 : Option Value) (x7_45 : Option Value) (x8_45 : Option Value) (x9_45 : Option Value) (M_45 : zMt) (N_45 : zNt), D_X8_laysOrder_45 P u x2_45 x3_45 x4_45 M_45 N_45 = some r → Zw p l e { frames := 3, cells := 0, slots := 0, locals := 80 * (3) } s m args below meth c G b 10 (MQ below (zQ G b FQ) args s 0 0 (fun q : Nat => b ≤ q)) 0 0 45 [some (.ref (P)), some (.int x1_45), some (.int x2_45), some (.int x3_45), some (.int x4_45), x5_45, x6_45, x7_45, x8_45, x9_45] [] (L, M_45, N_45) := by
    intro u
    induction u with
    | zero => intro x1_45 x2_45 x3_45 x4_45 x5_45 x6_45 x7_45 x8_45 x9_45 M_45 N_45 h; cases (show none = some r from h)
    | succ u_45 ih_45 =>
      have L_67 : ∀ u : Nat, ∀ (x1_67 : Int32) (x2_67 : Int32) (x3_67 : Int32) (x4_67 : Int32) (x5_67 : Int64) (x7_67 : Int32) (x8_67 : Int64) (M_67 : zMt) (N_67 : zNt), D_X8_laysOrder_67 P (D_X8_laysOrder_45 P u_45) u x2_67 x3_67 x4_67 x5_67 x7_67 x8_67 M_67 N_67 = some r → Zw p l e { frames := 3, cells := 0, slots := 0, locals := 80 * (3) } s m args below meth c G b 10 (MQ below (zQ G b FQ) args s 0 0 (fun q : Nat => b ≤ q)) 0 0 67 [some (.ref (P)), some (.int x1_67), some (.int x2_67), some (.int x3_67), some (.int x4_67), some (.long x5_67), none, some (.int x7_67), some (.long x8_67), none] [] (L, M_67, N_67) := by
        intro u
        induction u with
        | zero => intro x1_67 x2_67 x3_67 x4_67 x5_67 x7_67 x8_67 M_67 N_67 h; cases (show none = some r from h)
        | succ u_67 ih_67 =>
          have J_101 : ∀ (x1_101 : Int32) (x2_101 : Int32) (x3_101 : Int32) (x4_101 : Int32) (x5_101 : Int64) (x7_101 : Int32) (x8_101 : Int64) (y0_101 : Int64) (y1_101 : Int64) (M_101 : zMt) (N_101 : zNt), D_X8_laysOrder_101 P (D_X8_laysOrder_45 P u_45) (D_X8_laysOrder_67 P (D_X8_laysOrder_45 P u_45) u_67) x2_101 x3_101 x4_101 x5_101 x7_101 y0_101 y1_101 M_101 N_101 = some r → Zw p l e { frames := 3, cells := 0, slots := 0, locals := 80 * (3) } s m args below meth c G b 10 (MQ below (zQ G b FQ) args s 0 0 (fun q : Nat => b ≤ q)) 0 0 101 [some (.ref (P)), some (.int x1_101), some (.int x2_101), some (.int x3_101), some (.int x4_101), some (.long x5_101), none, some (.int x7_101), some (.long x8_101), none] [.long y1_101, .long y0_101] (L, M_101, N_101) := by
            intro x1_101 x2_101 x3_101 x4_101 x5_101 x7_101 x8_101 y0_101 y1_101 M_101 N_101 h
            unfold D_X8_laysOrder_101 at h
            refine a_ladd X dX8_laysOrder_101 ?_
            refine a_lstore X dX8_laysOrder_102 (by decide) ?_
            refine a_goto (tgt := 67) X dX8_laysOrder_104 (by decide) ?_
            exact Zw.to2 (ih_67 _ _ _ _ _ _ _ _ _ h) rfl rfl rfl
          intro x1_67 x2_67 x3_67 x4_67 x5_67 x7_67 x8_67 M_67 N_67 h
          rw [D_X8_laysOrder_67] at h
          refine a_lload X dX8_laysOrder_67 rfl ?_
          refine a_lload X dX8_laysOrder_69 rfl ?_
          refine a_lcmp X dX8_laysOrder_71 ?_
          refine a_if_gt (tgt := 107) X dX8_laysOrder_72 (by decide) (fun h_72 => ?_) (fun h_72 => ?_)
          · replace h := (if_pos h_72).symm.trans h
            refine a_aload_n X dX8_laysOrder_107 rfl ?_
            refine a_getr X lf8_70 (by assumption) rfl (by omega) dX8_laysOrder_108 ?_
            refine a_iload X dX8_laysOrder_111 rfl ?_
            refine a_iload X dX8_laysOrder_113 rfl ?_
            obtain ⟨g_115, h⟩ := zIx h
            obtain ⟨M_115, f_115, h⟩ := zLtx h
            refine d_iastore X (by assumption) g_115 dX8_laysOrder_115 f_115 ?_
            refine a_iload_n X dX8_laysOrder_116 rfl ?_
            refine a_iconst (v := 1) X dX8_laysOrder_117 (by decide) ?_
            refine a_iload X dX8_laysOrder_118 rfl ?_
            refine a_ishl X dX8_laysOrder_120 ?_
            refine a_ior X dX8_laysOrder_121 ?_
            refine a_istore_n X dX8_laysOrder_122 (by decide) ?_
            refine a_iload_n X dX8_laysOrder_123 rfl ?_
            refine a_aload_n X dX8_laysOrder_124 rfl ?_
            refine a_getr X lf8_67 (by assumption) rfl (by omega) dX8_laysOrder_125 ?_
            refine a_iload X dX8_laysOrder_128 rfl ?_
            obtain ⟨g_130, h⟩ := zIx h
            refine a_iaload X (by assumption) g_130 dX8_laysOrder_130 ?_
            refine a_isub X dX8_laysOrder_131 ?_
            refine a_istore_n X dX8_laysOrder_132 (by decide) ?_
            refine a_iinc (v := x4_67 + 1) X dX8_laysOrder_133 (by decide) rfl zi_1 ?_
            refine a_goto (tgt := 45) X dX8_laysOrder_136 (by decide) ?_
            exact Zw.to2 (ih_45 _ _ _ _ _ _ _ _ _ _ _ h) rfl rfl rfl
          · replace h := (if_neg h_72).symm.trans h
            refine a_iinc (v := x7_67 + 1) X dX8_laysOrder_75 (by decide) rfl zi_1 ?_
            refine a_lload X dX8_laysOrder_78 rfl ?_
            refine a_iload_n X dX8_laysOrder_80 rfl ?_
            refine a_iload X dX8_laysOrder_81 rfl ?_
            obtain ⟨e_83, f_83, h⟩ := zBx h
            refine a_callSx X dX8_laysOrder_83 miX8_has lm8_240 (t_X8_has f_83) rfl rfl (Nat.le_of_ble_eq_true rfl) ⟨by decide, by decide, by decide, by decide⟩ (fun r_83 S_83 q_83 => ?_)
            obtain ⟨rfl, rfl, b_83⟩ := q_83
            refine a_if_eq (tgt := 93) X dX8_laysOrder_86 (by decide) (fun h_86 => ?_) (fun h_86 => ?_)
            · replace h := (if_pos h_86).symm.trans h
              refine a_aload_n X dX8_laysOrder_93 rfl ?_
              refine a_getr X lf8_67 (by assumption) rfl (by omega) dX8_laysOrder_94 ?_
              refine a_iload X dX8_laysOrder_97 rfl ?_
              obtain ⟨g_99, h⟩ := zIx h
              refine a_iaload X (by assumption) g_99 dX8_laysOrder_99 ?_
              refine a_i2l X dX8_laysOrder_100 ?_
              exact Zw.to2 (J_101 _ _ _ _ _ _ _ _ _ _ _ h) rfl rfl rfl
            · replace h := (if_neg h_86).symm.trans h
              refine a_lconst (v := 0) X dX8_laysOrder_89 (by decide) ?_
              refine a_goto (tgt := 101) X dX8_laysOrder_90 (by decide) ?_
              exact Zw.to2 (J_101 _ _ _ _ _ _ _ _ _ _ _ h) rfl rfl rfl
      have H_67 : ∀ (x1_67 : Int32) (x2_67 : Int32) (x3_67 : Int32) (x4_67 : Int32) (x5_67 : Int64) (x7_67 : Int32) (x8_67 : Int64) (M_67 : zMt) (N_67 : zNt), D_X8_laysOrder_67 P (D_X8_laysOrder_45 P u_45) zFu x2_67 x3_67 x4_67 x5_67 x7_67 x8_67 M_67 N_67 = some r → Zw p l e { frames := 3, cells := 0, slots := 0, locals := 80 * (3) } s m args below meth c G b 10 (MQ below (zQ G b FQ) args s 0 0 (fun q : Nat => b ≤ q)) 0 0 67 [some (.ref (P)), some (.int x1_67), some (.int x2_67), some (.int x3_67), some (.int x4_67), some (.long x5_67), none, some (.int x7_67), some (.long x8_67), none] [] (L, M_67, N_67) := L_67 zFu
      intro x1_45 x2_45 x3_45 x4_45 x5_45 x6_45 x7_45 x8_45 x9_45 M_45 N_45 h
      rw [D_X8_laysOrder_45] at h
      refine a_iload X dX8_laysOrder_45 rfl ?_
      refine a_aload_n X dX8_laysOrder_47 rfl ?_
      refine a_geti X lf8_275 (by assumption) rfl dX8_laysOrder_48 ?_
      refine a_icmp_ge (tgt := 139) X dX8_laysOrder_51 (by decide) (fun h_51 => ?_) (fun h_51 => ?_)
      · replace h := (if_pos h_51).symm.trans h
        refine a_vret X hr dX8_laysOrder_139 ⟨by decide, by decide⟩ ?_
        subst hF
        rw [← Option.some.inj h]
        exact ⟨rfl, rfl⟩
      · replace h := (if_neg h_51).symm.trans h
        refine a_aload_n X dX8_laysOrder_54 rfl ?_
        refine a_iload_n X dX8_laysOrder_55 rfl ?_
        obtain ⟨e_56, f_56, h⟩ := zBx h
        refine a_callVv X dX8_laysOrder_56 miX8_draws lm8_348 (t_X8_draws (by assumption) f_56) (by assumption) rfl rfl rfl (Nat.le_of_ble_eq_true rfl) ⟨by decide, by decide, by decide, by decide⟩ ?_
        refine a_lstore X dX8_laysOrder_59 (by decide) ?_
        refine a_iconst (v := -1) X dX8_laysOrder_61 (by decide) ?_
        refine a_istore X dX8_laysOrder_62 (by decide) ?_
        refine a_lconst (v := 0) X dX8_laysOrder_64 (by decide) ?_
        refine a_lstore X dX8_laysOrder_65 (by decide) ?_
        exact Zw.to2 (H_67 _ _ _ _ _ _ _ _ _ h) rfl rfl rfl
  have H_45 : ∀ (x1_45 : Int32) (x2_45 : Int32) (x3_45 : Int32) (x4_45 : Int32) (x5_45 : Option Value) (x6_45 : Option Value) (x7_45 : Option Value) (x8_45 : Option Value) (x9_45 : Option Value) (M_45 : zMt) (N_45 : zNt), D_X8_laysOrder_45 P zFu x2_45 x3_45 x4_45 M_45 N_45 = some r → Zw p l e { frames := 3, cells := 0, slots := 0, locals := 80 * (3) } s m args below meth c G b 10 (MQ below (zQ G b FQ) args s 0 0 (fun q : Nat => b ≤ q)) 0 0 45 [some (.ref (P)), some (.int x1_45), some (.int x2_45), some (.int x3_45), some (.int x4_45), x5_45, x6_45, x7_45, x8_45, x9_45] [] (L, M_45, N_45) := L_45 zFu
  have L_17 : ∀ u : Nat, ∀ (x1_17 : Int32) (x2_17 : Int32) (x3_17 : Int32) (x4_17 : Int32) (x5_17 : Option Value) (x6_17 : Option Value) (x7_17 : Option Value) (x8_17 : Option Value) (x9_17 : Option Value) (M_17 : zMt) (N_17 : zNt), (x2_17 = 0 ∨ x2_17 = 1) → D_X8_laysOrder_17 P u x2_17 x3_17 x4_17 M_17 N_17 = some r → Zw p l e { frames := 3, cells := 0, slots := 0, locals := 80 * (3) } s m args below meth c G b 10 (MQ below (zQ G b FQ) args s 0 0 (fun q : Nat => b ≤ q)) 0 0 17 [some (.ref (P)), some (.int x1_17), some (.int x2_17), some (.int x3_17), some (.int x4_17), x5_17, x6_17, x7_17, x8_17, x9_17] [] (L, M_17, N_17) := by
    intro u
    induction u with
    | zero => intro x1_17 x2_17 x3_17 x4_17 x5_17 x6_17 x7_17 x8_17 x9_17 M_17 N_17 fb_x2_17 h; cases (show none = some r from h)
    | succ u_17 ih_17 =>
      intro x1_17 x2_17 x3_17 x4_17 x5_17 x6_17 x7_17 x8_17 x9_17 M_17 N_17 fb_x2_17 h
      rw [D_X8_laysOrder_17] at h
      refine a_iload X dX8_laysOrder_17 rfl ?_
      refine a_aload_n X dX8_laysOrder_19 rfl ?_
      refine a_geti X lf8_275 (by assumption) rfl dX8_laysOrder_20 ?_
      refine a_icmp_ge (tgt := 42) X dX8_laysOrder_23 (by decide) (fun h_23 => ?_) (fun h_23 => ?_)
      · replace h := (if_pos h_23).symm.trans h
        refine a_iconst (v := 0) X dX8_laysOrder_42 (by decide) ?_
        refine a_istore X dX8_laysOrder_43 (by decide) ?_
        exact Zw.to2 (H_45 _ _ _ _ _ _ _ _ _ _ _ h) rfl rfl rfl
      · replace h := (if_neg h_23).symm.trans h
        refine a_iload_n X dX8_laysOrder_26 rfl ?_
        refine a_aload_n X dX8_laysOrder_27 rfl ?_
        refine a_getr X lf8_67 (by assumption) rfl (by omega) dX8_laysOrder_28 ?_
        refine a_iload X dX8_laysOrder_31 rfl ?_
        obtain ⟨g_33, h⟩ := zIx h
        refine a_iaload X (by assumption) g_33 dX8_laysOrder_33 ?_
        refine a_iadd X dX8_laysOrder_34 ?_
        refine a_istore_n X dX8_laysOrder_35 (by decide) ?_
        refine a_iinc (v := x4_17 + 1) X dX8_laysOrder_36 (by decide) rfl zi_1 ?_
        refine a_goto (tgt := 17) X dX8_laysOrder_39 (by decide) ?_
        exact Zw.to2 (ih_17 _ _ _ _ _ _ _ _ _ _ _ (by first | exact Or.inl rfl | exact Or.inr rfl | assumption) h) rfl rfl rfl
  have H_17 : ∀ (x1_17 : Int32) (x2_17 : Int32) (x3_17 : Int32) (x4_17 : Int32) (x5_17 : Option Value) (x6_17 : Option Value) (x7_17 : Option Value) (x8_17 : Option Value) (x9_17 : Option Value) (M_17 : zMt) (N_17 : zNt), (x2_17 = 0 ∨ x2_17 = 1) → D_X8_laysOrder_17 P zFu x2_17 x3_17 x4_17 M_17 N_17 = some r → Zw p l e { frames := 3, cells := 0, slots := 0, locals := 80 * (3) } s m args below meth c G b 10 (MQ below (zQ G b FQ) args s 0 0 (fun q : Nat => b ≤ q)) 0 0 17 [some (.ref (P)), some (.int x1_17), some (.int x2_17), some (.int x3_17), some (.int x4_17), x5_17, x6_17, x7_17, x8_17, x9_17] [] (L, M_17, N_17) := L_17 zFu
  unfold D_X8_laysOrder at h
  refine a_aload_n X dX8_laysOrder_0 rfl ?_
  obtain ⟨e_1, f_1, h⟩ := zBx h
  refine a_callVu X dX8_laysOrder_1 miX8_laysApplicants lm8_281 (t_X8_laysApplicants (by assumption) f_1) (by assumption) rfl rfl rfl (Nat.le_of_ble_eq_true rfl) ⟨by decide, by decide, by decide, by decide⟩ ?_
  refine a_aload_n X dX8_laysOrder_4 rfl ?_
  refine a_iload_n X dX8_laysOrder_5 rfl ?_
  refine a_i2l X dX8_laysOrder_6 ?_
  obtain ⟨N_7, f_7, h⟩ := zLtx h
  refine d_putl X lf8_339 (by assumption) rfl dX8_laysOrder_7 f_7 ?_
  refine a_iconst (v := 0) X dX8_laysOrder_10 (by decide) ?_
  refine a_istore_n X dX8_laysOrder_11 (by decide) ?_
  refine a_iconst (v := 0) X dX8_laysOrder_12 (by decide) ?_
  refine a_istore_n X dX8_laysOrder_13 (by decide) ?_
  refine a_iconst (v := 0) X dX8_laysOrder_14 (by decide) ?_
  refine a_istore X dX8_laysOrder_15 (by decide) ?_
  exact Zw.to2 (H_17 _ _ _ _ _ _ _ _ _ _ _ (by first | exact Or.inl rfl | exact Or.inr rfl | assumption) h) rfl rfl rfl
noncomputable def D_X8_laysResult (P : Nat) (v0 : Int32) (M : zMt) (N : zNt) : Option (zMt × zNt) :=
  zB (D_X8_laysOrder P v0 M N) fun e_2 =>
  zB (D_X8_results P (-1 : Int32) e_2.1) fun e_7 =>
  some (e_7, e_2.2)
set_option maxRecDepth 100000 in
set_option maxHeartbeats 4000000 in
theorem t_X8_laysResult {l : Launch} {G : zG} {b : Nat} {L : List zC} {M : zMt} {N : zNt} {P : Nat} {v0 : Int32} (hP : LX8 L P) {r : zMt × zNt} (h : D_X8_laysResult P v0 M N = some r) : zM l G b yX8_laysResult cX8_laysResult 2 none 4 0 0 [.ref P, .int v0] (L, M, N) (fun r2 z => r2 = none ∧ z = (L, r.1, r.2)) := by
  refine zM.of miX8_laysResult (Nat.le_of_ble_eq_true rfl) ?_
  intro p e s m args below meth c X hr hname
  generalize hF : ((fun r2 z => r2 = none ∧ z = (L, r.1, r.2)) : Option Value → zS → Prop) = FQ
  change Zw p l e { frames := 4, cells := 0, slots := 0, locals := 80 * (4) } s m args below meth c G b 2 (MQ below (zQ G b FQ) args s 0 0 (fun q : Nat => b ≤ q)) 0 0 0 [some (.ref P), some (.int v0)] [] (L, M, N)
  obtain ⟨p_lt, p_o, p_s, p_read, p_aside, p_kept, p_guest, p_readGuest, p_tape, p_unitName, p_hunterName, p_partyName, p_bits, p_partyOf, p_choiceAt, p_sizes, p_guestMany, p_pointsOf, p_ticketsOf, p_ord, p_given, p_roundOf, p_tags, p_guestTags, p_places, p_sumAt, p_sumFirst, p_sumRound, p_sumBoth, p_sumTags, p_isEnd, p_newPoints, p_inRow, p_out⟩ := id hP
  unfold D_X8_laysResult at h
  refine a_aload_n X dX8_laysResult_0 rfl ?_
  refine a_iload_n X dX8_laysResult_1 rfl ?_
  obtain ⟨e_2, f_2, h⟩ := zBx h
  refine a_callVu X dX8_laysResult_2 miX8_laysOrder lm8_352 (t_X8_laysOrder (by assumption) f_2) (by assumption) rfl rfl rfl (Nat.le_of_ble_eq_true rfl) ⟨by decide, by decide, by decide, by decide⟩ ?_
  refine a_aload_n X dX8_laysResult_5 rfl ?_
  refine a_iconst (v := -1) X dX8_laysResult_6 (by decide) ?_
  obtain ⟨e_7, f_7, h⟩ := zBx h
  refine a_callVu X dX8_laysResult_7 miX8_results lm8_355 (t_X8_results (by assumption) f_7) (by assumption) rfl rfl rfl (Nat.le_of_ble_eq_true rfl) ⟨by decide, by decide, by decide, by decide⟩ ?_
  refine a_vret X hr dX8_laysResult_10 ⟨by decide, by decide⟩ ?_
  subst hF
  rw [← Option.some.inj h]
  exact ⟨rfl, rfl⟩
noncomputable def D_X8_order_48 (P : Nat) (y0_48 : Int32) (M_48 : zMt) (N_48 : zNt) : Option (Int32 × zMt × zNt) :=
  some (y0_48, M_48, N_48)
noncomputable def D_X8_order_11 (P : Nat) (M_11 : zMt) (N_11 : zNt) : Option (Int32 × zMt × zNt) :=
  zB (D_X8_refuse P (1 : Int32) M_11) fun e_13 =>
  some (e_13.1, e_13.2, N_11)
noncomputable def D_X8_order (P : Nat) (v0 : Int32) (v1 : Int32) (M : zMt) (N : zNt) : Option (Int32 × zMt × zNt) :=
  zB (D_X8_isSeed v0) fun e_1 =>
  if e_1 = 0 then
    D_X8_order_11 P M N
  else
    if 0 ≤ v1 then
      zB (D_X8_laysOrder P v0 M N) fun e_19 =>
      if (e_19.1 P 33) ≤ v1 then
        zB (D_X8_refuse P (5 : Int32) e_19.1) fun e_45 =>
        D_X8_order_48 P e_45.1 e_45.2 e_19.2
      else
        zI v1 10 <|
        zB (D_X8_gives P (e_19.1 (P + 18) v1.toNatClampNeg) e_19.1) fun e_37 =>
        D_X8_order_48 P e_37.1 e_37.2 e_19.2
    else
      D_X8_order_11 P M N
set_option maxRecDepth 100000 in
set_option maxHeartbeats 4000000 in
theorem t_X8_order {l : Launch} {G : zG} {b : Nat} {L : List zC} {M : zMt} {N : zNt} {P : Nat} {v0 : Int32} {v1 : Int32} (hP : LX8 L P) {r : Int32 × zMt × zNt} (h : D_X8_order P v0 v1 M N = some r) : zM l G b yX8_order cX8_order 3 (some .int) 4 0 0 [.ref P, .int v0, .int v1] (L, M, N) (fun r2 z => r2 = some (.int r.1) ∧ z = (L, r.2.1, r.2.2)) := by
  refine zM.of miX8_order (Nat.le_of_ble_eq_true rfl) ?_
  intro p e s m args below meth c X hr hname
  generalize hF : ((fun r2 z => r2 = some (.int r.1) ∧ z = (L, r.2.1, r.2.2)) : Option Value → zS → Prop) = FQ
  change Zw p l e { frames := 4, cells := 0, slots := 0, locals := 80 * (4) } s m args below meth c G b 3 (MQ below (zQ G b FQ) args s 0 0 (fun q : Nat => b ≤ q)) 0 0 0 [some (.ref P), some (.int v0), some (.int v1)] [] (L, M, N)
  obtain ⟨p_lt, p_o, p_s, p_read, p_aside, p_kept, p_guest, p_readGuest, p_tape, p_unitName, p_hunterName, p_partyName, p_bits, p_partyOf, p_choiceAt, p_sizes, p_guestMany, p_pointsOf, p_ticketsOf, p_ord, p_given, p_roundOf, p_tags, p_guestTags, p_places, p_sumAt, p_sumFirst, p_sumRound, p_sumBoth, p_sumTags, p_isEnd, p_newPoints, p_inRow, p_out⟩ := id hP
  have J_48 : ∀ (x1_48 : Int32) (x2_48 : Int32) (y0_48 : Int32) (M_48 : zMt) (N_48 : zNt), D_X8_order_48 P y0_48 M_48 N_48 = some r → Zw p l e { frames := 4, cells := 0, slots := 0, locals := 80 * (4) } s m args below meth c G b 3 (MQ below (zQ G b FQ) args s 0 0 (fun q : Nat => b ≤ q)) 0 0 48 [some (.ref (P)), some (.int x1_48), some (.int x2_48)] [.int y0_48] (L, M_48, N_48) := by
    intro x1_48 x2_48 y0_48 M_48 N_48 h
    unfold D_X8_order_48 at h
    refine a_iret X hr dX8_order_48 ⟨by decide, by decide⟩ ?_
    subst hF
    rw [← Option.some.inj h]
    exact ⟨rfl, rfl⟩
  have J_11 : ∀ (x1_11 : Int32) (x2_11 : Int32) (M_11 : zMt) (N_11 : zNt), D_X8_order_11 P M_11 N_11 = some r → Zw p l e { frames := 4, cells := 0, slots := 0, locals := 80 * (4) } s m args below meth c G b 3 (MQ below (zQ G b FQ) args s 0 0 (fun q : Nat => b ≤ q)) 0 0 11 [some (.ref (P)), some (.int x1_11), some (.int x2_11)] [] (L, M_11, N_11) := by
    intro x1_11 x2_11 M_11 N_11 h
    unfold D_X8_order_11 at h
    refine a_aload_n X dX8_order_11 rfl ?_
    refine a_iconst (v := 1) X dX8_order_12 (by decide) ?_
    obtain ⟨e_13, f_13, h⟩ := zBx h
    refine a_callVv X dX8_order_13 miX8_refuse lm8_263 (t_X8_refuse (by assumption) f_13) (by assumption) rfl rfl rfl (Nat.le_of_ble_eq_true rfl) ⟨by decide, by decide, by decide, by decide⟩ ?_
    refine a_iret X hr dX8_order_16 ⟨by decide, by decide⟩ ?_
    subst hF
    rw [← Option.some.inj h]
    exact ⟨rfl, rfl⟩
  unfold D_X8_order at h
  refine a_iload_n X dX8_order_0 rfl ?_
  obtain ⟨e_1, f_1, h⟩ := zBx h
  refine a_callSx X dX8_order_1 miX8_isSeed lm8_358 (t_X8_isSeed f_1) rfl rfl (Nat.le_of_ble_eq_true rfl) ⟨by decide, by decide, by decide, by decide⟩ (fun r_1 S_1 q_1 => ?_)
  obtain ⟨rfl, rfl, b_1⟩ := q_1
  refine a_if_eq (tgt := 11) X dX8_order_4 (by decide) (fun h_4 => ?_) (fun h_4 => ?_)
  · replace h := (if_pos h_4).symm.trans h
    exact Zw.to2 (J_11 _ _ _ _ h) rfl rfl rfl
  · replace h := (if_neg h_4).symm.trans h
    refine a_iload_n X dX8_order_7 rfl ?_
    refine a_if_ge (tgt := 17) X dX8_order_8 (by decide) (fun h_8 => ?_) (fun h_8 => ?_)
    · replace h := (if_pos h_8).symm.trans h
      refine a_aload_n X dX8_order_17 rfl ?_
      refine a_iload_n X dX8_order_18 rfl ?_
      obtain ⟨e_19, f_19, h⟩ := zBx h
      refine a_callVu X dX8_order_19 miX8_laysOrder lm8_352 (t_X8_laysOrder (by assumption) f_19) (by assumption) rfl rfl rfl (Nat.le_of_ble_eq_true rfl) ⟨by decide, by decide, by decide, by decide⟩ ?_
      refine a_iload_n X dX8_order_22 rfl ?_
      refine a_aload_n X dX8_order_23 rfl ?_
      refine a_geti X lf8_275 (by assumption) rfl dX8_order_24 ?_
      refine a_icmp_ge (tgt := 43) X dX8_order_27 (by decide) (fun h_27 => ?_) (fun h_27 => ?_)
      · replace h := (if_pos h_27).symm.trans h
        refine a_aload_n X dX8_order_43 rfl ?_
        refine a_iconst (v := 5) X dX8_order_44 (by decide) ?_
        obtain ⟨e_45, f_45, h⟩ := zBx h
        refine a_callVv X dX8_order_45 miX8_refuse lm8_263 (t_X8_refuse (by assumption) f_45) (by assumption) rfl rfl rfl (Nat.le_of_ble_eq_true rfl) ⟨by decide, by decide, by decide, by decide⟩ ?_
        exact Zw.to2 (J_48 _ _ _ _ _ h) rfl rfl rfl
      · replace h := (if_neg h_27).symm.trans h
        refine a_aload_n X dX8_order_30 rfl ?_
        refine a_aload_n X dX8_order_31 rfl ?_
        refine a_getr X lf8_70 (by assumption) rfl (by omega) dX8_order_32 ?_
        refine a_iload_n X dX8_order_35 rfl ?_
        obtain ⟨g_36, h⟩ := zIx h
        refine a_iaload X (by assumption) g_36 dX8_order_36 ?_
        obtain ⟨e_37, f_37, h⟩ := zBx h
        refine a_callVv X dX8_order_37 miX8_gives lm8_272 (t_X8_gives (by assumption) f_37) (by assumption) rfl rfl rfl (Nat.le_of_ble_eq_true rfl) ⟨by decide, by decide, by decide, by decide⟩ ?_
        refine a_goto (tgt := 48) X dX8_order_40 (by decide) ?_
        exact Zw.to2 (J_48 _ _ _ _ _ h) rfl rfl rfl
    · replace h := (if_neg h_8).symm.trans h
      exact Zw.to2 (J_11 _ _ _ _ h) rfl rfl rfl
noncomputable def D_X8_drawn_60 (P : Nat) (y0_60 : Int32) (M_60 : zMt) (N_60 : zNt) : Option (Int32 × zMt × zNt) :=
  some (y0_60, M_60, N_60)
noncomputable def D_X8_drawn (P : Nat) (v0 : Int32) (v1 : Int32) (M : zMt) (N : zNt) : Option (Int32 × zMt × zNt) :=
  zB (D_X8_isSeed v0) fun e_1 =>
  if e_1 = 0 then
    zB (D_X8_refuse P (1 : Int32) M) fun e_9 =>
    some (e_9.1, e_9.2, N)
  else
    zB (D_X8_isApplicant P v1 M) fun e_15 =>
    if e_15.1 = 0 then
      zB (D_X8_refuse P (2 : Int32) e_15.2) fun e_23 =>
      some (e_23.1, e_23.2, N)
    else
      zB (D_X8_laysResult P v0 e_15.2 N) fun e_29 =>
      zI v1 10 <|
      if (e_29.1 (P + 19) v1.toNatClampNeg) = (-1 : Int32) then
        zB (D_X8_refuse P (5 : Int32) e_29.1) fun e_44 =>
        D_X8_drawn_60 P e_44.1 e_44.2 e_29.2
      else
        zI v1 10 <|
        zB (D_X8_gives P (e_29.1 (P + 19) v1.toNatClampNeg) e_29.1) fun e_57 =>
        D_X8_drawn_60 P e_57.1 e_57.2 e_29.2
set_option maxRecDepth 100000 in
set_option maxHeartbeats 4000000 in
theorem t_X8_drawn {l : Launch} {G : zG} {b : Nat} {L : List zC} {M : zMt} {N : zNt} {P : Nat} {v0 : Int32} {v1 : Int32} (hP : LX8 L P) {r : Int32 × zMt × zNt} (h : D_X8_drawn P v0 v1 M N = some r) : zM l G b yX8_drawn cX8_drawn 3 (some .int) 5 0 0 [.ref P, .int v0, .int v1] (L, M, N) (fun r2 z => r2 = some (.int r.1) ∧ z = (L, r.2.1, r.2.2)) := by
  refine zM.of miX8_drawn (Nat.le_of_ble_eq_true rfl) ?_
  intro p e s m args below meth c X hr hname
  generalize hF : ((fun r2 z => r2 = some (.int r.1) ∧ z = (L, r.2.1, r.2.2)) : Option Value → zS → Prop) = FQ
  change Zw p l e { frames := 5, cells := 0, slots := 0, locals := 80 * (5) } s m args below meth c G b 3 (MQ below (zQ G b FQ) args s 0 0 (fun q : Nat => b ≤ q)) 0 0 0 [some (.ref P), some (.int v0), some (.int v1)] [] (L, M, N)
  obtain ⟨p_lt, p_o, p_s, p_read, p_aside, p_kept, p_guest, p_readGuest, p_tape, p_unitName, p_hunterName, p_partyName, p_bits, p_partyOf, p_choiceAt, p_sizes, p_guestMany, p_pointsOf, p_ticketsOf, p_ord, p_given, p_roundOf, p_tags, p_guestTags, p_places, p_sumAt, p_sumFirst, p_sumRound, p_sumBoth, p_sumTags, p_isEnd, p_newPoints, p_inRow, p_out⟩ := id hP
  have J_60 : ∀ (x1_60 : Int32) (x2_60 : Int32) (y0_60 : Int32) (M_60 : zMt) (N_60 : zNt), D_X8_drawn_60 P y0_60 M_60 N_60 = some r → Zw p l e { frames := 5, cells := 0, slots := 0, locals := 80 * (5) } s m args below meth c G b 3 (MQ below (zQ G b FQ) args s 0 0 (fun q : Nat => b ≤ q)) 0 0 60 [some (.ref (P)), some (.int x1_60), some (.int x2_60)] [.int y0_60] (L, M_60, N_60) := by
    intro x1_60 x2_60 y0_60 M_60 N_60 h
    unfold D_X8_drawn_60 at h
    refine a_iret X hr dX8_drawn_60 ⟨by decide, by decide⟩ ?_
    subst hF
    rw [← Option.some.inj h]
    exact ⟨rfl, rfl⟩
  unfold D_X8_drawn at h
  refine a_iload_n X dX8_drawn_0 rfl ?_
  obtain ⟨e_1, f_1, h⟩ := zBx h
  refine a_callSx X dX8_drawn_1 miX8_isSeed lm8_358 (t_X8_isSeed f_1) rfl rfl (Nat.le_of_ble_eq_true rfl) ⟨by decide, by decide, by decide, by decide⟩ (fun r_1 S_1 q_1 => ?_)
  obtain ⟨rfl, rfl, b_1⟩ := q_1
  refine a_if_ne (tgt := 13) X dX8_drawn_4 (by decide) (fun h_4 => ?_) (fun h_4 => ?_)
  · replace h := (if_neg h_4).symm.trans h
    refine a_aload_n X dX8_drawn_13 rfl ?_
    refine a_iload_n X dX8_drawn_14 rfl ?_
    obtain ⟨e_15, f_15, h⟩ := zBx h
    refine a_callVx X dX8_drawn_15 miX8_isApplicant lm8_315 (t_X8_isApplicant (by assumption) f_15) (by assumption) rfl rfl rfl (Nat.le_of_ble_eq_true rfl) ⟨by decide, by decide, by decide, by decide⟩ (fun r_15 S_15 q_15 => ?_)
    obtain ⟨rfl, rfl, b_15⟩ := q_15
    refine a_if_ne (tgt := 27) X dX8_drawn_18 (by decide) (fun h_18 => ?_) (fun h_18 => ?_)
    · replace h := (if_neg h_18).symm.trans h
      refine a_aload_n X dX8_drawn_27 rfl ?_
      refine a_iload_n X dX8_drawn_28 rfl ?_
      obtain ⟨e_29, f_29, h⟩ := zBx h
      refine a_callVu X dX8_drawn_29 miX8_laysResult lm8_361 (t_X8_laysResult (by assumption) f_29) (by assumption) rfl rfl rfl (Nat.le_of_ble_eq_true rfl) ⟨by decide, by decide, by decide, by decide⟩ ?_
      refine a_aload_n X dX8_drawn_32 rfl ?_
      refine a_getr X lf8_73 (by assumption) rfl (by omega) dX8_drawn_33 ?_
      refine a_iload_n X dX8_drawn_36 rfl ?_
      obtain ⟨g_37, h⟩ := zIx h
      refine a_iaload X (by assumption) g_37 dX8_drawn_37 ?_
      refine a_iconst (v := -1) X dX8_drawn_38 (by decide) ?_
      refine a_icmp_ne (tgt := 50) X dX8_drawn_39 (by decide) (fun h_39 => ?_) (fun h_39 => ?_)
      · replace h := (if_neg h_39).symm.trans h
        refine a_aload_n X dX8_drawn_50 rfl ?_
        refine a_aload_n X dX8_drawn_51 rfl ?_
        refine a_getr X lf8_73 (by assumption) rfl (by omega) dX8_drawn_52 ?_
        refine a_iload_n X dX8_drawn_55 rfl ?_
        obtain ⟨g_56, h⟩ := zIx h
        refine a_iaload X (by assumption) g_56 dX8_drawn_56 ?_
        obtain ⟨e_57, f_57, h⟩ := zBx h
        refine a_callVv X dX8_drawn_57 miX8_gives lm8_272 (t_X8_gives (by assumption) f_57) (by assumption) rfl rfl rfl (Nat.le_of_ble_eq_true rfl) ⟨by decide, by decide, by decide, by decide⟩ ?_
        exact Zw.to2 (J_60 _ _ _ _ _ h) rfl rfl rfl
      · replace h := (if_pos h_39).symm.trans h
        refine a_aload_n X dX8_drawn_42 rfl ?_
        refine a_iconst (v := 5) X dX8_drawn_43 (by decide) ?_
        obtain ⟨e_44, f_44, h⟩ := zBx h
        refine a_callVv X dX8_drawn_44 miX8_refuse lm8_263 (t_X8_refuse (by assumption) f_44) (by assumption) rfl rfl rfl (Nat.le_of_ble_eq_true rfl) ⟨by decide, by decide, by decide, by decide⟩ ?_
        refine a_goto (tgt := 60) X dX8_drawn_47 (by decide) ?_
        exact Zw.to2 (J_60 _ _ _ _ _ h) rfl rfl rfl
    · replace h := (if_pos h_18).symm.trans h
      refine a_aload_n X dX8_drawn_21 rfl ?_
      refine a_iconst (v := 2) X dX8_drawn_22 (by decide) ?_
      obtain ⟨e_23, f_23, h⟩ := zBx h
      refine a_callVv X dX8_drawn_23 miX8_refuse lm8_263 (t_X8_refuse (by assumption) f_23) (by assumption) rfl rfl rfl (Nat.le_of_ble_eq_true rfl) ⟨by decide, by decide, by decide, by decide⟩ ?_
      refine a_iret X hr dX8_drawn_26 ⟨by decide, by decide⟩ ?_
      subst hF
      rw [← Option.some.inj h]
      exact ⟨rfl, rfl⟩
  · replace h := (if_pos h_4).symm.trans h
    refine a_aload_n X dX8_drawn_7 rfl ?_
    refine a_iconst (v := 1) X dX8_drawn_8 (by decide) ?_
    obtain ⟨e_9, f_9, h⟩ := zBx h
    refine a_callVv X dX8_drawn_9 miX8_refuse lm8_263 (t_X8_refuse (by assumption) f_9) (by assumption) rfl rfl rfl (Nat.le_of_ble_eq_true rfl) ⟨by decide, by decide, by decide, by decide⟩ ?_
    refine a_iret X hr dX8_drawn_12 ⟨by decide, by decide⟩ ?_
    subst hF
    rw [← Option.some.inj h]
    exact ⟨rfl, rfl⟩
noncomputable def D_X8_round_60 (P : Nat) (y0_60 : Int32) (M_60 : zMt) (N_60 : zNt) : Option (Int32 × zMt × zNt) :=
  some (y0_60, M_60, N_60)
noncomputable def D_X8_round (P : Nat) (v0 : Int32) (v1 : Int32) (M : zMt) (N : zNt) : Option (Int32 × zMt × zNt) :=
  zB (D_X8_isSeed v0) fun e_1 =>
  if e_1 = 0 then
    zB (D_X8_refuse P (1 : Int32) M) fun e_9 =>
    some (e_9.1, e_9.2, N)
  else
    zB (D_X8_isApplicant P v1 M) fun e_15 =>
    if e_15.1 = 0 then
      zB (D_X8_refuse P (2 : Int32) e_15.2) fun e_23 =>
      some (e_23.1, e_23.2, N)
    else
      zB (D_X8_laysResult P v0 e_15.2 N) fun e_29 =>
      zI v1 10 <|
      if (e_29.1 (P + 19) v1.toNatClampNeg) = (-1 : Int32) then
        zB (D_X8_refuse P (5 : Int32) e_29.1) fun e_44 =>
        D_X8_round_60 P e_44.1 e_44.2 e_29.2
      else
        zI v1 10 <|
        zB (D_X8_gives P (e_29.1 (P + 20) v1.toNatClampNeg) e_29.1) fun e_57 =>
        D_X8_round_60 P e_57.1 e_57.2 e_29.2
set_option maxRecDepth 100000 in
set_option maxHeartbeats 4000000 in
theorem t_X8_round {l : Launch} {G : zG} {b : Nat} {L : List zC} {M : zMt} {N : zNt} {P : Nat} {v0 : Int32} {v1 : Int32} (hP : LX8 L P) {r : Int32 × zMt × zNt} (h : D_X8_round P v0 v1 M N = some r) : zM l G b yX8_round cX8_round 3 (some .int) 5 0 0 [.ref P, .int v0, .int v1] (L, M, N) (fun r2 z => r2 = some (.int r.1) ∧ z = (L, r.2.1, r.2.2)) := by
  refine zM.of miX8_round (Nat.le_of_ble_eq_true rfl) ?_
  intro p e s m args below meth c X hr hname
  generalize hF : ((fun r2 z => r2 = some (.int r.1) ∧ z = (L, r.2.1, r.2.2)) : Option Value → zS → Prop) = FQ
  change Zw p l e { frames := 5, cells := 0, slots := 0, locals := 80 * (5) } s m args below meth c G b 3 (MQ below (zQ G b FQ) args s 0 0 (fun q : Nat => b ≤ q)) 0 0 0 [some (.ref P), some (.int v0), some (.int v1)] [] (L, M, N)
  obtain ⟨p_lt, p_o, p_s, p_read, p_aside, p_kept, p_guest, p_readGuest, p_tape, p_unitName, p_hunterName, p_partyName, p_bits, p_partyOf, p_choiceAt, p_sizes, p_guestMany, p_pointsOf, p_ticketsOf, p_ord, p_given, p_roundOf, p_tags, p_guestTags, p_places, p_sumAt, p_sumFirst, p_sumRound, p_sumBoth, p_sumTags, p_isEnd, p_newPoints, p_inRow, p_out⟩ := id hP
  have J_60 : ∀ (x1_60 : Int32) (x2_60 : Int32) (y0_60 : Int32) (M_60 : zMt) (N_60 : zNt), D_X8_round_60 P y0_60 M_60 N_60 = some r → Zw p l e { frames := 5, cells := 0, slots := 0, locals := 80 * (5) } s m args below meth c G b 3 (MQ below (zQ G b FQ) args s 0 0 (fun q : Nat => b ≤ q)) 0 0 60 [some (.ref (P)), some (.int x1_60), some (.int x2_60)] [.int y0_60] (L, M_60, N_60) := by
    intro x1_60 x2_60 y0_60 M_60 N_60 h
    unfold D_X8_round_60 at h
    refine a_iret X hr dX8_round_60 ⟨by decide, by decide⟩ ?_
    subst hF
    rw [← Option.some.inj h]
    exact ⟨rfl, rfl⟩
  unfold D_X8_round at h
  refine a_iload_n X dX8_round_0 rfl ?_
  obtain ⟨e_1, f_1, h⟩ := zBx h
  refine a_callSx X dX8_round_1 miX8_isSeed lm8_358 (t_X8_isSeed f_1) rfl rfl (Nat.le_of_ble_eq_true rfl) ⟨by decide, by decide, by decide, by decide⟩ (fun r_1 S_1 q_1 => ?_)
  obtain ⟨rfl, rfl, b_1⟩ := q_1
  refine a_if_ne (tgt := 13) X dX8_round_4 (by decide) (fun h_4 => ?_) (fun h_4 => ?_)
  · replace h := (if_neg h_4).symm.trans h
    refine a_aload_n X dX8_round_13 rfl ?_
    refine a_iload_n X dX8_round_14 rfl ?_
    obtain ⟨e_15, f_15, h⟩ := zBx h
    refine a_callVx X dX8_round_15 miX8_isApplicant lm8_315 (t_X8_isApplicant (by assumption) f_15) (by assumption) rfl rfl rfl (Nat.le_of_ble_eq_true rfl) ⟨by decide, by decide, by decide, by decide⟩ (fun r_15 S_15 q_15 => ?_)
    obtain ⟨rfl, rfl, b_15⟩ := q_15
    refine a_if_ne (tgt := 27) X dX8_round_18 (by decide) (fun h_18 => ?_) (fun h_18 => ?_)
    · replace h := (if_neg h_18).symm.trans h
      refine a_aload_n X dX8_round_27 rfl ?_
      refine a_iload_n X dX8_round_28 rfl ?_
      obtain ⟨e_29, f_29, h⟩ := zBx h
      refine a_callVu X dX8_round_29 miX8_laysResult lm8_361 (t_X8_laysResult (by assumption) f_29) (by assumption) rfl rfl rfl (Nat.le_of_ble_eq_true rfl) ⟨by decide, by decide, by decide, by decide⟩ ?_
      refine a_aload_n X dX8_round_32 rfl ?_
      refine a_getr X lf8_73 (by assumption) rfl (by omega) dX8_round_33 ?_
      refine a_iload_n X dX8_round_36 rfl ?_
      obtain ⟨g_37, h⟩ := zIx h
      refine a_iaload X (by assumption) g_37 dX8_round_37 ?_
      refine a_iconst (v := -1) X dX8_round_38 (by decide) ?_
      refine a_icmp_ne (tgt := 50) X dX8_round_39 (by decide) (fun h_39 => ?_) (fun h_39 => ?_)
      · replace h := (if_neg h_39).symm.trans h
        refine a_aload_n X dX8_round_50 rfl ?_
        refine a_aload_n X dX8_round_51 rfl ?_
        refine a_getr X lf8_76 (by assumption) rfl (by omega) dX8_round_52 ?_
        refine a_iload_n X dX8_round_55 rfl ?_
        obtain ⟨g_56, h⟩ := zIx h
        refine a_iaload X (by assumption) g_56 dX8_round_56 ?_
        obtain ⟨e_57, f_57, h⟩ := zBx h
        refine a_callVv X dX8_round_57 miX8_gives lm8_272 (t_X8_gives (by assumption) f_57) (by assumption) rfl rfl rfl (Nat.le_of_ble_eq_true rfl) ⟨by decide, by decide, by decide, by decide⟩ ?_
        exact Zw.to2 (J_60 _ _ _ _ _ h) rfl rfl rfl
      · replace h := (if_pos h_39).symm.trans h
        refine a_aload_n X dX8_round_42 rfl ?_
        refine a_iconst (v := 5) X dX8_round_43 (by decide) ?_
        obtain ⟨e_44, f_44, h⟩ := zBx h
        refine a_callVv X dX8_round_44 miX8_refuse lm8_263 (t_X8_refuse (by assumption) f_44) (by assumption) rfl rfl rfl (Nat.le_of_ble_eq_true rfl) ⟨by decide, by decide, by decide, by decide⟩ ?_
        refine a_goto (tgt := 60) X dX8_round_47 (by decide) ?_
        exact Zw.to2 (J_60 _ _ _ _ _ h) rfl rfl rfl
    · replace h := (if_pos h_18).symm.trans h
      refine a_aload_n X dX8_round_21 rfl ?_
      refine a_iconst (v := 2) X dX8_round_22 (by decide) ?_
      obtain ⟨e_23, f_23, h⟩ := zBx h
      refine a_callVv X dX8_round_23 miX8_refuse lm8_263 (t_X8_refuse (by assumption) f_23) (by assumption) rfl rfl rfl (Nat.le_of_ble_eq_true rfl) ⟨by decide, by decide, by decide, by decide⟩ ?_
      refine a_iret X hr dX8_round_26 ⟨by decide, by decide⟩ ?_
      subst hF
      rw [← Option.some.inj h]
      exact ⟨rfl, rfl⟩
  · replace h := (if_pos h_4).symm.trans h
    refine a_aload_n X dX8_round_7 rfl ?_
    refine a_iconst (v := 1) X dX8_round_8 (by decide) ?_
    obtain ⟨e_9, f_9, h⟩ := zBx h
    refine a_callVv X dX8_round_9 miX8_refuse lm8_263 (t_X8_refuse (by assumption) f_9) (by assumption) rfl rfl rfl (Nat.le_of_ble_eq_true rfl) ⟨by decide, by decide, by decide, by decide⟩ ?_
    refine a_iret X hr dX8_round_12 ⟨by decide, by decide⟩ ?_
    subst hF
    rw [← Option.some.inj h]
    exact ⟨rfl, rfl⟩
noncomputable def D_X8_left_171 (P : Nat) (y1_171 : Int32) (M_171 : zMt) (N_171 : zNt) : Option (Int32 × zMt × zNt) :=
  zB (D_X8_gives P y1_171 M_171) fun e_171 =>
  some (e_171.1, e_171.2, N_171)
noncomputable def D_X8_left_140 (P : Nat) (y0_140 : Int32) (M_140 : zMt) (N_140 : zNt) : Option (Int32 × zMt × zNt) :=
  some (y0_140, M_140, N_140)
noncomputable def D_X8_left_109 (P : Nat) (k53 : Int32 → Int32 → Int32 → Int32 → Int32 → zMt → zNt → Option (Int32 × zMt × zNt)) (x2_109 : Int32) (x3_109 : Int32) (x4_109 : Int32) (x5_109 : Int32) (x6_109 : Int32) (M_109 : zMt) (N_109 : zNt) : Option (Int32 × zMt × zNt) :=
  k53 x2_109 x3_109 x4_109 x5_109 (x6_109 + 1) M_109 N_109
noncomputable def D_X8_left_107 (P : Nat) (k53 : Int32 → Int32 → Int32 → Int32 → Int32 → zMt → zNt → Option (Int32 × zMt × zNt)) (x2_107 : Int32) (x3_107 : Int32) (x4_107 : Int32) (x6_107 : Int32) (y0_107 : Int32) (M_107 : zMt) (N_107 : zNt) : Option (Int32 × zMt × zNt) :=
  D_X8_left_109 P k53 x2_107 x3_107 x4_107 y0_107 x6_107 M_107 N_107
noncomputable def D_X8_left_53 (P : Nat) : Nat → Int32 → Int32 → Int32 → Int32 → Int32 → zMt → zNt → Option (Int32 × zMt × zNt)
  | 0, _, _, _, _, _, _, _ => none
  | n + 1, x2_53, x3_53, x4_53, x5_53, x6_53, M_53, N_53 =>
    if (M_53 P 33) ≤ x6_53 then
      if x3_53 = (3 : Int32) then
        if x5_53 = (-1 : Int32) then
          zB (D_X8_refuse P (5 : Int32) M_53) fun e_128 =>
          D_X8_left_140 P e_128.1 e_128.2 N_53
        else
          zB (D_X8_gives P x5_53 M_53) fun e_137 =>
          D_X8_left_140 P e_137.1 e_137.2 N_53
      else
        if x3_53 = 0 then
          zI x2_53 5 <|
          D_X8_left_171 P (M_53 (P + 21) x2_53.toNatClampNeg) M_53 N_53
        else
          if x3_53 = (1 : Int32) then
            zI x2_53 5 <|
            D_X8_left_171 P (M_53 (P + 22) x2_53.toNatClampNeg) M_53 N_53
          else
            D_X8_left_171 P x4_53 M_53 N_53
    else
      zI x6_53 10 <|
      if (M_53 (P + 19) x6_53.toNatClampNeg) = x2_53 then
        if x5_53 = (-1 : Int32) then
          zI x6_53 10 <|
          D_X8_left_107 P (D_X8_left_53 P n) x2_53 x3_53 (x4_53 + 1) x6_53 (M_53 (P + 16) x6_53.toNatClampNeg) M_53 N_53
        else
          zI x6_53 10 <|
          D_X8_left_107 P (D_X8_left_53 P n) x2_53 x3_53 (x4_53 + 1) x6_53 (if (M_53 (P + 16) x6_53.toNatClampNeg) < x5_53 then (M_53 (P + 16) x6_53.toNatClampNeg) else x5_53) M_53 N_53
      else
        D_X8_left_109 P (D_X8_left_53 P n) x2_53 x3_53 x4_53 x5_53 x6_53 M_53 N_53
noncomputable def D_X8_left_19 (P : Nat) (M_19 : zMt) (N_19 : zNt) : Option (Int32 × zMt × zNt) :=
  zB (D_X8_refuse P (1 : Int32) M_19) fun e_21 =>
  some (e_21.1, e_21.2, N_19)
noncomputable def D_X8_left (P : Nat) (v0 : Int32) (v1 : Int32) (v2 : Int32) (M : zMt) (N : zNt) : Option (Int32 × zMt × zNt) :=
  zB (D_X8_isSeed v0) fun e_1 =>
  if e_1 = 0 then
    D_X8_left_19 P M N
  else
    zB (D_X8_isFrom (Int32.toInt64 v2) (0 : Int64) (3 : Int64)) fun e_13 =>
    if e_13 = 0 then
      D_X8_left_19 P M N
    else
      zB (D_X8_isUnit P M v1) fun e_27 =>
      if e_27 = 0 then
        zB (D_X8_refuse P (2 : Int32) M) fun e_35 =>
        some (e_35.1, e_35.2, N)
      else
        zB (D_X8_laysResult P v0 M N) fun e_41 =>
        D_X8_left_53 P zFu v1 v2 (0 : Int32) (-1 : Int32) (0 : Int32) e_41.1 e_41.2
set_option maxRecDepth 100000 in
set_option maxHeartbeats 4000000 in
theorem t_X8_left {l : Launch} {G : zG} {b : Nat} {L : List zC} {M : zMt} {N : zNt} {P : Nat} {v0 : Int32} {v1 : Int32} {v2 : Int32} (hP : LX8 L P) {r : Int32 × zMt × zNt} (h : D_X8_left P v0 v1 v2 M N = some r) : zM l G b yX8_left cX8_left 7 (some .int) 5 0 0 [.ref P, .int v0, .int v1, .int v2] (L, M, N) (fun r2 z => r2 = some (.int r.1) ∧ z = (L, r.2.1, r.2.2)) := by
  refine zM.of miX8_left (Nat.le_of_ble_eq_true rfl) ?_
  intro p e s m args below meth c X hr hname
  generalize hF : ((fun r2 z => r2 = some (.int r.1) ∧ z = (L, r.2.1, r.2.2)) : Option Value → zS → Prop) = FQ
  change Zw p l e { frames := 5, cells := 0, slots := 0, locals := 80 * (5) } s m args below meth c G b 7 (MQ below (zQ G b FQ) args s 0 0 (fun q : Nat => b ≤ q)) 0 0 0 [some (.ref P), some (.int v0), some (.int v1), some (.int v2), none, none, none] [] (L, M, N)
  obtain ⟨p_lt, p_o, p_s, p_read, p_aside, p_kept, p_guest, p_readGuest, p_tape, p_unitName, p_hunterName, p_partyName, p_bits, p_partyOf, p_choiceAt, p_sizes, p_guestMany, p_pointsOf, p_ticketsOf, p_ord, p_given, p_roundOf, p_tags, p_guestTags, p_places, p_sumAt, p_sumFirst, p_sumRound, p_sumBoth, p_sumTags, p_isEnd, p_newPoints, p_inRow, p_out⟩ := id hP
  have J_171 : ∀ (x1_171 : Int32) (x2_171 : Int32) (x3_171 : Int32) (x4_171 : Int32) (x5_171 : Int32) (x6_171 : Int32) (y1_171 : Int32) (M_171 : zMt) (N_171 : zNt), D_X8_left_171 P y1_171 M_171 N_171 = some r → Zw p l e { frames := 5, cells := 0, slots := 0, locals := 80 * (5) } s m args below meth c G b 7 (MQ below (zQ G b FQ) args s 0 0 (fun q : Nat => b ≤ q)) 0 0 171 [some (.ref (P)), some (.int x1_171), some (.int x2_171), some (.int x3_171), some (.int x4_171), some (.int x5_171), some (.int x6_171)] [.int y1_171, .ref (P)] (L, M_171, N_171) := by
    intro x1_171 x2_171 x3_171 x4_171 x5_171 x6_171 y1_171 M_171 N_171 h
    unfold D_X8_left_171 at h
    obtain ⟨e_171, f_171, h⟩ := zBx h
    refine a_callVv X dX8_left_171 miX8_gives lm8_272 (t_X8_gives (by assumption) f_171) (by assumption) rfl rfl rfl (Nat.le_of_ble_eq_true rfl) ⟨by decide, by decide, by decide, by decide⟩ ?_
    refine a_iret X hr dX8_left_174 ⟨by decide, by decide⟩ ?_
    subst hF
    rw [← Option.some.inj h]
    exact ⟨rfl, rfl⟩
  have J_140 : ∀ (x1_140 : Int32) (x2_140 : Int32) (x3_140 : Int32) (x4_140 : Int32) (x5_140 : Int32) (x6_140 : Int32) (y0_140 : Int32) (M_140 : zMt) (N_140 : zNt), D_X8_left_140 P y0_140 M_140 N_140 = some r → Zw p l e { frames := 5, cells := 0, slots := 0, locals := 80 * (5) } s m args below meth c G b 7 (MQ below (zQ G b FQ) args s 0 0 (fun q : Nat => b ≤ q)) 0 0 140 [some (.ref (P)), some (.int x1_140), some (.int x2_140), some (.int x3_140), some (.int x4_140), some (.int x5_140), some (.int x6_140)] [.int y0_140] (L, M_140, N_140) := by
    intro x1_140 x2_140 x3_140 x4_140 x5_140 x6_140 y0_140 M_140 N_140 h
    unfold D_X8_left_140 at h
    refine a_iret X hr dX8_left_140 ⟨by decide, by decide⟩ ?_
    subst hF
    rw [← Option.some.inj h]
    exact ⟨rfl, rfl⟩
  have L_53 : ∀ u : Nat, ∀ (x1_53 : Int32) (x2_53 : Int32) (x3_53 : Int32) (x4_53 : Int32) (x5_53 : Int32) (x6_53 : Int32) (M_53 : zMt) (N_53 : zNt), D_X8_left_53 P u x2_53 x3_53 x4_53 x5_53 x6_53 M_53 N_53 = some r → Zw p l e { frames := 5, cells := 0, slots := 0, locals := 80 * (5) } s m args below meth c G b 7 (MQ below (zQ G b FQ) args s 0 0 (fun q : Nat => b ≤ q)) 0 0 53 [some (.ref (P)), some (.int x1_53), some (.int x2_53), some (.int x3_53), some (.int x4_53), some (.int x5_53), some (.int x6_53)] [] (L, M_53, N_53) := by
    intro u
    induction u with
    | zero => intro x1_53 x2_53 x3_53 x4_53 x5_53 x6_53 M_53 N_53 h; cases (show none = some r from h)
    | succ u_53 ih_53 =>
      have J_109 : ∀ (x1_109 : Int32) (x2_109 : Int32) (x3_109 : Int32) (x4_109 : Int32) (x5_109 : Int32) (x6_109 : Int32) (M_109 : zMt) (N_109 : zNt), D_X8_left_109 P (D_X8_left_53 P u_53) x2_109 x3_109 x4_109 x5_109 x6_109 M_109 N_109 = some r → Zw p l e { frames := 5, cells := 0, slots := 0, locals := 80 * (5) } s m args below meth c G b 7 (MQ below (zQ G b FQ) args s 0 0 (fun q : Nat => b ≤ q)) 0 0 109 [some (.ref (P)), some (.int x1_109), some (.int x2_109), some (.int x3_109), some (.int x4_109), some (.int x5_109), some (.int x6_109)] [] (L, M_109, N_109) := by
        intro x1_109 x2_109 x3_109 x4_109 x5_109 x6_109 M_109 N_109 h
        unfold D_X8_left_109 at h
        refine a_iinc (v := x6_109 + 1) X dX8_left_109 (by decide) rfl zi_1 ?_
        refine a_goto (tgt := 53) X dX8_left_112 (by decide) ?_
        exact Zw.to2 (ih_53 _ _ _ _ _ _ _ _ h) rfl rfl rfl
      have J_107 : ∀ (x1_107 : Int32) (x2_107 : Int32) (x3_107 : Int32) (x4_107 : Int32) (x5_107 : Int32) (x6_107 : Int32) (y0_107 : Int32) (M_107 : zMt) (N_107 : zNt), D_X8_left_107 P (D_X8_left_53 P u_53) x2_107 x3_107 x4_107 x6_107 y0_107 M_107 N_107 = some r → Zw p l e { frames := 5, cells := 0, slots := 0, locals := 80 * (5) } s m args below meth c G b 7 (MQ below (zQ G b FQ) args s 0 0 (fun q : Nat => b ≤ q)) 0 0 107 [some (.ref (P)), some (.int x1_107), some (.int x2_107), some (.int x3_107), some (.int x4_107), some (.int x5_107), some (.int x6_107)] [.int y0_107] (L, M_107, N_107) := by
        intro x1_107 x2_107 x3_107 x4_107 x5_107 x6_107 y0_107 M_107 N_107 h
        unfold D_X8_left_107 at h
        refine a_istore X dX8_left_107 (by decide) ?_
        exact Zw.to2 (J_109 _ _ _ _ _ _ _ _ h) rfl rfl rfl
      intro x1_53 x2_53 x3_53 x4_53 x5_53 x6_53 M_53 N_53 h
      rw [D_X8_left_53] at h
      refine a_iload X dX8_left_53 rfl ?_
      refine a_aload_n X dX8_left_55 rfl ?_
      refine a_geti X lf8_275 (by assumption) rfl dX8_left_56 ?_
      refine a_icmp_ge (tgt := 115) X dX8_left_59 (by decide) (fun h_59 => ?_) (fun h_59 => ?_)
      · replace h := (if_pos h_59).symm.trans h
        refine a_iload_n X dX8_left_115 rfl ?_
        refine a_iconst (v := 3) X dX8_left_116 (by decide) ?_
        refine a_icmp_ne (tgt := 141) X dX8_left_117 (by decide) (fun h_117 => ?_) (fun h_117 => ?_)
        · replace h := (if_neg h_117).symm.trans h
          refine a_aload_n X dX8_left_141 rfl ?_
          refine a_iload_n X dX8_left_142 rfl ?_
          refine a_if_ne (tgt := 155) X dX8_left_143 (by decide) (fun h_143 => ?_) (fun h_143 => ?_)
          · replace h := (if_neg h_143).symm.trans h
            refine a_iload_n X dX8_left_155 rfl ?_
            refine a_iconst (v := 1) X dX8_left_156 (by decide) ?_
            refine a_icmp_ne (tgt := 169) X dX8_left_157 (by decide) (fun h_157 => ?_) (fun h_157 => ?_)
            · replace h := (if_neg h_157).symm.trans h
              refine a_iload X dX8_left_169 rfl ?_
              exact Zw.to2 (J_171 _ _ _ _ _ _ _ _ _ h) rfl rfl rfl
            · replace h := (if_pos h_157).symm.trans h
              refine a_aload_n X dX8_left_160 rfl ?_
              refine a_getr X lf8_82 (by assumption) rfl (by omega) dX8_left_161 ?_
              refine a_iload_n X dX8_left_164 rfl ?_
              obtain ⟨g_165, h⟩ := zIx h
              refine a_iaload X (by assumption) g_165 dX8_left_165 ?_
              refine a_goto (tgt := 171) X dX8_left_166 (by decide) ?_
              exact Zw.to2 (J_171 _ _ _ _ _ _ _ _ _ h) rfl rfl rfl
          · replace h := (if_pos h_143).symm.trans h
            refine a_aload_n X dX8_left_146 rfl ?_
            refine a_getr X lf8_79 (by assumption) rfl (by omega) dX8_left_147 ?_
            refine a_iload_n X dX8_left_150 rfl ?_
            obtain ⟨g_151, h⟩ := zIx h
            refine a_iaload X (by assumption) g_151 dX8_left_151 ?_
            refine a_goto (tgt := 171) X dX8_left_152 (by decide) ?_
            exact Zw.to2 (J_171 _ _ _ _ _ _ _ _ _ h) rfl rfl rfl
        · replace h := (if_pos h_117).symm.trans h
          refine a_iload X dX8_left_120 rfl ?_
          refine a_iconst (v := -1) X dX8_left_122 (by decide) ?_
          refine a_icmp_ne (tgt := 134) X dX8_left_123 (by decide) (fun h_123 => ?_) (fun h_123 => ?_)
          · replace h := (if_neg h_123).symm.trans h
            refine a_aload_n X dX8_left_134 rfl ?_
            refine a_iload X dX8_left_135 rfl ?_
            obtain ⟨e_137, f_137, h⟩ := zBx h
            refine a_callVv X dX8_left_137 miX8_gives lm8_272 (t_X8_gives (by assumption) f_137) (by assumption) rfl rfl rfl (Nat.le_of_ble_eq_true rfl) ⟨by decide, by decide, by decide, by decide⟩ ?_
            exact Zw.to2 (J_140 _ _ _ _ _ _ _ _ _ h) rfl rfl rfl
          · replace h := (if_pos h_123).symm.trans h
            refine a_aload_n X dX8_left_126 rfl ?_
            refine a_iconst (v := 5) X dX8_left_127 (by decide) ?_
            obtain ⟨e_128, f_128, h⟩ := zBx h
            refine a_callVv X dX8_left_128 miX8_refuse lm8_263 (t_X8_refuse (by assumption) f_128) (by assumption) rfl rfl rfl (Nat.le_of_ble_eq_true rfl) ⟨by decide, by decide, by decide, by decide⟩ ?_
            refine a_goto (tgt := 140) X dX8_left_131 (by decide) ?_
            exact Zw.to2 (J_140 _ _ _ _ _ _ _ _ _ h) rfl rfl rfl
      · replace h := (if_neg h_59).symm.trans h
        refine a_aload_n X dX8_left_62 rfl ?_
        refine a_getr X lf8_73 (by assumption) rfl (by omega) dX8_left_63 ?_
        refine a_iload X dX8_left_66 rfl ?_
        obtain ⟨g_68, h⟩ := zIx h
        refine a_iaload X (by assumption) g_68 dX8_left_68 ?_
        refine a_iload_n X dX8_left_69 rfl ?_
        refine a_icmp_eq (tgt := 76) X dX8_left_70 (by decide) (fun h_70 => ?_) (fun h_70 => ?_)
        · replace h := (if_pos h_70).symm.trans h
          refine a_iinc (v := x4_53 + 1) X dX8_left_76 (by decide) rfl zi_1 ?_
          refine a_iload X dX8_left_79 rfl ?_
          refine a_iconst (v := -1) X dX8_left_81 (by decide) ?_
          refine a_icmp_ne (tgt := 95) X dX8_left_82 (by decide) (fun h_82 => ?_) (fun h_82 => ?_)
          · replace h := (if_neg h_82).symm.trans h
            refine a_iload X dX8_left_95 rfl ?_
            refine a_aload_n X dX8_left_97 rfl ?_
            refine a_getr X lf8_64 (by assumption) rfl (by omega) dX8_left_98 ?_
            refine a_iload X dX8_left_101 rfl ?_
            obtain ⟨g_103, h⟩ := zIx h
            refine a_iaload X (by assumption) g_103 dX8_left_103 ?_
            refine a_mmin X lm8_366 zmath2 zmath0 zmathc2 ⟨by decide, Nat.le_of_ble_eq_true rfl, by decide, by decide⟩ dX8_left_104 ?_
            exact Zw.to2 (J_107 _ _ _ _ _ _ _ _ _ h) rfl rfl rfl
          · replace h := (if_pos h_82).symm.trans h
            refine a_aload_n X dX8_left_85 rfl ?_
            refine a_getr X lf8_64 (by assumption) rfl (by omega) dX8_left_86 ?_
            refine a_iload X dX8_left_89 rfl ?_
            obtain ⟨g_91, h⟩ := zIx h
            refine a_iaload X (by assumption) g_91 dX8_left_91 ?_
            refine a_goto (tgt := 107) X dX8_left_92 (by decide) ?_
            exact Zw.to2 (J_107 _ _ _ _ _ _ _ _ _ h) rfl rfl rfl
        · replace h := (if_neg h_70).symm.trans h
          refine a_goto (tgt := 109) X dX8_left_73 (by decide) ?_
          exact Zw.to2 (J_109 _ _ _ _ _ _ _ _ h) rfl rfl rfl
  have H_53 : ∀ (x1_53 : Int32) (x2_53 : Int32) (x3_53 : Int32) (x4_53 : Int32) (x5_53 : Int32) (x6_53 : Int32) (M_53 : zMt) (N_53 : zNt), D_X8_left_53 P zFu x2_53 x3_53 x4_53 x5_53 x6_53 M_53 N_53 = some r → Zw p l e { frames := 5, cells := 0, slots := 0, locals := 80 * (5) } s m args below meth c G b 7 (MQ below (zQ G b FQ) args s 0 0 (fun q : Nat => b ≤ q)) 0 0 53 [some (.ref (P)), some (.int x1_53), some (.int x2_53), some (.int x3_53), some (.int x4_53), some (.int x5_53), some (.int x6_53)] [] (L, M_53, N_53) := L_53 zFu
  have J_19 : ∀ (x1_19 : Int32) (x2_19 : Int32) (x3_19 : Int32) (x4_19 : Option Value) (x5_19 : Option Value) (x6_19 : Option Value) (M_19 : zMt) (N_19 : zNt), D_X8_left_19 P M_19 N_19 = some r → Zw p l e { frames := 5, cells := 0, slots := 0, locals := 80 * (5) } s m args below meth c G b 7 (MQ below (zQ G b FQ) args s 0 0 (fun q : Nat => b ≤ q)) 0 0 19 [some (.ref (P)), some (.int x1_19), some (.int x2_19), some (.int x3_19), x4_19, x5_19, x6_19] [] (L, M_19, N_19) := by
    intro x1_19 x2_19 x3_19 x4_19 x5_19 x6_19 M_19 N_19 h
    unfold D_X8_left_19 at h
    refine a_aload_n X dX8_left_19 rfl ?_
    refine a_iconst (v := 1) X dX8_left_20 (by decide) ?_
    obtain ⟨e_21, f_21, h⟩ := zBx h
    refine a_callVv X dX8_left_21 miX8_refuse lm8_263 (t_X8_refuse (by assumption) f_21) (by assumption) rfl rfl rfl (Nat.le_of_ble_eq_true rfl) ⟨by decide, by decide, by decide, by decide⟩ ?_
    refine a_iret X hr dX8_left_24 ⟨by decide, by decide⟩ ?_
    subst hF
    rw [← Option.some.inj h]
    exact ⟨rfl, rfl⟩
  unfold D_X8_left at h
  refine a_iload_n X dX8_left_0 rfl ?_
  obtain ⟨e_1, f_1, h⟩ := zBx h
  refine a_callSx X dX8_left_1 miX8_isSeed lm8_358 (t_X8_isSeed f_1) rfl rfl (Nat.le_of_ble_eq_true rfl) ⟨by decide, by decide, by decide, by decide⟩ (fun r_1 S_1 q_1 => ?_)
  obtain ⟨rfl, rfl, b_1⟩ := q_1
  refine a_if_eq (tgt := 19) X dX8_left_4 (by decide) (fun h_4 => ?_) (fun h_4 => ?_)
  · replace h := (if_pos h_4).symm.trans h
    exact Zw.to2 (J_19 _ _ _ _ _ _ _ _ h) rfl rfl rfl
  · replace h := (if_neg h_4).symm.trans h
    refine a_iload_n X dX8_left_7 rfl ?_
    refine a_i2l X dX8_left_8 ?_
    refine a_lconst (v := 0) X dX8_left_9 (by decide) ?_
    refine a_ldc2 X dX8_left_10 lk8_364 ?_
    obtain ⟨e_13, f_13, h⟩ := zBx h
    refine a_callSx X dX8_left_13 miX8_isFrom lm8_128 (t_X8_isFrom f_13) rfl rfl (Nat.le_of_ble_eq_true rfl) ⟨by decide, by decide, by decide, by decide⟩ (fun r_13 S_13 q_13 => ?_)
    obtain ⟨rfl, rfl, b_13⟩ := q_13
    refine a_if_ne (tgt := 25) X dX8_left_16 (by decide) (fun h_16 => ?_) (fun h_16 => ?_)
    · replace h := (if_neg h_16).symm.trans h
      refine a_aload_n X dX8_left_25 rfl ?_
      refine a_iload_n X dX8_left_26 rfl ?_
      obtain ⟨e_27, f_27, h⟩ := zBx h
      refine a_callVx X dX8_left_27 miX8_isUnit lm8_301 (t_X8_isUnit (by assumption) f_27) (by assumption) rfl rfl rfl (Nat.le_of_ble_eq_true rfl) ⟨by decide, by decide, by decide, by decide⟩ (fun r_27 S_27 q_27 => ?_)
      obtain ⟨rfl, rfl, b_27⟩ := q_27
      refine a_if_ne (tgt := 39) X dX8_left_30 (by decide) (fun h_30 => ?_) (fun h_30 => ?_)
      · replace h := (if_neg h_30).symm.trans h
        refine a_aload_n X dX8_left_39 rfl ?_
        refine a_iload_n X dX8_left_40 rfl ?_
        obtain ⟨e_41, f_41, h⟩ := zBx h
        refine a_callVu X dX8_left_41 miX8_laysResult lm8_361 (t_X8_laysResult (by assumption) f_41) (by assumption) rfl rfl rfl (Nat.le_of_ble_eq_true rfl) ⟨by decide, by decide, by decide, by decide⟩ ?_
        refine a_iconst (v := 0) X dX8_left_44 (by decide) ?_
        refine a_istore X dX8_left_45 (by decide) ?_
        refine a_iconst (v := -1) X dX8_left_47 (by decide) ?_
        refine a_istore X dX8_left_48 (by decide) ?_
        refine a_iconst (v := 0) X dX8_left_50 (by decide) ?_
        refine a_istore X dX8_left_51 (by decide) ?_
        exact Zw.to2 (H_53 _ _ _ _ _ _ _ _ h) rfl rfl rfl
      · replace h := (if_pos h_30).symm.trans h
        refine a_aload_n X dX8_left_33 rfl ?_
        refine a_iconst (v := 2) X dX8_left_34 (by decide) ?_
        obtain ⟨e_35, f_35, h⟩ := zBx h
        refine a_callVv X dX8_left_35 miX8_refuse lm8_263 (t_X8_refuse (by assumption) f_35) (by assumption) rfl rfl rfl (Nat.le_of_ble_eq_true rfl) ⟨by decide, by decide, by decide, by decide⟩ ?_
        refine a_iret X hr dX8_left_38 ⟨by decide, by decide⟩ ?_
        subst hF
        rw [← Option.some.inj h]
        exact ⟨rfl, rfl⟩
    · replace h := (if_pos h_16).symm.trans h
      exact Zw.to2 (J_19 _ _ _ _ _ _ _ _ h) rfl rfl rfl
noncomputable def D_X8_winnersNow_33 (P : Nat) (M : zMt) (k4 : Int32 → Int32 → Option (Int32)) (x2_33 : Int32) (y0_33 : Int32) (y1_33 : Int32) : Option (Int32) :=
  k4 (y0_33 ||| y1_33) (x2_33 + 1)
noncomputable def D_X8_winnersNow_4 (P : Nat) (M : zMt) : Nat → Int32 → Int32 → Option (Int32)
  | 0, _, _ => none
  | n + 1, x1_4, x2_4 =>
    if (M P 33) ≤ x2_4 then
      some (x1_4)
    else
      zI x2_4 10 <|
      if (M (P + 19) x2_4.toNatClampNeg) = (-1 : Int32) then
        D_X8_winnersNow_33 P M (D_X8_winnersNow_4 P M n) x2_4 x1_4 (0 : Int32)
      else
        zI x2_4 10 <|
        D_X8_winnersNow_33 P M (D_X8_winnersNow_4 P M n) x2_4 x1_4 (M (P + 11) x2_4.toNatClampNeg)
noncomputable def D_X8_winnersNow (P : Nat) (M : zMt)  : Option (Int32) :=
  D_X8_winnersNow_4 P M zFu (0 : Int32) (0 : Int32)
set_option maxRecDepth 100000 in
set_option maxHeartbeats 4000000 in
theorem t_X8_winnersNow {l : Launch} {G : zG} {b : Nat} {L : List zC} {M : zMt} {N : zNt} {P : Nat}  (hP : LX8 L P) {r : Int32} (h : D_X8_winnersNow P M = some r) : zM l G b yX8_winnersNow cX8_winnersNow 3 (some .int) 0 0 0 [.ref P] (L, M, N) (fun r2 z => r2 = some (.int r) ∧ z = (L, M, N)) := by
  refine zM.of miX8_winnersNow (Nat.le_of_ble_eq_true rfl) ?_
  intro p e s m args below meth c X hr hname
  generalize hF : ((fun r2 z => r2 = some (.int r) ∧ z = (L, M, N)) : Option Value → zS → Prop) = FQ
  change Zw p l e { frames := 0, cells := 0, slots := 0, locals := 80 * (0) } s m args below meth c G b 3 (MQ below (zQ G b FQ) args s 0 0 (fun q : Nat => b ≤ q)) 0 0 0 [some (.ref P), none, none] [] (L, M, N)
  obtain ⟨p_lt, p_o, p_s, p_read, p_aside, p_kept, p_guest, p_readGuest, p_tape, p_unitName, p_hunterName, p_partyName, p_bits, p_partyOf, p_choiceAt, p_sizes, p_guestMany, p_pointsOf, p_ticketsOf, p_ord, p_given, p_roundOf, p_tags, p_guestTags, p_places, p_sumAt, p_sumFirst, p_sumRound, p_sumBoth, p_sumTags, p_isEnd, p_newPoints, p_inRow, p_out⟩ := id hP
  have L_4 : ∀ u : Nat, ∀ (x1_4 : Int32) (x2_4 : Int32), D_X8_winnersNow_4 P M u x1_4 x2_4 = some r → Zw p l e { frames := 0, cells := 0, slots := 0, locals := 80 * (0) } s m args below meth c G b 3 (MQ below (zQ G b FQ) args s 0 0 (fun q : Nat => b ≤ q)) 0 0 4 [some (.ref (P)), some (.int x1_4), some (.int x2_4)] [] (L, M, N) := by
    intro u
    induction u with
    | zero => intro x1_4 x2_4 h; cases (show none = some r from h)
    | succ u_4 ih_4 =>
      have J_33 : ∀ (x1_33 : Int32) (x2_33 : Int32) (y0_33 : Int32) (y1_33 : Int32), D_X8_winnersNow_33 P M (D_X8_winnersNow_4 P M u_4) x2_33 y0_33 y1_33 = some r → Zw p l e { frames := 0, cells := 0, slots := 0, locals := 80 * (0) } s m args below meth c G b 3 (MQ below (zQ G b FQ) args s 0 0 (fun q : Nat => b ≤ q)) 0 0 33 [some (.ref (P)), some (.int x1_33), some (.int x2_33)] [.int y1_33, .int y0_33] (L, M, N) := by
        intro x1_33 x2_33 y0_33 y1_33 h
        unfold D_X8_winnersNow_33 at h
        refine a_ior X dX8_winnersNow_33 ?_
        refine a_istore_n X dX8_winnersNow_34 (by decide) ?_
        refine a_iinc (v := x2_33 + 1) X dX8_winnersNow_35 (by decide) rfl zi_1 ?_
        refine a_goto (tgt := 4) X dX8_winnersNow_38 (by decide) ?_
        exact Zw.to2 (ih_4 _ _ h) rfl rfl rfl
      intro x1_4 x2_4 h
      rw [D_X8_winnersNow_4] at h
      refine a_iload_n X dX8_winnersNow_4 rfl ?_
      refine a_aload_n X dX8_winnersNow_5 rfl ?_
      refine a_geti X lf8_275 (by assumption) rfl dX8_winnersNow_6 ?_
      refine a_icmp_ge (tgt := 41) X dX8_winnersNow_9 (by decide) (fun h_9 => ?_) (fun h_9 => ?_)
      · replace h := (if_pos h_9).symm.trans h
        refine a_iload_n X dX8_winnersNow_41 rfl ?_
        refine a_iret X hr dX8_winnersNow_42 ⟨by decide, by decide⟩ ?_
        subst hF
        rw [← Option.some.inj h]
        exact ⟨rfl, rfl⟩
      · replace h := (if_neg h_9).symm.trans h
        refine a_iload_n X dX8_winnersNow_12 rfl ?_
        refine a_aload_n X dX8_winnersNow_13 rfl ?_
        refine a_getr X lf8_73 (by assumption) rfl (by omega) dX8_winnersNow_14 ?_
        refine a_iload_n X dX8_winnersNow_17 rfl ?_
        obtain ⟨g_18, h⟩ := zIx h
        refine a_iaload X (by assumption) g_18 dX8_winnersNow_18 ?_
        refine a_iconst (v := -1) X dX8_winnersNow_19 (by decide) ?_
        refine a_icmp_ne (tgt := 27) X dX8_winnersNow_20 (by decide) (fun h_20 => ?_) (fun h_20 => ?_)
        · replace h := (if_neg h_20).symm.trans h
          refine a_aload_n X dX8_winnersNow_27 rfl ?_
          refine a_getr X lf8_49 (by assumption) rfl (by omega) dX8_winnersNow_28 ?_
          refine a_iload_n X dX8_winnersNow_31 rfl ?_
          obtain ⟨g_32, h⟩ := zIx h
          refine a_iaload X (by assumption) g_32 dX8_winnersNow_32 ?_
          exact Zw.to2 (J_33 _ _ _ _ h) rfl rfl rfl
        · replace h := (if_pos h_20).symm.trans h
          refine a_iconst (v := 0) X dX8_winnersNow_23 (by decide) ?_
          refine a_goto (tgt := 33) X dX8_winnersNow_24 (by decide) ?_
          exact Zw.to2 (J_33 _ _ _ _ h) rfl rfl rfl
  have H_4 : ∀ (x1_4 : Int32) (x2_4 : Int32), D_X8_winnersNow_4 P M zFu x1_4 x2_4 = some r → Zw p l e { frames := 0, cells := 0, slots := 0, locals := 80 * (0) } s m args below meth c G b 3 (MQ below (zQ G b FQ) args s 0 0 (fun q : Nat => b ≤ q)) 0 0 4 [some (.ref (P)), some (.int x1_4), some (.int x2_4)] [] (L, M, N) := L_4 zFu
  unfold D_X8_winnersNow at h
  refine a_iconst (v := 0) X dX8_winnersNow_0 (by decide) ?_
  refine a_istore_n X dX8_winnersNow_1 (by decide) ?_
  refine a_iconst (v := 0) X dX8_winnersNow_2 (by decide) ?_
  refine a_istore_n X dX8_winnersNow_3 (by decide) ?_
  exact Zw.to2 (H_4 _ _ h) rfl rfl rfl
noncomputable def D_X8_winners (P : Nat) (v0 : Int32) (M : zMt) (N : zNt) : Option (Int32 × zMt × zNt) :=
  zB (D_X8_isSeed v0) fun e_1 =>
  if e_1 = 0 then
    zB (D_X8_refuse P (1 : Int32) M) fun e_9 =>
    some (e_9.1, e_9.2, N)
  else
    zB (D_X8_laysResult P v0 M N) fun e_15 =>
    zB (D_X8_winnersNow P e_15.1) fun e_20 =>
    zB (D_X8_gives P e_20 e_15.1) fun e_23 =>
    some (e_23.1, e_23.2, e_15.2)
set_option maxRecDepth 100000 in
set_option maxHeartbeats 4000000 in
theorem t_X8_winners {l : Launch} {G : zG} {b : Nat} {L : List zC} {M : zMt} {N : zNt} {P : Nat} {v0 : Int32} (hP : LX8 L P) {r : Int32 × zMt × zNt} (h : D_X8_winners P v0 M N = some r) : zM l G b yX8_winners cX8_winners 2 (some .int) 5 0 0 [.ref P, .int v0] (L, M, N) (fun r2 z => r2 = some (.int r.1) ∧ z = (L, r.2.1, r.2.2)) := by
  refine zM.of miX8_winners (Nat.le_of_ble_eq_true rfl) ?_
  intro p e s m args below meth c X hr hname
  generalize hF : ((fun r2 z => r2 = some (.int r.1) ∧ z = (L, r.2.1, r.2.2)) : Option Value → zS → Prop) = FQ
  change Zw p l e { frames := 5, cells := 0, slots := 0, locals := 80 * (5) } s m args below meth c G b 2 (MQ below (zQ G b FQ) args s 0 0 (fun q : Nat => b ≤ q)) 0 0 0 [some (.ref P), some (.int v0)] [] (L, M, N)
  obtain ⟨p_lt, p_o, p_s, p_read, p_aside, p_kept, p_guest, p_readGuest, p_tape, p_unitName, p_hunterName, p_partyName, p_bits, p_partyOf, p_choiceAt, p_sizes, p_guestMany, p_pointsOf, p_ticketsOf, p_ord, p_given, p_roundOf, p_tags, p_guestTags, p_places, p_sumAt, p_sumFirst, p_sumRound, p_sumBoth, p_sumTags, p_isEnd, p_newPoints, p_inRow, p_out⟩ := id hP
  unfold D_X8_winners at h
  refine a_iload_n X dX8_winners_0 rfl ?_
  obtain ⟨e_1, f_1, h⟩ := zBx h
  refine a_callSx X dX8_winners_1 miX8_isSeed lm8_358 (t_X8_isSeed f_1) rfl rfl (Nat.le_of_ble_eq_true rfl) ⟨by decide, by decide, by decide, by decide⟩ (fun r_1 S_1 q_1 => ?_)
  obtain ⟨rfl, rfl, b_1⟩ := q_1
  refine a_if_ne (tgt := 13) X dX8_winners_4 (by decide) (fun h_4 => ?_) (fun h_4 => ?_)
  · replace h := (if_neg h_4).symm.trans h
    refine a_aload_n X dX8_winners_13 rfl ?_
    refine a_iload_n X dX8_winners_14 rfl ?_
    obtain ⟨e_15, f_15, h⟩ := zBx h
    refine a_callVu X dX8_winners_15 miX8_laysResult lm8_361 (t_X8_laysResult (by assumption) f_15) (by assumption) rfl rfl rfl (Nat.le_of_ble_eq_true rfl) ⟨by decide, by decide, by decide, by decide⟩ ?_
    refine a_aload_n X dX8_winners_18 rfl ?_
    refine a_aload_n X dX8_winners_19 rfl ?_
    obtain ⟨e_20, f_20, h⟩ := zBx h
    refine a_callVv X dX8_winners_20 miX8_winnersNow lm8_371 (t_X8_winnersNow (by assumption) f_20) (by assumption) rfl rfl rfl (Nat.le_of_ble_eq_true rfl) ⟨by decide, by decide, by decide, by decide⟩ ?_
    obtain ⟨e_23, f_23, h⟩ := zBx h
    refine a_callVv X dX8_winners_23 miX8_gives lm8_272 (t_X8_gives (by assumption) f_23) (by assumption) rfl rfl rfl (Nat.le_of_ble_eq_true rfl) ⟨by decide, by decide, by decide, by decide⟩ ?_
    refine a_iret X hr dX8_winners_26 ⟨by decide, by decide⟩ ?_
    subst hF
    rw [← Option.some.inj h]
    exact ⟨rfl, rfl⟩
  · replace h := (if_pos h_4).symm.trans h
    refine a_aload_n X dX8_winners_7 rfl ?_
    refine a_iconst (v := 1) X dX8_winners_8 (by decide) ?_
    obtain ⟨e_9, f_9, h⟩ := zBx h
    refine a_callVv X dX8_winners_9 miX8_refuse lm8_263 (t_X8_refuse (by assumption) f_9) (by assumption) rfl rfl rfl (Nat.le_of_ble_eq_true rfl) ⟨by decide, by decide, by decide, by decide⟩ ?_
    refine a_iret X hr dX8_winners_12 ⟨by decide, by decide⟩ ?_
    subst hF
    rw [← Option.some.inj h]
    exact ⟨rfl, rfl⟩
noncomputable def D_X8_isWaiting_25 (P : Nat) (M : zMt) (y0_25 : Int32) : Option (Int32) :=
  some (y0_25)
noncomputable def D_X8_isWaiting_24 (P : Nat) (M : zMt)  : Option (Int32) :=
  D_X8_isWaiting_25 P M (0 : Int32)
noncomputable def D_X8_isWaiting (P : Nat) (M : zMt) (v0 : Int32) (v1 : Int32) : Option (Int32) :=
  zI v0 10 <|
  if (M (P + 19) v0.toNatClampNeg) = (-1 : Int32) then
    zB (D_X8_placeOf P M v0 v1) fun e_13 =>
    if e_13 = (-1 : Int32) then
      D_X8_isWaiting_24 P M
    else
      D_X8_isWaiting_25 P M (1 : Int32)
  else
    D_X8_isWaiting_24 P M
set_option maxRecDepth 100000 in
set_option maxHeartbeats 4000000 in
theorem t_X8_isWaiting {l : Launch} {G : zG} {b : Nat} {L : List zC} {M : zMt} {N : zNt} {P : Nat} {v0 : Int32} {v1 : Int32} (hP : LX8 L P) {r : Int32} (h : D_X8_isWaiting P M v0 v1 = some r) : zM l G b yX8_isWaiting cX8_isWaiting 3 (some .boolean) 3 0 0 [.ref P, .int v0, .int v1] (L, M, N) (fun r2 z => r2 = some (.int r) ∧ z = (L, M, N) ∧ (r = 0 ∨ r = 1)) := by
  refine zM.of miX8_isWaiting (Nat.le_of_ble_eq_true rfl) ?_
  intro p e s m args below meth c X hr hname
  generalize hF : ((fun r2 z => r2 = some (.int r) ∧ z = (L, M, N) ∧ (r = 0 ∨ r = 1)) : Option Value → zS → Prop) = FQ
  change Zw p l e { frames := 3, cells := 0, slots := 0, locals := 80 * (3) } s m args below meth c G b 3 (MQ below (zQ G b FQ) args s 0 0 (fun q : Nat => b ≤ q)) 0 0 0 [some (.ref P), some (.int v0), some (.int v1)] [] (L, M, N)
  obtain ⟨p_lt, p_o, p_s, p_read, p_aside, p_kept, p_guest, p_readGuest, p_tape, p_unitName, p_hunterName, p_partyName, p_bits, p_partyOf, p_choiceAt, p_sizes, p_guestMany, p_pointsOf, p_ticketsOf, p_ord, p_given, p_roundOf, p_tags, p_guestTags, p_places, p_sumAt, p_sumFirst, p_sumRound, p_sumBoth, p_sumTags, p_isEnd, p_newPoints, p_inRow, p_out⟩ := id hP
  have J_25 : ∀ (x1_25 : Int32) (x2_25 : Int32) (y0_25 : Int32), (y0_25 = 0 ∨ y0_25 = 1) → D_X8_isWaiting_25 P M y0_25 = some r → Zw p l e { frames := 3, cells := 0, slots := 0, locals := 80 * (3) } s m args below meth c G b 3 (MQ below (zQ G b FQ) args s 0 0 (fun q : Nat => b ≤ q)) 0 0 25 [some (.ref (P)), some (.int x1_25), some (.int x2_25)] [.int y0_25] (L, M, N) := by
    intro x1_25 x2_25 y0_25 fb_y0_25 h
    unfold D_X8_isWaiting_25 at h
    refine a_zret X (by first | exact Or.inl rfl | exact Or.inr rfl | assumption) hr dX8_isWaiting_25 ⟨by decide, by decide⟩ ?_
    subst hF
    rw [← Option.some.inj h]
    exact ⟨rfl, rfl, (by first | exact Or.inl rfl | exact Or.inr rfl | assumption)⟩
  have J_24 : ∀ (x1_24 : Int32) (x2_24 : Int32), D_X8_isWaiting_24 P M = some r → Zw p l e { frames := 3, cells := 0, slots := 0, locals := 80 * (3) } s m args below meth c G b 3 (MQ below (zQ G b FQ) args s 0 0 (fun q : Nat => b ≤ q)) 0 0 24 [some (.ref (P)), some (.int x1_24), some (.int x2_24)] [] (L, M, N) := by
    intro x1_24 x2_24 h
    unfold D_X8_isWaiting_24 at h
    refine a_iconst (v := 0) X dX8_isWaiting_24 (by decide) ?_
    exact Zw.to2 (J_25 _ _ _ (by first | exact Or.inl rfl | exact Or.inr rfl | assumption) h) rfl rfl rfl
  unfold D_X8_isWaiting at h
  refine a_aload_n X dX8_isWaiting_0 rfl ?_
  refine a_getr X lf8_73 (by assumption) rfl (by omega) dX8_isWaiting_1 ?_
  refine a_iload_n X dX8_isWaiting_4 rfl ?_
  obtain ⟨g_5, h⟩ := zIx h
  refine a_iaload X (by assumption) g_5 dX8_isWaiting_5 ?_
  refine a_iconst (v := -1) X dX8_isWaiting_6 (by decide) ?_
  refine a_icmp_ne (tgt := 24) X dX8_isWaiting_7 (by decide) (fun h_7 => ?_) (fun h_7 => ?_)
  · replace h := (if_neg h_7).symm.trans h
    exact Zw.to2 (J_24 _ _ h) rfl rfl rfl
  · replace h := (if_pos h_7).symm.trans h
    refine a_aload_n X dX8_isWaiting_10 rfl ?_
    refine a_iload_n X dX8_isWaiting_11 rfl ?_
    refine a_iload_n X dX8_isWaiting_12 rfl ?_
    obtain ⟨e_13, f_13, h⟩ := zBx h
    refine a_callVv X dX8_isWaiting_13 miX8_placeOf lm8_310 (t_X8_placeOf (by assumption) f_13) (by assumption) rfl rfl rfl (Nat.le_of_ble_eq_true rfl) ⟨by decide, by decide, by decide, by decide⟩ ?_
    refine a_iconst (v := -1) X dX8_isWaiting_16 (by decide) ?_
    refine a_icmp_eq (tgt := 24) X dX8_isWaiting_17 (by decide) (fun h_17 => ?_) (fun h_17 => ?_)
    · replace h := (if_pos h_17).symm.trans h
      exact Zw.to2 (J_24 _ _ h) rfl rfl rfl
    · replace h := (if_neg h_17).symm.trans h
      refine a_iconst (v := 1) X dX8_isWaiting_20 (by decide) ?_
      refine a_goto (tgt := 25) X dX8_isWaiting_21 (by decide) ?_
      exact Zw.to2 (J_25 _ _ _ (by first | exact Or.inl rfl | exact Or.inr rfl | assumption) h) rfl rfl rfl
noncomputable def D_X8_waits_116 (P : Nat) (y0_116 : Int32) (M_116 : zMt) (N_116 : zNt) : Option (Int32 × zMt × zNt) :=
  some (y0_116, M_116, N_116)
noncomputable def D_X8_waits_91 (P : Nat) (k43 : Int32 → Int32 → Int32 → Int32 → zMt → zNt → Option (Int32 × zMt × zNt)) (x2_91 : Int32) (x3_91 : Int32) (x4_91 : Int32) (x5_91 : Int32) (M_91 : zMt) (N_91 : zNt) : Option (Int32 × zMt × zNt) :=
  k43 x2_91 x3_91 x4_91 (x5_91 + 1) M_91 N_91
noncomputable def D_X8_waits_43 (P : Nat) : Nat → Int32 → Int32 → Int32 → Int32 → zMt → zNt → Option (Int32 × zMt × zNt)
  | 0, _, _, _, _, _, _ => none
  | n + 1, x2_43, x3_43, x4_43, x5_43, M_43, N_43 =>
    if (M_43 P 33) ≤ x5_43 then
      if x3_43 = (-1 : Int32) then
        zB (D_X8_gives P x4_43 M_43) fun e_105 =>
        D_X8_waits_116 P e_105.1 e_105.2 N_43
      else
        zB (D_X8_refuse P (5 : Int32) M_43) fun e_113 =>
        D_X8_waits_116 P e_113.1 e_113.2 N_43
    else
      zI x5_43 10 <|
      zB (D_X8_isWaiting P M_43 (M_43 (P + 18) x5_43.toNatClampNeg) x2_43) fun e_61 =>
      if e_61 = 0 then
        D_X8_waits_91 P (D_X8_waits_43 P n) x2_43 x3_43 x4_43 x5_43 M_43 N_43
      else
        if x4_43 = x3_43 then
          zI x5_43 10 <|
          zB (D_X8_gives P (M_43 (P + 18) x5_43.toNatClampNeg) M_43) fun e_84 =>
          some (e_84.1, e_84.2, N_43)
        else
          D_X8_waits_91 P (D_X8_waits_43 P n) x2_43 x3_43 (x4_43 + 1) x5_43 M_43 N_43
noncomputable def D_X8_waits_12 (P : Nat) (M_12 : zMt) (N_12 : zNt) : Option (Int32 × zMt × zNt) :=
  zB (D_X8_refuse P (1 : Int32) M_12) fun e_14 =>
  some (e_14.1, e_14.2, N_12)
noncomputable def D_X8_waits (P : Nat) (v0 : Int32) (v1 : Int32) (v2 : Int32) (M : zMt) (N : zNt) : Option (Int32 × zMt × zNt) :=
  zB (D_X8_isSeed v0) fun e_1 =>
  if e_1 = 0 then
    D_X8_waits_12 P M N
  else
    if (-1 : Int32) ≤ v2 then
      zB (D_X8_isUnit P M v1) fun e_20 =>
      if e_20 = 0 then
        zB (D_X8_refuse P (2 : Int32) M) fun e_28 =>
        some (e_28.1, e_28.2, N)
      else
        zB (D_X8_laysResult P v0 M N) fun e_34 =>
        D_X8_waits_43 P zFu v1 v2 (0 : Int32) (0 : Int32) e_34.1 e_34.2
    else
      D_X8_waits_12 P M N
set_option maxRecDepth 100000 in
set_option maxHeartbeats 4000000 in
theorem t_X8_waits {l : Launch} {G : zG} {b : Nat} {L : List zC} {M : zMt} {N : zNt} {P : Nat} {v0 : Int32} {v1 : Int32} {v2 : Int32} (hP : LX8 L P) {r : Int32 × zMt × zNt} (h : D_X8_waits P v0 v1 v2 M N = some r) : zM l G b yX8_waits cX8_waits 6 (some .int) 5 0 0 [.ref P, .int v0, .int v1, .int v2] (L, M, N) (fun r2 z => r2 = some (.int r.1) ∧ z = (L, r.2.1, r.2.2)) := by
  refine zM.of miX8_waits (Nat.le_of_ble_eq_true rfl) ?_
  intro p e s m args below meth c X hr hname
  generalize hF : ((fun r2 z => r2 = some (.int r.1) ∧ z = (L, r.2.1, r.2.2)) : Option Value → zS → Prop) = FQ
  change Zw p l e { frames := 5, cells := 0, slots := 0, locals := 80 * (5) } s m args below meth c G b 6 (MQ below (zQ G b FQ) args s 0 0 (fun q : Nat => b ≤ q)) 0 0 0 [some (.ref P), some (.int v0), some (.int v1), some (.int v2), none, none] [] (L, M, N)
  obtain ⟨p_lt, p_o, p_s, p_read, p_aside, p_kept, p_guest, p_readGuest, p_tape, p_unitName, p_hunterName, p_partyName, p_bits, p_partyOf, p_choiceAt, p_sizes, p_guestMany, p_pointsOf, p_ticketsOf, p_ord, p_given, p_roundOf, p_tags, p_guestTags, p_places, p_sumAt, p_sumFirst, p_sumRound, p_sumBoth, p_sumTags, p_isEnd, p_newPoints, p_inRow, p_out⟩ := id hP
  have J_116 : ∀ (x1_116 : Int32) (x2_116 : Int32) (x3_116 : Int32) (x4_116 : Int32) (x5_116 : Int32) (y0_116 : Int32) (M_116 : zMt) (N_116 : zNt), D_X8_waits_116 P y0_116 M_116 N_116 = some r → Zw p l e { frames := 5, cells := 0, slots := 0, locals := 80 * (5) } s m args below meth c G b 6 (MQ below (zQ G b FQ) args s 0 0 (fun q : Nat => b ≤ q)) 0 0 116 [some (.ref (P)), some (.int x1_116), some (.int x2_116), some (.int x3_116), some (.int x4_116), some (.int x5_116)] [.int y0_116] (L, M_116, N_116) := by
    intro x1_116 x2_116 x3_116 x4_116 x5_116 y0_116 M_116 N_116 h
    unfold D_X8_waits_116 at h
    refine a_iret X hr dX8_waits_116 ⟨by decide, by decide⟩ ?_
    subst hF
    rw [← Option.some.inj h]
    exact ⟨rfl, rfl⟩
  have L_43 : ∀ u : Nat, ∀ (x1_43 : Int32) (x2_43 : Int32) (x3_43 : Int32) (x4_43 : Int32) (x5_43 : Int32) (M_43 : zMt) (N_43 : zNt), D_X8_waits_43 P u x2_43 x3_43 x4_43 x5_43 M_43 N_43 = some r → Zw p l e { frames := 5, cells := 0, slots := 0, locals := 80 * (5) } s m args below meth c G b 6 (MQ below (zQ G b FQ) args s 0 0 (fun q : Nat => b ≤ q)) 0 0 43 [some (.ref (P)), some (.int x1_43), some (.int x2_43), some (.int x3_43), some (.int x4_43), some (.int x5_43)] [] (L, M_43, N_43) := by
    intro u
    induction u with
    | zero => intro x1_43 x2_43 x3_43 x4_43 x5_43 M_43 N_43 h; cases (show none = some r from h)
    | succ u_43 ih_43 =>
      have J_91 : ∀ (x1_91 : Int32) (x2_91 : Int32) (x3_91 : Int32) (x4_91 : Int32) (x5_91 : Int32) (M_91 : zMt) (N_91 : zNt), D_X8_waits_91 P (D_X8_waits_43 P u_43) x2_91 x3_91 x4_91 x5_91 M_91 N_91 = some r → Zw p l e { frames := 5, cells := 0, slots := 0, locals := 80 * (5) } s m args below meth c G b 6 (MQ below (zQ G b FQ) args s 0 0 (fun q : Nat => b ≤ q)) 0 0 91 [some (.ref (P)), some (.int x1_91), some (.int x2_91), some (.int x3_91), some (.int x4_91), some (.int x5_91)] [] (L, M_91, N_91) := by
        intro x1_91 x2_91 x3_91 x4_91 x5_91 M_91 N_91 h
        unfold D_X8_waits_91 at h
        refine a_iinc (v := x5_91 + 1) X dX8_waits_91 (by decide) rfl zi_1 ?_
        refine a_goto (tgt := 43) X dX8_waits_94 (by decide) ?_
        exact Zw.to2 (ih_43 _ _ _ _ _ _ _ h) rfl rfl rfl
      intro x1_43 x2_43 x3_43 x4_43 x5_43 M_43 N_43 h
      rw [D_X8_waits_43] at h
      refine a_iload X dX8_waits_43 rfl ?_
      refine a_aload_n X dX8_waits_45 rfl ?_
      refine a_geti X lf8_275 (by assumption) rfl dX8_waits_46 ?_
      refine a_icmp_ge (tgt := 97) X dX8_waits_49 (by decide) (fun h_49 => ?_) (fun h_49 => ?_)
      · replace h := (if_pos h_49).symm.trans h
        refine a_iload_n X dX8_waits_97 rfl ?_
        refine a_iconst (v := -1) X dX8_waits_98 (by decide) ?_
        refine a_icmp_ne (tgt := 111) X dX8_waits_99 (by decide) (fun h_99 => ?_) (fun h_99 => ?_)
        · replace h := (if_neg h_99).symm.trans h
          refine a_aload_n X dX8_waits_111 rfl ?_
          refine a_iconst (v := 5) X dX8_waits_112 (by decide) ?_
          obtain ⟨e_113, f_113, h⟩ := zBx h
          refine a_callVv X dX8_waits_113 miX8_refuse lm8_263 (t_X8_refuse (by assumption) f_113) (by assumption) rfl rfl rfl (Nat.le_of_ble_eq_true rfl) ⟨by decide, by decide, by decide, by decide⟩ ?_
          exact Zw.to2 (J_116 _ _ _ _ _ _ _ _ h) rfl rfl rfl
        · replace h := (if_pos h_99).symm.trans h
          refine a_aload_n X dX8_waits_102 rfl ?_
          refine a_iload X dX8_waits_103 rfl ?_
          obtain ⟨e_105, f_105, h⟩ := zBx h
          refine a_callVv X dX8_waits_105 miX8_gives lm8_272 (t_X8_gives (by assumption) f_105) (by assumption) rfl rfl rfl (Nat.le_of_ble_eq_true rfl) ⟨by decide, by decide, by decide, by decide⟩ ?_
          refine a_goto (tgt := 116) X dX8_waits_108 (by decide) ?_
          exact Zw.to2 (J_116 _ _ _ _ _ _ _ _ h) rfl rfl rfl
      · replace h := (if_neg h_49).symm.trans h
        refine a_aload_n X dX8_waits_52 rfl ?_
        refine a_aload_n X dX8_waits_53 rfl ?_
        refine a_getr X lf8_70 (by assumption) rfl (by omega) dX8_waits_54 ?_
        refine a_iload X dX8_waits_57 rfl ?_
        obtain ⟨g_59, h⟩ := zIx h
        refine a_iaload X (by assumption) g_59 dX8_waits_59 ?_
        refine a_iload_n X dX8_waits_60 rfl ?_
        obtain ⟨e_61, f_61, h⟩ := zBx h
        refine a_callVx X dX8_waits_61 miX8_isWaiting lm8_374 (t_X8_isWaiting (by assumption) f_61) (by assumption) rfl rfl rfl (Nat.le_of_ble_eq_true rfl) ⟨by decide, by decide, by decide, by decide⟩ (fun r_61 S_61 q_61 => ?_)
        obtain ⟨rfl, rfl, b_61⟩ := q_61
        refine a_if_ne (tgt := 70) X dX8_waits_64 (by decide) (fun h_64 => ?_) (fun h_64 => ?_)
        · replace h := (if_neg h_64).symm.trans h
          refine a_iload X dX8_waits_70 rfl ?_
          refine a_iload_n X dX8_waits_72 rfl ?_
          refine a_icmp_ne (tgt := 88) X dX8_waits_73 (by decide) (fun h_73 => ?_) (fun h_73 => ?_)
          · replace h := (if_neg h_73).symm.trans h
            refine a_iinc (v := x4_43 + 1) X dX8_waits_88 (by decide) rfl zi_1 ?_
            exact Zw.to2 (J_91 _ _ _ _ _ _ _ h) rfl rfl rfl
          · replace h := (if_pos h_73).symm.trans h
            refine a_aload_n X dX8_waits_76 rfl ?_
            refine a_aload_n X dX8_waits_77 rfl ?_
            refine a_getr X lf8_70 (by assumption) rfl (by omega) dX8_waits_78 ?_
            refine a_iload X dX8_waits_81 rfl ?_
            obtain ⟨g_83, h⟩ := zIx h
            refine a_iaload X (by assumption) g_83 dX8_waits_83 ?_
            obtain ⟨e_84, f_84, h⟩ := zBx h
            refine a_callVv X dX8_waits_84 miX8_gives lm8_272 (t_X8_gives (by assumption) f_84) (by assumption) rfl rfl rfl (Nat.le_of_ble_eq_true rfl) ⟨by decide, by decide, by decide, by decide⟩ ?_
            refine a_iret X hr dX8_waits_87 ⟨by decide, by decide⟩ ?_
            subst hF
            rw [← Option.some.inj h]
            exact ⟨rfl, rfl⟩
        · replace h := (if_pos h_64).symm.trans h
          refine a_goto (tgt := 91) X dX8_waits_67 (by decide) ?_
          exact Zw.to2 (J_91 _ _ _ _ _ _ _ h) rfl rfl rfl
  have H_43 : ∀ (x1_43 : Int32) (x2_43 : Int32) (x3_43 : Int32) (x4_43 : Int32) (x5_43 : Int32) (M_43 : zMt) (N_43 : zNt), D_X8_waits_43 P zFu x2_43 x3_43 x4_43 x5_43 M_43 N_43 = some r → Zw p l e { frames := 5, cells := 0, slots := 0, locals := 80 * (5) } s m args below meth c G b 6 (MQ below (zQ G b FQ) args s 0 0 (fun q : Nat => b ≤ q)) 0 0 43 [some (.ref (P)), some (.int x1_43), some (.int x2_43), some (.int x3_43), some (.int x4_43), some (.int x5_43)] [] (L, M_43, N_43) := L_43 zFu
  have J_12 : ∀ (x1_12 : Int32) (x2_12 : Int32) (x3_12 : Int32) (x4_12 : Option Value) (x5_12 : Option Value) (M_12 : zMt) (N_12 : zNt), D_X8_waits_12 P M_12 N_12 = some r → Zw p l e { frames := 5, cells := 0, slots := 0, locals := 80 * (5) } s m args below meth c G b 6 (MQ below (zQ G b FQ) args s 0 0 (fun q : Nat => b ≤ q)) 0 0 12 [some (.ref (P)), some (.int x1_12), some (.int x2_12), some (.int x3_12), x4_12, x5_12] [] (L, M_12, N_12) := by
    intro x1_12 x2_12 x3_12 x4_12 x5_12 M_12 N_12 h
    unfold D_X8_waits_12 at h
    refine a_aload_n X dX8_waits_12 rfl ?_
    refine a_iconst (v := 1) X dX8_waits_13 (by decide) ?_
    obtain ⟨e_14, f_14, h⟩ := zBx h
    refine a_callVv X dX8_waits_14 miX8_refuse lm8_263 (t_X8_refuse (by assumption) f_14) (by assumption) rfl rfl rfl (Nat.le_of_ble_eq_true rfl) ⟨by decide, by decide, by decide, by decide⟩ ?_
    refine a_iret X hr dX8_waits_17 ⟨by decide, by decide⟩ ?_
    subst hF
    rw [← Option.some.inj h]
    exact ⟨rfl, rfl⟩
  unfold D_X8_waits at h
  refine a_iload_n X dX8_waits_0 rfl ?_
  obtain ⟨e_1, f_1, h⟩ := zBx h
  refine a_callSx X dX8_waits_1 miX8_isSeed lm8_358 (t_X8_isSeed f_1) rfl rfl (Nat.le_of_ble_eq_true rfl) ⟨by decide, by decide, by decide, by decide⟩ (fun r_1 S_1 q_1 => ?_)
  obtain ⟨rfl, rfl, b_1⟩ := q_1
  refine a_if_eq (tgt := 12) X dX8_waits_4 (by decide) (fun h_4 => ?_) (fun h_4 => ?_)
  · replace h := (if_pos h_4).symm.trans h
    exact Zw.to2 (J_12 _ _ _ _ _ _ _ h) rfl rfl rfl
  · replace h := (if_neg h_4).symm.trans h
    refine a_iload_n X dX8_waits_7 rfl ?_
    refine a_iconst (v := -1) X dX8_waits_8 (by decide) ?_
    refine a_icmp_ge (tgt := 18) X dX8_waits_9 (by decide) (fun h_9 => ?_) (fun h_9 => ?_)
    · replace h := (if_pos h_9).symm.trans h
      refine a_aload_n X dX8_waits_18 rfl ?_
      refine a_iload_n X dX8_waits_19 rfl ?_
      obtain ⟨e_20, f_20, h⟩ := zBx h
      refine a_callVx X dX8_waits_20 miX8_isUnit lm8_301 (t_X8_isUnit (by assumption) f_20) (by assumption) rfl rfl rfl (Nat.le_of_ble_eq_true rfl) ⟨by decide, by decide, by decide, by decide⟩ (fun r_20 S_20 q_20 => ?_)
      obtain ⟨rfl, rfl, b_20⟩ := q_20
      refine a_if_ne (tgt := 32) X dX8_waits_23 (by decide) (fun h_23 => ?_) (fun h_23 => ?_)
      · replace h := (if_neg h_23).symm.trans h
        refine a_aload_n X dX8_waits_32 rfl ?_
        refine a_iload_n X dX8_waits_33 rfl ?_
        obtain ⟨e_34, f_34, h⟩ := zBx h
        refine a_callVu X dX8_waits_34 miX8_laysResult lm8_361 (t_X8_laysResult (by assumption) f_34) (by assumption) rfl rfl rfl (Nat.le_of_ble_eq_true rfl) ⟨by decide, by decide, by decide, by decide⟩ ?_
        refine a_iconst (v := 0) X dX8_waits_37 (by decide) ?_
        refine a_istore X dX8_waits_38 (by decide) ?_
        refine a_iconst (v := 0) X dX8_waits_40 (by decide) ?_
        refine a_istore X dX8_waits_41 (by decide) ?_
        exact Zw.to2 (H_43 _ _ _ _ _ _ _ h) rfl rfl rfl
      · replace h := (if_pos h_23).symm.trans h
        refine a_aload_n X dX8_waits_26 rfl ?_
        refine a_iconst (v := 2) X dX8_waits_27 (by decide) ?_
        obtain ⟨e_28, f_28, h⟩ := zBx h
        refine a_callVv X dX8_waits_28 miX8_refuse lm8_263 (t_X8_refuse (by assumption) f_28) (by assumption) rfl rfl rfl (Nat.le_of_ble_eq_true rfl) ⟨by decide, by decide, by decide, by decide⟩ ?_
        refine a_iret X hr dX8_waits_31 ⟨by decide, by decide⟩ ?_
        subst hF
        rw [← Option.some.inj h]
        exact ⟨rfl, rfl⟩
    · replace h := (if_neg h_9).symm.trans h
      exact Zw.to2 (J_12 _ _ _ _ _ _ _ h) rfl rfl rfl
