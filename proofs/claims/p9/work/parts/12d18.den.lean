noncomputable def D_X8_goesOn_124 (P : Nat) (rec : Int32 → Int32 → Int64 → zMt → zNt → Option (zMt × zNt)) (k69 : Int32 → Int32 → Int64 → Int64 → Int32 → zMt → zNt → Option (zMt × zNt)) (x1_124 : Int32) (x2_124 : Int32) (x3_124 : Int64) (x5_124 : Int64) (x7_124 : Int32) (M_124 : zMt) (N_124 : zNt) : Option (zMt × zNt) :=
  k69 x1_124 x2_124 x3_124 x5_124 (x7_124 + 1) M_124 N_124
noncomputable def D_X8_goesOn_69 (P : Nat) (rec : Int32 → Int32 → Int64 → zMt → zNt → Option (zMt × zNt)) : Nat → Int32 → Int32 → Int64 → Int64 → Int32 → zMt → zNt → Option (zMt × zNt)
  | 0, _, _, _, _, _, _, _ => none
  | n + 1, x1_69, x2_69, x3_69, x5_69, x7_69, M_69, N_69 =>
    if (M_69 P 33) ≤ x7_69 then
      some (M_69, N_69)
    else
      zB (D_X8_has x2_69 x7_69) fun e_81 =>
      if e_81 = 0 then
        zI x1_69 10 <|
        zLt (zu M_69 (P + 18) x1_69.toNatClampNeg x7_69) fun M_97 =>
        zI x7_69 10 <|
        zZl x5_69 <|
        zB (rec (x1_69 + (1 : Int32)) (x2_69 ||| ((1 : Int32) <<< (x7_69 &&& 31))) ((x3_69 * (Int32.toInt64 (M_97 (P + 17) x7_69.toNatClampNeg))) / x5_69) M_97 N_69) fun e_121 =>
        D_X8_goesOn_124 P rec (D_X8_goesOn_69 P rec n) x1_69 x2_69 x3_69 x5_69 x7_69 e_121.1 e_121.2
      else
        D_X8_goesOn_124 P rec (D_X8_goesOn_69 P rec n) x1_69 x2_69 x3_69 x5_69 x7_69 M_69 N_69
noncomputable def D_X8_goesOn_57 (P : Nat) (rec : Int32 → Int32 → Int64 → zMt → zNt → Option (zMt × zNt)) (k25 : Int32 → Int32 → Int64 → Int64 → Int32 → zMt → zNt → Option (zMt × zNt)) (x1_57 : Int32) (x2_57 : Int32) (x3_57 : Int64) (x7_57 : Int32) (y0_57 : Int64) (y1_57 : Int64) (M_57 : zMt) (N_57 : zNt) : Option (zMt × zNt) :=
  k25 x1_57 x2_57 x3_57 (y0_57 + y1_57) (x7_57 + 1) M_57 N_57
noncomputable def D_X8_goesOn_25 (P : Nat) (rec : Int32 → Int32 → Int64 → zMt → zNt → Option (zMt × zNt)) : Nat → Int32 → Int32 → Int64 → Int64 → Int32 → zMt → zNt → Option (zMt × zNt)
  | 0, _, _, _, _, _, _, _ => none
  | n + 1, x1_25, x2_25, x3_25, x5_25, x7_25, M_25, N_25 =>
    if (M_25 P 33) ≤ x7_25 then
      D_X8_goesOn_69 P rec zFu x1_25 x2_25 x3_25 x5_25 (0 : Int32) M_25 N_25
    else
      zB (D_X8_has x2_25 x7_25) fun e_39 =>
      if e_39 = 0 then
        zI x7_25 10 <|
        D_X8_goesOn_57 P rec (D_X8_goesOn_25 P rec n) x1_25 x2_25 x3_25 x7_25 x5_25 (Int32.toInt64 (M_25 (P + 17) x7_25.toNatClampNeg)) M_25 N_25
      else
        D_X8_goesOn_57 P rec (D_X8_goesOn_25 P rec n) x1_25 x2_25 x3_25 x7_25 x5_25 (0 : Int64) M_25 N_25
noncomputable def D_X8_goesOn (P : Nat) : Nat → Int32 → Int32 → Int64 → zMt → zNt → Option (zMt × zNt)
  | 0, _, _, _, _, _ => none
  | w + 1, v0, v1, v2, M, N =>
    if v0 = (M P 33) then
      zB (D_X8_results P (-1 : Int32) M) fun e_10 =>
      zB (D_X8_adds P v2 e_10 N) fun e_15 =>
      some (e_15.1, e_15.2)
    else
      D_X8_goesOn_25 P (D_X8_goesOn P w) zFu v0 v1 v2 (0 : Int64) (0 : Int32) M N
set_option maxRecDepth 100000 in
set_option maxHeartbeats 4000000 in
theorem t_X8_goesOn_w {l : Launch} {G : zG} {b : Nat} {L : List zC} {P : Nat} (hP : LX8 L P) : ∀ (w : Nat) {v0 : Int32} {v1 : Int32} {v2 : Int64} {M : zMt} {N : zNt} {r : zMt × zNt}, D_X8_goesOn P w v0 v1 v2 M N = some r → zM l G b yX8_goesOn cX8_goesOn 8 none (2 + w) 0 0 [.ref P, .int v0, .int v1, .long v2] (L, M, N) (fun r2 z => r2 = none ∧ z = (L, r.1, r.2)) := by
  intro w
  induction w with
  | zero => intro v0 v1 v2 M N r h; cases (show none = some r from h)
  | succ w ihw =>
    intro v0 v1 v2 M N r h
    refine zM.of miX8_goesOn (Nat.le_of_ble_eq_true rfl) ?_
    intro p e s m args below meth c X hr hname
    generalize hF : ((fun r2 z => r2 = none ∧ z = (L, r.1, r.2)) : Option Value → zS → Prop) = FQ
    rw [show 2 + (w + 1) = 3 + w by omega]
    change Zw p l e { frames := 3 + w, cells := 0, slots := 0, locals := 80 * (3 + w) } s m args below meth c G b 8 (MQ below (zQ G b FQ) args s 0 0 (fun q : Nat => b ≤ q)) 0 0 0 [some (.ref P), some (.int v0), some (.int v1), some (.long v2), none, none, none, none] [] (L, M, N)
    obtain ⟨p_lt, p_o, p_s, p_read, p_aside, p_kept, p_guest, p_readGuest, p_tape, p_unitName, p_hunterName, p_partyName, p_bits, p_partyOf, p_choiceAt, p_sizes, p_guestMany, p_pointsOf, p_ticketsOf, p_ord, p_given, p_roundOf, p_tags, p_guestTags, p_places, p_sumAt, p_sumFirst, p_sumRound, p_sumBoth, p_sumTags, p_isEnd, p_newPoints, p_inRow, p_out⟩ := id hP
    have L_69 : ∀ u : Nat, ∀ (x1_69 : Int32) (x2_69 : Int32) (x3_69 : Int64) (x5_69 : Int64) (x7_69 : Int32) (M_69 : zMt) (N_69 : zNt), D_X8_goesOn_69 P (D_X8_goesOn P w) u x1_69 x2_69 x3_69 x5_69 x7_69 M_69 N_69 = some r → Zw p l e { frames := 3 + w, cells := 0, slots := 0, locals := 80 * (3 + w) } s m args below meth c G b 8 (MQ below (zQ G b FQ) args s 0 0 (fun q : Nat => b ≤ q)) 0 0 69 [some (.ref (P)), some (.int x1_69), some (.int x2_69), some (.long x3_69), none, some (.long x5_69), none, some (.int x7_69)] [] (L, M_69, N_69) := by
      intro u
      induction u with
      | zero => intro x1_69 x2_69 x3_69 x5_69 x7_69 M_69 N_69 h; cases (show none = some r from h)
      | succ u_69 ih_69 =>
        have J_124 : ∀ (x1_124 : Int32) (x2_124 : Int32) (x3_124 : Int64) (x5_124 : Int64) (x7_124 : Int32) (M_124 : zMt) (N_124 : zNt), D_X8_goesOn_124 P (D_X8_goesOn P w) (D_X8_goesOn_69 P (D_X8_goesOn P w) u_69) x1_124 x2_124 x3_124 x5_124 x7_124 M_124 N_124 = some r → Zw p l e { frames := 3 + w, cells := 0, slots := 0, locals := 80 * (3 + w) } s m args below meth c G b 8 (MQ below (zQ G b FQ) args s 0 0 (fun q : Nat => b ≤ q)) 0 0 124 [some (.ref (P)), some (.int x1_124), some (.int x2_124), some (.long x3_124), none, some (.long x5_124), none, some (.int x7_124)] [] (L, M_124, N_124) := by
          intro x1_124 x2_124 x3_124 x5_124 x7_124 M_124 N_124 h
          unfold D_X8_goesOn_124 at h
          refine a_iinc (v := x7_124 + 1) X dX8_goesOn_124 (by decide) rfl zi_1 ?_
          refine a_goto (tgt := 69) X dX8_goesOn_127 (by decide) ?_
          exact Zw.to2 (ih_69 _ _ _ _ _ _ _ h) rfl rfl rfl
        intro x1_69 x2_69 x3_69 x5_69 x7_69 M_69 N_69 h
        rw [D_X8_goesOn_69] at h
        refine a_iload X dX8_goesOn_69 rfl ?_
        refine a_aload_n X dX8_goesOn_71 rfl ?_
        refine a_geti X lf8_275 (by assumption) rfl dX8_goesOn_72 ?_
        refine a_icmp_ge (tgt := 130) X dX8_goesOn_75 (by decide) (fun h_75 => ?_) (fun h_75 => ?_)
        · replace h := (if_pos h_75).symm.trans h
          refine a_vret X hr dX8_goesOn_130 ⟨by decide, by decide⟩ ?_
          subst hF
          rw [← Option.some.inj h]
          exact ⟨rfl, rfl⟩
        · replace h := (if_neg h_75).symm.trans h
          refine a_iload_n X dX8_goesOn_78 rfl ?_
          refine a_iload X dX8_goesOn_79 rfl ?_
          obtain ⟨e_81, f_81, h⟩ := zBx h
          refine a_callSx X dX8_goesOn_81 miX8_has lm8_240 (t_X8_has f_81) rfl rfl (Nat.le_of_ble_eq_true rfl) ⟨by first | decide | (show _ ≤ _; dsimp only; omega), by first | decide | (show _ ≤ _; dsimp only; omega), by first | decide | exact Nat.le_refl 0, by first | decide | exact Nat.le_refl 0⟩ (fun r_81 S_81 q_81 => ?_)
          obtain ⟨rfl, rfl, b_81⟩ := q_81
          refine a_if_eq (tgt := 90) X dX8_goesOn_84 (by decide) (fun h_84 => ?_) (fun h_84 => ?_)
          · replace h := (if_pos h_84).symm.trans h
            refine a_aload_n X dX8_goesOn_90 rfl ?_
            refine a_getr X lf8_70 (by assumption) rfl (by omega) dX8_goesOn_91 ?_
            refine a_iload_n X dX8_goesOn_94 rfl ?_
            refine a_iload X dX8_goesOn_95 rfl ?_
            obtain ⟨g_97, h⟩ := zIx h
            obtain ⟨M_97, f_97, h⟩ := zLtx h
            refine d_iastore X (by assumption) g_97 dX8_goesOn_97 f_97 ?_
            refine a_aload_n X dX8_goesOn_98 rfl ?_
            refine a_iload_n X dX8_goesOn_99 rfl ?_
            refine a_iconst (v := 1) X dX8_goesOn_100 (by decide) ?_
            refine a_iadd X dX8_goesOn_101 ?_
            refine a_iload_n X dX8_goesOn_102 rfl ?_
            refine a_iconst (v := 1) X dX8_goesOn_103 (by decide) ?_
            refine a_iload X dX8_goesOn_104 rfl ?_
            refine a_ishl X dX8_goesOn_106 ?_
            refine a_ior X dX8_goesOn_107 ?_
            refine a_lload_n X dX8_goesOn_108 rfl ?_
            refine a_aload_n X dX8_goesOn_109 rfl ?_
            refine a_getr X lf8_67 (by assumption) rfl (by omega) dX8_goesOn_110 ?_
            refine a_iload X dX8_goesOn_113 rfl ?_
            obtain ⟨g_115, h⟩ := zIx h
            refine a_iaload X (by assumption) g_115 dX8_goesOn_115 ?_
            refine a_i2l X dX8_goesOn_116 ?_
            refine a_lmul X dX8_goesOn_117 ?_
            refine a_lload X dX8_goesOn_118 rfl ?_
            obtain ⟨z_120, h⟩ := zZlx h
            refine a_ldiv X dX8_goesOn_120 (z_120) ?_
            obtain ⟨e_121, f_121, h⟩ := zBx h
            refine a_callVu X dX8_goesOn_121 miX8_goesOn lm8_410 (ihw f_121) (by assumption) rfl rfl rfl (Nat.le_of_ble_eq_true rfl) ⟨by first | decide | (show _ ≤ _; dsimp only; omega), by first | decide | (show _ ≤ _; dsimp only; omega), by first | decide | exact Nat.le_refl 0, by first | decide | exact Nat.le_refl 0⟩ ?_
            exact Zw.to2 (J_124 _ _ _ _ _ _ _ h) rfl rfl rfl
          · replace h := (if_neg h_84).symm.trans h
            refine a_goto (tgt := 124) X dX8_goesOn_87 (by decide) ?_
            exact Zw.to2 (J_124 _ _ _ _ _ _ _ h) rfl rfl rfl
    have H_69 : ∀ (x1_69 : Int32) (x2_69 : Int32) (x3_69 : Int64) (x5_69 : Int64) (x7_69 : Int32) (M_69 : zMt) (N_69 : zNt), D_X8_goesOn_69 P (D_X8_goesOn P w) zFu x1_69 x2_69 x3_69 x5_69 x7_69 M_69 N_69 = some r → Zw p l e { frames := 3 + w, cells := 0, slots := 0, locals := 80 * (3 + w) } s m args below meth c G b 8 (MQ below (zQ G b FQ) args s 0 0 (fun q : Nat => b ≤ q)) 0 0 69 [some (.ref (P)), some (.int x1_69), some (.int x2_69), some (.long x3_69), none, some (.long x5_69), none, some (.int x7_69)] [] (L, M_69, N_69) := L_69 zFu
    have L_25 : ∀ u : Nat, ∀ (x1_25 : Int32) (x2_25 : Int32) (x3_25 : Int64) (x5_25 : Int64) (x7_25 : Int32) (M_25 : zMt) (N_25 : zNt), D_X8_goesOn_25 P (D_X8_goesOn P w) u x1_25 x2_25 x3_25 x5_25 x7_25 M_25 N_25 = some r → Zw p l e { frames := 3 + w, cells := 0, slots := 0, locals := 80 * (3 + w) } s m args below meth c G b 8 (MQ below (zQ G b FQ) args s 0 0 (fun q : Nat => b ≤ q)) 0 0 25 [some (.ref (P)), some (.int x1_25), some (.int x2_25), some (.long x3_25), none, some (.long x5_25), none, some (.int x7_25)] [] (L, M_25, N_25) := by
      intro u
      induction u with
      | zero => intro x1_25 x2_25 x3_25 x5_25 x7_25 M_25 N_25 h; cases (show none = some r from h)
      | succ u_25 ih_25 =>
        have J_57 : ∀ (x1_57 : Int32) (x2_57 : Int32) (x3_57 : Int64) (x5_57 : Int64) (x7_57 : Int32) (y0_57 : Int64) (y1_57 : Int64) (M_57 : zMt) (N_57 : zNt), D_X8_goesOn_57 P (D_X8_goesOn P w) (D_X8_goesOn_25 P (D_X8_goesOn P w) u_25) x1_57 x2_57 x3_57 x7_57 y0_57 y1_57 M_57 N_57 = some r → Zw p l e { frames := 3 + w, cells := 0, slots := 0, locals := 80 * (3 + w) } s m args below meth c G b 8 (MQ below (zQ G b FQ) args s 0 0 (fun q : Nat => b ≤ q)) 0 0 57 [some (.ref (P)), some (.int x1_57), some (.int x2_57), some (.long x3_57), none, some (.long x5_57), none, some (.int x7_57)] [.long y1_57, .long y0_57] (L, M_57, N_57) := by
          intro x1_57 x2_57 x3_57 x5_57 x7_57 y0_57 y1_57 M_57 N_57 h
          unfold D_X8_goesOn_57 at h
          refine a_ladd X dX8_goesOn_57 ?_
          refine a_lstore X dX8_goesOn_58 (by decide) ?_
          refine a_iinc (v := x7_57 + 1) X dX8_goesOn_60 (by decide) rfl zi_1 ?_
          refine a_goto (tgt := 25) X dX8_goesOn_63 (by decide) ?_
          exact Zw.to2 (ih_25 _ _ _ _ _ _ _ h) rfl rfl rfl
        intro x1_25 x2_25 x3_25 x5_25 x7_25 M_25 N_25 h
        rw [D_X8_goesOn_25] at h
        refine a_iload X dX8_goesOn_25 rfl ?_
        refine a_aload_n X dX8_goesOn_27 rfl ?_
        refine a_geti X lf8_275 (by assumption) rfl dX8_goesOn_28 ?_
        refine a_icmp_ge (tgt := 66) X dX8_goesOn_31 (by decide) (fun h_31 => ?_) (fun h_31 => ?_)
        · replace h := (if_pos h_31).symm.trans h
          refine a_iconst (v := 0) X dX8_goesOn_66 (by decide) ?_
          refine a_istore X dX8_goesOn_67 (by decide) ?_
          exact Zw.to2 (H_69 _ _ _ _ _ _ _ h) rfl rfl rfl
        · replace h := (if_neg h_31).symm.trans h
          refine a_lload X dX8_goesOn_34 rfl ?_
          refine a_iload_n X dX8_goesOn_36 rfl ?_
          refine a_iload X dX8_goesOn_37 rfl ?_
          obtain ⟨e_39, f_39, h⟩ := zBx h
          refine a_callSx X dX8_goesOn_39 miX8_has lm8_240 (t_X8_has f_39) rfl rfl (Nat.le_of_ble_eq_true rfl) ⟨by first | decide | (show _ ≤ _; dsimp only; omega), by first | decide | (show _ ≤ _; dsimp only; omega), by first | decide | exact Nat.le_refl 0, by first | decide | exact Nat.le_refl 0⟩ (fun r_39 S_39 q_39 => ?_)
          obtain ⟨rfl, rfl, b_39⟩ := q_39
          refine a_if_eq (tgt := 49) X dX8_goesOn_42 (by decide) (fun h_42 => ?_) (fun h_42 => ?_)
          · replace h := (if_pos h_42).symm.trans h
            refine a_aload_n X dX8_goesOn_49 rfl ?_
            refine a_getr X lf8_67 (by assumption) rfl (by omega) dX8_goesOn_50 ?_
            refine a_iload X dX8_goesOn_53 rfl ?_
            obtain ⟨g_55, h⟩ := zIx h
            refine a_iaload X (by assumption) g_55 dX8_goesOn_55 ?_
            refine a_i2l X dX8_goesOn_56 ?_
            exact Zw.to2 (J_57 _ _ _ _ _ _ _ _ _ h) rfl rfl rfl
          · replace h := (if_neg h_42).symm.trans h
            refine a_lconst (v := 0) X dX8_goesOn_45 (by decide) ?_
            refine a_goto (tgt := 57) X dX8_goesOn_46 (by decide) ?_
            exact Zw.to2 (J_57 _ _ _ _ _ _ _ _ _ h) rfl rfl rfl
    have H_25 : ∀ (x1_25 : Int32) (x2_25 : Int32) (x3_25 : Int64) (x5_25 : Int64) (x7_25 : Int32) (M_25 : zMt) (N_25 : zNt), D_X8_goesOn_25 P (D_X8_goesOn P w) zFu x1_25 x2_25 x3_25 x5_25 x7_25 M_25 N_25 = some r → Zw p l e { frames := 3 + w, cells := 0, slots := 0, locals := 80 * (3 + w) } s m args below meth c G b 8 (MQ below (zQ G b FQ) args s 0 0 (fun q : Nat => b ≤ q)) 0 0 25 [some (.ref (P)), some (.int x1_25), some (.int x2_25), some (.long x3_25), none, some (.long x5_25), none, some (.int x7_25)] [] (L, M_25, N_25) := L_25 zFu
    rw [D_X8_goesOn] at h
    refine a_iload_n X dX8_goesOn_0 rfl ?_
    refine a_aload_n X dX8_goesOn_1 rfl ?_
    refine a_geti X lf8_275 (by assumption) rfl dX8_goesOn_2 ?_
    refine a_icmp_ne (tgt := 19) X dX8_goesOn_5 (by decide) (fun h_5 => ?_) (fun h_5 => ?_)
    · replace h := (if_neg h_5).symm.trans h
      refine a_lconst (v := 0) X dX8_goesOn_19 (by decide) ?_
      refine a_lstore X dX8_goesOn_20 (by decide) ?_
      refine a_iconst (v := 0) X dX8_goesOn_22 (by decide) ?_
      refine a_istore X dX8_goesOn_23 (by decide) ?_
      exact Zw.to2 (H_25 _ _ _ _ _ _ _ h) rfl rfl rfl
    · replace h := (if_pos h_5).symm.trans h
      refine a_aload_n X dX8_goesOn_8 rfl ?_
      refine a_iconst (v := -1) X dX8_goesOn_9 (by decide) ?_
      obtain ⟨e_10, f_10, h⟩ := zBx h
      refine a_callVu X dX8_goesOn_10 miX8_results lm8_355 (t_X8_results (by assumption) f_10) (by assumption) rfl rfl rfl (Nat.le_of_ble_eq_true rfl) ⟨by first | decide | (show _ ≤ _; dsimp only; omega), by first | decide | (show _ ≤ _; dsimp only; omega), by first | decide | exact Nat.le_refl 0, by first | decide | exact Nat.le_refl 0⟩ ?_
      refine a_aload_n X dX8_goesOn_13 rfl ?_
      refine a_lload_n X dX8_goesOn_14 rfl ?_
      obtain ⟨e_15, f_15, h⟩ := zBx h
      refine a_callVu X dX8_goesOn_15 miX8_adds lm8_414 (t_X8_adds (by assumption) f_15) (by assumption) rfl rfl rfl (Nat.le_of_ble_eq_true rfl) ⟨by first | decide | (show _ ≤ _; dsimp only; omega), by first | decide | (show _ ≤ _; dsimp only; omega), by first | decide | exact Nat.le_refl 0, by first | decide | exact Nat.le_refl 0⟩ ?_
      refine a_vret X hr dX8_goesOn_18 ⟨by decide, by decide⟩ ?_
      subst hF
      rw [← Option.some.inj h]
      exact ⟨rfl, rfl⟩
theorem t_X8_goesOn {l : Launch} {G : zG} {b : Nat} {L : List zC} {M : zMt} {N : zNt} {P : Nat} {v0 : Int32} {v1 : Int32} {v2 : Int64} (hP : LX8 L P) {r : zMt × zNt} (h : D_X8_goesOn P zRec v0 v1 v2 M N = some r) : zM l G b yX8_goesOn cX8_goesOn 8 none 11 0 0 [.ref P, .int v0, .int v1, .long v2] (L, M, N) (fun r2 z => r2 = none ∧ z = (L, r.1, r.2)) := t_X8_goesOn_w hP zRec h
noncomputable def D_X8_allOrders_92 (P : Nat) : Nat → Int32 → zMt → zNt → Option (zMt × zNt)
  | 0, _, _, _ => none
  | n + 1, x1_92, M_92, N_92 =>
    if (128 : Int32) ≤ x1_92 then
      zLt (zu N_92 P 59 (0 : Int64)) fun N_114 =>
      zLt (zu M_92 P 54 (((1 : Int32) <<< ((M_92 P 33) &&& 31)) - (1 : Int32))) fun M_126 =>
      zLt (zu M_126 P 55 (0 : Int32)) fun M_131 =>
      zLt (zu M_131 P 56 (1000 : Int32)) fun M_138 =>
      zLt (zu M_138 P 57 (0 : Int32)) fun M_143 =>
      zB (D_X8_goesOn P zRec (0 : Int32) (0 : Int32) (1000000000000 : Int64) M_143 N_114) fun e_152 =>
      some (e_152.1, e_152.2)
    else
      zI x1_92 128 <|
      zLt (zu M_92 (P + 29) x1_92.toNatClampNeg (0 : Int32)) fun M_105 =>
      (D_X8_allOrders_92 P n) (x1_92 + 1) M_105 N_92
noncomputable def D_X8_allOrders_72 (P : Nat) : Nat → Int32 → zMt → zNt → Option (zMt × zNt)
  | 0, _, _, _ => none
  | n + 1, x1_72, M_72, N_72 =>
    if (5 : Int32) ≤ x1_72 then
      D_X8_allOrders_92 P zFu (0 : Int32) M_72 N_72
    else
      zI x1_72 5 <|
      zLt (zu N_72 (P + 28) x1_72.toNatClampNeg (0 : Int64)) fun N_83 =>
      (D_X8_allOrders_72 P n) (x1_72 + 1) M_72 N_83
noncomputable def D_X8_allOrders_44 (P : Nat) : Nat → Int32 → zMt → zNt → Option (zMt × zNt)
  | 0, _, _, _ => none
  | n + 1, x1_44, M_44, N_44 =>
    if (7 : Int32) ≤ x1_44 then
      D_X8_allOrders_72 P zFu (0 : Int32) M_44 N_44
    else
      zI x1_44 7 <|
      zLt (zu N_44 (P + 25) x1_44.toNatClampNeg (0 : Int64)) fun N_56 =>
      zI x1_44 7 <|
      zLt (zu N_56 (P + 26) x1_44.toNatClampNeg (0 : Int64)) fun N_63 =>
      (D_X8_allOrders_44 P n) (x1_44 + 1) M_44 N_63
noncomputable def D_X8_allOrders_23 (P : Nat) : Nat → Int32 → zMt → zNt → Option (zMt × zNt)
  | 0, _, _, _ => none
  | n + 1, x1_23, M_23, N_23 =>
    if (49 : Int32) ≤ x1_23 then
      D_X8_allOrders_44 P zFu (0 : Int32) M_23 N_23
    else
      zI x1_23 49 <|
      zLt (zu N_23 (P + 27) x1_23.toNatClampNeg (0 : Int64)) fun N_35 =>
      (D_X8_allOrders_23 P n) (x1_23 + 1) M_23 N_35
noncomputable def D_X8_allOrders_2 (P : Nat) : Nat → Int32 → zMt → zNt → Option (zMt × zNt)
  | 0, _, _, _ => none
  | n + 1, x1_2, M_2, N_2 =>
    if (35 : Int32) ≤ x1_2 then
      D_X8_allOrders_23 P zFu (0 : Int32) M_2 N_2
    else
      zI x1_2 35 <|
      zLt (zu N_2 (P + 24) x1_2.toNatClampNeg (0 : Int64)) fun N_14 =>
      (D_X8_allOrders_2 P n) (x1_2 + 1) M_2 N_14
noncomputable def D_X8_allOrders (P : Nat) (M : zMt) (N : zNt) : Option (zMt × zNt) :=
  D_X8_allOrders_2 P zFu (0 : Int32) M N
set_option maxRecDepth 100000 in
set_option maxHeartbeats 4000000 in
theorem t_X8_allOrders {l : Launch} {G : zG} {b : Nat} {L : List zC} {M : zMt} {N : zNt} {P : Nat}  (hP : LX8 L P) {r : zMt × zNt} (h : D_X8_allOrders P M N = some r) : zM l G b yX8_allOrders cX8_allOrders 2 none 12 0 0 [.ref P] (L, M, N) (fun r2 z => r2 = none ∧ z = (L, r.1, r.2)) := by
  refine zM.of miX8_allOrders (Nat.le_of_ble_eq_true rfl) ?_
  intro p e s m args below meth c X hr hname
  generalize hF : ((fun r2 z => r2 = none ∧ z = (L, r.1, r.2)) : Option Value → zS → Prop) = FQ
  change Zw p l e { frames := 12, cells := 0, slots := 0, locals := 80 * (12) } s m args below meth c G b 2 (MQ below (zQ G b FQ) args s 0 0 (fun q : Nat => b ≤ q)) 0 0 0 [some (.ref P), none] [] (L, M, N)
  obtain ⟨p_lt, p_o, p_s, p_read, p_aside, p_kept, p_guest, p_readGuest, p_tape, p_unitName, p_hunterName, p_partyName, p_bits, p_partyOf, p_choiceAt, p_sizes, p_guestMany, p_pointsOf, p_ticketsOf, p_ord, p_given, p_roundOf, p_tags, p_guestTags, p_places, p_sumAt, p_sumFirst, p_sumRound, p_sumBoth, p_sumTags, p_isEnd, p_newPoints, p_inRow, p_out⟩ := id hP
  have L_92 : ∀ u : Nat, ∀ (x1_92 : Int32) (M_92 : zMt) (N_92 : zNt), D_X8_allOrders_92 P u x1_92 M_92 N_92 = some r → Zw p l e { frames := 12, cells := 0, slots := 0, locals := 80 * (12) } s m args below meth c G b 2 (MQ below (zQ G b FQ) args s 0 0 (fun q : Nat => b ≤ q)) 0 0 92 [some (.ref (P)), some (.int x1_92)] [] (L, M_92, N_92) := by
    intro u
    induction u with
    | zero => intro x1_92 M_92 N_92 h; cases (show none = some r from h)
    | succ u_92 ih_92 =>
      intro x1_92 M_92 N_92 h
      rw [D_X8_allOrders_92] at h
      refine a_iload_n X dX8_allOrders_92 rfl ?_
      refine a_sipush (v := 128) X dX8_allOrders_93 (by decide) ?_
      refine a_icmp_ge (tgt := 112) X dX8_allOrders_96 (by decide) (fun h_96 => ?_) (fun h_96 => ?_)
      · replace h := (if_pos h_96).symm.trans h
        refine a_aload_n X dX8_allOrders_112 rfl ?_
        refine a_lconst (v := 0) X dX8_allOrders_113 (by decide) ?_
        obtain ⟨N_114, f_114, h⟩ := zLtx h
        refine d_putl X lf8_393 (by assumption) rfl dX8_allOrders_114 f_114 ?_
        refine a_aload_n X dX8_allOrders_117 rfl ?_
        refine a_iconst (v := 1) X dX8_allOrders_118 (by decide) ?_
        refine a_aload_n X dX8_allOrders_119 rfl ?_
        refine a_geti X lf8_275 (by assumption) rfl dX8_allOrders_120 ?_
        refine a_ishl X dX8_allOrders_123 ?_
        refine a_iconst (v := 1) X dX8_allOrders_124 (by decide) ?_
        refine a_isub X dX8_allOrders_125 ?_
        obtain ⟨M_126, f_126, h⟩ := zLtx h
        refine d_puti X lf8_396 (by assumption) rfl dX8_allOrders_126 f_126 ?_
        refine a_aload_n X dX8_allOrders_129 rfl ?_
        refine a_iconst (v := 0) X dX8_allOrders_130 (by decide) ?_
        obtain ⟨M_131, f_131, h⟩ := zLtx h
        refine d_puti X lf8_399 (by assumption) rfl dX8_allOrders_131 f_131 ?_
        refine a_aload_n X dX8_allOrders_134 rfl ?_
        refine a_sipush (v := 1000) X dX8_allOrders_135 (by decide) ?_
        obtain ⟨M_138, f_138, h⟩ := zLtx h
        refine d_puti X lf8_402 (by assumption) rfl dX8_allOrders_138 f_138 ?_
        refine a_aload_n X dX8_allOrders_141 rfl ?_
        refine a_iconst (v := 0) X dX8_allOrders_142 (by decide) ?_
        obtain ⟨M_143, f_143, h⟩ := zLtx h
        refine d_puti X lf8_405 (by assumption) rfl dX8_allOrders_143 f_143 ?_
        refine a_aload_n X dX8_allOrders_146 rfl ?_
        refine a_iconst (v := 0) X dX8_allOrders_147 (by decide) ?_
        refine a_iconst (v := 0) X dX8_allOrders_148 (by decide) ?_
        refine a_ldc2 X dX8_allOrders_149 lk8_408 ?_
        obtain ⟨e_152, f_152, h⟩ := zBx h
        refine a_callVu X dX8_allOrders_152 miX8_goesOn lm8_410 (t_X8_goesOn (by assumption) f_152) (by assumption) rfl rfl rfl (Nat.le_of_ble_eq_true rfl) ⟨by decide, by decide, by decide, by decide⟩ ?_
        refine a_vret X hr dX8_allOrders_155 ⟨by decide, by decide⟩ ?_
        subst hF
        rw [← Option.some.inj h]
        exact ⟨rfl, rfl⟩
      · replace h := (if_neg h_96).symm.trans h
        refine a_aload_n X dX8_allOrders_99 rfl ?_
        refine a_getr X lf8_103 (by assumption) rfl (by omega) dX8_allOrders_100 ?_
        refine a_iload_n X dX8_allOrders_103 rfl ?_
        refine a_iconst (v := 0) X dX8_allOrders_104 (by decide) ?_
        obtain ⟨g_105, h⟩ := zIx h
        obtain ⟨M_105, f_105, h⟩ := zLtx h
        refine d_bastore X (by first | exact Or.inl rfl | exact Or.inr rfl | assumption) (by assumption) g_105 dX8_allOrders_105 f_105 ?_
        refine a_iinc (v := x1_92 + 1) X dX8_allOrders_106 (by decide) rfl zi_1 ?_
        refine a_goto (tgt := 92) X dX8_allOrders_109 (by decide) ?_
        exact Zw.to2 (ih_92 _ _ _ h) rfl rfl rfl
  have H_92 : ∀ (x1_92 : Int32) (M_92 : zMt) (N_92 : zNt), D_X8_allOrders_92 P zFu x1_92 M_92 N_92 = some r → Zw p l e { frames := 12, cells := 0, slots := 0, locals := 80 * (12) } s m args below meth c G b 2 (MQ below (zQ G b FQ) args s 0 0 (fun q : Nat => b ≤ q)) 0 0 92 [some (.ref (P)), some (.int x1_92)] [] (L, M_92, N_92) := L_92 zFu
  have L_72 : ∀ u : Nat, ∀ (x1_72 : Int32) (M_72 : zMt) (N_72 : zNt), D_X8_allOrders_72 P u x1_72 M_72 N_72 = some r → Zw p l e { frames := 12, cells := 0, slots := 0, locals := 80 * (12) } s m args below meth c G b 2 (MQ below (zQ G b FQ) args s 0 0 (fun q : Nat => b ≤ q)) 0 0 72 [some (.ref (P)), some (.int x1_72)] [] (L, M_72, N_72) := by
    intro u
    induction u with
    | zero => intro x1_72 M_72 N_72 h; cases (show none = some r from h)
    | succ u_72 ih_72 =>
      intro x1_72 M_72 N_72 h
      rw [D_X8_allOrders_72] at h
      refine a_iload_n X dX8_allOrders_72 rfl ?_
      refine a_iconst (v := 5) X dX8_allOrders_73 (by decide) ?_
      refine a_icmp_ge (tgt := 90) X dX8_allOrders_74 (by decide) (fun h_74 => ?_) (fun h_74 => ?_)
      · replace h := (if_pos h_74).symm.trans h
        refine a_iconst (v := 0) X dX8_allOrders_90 (by decide) ?_
        refine a_istore_n X dX8_allOrders_91 (by decide) ?_
        exact Zw.to2 (H_92 _ _ _ h) rfl rfl rfl
      · replace h := (if_neg h_74).symm.trans h
        refine a_aload_n X dX8_allOrders_77 rfl ?_
        refine a_getr X lf8_100 (by assumption) rfl (by omega) dX8_allOrders_78 ?_
        refine a_iload_n X dX8_allOrders_81 rfl ?_
        refine a_lconst (v := 0) X dX8_allOrders_82 (by decide) ?_
        obtain ⟨g_83, h⟩ := zIx h
        obtain ⟨N_83, f_83, h⟩ := zLtx h
        refine d_lastore X (by assumption) g_83 dX8_allOrders_83 f_83 ?_
        refine a_iinc (v := x1_72 + 1) X dX8_allOrders_84 (by decide) rfl zi_1 ?_
        refine a_goto (tgt := 72) X dX8_allOrders_87 (by decide) ?_
        exact Zw.to2 (ih_72 _ _ _ h) rfl rfl rfl
  have H_72 : ∀ (x1_72 : Int32) (M_72 : zMt) (N_72 : zNt), D_X8_allOrders_72 P zFu x1_72 M_72 N_72 = some r → Zw p l e { frames := 12, cells := 0, slots := 0, locals := 80 * (12) } s m args below meth c G b 2 (MQ below (zQ G b FQ) args s 0 0 (fun q : Nat => b ≤ q)) 0 0 72 [some (.ref (P)), some (.int x1_72)] [] (L, M_72, N_72) := L_72 zFu
  have L_44 : ∀ u : Nat, ∀ (x1_44 : Int32) (M_44 : zMt) (N_44 : zNt), D_X8_allOrders_44 P u x1_44 M_44 N_44 = some r → Zw p l e { frames := 12, cells := 0, slots := 0, locals := 80 * (12) } s m args below meth c G b 2 (MQ below (zQ G b FQ) args s 0 0 (fun q : Nat => b ≤ q)) 0 0 44 [some (.ref (P)), some (.int x1_44)] [] (L, M_44, N_44) := by
    intro u
    induction u with
    | zero => intro x1_44 M_44 N_44 h; cases (show none = some r from h)
    | succ u_44 ih_44 =>
      intro x1_44 M_44 N_44 h
      rw [D_X8_allOrders_44] at h
      refine a_iload_n X dX8_allOrders_44 rfl ?_
      refine a_bipush (v := 7) X dX8_allOrders_45 (by decide) ?_
      refine a_icmp_ge (tgt := 70) X dX8_allOrders_47 (by decide) (fun h_47 => ?_) (fun h_47 => ?_)
      · replace h := (if_pos h_47).symm.trans h
        refine a_iconst (v := 0) X dX8_allOrders_70 (by decide) ?_
        refine a_istore_n X dX8_allOrders_71 (by decide) ?_
        exact Zw.to2 (H_72 _ _ _ h) rfl rfl rfl
      · replace h := (if_neg h_47).symm.trans h
        refine a_aload_n X dX8_allOrders_50 rfl ?_
        refine a_getr X lf8_91 (by assumption) rfl (by omega) dX8_allOrders_51 ?_
        refine a_iload_n X dX8_allOrders_54 rfl ?_
        refine a_lconst (v := 0) X dX8_allOrders_55 (by decide) ?_
        obtain ⟨g_56, h⟩ := zIx h
        obtain ⟨N_56, f_56, h⟩ := zLtx h
        refine d_lastore X (by assumption) g_56 dX8_allOrders_56 f_56 ?_
        refine a_aload_n X dX8_allOrders_57 rfl ?_
        refine a_getr X lf8_94 (by assumption) rfl (by omega) dX8_allOrders_58 ?_
        refine a_iload_n X dX8_allOrders_61 rfl ?_
        refine a_lconst (v := 0) X dX8_allOrders_62 (by decide) ?_
        obtain ⟨g_63, h⟩ := zIx h
        obtain ⟨N_63, f_63, h⟩ := zLtx h
        refine d_lastore X (by assumption) g_63 dX8_allOrders_63 f_63 ?_
        refine a_iinc (v := x1_44 + 1) X dX8_allOrders_64 (by decide) rfl zi_1 ?_
        refine a_goto (tgt := 44) X dX8_allOrders_67 (by decide) ?_
        exact Zw.to2 (ih_44 _ _ _ h) rfl rfl rfl
  have H_44 : ∀ (x1_44 : Int32) (M_44 : zMt) (N_44 : zNt), D_X8_allOrders_44 P zFu x1_44 M_44 N_44 = some r → Zw p l e { frames := 12, cells := 0, slots := 0, locals := 80 * (12) } s m args below meth c G b 2 (MQ below (zQ G b FQ) args s 0 0 (fun q : Nat => b ≤ q)) 0 0 44 [some (.ref (P)), some (.int x1_44)] [] (L, M_44, N_44) := L_44 zFu
  have L_23 : ∀ u : Nat, ∀ (x1_23 : Int32) (M_23 : zMt) (N_23 : zNt), D_X8_allOrders_23 P u x1_23 M_23 N_23 = some r → Zw p l e { frames := 12, cells := 0, slots := 0, locals := 80 * (12) } s m args below meth c G b 2 (MQ below (zQ G b FQ) args s 0 0 (fun q : Nat => b ≤ q)) 0 0 23 [some (.ref (P)), some (.int x1_23)] [] (L, M_23, N_23) := by
    intro u
    induction u with
    | zero => intro x1_23 M_23 N_23 h; cases (show none = some r from h)
    | succ u_23 ih_23 =>
      intro x1_23 M_23 N_23 h
      rw [D_X8_allOrders_23] at h
      refine a_iload_n X dX8_allOrders_23 rfl ?_
      refine a_bipush (v := 49) X dX8_allOrders_24 (by decide) ?_
      refine a_icmp_ge (tgt := 42) X dX8_allOrders_26 (by decide) (fun h_26 => ?_) (fun h_26 => ?_)
      · replace h := (if_pos h_26).symm.trans h
        refine a_iconst (v := 0) X dX8_allOrders_42 (by decide) ?_
        refine a_istore_n X dX8_allOrders_43 (by decide) ?_
        exact Zw.to2 (H_44 _ _ _ h) rfl rfl rfl
      · replace h := (if_neg h_26).symm.trans h
        refine a_aload_n X dX8_allOrders_29 rfl ?_
        refine a_getr X lf8_97 (by assumption) rfl (by omega) dX8_allOrders_30 ?_
        refine a_iload_n X dX8_allOrders_33 rfl ?_
        refine a_lconst (v := 0) X dX8_allOrders_34 (by decide) ?_
        obtain ⟨g_35, h⟩ := zIx h
        obtain ⟨N_35, f_35, h⟩ := zLtx h
        refine d_lastore X (by assumption) g_35 dX8_allOrders_35 f_35 ?_
        refine a_iinc (v := x1_23 + 1) X dX8_allOrders_36 (by decide) rfl zi_1 ?_
        refine a_goto (tgt := 23) X dX8_allOrders_39 (by decide) ?_
        exact Zw.to2 (ih_23 _ _ _ h) rfl rfl rfl
  have H_23 : ∀ (x1_23 : Int32) (M_23 : zMt) (N_23 : zNt), D_X8_allOrders_23 P zFu x1_23 M_23 N_23 = some r → Zw p l e { frames := 12, cells := 0, slots := 0, locals := 80 * (12) } s m args below meth c G b 2 (MQ below (zQ G b FQ) args s 0 0 (fun q : Nat => b ≤ q)) 0 0 23 [some (.ref (P)), some (.int x1_23)] [] (L, M_23, N_23) := L_23 zFu
  have L_2 : ∀ u : Nat, ∀ (x1_2 : Int32) (M_2 : zMt) (N_2 : zNt), D_X8_allOrders_2 P u x1_2 M_2 N_2 = some r → Zw p l e { frames := 12, cells := 0, slots := 0, locals := 80 * (12) } s m args below meth c G b 2 (MQ below (zQ G b FQ) args s 0 0 (fun q : Nat => b ≤ q)) 0 0 2 [some (.ref (P)), some (.int x1_2)] [] (L, M_2, N_2) := by
    intro u
    induction u with
    | zero => intro x1_2 M_2 N_2 h; cases (show none = some r from h)
    | succ u_2 ih_2 =>
      intro x1_2 M_2 N_2 h
      rw [D_X8_allOrders_2] at h
      refine a_iload_n X dX8_allOrders_2 rfl ?_
      refine a_bipush (v := 35) X dX8_allOrders_3 (by decide) ?_
      refine a_icmp_ge (tgt := 21) X dX8_allOrders_5 (by decide) (fun h_5 => ?_) (fun h_5 => ?_)
      · replace h := (if_pos h_5).symm.trans h
        refine a_iconst (v := 0) X dX8_allOrders_21 (by decide) ?_
        refine a_istore_n X dX8_allOrders_22 (by decide) ?_
        exact Zw.to2 (H_23 _ _ _ h) rfl rfl rfl
      · replace h := (if_neg h_5).symm.trans h
        refine a_aload_n X dX8_allOrders_8 rfl ?_
        refine a_getr X lf8_88 (by assumption) rfl (by omega) dX8_allOrders_9 ?_
        refine a_iload_n X dX8_allOrders_12 rfl ?_
        refine a_lconst (v := 0) X dX8_allOrders_13 (by decide) ?_
        obtain ⟨g_14, h⟩ := zIx h
        obtain ⟨N_14, f_14, h⟩ := zLtx h
        refine d_lastore X (by assumption) g_14 dX8_allOrders_14 f_14 ?_
        refine a_iinc (v := x1_2 + 1) X dX8_allOrders_15 (by decide) rfl zi_1 ?_
        refine a_goto (tgt := 2) X dX8_allOrders_18 (by decide) ?_
        exact Zw.to2 (ih_2 _ _ _ h) rfl rfl rfl
  have H_2 : ∀ (x1_2 : Int32) (M_2 : zMt) (N_2 : zNt), D_X8_allOrders_2 P zFu x1_2 M_2 N_2 = some r → Zw p l e { frames := 12, cells := 0, slots := 0, locals := 80 * (12) } s m args below meth c G b 2 (MQ below (zQ G b FQ) args s 0 0 (fun q : Nat => b ≤ q)) 0 0 2 [some (.ref (P)), some (.int x1_2)] [] (L, M_2, N_2) := L_2 zFu
  unfold D_X8_allOrders at h
  refine a_iconst (v := 0) X dX8_allOrders_0 (by decide) ?_
  refine a_istore_n X dX8_allOrders_1 (by decide) ?_
  exact Zw.to2 (H_2 _ _ _ h) rfl rfl rfl
noncomputable def D_X8_laysAll (P : Nat) (M : zMt) (N : zNt) : Option (zMt × zNt) :=
  zB (D_X8_laysApplicants P M) fun e_1 =>
  zB (D_X8_allOrders P e_1 N) fun e_5 =>
  some (e_5.1, e_5.2)
set_option maxRecDepth 100000 in
set_option maxHeartbeats 4000000 in
theorem t_X8_laysAll {l : Launch} {G : zG} {b : Nat} {L : List zC} {M : zMt} {N : zNt} {P : Nat}  (hP : LX8 L P) {r : zMt × zNt} (h : D_X8_laysAll P M N = some r) : zM l G b yX8_laysAll cX8_laysAll 1 none 13 0 0 [.ref P] (L, M, N) (fun r2 z => r2 = none ∧ z = (L, r.1, r.2)) := by
  refine zM.of miX8_laysAll (Nat.le_of_ble_eq_true rfl) ?_
  intro p e s m args below meth c X hr hname
  generalize hF : ((fun r2 z => r2 = none ∧ z = (L, r.1, r.2)) : Option Value → zS → Prop) = FQ
  change Zw p l e { frames := 13, cells := 0, slots := 0, locals := 80 * (13) } s m args below meth c G b 1 (MQ below (zQ G b FQ) args s 0 0 (fun q : Nat => b ≤ q)) 0 0 0 [some (.ref P)] [] (L, M, N)
  obtain ⟨p_lt, p_o, p_s, p_read, p_aside, p_kept, p_guest, p_readGuest, p_tape, p_unitName, p_hunterName, p_partyName, p_bits, p_partyOf, p_choiceAt, p_sizes, p_guestMany, p_pointsOf, p_ticketsOf, p_ord, p_given, p_roundOf, p_tags, p_guestTags, p_places, p_sumAt, p_sumFirst, p_sumRound, p_sumBoth, p_sumTags, p_isEnd, p_newPoints, p_inRow, p_out⟩ := id hP
  unfold D_X8_laysAll at h
  refine a_aload_n X dX8_laysAll_0 rfl ?_
  obtain ⟨e_1, f_1, h⟩ := zBx h
  refine a_callVu X dX8_laysAll_1 miX8_laysApplicants lm8_281 (t_X8_laysApplicants (by assumption) f_1) (by assumption) rfl rfl rfl (Nat.le_of_ble_eq_true rfl) ⟨by decide, by decide, by decide, by decide⟩ ?_
  refine a_aload_n X dX8_laysAll_4 rfl ?_
  obtain ⟨e_5, f_5, h⟩ := zBx h
  refine a_callVu X dX8_laysAll_5 miX8_allOrders lm8_390 (t_X8_allOrders (by assumption) f_5) (by assumption) rfl rfl rfl (Nat.le_of_ble_eq_true rfl) ⟨by decide, by decide, by decide, by decide⟩ ?_
  refine a_vret X hr dX8_laysAll_8 ⟨by decide, by decide⟩ ?_
  subst hF
  rw [← Option.some.inj h]
  exact ⟨rfl, rfl⟩
noncomputable def D_X8_areMany_18 (P : Nat) (y0_18 : Int32) (M_18 : zMt) : Option (Int32 × zMt) :=
  some (y0_18, M_18)
noncomputable def D_X8_areMany (P : Nat) (M : zMt) : Option (Int32 × zMt) :=
  zB (D_X8_laysApplicants P M) fun e_1 =>
  if (e_1 P 33) ≤ (7 : Int32) then
    D_X8_areMany_18 P (0 : Int32) e_1
  else
    D_X8_areMany_18 P (1 : Int32) e_1
set_option maxRecDepth 100000 in
set_option maxHeartbeats 4000000 in
theorem t_X8_areMany {l : Launch} {G : zG} {b : Nat} {L : List zC} {M : zMt} {N : zNt} {P : Nat}  (hP : LX8 L P) {r : Int32 × zMt} (h : D_X8_areMany P M = some r) : zM l G b yX8_areMany cX8_areMany 1 (some .boolean) 3 0 0 [.ref P] (L, M, N) (fun r2 z => r2 = some (.int r.1) ∧ z = (L, r.2, N) ∧ (r.1 = 0 ∨ r.1 = 1)) := by
  refine zM.of miX8_areMany (Nat.le_of_ble_eq_true rfl) ?_
  intro p e s m args below meth c X hr hname
  generalize hF : ((fun r2 z => r2 = some (.int r.1) ∧ z = (L, r.2, N) ∧ (r.1 = 0 ∨ r.1 = 1)) : Option Value → zS → Prop) = FQ
  change Zw p l e { frames := 3, cells := 0, slots := 0, locals := 80 * (3) } s m args below meth c G b 1 (MQ below (zQ G b FQ) args s 0 0 (fun q : Nat => b ≤ q)) 0 0 0 [some (.ref P)] [] (L, M, N)
  obtain ⟨p_lt, p_o, p_s, p_read, p_aside, p_kept, p_guest, p_readGuest, p_tape, p_unitName, p_hunterName, p_partyName, p_bits, p_partyOf, p_choiceAt, p_sizes, p_guestMany, p_pointsOf, p_ticketsOf, p_ord, p_given, p_roundOf, p_tags, p_guestTags, p_places, p_sumAt, p_sumFirst, p_sumRound, p_sumBoth, p_sumTags, p_isEnd, p_newPoints, p_inRow, p_out⟩ := id hP
  have J_18 : ∀ (y0_18 : Int32) (M_18 : zMt), (y0_18 = 0 ∨ y0_18 = 1) → D_X8_areMany_18 P y0_18 M_18 = some r → Zw p l e { frames := 3, cells := 0, slots := 0, locals := 80 * (3) } s m args below meth c G b 1 (MQ below (zQ G b FQ) args s 0 0 (fun q : Nat => b ≤ q)) 0 0 18 [some (.ref (P))] [.int y0_18] (L, M_18, N) := by
    intro y0_18 M_18 fb_y0_18 h
    unfold D_X8_areMany_18 at h
    refine a_zret X (by first | exact Or.inl rfl | exact Or.inr rfl | assumption) hr dX8_areMany_18 ⟨by decide, by decide⟩ ?_
    subst hF
    rw [← Option.some.inj h]
    exact ⟨rfl, rfl, (by first | exact Or.inl rfl | exact Or.inr rfl | assumption)⟩
  unfold D_X8_areMany at h
  refine a_aload_n X dX8_areMany_0 rfl ?_
  obtain ⟨e_1, f_1, h⟩ := zBx h
  refine a_callVu X dX8_areMany_1 miX8_laysApplicants lm8_281 (t_X8_laysApplicants (by assumption) f_1) (by assumption) rfl rfl rfl (Nat.le_of_ble_eq_true rfl) ⟨by decide, by decide, by decide, by decide⟩ ?_
  refine a_aload_n X dX8_areMany_4 rfl ?_
  refine a_geti X lf8_275 (by assumption) rfl dX8_areMany_5 ?_
  refine a_bipush (v := 7) X dX8_areMany_8 (by decide) ?_
  refine a_icmp_le (tgt := 17) X dX8_areMany_10 (by decide) (fun h_10 => ?_) (fun h_10 => ?_)
  · replace h := (if_pos h_10).symm.trans h
    refine a_iconst (v := 0) X dX8_areMany_17 (by decide) ?_
    exact Zw.to2 (J_18 _ _ (by first | exact Or.inl rfl | exact Or.inr rfl | assumption) h) rfl rfl rfl
  · replace h := (if_neg h_10).symm.trans h
    refine a_iconst (v := 1) X dX8_areMany_13 (by decide) ?_
    refine a_goto (tgt := 18) X dX8_areMany_14 (by decide) ?_
    exact Zw.to2 (J_18 _ _ (by first | exact Or.inl rfl | exact Or.inr rfl | assumption) h) rfl rfl rfl
noncomputable def D_X8_chanceOf_5 (P : Nat) (M : zMt) (N : zNt) : Nat → Int32 → Int64 → Int32 → Option (Int64)
  | 0, _, _, _ => none
  | n + 1, x1_5, x2_5, x4_5 =>
    if (M P 7) ≤ x4_5 then
      some (x2_5)
    else
      zI (((5 : Int32) * x1_5) + x4_5) 35 <|
      (D_X8_chanceOf_5 P M N n) x1_5 (x2_5 + (N (P + 24) (((5 : Int32) * x1_5) + x4_5).toNatClampNeg)) (x4_5 + 1)
noncomputable def D_X8_chanceOf (P : Nat) (M : zMt) (N : zNt) (v0 : Int32) : Option (Int64) :=
  D_X8_chanceOf_5 P M N zFu v0 (0 : Int64) (0 : Int32)
set_option maxRecDepth 100000 in
set_option maxHeartbeats 4000000 in
theorem t_X8_chanceOf {l : Launch} {G : zG} {b : Nat} {L : List zC} {M : zMt} {N : zNt} {P : Nat} {v0 : Int32} (hP : LX8 L P) {r : Int64} (h : D_X8_chanceOf P M N v0 = some r) : zM l G b yX8_chanceOf cX8_chanceOf 5 (some .long) 0 0 0 [.ref P, .int v0] (L, M, N) (fun r2 z => r2 = some (.long r) ∧ z = (L, M, N)) := by
  refine zM.of miX8_chanceOf (Nat.le_of_ble_eq_true rfl) ?_
  intro p e s m args below meth c X hr hname
  generalize hF : ((fun r2 z => r2 = some (.long r) ∧ z = (L, M, N)) : Option Value → zS → Prop) = FQ
  change Zw p l e { frames := 0, cells := 0, slots := 0, locals := 80 * (0) } s m args below meth c G b 5 (MQ below (zQ G b FQ) args s 0 0 (fun q : Nat => b ≤ q)) 0 0 0 [some (.ref P), some (.int v0), none, none, none] [] (L, M, N)
  obtain ⟨p_lt, p_o, p_s, p_read, p_aside, p_kept, p_guest, p_readGuest, p_tape, p_unitName, p_hunterName, p_partyName, p_bits, p_partyOf, p_choiceAt, p_sizes, p_guestMany, p_pointsOf, p_ticketsOf, p_ord, p_given, p_roundOf, p_tags, p_guestTags, p_places, p_sumAt, p_sumFirst, p_sumRound, p_sumBoth, p_sumTags, p_isEnd, p_newPoints, p_inRow, p_out⟩ := id hP
  have L_5 : ∀ u : Nat, ∀ (x1_5 : Int32) (x2_5 : Int64) (x4_5 : Int32), D_X8_chanceOf_5 P M N u x1_5 x2_5 x4_5 = some r → Zw p l e { frames := 0, cells := 0, slots := 0, locals := 80 * (0) } s m args below meth c G b 5 (MQ below (zQ G b FQ) args s 0 0 (fun q : Nat => b ≤ q)) 0 0 5 [some (.ref (P)), some (.int x1_5), some (.long x2_5), none, some (.int x4_5)] [] (L, M, N) := by
    intro u
    induction u with
    | zero => intro x1_5 x2_5 x4_5 h; cases (show none = some r from h)
    | succ u_5 ih_5 =>
      intro x1_5 x2_5 x4_5 h
      rw [D_X8_chanceOf_5] at h
      refine a_iload X dX8_chanceOf_5 rfl ?_
      refine a_aload_n X dX8_chanceOf_7 rfl ?_
      refine a_geti X lf8_125 (by assumption) rfl dX8_chanceOf_8 ?_
      refine a_icmp_ge (tgt := 34) X dX8_chanceOf_11 (by decide) (fun h_11 => ?_) (fun h_11 => ?_)
      · replace h := (if_pos h_11).symm.trans h
        refine a_lload_n X dX8_chanceOf_34 rfl ?_
        refine a_lret X hr dX8_chanceOf_35 ⟨by decide, by decide⟩ ?_
        subst hF
        rw [← Option.some.inj h]
        exact ⟨rfl, rfl⟩
      · replace h := (if_neg h_11).symm.trans h
        refine a_lload_n X dX8_chanceOf_14 rfl ?_
        refine a_aload_n X dX8_chanceOf_15 rfl ?_
        refine a_getr X lf8_88 (by assumption) rfl (by omega) dX8_chanceOf_16 ?_
        refine a_iconst (v := 5) X dX8_chanceOf_19 (by decide) ?_
        refine a_iload_n X dX8_chanceOf_20 rfl ?_
        refine a_imul X dX8_chanceOf_21 ?_
        refine a_iload X dX8_chanceOf_22 rfl ?_
        refine a_iadd X dX8_chanceOf_24 ?_
        obtain ⟨g_25, h⟩ := zIx h
        refine a_laload X (by assumption) g_25 dX8_chanceOf_25 ?_
        refine a_ladd X dX8_chanceOf_26 ?_
        refine a_lstore_n X dX8_chanceOf_27 (by decide) ?_
        refine a_iinc (v := x4_5 + 1) X dX8_chanceOf_28 (by decide) rfl zi_1 ?_
        refine a_goto (tgt := 5) X dX8_chanceOf_31 (by decide) ?_
        exact Zw.to2 (ih_5 _ _ _ h) rfl rfl rfl
  have H_5 : ∀ (x1_5 : Int32) (x2_5 : Int64) (x4_5 : Int32), D_X8_chanceOf_5 P M N zFu x1_5 x2_5 x4_5 = some r → Zw p l e { frames := 0, cells := 0, slots := 0, locals := 80 * (0) } s m args below meth c G b 5 (MQ below (zQ G b FQ) args s 0 0 (fun q : Nat => b ≤ q)) 0 0 5 [some (.ref (P)), some (.int x1_5), some (.long x2_5), none, some (.int x4_5)] [] (L, M, N) := L_5 zFu
  unfold D_X8_chanceOf at h
  refine a_lconst (v := 0) X dX8_chanceOf_0 (by decide) ?_
  refine a_lstore_n X dX8_chanceOf_1 (by decide) ?_
  refine a_iconst (v := 0) X dX8_chanceOf_2 (by decide) ?_
  refine a_istore X dX8_chanceOf_3 (by decide) ?_
  exact Zw.to2 (H_5 _ _ _ h) rfl rfl rfl
noncomputable def D_X8_chance_85 (P : Nat) (y1_85 : Int64) (M_85 : zMt) (N_85 : zNt) : Option (Int64 × zMt × zNt) :=
  zB (D_X8_givesLong P y1_85 M_85) fun e_85 =>
  some (e_85.1, e_85.2, N_85)
noncomputable def D_X8_chance (P : Nat) (v0 : Int32) (v1 : Int32) (M : zMt) (N : zNt) : Option (Int64 × zMt × zNt) :=
  zB (D_X8_isFrom (Int32.toInt64 v1) (0 : Int64) (2 : Int64)) fun e_6 =>
  if e_6 = 0 then
    zB (D_X8_refuse P (1 : Int32) M) fun e_14 =>
    some ((Int32.toInt64 e_14.1), e_14.2, N)
  else
    zB (D_X8_isApplicant P v0 M) fun e_21 =>
    if e_21.1 = 0 then
      zB (D_X8_refuse P (2 : Int32) e_21.2) fun e_29 =>
      some ((Int32.toInt64 e_29.1), e_29.2, N)
    else
      zB (D_X8_areMany P e_21.2) fun e_35 =>
      if e_35.1 = 0 then
        zB (D_X8_laysAll P e_35.2 N) fun e_49 =>
        if v1 = 0 then
          zB (D_X8_chanceOf P e_49.1 e_49.2 v0) fun e_59 =>
          D_X8_chance_85 P e_59 e_49.1 e_49.2
        else
          if v1 = (1 : Int32) then
            zI v0 7 <|
            D_X8_chance_85 P (e_49.2 (P + 25) v0.toNatClampNeg) e_49.1 e_49.2
          else
            zI v0 7 <|
            D_X8_chance_85 P (e_49.2 (P + 26) v0.toNatClampNeg) e_49.1 e_49.2
      else
        zB (D_X8_refuse P (3 : Int32) e_35.2) fun e_43 =>
        some ((Int32.toInt64 e_43.1), e_43.2, N)
set_option maxRecDepth 100000 in
set_option maxHeartbeats 4000000 in
theorem t_X8_chance {l : Launch} {G : zG} {b : Nat} {L : List zC} {M : zMt} {N : zNt} {P : Nat} {v0 : Int32} {v1 : Int32} (hP : LX8 L P) {r : Int64 × zMt × zNt} (h : D_X8_chance P v0 v1 M N = some r) : zM l G b yX8_chance cX8_chance 3 (some .long) 14 0 0 [.ref P, .int v0, .int v1] (L, M, N) (fun r2 z => r2 = some (.long r.1) ∧ z = (L, r.2.1, r.2.2)) := by
  refine zM.of miX8_chance (Nat.le_of_ble_eq_true rfl) ?_
  intro p e s m args below meth c X hr hname
  generalize hF : ((fun r2 z => r2 = some (.long r.1) ∧ z = (L, r.2.1, r.2.2)) : Option Value → zS → Prop) = FQ
  change Zw p l e { frames := 14, cells := 0, slots := 0, locals := 80 * (14) } s m args below meth c G b 3 (MQ below (zQ G b FQ) args s 0 0 (fun q : Nat => b ≤ q)) 0 0 0 [some (.ref P), some (.int v0), some (.int v1)] [] (L, M, N)
  obtain ⟨p_lt, p_o, p_s, p_read, p_aside, p_kept, p_guest, p_readGuest, p_tape, p_unitName, p_hunterName, p_partyName, p_bits, p_partyOf, p_choiceAt, p_sizes, p_guestMany, p_pointsOf, p_ticketsOf, p_ord, p_given, p_roundOf, p_tags, p_guestTags, p_places, p_sumAt, p_sumFirst, p_sumRound, p_sumBoth, p_sumTags, p_isEnd, p_newPoints, p_inRow, p_out⟩ := id hP
  have J_85 : ∀ (x1_85 : Int32) (x2_85 : Int32) (y1_85 : Int64) (M_85 : zMt) (N_85 : zNt), D_X8_chance_85 P y1_85 M_85 N_85 = some r → Zw p l e { frames := 14, cells := 0, slots := 0, locals := 80 * (14) } s m args below meth c G b 3 (MQ below (zQ G b FQ) args s 0 0 (fun q : Nat => b ≤ q)) 0 0 85 [some (.ref (P)), some (.int x1_85), some (.int x2_85)] [.long y1_85, .ref (P)] (L, M_85, N_85) := by
    intro x1_85 x2_85 y1_85 M_85 N_85 h
    unfold D_X8_chance_85 at h
    obtain ⟨e_85, f_85, h⟩ := zBx h
    refine a_callVv X dX8_chance_85 miX8_givesLong lm8_438 (t_X8_givesLong (by assumption) f_85) (by assumption) rfl rfl rfl (Nat.le_of_ble_eq_true rfl) ⟨by decide, by decide, by decide, by decide⟩ ?_
    refine a_lret X hr dX8_chance_88 ⟨by decide, by decide⟩ ?_
    subst hF
    rw [← Option.some.inj h]
    exact ⟨rfl, rfl⟩
  unfold D_X8_chance at h
  refine a_iload_n X dX8_chance_0 rfl ?_
  refine a_i2l X dX8_chance_1 ?_
  refine a_lconst (v := 0) X dX8_chance_2 (by decide) ?_
  refine a_ldc2 X dX8_chance_3 lk8_427 ?_
  obtain ⟨e_6, f_6, h⟩ := zBx h
  refine a_callSx X dX8_chance_6 miX8_isFrom lm8_128 (t_X8_isFrom f_6) rfl rfl (Nat.le_of_ble_eq_true rfl) ⟨by decide, by decide, by decide, by decide⟩ (fun r_6 S_6 q_6 => ?_)
  obtain ⟨rfl, rfl, b_6⟩ := q_6
  refine a_if_ne (tgt := 19) X dX8_chance_9 (by decide) (fun h_9 => ?_) (fun h_9 => ?_)
  · replace h := (if_neg h_9).symm.trans h
    refine a_aload_n X dX8_chance_19 rfl ?_
    refine a_iload_n X dX8_chance_20 rfl ?_
    obtain ⟨e_21, f_21, h⟩ := zBx h
    refine a_callVx X dX8_chance_21 miX8_isApplicant lm8_315 (t_X8_isApplicant (by assumption) f_21) (by assumption) rfl rfl rfl (Nat.le_of_ble_eq_true rfl) ⟨by decide, by decide, by decide, by decide⟩ (fun r_21 S_21 q_21 => ?_)
    obtain ⟨rfl, rfl, b_21⟩ := q_21
    refine a_if_ne (tgt := 34) X dX8_chance_24 (by decide) (fun h_24 => ?_) (fun h_24 => ?_)
    · replace h := (if_neg h_24).symm.trans h
      refine a_aload_n X dX8_chance_34 rfl ?_
      obtain ⟨e_35, f_35, h⟩ := zBx h
      refine a_callVx X dX8_chance_35 miX8_areMany lm8_429 (t_X8_areMany (by assumption) f_35) (by assumption) rfl rfl rfl (Nat.le_of_ble_eq_true rfl) ⟨by decide, by decide, by decide, by decide⟩ (fun r_35 S_35 q_35 => ?_)
      obtain ⟨rfl, rfl, b_35⟩ := q_35
      refine a_if_eq (tgt := 48) X dX8_chance_38 (by decide) (fun h_38 => ?_) (fun h_38 => ?_)
      · replace h := (if_pos h_38).symm.trans h
        refine a_aload_n X dX8_chance_48 rfl ?_
        obtain ⟨e_49, f_49, h⟩ := zBx h
        refine a_callVu X dX8_chance_49 miX8_laysAll lm8_432 (t_X8_laysAll (by assumption) f_49) (by assumption) rfl rfl rfl (Nat.le_of_ble_eq_true rfl) ⟨by decide, by decide, by decide, by decide⟩ ?_
        refine a_aload_n X dX8_chance_52 rfl ?_
        refine a_iload_n X dX8_chance_53 rfl ?_
        refine a_if_ne (tgt := 65) X dX8_chance_54 (by decide) (fun h_54 => ?_) (fun h_54 => ?_)
        · replace h := (if_neg h_54).symm.trans h
          refine a_iload_n X dX8_chance_65 rfl ?_
          refine a_iconst (v := 1) X dX8_chance_66 (by decide) ?_
          refine a_icmp_ne (tgt := 79) X dX8_chance_67 (by decide) (fun h_67 => ?_) (fun h_67 => ?_)
          · replace h := (if_neg h_67).symm.trans h
            refine a_aload_n X dX8_chance_79 rfl ?_
            refine a_getr X lf8_94 (by assumption) rfl (by omega) dX8_chance_80 ?_
            refine a_iload_n X dX8_chance_83 rfl ?_
            obtain ⟨g_84, h⟩ := zIx h
            refine a_laload X (by assumption) g_84 dX8_chance_84 ?_
            exact Zw.to2 (J_85 _ _ _ _ _ h) rfl rfl rfl
          · replace h := (if_pos h_67).symm.trans h
            refine a_aload_n X dX8_chance_70 rfl ?_
            refine a_getr X lf8_91 (by assumption) rfl (by omega) dX8_chance_71 ?_
            refine a_iload_n X dX8_chance_74 rfl ?_
            obtain ⟨g_75, h⟩ := zIx h
            refine a_laload X (by assumption) g_75 dX8_chance_75 ?_
            refine a_goto (tgt := 85) X dX8_chance_76 (by decide) ?_
            exact Zw.to2 (J_85 _ _ _ _ _ h) rfl rfl rfl
        · replace h := (if_pos h_54).symm.trans h
          refine a_aload_n X dX8_chance_57 rfl ?_
          refine a_iload_n X dX8_chance_58 rfl ?_
          obtain ⟨e_59, f_59, h⟩ := zBx h
          refine a_callVv X dX8_chance_59 miX8_chanceOf lm8_435 (t_X8_chanceOf (by assumption) f_59) (by assumption) rfl rfl rfl (Nat.le_of_ble_eq_true rfl) ⟨by decide, by decide, by decide, by decide⟩ ?_
          refine a_goto (tgt := 85) X dX8_chance_62 (by decide) ?_
          exact Zw.to2 (J_85 _ _ _ _ _ h) rfl rfl rfl
      · replace h := (if_neg h_38).symm.trans h
        refine a_aload_n X dX8_chance_41 rfl ?_
        refine a_iconst (v := 3) X dX8_chance_42 (by decide) ?_
        obtain ⟨e_43, f_43, h⟩ := zBx h
        refine a_callVv X dX8_chance_43 miX8_refuse lm8_263 (t_X8_refuse (by assumption) f_43) (by assumption) rfl rfl rfl (Nat.le_of_ble_eq_true rfl) ⟨by decide, by decide, by decide, by decide⟩ ?_
        refine a_i2l X dX8_chance_46 ?_
        refine a_lret X hr dX8_chance_47 ⟨by decide, by decide⟩ ?_
        subst hF
        rw [← Option.some.inj h]
        exact ⟨rfl, rfl⟩
    · replace h := (if_pos h_24).symm.trans h
      refine a_aload_n X dX8_chance_27 rfl ?_
      refine a_iconst (v := 2) X dX8_chance_28 (by decide) ?_
      obtain ⟨e_29, f_29, h⟩ := zBx h
      refine a_callVv X dX8_chance_29 miX8_refuse lm8_263 (t_X8_refuse (by assumption) f_29) (by assumption) rfl rfl rfl (Nat.le_of_ble_eq_true rfl) ⟨by decide, by decide, by decide, by decide⟩ ?_
      refine a_i2l X dX8_chance_32 ?_
      refine a_lret X hr dX8_chance_33 ⟨by decide, by decide⟩ ?_
      subst hF
      rw [← Option.some.inj h]
      exact ⟨rfl, rfl⟩
  · replace h := (if_pos h_9).symm.trans h
    refine a_aload_n X dX8_chance_12 rfl ?_
    refine a_iconst (v := 1) X dX8_chance_13 (by decide) ?_
    obtain ⟨e_14, f_14, h⟩ := zBx h
    refine a_callVv X dX8_chance_14 miX8_refuse lm8_263 (t_X8_refuse (by assumption) f_14) (by assumption) rfl rfl rfl (Nat.le_of_ble_eq_true rfl) ⟨by decide, by decide, by decide, by decide⟩ ?_
    refine a_i2l X dX8_chance_17 ?_
    refine a_lret X hr dX8_chance_18 ⟨by decide, by decide⟩ ?_
    subst hF
    rw [← Option.some.inj h]
    exact ⟨rfl, rfl⟩
noncomputable def D_X8_at_16 (P : Nat) (M_16 : zMt) (N_16 : zNt) : Option (Int64 × zMt × zNt) :=
  zB (D_X8_refuse P (2 : Int32) M_16) fun e_18 =>
  some ((Int32.toInt64 e_18.1), e_18.2, N_16)
noncomputable def D_X8_at (P : Nat) (v0 : Int32) (v1 : Int32) (M : zMt) (N : zNt) : Option (Int64 × zMt × zNt) :=
  zB (D_X8_isApplicant P v0 M) fun e_2 =>
  if e_2.1 = 0 then
    D_X8_at_16 P e_2.2 N
  else
    zB (D_X8_isUnit P e_2.2 v1) fun e_10 =>
    if e_10 = 0 then
      D_X8_at_16 P e_2.2 N
    else
      zB (D_X8_areMany P e_2.2) fun e_24 =>
      if e_24.1 = 0 then
        zB (D_X8_laysAll P e_24.2 N) fun e_38 =>
        zI (((5 : Int32) * v0) + v1) 35 <|
        zB (D_X8_givesLong P (e_38.2 (P + 24) (((5 : Int32) * v0) + v1).toNatClampNeg) e_38.1) fun e_52 =>
        some (e_52.1, e_52.2, e_38.2)
      else
        zB (D_X8_refuse P (3 : Int32) e_24.2) fun e_32 =>
        some ((Int32.toInt64 e_32.1), e_32.2, N)
set_option maxRecDepth 100000 in
set_option maxHeartbeats 4000000 in
theorem t_X8_at {l : Launch} {G : zG} {b : Nat} {L : List zC} {M : zMt} {N : zNt} {P : Nat} {v0 : Int32} {v1 : Int32} (hP : LX8 L P) {r : Int64 × zMt × zNt} (h : D_X8_at P v0 v1 M N = some r) : zM l G b yX8_at cX8_at 3 (some .long) 14 0 0 [.ref P, .int v0, .int v1] (L, M, N) (fun r2 z => r2 = some (.long r.1) ∧ z = (L, r.2.1, r.2.2)) := by
  refine zM.of miX8_at (Nat.le_of_ble_eq_true rfl) ?_
  intro p e s m args below meth c X hr hname
  generalize hF : ((fun r2 z => r2 = some (.long r.1) ∧ z = (L, r.2.1, r.2.2)) : Option Value → zS → Prop) = FQ
  change Zw p l e { frames := 14, cells := 0, slots := 0, locals := 80 * (14) } s m args below meth c G b 3 (MQ below (zQ G b FQ) args s 0 0 (fun q : Nat => b ≤ q)) 0 0 0 [some (.ref P), some (.int v0), some (.int v1)] [] (L, M, N)
  obtain ⟨p_lt, p_o, p_s, p_read, p_aside, p_kept, p_guest, p_readGuest, p_tape, p_unitName, p_hunterName, p_partyName, p_bits, p_partyOf, p_choiceAt, p_sizes, p_guestMany, p_pointsOf, p_ticketsOf, p_ord, p_given, p_roundOf, p_tags, p_guestTags, p_places, p_sumAt, p_sumFirst, p_sumRound, p_sumBoth, p_sumTags, p_isEnd, p_newPoints, p_inRow, p_out⟩ := id hP
  have J_16 : ∀ (x1_16 : Int32) (x2_16 : Int32) (M_16 : zMt) (N_16 : zNt), D_X8_at_16 P M_16 N_16 = some r → Zw p l e { frames := 14, cells := 0, slots := 0, locals := 80 * (14) } s m args below meth c G b 3 (MQ below (zQ G b FQ) args s 0 0 (fun q : Nat => b ≤ q)) 0 0 16 [some (.ref (P)), some (.int x1_16), some (.int x2_16)] [] (L, M_16, N_16) := by
    intro x1_16 x2_16 M_16 N_16 h
    unfold D_X8_at_16 at h
    refine a_aload_n X dX8_at_16 rfl ?_
    refine a_iconst (v := 2) X dX8_at_17 (by decide) ?_
    obtain ⟨e_18, f_18, h⟩ := zBx h
    refine a_callVv X dX8_at_18 miX8_refuse lm8_263 (t_X8_refuse (by assumption) f_18) (by assumption) rfl rfl rfl (Nat.le_of_ble_eq_true rfl) ⟨by decide, by decide, by decide, by decide⟩ ?_
    refine a_i2l X dX8_at_21 ?_
    refine a_lret X hr dX8_at_22 ⟨by decide, by decide⟩ ?_
    subst hF
    rw [← Option.some.inj h]
    exact ⟨rfl, rfl⟩
  unfold D_X8_at at h
  refine a_aload_n X dX8_at_0 rfl ?_
  refine a_iload_n X dX8_at_1 rfl ?_
  obtain ⟨e_2, f_2, h⟩ := zBx h
  refine a_callVx X dX8_at_2 miX8_isApplicant lm8_315 (t_X8_isApplicant (by assumption) f_2) (by assumption) rfl rfl rfl (Nat.le_of_ble_eq_true rfl) ⟨by decide, by decide, by decide, by decide⟩ (fun r_2 S_2 q_2 => ?_)
  obtain ⟨rfl, rfl, b_2⟩ := q_2
  refine a_if_eq (tgt := 16) X dX8_at_5 (by decide) (fun h_5 => ?_) (fun h_5 => ?_)
  · replace h := (if_pos h_5).symm.trans h
    exact Zw.to2 (J_16 _ _ _ _ h) rfl rfl rfl
  · replace h := (if_neg h_5).symm.trans h
    refine a_aload_n X dX8_at_8 rfl ?_
    refine a_iload_n X dX8_at_9 rfl ?_
    obtain ⟨e_10, f_10, h⟩ := zBx h
    refine a_callVx X dX8_at_10 miX8_isUnit lm8_301 (t_X8_isUnit (by assumption) f_10) (by assumption) rfl rfl rfl (Nat.le_of_ble_eq_true rfl) ⟨by decide, by decide, by decide, by decide⟩ (fun r_10 S_10 q_10 => ?_)
    obtain ⟨rfl, rfl, b_10⟩ := q_10
    refine a_if_ne (tgt := 23) X dX8_at_13 (by decide) (fun h_13 => ?_) (fun h_13 => ?_)
    · replace h := (if_neg h_13).symm.trans h
      refine a_aload_n X dX8_at_23 rfl ?_
      obtain ⟨e_24, f_24, h⟩ := zBx h
      refine a_callVx X dX8_at_24 miX8_areMany lm8_429 (t_X8_areMany (by assumption) f_24) (by assumption) rfl rfl rfl (Nat.le_of_ble_eq_true rfl) ⟨by decide, by decide, by decide, by decide⟩ (fun r_24 S_24 q_24 => ?_)
      obtain ⟨rfl, rfl, b_24⟩ := q_24
      refine a_if_eq (tgt := 37) X dX8_at_27 (by decide) (fun h_27 => ?_) (fun h_27 => ?_)
      · replace h := (if_pos h_27).symm.trans h
        refine a_aload_n X dX8_at_37 rfl ?_
        obtain ⟨e_38, f_38, h⟩ := zBx h
        refine a_callVu X dX8_at_38 miX8_laysAll lm8_432 (t_X8_laysAll (by assumption) f_38) (by assumption) rfl rfl rfl (Nat.le_of_ble_eq_true rfl) ⟨by decide, by decide, by decide, by decide⟩ ?_
        refine a_aload_n X dX8_at_41 rfl ?_
        refine a_aload_n X dX8_at_42 rfl ?_
        refine a_getr X lf8_88 (by assumption) rfl (by omega) dX8_at_43 ?_
        refine a_iconst (v := 5) X dX8_at_46 (by decide) ?_
        refine a_iload_n X dX8_at_47 rfl ?_
        refine a_imul X dX8_at_48 ?_
        refine a_iload_n X dX8_at_49 rfl ?_
        refine a_iadd X dX8_at_50 ?_
        obtain ⟨g_51, h⟩ := zIx h
        refine a_laload X (by assumption) g_51 dX8_at_51 ?_
        obtain ⟨e_52, f_52, h⟩ := zBx h
        refine a_callVv X dX8_at_52 miX8_givesLong lm8_438 (t_X8_givesLong (by assumption) f_52) (by assumption) rfl rfl rfl (Nat.le_of_ble_eq_true rfl) ⟨by decide, by decide, by decide, by decide⟩ ?_
        refine a_lret X hr dX8_at_55 ⟨by decide, by decide⟩ ?_
        subst hF
        rw [← Option.some.inj h]
        exact ⟨rfl, rfl⟩
      · replace h := (if_neg h_27).symm.trans h
        refine a_aload_n X dX8_at_30 rfl ?_
        refine a_iconst (v := 3) X dX8_at_31 (by decide) ?_
        obtain ⟨e_32, f_32, h⟩ := zBx h
        refine a_callVv X dX8_at_32 miX8_refuse lm8_263 (t_X8_refuse (by assumption) f_32) (by assumption) rfl rfl rfl (Nat.le_of_ble_eq_true rfl) ⟨by decide, by decide, by decide, by decide⟩ ?_
        refine a_i2l X dX8_at_35 ?_
        refine a_lret X hr dX8_at_36 ⟨by decide, by decide⟩ ?_
        subst hF
        rw [← Option.some.inj h]
        exact ⟨rfl, rfl⟩
    · replace h := (if_pos h_13).symm.trans h
      exact Zw.to2 (J_16 _ _ _ _ h) rfl rfl rfl
noncomputable def D_X8_both_16 (P : Nat) (M_16 : zMt) (N_16 : zNt) : Option (Int64 × zMt × zNt) :=
  zB (D_X8_refuse P (2 : Int32) M_16) fun e_18 =>
  some ((Int32.toInt64 e_18.1), e_18.2, N_16)
noncomputable def D_X8_both (P : Nat) (v0 : Int32) (v1 : Int32) (M : zMt) (N : zNt) : Option (Int64 × zMt × zNt) :=
  zB (D_X8_isApplicant P v0 M) fun e_2 =>
  if e_2.1 = 0 then
    D_X8_both_16 P e_2.2 N
  else
    zB (D_X8_isApplicant P v1 e_2.2) fun e_10 =>
    if e_10.1 = 0 then
      D_X8_both_16 P e_10.2 N
    else
      if v0 = v1 then
        zB (D_X8_refuse P (4 : Int32) e_10.2) fun e_30 =>
        some ((Int32.toInt64 e_30.1), e_30.2, N)
      else
        zB (D_X8_areMany P e_10.2) fun e_36 =>
        if e_36.1 = 0 then
          zB (D_X8_laysAll P e_36.2 N) fun e_50 =>
          zI (((7 : Int32) * v0) + v1) 49 <|
          zB (D_X8_givesLong P (e_50.2 (P + 27) (((7 : Int32) * v0) + v1).toNatClampNeg) e_50.1) fun e_65 =>
          some (e_65.1, e_65.2, e_50.2)
        else
          zB (D_X8_refuse P (3 : Int32) e_36.2) fun e_44 =>
          some ((Int32.toInt64 e_44.1), e_44.2, N)
set_option maxRecDepth 100000 in
set_option maxHeartbeats 4000000 in
theorem t_X8_both {l : Launch} {G : zG} {b : Nat} {L : List zC} {M : zMt} {N : zNt} {P : Nat} {v0 : Int32} {v1 : Int32} (hP : LX8 L P) {r : Int64 × zMt × zNt} (h : D_X8_both P v0 v1 M N = some r) : zM l G b yX8_both cX8_both 3 (some .long) 14 0 0 [.ref P, .int v0, .int v1] (L, M, N) (fun r2 z => r2 = some (.long r.1) ∧ z = (L, r.2.1, r.2.2)) := by
  refine zM.of miX8_both (Nat.le_of_ble_eq_true rfl) ?_
  intro p e s m args below meth c X hr hname
  generalize hF : ((fun r2 z => r2 = some (.long r.1) ∧ z = (L, r.2.1, r.2.2)) : Option Value → zS → Prop) = FQ
  change Zw p l e { frames := 14, cells := 0, slots := 0, locals := 80 * (14) } s m args below meth c G b 3 (MQ below (zQ G b FQ) args s 0 0 (fun q : Nat => b ≤ q)) 0 0 0 [some (.ref P), some (.int v0), some (.int v1)] [] (L, M, N)
  obtain ⟨p_lt, p_o, p_s, p_read, p_aside, p_kept, p_guest, p_readGuest, p_tape, p_unitName, p_hunterName, p_partyName, p_bits, p_partyOf, p_choiceAt, p_sizes, p_guestMany, p_pointsOf, p_ticketsOf, p_ord, p_given, p_roundOf, p_tags, p_guestTags, p_places, p_sumAt, p_sumFirst, p_sumRound, p_sumBoth, p_sumTags, p_isEnd, p_newPoints, p_inRow, p_out⟩ := id hP
  have J_16 : ∀ (x1_16 : Int32) (x2_16 : Int32) (M_16 : zMt) (N_16 : zNt), D_X8_both_16 P M_16 N_16 = some r → Zw p l e { frames := 14, cells := 0, slots := 0, locals := 80 * (14) } s m args below meth c G b 3 (MQ below (zQ G b FQ) args s 0 0 (fun q : Nat => b ≤ q)) 0 0 16 [some (.ref (P)), some (.int x1_16), some (.int x2_16)] [] (L, M_16, N_16) := by
    intro x1_16 x2_16 M_16 N_16 h
    unfold D_X8_both_16 at h
    refine a_aload_n X dX8_both_16 rfl ?_
    refine a_iconst (v := 2) X dX8_both_17 (by decide) ?_
    obtain ⟨e_18, f_18, h⟩ := zBx h
    refine a_callVv X dX8_both_18 miX8_refuse lm8_263 (t_X8_refuse (by assumption) f_18) (by assumption) rfl rfl rfl (Nat.le_of_ble_eq_true rfl) ⟨by decide, by decide, by decide, by decide⟩ ?_
    refine a_i2l X dX8_both_21 ?_
    refine a_lret X hr dX8_both_22 ⟨by decide, by decide⟩ ?_
    subst hF
    rw [← Option.some.inj h]
    exact ⟨rfl, rfl⟩
  unfold D_X8_both at h
  refine a_aload_n X dX8_both_0 rfl ?_
  refine a_iload_n X dX8_both_1 rfl ?_
  obtain ⟨e_2, f_2, h⟩ := zBx h
  refine a_callVx X dX8_both_2 miX8_isApplicant lm8_315 (t_X8_isApplicant (by assumption) f_2) (by assumption) rfl rfl rfl (Nat.le_of_ble_eq_true rfl) ⟨by decide, by decide, by decide, by decide⟩ (fun r_2 S_2 q_2 => ?_)
  obtain ⟨rfl, rfl, b_2⟩ := q_2
  refine a_if_eq (tgt := 16) X dX8_both_5 (by decide) (fun h_5 => ?_) (fun h_5 => ?_)
  · replace h := (if_pos h_5).symm.trans h
    exact Zw.to2 (J_16 _ _ _ _ h) rfl rfl rfl
  · replace h := (if_neg h_5).symm.trans h
    refine a_aload_n X dX8_both_8 rfl ?_
    refine a_iload_n X dX8_both_9 rfl ?_
    obtain ⟨e_10, f_10, h⟩ := zBx h
    refine a_callVx X dX8_both_10 miX8_isApplicant lm8_315 (t_X8_isApplicant (by assumption) f_10) (by assumption) rfl rfl rfl (Nat.le_of_ble_eq_true rfl) ⟨by decide, by decide, by decide, by decide⟩ (fun r_10 S_10 q_10 => ?_)
    obtain ⟨rfl, rfl, b_10⟩ := q_10
    refine a_if_ne (tgt := 23) X dX8_both_13 (by decide) (fun h_13 => ?_) (fun h_13 => ?_)
    · replace h := (if_neg h_13).symm.trans h
      refine a_iload_n X dX8_both_23 rfl ?_
      refine a_iload_n X dX8_both_24 rfl ?_
      refine a_icmp_ne (tgt := 35) X dX8_both_25 (by decide) (fun h_25 => ?_) (fun h_25 => ?_)
      · replace h := (if_neg h_25).symm.trans h
        refine a_aload_n X dX8_both_35 rfl ?_
        obtain ⟨e_36, f_36, h⟩ := zBx h
        refine a_callVx X dX8_both_36 miX8_areMany lm8_429 (t_X8_areMany (by assumption) f_36) (by assumption) rfl rfl rfl (Nat.le_of_ble_eq_true rfl) ⟨by decide, by decide, by decide, by decide⟩ (fun r_36 S_36 q_36 => ?_)
        obtain ⟨rfl, rfl, b_36⟩ := q_36
        refine a_if_eq (tgt := 49) X dX8_both_39 (by decide) (fun h_39 => ?_) (fun h_39 => ?_)
        · replace h := (if_pos h_39).symm.trans h
          refine a_aload_n X dX8_both_49 rfl ?_
          obtain ⟨e_50, f_50, h⟩ := zBx h
          refine a_callVu X dX8_both_50 miX8_laysAll lm8_432 (t_X8_laysAll (by assumption) f_50) (by assumption) rfl rfl rfl (Nat.le_of_ble_eq_true rfl) ⟨by decide, by decide, by decide, by decide⟩ ?_
          refine a_aload_n X dX8_both_53 rfl ?_
          refine a_aload_n X dX8_both_54 rfl ?_
          refine a_getr X lf8_97 (by assumption) rfl (by omega) dX8_both_55 ?_
          refine a_bipush (v := 7) X dX8_both_58 (by decide) ?_
          refine a_iload_n X dX8_both_60 rfl ?_
          refine a_imul X dX8_both_61 ?_
          refine a_iload_n X dX8_both_62 rfl ?_
          refine a_iadd X dX8_both_63 ?_
          obtain ⟨g_64, h⟩ := zIx h
          refine a_laload X (by assumption) g_64 dX8_both_64 ?_
          obtain ⟨e_65, f_65, h⟩ := zBx h
          refine a_callVv X dX8_both_65 miX8_givesLong lm8_438 (t_X8_givesLong (by assumption) f_65) (by assumption) rfl rfl rfl (Nat.le_of_ble_eq_true rfl) ⟨by decide, by decide, by decide, by decide⟩ ?_
          refine a_lret X hr dX8_both_68 ⟨by decide, by decide⟩ ?_
          subst hF
          rw [← Option.some.inj h]
          exact ⟨rfl, rfl⟩
        · replace h := (if_neg h_39).symm.trans h
          refine a_aload_n X dX8_both_42 rfl ?_
          refine a_iconst (v := 3) X dX8_both_43 (by decide) ?_
          obtain ⟨e_44, f_44, h⟩ := zBx h
          refine a_callVv X dX8_both_44 miX8_refuse lm8_263 (t_X8_refuse (by assumption) f_44) (by assumption) rfl rfl rfl (Nat.le_of_ble_eq_true rfl) ⟨by decide, by decide, by decide, by decide⟩ ?_
          refine a_i2l X dX8_both_47 ?_
          refine a_lret X hr dX8_both_48 ⟨by decide, by decide⟩ ?_
          subst hF
          rw [← Option.some.inj h]
          exact ⟨rfl, rfl⟩
      · replace h := (if_pos h_25).symm.trans h
        refine a_aload_n X dX8_both_28 rfl ?_
        refine a_iconst (v := 4) X dX8_both_29 (by decide) ?_
        obtain ⟨e_30, f_30, h⟩ := zBx h
        refine a_callVv X dX8_both_30 miX8_refuse lm8_263 (t_X8_refuse (by assumption) f_30) (by assumption) rfl rfl rfl (Nat.le_of_ble_eq_true rfl) ⟨by decide, by decide, by decide, by decide⟩ ?_
        refine a_i2l X dX8_both_33 ?_
        refine a_lret X hr dX8_both_34 ⟨by decide, by decide⟩ ?_
        subst hF
        rw [← Option.some.inj h]
        exact ⟨rfl, rfl⟩
    · replace h := (if_pos h_13).symm.trans h
      exact Zw.to2 (J_16 _ _ _ _ h) rfl rfl rfl
noncomputable def D_X8_sure_60 (P : Nat) (y1_60 : Int32) (M_60 : zMt) (N_60 : zNt) : Option (Int32 × zMt × zNt) :=
  zB (D_X8_gives P y1_60 M_60) fun e_60 =>
  some (e_60.1, e_60.2, N_60)
noncomputable def D_X8_sure (P : Nat) (v0 : Int32) (M : zMt) (N : zNt) : Option (Int32 × zMt × zNt) :=
  zB (D_X8_isFrom (Int32.toInt64 v0) (0 : Int64) (1 : Int64)) fun e_4 =>
  if e_4 = 0 then
    zB (D_X8_refuse P (1 : Int32) M) fun e_12 =>
    some (e_12.1, e_12.2, N)
  else
    zB (D_X8_areMany P M) fun e_17 =>
    if e_17.1 = 0 then
      zB (D_X8_laysAll P e_17.2 N) fun e_30 =>
      if v0 = 0 then
        D_X8_sure_60 P (e_30.1 P 54) e_30.1 e_30.2
      else
        D_X8_sure_60 P ((((1 : Int32) <<< ((e_30.1 P 33) &&& 31)) - (1 : Int32)) &&& ((e_30.1 P 55) ^^^ (-1 : Int32))) e_30.1 e_30.2
    else
      zB (D_X8_refuse P (3 : Int32) e_17.2) fun e_25 =>
      some (e_25.1, e_25.2, N)
set_option maxRecDepth 100000 in
set_option maxHeartbeats 4000000 in
theorem t_X8_sure {l : Launch} {G : zG} {b : Nat} {L : List zC} {M : zMt} {N : zNt} {P : Nat} {v0 : Int32} (hP : LX8 L P) {r : Int32 × zMt × zNt} (h : D_X8_sure P v0 M N = some r) : zM l G b yX8_sure cX8_sure 2 (some .int) 14 0 0 [.ref P, .int v0] (L, M, N) (fun r2 z => r2 = some (.int r.1) ∧ z = (L, r.2.1, r.2.2)) := by
  refine zM.of miX8_sure (Nat.le_of_ble_eq_true rfl) ?_
  intro p e s m args below meth c X hr hname
  generalize hF : ((fun r2 z => r2 = some (.int r.1) ∧ z = (L, r.2.1, r.2.2)) : Option Value → zS → Prop) = FQ
  change Zw p l e { frames := 14, cells := 0, slots := 0, locals := 80 * (14) } s m args below meth c G b 2 (MQ below (zQ G b FQ) args s 0 0 (fun q : Nat => b ≤ q)) 0 0 0 [some (.ref P), some (.int v0)] [] (L, M, N)
  obtain ⟨p_lt, p_o, p_s, p_read, p_aside, p_kept, p_guest, p_readGuest, p_tape, p_unitName, p_hunterName, p_partyName, p_bits, p_partyOf, p_choiceAt, p_sizes, p_guestMany, p_pointsOf, p_ticketsOf, p_ord, p_given, p_roundOf, p_tags, p_guestTags, p_places, p_sumAt, p_sumFirst, p_sumRound, p_sumBoth, p_sumTags, p_isEnd, p_newPoints, p_inRow, p_out⟩ := id hP
  have J_60 : ∀ (x1_60 : Int32) (y1_60 : Int32) (M_60 : zMt) (N_60 : zNt), D_X8_sure_60 P y1_60 M_60 N_60 = some r → Zw p l e { frames := 14, cells := 0, slots := 0, locals := 80 * (14) } s m args below meth c G b 2 (MQ below (zQ G b FQ) args s 0 0 (fun q : Nat => b ≤ q)) 0 0 60 [some (.ref (P)), some (.int x1_60)] [.int y1_60, .ref (P)] (L, M_60, N_60) := by
    intro x1_60 y1_60 M_60 N_60 h
    unfold D_X8_sure_60 at h
    obtain ⟨e_60, f_60, h⟩ := zBx h
    refine a_callVv X dX8_sure_60 miX8_gives lm8_272 (t_X8_gives (by assumption) f_60) (by assumption) rfl rfl rfl (Nat.le_of_ble_eq_true rfl) ⟨by decide, by decide, by decide, by decide⟩ ?_
    refine a_iret X hr dX8_sure_63 ⟨by decide, by decide⟩ ?_
    subst hF
    rw [← Option.some.inj h]
    exact ⟨rfl, rfl⟩
  unfold D_X8_sure at h
  refine a_iload_n X dX8_sure_0 rfl ?_
  refine a_i2l X dX8_sure_1 ?_
  refine a_lconst (v := 0) X dX8_sure_2 (by decide) ?_
  refine a_lconst (v := 1) X dX8_sure_3 (by decide) ?_
  obtain ⟨e_4, f_4, h⟩ := zBx h
  refine a_callSx X dX8_sure_4 miX8_isFrom lm8_128 (t_X8_isFrom f_4) rfl rfl (Nat.le_of_ble_eq_true rfl) ⟨by decide, by decide, by decide, by decide⟩ (fun r_4 S_4 q_4 => ?_)
  obtain ⟨rfl, rfl, b_4⟩ := q_4
  refine a_if_ne (tgt := 16) X dX8_sure_7 (by decide) (fun h_7 => ?_) (fun h_7 => ?_)
  · replace h := (if_neg h_7).symm.trans h
    refine a_aload_n X dX8_sure_16 rfl ?_
    obtain ⟨e_17, f_17, h⟩ := zBx h
    refine a_callVx X dX8_sure_17 miX8_areMany lm8_429 (t_X8_areMany (by assumption) f_17) (by assumption) rfl rfl rfl (Nat.le_of_ble_eq_true rfl) ⟨by decide, by decide, by decide, by decide⟩ (fun r_17 S_17 q_17 => ?_)
    obtain ⟨rfl, rfl, b_17⟩ := q_17
    refine a_if_eq (tgt := 29) X dX8_sure_20 (by decide) (fun h_20 => ?_) (fun h_20 => ?_)
    · replace h := (if_pos h_20).symm.trans h
      refine a_aload_n X dX8_sure_29 rfl ?_
      obtain ⟨e_30, f_30, h⟩ := zBx h
      refine a_callVu X dX8_sure_30 miX8_laysAll lm8_432 (t_X8_laysAll (by assumption) f_30) (by assumption) rfl rfl rfl (Nat.le_of_ble_eq_true rfl) ⟨by decide, by decide, by decide, by decide⟩ ?_
      refine a_aload_n X dX8_sure_33 rfl ?_
      refine a_iload_n X dX8_sure_34 rfl ?_
      refine a_if_ne (tgt := 45) X dX8_sure_35 (by decide) (fun h_35 => ?_) (fun h_35 => ?_)
      · replace h := (if_neg h_35).symm.trans h
        refine a_iconst (v := 1) X dX8_sure_45 (by decide) ?_
        refine a_aload_n X dX8_sure_46 rfl ?_
        refine a_geti X lf8_275 (by assumption) rfl dX8_sure_47 ?_
        refine a_ishl X dX8_sure_50 ?_
        refine a_iconst (v := 1) X dX8_sure_51 (by decide) ?_
        refine a_isub X dX8_sure_52 ?_
        refine a_aload_n X dX8_sure_53 rfl ?_
        refine a_geti X lf8_399 (by assumption) rfl dX8_sure_54 ?_
        refine a_iconst (v := -1) X dX8_sure_57 (by decide) ?_
        refine a_ixor X dX8_sure_58 ?_
        refine a_iand X dX8_sure_59 ?_
        exact Zw.to2 (J_60 _ _ _ _ h) rfl rfl rfl
      · replace h := (if_pos h_35).symm.trans h
        refine a_aload_n X dX8_sure_38 rfl ?_
        refine a_geti X lf8_396 (by assumption) rfl dX8_sure_39 ?_
        refine a_goto (tgt := 60) X dX8_sure_42 (by decide) ?_
        exact Zw.to2 (J_60 _ _ _ _ h) rfl rfl rfl
    · replace h := (if_neg h_20).symm.trans h
      refine a_aload_n X dX8_sure_23 rfl ?_
      refine a_iconst (v := 3) X dX8_sure_24 (by decide) ?_
      obtain ⟨e_25, f_25, h⟩ := zBx h
      refine a_callVv X dX8_sure_25 miX8_refuse lm8_263 (t_X8_refuse (by assumption) f_25) (by assumption) rfl rfl rfl (Nat.le_of_ble_eq_true rfl) ⟨by decide, by decide, by decide, by decide⟩ ?_
      refine a_iret X hr dX8_sure_28 ⟨by decide, by decide⟩ ?_
      subst hF
      rw [← Option.some.inj h]
      exact ⟨rfl, rfl⟩
  · replace h := (if_pos h_7).symm.trans h
    refine a_aload_n X dX8_sure_10 rfl ?_
    refine a_iconst (v := 1) X dX8_sure_11 (by decide) ?_
    obtain ⟨e_12, f_12, h⟩ := zBx h
    refine a_callVv X dX8_sure_12 miX8_refuse lm8_263 (t_X8_refuse (by assumption) f_12) (by assumption) rfl rfl rfl (Nat.le_of_ble_eq_true rfl) ⟨by decide, by decide, by decide, by decide⟩ ?_
    refine a_iret X hr dX8_sure_15 ⟨by decide, by decide⟩ ?_
    subst hF
    rw [← Option.some.inj h]
    exact ⟨rfl, rfl⟩
noncomputable def D_X8_mean (P : Nat) (v0 : Int32) (M : zMt) (N : zNt) : Option (Int64 × zMt × zNt) :=
  zB (D_X8_isUnit P M v0) fun e_2 =>
  if e_2 = 0 then
    zB (D_X8_refuse P (2 : Int32) M) fun e_10 =>
    some ((Int32.toInt64 e_10.1), e_10.2, N)
  else
    zB (D_X8_areMany P M) fun e_16 =>
    if e_16.1 = 0 then
      zB (D_X8_laysAll P e_16.2 N) fun e_30 =>
      zI v0 5 <|
      zB (D_X8_givesLong P (e_30.2 (P + 28) v0.toNatClampNeg) e_30.1) fun e_40 =>
      some (e_40.1, e_40.2, e_30.2)
    else
      zB (D_X8_refuse P (3 : Int32) e_16.2) fun e_24 =>
      some ((Int32.toInt64 e_24.1), e_24.2, N)
set_option maxRecDepth 100000 in
set_option maxHeartbeats 4000000 in
theorem t_X8_mean {l : Launch} {G : zG} {b : Nat} {L : List zC} {M : zMt} {N : zNt} {P : Nat} {v0 : Int32} (hP : LX8 L P) {r : Int64 × zMt × zNt} (h : D_X8_mean P v0 M N = some r) : zM l G b yX8_mean cX8_mean 2 (some .long) 14 0 0 [.ref P, .int v0] (L, M, N) (fun r2 z => r2 = some (.long r.1) ∧ z = (L, r.2.1, r.2.2)) := by
  refine zM.of miX8_mean (Nat.le_of_ble_eq_true rfl) ?_
  intro p e s m args below meth c X hr hname
  generalize hF : ((fun r2 z => r2 = some (.long r.1) ∧ z = (L, r.2.1, r.2.2)) : Option Value → zS → Prop) = FQ
  change Zw p l e { frames := 14, cells := 0, slots := 0, locals := 80 * (14) } s m args below meth c G b 2 (MQ below (zQ G b FQ) args s 0 0 (fun q : Nat => b ≤ q)) 0 0 0 [some (.ref P), some (.int v0)] [] (L, M, N)
  obtain ⟨p_lt, p_o, p_s, p_read, p_aside, p_kept, p_guest, p_readGuest, p_tape, p_unitName, p_hunterName, p_partyName, p_bits, p_partyOf, p_choiceAt, p_sizes, p_guestMany, p_pointsOf, p_ticketsOf, p_ord, p_given, p_roundOf, p_tags, p_guestTags, p_places, p_sumAt, p_sumFirst, p_sumRound, p_sumBoth, p_sumTags, p_isEnd, p_newPoints, p_inRow, p_out⟩ := id hP
  unfold D_X8_mean at h
  refine a_aload_n X dX8_mean_0 rfl ?_
  refine a_iload_n X dX8_mean_1 rfl ?_
  obtain ⟨e_2, f_2, h⟩ := zBx h
  refine a_callVx X dX8_mean_2 miX8_isUnit lm8_301 (t_X8_isUnit (by assumption) f_2) (by assumption) rfl rfl rfl (Nat.le_of_ble_eq_true rfl) ⟨by decide, by decide, by decide, by decide⟩ (fun r_2 S_2 q_2 => ?_)
  obtain ⟨rfl, rfl, b_2⟩ := q_2
  refine a_if_ne (tgt := 15) X dX8_mean_5 (by decide) (fun h_5 => ?_) (fun h_5 => ?_)
  · replace h := (if_neg h_5).symm.trans h
    refine a_aload_n X dX8_mean_15 rfl ?_
    obtain ⟨e_16, f_16, h⟩ := zBx h
    refine a_callVx X dX8_mean_16 miX8_areMany lm8_429 (t_X8_areMany (by assumption) f_16) (by assumption) rfl rfl rfl (Nat.le_of_ble_eq_true rfl) ⟨by decide, by decide, by decide, by decide⟩ (fun r_16 S_16 q_16 => ?_)
    obtain ⟨rfl, rfl, b_16⟩ := q_16
    refine a_if_eq (tgt := 29) X dX8_mean_19 (by decide) (fun h_19 => ?_) (fun h_19 => ?_)
    · replace h := (if_pos h_19).symm.trans h
      refine a_aload_n X dX8_mean_29 rfl ?_
      obtain ⟨e_30, f_30, h⟩ := zBx h
      refine a_callVu X dX8_mean_30 miX8_laysAll lm8_432 (t_X8_laysAll (by assumption) f_30) (by assumption) rfl rfl rfl (Nat.le_of_ble_eq_true rfl) ⟨by decide, by decide, by decide, by decide⟩ ?_
      refine a_aload_n X dX8_mean_33 rfl ?_
      refine a_aload_n X dX8_mean_34 rfl ?_
      refine a_getr X lf8_100 (by assumption) rfl (by omega) dX8_mean_35 ?_
      refine a_iload_n X dX8_mean_38 rfl ?_
      obtain ⟨g_39, h⟩ := zIx h
      refine a_laload X (by assumption) g_39 dX8_mean_39 ?_
      obtain ⟨e_40, f_40, h⟩ := zBx h
      refine a_callVv X dX8_mean_40 miX8_givesLong lm8_438 (t_X8_givesLong (by assumption) f_40) (by assumption) rfl rfl rfl (Nat.le_of_ble_eq_true rfl) ⟨by decide, by decide, by decide, by decide⟩ ?_
      refine a_lret X hr dX8_mean_43 ⟨by decide, by decide⟩ ?_
      subst hF
      rw [← Option.some.inj h]
      exact ⟨rfl, rfl⟩
    · replace h := (if_neg h_19).symm.trans h
      refine a_aload_n X dX8_mean_22 rfl ?_
      refine a_iconst (v := 3) X dX8_mean_23 (by decide) ?_
      obtain ⟨e_24, f_24, h⟩ := zBx h
      refine a_callVv X dX8_mean_24 miX8_refuse lm8_263 (t_X8_refuse (by assumption) f_24) (by assumption) rfl rfl rfl (Nat.le_of_ble_eq_true rfl) ⟨by decide, by decide, by decide, by decide⟩ ?_
      refine a_i2l X dX8_mean_27 ?_
      refine a_lret X hr dX8_mean_28 ⟨by decide, by decide⟩ ?_
      subst hF
      rw [← Option.some.inj h]
      exact ⟨rfl, rfl⟩
  · replace h := (if_pos h_5).symm.trans h
    refine a_aload_n X dX8_mean_8 rfl ?_
    refine a_iconst (v := 2) X dX8_mean_9 (by decide) ?_
    obtain ⟨e_10, f_10, h⟩ := zBx h
    refine a_callVv X dX8_mean_10 miX8_refuse lm8_263 (t_X8_refuse (by assumption) f_10) (by assumption) rfl rfl rfl (Nat.le_of_ble_eq_true rfl) ⟨by decide, by decide, by decide, by decide⟩ ?_
    refine a_i2l X dX8_mean_13 ?_
    refine a_lret X hr dX8_mean_14 ⟨by decide, by decide⟩ ?_
    subst hF
    rw [← Option.some.inj h]
    exact ⟨rfl, rfl⟩
noncomputable def D_X8_given_49 (P : Nat) (y1_49 : Int32) (M_49 : zMt) (N_49 : zNt) : Option (Int32 × zMt × zNt) :=
  zB (D_X8_gives P y1_49 M_49) fun e_49 =>
  some (e_49.1, e_49.2, N_49)
noncomputable def D_X8_given (P : Nat) (v0 : Int32) (M : zMt) (N : zNt) : Option (Int32 × zMt × zNt) :=
  zB (D_X8_isFrom (Int32.toInt64 v0) (0 : Int64) (1 : Int64)) fun e_4 =>
  if e_4 = 0 then
    zB (D_X8_refuse P (1 : Int32) M) fun e_12 =>
    some (e_12.1, e_12.2, N)
  else
    zB (D_X8_areMany P M) fun e_17 =>
    if e_17.1 = 0 then
      zB (D_X8_laysAll P e_17.2 N) fun e_30 =>
      if v0 = 0 then
        D_X8_given_49 P (e_30.1 P 56) e_30.1 e_30.2
      else
        D_X8_given_49 P (e_30.1 P 57) e_30.1 e_30.2
    else
      zB (D_X8_refuse P (3 : Int32) e_17.2) fun e_25 =>
      some (e_25.1, e_25.2, N)
set_option maxRecDepth 100000 in
set_option maxHeartbeats 4000000 in
theorem t_X8_given {l : Launch} {G : zG} {b : Nat} {L : List zC} {M : zMt} {N : zNt} {P : Nat} {v0 : Int32} (hP : LX8 L P) {r : Int32 × zMt × zNt} (h : D_X8_given P v0 M N = some r) : zM l G b yX8_given cX8_given 2 (some .int) 14 0 0 [.ref P, .int v0] (L, M, N) (fun r2 z => r2 = some (.int r.1) ∧ z = (L, r.2.1, r.2.2)) := by
  refine zM.of miX8_given (Nat.le_of_ble_eq_true rfl) ?_
  intro p e s m args below meth c X hr hname
  generalize hF : ((fun r2 z => r2 = some (.int r.1) ∧ z = (L, r.2.1, r.2.2)) : Option Value → zS → Prop) = FQ
  change Zw p l e { frames := 14, cells := 0, slots := 0, locals := 80 * (14) } s m args below meth c G b 2 (MQ below (zQ G b FQ) args s 0 0 (fun q : Nat => b ≤ q)) 0 0 0 [some (.ref P), some (.int v0)] [] (L, M, N)
  obtain ⟨p_lt, p_o, p_s, p_read, p_aside, p_kept, p_guest, p_readGuest, p_tape, p_unitName, p_hunterName, p_partyName, p_bits, p_partyOf, p_choiceAt, p_sizes, p_guestMany, p_pointsOf, p_ticketsOf, p_ord, p_given, p_roundOf, p_tags, p_guestTags, p_places, p_sumAt, p_sumFirst, p_sumRound, p_sumBoth, p_sumTags, p_isEnd, p_newPoints, p_inRow, p_out⟩ := id hP
  have J_49 : ∀ (x1_49 : Int32) (y1_49 : Int32) (M_49 : zMt) (N_49 : zNt), D_X8_given_49 P y1_49 M_49 N_49 = some r → Zw p l e { frames := 14, cells := 0, slots := 0, locals := 80 * (14) } s m args below meth c G b 2 (MQ below (zQ G b FQ) args s 0 0 (fun q : Nat => b ≤ q)) 0 0 49 [some (.ref (P)), some (.int x1_49)] [.int y1_49, .ref (P)] (L, M_49, N_49) := by
    intro x1_49 y1_49 M_49 N_49 h
    unfold D_X8_given_49 at h
    obtain ⟨e_49, f_49, h⟩ := zBx h
    refine a_callVv X dX8_given_49 miX8_gives lm8_272 (t_X8_gives (by assumption) f_49) (by assumption) rfl rfl rfl (Nat.le_of_ble_eq_true rfl) ⟨by decide, by decide, by decide, by decide⟩ ?_
    refine a_iret X hr dX8_given_52 ⟨by decide, by decide⟩ ?_
    subst hF
    rw [← Option.some.inj h]
    exact ⟨rfl, rfl⟩
  unfold D_X8_given at h
  refine a_iload_n X dX8_given_0 rfl ?_
  refine a_i2l X dX8_given_1 ?_
  refine a_lconst (v := 0) X dX8_given_2 (by decide) ?_
  refine a_lconst (v := 1) X dX8_given_3 (by decide) ?_
  obtain ⟨e_4, f_4, h⟩ := zBx h
  refine a_callSx X dX8_given_4 miX8_isFrom lm8_128 (t_X8_isFrom f_4) rfl rfl (Nat.le_of_ble_eq_true rfl) ⟨by decide, by decide, by decide, by decide⟩ (fun r_4 S_4 q_4 => ?_)
  obtain ⟨rfl, rfl, b_4⟩ := q_4
  refine a_if_ne (tgt := 16) X dX8_given_7 (by decide) (fun h_7 => ?_) (fun h_7 => ?_)
  · replace h := (if_neg h_7).symm.trans h
    refine a_aload_n X dX8_given_16 rfl ?_
    obtain ⟨e_17, f_17, h⟩ := zBx h
    refine a_callVx X dX8_given_17 miX8_areMany lm8_429 (t_X8_areMany (by assumption) f_17) (by assumption) rfl rfl rfl (Nat.le_of_ble_eq_true rfl) ⟨by decide, by decide, by decide, by decide⟩ (fun r_17 S_17 q_17 => ?_)
    obtain ⟨rfl, rfl, b_17⟩ := q_17
    refine a_if_eq (tgt := 29) X dX8_given_20 (by decide) (fun h_20 => ?_) (fun h_20 => ?_)
    · replace h := (if_pos h_20).symm.trans h
      refine a_aload_n X dX8_given_29 rfl ?_
      obtain ⟨e_30, f_30, h⟩ := zBx h
      refine a_callVu X dX8_given_30 miX8_laysAll lm8_432 (t_X8_laysAll (by assumption) f_30) (by assumption) rfl rfl rfl (Nat.le_of_ble_eq_true rfl) ⟨by decide, by decide, by decide, by decide⟩ ?_
      refine a_aload_n X dX8_given_33 rfl ?_
      refine a_iload_n X dX8_given_34 rfl ?_
      refine a_if_ne (tgt := 45) X dX8_given_35 (by decide) (fun h_35 => ?_) (fun h_35 => ?_)
      · replace h := (if_neg h_35).symm.trans h
        refine a_aload_n X dX8_given_45 rfl ?_
        refine a_geti X lf8_405 (by assumption) rfl dX8_given_46 ?_
        exact Zw.to2 (J_49 _ _ _ _ h) rfl rfl rfl
      · replace h := (if_pos h_35).symm.trans h
        refine a_aload_n X dX8_given_38 rfl ?_
        refine a_geti X lf8_402 (by assumption) rfl dX8_given_39 ?_
        refine a_goto (tgt := 49) X dX8_given_42 (by decide) ?_
        exact Zw.to2 (J_49 _ _ _ _ h) rfl rfl rfl
    · replace h := (if_neg h_20).symm.trans h
      refine a_aload_n X dX8_given_23 rfl ?_
      refine a_iconst (v := 3) X dX8_given_24 (by decide) ?_
      obtain ⟨e_25, f_25, h⟩ := zBx h
      refine a_callVv X dX8_given_25 miX8_refuse lm8_263 (t_X8_refuse (by assumption) f_25) (by assumption) rfl rfl rfl (Nat.le_of_ble_eq_true rfl) ⟨by decide, by decide, by decide, by decide⟩ ?_
      refine a_iret X hr dX8_given_28 ⟨by decide, by decide⟩ ?_
      subst hF
      rw [← Option.some.inj h]
      exact ⟨rfl, rfl⟩
  · replace h := (if_pos h_7).symm.trans h
    refine a_aload_n X dX8_given_10 rfl ?_
    refine a_iconst (v := 1) X dX8_given_11 (by decide) ?_
    obtain ⟨e_12, f_12, h⟩ := zBx h
    refine a_callVv X dX8_given_12 miX8_refuse lm8_263 (t_X8_refuse (by assumption) f_12) (by assumption) rfl rfl rfl (Nat.le_of_ble_eq_true rfl) ⟨by decide, by decide, by decide, by decide⟩ ?_
    refine a_iret X hr dX8_given_15 ⟨by decide, by decide⟩ ?_
    subst hF
    rw [← Option.some.inj h]
    exact ⟨rfl, rfl⟩
noncomputable def D_X8_ends_43 (P : Nat) (k21 : Int32 → Int32 → zMt → zNt → Option (Int32 × zMt × zNt)) (x2_43 : Int32) (y0_43 : Int32) (y1_43 : Int32) (M_43 : zMt) (N_43 : zNt) : Option (Int32 × zMt × zNt) :=
  k21 (y0_43 + y1_43) (x2_43 + 1) M_43 N_43
noncomputable def D_X8_ends_21 (P : Nat) : Nat → Int32 → Int32 → zMt → zNt → Option (Int32 × zMt × zNt)
  | 0, _, _, _, _ => none
  | n + 1, x1_21, x2_21, M_21, N_21 =>
    if (128 : Int32) ≤ x2_21 then
      zB (D_X8_gives P x1_21 M_21) fun e_53 =>
      some (e_53.1, e_53.2, N_21)
    else
      zI x2_21 128 <|
      if (M_21 (P + 29) x2_21.toNatClampNeg) = 0 then
        D_X8_ends_43 P (D_X8_ends_21 P n) x2_21 x1_21 (0 : Int32) M_21 N_21
      else
        D_X8_ends_43 P (D_X8_ends_21 P n) x2_21 x1_21 (1 : Int32) M_21 N_21
noncomputable def D_X8_ends (P : Nat) (M : zMt) (N : zNt) : Option (Int32 × zMt × zNt) :=
  zB (D_X8_areMany P M) fun e_1 =>
  if e_1.1 = 0 then
    zB (D_X8_laysAll P e_1.2 N) fun e_14 =>
    D_X8_ends_21 P zFu (0 : Int32) (0 : Int32) e_14.1 e_14.2
  else
    zB (D_X8_refuse P (3 : Int32) e_1.2) fun e_9 =>
    some (e_9.1, e_9.2, N)
set_option maxRecDepth 100000 in
set_option maxHeartbeats 4000000 in
theorem t_X8_ends {l : Launch} {G : zG} {b : Nat} {L : List zC} {M : zMt} {N : zNt} {P : Nat}  (hP : LX8 L P) {r : Int32 × zMt × zNt} (h : D_X8_ends P M N = some r) : zM l G b yX8_ends cX8_ends 3 (some .int) 14 0 0 [.ref P] (L, M, N) (fun r2 z => r2 = some (.int r.1) ∧ z = (L, r.2.1, r.2.2)) := by
  refine zM.of miX8_ends (Nat.le_of_ble_eq_true rfl) ?_
  intro p e s m args below meth c X hr hname
  generalize hF : ((fun r2 z => r2 = some (.int r.1) ∧ z = (L, r.2.1, r.2.2)) : Option Value → zS → Prop) = FQ
  change Zw p l e { frames := 14, cells := 0, slots := 0, locals := 80 * (14) } s m args below meth c G b 3 (MQ below (zQ G b FQ) args s 0 0 (fun q : Nat => b ≤ q)) 0 0 0 [some (.ref P), none, none] [] (L, M, N)
  obtain ⟨p_lt, p_o, p_s, p_read, p_aside, p_kept, p_guest, p_readGuest, p_tape, p_unitName, p_hunterName, p_partyName, p_bits, p_partyOf, p_choiceAt, p_sizes, p_guestMany, p_pointsOf, p_ticketsOf, p_ord, p_given, p_roundOf, p_tags, p_guestTags, p_places, p_sumAt, p_sumFirst, p_sumRound, p_sumBoth, p_sumTags, p_isEnd, p_newPoints, p_inRow, p_out⟩ := id hP
  have L_21 : ∀ u : Nat, ∀ (x1_21 : Int32) (x2_21 : Int32) (M_21 : zMt) (N_21 : zNt), D_X8_ends_21 P u x1_21 x2_21 M_21 N_21 = some r → Zw p l e { frames := 14, cells := 0, slots := 0, locals := 80 * (14) } s m args below meth c G b 3 (MQ below (zQ G b FQ) args s 0 0 (fun q : Nat => b ≤ q)) 0 0 21 [some (.ref (P)), some (.int x1_21), some (.int x2_21)] [] (L, M_21, N_21) := by
    intro u
    induction u with
    | zero => intro x1_21 x2_21 M_21 N_21 h; cases (show none = some r from h)
    | succ u_21 ih_21 =>
      have J_43 : ∀ (x1_43 : Int32) (x2_43 : Int32) (y0_43 : Int32) (y1_43 : Int32) (M_43 : zMt) (N_43 : zNt), (y1_43 = 0 ∨ y1_43 = 1) → D_X8_ends_43 P (D_X8_ends_21 P u_21) x2_43 y0_43 y1_43 M_43 N_43 = some r → Zw p l e { frames := 14, cells := 0, slots := 0, locals := 80 * (14) } s m args below meth c G b 3 (MQ below (zQ G b FQ) args s 0 0 (fun q : Nat => b ≤ q)) 0 0 43 [some (.ref (P)), some (.int x1_43), some (.int x2_43)] [.int y1_43, .int y0_43] (L, M_43, N_43) := by
        intro x1_43 x2_43 y0_43 y1_43 M_43 N_43 fb_y1_43 h
        unfold D_X8_ends_43 at h
        refine a_iadd X dX8_ends_43 ?_
        refine a_istore_n X dX8_ends_44 (by decide) ?_
        refine a_iinc (v := x2_43 + 1) X dX8_ends_45 (by decide) rfl zi_1 ?_
        refine a_goto (tgt := 21) X dX8_ends_48 (by decide) ?_
        exact Zw.to2 (ih_21 _ _ _ _ h) rfl rfl rfl
      intro x1_21 x2_21 M_21 N_21 h
      rw [D_X8_ends_21] at h
      refine a_iload_n X dX8_ends_21 rfl ?_
      refine a_sipush (v := 128) X dX8_ends_22 (by decide) ?_
      refine a_icmp_ge (tgt := 51) X dX8_ends_25 (by decide) (fun h_25 => ?_) (fun h_25 => ?_)
      · replace h := (if_pos h_25).symm.trans h
        refine a_aload_n X dX8_ends_51 rfl ?_
        refine a_iload_n X dX8_ends_52 rfl ?_
        obtain ⟨e_53, f_53, h⟩ := zBx h
        refine a_callVv X dX8_ends_53 miX8_gives lm8_272 (t_X8_gives (by assumption) f_53) (by assumption) rfl rfl rfl (Nat.le_of_ble_eq_true rfl) ⟨by decide, by decide, by decide, by decide⟩ ?_
        refine a_iret X hr dX8_ends_56 ⟨by decide, by decide⟩ ?_
        subst hF
        rw [← Option.some.inj h]
        exact ⟨rfl, rfl⟩
      · replace h := (if_neg h_25).symm.trans h
        refine a_iload_n X dX8_ends_28 rfl ?_
        refine a_aload_n X dX8_ends_29 rfl ?_
        refine a_getr X lf8_103 (by assumption) rfl (by omega) dX8_ends_30 ?_
        refine a_iload_n X dX8_ends_33 rfl ?_
        obtain ⟨g_34, h⟩ := zIx h
        refine a_baload X (by assumption) g_34 dX8_ends_34 ?_
        refine a_if_eq (tgt := 42) X dX8_ends_35 (by decide) (fun h_35 => ?_) (fun h_35 => ?_)
        · replace h := (if_pos h_35).symm.trans h
          refine a_iconst (v := 0) X dX8_ends_42 (by decide) ?_
          exact Zw.to2 (J_43 _ _ _ _ _ _ (by first | exact Or.inl rfl | exact Or.inr rfl | assumption) h) rfl rfl rfl
        · replace h := (if_neg h_35).symm.trans h
          refine a_iconst (v := 1) X dX8_ends_38 (by decide) ?_
          refine a_goto (tgt := 43) X dX8_ends_39 (by decide) ?_
          exact Zw.to2 (J_43 _ _ _ _ _ _ (by first | exact Or.inl rfl | exact Or.inr rfl | assumption) h) rfl rfl rfl
  have H_21 : ∀ (x1_21 : Int32) (x2_21 : Int32) (M_21 : zMt) (N_21 : zNt), D_X8_ends_21 P zFu x1_21 x2_21 M_21 N_21 = some r → Zw p l e { frames := 14, cells := 0, slots := 0, locals := 80 * (14) } s m args below meth c G b 3 (MQ below (zQ G b FQ) args s 0 0 (fun q : Nat => b ≤ q)) 0 0 21 [some (.ref (P)), some (.int x1_21), some (.int x2_21)] [] (L, M_21, N_21) := L_21 zFu
  unfold D_X8_ends at h
  refine a_aload_n X dX8_ends_0 rfl ?_
  obtain ⟨e_1, f_1, h⟩ := zBx h
  refine a_callVx X dX8_ends_1 miX8_areMany lm8_429 (t_X8_areMany (by assumption) f_1) (by assumption) rfl rfl rfl (Nat.le_of_ble_eq_true rfl) ⟨by decide, by decide, by decide, by decide⟩ (fun r_1 S_1 q_1 => ?_)
  obtain ⟨rfl, rfl, b_1⟩ := q_1
  refine a_if_eq (tgt := 13) X dX8_ends_4 (by decide) (fun h_4 => ?_) (fun h_4 => ?_)
  · replace h := (if_pos h_4).symm.trans h
    refine a_aload_n X dX8_ends_13 rfl ?_
    obtain ⟨e_14, f_14, h⟩ := zBx h
    refine a_callVu X dX8_ends_14 miX8_laysAll lm8_432 (t_X8_laysAll (by assumption) f_14) (by assumption) rfl rfl rfl (Nat.le_of_ble_eq_true rfl) ⟨by decide, by decide, by decide, by decide⟩ ?_
    refine a_iconst (v := 0) X dX8_ends_17 (by decide) ?_
    refine a_istore_n X dX8_ends_18 (by decide) ?_
    refine a_iconst (v := 0) X dX8_ends_19 (by decide) ?_
    refine a_istore_n X dX8_ends_20 (by decide) ?_
    exact Zw.to2 (H_21 _ _ _ _ h) rfl rfl rfl
  · replace h := (if_neg h_4).symm.trans h
    refine a_aload_n X dX8_ends_7 rfl ?_
    refine a_iconst (v := 3) X dX8_ends_8 (by decide) ?_
    obtain ⟨e_9, f_9, h⟩ := zBx h
    refine a_callVv X dX8_ends_9 miX8_refuse lm8_263 (t_X8_refuse (by assumption) f_9) (by assumption) rfl rfl rfl (Nat.le_of_ble_eq_true rfl) ⟨by decide, by decide, by decide, by decide⟩ ?_
    refine a_iret X hr dX8_ends_12 ⟨by decide, by decide⟩ ?_
    subst hF
    rw [← Option.some.inj h]
    exact ⟨rfl, rfl⟩
noncomputable def D_X8_putsAside_2 (P : Nat) : Nat → Int32 → zMt → Option (zMt)
  | 0, _, _ => none
  | n + 1, x1_2, M_2 =>
    if (82 : Int32) ≤ x1_2 then
      some (M_2)
    else
      zI x1_2 82 <|
      zI x1_2 82 <|
      zLt (zu M_2 (P + 3) x1_2.toNatClampNeg (M_2 (P + 1) x1_2.toNatClampNeg)) fun M_19 =>
      (D_X8_putsAside_2 P n) (x1_2 + 1) M_19
noncomputable def D_X8_putsAside (P : Nat) (M : zMt) : Option (zMt) :=
  D_X8_putsAside_2 P zFu (0 : Int32) M
set_option maxRecDepth 100000 in
set_option maxHeartbeats 4000000 in
theorem t_X8_putsAside {l : Launch} {G : zG} {b : Nat} {L : List zC} {M : zMt} {N : zNt} {P : Nat}  (hP : LX8 L P) {r : zMt} (h : D_X8_putsAside P M = some r) : zM l G b yX8_putsAside cX8_putsAside 2 none 0 0 0 [.ref P] (L, M, N) (fun r2 z => r2 = none ∧ z = (L, r, N)) := by
  refine zM.of miX8_putsAside (Nat.le_of_ble_eq_true rfl) ?_
  intro p e s m args below meth c X hr hname
  generalize hF : ((fun r2 z => r2 = none ∧ z = (L, r, N)) : Option Value → zS → Prop) = FQ
  change Zw p l e { frames := 0, cells := 0, slots := 0, locals := 80 * (0) } s m args below meth c G b 2 (MQ below (zQ G b FQ) args s 0 0 (fun q : Nat => b ≤ q)) 0 0 0 [some (.ref P), none] [] (L, M, N)
  obtain ⟨p_lt, p_o, p_s, p_read, p_aside, p_kept, p_guest, p_readGuest, p_tape, p_unitName, p_hunterName, p_partyName, p_bits, p_partyOf, p_choiceAt, p_sizes, p_guestMany, p_pointsOf, p_ticketsOf, p_ord, p_given, p_roundOf, p_tags, p_guestTags, p_places, p_sumAt, p_sumFirst, p_sumRound, p_sumBoth, p_sumTags, p_isEnd, p_newPoints, p_inRow, p_out⟩ := id hP
  have L_2 : ∀ u : Nat, ∀ (x1_2 : Int32) (M_2 : zMt), D_X8_putsAside_2 P u x1_2 M_2 = some r → Zw p l e { frames := 0, cells := 0, slots := 0, locals := 80 * (0) } s m args below meth c G b 2 (MQ below (zQ G b FQ) args s 0 0 (fun q : Nat => b ≤ q)) 0 0 2 [some (.ref (P)), some (.int x1_2)] [] (L, M_2, N) := by
    intro u
    induction u with
    | zero => intro x1_2 M_2 h; cases (show none = some r from h)
    | succ u_2 ih_2 =>
      intro x1_2 M_2 h
      rw [D_X8_putsAside_2] at h
      refine a_iload_n X dX8_putsAside_2 rfl ?_
      refine a_bipush (v := 82) X dX8_putsAside_3 (by decide) ?_
      refine a_icmp_ge (tgt := 26) X dX8_putsAside_5 (by decide) (fun h_5 => ?_) (fun h_5 => ?_)
      · replace h := (if_pos h_5).symm.trans h
        refine a_vret X hr dX8_putsAside_26 ⟨by decide, by decide⟩ ?_
        subst hF
        rw [← Option.some.inj h]
        exact ⟨rfl, rfl⟩
      · replace h := (if_neg h_5).symm.trans h
        refine a_aload_n X dX8_putsAside_8 rfl ?_
        refine a_getr X lf8_16 (by assumption) rfl (by omega) dX8_putsAside_9 ?_
        refine a_iload_n X dX8_putsAside_12 rfl ?_
        refine a_aload_n X dX8_putsAside_13 rfl ?_
        refine a_getr X lf8_7 (by assumption) rfl (by omega) dX8_putsAside_14 ?_
        refine a_iload_n X dX8_putsAside_17 rfl ?_
        obtain ⟨g_18, h⟩ := zIx h
        refine a_iaload X (by assumption) g_18 dX8_putsAside_18 ?_
        obtain ⟨g_19, h⟩ := zIx h
        obtain ⟨M_19, f_19, h⟩ := zLtx h
        refine d_iastore X (by assumption) g_19 dX8_putsAside_19 f_19 ?_
        refine a_iinc (v := x1_2 + 1) X dX8_putsAside_20 (by decide) rfl zi_1 ?_
        refine a_goto (tgt := 2) X dX8_putsAside_23 (by decide) ?_
        exact Zw.to2 (ih_2 _ _ h) rfl rfl rfl
  have H_2 : ∀ (x1_2 : Int32) (M_2 : zMt), D_X8_putsAside_2 P zFu x1_2 M_2 = some r → Zw p l e { frames := 0, cells := 0, slots := 0, locals := 80 * (0) } s m args below meth c G b 2 (MQ below (zQ G b FQ) args s 0 0 (fun q : Nat => b ≤ q)) 0 0 2 [some (.ref (P)), some (.int x1_2)] [] (L, M_2, N) := L_2 zFu
  unfold D_X8_putsAside at h
  refine a_iconst (v := 0) X dX8_putsAside_0 (by decide) ?_
  refine a_istore_n X dX8_putsAside_1 (by decide) ?_
  exact Zw.to2 (H_2 _ _ h) rfl rfl rfl
