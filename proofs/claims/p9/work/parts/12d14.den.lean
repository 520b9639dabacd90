noncomputable def D_X8_fault_29 (P : Nat) (y0_29 : Int32) (M_29 : zMt) : Option (Int32 × zMt) :=
  some (y0_29, M_29)
noncomputable def D_X8_fault (P : Nat) (v0 : Int32) (M : zMt) : Option (Int32 × zMt) :=
  zLt (zu M P 6 (0 : Int32)) fun M_2 =>
  if v0 = 0 then
    D_X8_fault_29 P (M_2 P 13) M_2
  else
    if v0 = (1 : Int32) then
      D_X8_fault_29 P (M_2 P 14) M_2
    else
      D_X8_fault_29 P (-1 : Int32) M_2
set_option maxRecDepth 100000 in
set_option maxHeartbeats 4000000 in
theorem t_X8_fault {l : Launch} {G : zG} {b : Nat} {L : List zC} {M : zMt} {N : zNt} {P : Nat} {v0 : Int32} (hP : LX8 L P) {r : Int32 × zMt} (h : D_X8_fault P v0 M = some r) : zM l G b yX8_fault cX8_fault 2 (some .int) 0 0 0 [.ref P, .int v0] (L, M, N) (fun r2 z => r2 = some (.int r.1) ∧ z = (L, r.2, N)) := by
  refine zM.of miX8_fault (Nat.le_of_ble_eq_true rfl) ?_
  intro p e s m args below meth c X hr hname
  generalize hF : ((fun r2 z => r2 = some (.int r.1) ∧ z = (L, r.2, N)) : Option Value → zS → Prop) = FQ
  change Zw p l e { frames := 0, cells := 0, slots := 0, locals := 80 * (0) } s m args below meth c G b 2 (MQ below (zQ G b FQ) args s 0 0 (fun q : Nat => b ≤ q)) 0 0 0 [some (.ref P), some (.int v0)] [] (L, M, N)
  obtain ⟨p_lt, p_o, p_s, p_read, p_aside, p_kept, p_guest, p_readGuest, p_tape, p_unitName, p_hunterName, p_partyName, p_bits, p_partyOf, p_choiceAt, p_sizes, p_guestMany, p_pointsOf, p_ticketsOf, p_ord, p_given, p_roundOf, p_tags, p_guestTags, p_places, p_sumAt, p_sumFirst, p_sumRound, p_sumBoth, p_sumTags, p_isEnd, p_newPoints, p_inRow, p_out⟩ := id hP
  have J_29 : ∀ (x1_29 : Int32) (y0_29 : Int32) (M_29 : zMt), D_X8_fault_29 P y0_29 M_29 = some r → Zw p l e { frames := 0, cells := 0, slots := 0, locals := 80 * (0) } s m args below meth c G b 2 (MQ below (zQ G b FQ) args s 0 0 (fun q : Nat => b ≤ q)) 0 0 29 [some (.ref (P)), some (.int x1_29)] [.int y0_29] (L, M_29, N) := by
    intro x1_29 y0_29 M_29 h
    unfold D_X8_fault_29 at h
    refine a_iret X hr dX8_fault_29 ⟨by decide, by decide⟩ ?_
    subst hF
    rw [← Option.some.inj h]
    exact ⟨rfl, rfl⟩
  unfold D_X8_fault at h
  refine a_aload_n X dX8_fault_0 rfl ?_
  refine a_iconst (v := 0) X dX8_fault_1 (by decide) ?_
  obtain ⟨M_2, f_2, h⟩ := zLtx h
  refine d_puti X lf8_119 (by assumption) rfl dX8_fault_2 f_2 ?_
  refine a_iload_n X dX8_fault_5 rfl ?_
  refine a_if_ne (tgt := 16) X dX8_fault_6 (by decide) (fun h_6 => ?_) (fun h_6 => ?_)
  · replace h := (if_neg h_6).symm.trans h
    refine a_iload_n X dX8_fault_16 rfl ?_
    refine a_iconst (v := 1) X dX8_fault_17 (by decide) ?_
    refine a_icmp_ne (tgt := 28) X dX8_fault_18 (by decide) (fun h_18 => ?_) (fun h_18 => ?_)
    · replace h := (if_neg h_18).symm.trans h
      refine a_iconst (v := -1) X dX8_fault_28 (by decide) ?_
      exact Zw.to2 (J_29 _ _ _ h) rfl rfl rfl
    · replace h := (if_pos h_18).symm.trans h
      refine a_aload_n X dX8_fault_21 rfl ?_
      refine a_geti X lf8_36 (by assumption) rfl dX8_fault_22 ?_
      refine a_goto (tgt := 29) X dX8_fault_25 (by decide) ?_
      exact Zw.to2 (J_29 _ _ _ h) rfl rfl rfl
  · replace h := (if_pos h_6).symm.trans h
    refine a_aload_n X dX8_fault_9 rfl ?_
    refine a_geti X lf8_32 (by assumption) rfl dX8_fault_10 ?_
    refine a_goto (tgt := 29) X dX8_fault_13 (by decide) ?_
    exact Zw.to2 (J_29 _ _ _ h) rfl rfl rfl
noncomputable def D_X8_laysOne_162 (P : Nat) (y1_162 : Int32) (y2_162 : Int32) (M_162 : zMt) : Option (zMt) :=
  zI y1_162 10 <|
  zLt (zu M_162 (P + 17) y1_162.toNatClampNeg y2_162) fun M_162 =>
  some (M_162)
noncomputable def D_X8_laysOne_86 (P : Nat) (k18 : Int32 → Int32 → Int32 → zMt → Option (zMt)) (x1_86 : Int32) (x2_86 : Int32) (x3_86 : Int32) (M_86 : zMt) : Option (zMt) :=
  k18 x1_86 x2_86 (x3_86 + 1) M_86
noncomputable def D_X8_laysOne_73 (P : Nat) (k18 : Int32 → Int32 → Int32 → zMt → Option (zMt)) (x1_73 : Int32) (x2_73 : Int32) (x3_73 : Int32) (y1_73 : Int32) (y2_73 : Int32) (y3_73 : Int32) (M_73 : zMt) : Option (zMt) :=
  zI y1_73 10 <|
  zLt (zu M_73 (P + 15) y1_73.toNatClampNeg (y2_73 + y3_73)) fun M_74 =>
  zI ((0 : Int32) + x3_73) 82 <|
  D_X8_laysOne_86 P k18 x1_73 (x2_73 + (M_74 (P + 1) ((0 : Int32) + x3_73).toNatClampNeg)) x3_73 M_74
noncomputable def D_X8_laysOne_18 (P : Nat) : Nat → Int32 → Int32 → Int32 → zMt → Option (zMt)
  | 0, _, _, _, _ => none
  | n + 1, x1_18, x2_18, x3_18, M_18 =>
    if (M_18 P 8) ≤ x3_18 then
      zI x1_18 10 <|
      zZ (M_18 (P + 14) x1_18.toNatClampNeg) <|
      zI x1_18 10 <|
      zLt (zu M_18 (P + 16) x1_18.toNatClampNeg (x2_18 / (M_18 (P + 14) x1_18.toNatClampNeg))) fun M_105 =>
      zI (67 : Int32) 82 <|
      if (M_105 (P + 1) (67 : Int32).toNatClampNeg) = 0 then
        D_X8_laysOne_162 P x1_18 (1 : Int32) M_105
      else
        zI (67 : Int32) 82 <|
        if (M_105 (P + 1) (67 : Int32).toNatClampNeg) = (1 : Int32) then
          zI x1_18 10 <|
          D_X8_laysOne_162 P x1_18 ((1 : Int32) + (M_105 (P + 16) x1_18.toNatClampNeg)) M_105
        else
          zI x1_18 10 <|
          zI x1_18 10 <|
          D_X8_laysOne_162 P x1_18 ((1 : Int32) + ((M_105 (P + 16) x1_18.toNatClampNeg) * (M_105 (P + 16) x1_18.toNatClampNeg))) M_105
    else
      zI x1_18 10 <|
      zB (D_X8_has (M_18 (P + 11) x1_18.toNatClampNeg) x3_18) fun e_33 =>
      if e_33 = 0 then
        D_X8_laysOne_86 P (D_X8_laysOne_18 P n) x1_18 x2_18 x3_18 M_18
      else
        zI x1_18 10 <|
        zI x1_18 10 <|
        zLt (zu M_18 (P + 14) x1_18.toNatClampNeg ((M_18 (P + 14) x1_18.toNatClampNeg) + (1 : Int32))) fun M_51 =>
        zI x1_18 10 <|
        zI x3_18 10 <|
        if (M_51 (P + 5) x3_18.toNatClampNeg) = 0 then
          D_X8_laysOne_73 P (D_X8_laysOne_18 P n) x1_18 x2_18 x3_18 x1_18 (M_51 (P + 15) x1_18.toNatClampNeg) (0 : Int32) M_51
        else
          D_X8_laysOne_73 P (D_X8_laysOne_18 P n) x1_18 x2_18 x3_18 x1_18 (M_51 (P + 15) x1_18.toNatClampNeg) (1 : Int32) M_51
noncomputable def D_X8_laysOne (P : Nat) (v0 : Int32) (M : zMt) : Option (zMt) :=
  zI v0 10 <|
  zLt (zu M (P + 14) v0.toNatClampNeg (0 : Int32)) fun M_6 =>
  zI v0 10 <|
  zLt (zu M_6 (P + 15) v0.toNatClampNeg (0 : Int32)) fun M_13 =>
  D_X8_laysOne_18 P zFu v0 (0 : Int32) (0 : Int32) M_13
set_option maxRecDepth 100000 in
set_option maxHeartbeats 4000000 in
theorem t_X8_laysOne {l : Launch} {G : zG} {b : Nat} {L : List zC} {M : zMt} {N : zNt} {P : Nat} {v0 : Int32} (hP : LX8 L P) {r : zMt} (h : D_X8_laysOne P v0 M = some r) : zM l G b yX8_laysOne cX8_laysOne 4 none 1 0 0 [.ref P, .int v0] (L, M, N) (fun r2 z => r2 = none ∧ z = (L, r, N)) := by
  refine zM.of miX8_laysOne (Nat.le_of_ble_eq_true rfl) ?_
  intro p e s m args below meth c X hr hname
  generalize hF : ((fun r2 z => r2 = none ∧ z = (L, r, N)) : Option Value → zS → Prop) = FQ
  change Zw p l e { frames := 1, cells := 0, slots := 0, locals := 80 * (1) } s m args below meth c G b 4 (MQ below (zQ G b FQ) args s 0 0 (fun q : Nat => b ≤ q)) 0 0 0 [some (.ref P), some (.int v0), none, none] [] (L, M, N)
  obtain ⟨p_lt, p_o, p_s, p_read, p_aside, p_kept, p_guest, p_readGuest, p_tape, p_unitName, p_hunterName, p_partyName, p_bits, p_partyOf, p_choiceAt, p_sizes, p_guestMany, p_pointsOf, p_ticketsOf, p_ord, p_given, p_roundOf, p_tags, p_guestTags, p_places, p_sumAt, p_sumFirst, p_sumRound, p_sumBoth, p_sumTags, p_isEnd, p_newPoints, p_inRow, p_out⟩ := id hP
  have J_162 : ∀ (x1_162 : Int32) (x2_162 : Int32) (x3_162 : Int32) (y1_162 : Int32) (y2_162 : Int32) (M_162 : zMt), D_X8_laysOne_162 P y1_162 y2_162 M_162 = some r → Zw p l e { frames := 1, cells := 0, slots := 0, locals := 80 * (1) } s m args below meth c G b 4 (MQ below (zQ G b FQ) args s 0 0 (fun q : Nat => b ≤ q)) 0 0 162 [some (.ref (P)), some (.int x1_162), some (.int x2_162), some (.int x3_162)] [.int y2_162, .int y1_162, .ref (P + 17)] (L, M_162, N) := by
    intro x1_162 x2_162 x3_162 y1_162 y2_162 M_162 h
    unfold D_X8_laysOne_162 at h
    obtain ⟨g_162, h⟩ := zIx h
    obtain ⟨M_162, f_162, h⟩ := zLtx h
    refine d_iastore X (by assumption) g_162 dX8_laysOne_162 f_162 ?_
    refine a_vret X hr dX8_laysOne_163 ⟨by decide, by decide⟩ ?_
    subst hF
    rw [← Option.some.inj h]
    exact ⟨rfl, rfl⟩
  have L_18 : ∀ u : Nat, ∀ (x1_18 : Int32) (x2_18 : Int32) (x3_18 : Int32) (M_18 : zMt), D_X8_laysOne_18 P u x1_18 x2_18 x3_18 M_18 = some r → Zw p l e { frames := 1, cells := 0, slots := 0, locals := 80 * (1) } s m args below meth c G b 4 (MQ below (zQ G b FQ) args s 0 0 (fun q : Nat => b ≤ q)) 0 0 18 [some (.ref (P)), some (.int x1_18), some (.int x2_18), some (.int x3_18)] [] (L, M_18, N) := by
    intro u
    induction u with
    | zero => intro x1_18 x2_18 x3_18 M_18 h; cases (show none = some r from h)
    | succ u_18 ih_18 =>
      have J_86 : ∀ (x1_86 : Int32) (x2_86 : Int32) (x3_86 : Int32) (M_86 : zMt), D_X8_laysOne_86 P (D_X8_laysOne_18 P u_18) x1_86 x2_86 x3_86 M_86 = some r → Zw p l e { frames := 1, cells := 0, slots := 0, locals := 80 * (1) } s m args below meth c G b 4 (MQ below (zQ G b FQ) args s 0 0 (fun q : Nat => b ≤ q)) 0 0 86 [some (.ref (P)), some (.int x1_86), some (.int x2_86), some (.int x3_86)] [] (L, M_86, N) := by
        intro x1_86 x2_86 x3_86 M_86 h
        unfold D_X8_laysOne_86 at h
        refine a_iinc (v := x3_86 + 1) X dX8_laysOne_86 (by decide) rfl zi_1 ?_
        refine a_goto (tgt := 18) X dX8_laysOne_89 (by decide) ?_
        exact Zw.to2 (ih_18 _ _ _ _ h) rfl rfl rfl
      have J_73 : ∀ (x1_73 : Int32) (x2_73 : Int32) (x3_73 : Int32) (y1_73 : Int32) (y2_73 : Int32) (y3_73 : Int32) (M_73 : zMt), (y3_73 = 0 ∨ y3_73 = 1) → D_X8_laysOne_73 P (D_X8_laysOne_18 P u_18) x1_73 x2_73 x3_73 y1_73 y2_73 y3_73 M_73 = some r → Zw p l e { frames := 1, cells := 0, slots := 0, locals := 80 * (1) } s m args below meth c G b 4 (MQ below (zQ G b FQ) args s 0 0 (fun q : Nat => b ≤ q)) 0 0 73 [some (.ref (P)), some (.int x1_73), some (.int x2_73), some (.int x3_73)] [.int y3_73, .int y2_73, .int y1_73, .ref (P + 15)] (L, M_73, N) := by
        intro x1_73 x2_73 x3_73 y1_73 y2_73 y3_73 M_73 fb_y3_73 h
        unfold D_X8_laysOne_73 at h
        refine a_iadd X dX8_laysOne_73 ?_
        obtain ⟨g_74, h⟩ := zIx h
        obtain ⟨M_74, f_74, h⟩ := zLtx h
        refine d_iastore X (by assumption) g_74 dX8_laysOne_74 f_74 ?_
        refine a_iload_n X dX8_laysOne_75 rfl ?_
        refine a_aload_n X dX8_laysOne_76 rfl ?_
        refine a_getr X lf8_7 (by assumption) rfl (by omega) dX8_laysOne_77 ?_
        refine a_iconst (v := 0) X dX8_laysOne_80 (by decide) ?_
        refine a_iload_n X dX8_laysOne_81 rfl ?_
        refine a_iadd X dX8_laysOne_82 ?_
        obtain ⟨g_83, h⟩ := zIx h
        refine a_iaload X (by assumption) g_83 dX8_laysOne_83 ?_
        refine a_iadd X dX8_laysOne_84 ?_
        refine a_istore_n X dX8_laysOne_85 (by decide) ?_
        exact Zw.to2 (J_86 _ _ _ _ h) rfl rfl rfl
      intro x1_18 x2_18 x3_18 M_18 h
      rw [D_X8_laysOne_18] at h
      refine a_iload_n X dX8_laysOne_18 rfl ?_
      refine a_aload_n X dX8_laysOne_19 rfl ?_
      refine a_geti X lf8_132 (by assumption) rfl dX8_laysOne_20 ?_
      refine a_icmp_ge (tgt := 92) X dX8_laysOne_23 (by decide) (fun h_23 => ?_) (fun h_23 => ?_)
      · replace h := (if_pos h_23).symm.trans h
        refine a_aload_n X dX8_laysOne_92 rfl ?_
        refine a_getr X lf8_64 (by assumption) rfl (by omega) dX8_laysOne_93 ?_
        refine a_iload_n X dX8_laysOne_96 rfl ?_
        refine a_iload_n X dX8_laysOne_97 rfl ?_
        refine a_aload_n X dX8_laysOne_98 rfl ?_
        refine a_getr X lf8_58 (by assumption) rfl (by omega) dX8_laysOne_99 ?_
        refine a_iload_n X dX8_laysOne_102 rfl ?_
        obtain ⟨g_103, h⟩ := zIx h
        refine a_iaload X (by assumption) g_103 dX8_laysOne_103 ?_
        obtain ⟨z_104, h⟩ := zZx h
        refine a_idiv X dX8_laysOne_104 (z_104) ?_
        obtain ⟨g_105, h⟩ := zIx h
        obtain ⟨M_105, f_105, h⟩ := zLtx h
        refine d_iastore X (by assumption) g_105 dX8_laysOne_105 f_105 ?_
        refine a_aload_n X dX8_laysOne_106 rfl ?_
        refine a_getr X lf8_67 (by assumption) rfl (by omega) dX8_laysOne_107 ?_
        refine a_iload_n X dX8_laysOne_110 rfl ?_
        refine a_aload_n X dX8_laysOne_111 rfl ?_
        refine a_getr X lf8_7 (by assumption) rfl (by omega) dX8_laysOne_112 ?_
        refine a_bipush (v := 67) X dX8_laysOne_115 (by decide) ?_
        obtain ⟨g_117, h⟩ := zIx h
        refine a_iaload X (by assumption) g_117 dX8_laysOne_117 ?_
        refine a_if_ne (tgt := 125) X dX8_laysOne_118 (by decide) (fun h_118 => ?_) (fun h_118 => ?_)
        · replace h := (if_neg h_118).symm.trans h
          refine a_aload_n X dX8_laysOne_125 rfl ?_
          refine a_getr X lf8_7 (by assumption) rfl (by omega) dX8_laysOne_126 ?_
          refine a_bipush (v := 67) X dX8_laysOne_129 (by decide) ?_
          obtain ⟨g_131, h⟩ := zIx h
          refine a_iaload X (by assumption) g_131 dX8_laysOne_131 ?_
          refine a_iconst (v := 1) X dX8_laysOne_132 (by decide) ?_
          refine a_icmp_ne (tgt := 147) X dX8_laysOne_133 (by decide) (fun h_133 => ?_) (fun h_133 => ?_)
          · replace h := (if_neg h_133).symm.trans h
            refine a_iconst (v := 1) X dX8_laysOne_147 (by decide) ?_
            refine a_aload_n X dX8_laysOne_148 rfl ?_
            refine a_getr X lf8_64 (by assumption) rfl (by omega) dX8_laysOne_149 ?_
            refine a_iload_n X dX8_laysOne_152 rfl ?_
            obtain ⟨g_153, h⟩ := zIx h
            refine a_iaload X (by assumption) g_153 dX8_laysOne_153 ?_
            refine a_aload_n X dX8_laysOne_154 rfl ?_
            refine a_getr X lf8_64 (by assumption) rfl (by omega) dX8_laysOne_155 ?_
            refine a_iload_n X dX8_laysOne_158 rfl ?_
            obtain ⟨g_159, h⟩ := zIx h
            refine a_iaload X (by assumption) g_159 dX8_laysOne_159 ?_
            refine a_imul X dX8_laysOne_160 ?_
            refine a_iadd X dX8_laysOne_161 ?_
            exact Zw.to2 (J_162 _ _ _ _ _ _ h) rfl rfl rfl
          · replace h := (if_pos h_133).symm.trans h
            refine a_iconst (v := 1) X dX8_laysOne_136 (by decide) ?_
            refine a_aload_n X dX8_laysOne_137 rfl ?_
            refine a_getr X lf8_64 (by assumption) rfl (by omega) dX8_laysOne_138 ?_
            refine a_iload_n X dX8_laysOne_141 rfl ?_
            obtain ⟨g_142, h⟩ := zIx h
            refine a_iaload X (by assumption) g_142 dX8_laysOne_142 ?_
            refine a_iadd X dX8_laysOne_143 ?_
            refine a_goto (tgt := 162) X dX8_laysOne_144 (by decide) ?_
            exact Zw.to2 (J_162 _ _ _ _ _ _ h) rfl rfl rfl
        · replace h := (if_pos h_118).symm.trans h
          refine a_iconst (v := 1) X dX8_laysOne_121 (by decide) ?_
          refine a_goto (tgt := 162) X dX8_laysOne_122 (by decide) ?_
          exact Zw.to2 (J_162 _ _ _ _ _ _ h) rfl rfl rfl
      · replace h := (if_neg h_23).symm.trans h
        refine a_aload_n X dX8_laysOne_26 rfl ?_
        refine a_getr X lf8_49 (by assumption) rfl (by omega) dX8_laysOne_27 ?_
        refine a_iload_n X dX8_laysOne_30 rfl ?_
        obtain ⟨g_31, h⟩ := zIx h
        refine a_iaload X (by assumption) g_31 dX8_laysOne_31 ?_
        refine a_iload_n X dX8_laysOne_32 rfl ?_
        obtain ⟨e_33, f_33, h⟩ := zBx h
        refine a_callSx X dX8_laysOne_33 miX8_has lm8_240 (t_X8_has f_33) rfl rfl (Nat.le_of_ble_eq_true rfl) ⟨by decide, by decide, by decide, by decide⟩ (fun r_33 S_33 q_33 => ?_)
        obtain ⟨rfl, rfl, b_33⟩ := q_33
        refine a_if_ne (tgt := 42) X dX8_laysOne_36 (by decide) (fun h_36 => ?_) (fun h_36 => ?_)
        · replace h := (if_neg h_36).symm.trans h
          refine a_aload_n X dX8_laysOne_42 rfl ?_
          refine a_getr X lf8_58 (by assumption) rfl (by omega) dX8_laysOne_43 ?_
          refine a_iload_n X dX8_laysOne_46 rfl ?_
          refine a_dup2 X dX8_laysOne_47 rfl rfl ?_
          obtain ⟨g_48, h⟩ := zIx h
          refine a_iaload X (by assumption) g_48 dX8_laysOne_48 ?_
          refine a_iconst (v := 1) X dX8_laysOne_49 (by decide) ?_
          refine a_iadd X dX8_laysOne_50 ?_
          obtain ⟨g_51, h⟩ := zIx h
          obtain ⟨M_51, f_51, h⟩ := zLtx h
          refine d_iastore X (by assumption) g_51 dX8_laysOne_51 f_51 ?_
          refine a_aload_n X dX8_laysOne_52 rfl ?_
          refine a_getr X lf8_61 (by assumption) rfl (by omega) dX8_laysOne_53 ?_
          refine a_iload_n X dX8_laysOne_56 rfl ?_
          refine a_dup2 X dX8_laysOne_57 rfl rfl ?_
          obtain ⟨g_58, h⟩ := zIx h
          refine a_iaload X (by assumption) g_58 dX8_laysOne_58 ?_
          refine a_aload_n X dX8_laysOne_59 rfl ?_
          refine a_getr X lf8_22 (by assumption) rfl (by omega) dX8_laysOne_60 ?_
          refine a_iload_n X dX8_laysOne_63 rfl ?_
          obtain ⟨g_64, h⟩ := zIx h
          refine a_baload X (by assumption) g_64 dX8_laysOne_64 ?_
          refine a_if_eq (tgt := 72) X dX8_laysOne_65 (by decide) (fun h_65 => ?_) (fun h_65 => ?_)
          · replace h := (if_pos h_65).symm.trans h
            refine a_iconst (v := 0) X dX8_laysOne_72 (by decide) ?_
            exact Zw.to2 (J_73 _ _ _ _ _ _ _ (by first | exact Or.inl rfl | exact Or.inr rfl | assumption) h) rfl rfl rfl
          · replace h := (if_neg h_65).symm.trans h
            refine a_iconst (v := 1) X dX8_laysOne_68 (by decide) ?_
            refine a_goto (tgt := 73) X dX8_laysOne_69 (by decide) ?_
            exact Zw.to2 (J_73 _ _ _ _ _ _ _ (by first | exact Or.inl rfl | exact Or.inr rfl | assumption) h) rfl rfl rfl
        · replace h := (if_pos h_36).symm.trans h
          refine a_goto (tgt := 86) X dX8_laysOne_39 (by decide) ?_
          exact Zw.to2 (J_86 _ _ _ _ h) rfl rfl rfl
  have H_18 : ∀ (x1_18 : Int32) (x2_18 : Int32) (x3_18 : Int32) (M_18 : zMt), D_X8_laysOne_18 P zFu x1_18 x2_18 x3_18 M_18 = some r → Zw p l e { frames := 1, cells := 0, slots := 0, locals := 80 * (1) } s m args below meth c G b 4 (MQ below (zQ G b FQ) args s 0 0 (fun q : Nat => b ≤ q)) 0 0 18 [some (.ref (P)), some (.int x1_18), some (.int x2_18), some (.int x3_18)] [] (L, M_18, N) := L_18 zFu
  unfold D_X8_laysOne at h
  refine a_aload_n X dX8_laysOne_0 rfl ?_
  refine a_getr X lf8_58 (by assumption) rfl (by omega) dX8_laysOne_1 ?_
  refine a_iload_n X dX8_laysOne_4 rfl ?_
  refine a_iconst (v := 0) X dX8_laysOne_5 (by decide) ?_
  obtain ⟨g_6, h⟩ := zIx h
  obtain ⟨M_6, f_6, h⟩ := zLtx h
  refine d_iastore X (by assumption) g_6 dX8_laysOne_6 f_6 ?_
  refine a_aload_n X dX8_laysOne_7 rfl ?_
  refine a_getr X lf8_61 (by assumption) rfl (by omega) dX8_laysOne_8 ?_
  refine a_iload_n X dX8_laysOne_11 rfl ?_
  refine a_iconst (v := 0) X dX8_laysOne_12 (by decide) ?_
  obtain ⟨g_13, h⟩ := zIx h
  obtain ⟨M_13, f_13, h⟩ := zLtx h
  refine d_iastore X (by assumption) g_13 dX8_laysOne_13 f_13 ?_
  refine a_iconst (v := 0) X dX8_laysOne_14 (by decide) ?_
  refine a_istore_n X dX8_laysOne_15 (by decide) ?_
  refine a_iconst (v := 0) X dX8_laysOne_16 (by decide) ?_
  refine a_istore_n X dX8_laysOne_17 (by decide) ?_
  exact Zw.to2 (H_18 _ _ _ _ h) rfl rfl rfl
noncomputable def D_X8_laysApplicants_198 (P : Nat) : Nat → Int32 → zMt → Option (zMt)
  | 0, _, _ => none
  | n + 1, x1_198, M_198 =>
    if (M_198 P 33) ≤ x1_198 then
      some (M_198)
    else
      zB (D_X8_laysOne P x1_198 M_198) fun e_208 =>
      (D_X8_laysApplicants_198 P n) (x1_198 + 1) e_208
noncomputable def D_X8_laysApplicants_147 (P : Nat) (k86 : Int32 → zMt → Option (zMt)) (k109 : Int32 → Int32 → zMt → Option (zMt)) (x1_147 : Int32) (x2_147 : Int32) (y1_147 : Int32) (y2_147 : Int32) (y3_147 : Int32) (M_147 : zMt) : Option (zMt) :=
  zI y1_147 10 <|
  zLt (zu M_147 (P + 11) y1_147.toNatClampNeg (y2_147 ||| y3_147)) fun M_148 =>
  k109 x1_147 (x2_147 + 1) M_148
noncomputable def D_X8_laysApplicants_109 (P : Nat) (k86 : Int32 → zMt → Option (zMt)) : Nat → Int32 → Int32 → zMt → Option (zMt)
  | 0, _, _, _ => none
  | n + 1, x1_109, x2_109, M_109 =>
    if (M_109 P 8) ≤ x2_109 then
      zI (M_109 P 33) 10 <|
      zLt (zu M_109 (P + 12) (M_109 P 33).toNatClampNeg x1_109) fun M_164 =>
      zI (M_164 P 33) 10 <|
      zLt (zu M_164 (P + 13) (M_164 P 33).toNatClampNeg ((50 : Int32) + ((3 : Int32) * x1_109))) fun M_179 =>
      zLt (zu M_179 P 33 ((M_179 P 33) + (1 : Int32))) fun M_187 =>
      k86 (x1_109 + 1) M_187
    else
      zI (M_109 P 33) 10 <|
      zI ((10 : Int32) + x2_109) 82 <|
      if (M_109 (P + 1) ((10 : Int32) + x2_109).toNatClampNeg) = x1_109 then
        D_X8_laysApplicants_147 P k86 (D_X8_laysApplicants_109 P k86 n) x1_109 x2_109 (M_109 P 33) (M_109 (P + 11) (M_109 P 33).toNatClampNeg) ((1 : Int32) <<< (x2_109 &&& 31)) M_109
      else
        D_X8_laysApplicants_147 P k86 (D_X8_laysApplicants_109 P k86 n) x1_109 x2_109 (M_109 P 33) (M_109 (P + 11) (M_109 P 33).toNatClampNeg) (0 : Int32) M_109
noncomputable def D_X8_laysApplicants_86 (P : Nat) : Nat → Int32 → zMt → Option (zMt)
  | 0, _, _ => none
  | n + 1, x1_86, M_86 =>
    zI (70 : Int32) 82 <|
    if (M_86 (P + 1) (70 : Int32).toNatClampNeg) ≤ x1_86 then
      D_X8_laysApplicants_198 P zFu (0 : Int32) M_86
    else
      zI (M_86 P 33) 10 <|
      zLt (zu M_86 (P + 11) (M_86 P 33).toNatClampNeg (0 : Int32)) fun M_106 =>
      D_X8_laysApplicants_109 P (D_X8_laysApplicants_86 P n) zFu x1_86 (0 : Int32) M_106
noncomputable def D_X8_laysApplicants_78 (P : Nat) (k7 : Int32 → zMt → Option (zMt)) (x1_78 : Int32) (M_78 : zMt) : Option (zMt) :=
  k7 (x1_78 + 1) M_78
noncomputable def D_X8_laysApplicants_7 (P : Nat) : Nat → Int32 → zMt → Option (zMt)
  | 0, _, _ => none
  | n + 1, x1_7, M_7 =>
    if (M_7 P 8) ≤ x1_7 then
      D_X8_laysApplicants_86 P zFu (0 : Int32) M_7
    else
      zI ((10 : Int32) + x1_7) 82 <|
      if (M_7 (P + 1) ((10 : Int32) + x1_7).toNatClampNeg) = (-1 : Int32) then
        zI (M_7 P 33) 10 <|
        zLt (zu M_7 (P + 11) (M_7 P 33).toNatClampNeg ((1 : Int32) <<< (x1_7 &&& 31))) fun M_42 =>
        zI (M_42 P 33) 10 <|
        zLt (zu M_42 (P + 12) (M_42 P 33).toNatClampNeg (-1 : Int32)) fun M_52 =>
        zI (M_52 P 33) 10 <|
        zLt (zu M_52 (P + 13) (M_52 P 33).toNatClampNeg ((20 : Int32) + ((3 : Int32) * x1_7))) fun M_67 =>
        zLt (zu M_67 P 33 ((M_67 P 33) + (1 : Int32))) fun M_75 =>
        D_X8_laysApplicants_78 P (D_X8_laysApplicants_7 P n) x1_7 M_75
      else
        D_X8_laysApplicants_78 P (D_X8_laysApplicants_7 P n) x1_7 M_7
noncomputable def D_X8_laysApplicants (P : Nat) (M : zMt) : Option (zMt) :=
  zLt (zu M P 33 (0 : Int32)) fun M_2 =>
  D_X8_laysApplicants_7 P zFu (0 : Int32) M_2
set_option maxRecDepth 100000 in
set_option maxHeartbeats 4000000 in
theorem t_X8_laysApplicants {l : Launch} {G : zG} {b : Nat} {L : List zC} {M : zMt} {N : zNt} {P : Nat}  (hP : LX8 L P) {r : zMt} (h : D_X8_laysApplicants P M = some r) : zM l G b yX8_laysApplicants cX8_laysApplicants 3 none 2 0 0 [.ref P] (L, M, N) (fun r2 z => r2 = none ∧ z = (L, r, N)) := by
  refine zM.of miX8_laysApplicants (Nat.le_of_ble_eq_true rfl) ?_
  intro p e s m args below meth c X hr hname
  generalize hF : ((fun r2 z => r2 = none ∧ z = (L, r, N)) : Option Value → zS → Prop) = FQ
  change Zw p l e { frames := 2, cells := 0, slots := 0, locals := 80 * (2) } s m args below meth c G b 3 (MQ below (zQ G b FQ) args s 0 0 (fun q : Nat => b ≤ q)) 0 0 0 [some (.ref P), none, none] [] (L, M, N)
  obtain ⟨p_lt, p_o, p_s, p_read, p_aside, p_kept, p_guest, p_readGuest, p_tape, p_unitName, p_hunterName, p_partyName, p_bits, p_partyOf, p_choiceAt, p_sizes, p_guestMany, p_pointsOf, p_ticketsOf, p_ord, p_given, p_roundOf, p_tags, p_guestTags, p_places, p_sumAt, p_sumFirst, p_sumRound, p_sumBoth, p_sumTags, p_isEnd, p_newPoints, p_inRow, p_out⟩ := id hP
  have L_198 : ∀ u : Nat, ∀ (x1_198 : Int32) (x2_198 : Option Value) (M_198 : zMt), D_X8_laysApplicants_198 P u x1_198 M_198 = some r → Zw p l e { frames := 2, cells := 0, slots := 0, locals := 80 * (2) } s m args below meth c G b 3 (MQ below (zQ G b FQ) args s 0 0 (fun q : Nat => b ≤ q)) 0 0 198 [some (.ref (P)), some (.int x1_198), x2_198] [] (L, M_198, N) := by
    intro u
    induction u with
    | zero => intro x1_198 x2_198 M_198 h; cases (show none = some r from h)
    | succ u_198 ih_198 =>
      intro x1_198 x2_198 M_198 h
      rw [D_X8_laysApplicants_198] at h
      refine a_iload_n X dX8_laysApplicants_198 rfl ?_
      refine a_aload_n X dX8_laysApplicants_199 rfl ?_
      refine a_geti X lf8_275 (by assumption) rfl dX8_laysApplicants_200 ?_
      refine a_icmp_ge (tgt := 217) X dX8_laysApplicants_203 (by decide) (fun h_203 => ?_) (fun h_203 => ?_)
      · replace h := (if_pos h_203).symm.trans h
        refine a_vret X hr dX8_laysApplicants_217 ⟨by decide, by decide⟩ ?_
        subst hF
        rw [← Option.some.inj h]
        exact ⟨rfl, rfl⟩
      · replace h := (if_neg h_203).symm.trans h
        refine a_aload_n X dX8_laysApplicants_206 rfl ?_
        refine a_iload_n X dX8_laysApplicants_207 rfl ?_
        obtain ⟨e_208, f_208, h⟩ := zBx h
        refine a_callVu X dX8_laysApplicants_208 miX8_laysOne lm8_278 (t_X8_laysOne (by assumption) f_208) (by assumption) rfl rfl rfl (Nat.le_of_ble_eq_true rfl) ⟨by decide, by decide, by decide, by decide⟩ ?_
        refine a_iinc (v := x1_198 + 1) X dX8_laysApplicants_211 (by decide) rfl zi_1 ?_
        refine a_goto (tgt := 198) X dX8_laysApplicants_214 (by decide) ?_
        exact Zw.to2 (ih_198 _ _ _ h) rfl rfl rfl
  have H_198 : ∀ (x1_198 : Int32) (x2_198 : Option Value) (M_198 : zMt), D_X8_laysApplicants_198 P zFu x1_198 M_198 = some r → Zw p l e { frames := 2, cells := 0, slots := 0, locals := 80 * (2) } s m args below meth c G b 3 (MQ below (zQ G b FQ) args s 0 0 (fun q : Nat => b ≤ q)) 0 0 198 [some (.ref (P)), some (.int x1_198), x2_198] [] (L, M_198, N) := L_198 zFu
  have L_86 : ∀ u : Nat, ∀ (x1_86 : Int32) (x2_86 : Option Value) (M_86 : zMt), D_X8_laysApplicants_86 P u x1_86 M_86 = some r → Zw p l e { frames := 2, cells := 0, slots := 0, locals := 80 * (2) } s m args below meth c G b 3 (MQ below (zQ G b FQ) args s 0 0 (fun q : Nat => b ≤ q)) 0 0 86 [some (.ref (P)), some (.int x1_86), x2_86] [] (L, M_86, N) := by
    intro u
    induction u with
    | zero => intro x1_86 x2_86 M_86 h; cases (show none = some r from h)
    | succ u_86 ih_86 =>
      have L_109 : ∀ u : Nat, ∀ (x1_109 : Int32) (x2_109 : Int32) (M_109 : zMt), D_X8_laysApplicants_109 P (D_X8_laysApplicants_86 P u_86) u x1_109 x2_109 M_109 = some r → Zw p l e { frames := 2, cells := 0, slots := 0, locals := 80 * (2) } s m args below meth c G b 3 (MQ below (zQ G b FQ) args s 0 0 (fun q : Nat => b ≤ q)) 0 0 109 [some (.ref (P)), some (.int x1_109), some (.int x2_109)] [] (L, M_109, N) := by
        intro u
        induction u with
        | zero => intro x1_109 x2_109 M_109 h; cases (show none = some r from h)
        | succ u_109 ih_109 =>
          have J_147 : ∀ (x1_147 : Int32) (x2_147 : Int32) (y1_147 : Int32) (y2_147 : Int32) (y3_147 : Int32) (M_147 : zMt), D_X8_laysApplicants_147 P (D_X8_laysApplicants_86 P u_86) (D_X8_laysApplicants_109 P (D_X8_laysApplicants_86 P u_86) u_109) x1_147 x2_147 y1_147 y2_147 y3_147 M_147 = some r → Zw p l e { frames := 2, cells := 0, slots := 0, locals := 80 * (2) } s m args below meth c G b 3 (MQ below (zQ G b FQ) args s 0 0 (fun q : Nat => b ≤ q)) 0 0 147 [some (.ref (P)), some (.int x1_147), some (.int x2_147)] [.int y3_147, .int y2_147, .int y1_147, .ref (P + 11)] (L, M_147, N) := by
            intro x1_147 x2_147 y1_147 y2_147 y3_147 M_147 h
            unfold D_X8_laysApplicants_147 at h
            refine a_ior X dX8_laysApplicants_147 ?_
            obtain ⟨g_148, h⟩ := zIx h
            obtain ⟨M_148, f_148, h⟩ := zLtx h
            refine d_iastore X (by assumption) g_148 dX8_laysApplicants_148 f_148 ?_
            refine a_iinc (v := x2_147 + 1) X dX8_laysApplicants_149 (by decide) rfl zi_1 ?_
            refine a_goto (tgt := 109) X dX8_laysApplicants_152 (by decide) ?_
            exact Zw.to2 (ih_109 _ _ _ h) rfl rfl rfl
          intro x1_109 x2_109 M_109 h
          rw [D_X8_laysApplicants_109] at h
          refine a_iload_n X dX8_laysApplicants_109 rfl ?_
          refine a_aload_n X dX8_laysApplicants_110 rfl ?_
          refine a_geti X lf8_132 (by assumption) rfl dX8_laysApplicants_111 ?_
          refine a_icmp_ge (tgt := 155) X dX8_laysApplicants_114 (by decide) (fun h_114 => ?_) (fun h_114 => ?_)
          · replace h := (if_pos h_114).symm.trans h
            refine a_aload_n X dX8_laysApplicants_155 rfl ?_
            refine a_getr X lf8_52 (by assumption) rfl (by omega) dX8_laysApplicants_156 ?_
            refine a_aload_n X dX8_laysApplicants_159 rfl ?_
            refine a_geti X lf8_275 (by assumption) rfl dX8_laysApplicants_160 ?_
            refine a_iload_n X dX8_laysApplicants_163 rfl ?_
            obtain ⟨g_164, h⟩ := zIx h
            obtain ⟨M_164, f_164, h⟩ := zLtx h
            refine d_iastore X (by assumption) g_164 dX8_laysApplicants_164 f_164 ?_
            refine a_aload_n X dX8_laysApplicants_165 rfl ?_
            refine a_getr X lf8_55 (by assumption) rfl (by omega) dX8_laysApplicants_166 ?_
            refine a_aload_n X dX8_laysApplicants_169 rfl ?_
            refine a_geti X lf8_275 (by assumption) rfl dX8_laysApplicants_170 ?_
            refine a_bipush (v := 50) X dX8_laysApplicants_173 (by decide) ?_
            refine a_iconst (v := 3) X dX8_laysApplicants_175 (by decide) ?_
            refine a_iload_n X dX8_laysApplicants_176 rfl ?_
            refine a_imul X dX8_laysApplicants_177 ?_
            refine a_iadd X dX8_laysApplicants_178 ?_
            obtain ⟨g_179, h⟩ := zIx h
            obtain ⟨M_179, f_179, h⟩ := zLtx h
            refine d_iastore X (by assumption) g_179 dX8_laysApplicants_179 f_179 ?_
            refine a_aload_n X dX8_laysApplicants_180 rfl ?_
            refine a_dup X dX8_laysApplicants_181 rfl ?_
            refine a_geti X lf8_275 (by assumption) rfl dX8_laysApplicants_182 ?_
            refine a_iconst (v := 1) X dX8_laysApplicants_185 (by decide) ?_
            refine a_iadd X dX8_laysApplicants_186 ?_
            obtain ⟨M_187, f_187, h⟩ := zLtx h
            refine d_puti X lf8_275 (by assumption) rfl dX8_laysApplicants_187 f_187 ?_
            refine a_iinc (v := x1_109 + 1) X dX8_laysApplicants_190 (by decide) rfl zi_1 ?_
            refine a_goto (tgt := 86) X dX8_laysApplicants_193 (by decide) ?_
            exact Zw.to2 (ih_86 _ _ _ h) rfl rfl rfl
          · replace h := (if_neg h_114).symm.trans h
            refine a_aload_n X dX8_laysApplicants_117 rfl ?_
            refine a_getr X lf8_49 (by assumption) rfl (by omega) dX8_laysApplicants_118 ?_
            refine a_aload_n X dX8_laysApplicants_121 rfl ?_
            refine a_geti X lf8_275 (by assumption) rfl dX8_laysApplicants_122 ?_
            refine a_dup2 X dX8_laysApplicants_125 rfl rfl ?_
            obtain ⟨g_126, h⟩ := zIx h
            refine a_iaload X (by assumption) g_126 dX8_laysApplicants_126 ?_
            refine a_aload_n X dX8_laysApplicants_127 rfl ?_
            refine a_getr X lf8_7 (by assumption) rfl (by omega) dX8_laysApplicants_128 ?_
            refine a_bipush (v := 10) X dX8_laysApplicants_131 (by decide) ?_
            refine a_iload_n X dX8_laysApplicants_133 rfl ?_
            refine a_iadd X dX8_laysApplicants_134 ?_
            obtain ⟨g_135, h⟩ := zIx h
            refine a_iaload X (by assumption) g_135 dX8_laysApplicants_135 ?_
            refine a_iload_n X dX8_laysApplicants_136 rfl ?_
            refine a_icmp_ne (tgt := 146) X dX8_laysApplicants_137 (by decide) (fun h_137 => ?_) (fun h_137 => ?_)
            · replace h := (if_neg h_137).symm.trans h
              refine a_iconst (v := 0) X dX8_laysApplicants_146 (by decide) ?_
              exact Zw.to2 (J_147 _ _ _ _ _ _ h) rfl rfl rfl
            · replace h := (if_pos h_137).symm.trans h
              refine a_iconst (v := 1) X dX8_laysApplicants_140 (by decide) ?_
              refine a_iload_n X dX8_laysApplicants_141 rfl ?_
              refine a_ishl X dX8_laysApplicants_142 ?_
              refine a_goto (tgt := 147) X dX8_laysApplicants_143 (by decide) ?_
              exact Zw.to2 (J_147 _ _ _ _ _ _ h) rfl rfl rfl
      have H_109 : ∀ (x1_109 : Int32) (x2_109 : Int32) (M_109 : zMt), D_X8_laysApplicants_109 P (D_X8_laysApplicants_86 P u_86) zFu x1_109 x2_109 M_109 = some r → Zw p l e { frames := 2, cells := 0, slots := 0, locals := 80 * (2) } s m args below meth c G b 3 (MQ below (zQ G b FQ) args s 0 0 (fun q : Nat => b ≤ q)) 0 0 109 [some (.ref (P)), some (.int x1_109), some (.int x2_109)] [] (L, M_109, N) := L_109 zFu
      intro x1_86 x2_86 M_86 h
      rw [D_X8_laysApplicants_86] at h
      refine a_iload_n X dX8_laysApplicants_86 rfl ?_
      refine a_aload_n X dX8_laysApplicants_87 rfl ?_
      refine a_getr X lf8_7 (by assumption) rfl (by omega) dX8_laysApplicants_88 ?_
      refine a_bipush (v := 70) X dX8_laysApplicants_91 (by decide) ?_
      obtain ⟨g_93, h⟩ := zIx h
      refine a_iaload X (by assumption) g_93 dX8_laysApplicants_93 ?_
      refine a_icmp_ge (tgt := 196) X dX8_laysApplicants_94 (by decide) (fun h_94 => ?_) (fun h_94 => ?_)
      · replace h := (if_pos h_94).symm.trans h
        refine a_iconst (v := 0) X dX8_laysApplicants_196 (by decide) ?_
        refine a_istore_n X dX8_laysApplicants_197 (by decide) ?_
        exact Zw.to2 (H_198 _ _ _ h) rfl rfl rfl
      · replace h := (if_neg h_94).symm.trans h
        refine a_aload_n X dX8_laysApplicants_97 rfl ?_
        refine a_getr X lf8_49 (by assumption) rfl (by omega) dX8_laysApplicants_98 ?_
        refine a_aload_n X dX8_laysApplicants_101 rfl ?_
        refine a_geti X lf8_275 (by assumption) rfl dX8_laysApplicants_102 ?_
        refine a_iconst (v := 0) X dX8_laysApplicants_105 (by decide) ?_
        obtain ⟨g_106, h⟩ := zIx h
        obtain ⟨M_106, f_106, h⟩ := zLtx h
        refine d_iastore X (by assumption) g_106 dX8_laysApplicants_106 f_106 ?_
        refine a_iconst (v := 0) X dX8_laysApplicants_107 (by decide) ?_
        refine a_istore_n X dX8_laysApplicants_108 (by decide) ?_
        exact Zw.to2 (H_109 _ _ _ h) rfl rfl rfl
  have H_86 : ∀ (x1_86 : Int32) (x2_86 : Option Value) (M_86 : zMt), D_X8_laysApplicants_86 P zFu x1_86 M_86 = some r → Zw p l e { frames := 2, cells := 0, slots := 0, locals := 80 * (2) } s m args below meth c G b 3 (MQ below (zQ G b FQ) args s 0 0 (fun q : Nat => b ≤ q)) 0 0 86 [some (.ref (P)), some (.int x1_86), x2_86] [] (L, M_86, N) := L_86 zFu
  have L_7 : ∀ u : Nat, ∀ (x1_7 : Int32) (x2_7 : Option Value) (M_7 : zMt), D_X8_laysApplicants_7 P u x1_7 M_7 = some r → Zw p l e { frames := 2, cells := 0, slots := 0, locals := 80 * (2) } s m args below meth c G b 3 (MQ below (zQ G b FQ) args s 0 0 (fun q : Nat => b ≤ q)) 0 0 7 [some (.ref (P)), some (.int x1_7), x2_7] [] (L, M_7, N) := by
    intro u
    induction u with
    | zero => intro x1_7 x2_7 M_7 h; cases (show none = some r from h)
    | succ u_7 ih_7 =>
      have J_78 : ∀ (x1_78 : Int32) (x2_78 : Option Value) (M_78 : zMt), D_X8_laysApplicants_78 P (D_X8_laysApplicants_7 P u_7) x1_78 M_78 = some r → Zw p l e { frames := 2, cells := 0, slots := 0, locals := 80 * (2) } s m args below meth c G b 3 (MQ below (zQ G b FQ) args s 0 0 (fun q : Nat => b ≤ q)) 0 0 78 [some (.ref (P)), some (.int x1_78), x2_78] [] (L, M_78, N) := by
        intro x1_78 x2_78 M_78 h
        unfold D_X8_laysApplicants_78 at h
        refine a_iinc (v := x1_78 + 1) X dX8_laysApplicants_78 (by decide) rfl zi_1 ?_
        refine a_goto (tgt := 7) X dX8_laysApplicants_81 (by decide) ?_
        exact Zw.to2 (ih_7 _ _ _ h) rfl rfl rfl
      intro x1_7 x2_7 M_7 h
      rw [D_X8_laysApplicants_7] at h
      refine a_iload_n X dX8_laysApplicants_7 rfl ?_
      refine a_aload_n X dX8_laysApplicants_8 rfl ?_
      refine a_geti X lf8_132 (by assumption) rfl dX8_laysApplicants_9 ?_
      refine a_icmp_ge (tgt := 84) X dX8_laysApplicants_12 (by decide) (fun h_12 => ?_) (fun h_12 => ?_)
      · replace h := (if_pos h_12).symm.trans h
        refine a_iconst (v := 0) X dX8_laysApplicants_84 (by decide) ?_
        refine a_istore_n X dX8_laysApplicants_85 (by decide) ?_
        exact Zw.to2 (H_86 _ _ _ h) rfl rfl rfl
      · replace h := (if_neg h_12).symm.trans h
        refine a_aload_n X dX8_laysApplicants_15 rfl ?_
        refine a_getr X lf8_7 (by assumption) rfl (by omega) dX8_laysApplicants_16 ?_
        refine a_bipush (v := 10) X dX8_laysApplicants_19 (by decide) ?_
        refine a_iload_n X dX8_laysApplicants_21 rfl ?_
        refine a_iadd X dX8_laysApplicants_22 ?_
        obtain ⟨g_23, h⟩ := zIx h
        refine a_iaload X (by assumption) g_23 dX8_laysApplicants_23 ?_
        refine a_iconst (v := -1) X dX8_laysApplicants_24 (by decide) ?_
        refine a_icmp_eq (tgt := 31) X dX8_laysApplicants_25 (by decide) (fun h_25 => ?_) (fun h_25 => ?_)
        · replace h := (if_pos h_25).symm.trans h
          refine a_aload_n X dX8_laysApplicants_31 rfl ?_
          refine a_getr X lf8_49 (by assumption) rfl (by omega) dX8_laysApplicants_32 ?_
          refine a_aload_n X dX8_laysApplicants_35 rfl ?_
          refine a_geti X lf8_275 (by assumption) rfl dX8_laysApplicants_36 ?_
          refine a_iconst (v := 1) X dX8_laysApplicants_39 (by decide) ?_
          refine a_iload_n X dX8_laysApplicants_40 rfl ?_
          refine a_ishl X dX8_laysApplicants_41 ?_
          obtain ⟨g_42, h⟩ := zIx h
          obtain ⟨M_42, f_42, h⟩ := zLtx h
          refine d_iastore X (by assumption) g_42 dX8_laysApplicants_42 f_42 ?_
          refine a_aload_n X dX8_laysApplicants_43 rfl ?_
          refine a_getr X lf8_52 (by assumption) rfl (by omega) dX8_laysApplicants_44 ?_
          refine a_aload_n X dX8_laysApplicants_47 rfl ?_
          refine a_geti X lf8_275 (by assumption) rfl dX8_laysApplicants_48 ?_
          refine a_iconst (v := -1) X dX8_laysApplicants_51 (by decide) ?_
          obtain ⟨g_52, h⟩ := zIx h
          obtain ⟨M_52, f_52, h⟩ := zLtx h
          refine d_iastore X (by assumption) g_52 dX8_laysApplicants_52 f_52 ?_
          refine a_aload_n X dX8_laysApplicants_53 rfl ?_
          refine a_getr X lf8_55 (by assumption) rfl (by omega) dX8_laysApplicants_54 ?_
          refine a_aload_n X dX8_laysApplicants_57 rfl ?_
          refine a_geti X lf8_275 (by assumption) rfl dX8_laysApplicants_58 ?_
          refine a_bipush (v := 20) X dX8_laysApplicants_61 (by decide) ?_
          refine a_iconst (v := 3) X dX8_laysApplicants_63 (by decide) ?_
          refine a_iload_n X dX8_laysApplicants_64 rfl ?_
          refine a_imul X dX8_laysApplicants_65 ?_
          refine a_iadd X dX8_laysApplicants_66 ?_
          obtain ⟨g_67, h⟩ := zIx h
          obtain ⟨M_67, f_67, h⟩ := zLtx h
          refine d_iastore X (by assumption) g_67 dX8_laysApplicants_67 f_67 ?_
          refine a_aload_n X dX8_laysApplicants_68 rfl ?_
          refine a_dup X dX8_laysApplicants_69 rfl ?_
          refine a_geti X lf8_275 (by assumption) rfl dX8_laysApplicants_70 ?_
          refine a_iconst (v := 1) X dX8_laysApplicants_73 (by decide) ?_
          refine a_iadd X dX8_laysApplicants_74 ?_
          obtain ⟨M_75, f_75, h⟩ := zLtx h
          refine d_puti X lf8_275 (by assumption) rfl dX8_laysApplicants_75 f_75 ?_
          exact Zw.to2 (J_78 _ _ _ h) rfl rfl rfl
        · replace h := (if_neg h_25).symm.trans h
          refine a_goto (tgt := 78) X dX8_laysApplicants_28 (by decide) ?_
          exact Zw.to2 (J_78 _ _ _ h) rfl rfl rfl
  have H_7 : ∀ (x1_7 : Int32) (x2_7 : Option Value) (M_7 : zMt), D_X8_laysApplicants_7 P zFu x1_7 M_7 = some r → Zw p l e { frames := 2, cells := 0, slots := 0, locals := 80 * (2) } s m args below meth c G b 3 (MQ below (zQ G b FQ) args s 0 0 (fun q : Nat => b ≤ q)) 0 0 7 [some (.ref (P)), some (.int x1_7), x2_7] [] (L, M_7, N) := L_7 zFu
  unfold D_X8_laysApplicants at h
  refine a_aload_n X dX8_laysApplicants_0 rfl ?_
  refine a_iconst (v := 0) X dX8_laysApplicants_1 (by decide) ?_
  obtain ⟨M_2, f_2, h⟩ := zLtx h
  refine d_puti X lf8_275 (by assumption) rfl dX8_laysApplicants_2 f_2 ?_
  refine a_iconst (v := 0) X dX8_laysApplicants_5 (by decide) ?_
  refine a_istore_n X dX8_laysApplicants_6 (by decide) ?_
  exact Zw.to2 (H_7 _ _ _ h) rfl rfl rfl
noncomputable def D_X8_isApplicant (P : Nat) (v0 : Int32) (M : zMt) : Option (Int32 × zMt) :=
  zB (D_X8_laysApplicants P M) fun e_1 =>
  zB (D_X8_isFrom (Int32.toInt64 v0) (0 : Int64) (Int32.toInt64 ((e_1 P 33) - (1 : Int32)))) fun e_14 =>
  some (e_14, e_1)
set_option maxRecDepth 100000 in
set_option maxHeartbeats 4000000 in
theorem t_X8_isApplicant {l : Launch} {G : zG} {b : Nat} {L : List zC} {M : zMt} {N : zNt} {P : Nat} {v0 : Int32} (hP : LX8 L P) {r : Int32 × zMt} (h : D_X8_isApplicant P v0 M = some r) : zM l G b yX8_isApplicant cX8_isApplicant 2 (some .boolean) 3 0 0 [.ref P, .int v0] (L, M, N) (fun r2 z => r2 = some (.int r.1) ∧ z = (L, r.2, N) ∧ (r.1 = 0 ∨ r.1 = 1)) := by
  refine zM.of miX8_isApplicant (Nat.le_of_ble_eq_true rfl) ?_
  intro p e s m args below meth c X hr hname
  generalize hF : ((fun r2 z => r2 = some (.int r.1) ∧ z = (L, r.2, N) ∧ (r.1 = 0 ∨ r.1 = 1)) : Option Value → zS → Prop) = FQ
  change Zw p l e { frames := 3, cells := 0, slots := 0, locals := 80 * (3) } s m args below meth c G b 2 (MQ below (zQ G b FQ) args s 0 0 (fun q : Nat => b ≤ q)) 0 0 0 [some (.ref P), some (.int v0)] [] (L, M, N)
  obtain ⟨p_lt, p_o, p_s, p_read, p_aside, p_kept, p_guest, p_readGuest, p_tape, p_unitName, p_hunterName, p_partyName, p_bits, p_partyOf, p_choiceAt, p_sizes, p_guestMany, p_pointsOf, p_ticketsOf, p_ord, p_given, p_roundOf, p_tags, p_guestTags, p_places, p_sumAt, p_sumFirst, p_sumRound, p_sumBoth, p_sumTags, p_isEnd, p_newPoints, p_inRow, p_out⟩ := id hP
  unfold D_X8_isApplicant at h
  refine a_aload_n X dX8_isApplicant_0 rfl ?_
  obtain ⟨e_1, f_1, h⟩ := zBx h
  refine a_callVu X dX8_isApplicant_1 miX8_laysApplicants lm8_281 (t_X8_laysApplicants (by assumption) f_1) (by assumption) rfl rfl rfl (Nat.le_of_ble_eq_true rfl) ⟨by decide, by decide, by decide, by decide⟩ ?_
  refine a_iload_n X dX8_isApplicant_4 rfl ?_
  refine a_i2l X dX8_isApplicant_5 ?_
  refine a_lconst (v := 0) X dX8_isApplicant_6 (by decide) ?_
  refine a_aload_n X dX8_isApplicant_7 rfl ?_
  refine a_geti X lf8_275 (by assumption) rfl dX8_isApplicant_8 ?_
  refine a_iconst (v := 1) X dX8_isApplicant_11 (by decide) ?_
  refine a_isub X dX8_isApplicant_12 ?_
  refine a_i2l X dX8_isApplicant_13 ?_
  obtain ⟨e_14, f_14, h⟩ := zBx h
  refine a_callSx X dX8_isApplicant_14 miX8_isFrom lm8_128 (t_X8_isFrom f_14) rfl rfl (Nat.le_of_ble_eq_true rfl) ⟨by decide, by decide, by decide, by decide⟩ (fun r_14 S_14 q_14 => ?_)
  obtain ⟨rfl, rfl, b_14⟩ := q_14
  refine a_zret X (by first | exact Or.inl rfl | exact Or.inr rfl | assumption) hr dX8_isApplicant_17 ⟨by decide, by decide⟩ ?_
  subst hF
  rw [← Option.some.inj h]
  exact ⟨rfl, rfl, (by first | exact Or.inl rfl | exact Or.inr rfl | assumption)⟩
noncomputable def D_X8_choiceOf_22 (P : Nat) (M : zMt) (y0_22 : Int32) : Option (Int32) :=
  some (y0_22)
noncomputable def D_X8_choiceOf (P : Nat) (M : zMt) (v0 : Int32) (v1 : Int32) : Option (Int32) :=
  if (3 : Int32) ≤ v1 then
    D_X8_choiceOf_22 P M (-1 : Int32)
  else
    zI v0 10 <|
    zI ((M (P + 13) v0.toNatClampNeg) + v1) 82 <|
    D_X8_choiceOf_22 P M (M (P + 1) ((M (P + 13) v0.toNatClampNeg) + v1).toNatClampNeg)
set_option maxRecDepth 100000 in
set_option maxHeartbeats 4000000 in
theorem t_X8_choiceOf {l : Launch} {G : zG} {b : Nat} {L : List zC} {M : zMt} {N : zNt} {P : Nat} {v0 : Int32} {v1 : Int32} (hP : LX8 L P) {r : Int32} (h : D_X8_choiceOf P M v0 v1 = some r) : zM l G b yX8_choiceOf cX8_choiceOf 3 (some .int) 0 0 0 [.ref P, .int v0, .int v1] (L, M, N) (fun r2 z => r2 = some (.int r) ∧ z = (L, M, N)) := by
  refine zM.of miX8_choiceOf (Nat.le_of_ble_eq_true rfl) ?_
  intro p e s m args below meth c X hr hname
  generalize hF : ((fun r2 z => r2 = some (.int r) ∧ z = (L, M, N)) : Option Value → zS → Prop) = FQ
  change Zw p l e { frames := 0, cells := 0, slots := 0, locals := 80 * (0) } s m args below meth c G b 3 (MQ below (zQ G b FQ) args s 0 0 (fun q : Nat => b ≤ q)) 0 0 0 [some (.ref P), some (.int v0), some (.int v1)] [] (L, M, N)
  obtain ⟨p_lt, p_o, p_s, p_read, p_aside, p_kept, p_guest, p_readGuest, p_tape, p_unitName, p_hunterName, p_partyName, p_bits, p_partyOf, p_choiceAt, p_sizes, p_guestMany, p_pointsOf, p_ticketsOf, p_ord, p_given, p_roundOf, p_tags, p_guestTags, p_places, p_sumAt, p_sumFirst, p_sumRound, p_sumBoth, p_sumTags, p_isEnd, p_newPoints, p_inRow, p_out⟩ := id hP
  have J_22 : ∀ (x1_22 : Int32) (x2_22 : Int32) (y0_22 : Int32), D_X8_choiceOf_22 P M y0_22 = some r → Zw p l e { frames := 0, cells := 0, slots := 0, locals := 80 * (0) } s m args below meth c G b 3 (MQ below (zQ G b FQ) args s 0 0 (fun q : Nat => b ≤ q)) 0 0 22 [some (.ref (P)), some (.int x1_22), some (.int x2_22)] [.int y0_22] (L, M, N) := by
    intro x1_22 x2_22 y0_22 h
    unfold D_X8_choiceOf_22 at h
    refine a_iret X hr dX8_choiceOf_22 ⟨by decide, by decide⟩ ?_
    subst hF
    rw [← Option.some.inj h]
    exact ⟨rfl, rfl⟩
  unfold D_X8_choiceOf at h
  refine a_iload_n X dX8_choiceOf_0 rfl ?_
  refine a_iconst (v := 3) X dX8_choiceOf_1 (by decide) ?_
  refine a_icmp_ge (tgt := 21) X dX8_choiceOf_2 (by decide) (fun h_2 => ?_) (fun h_2 => ?_)
  · replace h := (if_pos h_2).symm.trans h
    refine a_iconst (v := -1) X dX8_choiceOf_21 (by decide) ?_
    exact Zw.to2 (J_22 _ _ _ h) rfl rfl rfl
  · replace h := (if_neg h_2).symm.trans h
    refine a_aload_n X dX8_choiceOf_5 rfl ?_
    refine a_getr X lf8_7 (by assumption) rfl (by omega) dX8_choiceOf_6 ?_
    refine a_aload_n X dX8_choiceOf_9 rfl ?_
    refine a_getr X lf8_55 (by assumption) rfl (by omega) dX8_choiceOf_10 ?_
    refine a_iload_n X dX8_choiceOf_13 rfl ?_
    obtain ⟨g_14, h⟩ := zIx h
    refine a_iaload X (by assumption) g_14 dX8_choiceOf_14 ?_
    refine a_iload_n X dX8_choiceOf_15 rfl ?_
    refine a_iadd X dX8_choiceOf_16 ?_
    obtain ⟨g_17, h⟩ := zIx h
    refine a_iaload X (by assumption) g_17 dX8_choiceOf_17 ?_
    refine a_goto (tgt := 22) X dX8_choiceOf_18 (by decide) ?_
    exact Zw.to2 (J_22 _ _ _ h) rfl rfl rfl
noncomputable def D_X8_choiceMany_2 (P : Nat) (M : zMt) : Nat → Int32 → Int32 → Option (Int32)
  | 0, _, _ => none
  | n + 1, x1_2, x2_2 =>
    zB (D_X8_choiceOf P M x1_2 x2_2) fun e_5 =>
    if e_5 = (-1 : Int32) then
      some (x2_2)
    else
      (D_X8_choiceMany_2 P M n) x1_2 (x2_2 + 1)
noncomputable def D_X8_choiceMany (P : Nat) (M : zMt) (v0 : Int32) : Option (Int32) :=
  D_X8_choiceMany_2 P M zFu v0 (0 : Int32)
set_option maxRecDepth 100000 in
set_option maxHeartbeats 4000000 in
theorem t_X8_choiceMany {l : Launch} {G : zG} {b : Nat} {L : List zC} {M : zMt} {N : zNt} {P : Nat} {v0 : Int32} (hP : LX8 L P) {r : Int32} (h : D_X8_choiceMany P M v0 = some r) : zM l G b yX8_choiceMany cX8_choiceMany 3 (some .int) 1 0 0 [.ref P, .int v0] (L, M, N) (fun r2 z => r2 = some (.int r) ∧ z = (L, M, N)) := by
  refine zM.of miX8_choiceMany (Nat.le_of_ble_eq_true rfl) ?_
  intro p e s m args below meth c X hr hname
  generalize hF : ((fun r2 z => r2 = some (.int r) ∧ z = (L, M, N)) : Option Value → zS → Prop) = FQ
  change Zw p l e { frames := 1, cells := 0, slots := 0, locals := 80 * (1) } s m args below meth c G b 3 (MQ below (zQ G b FQ) args s 0 0 (fun q : Nat => b ≤ q)) 0 0 0 [some (.ref P), some (.int v0), none] [] (L, M, N)
  obtain ⟨p_lt, p_o, p_s, p_read, p_aside, p_kept, p_guest, p_readGuest, p_tape, p_unitName, p_hunterName, p_partyName, p_bits, p_partyOf, p_choiceAt, p_sizes, p_guestMany, p_pointsOf, p_ticketsOf, p_ord, p_given, p_roundOf, p_tags, p_guestTags, p_places, p_sumAt, p_sumFirst, p_sumRound, p_sumBoth, p_sumTags, p_isEnd, p_newPoints, p_inRow, p_out⟩ := id hP
  have L_2 : ∀ u : Nat, ∀ (x1_2 : Int32) (x2_2 : Int32), D_X8_choiceMany_2 P M u x1_2 x2_2 = some r → Zw p l e { frames := 1, cells := 0, slots := 0, locals := 80 * (1) } s m args below meth c G b 3 (MQ below (zQ G b FQ) args s 0 0 (fun q : Nat => b ≤ q)) 0 0 2 [some (.ref (P)), some (.int x1_2), some (.int x2_2)] [] (L, M, N) := by
    intro u
    induction u with
    | zero => intro x1_2 x2_2 h; cases (show none = some r from h)
    | succ u_2 ih_2 =>
      intro x1_2 x2_2 h
      rw [D_X8_choiceMany_2] at h
      refine a_aload_n X dX8_choiceMany_2 rfl ?_
      refine a_iload_n X dX8_choiceMany_3 rfl ?_
      refine a_iload_n X dX8_choiceMany_4 rfl ?_
      obtain ⟨e_5, f_5, h⟩ := zBx h
      refine a_callVv X dX8_choiceMany_5 miX8_choiceOf lm8_284 (t_X8_choiceOf (by assumption) f_5) (by assumption) rfl rfl rfl (Nat.le_of_ble_eq_true rfl) ⟨by decide, by decide, by decide, by decide⟩ ?_
      refine a_iconst (v := -1) X dX8_choiceMany_8 (by decide) ?_
      refine a_icmp_eq (tgt := 18) X dX8_choiceMany_9 (by decide) (fun h_9 => ?_) (fun h_9 => ?_)
      · replace h := (if_pos h_9).symm.trans h
        refine a_iload_n X dX8_choiceMany_18 rfl ?_
        refine a_iret X hr dX8_choiceMany_19 ⟨by decide, by decide⟩ ?_
        subst hF
        rw [← Option.some.inj h]
        exact ⟨rfl, rfl⟩
      · replace h := (if_neg h_9).symm.trans h
        refine a_iinc (v := x2_2 + 1) X dX8_choiceMany_12 (by decide) rfl zi_1 ?_
        refine a_goto (tgt := 2) X dX8_choiceMany_15 (by decide) ?_
        exact Zw.to2 (ih_2 _ _ h) rfl rfl rfl
  have H_2 : ∀ (x1_2 : Int32) (x2_2 : Int32), D_X8_choiceMany_2 P M zFu x1_2 x2_2 = some r → Zw p l e { frames := 1, cells := 0, slots := 0, locals := 80 * (1) } s m args below meth c G b 3 (MQ below (zQ G b FQ) args s 0 0 (fun q : Nat => b ≤ q)) 0 0 2 [some (.ref (P)), some (.int x1_2), some (.int x2_2)] [] (L, M, N) := L_2 zFu
  unfold D_X8_choiceMany at h
  refine a_iconst (v := 0) X dX8_choiceMany_0 (by decide) ?_
  refine a_istore_n X dX8_choiceMany_1 (by decide) ?_
  exact Zw.to2 (H_2 _ _ h) rfl rfl rfl
noncomputable def D_X8_placeOf_2 (P : Nat) (M : zMt) : Nat → Int32 → Int32 → Int32 → Option (Int32)
  | 0, _, _, _ => none
  | n + 1, x1_2, x2_2, x3_2 =>
    zB (D_X8_choiceMany P M x1_2) fun e_5 =>
    if e_5 ≤ x3_2 then
      some ((-1 : Int32))
    else
      zB (D_X8_choiceOf P M x1_2 x3_2) fun e_14 =>
      if e_14 = x2_2 then
        some (x3_2)
      else
        (D_X8_placeOf_2 P M n) x1_2 x2_2 (x3_2 + 1)
noncomputable def D_X8_placeOf (P : Nat) (M : zMt) (v0 : Int32) (v1 : Int32) : Option (Int32) :=
  D_X8_placeOf_2 P M zFu v0 v1 (0 : Int32)
set_option maxRecDepth 100000 in
set_option maxHeartbeats 4000000 in
theorem t_X8_placeOf {l : Launch} {G : zG} {b : Nat} {L : List zC} {M : zMt} {N : zNt} {P : Nat} {v0 : Int32} {v1 : Int32} (hP : LX8 L P) {r : Int32} (h : D_X8_placeOf P M v0 v1 = some r) : zM l G b yX8_placeOf cX8_placeOf 4 (some .int) 2 0 0 [.ref P, .int v0, .int v1] (L, M, N) (fun r2 z => r2 = some (.int r) ∧ z = (L, M, N)) := by
  refine zM.of miX8_placeOf (Nat.le_of_ble_eq_true rfl) ?_
  intro p e s m args below meth c X hr hname
  generalize hF : ((fun r2 z => r2 = some (.int r) ∧ z = (L, M, N)) : Option Value → zS → Prop) = FQ
  change Zw p l e { frames := 2, cells := 0, slots := 0, locals := 80 * (2) } s m args below meth c G b 4 (MQ below (zQ G b FQ) args s 0 0 (fun q : Nat => b ≤ q)) 0 0 0 [some (.ref P), some (.int v0), some (.int v1), none] [] (L, M, N)
  obtain ⟨p_lt, p_o, p_s, p_read, p_aside, p_kept, p_guest, p_readGuest, p_tape, p_unitName, p_hunterName, p_partyName, p_bits, p_partyOf, p_choiceAt, p_sizes, p_guestMany, p_pointsOf, p_ticketsOf, p_ord, p_given, p_roundOf, p_tags, p_guestTags, p_places, p_sumAt, p_sumFirst, p_sumRound, p_sumBoth, p_sumTags, p_isEnd, p_newPoints, p_inRow, p_out⟩ := id hP
  have L_2 : ∀ u : Nat, ∀ (x1_2 : Int32) (x2_2 : Int32) (x3_2 : Int32), D_X8_placeOf_2 P M u x1_2 x2_2 x3_2 = some r → Zw p l e { frames := 2, cells := 0, slots := 0, locals := 80 * (2) } s m args below meth c G b 4 (MQ below (zQ G b FQ) args s 0 0 (fun q : Nat => b ≤ q)) 0 0 2 [some (.ref (P)), some (.int x1_2), some (.int x2_2), some (.int x3_2)] [] (L, M, N) := by
    intro u
    induction u with
    | zero => intro x1_2 x2_2 x3_2 h; cases (show none = some r from h)
    | succ u_2 ih_2 =>
      intro x1_2 x2_2 x3_2 h
      rw [D_X8_placeOf_2] at h
      refine a_iload_n X dX8_placeOf_2 rfl ?_
      refine a_aload_n X dX8_placeOf_3 rfl ?_
      refine a_iload_n X dX8_placeOf_4 rfl ?_
      obtain ⟨e_5, f_5, h⟩ := zBx h
      refine a_callVv X dX8_placeOf_5 miX8_choiceMany lm8_288 (t_X8_choiceMany (by assumption) f_5) (by assumption) rfl rfl rfl (Nat.le_of_ble_eq_true rfl) ⟨by decide, by decide, by decide, by decide⟩ ?_
      refine a_icmp_ge (tgt := 29) X dX8_placeOf_8 (by decide) (fun h_8 => ?_) (fun h_8 => ?_)
      · replace h := (if_pos h_8).symm.trans h
        refine a_iconst (v := -1) X dX8_placeOf_29 (by decide) ?_
        refine a_iret X hr dX8_placeOf_30 ⟨by decide, by decide⟩ ?_
        subst hF
        rw [← Option.some.inj h]
        exact ⟨rfl, rfl⟩
      · replace h := (if_neg h_8).symm.trans h
        refine a_aload_n X dX8_placeOf_11 rfl ?_
        refine a_iload_n X dX8_placeOf_12 rfl ?_
        refine a_iload_n X dX8_placeOf_13 rfl ?_
        obtain ⟨e_14, f_14, h⟩ := zBx h
        refine a_callVv X dX8_placeOf_14 miX8_choiceOf lm8_284 (t_X8_choiceOf (by assumption) f_14) (by assumption) rfl rfl rfl (Nat.le_of_ble_eq_true rfl) ⟨by decide, by decide, by decide, by decide⟩ ?_
        refine a_iload_n X dX8_placeOf_17 rfl ?_
        refine a_icmp_ne (tgt := 23) X dX8_placeOf_18 (by decide) (fun h_18 => ?_) (fun h_18 => ?_)
        · replace h := (if_neg h_18).symm.trans h
          refine a_iinc (v := x3_2 + 1) X dX8_placeOf_23 (by decide) rfl zi_1 ?_
          refine a_goto (tgt := 2) X dX8_placeOf_26 (by decide) ?_
          exact Zw.to2 (ih_2 _ _ _ h) rfl rfl rfl
        · replace h := (if_pos h_18).symm.trans h
          refine a_iload_n X dX8_placeOf_21 rfl ?_
          refine a_iret X hr dX8_placeOf_22 ⟨by decide, by decide⟩ ?_
          subst hF
          rw [← Option.some.inj h]
          exact ⟨rfl, rfl⟩
  have H_2 : ∀ (x1_2 : Int32) (x2_2 : Int32) (x3_2 : Int32), D_X8_placeOf_2 P M zFu x1_2 x2_2 x3_2 = some r → Zw p l e { frames := 2, cells := 0, slots := 0, locals := 80 * (2) } s m args below meth c G b 4 (MQ below (zQ G b FQ) args s 0 0 (fun q : Nat => b ≤ q)) 0 0 2 [some (.ref (P)), some (.int x1_2), some (.int x2_2), some (.int x3_2)] [] (L, M, N) := L_2 zFu
  unfold D_X8_placeOf at h
  refine a_iconst (v := 0) X dX8_placeOf_0 (by decide) ?_
  refine a_istore_n X dX8_placeOf_1 (by decide) ?_
  exact Zw.to2 (H_2 _ _ _ h) rfl rfl rfl
noncomputable def D_X8_applicantOf_6 (P : Nat) : Nat → Int32 → Int32 → zMt → Option (Int32 × zMt)
  | 0, _, _, _ => none
  | n + 1, x1_6, x2_6, M_6 =>
    zI x2_6 10 <|
    zB (D_X8_has (M_6 (P + 11) x2_6.toNatClampNeg) x1_6) fun e_13 =>
    if e_13 = 0 then
      (D_X8_applicantOf_6 P n) x1_6 (x2_6 + 1) M_6
    else
      some (x2_6, M_6)
noncomputable def D_X8_applicantOf (P : Nat) (v0 : Int32) (M : zMt) : Option (Int32 × zMt) :=
  zB (D_X8_laysApplicants P M) fun e_1 =>
  D_X8_applicantOf_6 P zFu v0 (0 : Int32) e_1
set_option maxRecDepth 100000 in
set_option maxHeartbeats 4000000 in
theorem t_X8_applicantOf {l : Launch} {G : zG} {b : Nat} {L : List zC} {M : zMt} {N : zNt} {P : Nat} {v0 : Int32} (hP : LX8 L P) {r : Int32 × zMt} (h : D_X8_applicantOf P v0 M = some r) : zM l G b yX8_applicantOf cX8_applicantOf 3 (some .int) 3 0 0 [.ref P, .int v0] (L, M, N) (fun r2 z => r2 = some (.int r.1) ∧ z = (L, r.2, N)) := by
  refine zM.of miX8_applicantOf (Nat.le_of_ble_eq_true rfl) ?_
  intro p e s m args below meth c X hr hname
  generalize hF : ((fun r2 z => r2 = some (.int r.1) ∧ z = (L, r.2, N)) : Option Value → zS → Prop) = FQ
  change Zw p l e { frames := 3, cells := 0, slots := 0, locals := 80 * (3) } s m args below meth c G b 3 (MQ below (zQ G b FQ) args s 0 0 (fun q : Nat => b ≤ q)) 0 0 0 [some (.ref P), some (.int v0), none] [] (L, M, N)
  obtain ⟨p_lt, p_o, p_s, p_read, p_aside, p_kept, p_guest, p_readGuest, p_tape, p_unitName, p_hunterName, p_partyName, p_bits, p_partyOf, p_choiceAt, p_sizes, p_guestMany, p_pointsOf, p_ticketsOf, p_ord, p_given, p_roundOf, p_tags, p_guestTags, p_places, p_sumAt, p_sumFirst, p_sumRound, p_sumBoth, p_sumTags, p_isEnd, p_newPoints, p_inRow, p_out⟩ := id hP
  have L_6 : ∀ u : Nat, ∀ (x1_6 : Int32) (x2_6 : Int32) (M_6 : zMt), D_X8_applicantOf_6 P u x1_6 x2_6 M_6 = some r → Zw p l e { frames := 3, cells := 0, slots := 0, locals := 80 * (3) } s m args below meth c G b 3 (MQ below (zQ G b FQ) args s 0 0 (fun q : Nat => b ≤ q)) 0 0 6 [some (.ref (P)), some (.int x1_6), some (.int x2_6)] [] (L, M_6, N) := by
    intro u
    induction u with
    | zero => intro x1_6 x2_6 M_6 h; cases (show none = some r from h)
    | succ u_6 ih_6 =>
      intro x1_6 x2_6 M_6 h
      rw [D_X8_applicantOf_6] at h
      refine a_aload_n X dX8_applicantOf_6 rfl ?_
      refine a_getr X lf8_49 (by assumption) rfl (by omega) dX8_applicantOf_7 ?_
      refine a_iload_n X dX8_applicantOf_10 rfl ?_
      obtain ⟨g_11, h⟩ := zIx h
      refine a_iaload X (by assumption) g_11 dX8_applicantOf_11 ?_
      refine a_iload_n X dX8_applicantOf_12 rfl ?_
      obtain ⟨e_13, f_13, h⟩ := zBx h
      refine a_callSx X dX8_applicantOf_13 miX8_has lm8_240 (t_X8_has f_13) rfl rfl (Nat.le_of_ble_eq_true rfl) ⟨by decide, by decide, by decide, by decide⟩ (fun r_13 S_13 q_13 => ?_)
      obtain ⟨rfl, rfl, b_13⟩ := q_13
      refine a_if_ne (tgt := 25) X dX8_applicantOf_16 (by decide) (fun h_16 => ?_) (fun h_16 => ?_)
      · replace h := (if_neg h_16).symm.trans h
        refine a_iload_n X dX8_applicantOf_25 rfl ?_
        refine a_iret X hr dX8_applicantOf_26 ⟨by decide, by decide⟩ ?_
        subst hF
        rw [← Option.some.inj h]
        exact ⟨rfl, rfl⟩
      · replace h := (if_pos h_16).symm.trans h
        refine a_iinc (v := x2_6 + 1) X dX8_applicantOf_19 (by decide) rfl zi_1 ?_
        refine a_goto (tgt := 6) X dX8_applicantOf_22 (by decide) ?_
        exact Zw.to2 (ih_6 _ _ _ h) rfl rfl rfl
  have H_6 : ∀ (x1_6 : Int32) (x2_6 : Int32) (M_6 : zMt), D_X8_applicantOf_6 P zFu x1_6 x2_6 M_6 = some r → Zw p l e { frames := 3, cells := 0, slots := 0, locals := 80 * (3) } s m args below meth c G b 3 (MQ below (zQ G b FQ) args s 0 0 (fun q : Nat => b ≤ q)) 0 0 6 [some (.ref (P)), some (.int x1_6), some (.int x2_6)] [] (L, M_6, N) := L_6 zFu
  unfold D_X8_applicantOf at h
  refine a_aload_n X dX8_applicantOf_0 rfl ?_
  obtain ⟨e_1, f_1, h⟩ := zBx h
  refine a_callVu X dX8_applicantOf_1 miX8_laysApplicants lm8_281 (t_X8_laysApplicants (by assumption) f_1) (by assumption) rfl rfl rfl (Nat.le_of_ble_eq_true rfl) ⟨by decide, by decide, by decide, by decide⟩ ?_
  refine a_iconst (v := 0) X dX8_applicantOf_4 (by decide) ?_
  refine a_istore_n X dX8_applicantOf_5 (by decide) ?_
  exact Zw.to2 (H_6 _ _ _ h) rfl rfl rfl
noncomputable def D_X8_many_219 (P : Nat) (k196 : Int32 → Int32 → zMt → Option (Int32 × zMt)) (x3_219 : Int32) (y0_219 : Int32) (y1_219 : Int32) (M_219 : zMt) : Option (Int32 × zMt) :=
  k196 (y0_219 + y1_219) (x3_219 + 1) M_219
noncomputable def D_X8_many_196 (P : Nat) : Nat → Int32 → Int32 → zMt → Option (Int32 × zMt)
  | 0, _, _, _ => none
  | n + 1, x2_196, x3_196, M_196 =>
    if (M_196 P 8) ≤ x3_196 then
      zB (D_X8_gives P x2_196 M_196) fun e_229 =>
      some (e_229.1, e_229.2)
    else
      zI x3_196 10 <|
      if (M_196 (P + 5) x3_196.toNatClampNeg) = 0 then
        D_X8_many_219 P (D_X8_many_196 P n) x3_196 x2_196 (0 : Int32) M_196
      else
        D_X8_many_219 P (D_X8_many_196 P n) x3_196 x2_196 (1 : Int32) M_196
noncomputable def D_X8_many_162 (P : Nat) : Nat → Int32 → Int32 → zMt → Option (Int32 × zMt)
  | 0, _, _, _ => none
  | n + 1, x2_162, x3_162, M_162 =>
    if (M_162 P 7) ≤ x3_162 then
      zB (D_X8_gives P x2_162 M_162) fun e_190 =>
      some (e_190.1, e_190.2)
    else
      zI ((62 : Int32) + x3_162) 82 <|
      (D_X8_many_162 P n) (x2_162 + (M_162 (P + 1) ((62 : Int32) + x3_162).toNatClampNeg)) (x3_162 + 1) M_162
noncomputable def D_X8_many (P : Nat) (v0 : Int32) (M : zMt) : Option (Int32 × zMt) :=
  zB (D_X8_laysApplicants P M) fun e_1 =>
  if Int32.toInt v0 = 0 then
    zB (D_X8_gives P (e_1 P 7) e_1) fun e_69 =>
    some (e_69.1, e_69.2)
  else
  if Int32.toInt v0 = 1 then
    zB (D_X8_gives P (e_1 P 8) e_1) fun e_78 =>
    some (e_78.1, e_78.2)
  else
  if Int32.toInt v0 = 2 then
    zI (70 : Int32) 82 <|
    zB (D_X8_gives P (e_1 (P + 1) (70 : Int32).toNatClampNeg) e_1) fun e_90 =>
    some (e_90.1, e_90.2)
  else
  if Int32.toInt v0 = 3 then
    zB (D_X8_gives P (e_1 P 33) e_1) fun e_99 =>
    some (e_99.1, e_99.2)
  else
  if Int32.toInt v0 = 4 then
    zI (67 : Int32) 82 <|
    zB (D_X8_gives P (e_1 (P + 1) (67 : Int32).toNatClampNeg) e_1) fun e_111 =>
    some (e_111.1, e_111.2)
  else
  if Int32.toInt v0 = 5 then
    zI (68 : Int32) 82 <|
    zB (D_X8_gives P (e_1 (P + 1) (68 : Int32).toNatClampNeg) e_1) fun e_123 =>
    some (e_123.1, e_123.2)
  else
  if Int32.toInt v0 = 6 then
    zI (69 : Int32) 82 <|
    zB (D_X8_gives P (e_1 (P + 1) (69 : Int32).toNatClampNeg) e_1) fun e_135 =>
    some (e_135.1, e_135.2)
  else
  if Int32.toInt v0 = 7 then
    zI (71 : Int32) 82 <|
    zB (D_X8_gives P (e_1 (P + 1) (71 : Int32).toNatClampNeg) e_1) fun e_147 =>
    some (e_147.1, e_147.2)
  else
  if Int32.toInt v0 = 8 then
    zB (D_X8_gives P (e_1 P 9) e_1) fun e_156 =>
    some (e_156.1, e_156.2)
  else
  if Int32.toInt v0 = 9 then
    D_X8_many_162 P zFu (0 : Int32) (0 : Int32) e_1
  else
  if Int32.toInt v0 = 10 then
    D_X8_many_196 P zFu (0 : Int32) (0 : Int32) e_1
  else
    zB (D_X8_refuse P (1 : Int32) e_1) fun e_235 =>
    some (e_235.1, e_235.2)
set_option maxRecDepth 100000 in
set_option maxHeartbeats 4000000 in
theorem t_X8_many {l : Launch} {G : zG} {b : Nat} {L : List zC} {M : zMt} {N : zNt} {P : Nat} {v0 : Int32} (hP : LX8 L P) {r : Int32 × zMt} (h : D_X8_many P v0 M = some r) : zM l G b yX8_many cX8_many 4 (some .int) 3 0 0 [.ref P, .int v0] (L, M, N) (fun r2 z => r2 = some (.int r.1) ∧ z = (L, r.2, N)) := by
  refine zM.of miX8_many (Nat.le_of_ble_eq_true rfl) ?_
  intro p e s m args below meth c X hr hname
  generalize hF : ((fun r2 z => r2 = some (.int r.1) ∧ z = (L, r.2, N)) : Option Value → zS → Prop) = FQ
  change Zw p l e { frames := 3, cells := 0, slots := 0, locals := 80 * (3) } s m args below meth c G b 4 (MQ below (zQ G b FQ) args s 0 0 (fun q : Nat => b ≤ q)) 0 0 0 [some (.ref P), some (.int v0), none, none] [] (L, M, N)
  obtain ⟨p_lt, p_o, p_s, p_read, p_aside, p_kept, p_guest, p_readGuest, p_tape, p_unitName, p_hunterName, p_partyName, p_bits, p_partyOf, p_choiceAt, p_sizes, p_guestMany, p_pointsOf, p_ticketsOf, p_ord, p_given, p_roundOf, p_tags, p_guestTags, p_places, p_sumAt, p_sumFirst, p_sumRound, p_sumBoth, p_sumTags, p_isEnd, p_newPoints, p_inRow, p_out⟩ := id hP
  have L_196 : ∀ u : Nat, ∀ (x1_196 : Int32) (x2_196 : Int32) (x3_196 : Int32) (M_196 : zMt), D_X8_many_196 P u x2_196 x3_196 M_196 = some r → Zw p l e { frames := 3, cells := 0, slots := 0, locals := 80 * (3) } s m args below meth c G b 4 (MQ below (zQ G b FQ) args s 0 0 (fun q : Nat => b ≤ q)) 0 0 196 [some (.ref (P)), some (.int x1_196), some (.int x2_196), some (.int x3_196)] [] (L, M_196, N) := by
    intro u
    induction u with
    | zero => intro x1_196 x2_196 x3_196 M_196 h; cases (show none = some r from h)
    | succ u_196 ih_196 =>
      have J_219 : ∀ (x1_219 : Int32) (x2_219 : Int32) (x3_219 : Int32) (y0_219 : Int32) (y1_219 : Int32) (M_219 : zMt), (y1_219 = 0 ∨ y1_219 = 1) → D_X8_many_219 P (D_X8_many_196 P u_196) x3_219 y0_219 y1_219 M_219 = some r → Zw p l e { frames := 3, cells := 0, slots := 0, locals := 80 * (3) } s m args below meth c G b 4 (MQ below (zQ G b FQ) args s 0 0 (fun q : Nat => b ≤ q)) 0 0 219 [some (.ref (P)), some (.int x1_219), some (.int x2_219), some (.int x3_219)] [.int y1_219, .int y0_219] (L, M_219, N) := by
        intro x1_219 x2_219 x3_219 y0_219 y1_219 M_219 fb_y1_219 h
        unfold D_X8_many_219 at h
        refine a_iadd X dX8_many_219 ?_
        refine a_istore_n X dX8_many_220 (by decide) ?_
        refine a_iinc (v := x3_219 + 1) X dX8_many_221 (by decide) rfl zi_1 ?_
        refine a_goto (tgt := 196) X dX8_many_224 (by decide) ?_
        exact Zw.to2 (ih_196 _ _ _ _ h) rfl rfl rfl
      intro x1_196 x2_196 x3_196 M_196 h
      rw [D_X8_many_196] at h
      refine a_iload_n X dX8_many_196 rfl ?_
      refine a_aload_n X dX8_many_197 rfl ?_
      refine a_geti X lf8_132 (by assumption) rfl dX8_many_198 ?_
      refine a_icmp_ge (tgt := 227) X dX8_many_201 (by decide) (fun h_201 => ?_) (fun h_201 => ?_)
      · replace h := (if_pos h_201).symm.trans h
        refine a_aload_n X dX8_many_227 rfl ?_
        refine a_iload_n X dX8_many_228 rfl ?_
        obtain ⟨e_229, f_229, h⟩ := zBx h
        refine a_callVv X dX8_many_229 miX8_gives lm8_272 (t_X8_gives (by assumption) f_229) (by assumption) rfl rfl rfl (Nat.le_of_ble_eq_true rfl) ⟨by decide, by decide, by decide, by decide⟩ ?_
        refine a_iret X hr dX8_many_232 ⟨by decide, by decide⟩ ?_
        subst hF
        rw [← Option.some.inj h]
        exact ⟨rfl, rfl⟩
      · replace h := (if_neg h_201).symm.trans h
        refine a_iload_n X dX8_many_204 rfl ?_
        refine a_aload_n X dX8_many_205 rfl ?_
        refine a_getr X lf8_22 (by assumption) rfl (by omega) dX8_many_206 ?_
        refine a_iload_n X dX8_many_209 rfl ?_
        obtain ⟨g_210, h⟩ := zIx h
        refine a_baload X (by assumption) g_210 dX8_many_210 ?_
        refine a_if_eq (tgt := 218) X dX8_many_211 (by decide) (fun h_211 => ?_) (fun h_211 => ?_)
        · replace h := (if_pos h_211).symm.trans h
          refine a_iconst (v := 0) X dX8_many_218 (by decide) ?_
          exact Zw.to2 (J_219 _ _ _ _ _ _ (by first | exact Or.inl rfl | exact Or.inr rfl | assumption) h) rfl rfl rfl
        · replace h := (if_neg h_211).symm.trans h
          refine a_iconst (v := 1) X dX8_many_214 (by decide) ?_
          refine a_goto (tgt := 219) X dX8_many_215 (by decide) ?_
          exact Zw.to2 (J_219 _ _ _ _ _ _ (by first | exact Or.inl rfl | exact Or.inr rfl | assumption) h) rfl rfl rfl
  have H_196 : ∀ (x1_196 : Int32) (x2_196 : Int32) (x3_196 : Int32) (M_196 : zMt), D_X8_many_196 P zFu x2_196 x3_196 M_196 = some r → Zw p l e { frames := 3, cells := 0, slots := 0, locals := 80 * (3) } s m args below meth c G b 4 (MQ below (zQ G b FQ) args s 0 0 (fun q : Nat => b ≤ q)) 0 0 196 [some (.ref (P)), some (.int x1_196), some (.int x2_196), some (.int x3_196)] [] (L, M_196, N) := L_196 zFu
  have L_162 : ∀ u : Nat, ∀ (x1_162 : Int32) (x2_162 : Int32) (x3_162 : Int32) (M_162 : zMt), D_X8_many_162 P u x2_162 x3_162 M_162 = some r → Zw p l e { frames := 3, cells := 0, slots := 0, locals := 80 * (3) } s m args below meth c G b 4 (MQ below (zQ G b FQ) args s 0 0 (fun q : Nat => b ≤ q)) 0 0 162 [some (.ref (P)), some (.int x1_162), some (.int x2_162), some (.int x3_162)] [] (L, M_162, N) := by
    intro u
    induction u with
    | zero => intro x1_162 x2_162 x3_162 M_162 h; cases (show none = some r from h)
    | succ u_162 ih_162 =>
      intro x1_162 x2_162 x3_162 M_162 h
      rw [D_X8_many_162] at h
      refine a_iload_n X dX8_many_162 rfl ?_
      refine a_aload_n X dX8_many_163 rfl ?_
      refine a_geti X lf8_125 (by assumption) rfl dX8_many_164 ?_
      refine a_icmp_ge (tgt := 188) X dX8_many_167 (by decide) (fun h_167 => ?_) (fun h_167 => ?_)
      · replace h := (if_pos h_167).symm.trans h
        refine a_aload_n X dX8_many_188 rfl ?_
        refine a_iload_n X dX8_many_189 rfl ?_
        obtain ⟨e_190, f_190, h⟩ := zBx h
        refine a_callVv X dX8_many_190 miX8_gives lm8_272 (t_X8_gives (by assumption) f_190) (by assumption) rfl rfl rfl (Nat.le_of_ble_eq_true rfl) ⟨by decide, by decide, by decide, by decide⟩ ?_
        refine a_iret X hr dX8_many_193 ⟨by decide, by decide⟩ ?_
        subst hF
        rw [← Option.some.inj h]
        exact ⟨rfl, rfl⟩
      · replace h := (if_neg h_167).symm.trans h
        refine a_iload_n X dX8_many_170 rfl ?_
        refine a_aload_n X dX8_many_171 rfl ?_
        refine a_getr X lf8_7 (by assumption) rfl (by omega) dX8_many_172 ?_
        refine a_bipush (v := 62) X dX8_many_175 (by decide) ?_
        refine a_iload_n X dX8_many_177 rfl ?_
        refine a_iadd X dX8_many_178 ?_
        obtain ⟨g_179, h⟩ := zIx h
        refine a_iaload X (by assumption) g_179 dX8_many_179 ?_
        refine a_iadd X dX8_many_180 ?_
        refine a_istore_n X dX8_many_181 (by decide) ?_
        refine a_iinc (v := x3_162 + 1) X dX8_many_182 (by decide) rfl zi_1 ?_
        refine a_goto (tgt := 162) X dX8_many_185 (by decide) ?_
        exact Zw.to2 (ih_162 _ _ _ _ h) rfl rfl rfl
  have H_162 : ∀ (x1_162 : Int32) (x2_162 : Int32) (x3_162 : Int32) (M_162 : zMt), D_X8_many_162 P zFu x2_162 x3_162 M_162 = some r → Zw p l e { frames := 3, cells := 0, slots := 0, locals := 80 * (3) } s m args below meth c G b 4 (MQ below (zQ G b FQ) args s 0 0 (fun q : Nat => b ≤ q)) 0 0 162 [some (.ref (P)), some (.int x1_162), some (.int x2_162), some (.int x3_162)] [] (L, M_162, N) := L_162 zFu
  unfold D_X8_many at h
  refine a_aload_n X dX8_many_0 rfl ?_
  obtain ⟨e_1, f_1, h⟩ := zBx h
  refine a_callVu X dX8_many_1 miX8_laysApplicants lm8_281 (t_X8_laysApplicants (by assumption) f_1) (by assumption) rfl rfl rfl (Nat.le_of_ble_eq_true rfl) ⟨by decide, by decide, by decide, by decide⟩ ?_
  refine a_iconst (v := 0) X dX8_many_4 (by decide) ?_
  refine a_istore_n X dX8_many_5 (by decide) ?_
  refine a_iload_n X dX8_many_6 rfl ?_
  refine a_tsw (tg := [64, 73, 82, 94, 103, 115, 127, 139, 151, 160, 194]) (td := 233) X dX8_many_7 (by decide +kernel) (by decide) (by decide) (fun k_7 t_7 ht_7 hx_7 => ?_) (fun hx_7 => ?_)
  · match k_7, ht_7, hx_7 with
    | 0, ht_7, hx_7 =>
      cases ht_7
      replace h := (if_pos (by omega)).symm.trans h
      refine a_aload_n X dX8_many_64 rfl ?_
      refine a_aload_n X dX8_many_65 rfl ?_
      refine a_geti X lf8_125 (by assumption) rfl dX8_many_66 ?_
      obtain ⟨e_69, f_69, h⟩ := zBx h
      refine a_callVv X dX8_many_69 miX8_gives lm8_272 (t_X8_gives (by assumption) f_69) (by assumption) rfl rfl rfl (Nat.le_of_ble_eq_true rfl) ⟨by decide, by decide, by decide, by decide⟩ ?_
      refine a_iret X hr dX8_many_72 ⟨by decide, by decide⟩ ?_
      subst hF
      rw [← Option.some.inj h]
      exact ⟨rfl, rfl⟩
    | 1, ht_7, hx_7 =>
      cases ht_7
      replace h := (if_neg (by omega)).symm.trans h
      replace h := (if_pos (by omega)).symm.trans h
      refine a_aload_n X dX8_many_73 rfl ?_
      refine a_aload_n X dX8_many_74 rfl ?_
      refine a_geti X lf8_132 (by assumption) rfl dX8_many_75 ?_
      obtain ⟨e_78, f_78, h⟩ := zBx h
      refine a_callVv X dX8_many_78 miX8_gives lm8_272 (t_X8_gives (by assumption) f_78) (by assumption) rfl rfl rfl (Nat.le_of_ble_eq_true rfl) ⟨by decide, by decide, by decide, by decide⟩ ?_
      refine a_iret X hr dX8_many_81 ⟨by decide, by decide⟩ ?_
      subst hF
      rw [← Option.some.inj h]
      exact ⟨rfl, rfl⟩
    | 2, ht_7, hx_7 =>
      cases ht_7
      replace h := (if_neg (by omega)).symm.trans h
      replace h := (if_neg (by omega)).symm.trans h
      replace h := (if_pos (by omega)).symm.trans h
      refine a_aload_n X dX8_many_82 rfl ?_
      refine a_aload_n X dX8_many_83 rfl ?_
      refine a_getr X lf8_7 (by assumption) rfl (by omega) dX8_many_84 ?_
      refine a_bipush (v := 70) X dX8_many_87 (by decide) ?_
      obtain ⟨g_89, h⟩ := zIx h
      refine a_iaload X (by assumption) g_89 dX8_many_89 ?_
      obtain ⟨e_90, f_90, h⟩ := zBx h
      refine a_callVv X dX8_many_90 miX8_gives lm8_272 (t_X8_gives (by assumption) f_90) (by assumption) rfl rfl rfl (Nat.le_of_ble_eq_true rfl) ⟨by decide, by decide, by decide, by decide⟩ ?_
      refine a_iret X hr dX8_many_93 ⟨by decide, by decide⟩ ?_
      subst hF
      rw [← Option.some.inj h]
      exact ⟨rfl, rfl⟩
    | 3, ht_7, hx_7 =>
      cases ht_7
      replace h := (if_neg (by omega)).symm.trans h
      replace h := (if_neg (by omega)).symm.trans h
      replace h := (if_neg (by omega)).symm.trans h
      replace h := (if_pos (by omega)).symm.trans h
      refine a_aload_n X dX8_many_94 rfl ?_
      refine a_aload_n X dX8_many_95 rfl ?_
      refine a_geti X lf8_275 (by assumption) rfl dX8_many_96 ?_
      obtain ⟨e_99, f_99, h⟩ := zBx h
      refine a_callVv X dX8_many_99 miX8_gives lm8_272 (t_X8_gives (by assumption) f_99) (by assumption) rfl rfl rfl (Nat.le_of_ble_eq_true rfl) ⟨by decide, by decide, by decide, by decide⟩ ?_
      refine a_iret X hr dX8_many_102 ⟨by decide, by decide⟩ ?_
      subst hF
      rw [← Option.some.inj h]
      exact ⟨rfl, rfl⟩
    | 4, ht_7, hx_7 =>
      cases ht_7
      replace h := (if_neg (by omega)).symm.trans h
      replace h := (if_neg (by omega)).symm.trans h
      replace h := (if_neg (by omega)).symm.trans h
      replace h := (if_neg (by omega)).symm.trans h
      replace h := (if_pos (by omega)).symm.trans h
      refine a_aload_n X dX8_many_103 rfl ?_
      refine a_aload_n X dX8_many_104 rfl ?_
      refine a_getr X lf8_7 (by assumption) rfl (by omega) dX8_many_105 ?_
      refine a_bipush (v := 67) X dX8_many_108 (by decide) ?_
      obtain ⟨g_110, h⟩ := zIx h
      refine a_iaload X (by assumption) g_110 dX8_many_110 ?_
      obtain ⟨e_111, f_111, h⟩ := zBx h
      refine a_callVv X dX8_many_111 miX8_gives lm8_272 (t_X8_gives (by assumption) f_111) (by assumption) rfl rfl rfl (Nat.le_of_ble_eq_true rfl) ⟨by decide, by decide, by decide, by decide⟩ ?_
      refine a_iret X hr dX8_many_114 ⟨by decide, by decide⟩ ?_
      subst hF
      rw [← Option.some.inj h]
      exact ⟨rfl, rfl⟩
    | 5, ht_7, hx_7 =>
      cases ht_7
      replace h := (if_neg (by omega)).symm.trans h
      replace h := (if_neg (by omega)).symm.trans h
      replace h := (if_neg (by omega)).symm.trans h
      replace h := (if_neg (by omega)).symm.trans h
      replace h := (if_neg (by omega)).symm.trans h
      replace h := (if_pos (by omega)).symm.trans h
      refine a_aload_n X dX8_many_115 rfl ?_
      refine a_aload_n X dX8_many_116 rfl ?_
      refine a_getr X lf8_7 (by assumption) rfl (by omega) dX8_many_117 ?_
      refine a_bipush (v := 68) X dX8_many_120 (by decide) ?_
      obtain ⟨g_122, h⟩ := zIx h
      refine a_iaload X (by assumption) g_122 dX8_many_122 ?_
      obtain ⟨e_123, f_123, h⟩ := zBx h
      refine a_callVv X dX8_many_123 miX8_gives lm8_272 (t_X8_gives (by assumption) f_123) (by assumption) rfl rfl rfl (Nat.le_of_ble_eq_true rfl) ⟨by decide, by decide, by decide, by decide⟩ ?_
      refine a_iret X hr dX8_many_126 ⟨by decide, by decide⟩ ?_
      subst hF
      rw [← Option.some.inj h]
      exact ⟨rfl, rfl⟩
    | 6, ht_7, hx_7 =>
      cases ht_7
      replace h := (if_neg (by omega)).symm.trans h
      replace h := (if_neg (by omega)).symm.trans h
      replace h := (if_neg (by omega)).symm.trans h
      replace h := (if_neg (by omega)).symm.trans h
      replace h := (if_neg (by omega)).symm.trans h
      replace h := (if_neg (by omega)).symm.trans h
      replace h := (if_pos (by omega)).symm.trans h
      refine a_aload_n X dX8_many_127 rfl ?_
      refine a_aload_n X dX8_many_128 rfl ?_
      refine a_getr X lf8_7 (by assumption) rfl (by omega) dX8_many_129 ?_
      refine a_bipush (v := 69) X dX8_many_132 (by decide) ?_
      obtain ⟨g_134, h⟩ := zIx h
      refine a_iaload X (by assumption) g_134 dX8_many_134 ?_
      obtain ⟨e_135, f_135, h⟩ := zBx h
      refine a_callVv X dX8_many_135 miX8_gives lm8_272 (t_X8_gives (by assumption) f_135) (by assumption) rfl rfl rfl (Nat.le_of_ble_eq_true rfl) ⟨by decide, by decide, by decide, by decide⟩ ?_
      refine a_iret X hr dX8_many_138 ⟨by decide, by decide⟩ ?_
      subst hF
      rw [← Option.some.inj h]
      exact ⟨rfl, rfl⟩
    | 7, ht_7, hx_7 =>
      cases ht_7
      replace h := (if_neg (by omega)).symm.trans h
      replace h := (if_neg (by omega)).symm.trans h
      replace h := (if_neg (by omega)).symm.trans h
      replace h := (if_neg (by omega)).symm.trans h
      replace h := (if_neg (by omega)).symm.trans h
      replace h := (if_neg (by omega)).symm.trans h
      replace h := (if_neg (by omega)).symm.trans h
      replace h := (if_pos (by omega)).symm.trans h
      refine a_aload_n X dX8_many_139 rfl ?_
      refine a_aload_n X dX8_many_140 rfl ?_
      refine a_getr X lf8_7 (by assumption) rfl (by omega) dX8_many_141 ?_
      refine a_bipush (v := 71) X dX8_many_144 (by decide) ?_
      obtain ⟨g_146, h⟩ := zIx h
      refine a_iaload X (by assumption) g_146 dX8_many_146 ?_
      obtain ⟨e_147, f_147, h⟩ := zBx h
      refine a_callVv X dX8_many_147 miX8_gives lm8_272 (t_X8_gives (by assumption) f_147) (by assumption) rfl rfl rfl (Nat.le_of_ble_eq_true rfl) ⟨by decide, by decide, by decide, by decide⟩ ?_
      refine a_iret X hr dX8_many_150 ⟨by decide, by decide⟩ ?_
      subst hF
      rw [← Option.some.inj h]
      exact ⟨rfl, rfl⟩
    | 8, ht_7, hx_7 =>
      cases ht_7
      replace h := (if_neg (by omega)).symm.trans h
      replace h := (if_neg (by omega)).symm.trans h
      replace h := (if_neg (by omega)).symm.trans h
      replace h := (if_neg (by omega)).symm.trans h
      replace h := (if_neg (by omega)).symm.trans h
      replace h := (if_neg (by omega)).symm.trans h
      replace h := (if_neg (by omega)).symm.trans h
      replace h := (if_neg (by omega)).symm.trans h
      replace h := (if_pos (by omega)).symm.trans h
      refine a_aload_n X dX8_many_151 rfl ?_
      refine a_aload_n X dX8_many_152 rfl ?_
      refine a_geti X lf8_269 (by assumption) rfl dX8_many_153 ?_
      obtain ⟨e_156, f_156, h⟩ := zBx h
      refine a_callVv X dX8_many_156 miX8_gives lm8_272 (t_X8_gives (by assumption) f_156) (by assumption) rfl rfl rfl (Nat.le_of_ble_eq_true rfl) ⟨by decide, by decide, by decide, by decide⟩ ?_
      refine a_iret X hr dX8_many_159 ⟨by decide, by decide⟩ ?_
      subst hF
      rw [← Option.some.inj h]
      exact ⟨rfl, rfl⟩
    | 9, ht_7, hx_7 =>
      cases ht_7
      replace h := (if_neg (by omega)).symm.trans h
      replace h := (if_neg (by omega)).symm.trans h
      replace h := (if_neg (by omega)).symm.trans h
      replace h := (if_neg (by omega)).symm.trans h
      replace h := (if_neg (by omega)).symm.trans h
      replace h := (if_neg (by omega)).symm.trans h
      replace h := (if_neg (by omega)).symm.trans h
      replace h := (if_neg (by omega)).symm.trans h
      replace h := (if_neg (by omega)).symm.trans h
      replace h := (if_pos (by omega)).symm.trans h
      refine a_iconst (v := 0) X dX8_many_160 (by decide) ?_
      refine a_istore_n X dX8_many_161 (by decide) ?_
      exact Zw.to2 (H_162 _ _ _ _ h) rfl rfl rfl
    | 10, ht_7, hx_7 =>
      cases ht_7
      replace h := (if_neg (by omega)).symm.trans h
      replace h := (if_neg (by omega)).symm.trans h
      replace h := (if_neg (by omega)).symm.trans h
      replace h := (if_neg (by omega)).symm.trans h
      replace h := (if_neg (by omega)).symm.trans h
      replace h := (if_neg (by omega)).symm.trans h
      replace h := (if_neg (by omega)).symm.trans h
      replace h := (if_neg (by omega)).symm.trans h
      replace h := (if_neg (by omega)).symm.trans h
      replace h := (if_neg (by omega)).symm.trans h
      replace h := (if_pos (by omega)).symm.trans h
      refine a_iconst (v := 0) X dX8_many_194 (by decide) ?_
      refine a_istore_n X dX8_many_195 (by decide) ?_
      exact Zw.to2 (H_196 _ _ _ _ h) rfl rfl rfl
  · skip
    replace h := (if_neg (by omega)).symm.trans h
    replace h := (if_neg (by omega)).symm.trans h
    replace h := (if_neg (by omega)).symm.trans h
    replace h := (if_neg (by omega)).symm.trans h
    replace h := (if_neg (by omega)).symm.trans h
    replace h := (if_neg (by omega)).symm.trans h
    replace h := (if_neg (by omega)).symm.trans h
    replace h := (if_neg (by omega)).symm.trans h
    replace h := (if_neg (by omega)).symm.trans h
    replace h := (if_neg (by omega)).symm.trans h
    replace h := (if_neg (by omega)).symm.trans h
    refine a_aload_n X dX8_many_233 rfl ?_
    refine a_iconst (v := 1) X dX8_many_234 (by decide) ?_
    obtain ⟨e_235, f_235, h⟩ := zBx h
    refine a_callVv X dX8_many_235 miX8_refuse lm8_263 (t_X8_refuse (by assumption) f_235) (by assumption) rfl rfl rfl (Nat.le_of_ble_eq_true rfl) ⟨by decide, by decide, by decide, by decide⟩ ?_
    refine a_iret X hr dX8_many_238 ⟨by decide, by decide⟩ ?_
    subst hF
    rw [← Option.some.inj h]
    exact ⟨rfl, rfl⟩
noncomputable def D_X8_hunter_92 (P : Nat) (y1_92 : Int32) (M_92 : zMt) : Option (Int32 × zMt) :=
  zB (D_X8_gives P y1_92 M_92) fun e_92 =>
  some (e_92.1, e_92.2)
noncomputable def D_X8_hunter (P : Nat) (v0 : Int32) (v1 : Int32) (M : zMt) : Option (Int32 × zMt) :=
  zB (D_X8_isFrom (Int32.toInt64 v1) (0 : Int64) (4 : Int64)) fun e_6 =>
  if e_6 = 0 then
    zB (D_X8_refuse P (1 : Int32) M) fun e_14 =>
    some (e_14.1, e_14.2)
  else
    zB (D_X8_isHunter P M v0) fun e_20 =>
    if e_20 = 0 then
      zB (D_X8_refuse P (2 : Int32) M) fun e_28 =>
      some (e_28.1, e_28.2)
    else
      if Int32.toInt v1 = 0 then
        zI ((0 : Int32) + v0) 82 <|
        zB (D_X8_gives P (M (P + 1) ((0 : Int32) + v0).toNatClampNeg) M) fun e_73 =>
        some (e_73.1, e_73.2)
      else
      if Int32.toInt v1 = 1 then
        zI v0 10 <|
        if (M (P + 5) v0.toNatClampNeg) = 0 then
          D_X8_hunter_92 P (0 : Int32) M
        else
          D_X8_hunter_92 P (1 : Int32) M
      else
      if Int32.toInt v1 = 2 then
        zI ((10 : Int32) + v0) 82 <|
        zB (D_X8_gives P (M (P + 1) ((10 : Int32) + v0).toNatClampNeg) M) fun e_106 =>
        some (e_106.1, e_106.2)
      else
      if Int32.toInt v1 = 3 then
        zB (D_X8_applicantOf P v0 M) fun e_113 =>
        zB (D_X8_gives P e_113.1 e_113.2) fun e_116 =>
        some (e_116.1, e_116.2)
      else
        zI ((72 : Int32) + v0) 82 <|
        zB (D_X8_gives P (M (P + 1) ((72 : Int32) + v0).toNatClampNeg) M) fun e_130 =>
        some (e_130.1, e_130.2)
set_option maxRecDepth 100000 in
set_option maxHeartbeats 4000000 in
theorem t_X8_hunter {l : Launch} {G : zG} {b : Nat} {L : List zC} {M : zMt} {N : zNt} {P : Nat} {v0 : Int32} {v1 : Int32} (hP : LX8 L P) {r : Int32 × zMt} (h : D_X8_hunter P v0 v1 M = some r) : zM l G b yX8_hunter cX8_hunter 3 (some .int) 4 0 0 [.ref P, .int v0, .int v1] (L, M, N) (fun r2 z => r2 = some (.int r.1) ∧ z = (L, r.2, N)) := by
  refine zM.of miX8_hunter (Nat.le_of_ble_eq_true rfl) ?_
  intro p e s m args below meth c X hr hname
  generalize hF : ((fun r2 z => r2 = some (.int r.1) ∧ z = (L, r.2, N)) : Option Value → zS → Prop) = FQ
  change Zw p l e { frames := 4, cells := 0, slots := 0, locals := 80 * (4) } s m args below meth c G b 3 (MQ below (zQ G b FQ) args s 0 0 (fun q : Nat => b ≤ q)) 0 0 0 [some (.ref P), some (.int v0), some (.int v1)] [] (L, M, N)
  obtain ⟨p_lt, p_o, p_s, p_read, p_aside, p_kept, p_guest, p_readGuest, p_tape, p_unitName, p_hunterName, p_partyName, p_bits, p_partyOf, p_choiceAt, p_sizes, p_guestMany, p_pointsOf, p_ticketsOf, p_ord, p_given, p_roundOf, p_tags, p_guestTags, p_places, p_sumAt, p_sumFirst, p_sumRound, p_sumBoth, p_sumTags, p_isEnd, p_newPoints, p_inRow, p_out⟩ := id hP
  have J_92 : ∀ (x1_92 : Int32) (x2_92 : Int32) (y1_92 : Int32) (M_92 : zMt), (y1_92 = 0 ∨ y1_92 = 1) → D_X8_hunter_92 P y1_92 M_92 = some r → Zw p l e { frames := 4, cells := 0, slots := 0, locals := 80 * (4) } s m args below meth c G b 3 (MQ below (zQ G b FQ) args s 0 0 (fun q : Nat => b ≤ q)) 0 0 92 [some (.ref (P)), some (.int x1_92), some (.int x2_92)] [.int y1_92, .ref (P)] (L, M_92, N) := by
    intro x1_92 x2_92 y1_92 M_92 fb_y1_92 h
    unfold D_X8_hunter_92 at h
    obtain ⟨e_92, f_92, h⟩ := zBx h
    refine a_callVv X dX8_hunter_92 miX8_gives lm8_272 (t_X8_gives (by assumption) f_92) (by assumption) rfl rfl rfl (Nat.le_of_ble_eq_true rfl) ⟨by decide, by decide, by decide, by decide⟩ ?_
    refine a_iret X hr dX8_hunter_95 ⟨by decide, by decide⟩ ?_
    subst hF
    rw [← Option.some.inj h]
    exact ⟨rfl, rfl⟩
  unfold D_X8_hunter at h
  refine a_iload_n X dX8_hunter_0 rfl ?_
  refine a_i2l X dX8_hunter_1 ?_
  refine a_lconst (v := 0) X dX8_hunter_2 (by decide) ?_
  refine a_ldc2 X dX8_hunter_3 lk8_291 ?_
  obtain ⟨e_6, f_6, h⟩ := zBx h
  refine a_callSx X dX8_hunter_6 miX8_isFrom lm8_128 (t_X8_isFrom f_6) rfl rfl (Nat.le_of_ble_eq_true rfl) ⟨by decide, by decide, by decide, by decide⟩ (fun r_6 S_6 q_6 => ?_)
  obtain ⟨rfl, rfl, b_6⟩ := q_6
  refine a_if_ne (tgt := 18) X dX8_hunter_9 (by decide) (fun h_9 => ?_) (fun h_9 => ?_)
  · replace h := (if_neg h_9).symm.trans h
    refine a_aload_n X dX8_hunter_18 rfl ?_
    refine a_iload_n X dX8_hunter_19 rfl ?_
    obtain ⟨e_20, f_20, h⟩ := zBx h
    refine a_callVx X dX8_hunter_20 miX8_isHunter lm8_293 (t_X8_isHunter (by assumption) f_20) (by assumption) rfl rfl rfl (Nat.le_of_ble_eq_true rfl) ⟨by decide, by decide, by decide, by decide⟩ (fun r_20 S_20 q_20 => ?_)
    obtain ⟨rfl, rfl, b_20⟩ := q_20
    refine a_if_ne (tgt := 32) X dX8_hunter_23 (by decide) (fun h_23 => ?_) (fun h_23 => ?_)
    · replace h := (if_neg h_23).symm.trans h
      refine a_iload_n X dX8_hunter_32 rfl ?_
      refine a_tsw (tg := [64, 77, 96, 110]) (td := 120) X dX8_hunter_33 (by decide +kernel) (by decide) (by decide) (fun k_33 t_33 ht_33 hx_33 => ?_) (fun hx_33 => ?_)
      · match k_33, ht_33, hx_33 with
        | 0, ht_33, hx_33 =>
          cases ht_33
          replace h := (if_pos (by omega)).symm.trans h
          refine a_aload_n X dX8_hunter_64 rfl ?_
          refine a_aload_n X dX8_hunter_65 rfl ?_
          refine a_getr X lf8_7 (by assumption) rfl (by omega) dX8_hunter_66 ?_
          refine a_iconst (v := 0) X dX8_hunter_69 (by decide) ?_
          refine a_iload_n X dX8_hunter_70 rfl ?_
          refine a_iadd X dX8_hunter_71 ?_
          obtain ⟨g_72, h⟩ := zIx h
          refine a_iaload X (by assumption) g_72 dX8_hunter_72 ?_
          obtain ⟨e_73, f_73, h⟩ := zBx h
          refine a_callVv X dX8_hunter_73 miX8_gives lm8_272 (t_X8_gives (by assumption) f_73) (by assumption) rfl rfl rfl (Nat.le_of_ble_eq_true rfl) ⟨by decide, by decide, by decide, by decide⟩ ?_
          refine a_iret X hr dX8_hunter_76 ⟨by decide, by decide⟩ ?_
          subst hF
          rw [← Option.some.inj h]
          exact ⟨rfl, rfl⟩
        | 1, ht_33, hx_33 =>
          cases ht_33
          replace h := (if_neg (by omega)).symm.trans h
          replace h := (if_pos (by omega)).symm.trans h
          refine a_aload_n X dX8_hunter_77 rfl ?_
          refine a_aload_n X dX8_hunter_78 rfl ?_
          refine a_getr X lf8_22 (by assumption) rfl (by omega) dX8_hunter_79 ?_
          refine a_iload_n X dX8_hunter_82 rfl ?_
          obtain ⟨g_83, h⟩ := zIx h
          refine a_baload X (by assumption) g_83 dX8_hunter_83 ?_
          refine a_if_eq (tgt := 91) X dX8_hunter_84 (by decide) (fun h_84 => ?_) (fun h_84 => ?_)
          · replace h := (if_pos h_84).symm.trans h
            refine a_iconst (v := 0) X dX8_hunter_91 (by decide) ?_
            exact Zw.to2 (J_92 _ _ _ _ (by first | exact Or.inl rfl | exact Or.inr rfl | assumption) h) rfl rfl rfl
          · replace h := (if_neg h_84).symm.trans h
            refine a_iconst (v := 1) X dX8_hunter_87 (by decide) ?_
            refine a_goto (tgt := 92) X dX8_hunter_88 (by decide) ?_
            exact Zw.to2 (J_92 _ _ _ _ (by first | exact Or.inl rfl | exact Or.inr rfl | assumption) h) rfl rfl rfl
        | 2, ht_33, hx_33 =>
          cases ht_33
          replace h := (if_neg (by omega)).symm.trans h
          replace h := (if_neg (by omega)).symm.trans h
          replace h := (if_pos (by omega)).symm.trans h
          refine a_aload_n X dX8_hunter_96 rfl ?_
          refine a_aload_n X dX8_hunter_97 rfl ?_
          refine a_getr X lf8_7 (by assumption) rfl (by omega) dX8_hunter_98 ?_
          refine a_bipush (v := 10) X dX8_hunter_101 (by decide) ?_
          refine a_iload_n X dX8_hunter_103 rfl ?_
          refine a_iadd X dX8_hunter_104 ?_
          obtain ⟨g_105, h⟩ := zIx h
          refine a_iaload X (by assumption) g_105 dX8_hunter_105 ?_
          obtain ⟨e_106, f_106, h⟩ := zBx h
          refine a_callVv X dX8_hunter_106 miX8_gives lm8_272 (t_X8_gives (by assumption) f_106) (by assumption) rfl rfl rfl (Nat.le_of_ble_eq_true rfl) ⟨by decide, by decide, by decide, by decide⟩ ?_
          refine a_iret X hr dX8_hunter_109 ⟨by decide, by decide⟩ ?_
          subst hF
          rw [← Option.some.inj h]
          exact ⟨rfl, rfl⟩
        | 3, ht_33, hx_33 =>
          cases ht_33
          replace h := (if_neg (by omega)).symm.trans h
          replace h := (if_neg (by omega)).symm.trans h
          replace h := (if_neg (by omega)).symm.trans h
          replace h := (if_pos (by omega)).symm.trans h
          refine a_aload_n X dX8_hunter_110 rfl ?_
          refine a_aload_n X dX8_hunter_111 rfl ?_
          refine a_iload_n X dX8_hunter_112 rfl ?_
          obtain ⟨e_113, f_113, h⟩ := zBx h
          refine a_callVv X dX8_hunter_113 miX8_applicantOf lm8_296 (t_X8_applicantOf (by assumption) f_113) (by assumption) rfl rfl rfl (Nat.le_of_ble_eq_true rfl) ⟨by decide, by decide, by decide, by decide⟩ ?_
          obtain ⟨e_116, f_116, h⟩ := zBx h
          refine a_callVv X dX8_hunter_116 miX8_gives lm8_272 (t_X8_gives (by assumption) f_116) (by assumption) rfl rfl rfl (Nat.le_of_ble_eq_true rfl) ⟨by decide, by decide, by decide, by decide⟩ ?_
          refine a_iret X hr dX8_hunter_119 ⟨by decide, by decide⟩ ?_
          subst hF
          rw [← Option.some.inj h]
          exact ⟨rfl, rfl⟩
      · skip
        replace h := (if_neg (by omega)).symm.trans h
        replace h := (if_neg (by omega)).symm.trans h
        replace h := (if_neg (by omega)).symm.trans h
        replace h := (if_neg (by omega)).symm.trans h
        refine a_aload_n X dX8_hunter_120 rfl ?_
        refine a_aload_n X dX8_hunter_121 rfl ?_
        refine a_getr X lf8_7 (by assumption) rfl (by omega) dX8_hunter_122 ?_
        refine a_bipush (v := 72) X dX8_hunter_125 (by decide) ?_
        refine a_iload_n X dX8_hunter_127 rfl ?_
        refine a_iadd X dX8_hunter_128 ?_
        obtain ⟨g_129, h⟩ := zIx h
        refine a_iaload X (by assumption) g_129 dX8_hunter_129 ?_
        obtain ⟨e_130, f_130, h⟩ := zBx h
        refine a_callVv X dX8_hunter_130 miX8_gives lm8_272 (t_X8_gives (by assumption) f_130) (by assumption) rfl rfl rfl (Nat.le_of_ble_eq_true rfl) ⟨by decide, by decide, by decide, by decide⟩ ?_
        refine a_iret X hr dX8_hunter_133 ⟨by decide, by decide⟩ ?_
        subst hF
        rw [← Option.some.inj h]
        exact ⟨rfl, rfl⟩
    · replace h := (if_pos h_23).symm.trans h
      refine a_aload_n X dX8_hunter_26 rfl ?_
      refine a_iconst (v := 2) X dX8_hunter_27 (by decide) ?_
      obtain ⟨e_28, f_28, h⟩ := zBx h
      refine a_callVv X dX8_hunter_28 miX8_refuse lm8_263 (t_X8_refuse (by assumption) f_28) (by assumption) rfl rfl rfl (Nat.le_of_ble_eq_true rfl) ⟨by decide, by decide, by decide, by decide⟩ ?_
      refine a_iret X hr dX8_hunter_31 ⟨by decide, by decide⟩ ?_
      subst hF
      rw [← Option.some.inj h]
      exact ⟨rfl, rfl⟩
  · replace h := (if_pos h_9).symm.trans h
    refine a_aload_n X dX8_hunter_12 rfl ?_
    refine a_iconst (v := 1) X dX8_hunter_13 (by decide) ?_
    obtain ⟨e_14, f_14, h⟩ := zBx h
    refine a_callVv X dX8_hunter_14 miX8_refuse lm8_263 (t_X8_refuse (by assumption) f_14) (by assumption) rfl rfl rfl (Nat.le_of_ble_eq_true rfl) ⟨by decide, by decide, by decide, by decide⟩ ?_
    refine a_iret X hr dX8_hunter_17 ⟨by decide, by decide⟩ ?_
    subst hF
    rw [← Option.some.inj h]
    exact ⟨rfl, rfl⟩
