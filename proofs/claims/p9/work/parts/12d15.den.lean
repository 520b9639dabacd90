noncomputable def D_X8_preferred (P : Nat) (M : zMt) (v0 : Int32) : Option (Int32) :=
  zI ((62 : Int32) + v0) 82 <|
  zI (68 : Int32) 82 <|
  some ((((M (P + 1) ((62 : Int32) + v0).toNatClampNeg) * (M (P + 1) (68 : Int32).toNatClampNeg)) / (100 : Int32)))
set_option maxRecDepth 100000 in
set_option maxHeartbeats 4000000 in
theorem t_X8_preferred {l : Launch} {G : zG} {b : Nat} {L : List zC} {M : zMt} {N : zNt} {P : Nat} {v0 : Int32} (hP : LX8 L P) {r : Int32} (h : D_X8_preferred P M v0 = some r) : zM l G b yX8_preferred cX8_preferred 2 (some .int) 0 0 0 [.ref P, .int v0] (L, M, N) (fun r2 z => r2 = some (.int r) ∧ z = (L, M, N)) := by
  refine zM.of miX8_preferred (Nat.le_of_ble_eq_true rfl) ?_
  intro p e s m args below meth c X hr hname
  generalize hF : ((fun r2 z => r2 = some (.int r) ∧ z = (L, M, N)) : Option Value → zS → Prop) = FQ
  change Zw p l e { frames := 0, cells := 0, slots := 0, locals := 80 * (0) } s m args below meth c G b 2 (MQ below (zQ G b FQ) args s 0 0 (fun q : Nat => b ≤ q)) 0 0 0 [some (.ref P), some (.int v0)] [] (L, M, N)
  obtain ⟨p_lt, p_o, p_s, p_read, p_aside, p_kept, p_guest, p_readGuest, p_tape, p_unitName, p_hunterName, p_partyName, p_bits, p_partyOf, p_choiceAt, p_sizes, p_guestMany, p_pointsOf, p_ticketsOf, p_ord, p_given, p_roundOf, p_tags, p_guestTags, p_places, p_sumAt, p_sumFirst, p_sumRound, p_sumBoth, p_sumTags, p_isEnd, p_newPoints, p_inRow, p_out⟩ := id hP
  unfold D_X8_preferred at h
  refine a_aload_n X dX8_preferred_0 rfl ?_
  refine a_getr X lf8_7 (by assumption) rfl (by omega) dX8_preferred_1 ?_
  refine a_bipush (v := 62) X dX8_preferred_4 (by decide) ?_
  refine a_iload_n X dX8_preferred_6 rfl ?_
  refine a_iadd X dX8_preferred_7 ?_
  obtain ⟨g_8, h⟩ := zIx h
  refine a_iaload X (by assumption) g_8 dX8_preferred_8 ?_
  refine a_aload_n X dX8_preferred_9 rfl ?_
  refine a_getr X lf8_7 (by assumption) rfl (by omega) dX8_preferred_10 ?_
  refine a_bipush (v := 68) X dX8_preferred_13 (by decide) ?_
  obtain ⟨g_15, h⟩ := zIx h
  refine a_iaload X (by assumption) g_15 dX8_preferred_15 ?_
  refine a_imul X dX8_preferred_16 ?_
  refine a_bipush (v := 100) X dX8_preferred_17 (by decide) ?_
  refine a_idiv X dX8_preferred_19 (by decide) ?_
  refine a_iret X hr dX8_preferred_20 ⟨by decide, by decide⟩ ?_
  subst hF
  rw [← Option.some.inj h]
  exact ⟨rfl, rfl⟩
noncomputable def D_X8_forGuests (P : Nat) (M : zMt) (v0 : Int32) : Option (Int32) :=
  zI ((62 : Int32) + v0) 82 <|
  zI (69 : Int32) 82 <|
  some ((((M (P + 1) ((62 : Int32) + v0).toNatClampNeg) * (M (P + 1) (69 : Int32).toNatClampNeg)) / (100 : Int32)))
set_option maxRecDepth 100000 in
set_option maxHeartbeats 4000000 in
theorem t_X8_forGuests {l : Launch} {G : zG} {b : Nat} {L : List zC} {M : zMt} {N : zNt} {P : Nat} {v0 : Int32} (hP : LX8 L P) {r : Int32} (h : D_X8_forGuests P M v0 = some r) : zM l G b yX8_forGuests cX8_forGuests 2 (some .int) 0 0 0 [.ref P, .int v0] (L, M, N) (fun r2 z => r2 = some (.int r) ∧ z = (L, M, N)) := by
  refine zM.of miX8_forGuests (Nat.le_of_ble_eq_true rfl) ?_
  intro p e s m args below meth c X hr hname
  generalize hF : ((fun r2 z => r2 = some (.int r) ∧ z = (L, M, N)) : Option Value → zS → Prop) = FQ
  change Zw p l e { frames := 0, cells := 0, slots := 0, locals := 80 * (0) } s m args below meth c G b 2 (MQ below (zQ G b FQ) args s 0 0 (fun q : Nat => b ≤ q)) 0 0 0 [some (.ref P), some (.int v0)] [] (L, M, N)
  obtain ⟨p_lt, p_o, p_s, p_read, p_aside, p_kept, p_guest, p_readGuest, p_tape, p_unitName, p_hunterName, p_partyName, p_bits, p_partyOf, p_choiceAt, p_sizes, p_guestMany, p_pointsOf, p_ticketsOf, p_ord, p_given, p_roundOf, p_tags, p_guestTags, p_places, p_sumAt, p_sumFirst, p_sumRound, p_sumBoth, p_sumTags, p_isEnd, p_newPoints, p_inRow, p_out⟩ := id hP
  unfold D_X8_forGuests at h
  refine a_aload_n X dX8_forGuests_0 rfl ?_
  refine a_getr X lf8_7 (by assumption) rfl (by omega) dX8_forGuests_1 ?_
  refine a_bipush (v := 62) X dX8_forGuests_4 (by decide) ?_
  refine a_iload_n X dX8_forGuests_6 rfl ?_
  refine a_iadd X dX8_forGuests_7 ?_
  obtain ⟨g_8, h⟩ := zIx h
  refine a_iaload X (by assumption) g_8 dX8_forGuests_8 ?_
  refine a_aload_n X dX8_forGuests_9 rfl ?_
  refine a_getr X lf8_7 (by assumption) rfl (by omega) dX8_forGuests_10 ?_
  refine a_bipush (v := 69) X dX8_forGuests_13 (by decide) ?_
  obtain ⟨g_15, h⟩ := zIx h
  refine a_iaload X (by assumption) g_15 dX8_forGuests_15 ?_
  refine a_imul X dX8_forGuests_16 ?_
  refine a_bipush (v := 100) X dX8_forGuests_17 (by decide) ?_
  refine a_idiv X dX8_forGuests_19 (by decide) ?_
  refine a_iret X hr dX8_forGuests_20 ⟨by decide, by decide⟩ ?_
  subst hF
  rw [← Option.some.inj h]
  exact ⟨rfl, rfl⟩
noncomputable def D_X8_unit_162 (P : Nat) (k85 : Int32 → Int32 → Int32 → Int32 → zMt → Option (Int32 × zMt)) (x1_162 : Int32) (x2_162 : Int32) (x4_162 : Int32) (y0_162 : Int32) (y1_162 : Int32) (M_162 : zMt) : Option (Int32 × zMt) :=
  k85 x1_162 x2_162 (y0_162 + y1_162) (x4_162 + 1) M_162
noncomputable def D_X8_unit_134 (P : Nat) (k85 : Int32 → Int32 → Int32 → Int32 → zMt → Option (Int32 × zMt)) (x1_134 : Int32) (x2_134 : Int32) (x3_134 : Int32) (x4_134 : Int32) (y0_134 : Int32) (M_134 : zMt) : Option (Int32 × zMt) :=
  if y0_134 = 0 then
    D_X8_unit_162 P k85 x1_134 x2_134 x4_134 x3_134 (0 : Int32) M_134
  else
    if x2_134 = (4 : Int32) then
      zI x4_134 10 <|
      D_X8_unit_162 P k85 x1_134 x2_134 x4_134 x3_134 (M_134 (P + 14) x4_134.toNatClampNeg) M_134
    else
      D_X8_unit_162 P k85 x1_134 x2_134 x4_134 x3_134 (1 : Int32) M_134
noncomputable def D_X8_unit_85 (P : Nat) : Nat → Int32 → Int32 → Int32 → Int32 → zMt → Option (Int32 × zMt)
  | 0, _, _, _, _, _ => none
  | n + 1, x1_85, x2_85, x3_85, x4_85, M_85 =>
    if (M_85 P 33) ≤ x4_85 then
      zB (D_X8_gives P x3_85 M_85) fun e_172 =>
      some (e_172.1, e_172.2)
    else
      if x2_85 = (5 : Int32) then
        zB (D_X8_placeOf P M_85 x4_85 x1_85) fun e_103 =>
        if e_103 = (-1 : Int32) then
          D_X8_unit_134 P (D_X8_unit_85 P n) x1_85 x2_85 x3_85 x4_85 (0 : Int32) M_85
        else
          D_X8_unit_134 P (D_X8_unit_85 P n) x1_85 x2_85 x3_85 x4_85 (1 : Int32) M_85
      else
        zB (D_X8_choiceOf P M_85 x4_85 (0 : Int32)) fun e_122 =>
        if e_122 = x1_85 then
          D_X8_unit_134 P (D_X8_unit_85 P n) x1_85 x2_85 x3_85 x4_85 (1 : Int32) M_85
        else
          D_X8_unit_134 P (D_X8_unit_85 P n) x1_85 x2_85 x3_85 x4_85 (0 : Int32) M_85
noncomputable def D_X8_unit_72 (P : Nat) (y1_72 : Int32) (M_72 : zMt) : Option (Int32 × zMt) :=
  zB (D_X8_gives P y1_72 M_72) fun e_72 =>
  some (e_72.1, e_72.2)
noncomputable def D_X8_unit (P : Nat) (v0 : Int32) (v1 : Int32) (M : zMt) : Option (Int32 × zMt) :=
  zB (D_X8_isFrom (Int32.toInt64 v1) (0 : Int64) (5 : Int64)) fun e_6 =>
  if e_6 = 0 then
    zB (D_X8_refuse P (1 : Int32) M) fun e_14 =>
    some (e_14.1, e_14.2)
  else
    zB (D_X8_isUnit P M v0) fun e_20 =>
    if e_20 = 0 then
      zB (D_X8_refuse P (2 : Int32) M) fun e_28 =>
      some (e_28.1, e_28.2)
    else
      if (3 : Int32) ≤ v1 then
        zB (D_X8_laysApplicants P M) fun e_77 =>
        D_X8_unit_85 P zFu v0 v1 (0 : Int32) (0 : Int32) e_77
      else
        if v1 = 0 then
          zI ((62 : Int32) + v0) 82 <|
          D_X8_unit_72 P (M (P + 1) ((62 : Int32) + v0).toNatClampNeg) M
        else
          if v1 = (1 : Int32) then
            zB (D_X8_preferred P M v0) fun e_61 =>
            D_X8_unit_72 P e_61 M
          else
            zB (D_X8_forGuests P M v0) fun e_69 =>
            D_X8_unit_72 P e_69 M
set_option maxRecDepth 100000 in
set_option maxHeartbeats 4000000 in
theorem t_X8_unit {l : Launch} {G : zG} {b : Nat} {L : List zC} {M : zMt} {N : zNt} {P : Nat} {v0 : Int32} {v1 : Int32} (hP : LX8 L P) {r : Int32 × zMt} (h : D_X8_unit P v0 v1 M = some r) : zM l G b yX8_unit cX8_unit 6 (some .int) 3 0 0 [.ref P, .int v0, .int v1] (L, M, N) (fun r2 z => r2 = some (.int r.1) ∧ z = (L, r.2, N)) := by
  refine zM.of miX8_unit (Nat.le_of_ble_eq_true rfl) ?_
  intro p e s m args below meth c X hr hname
  generalize hF : ((fun r2 z => r2 = some (.int r.1) ∧ z = (L, r.2, N)) : Option Value → zS → Prop) = FQ
  change Zw p l e { frames := 3, cells := 0, slots := 0, locals := 80 * (3) } s m args below meth c G b 6 (MQ below (zQ G b FQ) args s 0 0 (fun q : Nat => b ≤ q)) 0 0 0 [some (.ref P), some (.int v0), some (.int v1), none, none, none] [] (L, M, N)
  obtain ⟨p_lt, p_o, p_s, p_read, p_aside, p_kept, p_guest, p_readGuest, p_tape, p_unitName, p_hunterName, p_partyName, p_bits, p_partyOf, p_choiceAt, p_sizes, p_guestMany, p_pointsOf, p_ticketsOf, p_ord, p_given, p_roundOf, p_tags, p_guestTags, p_places, p_sumAt, p_sumFirst, p_sumRound, p_sumBoth, p_sumTags, p_isEnd, p_newPoints, p_inRow, p_out⟩ := id hP
  have L_85 : ∀ u : Nat, ∀ (x1_85 : Int32) (x2_85 : Int32) (x3_85 : Int32) (x4_85 : Int32) (x5_85 : Option Value) (M_85 : zMt), D_X8_unit_85 P u x1_85 x2_85 x3_85 x4_85 M_85 = some r → Zw p l e { frames := 3, cells := 0, slots := 0, locals := 80 * (3) } s m args below meth c G b 6 (MQ below (zQ G b FQ) args s 0 0 (fun q : Nat => b ≤ q)) 0 0 85 [some (.ref (P)), some (.int x1_85), some (.int x2_85), some (.int x3_85), some (.int x4_85), x5_85] [] (L, M_85, N) := by
    intro u
    induction u with
    | zero => intro x1_85 x2_85 x3_85 x4_85 x5_85 M_85 h; cases (show none = some r from h)
    | succ u_85 ih_85 =>
      have J_162 : ∀ (x1_162 : Int32) (x2_162 : Int32) (x3_162 : Int32) (x4_162 : Int32) (x5_162 : Int32) (y0_162 : Int32) (y1_162 : Int32) (M_162 : zMt), D_X8_unit_162 P (D_X8_unit_85 P u_85) x1_162 x2_162 x4_162 y0_162 y1_162 M_162 = some r → Zw p l e { frames := 3, cells := 0, slots := 0, locals := 80 * (3) } s m args below meth c G b 6 (MQ below (zQ G b FQ) args s 0 0 (fun q : Nat => b ≤ q)) 0 0 162 [some (.ref (P)), some (.int x1_162), some (.int x2_162), some (.int x3_162), some (.int x4_162), some (.int x5_162)] [.int y1_162, .int y0_162] (L, M_162, N) := by
        intro x1_162 x2_162 x3_162 x4_162 x5_162 y0_162 y1_162 M_162 h
        unfold D_X8_unit_162 at h
        refine a_iadd X dX8_unit_162 ?_
        refine a_istore_n X dX8_unit_163 (by decide) ?_
        refine a_iinc (v := x4_162 + 1) X dX8_unit_164 (by decide) rfl zi_1 ?_
        refine a_goto (tgt := 85) X dX8_unit_167 (by decide) ?_
        exact Zw.to2 (ih_85 _ _ _ _ _ _ h) rfl rfl rfl
      have J_134 : ∀ (x1_134 : Int32) (x2_134 : Int32) (x3_134 : Int32) (x4_134 : Int32) (x5_134 : Option Value) (y0_134 : Int32) (M_134 : zMt), (y0_134 = 0 ∨ y0_134 = 1) → D_X8_unit_134 P (D_X8_unit_85 P u_85) x1_134 x2_134 x3_134 x4_134 y0_134 M_134 = some r → Zw p l e { frames := 3, cells := 0, slots := 0, locals := 80 * (3) } s m args below meth c G b 6 (MQ below (zQ G b FQ) args s 0 0 (fun q : Nat => b ≤ q)) 0 0 134 [some (.ref (P)), some (.int x1_134), some (.int x2_134), some (.int x3_134), some (.int x4_134), x5_134] [.int y0_134] (L, M_134, N) := by
        intro x1_134 x2_134 x3_134 x4_134 x5_134 y0_134 M_134 fb_y0_134 h
        unfold D_X8_unit_134 at h
        refine a_istore X dX8_unit_134 (by decide) ?_
        refine a_iload_n X dX8_unit_136 rfl ?_
        refine a_iload X dX8_unit_137 rfl ?_
        refine a_if_eq (tgt := 161) X dX8_unit_139 (by decide) (fun h_139 => ?_) (fun h_139 => ?_)
        · replace h := (if_pos h_139).symm.trans h
          refine a_iconst (v := 0) X dX8_unit_161 (by decide) ?_
          exact Zw.to2 (J_162 _ _ _ _ _ _ _ _ h) rfl rfl rfl
        · replace h := (if_neg h_139).symm.trans h
          refine a_iload_n X dX8_unit_142 rfl ?_
          refine a_iconst (v := 4) X dX8_unit_143 (by decide) ?_
          refine a_icmp_ne (tgt := 157) X dX8_unit_144 (by decide) (fun h_144 => ?_) (fun h_144 => ?_)
          · replace h := (if_neg h_144).symm.trans h
            refine a_iconst (v := 1) X dX8_unit_157 (by decide) ?_
            refine a_goto (tgt := 162) X dX8_unit_158 (by decide) ?_
            exact Zw.to2 (J_162 _ _ _ _ _ _ _ _ h) rfl rfl rfl
          · replace h := (if_pos h_144).symm.trans h
            refine a_aload_n X dX8_unit_147 rfl ?_
            refine a_getr X lf8_58 (by assumption) rfl (by omega) dX8_unit_148 ?_
            refine a_iload X dX8_unit_151 rfl ?_
            obtain ⟨g_153, h⟩ := zIx h
            refine a_iaload X (by assumption) g_153 dX8_unit_153 ?_
            refine a_goto (tgt := 162) X dX8_unit_154 (by decide) ?_
            exact Zw.to2 (J_162 _ _ _ _ _ _ _ _ h) rfl rfl rfl
      intro x1_85 x2_85 x3_85 x4_85 x5_85 M_85 h
      rw [D_X8_unit_85] at h
      refine a_iload X dX8_unit_85 rfl ?_
      refine a_aload_n X dX8_unit_87 rfl ?_
      refine a_geti X lf8_275 (by assumption) rfl dX8_unit_88 ?_
      refine a_icmp_ge (tgt := 170) X dX8_unit_91 (by decide) (fun h_91 => ?_) (fun h_91 => ?_)
      · replace h := (if_pos h_91).symm.trans h
        refine a_aload_n X dX8_unit_170 rfl ?_
        refine a_iload_n X dX8_unit_171 rfl ?_
        obtain ⟨e_172, f_172, h⟩ := zBx h
        refine a_callVv X dX8_unit_172 miX8_gives lm8_272 (t_X8_gives (by assumption) f_172) (by assumption) rfl rfl rfl (Nat.le_of_ble_eq_true rfl) ⟨by decide, by decide, by decide, by decide⟩ ?_
        refine a_iret X hr dX8_unit_175 ⟨by decide, by decide⟩ ?_
        subst hF
        rw [← Option.some.inj h]
        exact ⟨rfl, rfl⟩
      · replace h := (if_neg h_91).symm.trans h
        refine a_iload_n X dX8_unit_94 rfl ?_
        refine a_iconst (v := 5) X dX8_unit_95 (by decide) ?_
        refine a_icmp_ne (tgt := 118) X dX8_unit_96 (by decide) (fun h_96 => ?_) (fun h_96 => ?_)
        · replace h := (if_neg h_96).symm.trans h
          refine a_aload_n X dX8_unit_118 rfl ?_
          refine a_iload X dX8_unit_119 rfl ?_
          refine a_iconst (v := 0) X dX8_unit_121 (by decide) ?_
          obtain ⟨e_122, f_122, h⟩ := zBx h
          refine a_callVv X dX8_unit_122 miX8_choiceOf lm8_284 (t_X8_choiceOf (by assumption) f_122) (by assumption) rfl rfl rfl (Nat.le_of_ble_eq_true rfl) ⟨by decide, by decide, by decide, by decide⟩ ?_
          refine a_iload_n X dX8_unit_125 rfl ?_
          refine a_icmp_ne (tgt := 133) X dX8_unit_126 (by decide) (fun h_126 => ?_) (fun h_126 => ?_)
          · replace h := (if_neg h_126).symm.trans h
            refine a_iconst (v := 0) X dX8_unit_133 (by decide) ?_
            exact Zw.to2 (J_134 _ _ _ _ _ _ _ (by first | exact Or.inl rfl | exact Or.inr rfl | assumption) h) rfl rfl rfl
          · replace h := (if_pos h_126).symm.trans h
            refine a_iconst (v := 1) X dX8_unit_129 (by decide) ?_
            refine a_goto (tgt := 134) X dX8_unit_130 (by decide) ?_
            exact Zw.to2 (J_134 _ _ _ _ _ _ _ (by first | exact Or.inl rfl | exact Or.inr rfl | assumption) h) rfl rfl rfl
        · replace h := (if_pos h_96).symm.trans h
          refine a_aload_n X dX8_unit_99 rfl ?_
          refine a_iload X dX8_unit_100 rfl ?_
          refine a_iload_n X dX8_unit_102 rfl ?_
          obtain ⟨e_103, f_103, h⟩ := zBx h
          refine a_callVv X dX8_unit_103 miX8_placeOf lm8_310 (t_X8_placeOf (by assumption) f_103) (by assumption) rfl rfl rfl (Nat.le_of_ble_eq_true rfl) ⟨by decide, by decide, by decide, by decide⟩ ?_
          refine a_iconst (v := -1) X dX8_unit_106 (by decide) ?_
          refine a_icmp_eq (tgt := 114) X dX8_unit_107 (by decide) (fun h_107 => ?_) (fun h_107 => ?_)
          · replace h := (if_pos h_107).symm.trans h
            refine a_iconst (v := 0) X dX8_unit_114 (by decide) ?_
            refine a_goto (tgt := 134) X dX8_unit_115 (by decide) ?_
            exact Zw.to2 (J_134 _ _ _ _ _ _ _ (by first | exact Or.inl rfl | exact Or.inr rfl | assumption) h) rfl rfl rfl
          · replace h := (if_neg h_107).symm.trans h
            refine a_iconst (v := 1) X dX8_unit_110 (by decide) ?_
            refine a_goto (tgt := 134) X dX8_unit_111 (by decide) ?_
            exact Zw.to2 (J_134 _ _ _ _ _ _ _ (by first | exact Or.inl rfl | exact Or.inr rfl | assumption) h) rfl rfl rfl
  have H_85 : ∀ (x1_85 : Int32) (x2_85 : Int32) (x3_85 : Int32) (x4_85 : Int32) (x5_85 : Option Value) (M_85 : zMt), D_X8_unit_85 P zFu x1_85 x2_85 x3_85 x4_85 M_85 = some r → Zw p l e { frames := 3, cells := 0, slots := 0, locals := 80 * (3) } s m args below meth c G b 6 (MQ below (zQ G b FQ) args s 0 0 (fun q : Nat => b ≤ q)) 0 0 85 [some (.ref (P)), some (.int x1_85), some (.int x2_85), some (.int x3_85), some (.int x4_85), x5_85] [] (L, M_85, N) := L_85 zFu
  have J_72 : ∀ (x1_72 : Int32) (x2_72 : Int32) (x3_72 : Option Value) (x4_72 : Option Value) (x5_72 : Option Value) (y1_72 : Int32) (M_72 : zMt), D_X8_unit_72 P y1_72 M_72 = some r → Zw p l e { frames := 3, cells := 0, slots := 0, locals := 80 * (3) } s m args below meth c G b 6 (MQ below (zQ G b FQ) args s 0 0 (fun q : Nat => b ≤ q)) 0 0 72 [some (.ref (P)), some (.int x1_72), some (.int x2_72), x3_72, x4_72, x5_72] [.int y1_72, .ref (P)] (L, M_72, N) := by
    intro x1_72 x2_72 x3_72 x4_72 x5_72 y1_72 M_72 h
    unfold D_X8_unit_72 at h
    obtain ⟨e_72, f_72, h⟩ := zBx h
    refine a_callVv X dX8_unit_72 miX8_gives lm8_272 (t_X8_gives (by assumption) f_72) (by assumption) rfl rfl rfl (Nat.le_of_ble_eq_true rfl) ⟨by decide, by decide, by decide, by decide⟩ ?_
    refine a_iret X hr dX8_unit_75 ⟨by decide, by decide⟩ ?_
    subst hF
    rw [← Option.some.inj h]
    exact ⟨rfl, rfl⟩
  unfold D_X8_unit at h
  refine a_iload_n X dX8_unit_0 rfl ?_
  refine a_i2l X dX8_unit_1 ?_
  refine a_lconst (v := 0) X dX8_unit_2 (by decide) ?_
  refine a_ldc2 X dX8_unit_3 lk8_299 ?_
  obtain ⟨e_6, f_6, h⟩ := zBx h
  refine a_callSx X dX8_unit_6 miX8_isFrom lm8_128 (t_X8_isFrom f_6) rfl rfl (Nat.le_of_ble_eq_true rfl) ⟨by decide, by decide, by decide, by decide⟩ (fun r_6 S_6 q_6 => ?_)
  obtain ⟨rfl, rfl, b_6⟩ := q_6
  refine a_if_ne (tgt := 18) X dX8_unit_9 (by decide) (fun h_9 => ?_) (fun h_9 => ?_)
  · replace h := (if_neg h_9).symm.trans h
    refine a_aload_n X dX8_unit_18 rfl ?_
    refine a_iload_n X dX8_unit_19 rfl ?_
    obtain ⟨e_20, f_20, h⟩ := zBx h
    refine a_callVx X dX8_unit_20 miX8_isUnit lm8_301 (t_X8_isUnit (by assumption) f_20) (by assumption) rfl rfl rfl (Nat.le_of_ble_eq_true rfl) ⟨by decide, by decide, by decide, by decide⟩ (fun r_20 S_20 q_20 => ?_)
    obtain ⟨rfl, rfl, b_20⟩ := q_20
    refine a_if_ne (tgt := 32) X dX8_unit_23 (by decide) (fun h_23 => ?_) (fun h_23 => ?_)
    · replace h := (if_neg h_23).symm.trans h
      refine a_iload_n X dX8_unit_32 rfl ?_
      refine a_iconst (v := 3) X dX8_unit_33 (by decide) ?_
      refine a_icmp_ge (tgt := 76) X dX8_unit_34 (by decide) (fun h_34 => ?_) (fun h_34 => ?_)
      · replace h := (if_pos h_34).symm.trans h
        refine a_aload_n X dX8_unit_76 rfl ?_
        obtain ⟨e_77, f_77, h⟩ := zBx h
        refine a_callVu X dX8_unit_77 miX8_laysApplicants lm8_281 (t_X8_laysApplicants (by assumption) f_77) (by assumption) rfl rfl rfl (Nat.le_of_ble_eq_true rfl) ⟨by decide, by decide, by decide, by decide⟩ ?_
        refine a_iconst (v := 0) X dX8_unit_80 (by decide) ?_
        refine a_istore_n X dX8_unit_81 (by decide) ?_
        refine a_iconst (v := 0) X dX8_unit_82 (by decide) ?_
        refine a_istore X dX8_unit_83 (by decide) ?_
        exact Zw.to2 (H_85 _ _ _ _ _ _ h) rfl rfl rfl
      · replace h := (if_neg h_34).symm.trans h
        refine a_aload_n X dX8_unit_37 rfl ?_
        refine a_iload_n X dX8_unit_38 rfl ?_
        refine a_if_ne (tgt := 54) X dX8_unit_39 (by decide) (fun h_39 => ?_) (fun h_39 => ?_)
        · replace h := (if_neg h_39).symm.trans h
          refine a_iload_n X dX8_unit_54 rfl ?_
          refine a_iconst (v := 1) X dX8_unit_55 (by decide) ?_
          refine a_icmp_ne (tgt := 67) X dX8_unit_56 (by decide) (fun h_56 => ?_) (fun h_56 => ?_)
          · replace h := (if_neg h_56).symm.trans h
            refine a_aload_n X dX8_unit_67 rfl ?_
            refine a_iload_n X dX8_unit_68 rfl ?_
            obtain ⟨e_69, f_69, h⟩ := zBx h
            refine a_callVv X dX8_unit_69 miX8_forGuests lm8_307 (t_X8_forGuests (by assumption) f_69) (by assumption) rfl rfl rfl (Nat.le_of_ble_eq_true rfl) ⟨by decide, by decide, by decide, by decide⟩ ?_
            exact Zw.to2 (J_72 _ _ _ _ _ _ _ h) rfl rfl rfl
          · replace h := (if_pos h_56).symm.trans h
            refine a_aload_n X dX8_unit_59 rfl ?_
            refine a_iload_n X dX8_unit_60 rfl ?_
            obtain ⟨e_61, f_61, h⟩ := zBx h
            refine a_callVv X dX8_unit_61 miX8_preferred lm8_304 (t_X8_preferred (by assumption) f_61) (by assumption) rfl rfl rfl (Nat.le_of_ble_eq_true rfl) ⟨by decide, by decide, by decide, by decide⟩ ?_
            refine a_goto (tgt := 72) X dX8_unit_64 (by decide) ?_
            exact Zw.to2 (J_72 _ _ _ _ _ _ _ h) rfl rfl rfl
        · replace h := (if_pos h_39).symm.trans h
          refine a_aload_n X dX8_unit_42 rfl ?_
          refine a_getr X lf8_7 (by assumption) rfl (by omega) dX8_unit_43 ?_
          refine a_bipush (v := 62) X dX8_unit_46 (by decide) ?_
          refine a_iload_n X dX8_unit_48 rfl ?_
          refine a_iadd X dX8_unit_49 ?_
          obtain ⟨g_50, h⟩ := zIx h
          refine a_iaload X (by assumption) g_50 dX8_unit_50 ?_
          refine a_goto (tgt := 72) X dX8_unit_51 (by decide) ?_
          exact Zw.to2 (J_72 _ _ _ _ _ _ _ h) rfl rfl rfl
    · replace h := (if_pos h_23).symm.trans h
      refine a_aload_n X dX8_unit_26 rfl ?_
      refine a_iconst (v := 2) X dX8_unit_27 (by decide) ?_
      obtain ⟨e_28, f_28, h⟩ := zBx h
      refine a_callVv X dX8_unit_28 miX8_refuse lm8_263 (t_X8_refuse (by assumption) f_28) (by assumption) rfl rfl rfl (Nat.le_of_ble_eq_true rfl) ⟨by decide, by decide, by decide, by decide⟩ ?_
      refine a_iret X hr dX8_unit_31 ⟨by decide, by decide⟩ ?_
      subst hF
      rw [← Option.some.inj h]
      exact ⟨rfl, rfl⟩
  · replace h := (if_pos h_9).symm.trans h
    refine a_aload_n X dX8_unit_12 rfl ?_
    refine a_iconst (v := 1) X dX8_unit_13 (by decide) ?_
    obtain ⟨e_14, f_14, h⟩ := zBx h
    refine a_callVv X dX8_unit_14 miX8_refuse lm8_263 (t_X8_refuse (by assumption) f_14) (by assumption) rfl rfl rfl (Nat.le_of_ble_eq_true rfl) ⟨by decide, by decide, by decide, by decide⟩ ?_
    refine a_iret X hr dX8_unit_17 ⟨by decide, by decide⟩ ?_
    subst hF
    rw [← Option.some.inj h]
    exact ⟨rfl, rfl⟩
noncomputable def D_X8_applicant (P : Nat) (v0 : Int32) (v1 : Int32) (M : zMt) : Option (Int32 × zMt) :=
  zB (D_X8_isFrom (Int32.toInt64 v1) (0 : Int64) (6 : Int64)) fun e_6 =>
  if e_6 = 0 then
    zB (D_X8_refuse P (1 : Int32) M) fun e_14 =>
    some (e_14.1, e_14.2)
  else
    zB (D_X8_isApplicant P v0 M) fun e_20 =>
    if e_20.1 = 0 then
      zB (D_X8_refuse P (2 : Int32) e_20.2) fun e_28 =>
      some (e_28.1, e_28.2)
    else
      if Int32.toInt v1 = 0 then
        zI v0 10 <|
        zB (D_X8_gives P (e_20.2 (P + 14) v0.toNatClampNeg) e_20.2) fun e_79 =>
        some (e_79.1, e_79.2)
      else
      if Int32.toInt v1 = 1 then
        zI v0 10 <|
        zB (D_X8_gives P (e_20.2 (P + 15) v0.toNatClampNeg) e_20.2) fun e_90 =>
        some (e_90.1, e_90.2)
      else
      if Int32.toInt v1 = 2 then
        zI v0 10 <|
        zB (D_X8_gives P (e_20.2 (P + 16) v0.toNatClampNeg) e_20.2) fun e_101 =>
        some (e_101.1, e_101.2)
      else
      if Int32.toInt v1 = 3 then
        zI v0 10 <|
        zB (D_X8_gives P (e_20.2 (P + 17) v0.toNatClampNeg) e_20.2) fun e_112 =>
        some (e_112.1, e_112.2)
      else
      if Int32.toInt v1 = 4 then
        zB (D_X8_choiceMany P e_20.2 v0) fun e_119 =>
        zB (D_X8_gives P e_119 e_20.2) fun e_122 =>
        some (e_122.1, e_122.2)
      else
      if Int32.toInt v1 = 5 then
        zI v0 10 <|
        zB (D_X8_gives P (e_20.2 (P + 11) v0.toNatClampNeg) e_20.2) fun e_133 =>
        some (e_133.1, e_133.2)
      else
        zI v0 10 <|
        zB (D_X8_gives P (e_20.2 (P + 12) v0.toNatClampNeg) e_20.2) fun e_144 =>
        some (e_144.1, e_144.2)
set_option maxRecDepth 100000 in
set_option maxHeartbeats 4000000 in
theorem t_X8_applicant {l : Launch} {G : zG} {b : Nat} {L : List zC} {M : zMt} {N : zNt} {P : Nat} {v0 : Int32} {v1 : Int32} (hP : LX8 L P) {r : Int32 × zMt} (h : D_X8_applicant P v0 v1 M = some r) : zM l G b yX8_applicant cX8_applicant 3 (some .int) 4 0 0 [.ref P, .int v0, .int v1] (L, M, N) (fun r2 z => r2 = some (.int r.1) ∧ z = (L, r.2, N)) := by
  refine zM.of miX8_applicant (Nat.le_of_ble_eq_true rfl) ?_
  intro p e s m args below meth c X hr hname
  generalize hF : ((fun r2 z => r2 = some (.int r.1) ∧ z = (L, r.2, N)) : Option Value → zS → Prop) = FQ
  change Zw p l e { frames := 4, cells := 0, slots := 0, locals := 80 * (4) } s m args below meth c G b 3 (MQ below (zQ G b FQ) args s 0 0 (fun q : Nat => b ≤ q)) 0 0 0 [some (.ref P), some (.int v0), some (.int v1)] [] (L, M, N)
  obtain ⟨p_lt, p_o, p_s, p_read, p_aside, p_kept, p_guest, p_readGuest, p_tape, p_unitName, p_hunterName, p_partyName, p_bits, p_partyOf, p_choiceAt, p_sizes, p_guestMany, p_pointsOf, p_ticketsOf, p_ord, p_given, p_roundOf, p_tags, p_guestTags, p_places, p_sumAt, p_sumFirst, p_sumRound, p_sumBoth, p_sumTags, p_isEnd, p_newPoints, p_inRow, p_out⟩ := id hP
  unfold D_X8_applicant at h
  refine a_iload_n X dX8_applicant_0 rfl ?_
  refine a_i2l X dX8_applicant_1 ?_
  refine a_lconst (v := 0) X dX8_applicant_2 (by decide) ?_
  refine a_ldc2 X dX8_applicant_3 lk8_313 ?_
  obtain ⟨e_6, f_6, h⟩ := zBx h
  refine a_callSx X dX8_applicant_6 miX8_isFrom lm8_128 (t_X8_isFrom f_6) rfl rfl (Nat.le_of_ble_eq_true rfl) ⟨by decide, by decide, by decide, by decide⟩ (fun r_6 S_6 q_6 => ?_)
  obtain ⟨rfl, rfl, b_6⟩ := q_6
  refine a_if_ne (tgt := 18) X dX8_applicant_9 (by decide) (fun h_9 => ?_) (fun h_9 => ?_)
  · replace h := (if_neg h_9).symm.trans h
    refine a_aload_n X dX8_applicant_18 rfl ?_
    refine a_iload_n X dX8_applicant_19 rfl ?_
    obtain ⟨e_20, f_20, h⟩ := zBx h
    refine a_callVx X dX8_applicant_20 miX8_isApplicant lm8_315 (t_X8_isApplicant (by assumption) f_20) (by assumption) rfl rfl rfl (Nat.le_of_ble_eq_true rfl) ⟨by decide, by decide, by decide, by decide⟩ (fun r_20 S_20 q_20 => ?_)
    obtain ⟨rfl, rfl, b_20⟩ := q_20
    refine a_if_ne (tgt := 32) X dX8_applicant_23 (by decide) (fun h_23 => ?_) (fun h_23 => ?_)
    · replace h := (if_neg h_23).symm.trans h
      refine a_iload_n X dX8_applicant_32 rfl ?_
      refine a_tsw (tg := [72, 83, 94, 105, 116, 126]) (td := 137) X dX8_applicant_33 (by decide +kernel) (by decide) (by decide) (fun k_33 t_33 ht_33 hx_33 => ?_) (fun hx_33 => ?_)
      · match k_33, ht_33, hx_33 with
        | 0, ht_33, hx_33 =>
          cases ht_33
          replace h := (if_pos (by omega)).symm.trans h
          refine a_aload_n X dX8_applicant_72 rfl ?_
          refine a_aload_n X dX8_applicant_73 rfl ?_
          refine a_getr X lf8_58 (by assumption) rfl (by omega) dX8_applicant_74 ?_
          refine a_iload_n X dX8_applicant_77 rfl ?_
          obtain ⟨g_78, h⟩ := zIx h
          refine a_iaload X (by assumption) g_78 dX8_applicant_78 ?_
          obtain ⟨e_79, f_79, h⟩ := zBx h
          refine a_callVv X dX8_applicant_79 miX8_gives lm8_272 (t_X8_gives (by assumption) f_79) (by assumption) rfl rfl rfl (Nat.le_of_ble_eq_true rfl) ⟨by decide, by decide, by decide, by decide⟩ ?_
          refine a_iret X hr dX8_applicant_82 ⟨by decide, by decide⟩ ?_
          subst hF
          rw [← Option.some.inj h]
          exact ⟨rfl, rfl⟩
        | 1, ht_33, hx_33 =>
          cases ht_33
          replace h := (if_neg (by omega)).symm.trans h
          replace h := (if_pos (by omega)).symm.trans h
          refine a_aload_n X dX8_applicant_83 rfl ?_
          refine a_aload_n X dX8_applicant_84 rfl ?_
          refine a_getr X lf8_61 (by assumption) rfl (by omega) dX8_applicant_85 ?_
          refine a_iload_n X dX8_applicant_88 rfl ?_
          obtain ⟨g_89, h⟩ := zIx h
          refine a_iaload X (by assumption) g_89 dX8_applicant_89 ?_
          obtain ⟨e_90, f_90, h⟩ := zBx h
          refine a_callVv X dX8_applicant_90 miX8_gives lm8_272 (t_X8_gives (by assumption) f_90) (by assumption) rfl rfl rfl (Nat.le_of_ble_eq_true rfl) ⟨by decide, by decide, by decide, by decide⟩ ?_
          refine a_iret X hr dX8_applicant_93 ⟨by decide, by decide⟩ ?_
          subst hF
          rw [← Option.some.inj h]
          exact ⟨rfl, rfl⟩
        | 2, ht_33, hx_33 =>
          cases ht_33
          replace h := (if_neg (by omega)).symm.trans h
          replace h := (if_neg (by omega)).symm.trans h
          replace h := (if_pos (by omega)).symm.trans h
          refine a_aload_n X dX8_applicant_94 rfl ?_
          refine a_aload_n X dX8_applicant_95 rfl ?_
          refine a_getr X lf8_64 (by assumption) rfl (by omega) dX8_applicant_96 ?_
          refine a_iload_n X dX8_applicant_99 rfl ?_
          obtain ⟨g_100, h⟩ := zIx h
          refine a_iaload X (by assumption) g_100 dX8_applicant_100 ?_
          obtain ⟨e_101, f_101, h⟩ := zBx h
          refine a_callVv X dX8_applicant_101 miX8_gives lm8_272 (t_X8_gives (by assumption) f_101) (by assumption) rfl rfl rfl (Nat.le_of_ble_eq_true rfl) ⟨by decide, by decide, by decide, by decide⟩ ?_
          refine a_iret X hr dX8_applicant_104 ⟨by decide, by decide⟩ ?_
          subst hF
          rw [← Option.some.inj h]
          exact ⟨rfl, rfl⟩
        | 3, ht_33, hx_33 =>
          cases ht_33
          replace h := (if_neg (by omega)).symm.trans h
          replace h := (if_neg (by omega)).symm.trans h
          replace h := (if_neg (by omega)).symm.trans h
          replace h := (if_pos (by omega)).symm.trans h
          refine a_aload_n X dX8_applicant_105 rfl ?_
          refine a_aload_n X dX8_applicant_106 rfl ?_
          refine a_getr X lf8_67 (by assumption) rfl (by omega) dX8_applicant_107 ?_
          refine a_iload_n X dX8_applicant_110 rfl ?_
          obtain ⟨g_111, h⟩ := zIx h
          refine a_iaload X (by assumption) g_111 dX8_applicant_111 ?_
          obtain ⟨e_112, f_112, h⟩ := zBx h
          refine a_callVv X dX8_applicant_112 miX8_gives lm8_272 (t_X8_gives (by assumption) f_112) (by assumption) rfl rfl rfl (Nat.le_of_ble_eq_true rfl) ⟨by decide, by decide, by decide, by decide⟩ ?_
          refine a_iret X hr dX8_applicant_115 ⟨by decide, by decide⟩ ?_
          subst hF
          rw [← Option.some.inj h]
          exact ⟨rfl, rfl⟩
        | 4, ht_33, hx_33 =>
          cases ht_33
          replace h := (if_neg (by omega)).symm.trans h
          replace h := (if_neg (by omega)).symm.trans h
          replace h := (if_neg (by omega)).symm.trans h
          replace h := (if_neg (by omega)).symm.trans h
          replace h := (if_pos (by omega)).symm.trans h
          refine a_aload_n X dX8_applicant_116 rfl ?_
          refine a_aload_n X dX8_applicant_117 rfl ?_
          refine a_iload_n X dX8_applicant_118 rfl ?_
          obtain ⟨e_119, f_119, h⟩ := zBx h
          refine a_callVv X dX8_applicant_119 miX8_choiceMany lm8_288 (t_X8_choiceMany (by assumption) f_119) (by assumption) rfl rfl rfl (Nat.le_of_ble_eq_true rfl) ⟨by decide, by decide, by decide, by decide⟩ ?_
          obtain ⟨e_122, f_122, h⟩ := zBx h
          refine a_callVv X dX8_applicant_122 miX8_gives lm8_272 (t_X8_gives (by assumption) f_122) (by assumption) rfl rfl rfl (Nat.le_of_ble_eq_true rfl) ⟨by decide, by decide, by decide, by decide⟩ ?_
          refine a_iret X hr dX8_applicant_125 ⟨by decide, by decide⟩ ?_
          subst hF
          rw [← Option.some.inj h]
          exact ⟨rfl, rfl⟩
        | 5, ht_33, hx_33 =>
          cases ht_33
          replace h := (if_neg (by omega)).symm.trans h
          replace h := (if_neg (by omega)).symm.trans h
          replace h := (if_neg (by omega)).symm.trans h
          replace h := (if_neg (by omega)).symm.trans h
          replace h := (if_neg (by omega)).symm.trans h
          replace h := (if_pos (by omega)).symm.trans h
          refine a_aload_n X dX8_applicant_126 rfl ?_
          refine a_aload_n X dX8_applicant_127 rfl ?_
          refine a_getr X lf8_49 (by assumption) rfl (by omega) dX8_applicant_128 ?_
          refine a_iload_n X dX8_applicant_131 rfl ?_
          obtain ⟨g_132, h⟩ := zIx h
          refine a_iaload X (by assumption) g_132 dX8_applicant_132 ?_
          obtain ⟨e_133, f_133, h⟩ := zBx h
          refine a_callVv X dX8_applicant_133 miX8_gives lm8_272 (t_X8_gives (by assumption) f_133) (by assumption) rfl rfl rfl (Nat.le_of_ble_eq_true rfl) ⟨by decide, by decide, by decide, by decide⟩ ?_
          refine a_iret X hr dX8_applicant_136 ⟨by decide, by decide⟩ ?_
          subst hF
          rw [← Option.some.inj h]
          exact ⟨rfl, rfl⟩
      · skip
        replace h := (if_neg (by omega)).symm.trans h
        replace h := (if_neg (by omega)).symm.trans h
        replace h := (if_neg (by omega)).symm.trans h
        replace h := (if_neg (by omega)).symm.trans h
        replace h := (if_neg (by omega)).symm.trans h
        replace h := (if_neg (by omega)).symm.trans h
        refine a_aload_n X dX8_applicant_137 rfl ?_
        refine a_aload_n X dX8_applicant_138 rfl ?_
        refine a_getr X lf8_52 (by assumption) rfl (by omega) dX8_applicant_139 ?_
        refine a_iload_n X dX8_applicant_142 rfl ?_
        obtain ⟨g_143, h⟩ := zIx h
        refine a_iaload X (by assumption) g_143 dX8_applicant_143 ?_
        obtain ⟨e_144, f_144, h⟩ := zBx h
        refine a_callVv X dX8_applicant_144 miX8_gives lm8_272 (t_X8_gives (by assumption) f_144) (by assumption) rfl rfl rfl (Nat.le_of_ble_eq_true rfl) ⟨by decide, by decide, by decide, by decide⟩ ?_
        refine a_iret X hr dX8_applicant_147 ⟨by decide, by decide⟩ ?_
        subst hF
        rw [← Option.some.inj h]
        exact ⟨rfl, rfl⟩
    · replace h := (if_pos h_23).symm.trans h
      refine a_aload_n X dX8_applicant_26 rfl ?_
      refine a_iconst (v := 2) X dX8_applicant_27 (by decide) ?_
      obtain ⟨e_28, f_28, h⟩ := zBx h
      refine a_callVv X dX8_applicant_28 miX8_refuse lm8_263 (t_X8_refuse (by assumption) f_28) (by assumption) rfl rfl rfl (Nat.le_of_ble_eq_true rfl) ⟨by decide, by decide, by decide, by decide⟩ ?_
      refine a_iret X hr dX8_applicant_31 ⟨by decide, by decide⟩ ?_
      subst hF
      rw [← Option.some.inj h]
      exact ⟨rfl, rfl⟩
  · replace h := (if_pos h_9).symm.trans h
    refine a_aload_n X dX8_applicant_12 rfl ?_
    refine a_iconst (v := 1) X dX8_applicant_13 (by decide) ?_
    obtain ⟨e_14, f_14, h⟩ := zBx h
    refine a_callVv X dX8_applicant_14 miX8_refuse lm8_263 (t_X8_refuse (by assumption) f_14) (by assumption) rfl rfl rfl (Nat.le_of_ble_eq_true rfl) ⟨by decide, by decide, by decide, by decide⟩ ?_
    refine a_iret X hr dX8_applicant_17 ⟨by decide, by decide⟩ ?_
    subst hF
    rw [← Option.some.inj h]
    exact ⟨rfl, rfl⟩
noncomputable def D_X8_choice_51 (P : Nat) (y0_51 : Int32) (M_51 : zMt) : Option (Int32 × zMt) :=
  some (y0_51, M_51)
noncomputable def D_X8_choice (P : Nat) (v0 : Int32) (v1 : Int32) (M : zMt) : Option (Int32 × zMt) :=
  if 0 ≤ v1 then
    zB (D_X8_isApplicant P v0 M) fun e_12 =>
    if e_12.1 = 0 then
      zB (D_X8_refuse P (2 : Int32) e_12.2) fun e_20 =>
      some (e_20.1, e_20.2)
    else
      zB (D_X8_choiceMany P e_12.2 v0) fun e_27 =>
      if e_27 ≤ v1 then
        zB (D_X8_refuse P (5 : Int32) e_12.2) fun e_48 =>
        D_X8_choice_51 P e_48.1 e_48.2
      else
        zB (D_X8_choiceOf P e_12.2 v0 v1) fun e_37 =>
        zB (D_X8_gives P e_37 e_12.2) fun e_40 =>
        D_X8_choice_51 P e_40.1 e_40.2
  else
    zB (D_X8_refuse P (1 : Int32) M) fun e_6 =>
    some (e_6.1, e_6.2)
set_option maxRecDepth 100000 in
set_option maxHeartbeats 4000000 in
theorem t_X8_choice {l : Launch} {G : zG} {b : Nat} {L : List zC} {M : zMt} {N : zNt} {P : Nat} {v0 : Int32} {v1 : Int32} (hP : LX8 L P) {r : Int32 × zMt} (h : D_X8_choice P v0 v1 M = some r) : zM l G b yX8_choice cX8_choice 3 (some .int) 4 0 0 [.ref P, .int v0, .int v1] (L, M, N) (fun r2 z => r2 = some (.int r.1) ∧ z = (L, r.2, N)) := by
  refine zM.of miX8_choice (Nat.le_of_ble_eq_true rfl) ?_
  intro p e s m args below meth c X hr hname
  generalize hF : ((fun r2 z => r2 = some (.int r.1) ∧ z = (L, r.2, N)) : Option Value → zS → Prop) = FQ
  change Zw p l e { frames := 4, cells := 0, slots := 0, locals := 80 * (4) } s m args below meth c G b 3 (MQ below (zQ G b FQ) args s 0 0 (fun q : Nat => b ≤ q)) 0 0 0 [some (.ref P), some (.int v0), some (.int v1)] [] (L, M, N)
  obtain ⟨p_lt, p_o, p_s, p_read, p_aside, p_kept, p_guest, p_readGuest, p_tape, p_unitName, p_hunterName, p_partyName, p_bits, p_partyOf, p_choiceAt, p_sizes, p_guestMany, p_pointsOf, p_ticketsOf, p_ord, p_given, p_roundOf, p_tags, p_guestTags, p_places, p_sumAt, p_sumFirst, p_sumRound, p_sumBoth, p_sumTags, p_isEnd, p_newPoints, p_inRow, p_out⟩ := id hP
  have J_51 : ∀ (x1_51 : Int32) (x2_51 : Int32) (y0_51 : Int32) (M_51 : zMt), D_X8_choice_51 P y0_51 M_51 = some r → Zw p l e { frames := 4, cells := 0, slots := 0, locals := 80 * (4) } s m args below meth c G b 3 (MQ below (zQ G b FQ) args s 0 0 (fun q : Nat => b ≤ q)) 0 0 51 [some (.ref (P)), some (.int x1_51), some (.int x2_51)] [.int y0_51] (L, M_51, N) := by
    intro x1_51 x2_51 y0_51 M_51 h
    unfold D_X8_choice_51 at h
    refine a_iret X hr dX8_choice_51 ⟨by decide, by decide⟩ ?_
    subst hF
    rw [← Option.some.inj h]
    exact ⟨rfl, rfl⟩
  unfold D_X8_choice at h
  refine a_iload_n X dX8_choice_0 rfl ?_
  refine a_if_ge (tgt := 10) X dX8_choice_1 (by decide) (fun h_1 => ?_) (fun h_1 => ?_)
  · replace h := (if_pos h_1).symm.trans h
    refine a_aload_n X dX8_choice_10 rfl ?_
    refine a_iload_n X dX8_choice_11 rfl ?_
    obtain ⟨e_12, f_12, h⟩ := zBx h
    refine a_callVx X dX8_choice_12 miX8_isApplicant lm8_315 (t_X8_isApplicant (by assumption) f_12) (by assumption) rfl rfl rfl (Nat.le_of_ble_eq_true rfl) ⟨by decide, by decide, by decide, by decide⟩ (fun r_12 S_12 q_12 => ?_)
    obtain ⟨rfl, rfl, b_12⟩ := q_12
    refine a_if_ne (tgt := 24) X dX8_choice_15 (by decide) (fun h_15 => ?_) (fun h_15 => ?_)
    · replace h := (if_neg h_15).symm.trans h
      refine a_iload_n X dX8_choice_24 rfl ?_
      refine a_aload_n X dX8_choice_25 rfl ?_
      refine a_iload_n X dX8_choice_26 rfl ?_
      obtain ⟨e_27, f_27, h⟩ := zBx h
      refine a_callVv X dX8_choice_27 miX8_choiceMany lm8_288 (t_X8_choiceMany (by assumption) f_27) (by assumption) rfl rfl rfl (Nat.le_of_ble_eq_true rfl) ⟨by decide, by decide, by decide, by decide⟩ ?_
      refine a_icmp_ge (tgt := 46) X dX8_choice_30 (by decide) (fun h_30 => ?_) (fun h_30 => ?_)
      · replace h := (if_pos h_30).symm.trans h
        refine a_aload_n X dX8_choice_46 rfl ?_
        refine a_iconst (v := 5) X dX8_choice_47 (by decide) ?_
        obtain ⟨e_48, f_48, h⟩ := zBx h
        refine a_callVv X dX8_choice_48 miX8_refuse lm8_263 (t_X8_refuse (by assumption) f_48) (by assumption) rfl rfl rfl (Nat.le_of_ble_eq_true rfl) ⟨by decide, by decide, by decide, by decide⟩ ?_
        exact Zw.to2 (J_51 _ _ _ _ h) rfl rfl rfl
      · replace h := (if_neg h_30).symm.trans h
        refine a_aload_n X dX8_choice_33 rfl ?_
        refine a_aload_n X dX8_choice_34 rfl ?_
        refine a_iload_n X dX8_choice_35 rfl ?_
        refine a_iload_n X dX8_choice_36 rfl ?_
        obtain ⟨e_37, f_37, h⟩ := zBx h
        refine a_callVv X dX8_choice_37 miX8_choiceOf lm8_284 (t_X8_choiceOf (by assumption) f_37) (by assumption) rfl rfl rfl (Nat.le_of_ble_eq_true rfl) ⟨by decide, by decide, by decide, by decide⟩ ?_
        obtain ⟨e_40, f_40, h⟩ := zBx h
        refine a_callVv X dX8_choice_40 miX8_gives lm8_272 (t_X8_gives (by assumption) f_40) (by assumption) rfl rfl rfl (Nat.le_of_ble_eq_true rfl) ⟨by decide, by decide, by decide, by decide⟩ ?_
        refine a_goto (tgt := 51) X dX8_choice_43 (by decide) ?_
        exact Zw.to2 (J_51 _ _ _ _ h) rfl rfl rfl
    · replace h := (if_pos h_15).symm.trans h
      refine a_aload_n X dX8_choice_18 rfl ?_
      refine a_iconst (v := 2) X dX8_choice_19 (by decide) ?_
      obtain ⟨e_20, f_20, h⟩ := zBx h
      refine a_callVv X dX8_choice_20 miX8_refuse lm8_263 (t_X8_refuse (by assumption) f_20) (by assumption) rfl rfl rfl (Nat.le_of_ble_eq_true rfl) ⟨by decide, by decide, by decide, by decide⟩ ?_
      refine a_iret X hr dX8_choice_23 ⟨by decide, by decide⟩ ?_
      subst hF
      rw [← Option.some.inj h]
      exact ⟨rfl, rfl⟩
  · replace h := (if_neg h_1).symm.trans h
    refine a_aload_n X dX8_choice_4 rfl ?_
    refine a_iconst (v := 1) X dX8_choice_5 (by decide) ?_
    obtain ⟨e_6, f_6, h⟩ := zBx h
    refine a_callVv X dX8_choice_6 miX8_refuse lm8_263 (t_X8_refuse (by assumption) f_6) (by assumption) rfl rfl rfl (Nat.le_of_ble_eq_true rfl) ⟨by decide, by decide, by decide, by decide⟩ ?_
    refine a_iret X hr dX8_choice_9 ⟨by decide, by decide⟩ ?_
    subst hF
    rw [← Option.some.inj h]
    exact ⟨rfl, rfl⟩
noncomputable def D_X8_term_23 (P : Nat) (y1_23 : Int32) (M_23 : zMt) : Option (Int32 × zMt) :=
  zB (D_X8_gives P y1_23 M_23) fun e_23 =>
  some (e_23.1, e_23.2)
noncomputable def D_X8_term (P : Nat) (v0 : Int32) (v1 : Int32) (v2 : Int32) (M : zMt) : Option (Int32 × zMt) :=
  zB (D_X8_common v0 v1) fun e_2 =>
  if v2 = 0 then
    zZ e_2 <|
    D_X8_term_23 P (v0 / e_2) M
  else
    zZ e_2 <|
    D_X8_term_23 P (v1 / e_2) M
set_option maxRecDepth 100000 in
set_option maxHeartbeats 4000000 in
theorem t_X8_term {l : Launch} {G : zG} {b : Nat} {L : List zC} {M : zMt} {N : zNt} {P : Nat} {v0 : Int32} {v1 : Int32} {v2 : Int32} (hP : LX8 L P) {r : Int32 × zMt} (h : D_X8_term P v0 v1 v2 M = some r) : zM l G b yX8_term cX8_term 5 (some .int) 1 0 0 [.ref P, .int v0, .int v1, .int v2] (L, M, N) (fun r2 z => r2 = some (.int r.1) ∧ z = (L, r.2, N)) := by
  refine zM.of miX8_term (Nat.le_of_ble_eq_true rfl) ?_
  intro p e s m args below meth c X hr hname
  generalize hF : ((fun r2 z => r2 = some (.int r.1) ∧ z = (L, r.2, N)) : Option Value → zS → Prop) = FQ
  change Zw p l e { frames := 1, cells := 0, slots := 0, locals := 80 * (1) } s m args below meth c G b 5 (MQ below (zQ G b FQ) args s 0 0 (fun q : Nat => b ≤ q)) 0 0 0 [some (.ref P), some (.int v0), some (.int v1), some (.int v2), none] [] (L, M, N)
  obtain ⟨p_lt, p_o, p_s, p_read, p_aside, p_kept, p_guest, p_readGuest, p_tape, p_unitName, p_hunterName, p_partyName, p_bits, p_partyOf, p_choiceAt, p_sizes, p_guestMany, p_pointsOf, p_ticketsOf, p_ord, p_given, p_roundOf, p_tags, p_guestTags, p_places, p_sumAt, p_sumFirst, p_sumRound, p_sumBoth, p_sumTags, p_isEnd, p_newPoints, p_inRow, p_out⟩ := id hP
  have J_23 : ∀ (x1_23 : Int32) (x2_23 : Int32) (x3_23 : Int32) (x4_23 : Int32) (y1_23 : Int32) (M_23 : zMt), D_X8_term_23 P y1_23 M_23 = some r → Zw p l e { frames := 1, cells := 0, slots := 0, locals := 80 * (1) } s m args below meth c G b 5 (MQ below (zQ G b FQ) args s 0 0 (fun q : Nat => b ≤ q)) 0 0 23 [some (.ref (P)), some (.int x1_23), some (.int x2_23), some (.int x3_23), some (.int x4_23)] [.int y1_23, .ref (P)] (L, M_23, N) := by
    intro x1_23 x2_23 x3_23 x4_23 y1_23 M_23 h
    unfold D_X8_term_23 at h
    obtain ⟨e_23, f_23, h⟩ := zBx h
    refine a_callVv X dX8_term_23 miX8_gives lm8_272 (t_X8_gives (by assumption) f_23) (by assumption) rfl rfl rfl (Nat.le_of_ble_eq_true rfl) ⟨by decide, by decide, by decide, by decide⟩ ?_
    refine a_iret X hr dX8_term_26 ⟨by decide, by decide⟩ ?_
    subst hF
    rw [← Option.some.inj h]
    exact ⟨rfl, rfl⟩
  unfold D_X8_term at h
  refine a_iload_n X dX8_term_0 rfl ?_
  refine a_iload_n X dX8_term_1 rfl ?_
  obtain ⟨e_2, f_2, h⟩ := zBx h
  refine a_callSv X dX8_term_2 miX8_common lm8_318 (t_X8_common f_2) rfl rfl (Nat.le_of_ble_eq_true rfl) ⟨by decide, by decide, by decide, by decide⟩ ?_
  refine a_istore X dX8_term_5 (by decide) ?_
  refine a_aload_n X dX8_term_7 rfl ?_
  refine a_iload_n X dX8_term_8 rfl ?_
  refine a_if_ne (tgt := 19) X dX8_term_9 (by decide) (fun h_9 => ?_) (fun h_9 => ?_)
  · replace h := (if_neg h_9).symm.trans h
    refine a_iload_n X dX8_term_19 rfl ?_
    refine a_iload X dX8_term_20 rfl ?_
    obtain ⟨z_22, h⟩ := zZx h
    refine a_idiv X dX8_term_22 (z_22) ?_
    exact Zw.to2 (J_23 _ _ _ _ _ _ h) rfl rfl rfl
  · replace h := (if_pos h_9).symm.trans h
    refine a_iload_n X dX8_term_12 rfl ?_
    refine a_iload X dX8_term_13 rfl ?_
    obtain ⟨z_15, h⟩ := zZx h
    refine a_idiv X dX8_term_15 (z_15) ?_
    refine a_goto (tgt := 23) X dX8_term_16 (by decide) ?_
    exact Zw.to2 (J_23 _ _ _ _ _ _ h) rfl rfl rfl
noncomputable def D_X8_demand_89 (P : Nat) (k57 : Int32 → Int32 → Int32 → Int32 → zMt → Option (Int32 × zMt)) (x1_89 : Int32) (x2_89 : Int32) (x4_89 : Int32) (y0_89 : Int32) (y1_89 : Int32) (M_89 : zMt) : Option (Int32 × zMt) :=
  k57 x1_89 x2_89 (y0_89 + y1_89) (x4_89 + 1) M_89
noncomputable def D_X8_demand_57 (P : Nat) : Nat → Int32 → Int32 → Int32 → Int32 → zMt → Option (Int32 × zMt)
  | 0, _, _, _, _, _ => none
  | n + 1, x1_57, x2_57, x3_57, x4_57, M_57 =>
    if (M_57 P 33) ≤ x4_57 then
      zI ((62 : Int32) + x1_57) 82 <|
      zB (D_X8_term P x3_57 (M_57 (P + 1) ((62 : Int32) + x1_57).toNatClampNeg) x2_57 M_57) fun e_109 =>
      some (e_109.1, e_109.2)
    else
      zB (D_X8_choiceOf P M_57 x4_57 (0 : Int32)) fun e_71 =>
      if e_71 = x1_57 then
        zI x4_57 10 <|
        D_X8_demand_89 P (D_X8_demand_57 P n) x1_57 x2_57 x4_57 x3_57 (M_57 (P + 14) x4_57.toNatClampNeg) M_57
      else
        D_X8_demand_89 P (D_X8_demand_57 P n) x1_57 x2_57 x4_57 x3_57 (0 : Int32) M_57
noncomputable def D_X8_demand (P : Nat) (v0 : Int32) (v1 : Int32) (M : zMt) : Option (Int32 × zMt) :=
  zB (D_X8_isFrom (Int32.toInt64 v1) (0 : Int64) (1 : Int64)) fun e_4 =>
  if e_4 = 0 then
    zB (D_X8_refuse P (1 : Int32) M) fun e_12 =>
    some (e_12.1, e_12.2)
  else
    zB (D_X8_isUnit P M v0) fun e_18 =>
    if e_18 = 0 then
      zB (D_X8_refuse P (2 : Int32) M) fun e_26 =>
      some (e_26.1, e_26.2)
    else
      zI ((62 : Int32) + v0) 82 <|
      if (M (P + 1) ((62 : Int32) + v0).toNatClampNeg) = 0 then
        zB (D_X8_refuse P (5 : Int32) M) fun e_44 =>
        some (e_44.1, e_44.2)
      else
        zB (D_X8_laysApplicants P M) fun e_49 =>
        D_X8_demand_57 P zFu v0 v1 (0 : Int32) (0 : Int32) e_49
set_option maxRecDepth 100000 in
set_option maxHeartbeats 4000000 in
theorem t_X8_demand {l : Launch} {G : zG} {b : Nat} {L : List zC} {M : zMt} {N : zNt} {P : Nat} {v0 : Int32} {v1 : Int32} (hP : LX8 L P) {r : Int32 × zMt} (h : D_X8_demand P v0 v1 M = some r) : zM l G b yX8_demand cX8_demand 5 (some .int) 3 0 0 [.ref P, .int v0, .int v1] (L, M, N) (fun r2 z => r2 = some (.int r.1) ∧ z = (L, r.2, N)) := by
  refine zM.of miX8_demand (Nat.le_of_ble_eq_true rfl) ?_
  intro p e s m args below meth c X hr hname
  generalize hF : ((fun r2 z => r2 = some (.int r.1) ∧ z = (L, r.2, N)) : Option Value → zS → Prop) = FQ
  change Zw p l e { frames := 3, cells := 0, slots := 0, locals := 80 * (3) } s m args below meth c G b 5 (MQ below (zQ G b FQ) args s 0 0 (fun q : Nat => b ≤ q)) 0 0 0 [some (.ref P), some (.int v0), some (.int v1), none, none] [] (L, M, N)
  obtain ⟨p_lt, p_o, p_s, p_read, p_aside, p_kept, p_guest, p_readGuest, p_tape, p_unitName, p_hunterName, p_partyName, p_bits, p_partyOf, p_choiceAt, p_sizes, p_guestMany, p_pointsOf, p_ticketsOf, p_ord, p_given, p_roundOf, p_tags, p_guestTags, p_places, p_sumAt, p_sumFirst, p_sumRound, p_sumBoth, p_sumTags, p_isEnd, p_newPoints, p_inRow, p_out⟩ := id hP
  have L_57 : ∀ u : Nat, ∀ (x1_57 : Int32) (x2_57 : Int32) (x3_57 : Int32) (x4_57 : Int32) (M_57 : zMt), D_X8_demand_57 P u x1_57 x2_57 x3_57 x4_57 M_57 = some r → Zw p l e { frames := 3, cells := 0, slots := 0, locals := 80 * (3) } s m args below meth c G b 5 (MQ below (zQ G b FQ) args s 0 0 (fun q : Nat => b ≤ q)) 0 0 57 [some (.ref (P)), some (.int x1_57), some (.int x2_57), some (.int x3_57), some (.int x4_57)] [] (L, M_57, N) := by
    intro u
    induction u with
    | zero => intro x1_57 x2_57 x3_57 x4_57 M_57 h; cases (show none = some r from h)
    | succ u_57 ih_57 =>
      have J_89 : ∀ (x1_89 : Int32) (x2_89 : Int32) (x3_89 : Int32) (x4_89 : Int32) (y0_89 : Int32) (y1_89 : Int32) (M_89 : zMt), D_X8_demand_89 P (D_X8_demand_57 P u_57) x1_89 x2_89 x4_89 y0_89 y1_89 M_89 = some r → Zw p l e { frames := 3, cells := 0, slots := 0, locals := 80 * (3) } s m args below meth c G b 5 (MQ below (zQ G b FQ) args s 0 0 (fun q : Nat => b ≤ q)) 0 0 89 [some (.ref (P)), some (.int x1_89), some (.int x2_89), some (.int x3_89), some (.int x4_89)] [.int y1_89, .int y0_89] (L, M_89, N) := by
        intro x1_89 x2_89 x3_89 x4_89 y0_89 y1_89 M_89 h
        unfold D_X8_demand_89 at h
        refine a_iadd X dX8_demand_89 ?_
        refine a_istore_n X dX8_demand_90 (by decide) ?_
        refine a_iinc (v := x4_89 + 1) X dX8_demand_91 (by decide) rfl zi_1 ?_
        refine a_goto (tgt := 57) X dX8_demand_94 (by decide) ?_
        exact Zw.to2 (ih_57 _ _ _ _ _ h) rfl rfl rfl
      intro x1_57 x2_57 x3_57 x4_57 M_57 h
      rw [D_X8_demand_57] at h
      refine a_iload X dX8_demand_57 rfl ?_
      refine a_aload_n X dX8_demand_59 rfl ?_
      refine a_geti X lf8_275 (by assumption) rfl dX8_demand_60 ?_
      refine a_icmp_ge (tgt := 97) X dX8_demand_63 (by decide) (fun h_63 => ?_) (fun h_63 => ?_)
      · replace h := (if_pos h_63).symm.trans h
        refine a_aload_n X dX8_demand_97 rfl ?_
        refine a_iload_n X dX8_demand_98 rfl ?_
        refine a_aload_n X dX8_demand_99 rfl ?_
        refine a_getr X lf8_7 (by assumption) rfl (by omega) dX8_demand_100 ?_
        refine a_bipush (v := 62) X dX8_demand_103 (by decide) ?_
        refine a_iload_n X dX8_demand_105 rfl ?_
        refine a_iadd X dX8_demand_106 ?_
        obtain ⟨g_107, h⟩ := zIx h
        refine a_iaload X (by assumption) g_107 dX8_demand_107 ?_
        refine a_iload_n X dX8_demand_108 rfl ?_
        obtain ⟨e_109, f_109, h⟩ := zBx h
        refine a_callVv X dX8_demand_109 miX8_term lm8_321 (t_X8_term (by assumption) f_109) (by assumption) rfl rfl rfl (Nat.le_of_ble_eq_true rfl) ⟨by decide, by decide, by decide, by decide⟩ ?_
        refine a_iret X hr dX8_demand_112 ⟨by decide, by decide⟩ ?_
        subst hF
        rw [← Option.some.inj h]
        exact ⟨rfl, rfl⟩
      · replace h := (if_neg h_63).symm.trans h
        refine a_iload_n X dX8_demand_66 rfl ?_
        refine a_aload_n X dX8_demand_67 rfl ?_
        refine a_iload X dX8_demand_68 rfl ?_
        refine a_iconst (v := 0) X dX8_demand_70 (by decide) ?_
        obtain ⟨e_71, f_71, h⟩ := zBx h
        refine a_callVv X dX8_demand_71 miX8_choiceOf lm8_284 (t_X8_choiceOf (by assumption) f_71) (by assumption) rfl rfl rfl (Nat.le_of_ble_eq_true rfl) ⟨by decide, by decide, by decide, by decide⟩ ?_
        refine a_iload_n X dX8_demand_74 rfl ?_
        refine a_icmp_ne (tgt := 88) X dX8_demand_75 (by decide) (fun h_75 => ?_) (fun h_75 => ?_)
        · replace h := (if_neg h_75).symm.trans h
          refine a_iconst (v := 0) X dX8_demand_88 (by decide) ?_
          exact Zw.to2 (J_89 _ _ _ _ _ _ _ h) rfl rfl rfl
        · replace h := (if_pos h_75).symm.trans h
          refine a_aload_n X dX8_demand_78 rfl ?_
          refine a_getr X lf8_58 (by assumption) rfl (by omega) dX8_demand_79 ?_
          refine a_iload X dX8_demand_82 rfl ?_
          obtain ⟨g_84, h⟩ := zIx h
          refine a_iaload X (by assumption) g_84 dX8_demand_84 ?_
          refine a_goto (tgt := 89) X dX8_demand_85 (by decide) ?_
          exact Zw.to2 (J_89 _ _ _ _ _ _ _ h) rfl rfl rfl
  have H_57 : ∀ (x1_57 : Int32) (x2_57 : Int32) (x3_57 : Int32) (x4_57 : Int32) (M_57 : zMt), D_X8_demand_57 P zFu x1_57 x2_57 x3_57 x4_57 M_57 = some r → Zw p l e { frames := 3, cells := 0, slots := 0, locals := 80 * (3) } s m args below meth c G b 5 (MQ below (zQ G b FQ) args s 0 0 (fun q : Nat => b ≤ q)) 0 0 57 [some (.ref (P)), some (.int x1_57), some (.int x2_57), some (.int x3_57), some (.int x4_57)] [] (L, M_57, N) := L_57 zFu
  unfold D_X8_demand at h
  refine a_iload_n X dX8_demand_0 rfl ?_
  refine a_i2l X dX8_demand_1 ?_
  refine a_lconst (v := 0) X dX8_demand_2 (by decide) ?_
  refine a_lconst (v := 1) X dX8_demand_3 (by decide) ?_
  obtain ⟨e_4, f_4, h⟩ := zBx h
  refine a_callSx X dX8_demand_4 miX8_isFrom lm8_128 (t_X8_isFrom f_4) rfl rfl (Nat.le_of_ble_eq_true rfl) ⟨by decide, by decide, by decide, by decide⟩ (fun r_4 S_4 q_4 => ?_)
  obtain ⟨rfl, rfl, b_4⟩ := q_4
  refine a_if_ne (tgt := 16) X dX8_demand_7 (by decide) (fun h_7 => ?_) (fun h_7 => ?_)
  · replace h := (if_neg h_7).symm.trans h
    refine a_aload_n X dX8_demand_16 rfl ?_
    refine a_iload_n X dX8_demand_17 rfl ?_
    obtain ⟨e_18, f_18, h⟩ := zBx h
    refine a_callVx X dX8_demand_18 miX8_isUnit lm8_301 (t_X8_isUnit (by assumption) f_18) (by assumption) rfl rfl rfl (Nat.le_of_ble_eq_true rfl) ⟨by decide, by decide, by decide, by decide⟩ (fun r_18 S_18 q_18 => ?_)
    obtain ⟨rfl, rfl, b_18⟩ := q_18
    refine a_if_ne (tgt := 30) X dX8_demand_21 (by decide) (fun h_21 => ?_) (fun h_21 => ?_)
    · replace h := (if_neg h_21).symm.trans h
      refine a_aload_n X dX8_demand_30 rfl ?_
      refine a_getr X lf8_7 (by assumption) rfl (by omega) dX8_demand_31 ?_
      refine a_bipush (v := 62) X dX8_demand_34 (by decide) ?_
      refine a_iload_n X dX8_demand_36 rfl ?_
      refine a_iadd X dX8_demand_37 ?_
      obtain ⟨g_38, h⟩ := zIx h
      refine a_iaload X (by assumption) g_38 dX8_demand_38 ?_
      refine a_if_ne (tgt := 48) X dX8_demand_39 (by decide) (fun h_39 => ?_) (fun h_39 => ?_)
      · replace h := (if_neg h_39).symm.trans h
        refine a_aload_n X dX8_demand_48 rfl ?_
        obtain ⟨e_49, f_49, h⟩ := zBx h
        refine a_callVu X dX8_demand_49 miX8_laysApplicants lm8_281 (t_X8_laysApplicants (by assumption) f_49) (by assumption) rfl rfl rfl (Nat.le_of_ble_eq_true rfl) ⟨by decide, by decide, by decide, by decide⟩ ?_
        refine a_iconst (v := 0) X dX8_demand_52 (by decide) ?_
        refine a_istore_n X dX8_demand_53 (by decide) ?_
        refine a_iconst (v := 0) X dX8_demand_54 (by decide) ?_
        refine a_istore X dX8_demand_55 (by decide) ?_
        exact Zw.to2 (H_57 _ _ _ _ _ h) rfl rfl rfl
      · replace h := (if_pos h_39).symm.trans h
        refine a_aload_n X dX8_demand_42 rfl ?_
        refine a_iconst (v := 5) X dX8_demand_43 (by decide) ?_
        obtain ⟨e_44, f_44, h⟩ := zBx h
        refine a_callVv X dX8_demand_44 miX8_refuse lm8_263 (t_X8_refuse (by assumption) f_44) (by assumption) rfl rfl rfl (Nat.le_of_ble_eq_true rfl) ⟨by decide, by decide, by decide, by decide⟩ ?_
        refine a_iret X hr dX8_demand_47 ⟨by decide, by decide⟩ ?_
        subst hF
        rw [← Option.some.inj h]
        exact ⟨rfl, rfl⟩
    · replace h := (if_pos h_21).symm.trans h
      refine a_aload_n X dX8_demand_24 rfl ?_
      refine a_iconst (v := 2) X dX8_demand_25 (by decide) ?_
      obtain ⟨e_26, f_26, h⟩ := zBx h
      refine a_callVv X dX8_demand_26 miX8_refuse lm8_263 (t_X8_refuse (by assumption) f_26) (by assumption) rfl rfl rfl (Nat.le_of_ble_eq_true rfl) ⟨by decide, by decide, by decide, by decide⟩ ?_
      refine a_iret X hr dX8_demand_29 ⟨by decide, by decide⟩ ?_
      subst hF
      rw [← Option.some.inj h]
      exact ⟨rfl, rfl⟩
  · replace h := (if_pos h_7).symm.trans h
    refine a_aload_n X dX8_demand_10 rfl ?_
    refine a_iconst (v := 1) X dX8_demand_11 (by decide) ?_
    obtain ⟨e_12, f_12, h⟩ := zBx h
    refine a_callVv X dX8_demand_12 miX8_refuse lm8_263 (t_X8_refuse (by assumption) f_12) (by assumption) rfl rfl rfl (Nat.le_of_ble_eq_true rfl) ⟨by decide, by decide, by decide, by decide⟩ ?_
    refine a_iret X hr dX8_demand_15 ⟨by decide, by decide⟩ ?_
    subst hF
    rw [← Option.some.inj h]
    exact ⟨rfl, rfl⟩
noncomputable def D_X8_share_35 (P : Nat) : Nat → Int32 → Int32 → Int32 → Int32 → zMt → Option (Int32 × zMt)
  | 0, _, _, _, _, _ => none
  | n + 1, x1_35, x2_35, x3_35, x4_35, M_35 =>
    if (M_35 P 33) ≤ x4_35 then
      zI x1_35 10 <|
      zB (D_X8_term P (M_35 (P + 17) x1_35.toNatClampNeg) x3_35 x2_35 M_35) fun e_69 =>
      some (e_69.1, e_69.2)
    else
      zI x4_35 10 <|
      (D_X8_share_35 P n) x1_35 x2_35 (x3_35 + (M_35 (P + 17) x4_35.toNatClampNeg)) (x4_35 + 1) M_35
noncomputable def D_X8_share (P : Nat) (v0 : Int32) (v1 : Int32) (M : zMt) : Option (Int32 × zMt) :=
  zB (D_X8_isFrom (Int32.toInt64 v1) (0 : Int64) (1 : Int64)) fun e_4 =>
  if e_4 = 0 then
    zB (D_X8_refuse P (1 : Int32) M) fun e_12 =>
    some (e_12.1, e_12.2)
  else
    zB (D_X8_isApplicant P v0 M) fun e_18 =>
    if e_18.1 = 0 then
      zB (D_X8_refuse P (2 : Int32) e_18.2) fun e_26 =>
      some (e_26.1, e_26.2)
    else
      D_X8_share_35 P zFu v0 v1 (0 : Int32) (0 : Int32) e_18.2
set_option maxRecDepth 100000 in
set_option maxHeartbeats 4000000 in
theorem t_X8_share {l : Launch} {G : zG} {b : Nat} {L : List zC} {M : zMt} {N : zNt} {P : Nat} {v0 : Int32} {v1 : Int32} (hP : LX8 L P) {r : Int32 × zMt} (h : D_X8_share P v0 v1 M = some r) : zM l G b yX8_share cX8_share 5 (some .int) 4 0 0 [.ref P, .int v0, .int v1] (L, M, N) (fun r2 z => r2 = some (.int r.1) ∧ z = (L, r.2, N)) := by
  refine zM.of miX8_share (Nat.le_of_ble_eq_true rfl) ?_
  intro p e s m args below meth c X hr hname
  generalize hF : ((fun r2 z => r2 = some (.int r.1) ∧ z = (L, r.2, N)) : Option Value → zS → Prop) = FQ
  change Zw p l e { frames := 4, cells := 0, slots := 0, locals := 80 * (4) } s m args below meth c G b 5 (MQ below (zQ G b FQ) args s 0 0 (fun q : Nat => b ≤ q)) 0 0 0 [some (.ref P), some (.int v0), some (.int v1), none, none] [] (L, M, N)
  obtain ⟨p_lt, p_o, p_s, p_read, p_aside, p_kept, p_guest, p_readGuest, p_tape, p_unitName, p_hunterName, p_partyName, p_bits, p_partyOf, p_choiceAt, p_sizes, p_guestMany, p_pointsOf, p_ticketsOf, p_ord, p_given, p_roundOf, p_tags, p_guestTags, p_places, p_sumAt, p_sumFirst, p_sumRound, p_sumBoth, p_sumTags, p_isEnd, p_newPoints, p_inRow, p_out⟩ := id hP
  have L_35 : ∀ u : Nat, ∀ (x1_35 : Int32) (x2_35 : Int32) (x3_35 : Int32) (x4_35 : Int32) (M_35 : zMt), D_X8_share_35 P u x1_35 x2_35 x3_35 x4_35 M_35 = some r → Zw p l e { frames := 4, cells := 0, slots := 0, locals := 80 * (4) } s m args below meth c G b 5 (MQ below (zQ G b FQ) args s 0 0 (fun q : Nat => b ≤ q)) 0 0 35 [some (.ref (P)), some (.int x1_35), some (.int x2_35), some (.int x3_35), some (.int x4_35)] [] (L, M_35, N) := by
    intro u
    induction u with
    | zero => intro x1_35 x2_35 x3_35 x4_35 M_35 h; cases (show none = some r from h)
    | succ u_35 ih_35 =>
      intro x1_35 x2_35 x3_35 x4_35 M_35 h
      rw [D_X8_share_35] at h
      refine a_iload X dX8_share_35 rfl ?_
      refine a_aload_n X dX8_share_37 rfl ?_
      refine a_geti X lf8_275 (by assumption) rfl dX8_share_38 ?_
      refine a_icmp_ge (tgt := 60) X dX8_share_41 (by decide) (fun h_41 => ?_) (fun h_41 => ?_)
      · replace h := (if_pos h_41).symm.trans h
        refine a_aload_n X dX8_share_60 rfl ?_
        refine a_aload_n X dX8_share_61 rfl ?_
        refine a_getr X lf8_67 (by assumption) rfl (by omega) dX8_share_62 ?_
        refine a_iload_n X dX8_share_65 rfl ?_
        obtain ⟨g_66, h⟩ := zIx h
        refine a_iaload X (by assumption) g_66 dX8_share_66 ?_
        refine a_iload_n X dX8_share_67 rfl ?_
        refine a_iload_n X dX8_share_68 rfl ?_
        obtain ⟨e_69, f_69, h⟩ := zBx h
        refine a_callVv X dX8_share_69 miX8_term lm8_321 (t_X8_term (by assumption) f_69) (by assumption) rfl rfl rfl (Nat.le_of_ble_eq_true rfl) ⟨by decide, by decide, by decide, by decide⟩ ?_
        refine a_iret X hr dX8_share_72 ⟨by decide, by decide⟩ ?_
        subst hF
        rw [← Option.some.inj h]
        exact ⟨rfl, rfl⟩
      · replace h := (if_neg h_41).symm.trans h
        refine a_iload_n X dX8_share_44 rfl ?_
        refine a_aload_n X dX8_share_45 rfl ?_
        refine a_getr X lf8_67 (by assumption) rfl (by omega) dX8_share_46 ?_
        refine a_iload X dX8_share_49 rfl ?_
        obtain ⟨g_51, h⟩ := zIx h
        refine a_iaload X (by assumption) g_51 dX8_share_51 ?_
        refine a_iadd X dX8_share_52 ?_
        refine a_istore_n X dX8_share_53 (by decide) ?_
        refine a_iinc (v := x4_35 + 1) X dX8_share_54 (by decide) rfl zi_1 ?_
        refine a_goto (tgt := 35) X dX8_share_57 (by decide) ?_
        exact Zw.to2 (ih_35 _ _ _ _ _ h) rfl rfl rfl
  have H_35 : ∀ (x1_35 : Int32) (x2_35 : Int32) (x3_35 : Int32) (x4_35 : Int32) (M_35 : zMt), D_X8_share_35 P zFu x1_35 x2_35 x3_35 x4_35 M_35 = some r → Zw p l e { frames := 4, cells := 0, slots := 0, locals := 80 * (4) } s m args below meth c G b 5 (MQ below (zQ G b FQ) args s 0 0 (fun q : Nat => b ≤ q)) 0 0 35 [some (.ref (P)), some (.int x1_35), some (.int x2_35), some (.int x3_35), some (.int x4_35)] [] (L, M_35, N) := L_35 zFu
  unfold D_X8_share at h
  refine a_iload_n X dX8_share_0 rfl ?_
  refine a_i2l X dX8_share_1 ?_
  refine a_lconst (v := 0) X dX8_share_2 (by decide) ?_
  refine a_lconst (v := 1) X dX8_share_3 (by decide) ?_
  obtain ⟨e_4, f_4, h⟩ := zBx h
  refine a_callSx X dX8_share_4 miX8_isFrom lm8_128 (t_X8_isFrom f_4) rfl rfl (Nat.le_of_ble_eq_true rfl) ⟨by decide, by decide, by decide, by decide⟩ (fun r_4 S_4 q_4 => ?_)
  obtain ⟨rfl, rfl, b_4⟩ := q_4
  refine a_if_ne (tgt := 16) X dX8_share_7 (by decide) (fun h_7 => ?_) (fun h_7 => ?_)
  · replace h := (if_neg h_7).symm.trans h
    refine a_aload_n X dX8_share_16 rfl ?_
    refine a_iload_n X dX8_share_17 rfl ?_
    obtain ⟨e_18, f_18, h⟩ := zBx h
    refine a_callVx X dX8_share_18 miX8_isApplicant lm8_315 (t_X8_isApplicant (by assumption) f_18) (by assumption) rfl rfl rfl (Nat.le_of_ble_eq_true rfl) ⟨by decide, by decide, by decide, by decide⟩ (fun r_18 S_18 q_18 => ?_)
    obtain ⟨rfl, rfl, b_18⟩ := q_18
    refine a_if_ne (tgt := 30) X dX8_share_21 (by decide) (fun h_21 => ?_) (fun h_21 => ?_)
    · replace h := (if_neg h_21).symm.trans h
      refine a_iconst (v := 0) X dX8_share_30 (by decide) ?_
      refine a_istore_n X dX8_share_31 (by decide) ?_
      refine a_iconst (v := 0) X dX8_share_32 (by decide) ?_
      refine a_istore X dX8_share_33 (by decide) ?_
      exact Zw.to2 (H_35 _ _ _ _ _ h) rfl rfl rfl
    · replace h := (if_pos h_21).symm.trans h
      refine a_aload_n X dX8_share_24 rfl ?_
      refine a_iconst (v := 2) X dX8_share_25 (by decide) ?_
      obtain ⟨e_26, f_26, h⟩ := zBx h
      refine a_callVv X dX8_share_26 miX8_refuse lm8_263 (t_X8_refuse (by assumption) f_26) (by assumption) rfl rfl rfl (Nat.le_of_ble_eq_true rfl) ⟨by decide, by decide, by decide, by decide⟩ ?_
      refine a_iret X hr dX8_share_29 ⟨by decide, by decide⟩ ?_
      subst hF
      rw [← Option.some.inj h]
      exact ⟨rfl, rfl⟩
  · replace h := (if_pos h_7).symm.trans h
    refine a_aload_n X dX8_share_10 rfl ?_
    refine a_iconst (v := 1) X dX8_share_11 (by decide) ?_
    obtain ⟨e_12, f_12, h⟩ := zBx h
    refine a_callVv X dX8_share_12 miX8_refuse lm8_263 (t_X8_refuse (by assumption) f_12) (by assumption) rfl rfl rfl (Nat.le_of_ble_eq_true rfl) ⟨by decide, by decide, by decide, by decide⟩ ?_
    refine a_iret X hr dX8_share_15 ⟨by decide, by decide⟩ ?_
    subst hF
    rw [← Option.some.inj h]
    exact ⟨rfl, rfl⟩
noncomputable def D_X8_gets (P : Nat) (v0 : Int32) (v1 : Int32) (v2 : Int32) (M : zMt) : Option (zMt) :=
  zI v0 10 <|
  zLt (zu M (P + 19) v0.toNatClampNeg v1) fun M_6 =>
  zI v0 10 <|
  zLt (zu M_6 (P + 20) v0.toNatClampNeg v2) fun M_13 =>
  zI v1 5 <|
  zI v0 10 <|
  zI v1 5 <|
  zLt (zu M_13 (P + 21) v1.toNatClampNeg ((M_13 (P + 21) v1.toNatClampNeg) - (M_13 (P + 14) v0.toNatClampNeg))) fun M_28 =>
  zI v1 5 <|
  zI v0 10 <|
  zI v1 5 <|
  zLt (zu M_28 (P + 22) v1.toNatClampNeg ((M_28 (P + 22) v1.toNatClampNeg) - (M_28 (P + 15) v0.toNatClampNeg))) fun M_43 =>
  some (M_43)
set_option maxRecDepth 100000 in
set_option maxHeartbeats 4000000 in
theorem t_X8_gets {l : Launch} {G : zG} {b : Nat} {L : List zC} {M : zMt} {N : zNt} {P : Nat} {v0 : Int32} {v1 : Int32} {v2 : Int32} (hP : LX8 L P) {r : zMt} (h : D_X8_gets P v0 v1 v2 M = some r) : zM l G b yX8_gets cX8_gets 4 none 0 0 0 [.ref P, .int v0, .int v1, .int v2] (L, M, N) (fun r2 z => r2 = none ∧ z = (L, r, N)) := by
  refine zM.of miX8_gets (Nat.le_of_ble_eq_true rfl) ?_
  intro p e s m args below meth c X hr hname
  generalize hF : ((fun r2 z => r2 = none ∧ z = (L, r, N)) : Option Value → zS → Prop) = FQ
  change Zw p l e { frames := 0, cells := 0, slots := 0, locals := 80 * (0) } s m args below meth c G b 4 (MQ below (zQ G b FQ) args s 0 0 (fun q : Nat => b ≤ q)) 0 0 0 [some (.ref P), some (.int v0), some (.int v1), some (.int v2)] [] (L, M, N)
  obtain ⟨p_lt, p_o, p_s, p_read, p_aside, p_kept, p_guest, p_readGuest, p_tape, p_unitName, p_hunterName, p_partyName, p_bits, p_partyOf, p_choiceAt, p_sizes, p_guestMany, p_pointsOf, p_ticketsOf, p_ord, p_given, p_roundOf, p_tags, p_guestTags, p_places, p_sumAt, p_sumFirst, p_sumRound, p_sumBoth, p_sumTags, p_isEnd, p_newPoints, p_inRow, p_out⟩ := id hP
  unfold D_X8_gets at h
  refine a_aload_n X dX8_gets_0 rfl ?_
  refine a_getr X lf8_73 (by assumption) rfl (by omega) dX8_gets_1 ?_
  refine a_iload_n X dX8_gets_4 rfl ?_
  refine a_iload_n X dX8_gets_5 rfl ?_
  obtain ⟨g_6, h⟩ := zIx h
  obtain ⟨M_6, f_6, h⟩ := zLtx h
  refine d_iastore X (by assumption) g_6 dX8_gets_6 f_6 ?_
  refine a_aload_n X dX8_gets_7 rfl ?_
  refine a_getr X lf8_76 (by assumption) rfl (by omega) dX8_gets_8 ?_
  refine a_iload_n X dX8_gets_11 rfl ?_
  refine a_iload_n X dX8_gets_12 rfl ?_
  obtain ⟨g_13, h⟩ := zIx h
  obtain ⟨M_13, f_13, h⟩ := zLtx h
  refine d_iastore X (by assumption) g_13 dX8_gets_13 f_13 ?_
  refine a_aload_n X dX8_gets_14 rfl ?_
  refine a_getr X lf8_79 (by assumption) rfl (by omega) dX8_gets_15 ?_
  refine a_iload_n X dX8_gets_18 rfl ?_
  refine a_dup2 X dX8_gets_19 rfl rfl ?_
  obtain ⟨g_20, h⟩ := zIx h
  refine a_iaload X (by assumption) g_20 dX8_gets_20 ?_
  refine a_aload_n X dX8_gets_21 rfl ?_
  refine a_getr X lf8_58 (by assumption) rfl (by omega) dX8_gets_22 ?_
  refine a_iload_n X dX8_gets_25 rfl ?_
  obtain ⟨g_26, h⟩ := zIx h
  refine a_iaload X (by assumption) g_26 dX8_gets_26 ?_
  refine a_isub X dX8_gets_27 ?_
  obtain ⟨g_28, h⟩ := zIx h
  obtain ⟨M_28, f_28, h⟩ := zLtx h
  refine d_iastore X (by assumption) g_28 dX8_gets_28 f_28 ?_
  refine a_aload_n X dX8_gets_29 rfl ?_
  refine a_getr X lf8_82 (by assumption) rfl (by omega) dX8_gets_30 ?_
  refine a_iload_n X dX8_gets_33 rfl ?_
  refine a_dup2 X dX8_gets_34 rfl rfl ?_
  obtain ⟨g_35, h⟩ := zIx h
  refine a_iaload X (by assumption) g_35 dX8_gets_35 ?_
  refine a_aload_n X dX8_gets_36 rfl ?_
  refine a_getr X lf8_61 (by assumption) rfl (by omega) dX8_gets_37 ?_
  refine a_iload_n X dX8_gets_40 rfl ?_
  obtain ⟨g_41, h⟩ := zIx h
  refine a_iaload X (by assumption) g_41 dX8_gets_41 ?_
  refine a_isub X dX8_gets_42 ?_
  obtain ⟨g_43, h⟩ := zIx h
  obtain ⟨M_43, f_43, h⟩ := zLtx h
  refine d_iastore X (by assumption) g_43 dX8_gets_43 f_43 ?_
  refine a_vret X hr dX8_gets_44 ⟨by decide, by decide⟩ ?_
  subst hF
  rw [← Option.some.inj h]
  exact ⟨rfl, rfl⟩
noncomputable def D_X8_fits_30 (P : Nat) (M : zMt) (y0_30 : Int32) : Option (Int32) :=
  some (y0_30)
noncomputable def D_X8_fits_29 (P : Nat) (M : zMt)  : Option (Int32) :=
  D_X8_fits_30 P M (0 : Int32)
noncomputable def D_X8_fits (P : Nat) (M : zMt) (v0 : Int32) (v1 : Int32) (v2 : Int32) : Option (Int32) :=
  zI v0 10 <|
  if v2 < (M (P + 14) v0.toNatClampNeg) then
    D_X8_fits_29 P M
  else
    zI v0 10 <|
    zI v1 5 <|
    if (M (P + 22) v1.toNatClampNeg) < (M (P + 15) v0.toNatClampNeg) then
      D_X8_fits_29 P M
    else
      D_X8_fits_30 P M (1 : Int32)
set_option maxRecDepth 100000 in
set_option maxHeartbeats 4000000 in
theorem t_X8_fits {l : Launch} {G : zG} {b : Nat} {L : List zC} {M : zMt} {N : zNt} {P : Nat} {v0 : Int32} {v1 : Int32} {v2 : Int32} (hP : LX8 L P) {r : Int32} (h : D_X8_fits P M v0 v1 v2 = some r) : zM l G b yX8_fits cX8_fits 4 (some .boolean) 0 0 0 [.ref P, .int v0, .int v1, .int v2] (L, M, N) (fun r2 z => r2 = some (.int r) ∧ z = (L, M, N) ∧ (r = 0 ∨ r = 1)) := by
  refine zM.of miX8_fits (Nat.le_of_ble_eq_true rfl) ?_
  intro p e s m args below meth c X hr hname
  generalize hF : ((fun r2 z => r2 = some (.int r) ∧ z = (L, M, N) ∧ (r = 0 ∨ r = 1)) : Option Value → zS → Prop) = FQ
  change Zw p l e { frames := 0, cells := 0, slots := 0, locals := 80 * (0) } s m args below meth c G b 4 (MQ below (zQ G b FQ) args s 0 0 (fun q : Nat => b ≤ q)) 0 0 0 [some (.ref P), some (.int v0), some (.int v1), some (.int v2)] [] (L, M, N)
  obtain ⟨p_lt, p_o, p_s, p_read, p_aside, p_kept, p_guest, p_readGuest, p_tape, p_unitName, p_hunterName, p_partyName, p_bits, p_partyOf, p_choiceAt, p_sizes, p_guestMany, p_pointsOf, p_ticketsOf, p_ord, p_given, p_roundOf, p_tags, p_guestTags, p_places, p_sumAt, p_sumFirst, p_sumRound, p_sumBoth, p_sumTags, p_isEnd, p_newPoints, p_inRow, p_out⟩ := id hP
  have J_30 : ∀ (x1_30 : Int32) (x2_30 : Int32) (x3_30 : Int32) (y0_30 : Int32), (y0_30 = 0 ∨ y0_30 = 1) → D_X8_fits_30 P M y0_30 = some r → Zw p l e { frames := 0, cells := 0, slots := 0, locals := 80 * (0) } s m args below meth c G b 4 (MQ below (zQ G b FQ) args s 0 0 (fun q : Nat => b ≤ q)) 0 0 30 [some (.ref (P)), some (.int x1_30), some (.int x2_30), some (.int x3_30)] [.int y0_30] (L, M, N) := by
    intro x1_30 x2_30 x3_30 y0_30 fb_y0_30 h
    unfold D_X8_fits_30 at h
    refine a_zret X (by first | exact Or.inl rfl | exact Or.inr rfl | assumption) hr dX8_fits_30 ⟨by decide, by decide⟩ ?_
    subst hF
    rw [← Option.some.inj h]
    exact ⟨rfl, rfl, (by first | exact Or.inl rfl | exact Or.inr rfl | assumption)⟩
  have J_29 : ∀ (x1_29 : Int32) (x2_29 : Int32) (x3_29 : Int32), D_X8_fits_29 P M = some r → Zw p l e { frames := 0, cells := 0, slots := 0, locals := 80 * (0) } s m args below meth c G b 4 (MQ below (zQ G b FQ) args s 0 0 (fun q : Nat => b ≤ q)) 0 0 29 [some (.ref (P)), some (.int x1_29), some (.int x2_29), some (.int x3_29)] [] (L, M, N) := by
    intro x1_29 x2_29 x3_29 h
    unfold D_X8_fits_29 at h
    refine a_iconst (v := 0) X dX8_fits_29 (by decide) ?_
    exact Zw.to2 (J_30 _ _ _ _ (by first | exact Or.inl rfl | exact Or.inr rfl | assumption) h) rfl rfl rfl
  unfold D_X8_fits at h
  refine a_aload_n X dX8_fits_0 rfl ?_
  refine a_getr X lf8_58 (by assumption) rfl (by omega) dX8_fits_1 ?_
  refine a_iload_n X dX8_fits_4 rfl ?_
  obtain ⟨g_5, h⟩ := zIx h
  refine a_iaload X (by assumption) g_5 dX8_fits_5 ?_
  refine a_iload_n X dX8_fits_6 rfl ?_
  refine a_icmp_gt (tgt := 29) X dX8_fits_7 (by decide) (fun h_7 => ?_) (fun h_7 => ?_)
  · replace h := (if_pos h_7).symm.trans h
    exact Zw.to2 (J_29 _ _ _ h) rfl rfl rfl
  · replace h := (if_neg h_7).symm.trans h
    refine a_aload_n X dX8_fits_10 rfl ?_
    refine a_getr X lf8_61 (by assumption) rfl (by omega) dX8_fits_11 ?_
    refine a_iload_n X dX8_fits_14 rfl ?_
    obtain ⟨g_15, h⟩ := zIx h
    refine a_iaload X (by assumption) g_15 dX8_fits_15 ?_
    refine a_aload_n X dX8_fits_16 rfl ?_
    refine a_getr X lf8_82 (by assumption) rfl (by omega) dX8_fits_17 ?_
    refine a_iload_n X dX8_fits_20 rfl ?_
    obtain ⟨g_21, h⟩ := zIx h
    refine a_iaload X (by assumption) g_21 dX8_fits_21 ?_
    refine a_icmp_gt (tgt := 29) X dX8_fits_22 (by decide) (fun h_22 => ?_) (fun h_22 => ?_)
    · replace h := (if_pos h_22).symm.trans h
      exact Zw.to2 (J_29 _ _ _ h) rfl rfl rfl
    · replace h := (if_neg h_22).symm.trans h
      refine a_iconst (v := 1) X dX8_fits_25 (by decide) ?_
      refine a_goto (tgt := 30) X dX8_fits_26 (by decide) ?_
      exact Zw.to2 (J_30 _ _ _ _ (by first | exact Or.inl rfl | exact Or.inr rfl | assumption) h) rfl rfl rfl
noncomputable def D_X8_firstRound_108 (P : Nat) (k3 : Int32 → Int32 → Int32 → zMt → Option (zMt)) (k10 : Int32 → Int32 → Int32 → Int32 → zMt → Option (zMt)) (x1_108 : Int32) (x2_108 : Int32) (x3_108 : Int32) (x4_108 : Int32) (M_108 : zMt) : Option (zMt) :=
  k10 x1_108 x2_108 x3_108 (x4_108 + 1) M_108
noncomputable def D_X8_firstRound_61 (P : Nat) (k3 : Int32 → Int32 → Int32 → zMt → Option (zMt)) (k10 : Int32 → Int32 → Int32 → Int32 → zMt → Option (zMt)) (x1_61 : Int32) (x2_61 : Int32) (x3_61 : Int32) (x4_61 : Int32) (x5_61 : Int32) (y0_61 : Int32) (M_61 : zMt) : Option (zMt) :=
  if y0_61 = 0 then
    D_X8_firstRound_108 P k3 k10 x1_61 x2_61 x3_61 x4_61 M_61
  else
    zI x1_61 5 <|
    zI ((62 : Int32) + x1_61) 82 <|
    zB (D_X8_preferred P M_61 x1_61) fun e_90 =>
    zB (D_X8_fits P M_61 x5_61 x1_61 (((M_61 (P + 21) x1_61.toNatClampNeg) - (M_61 (P + 1) ((62 : Int32) + x1_61).toNatClampNeg)) + e_90)) fun e_94 =>
    if e_94 = 0 then
      D_X8_firstRound_108 P k3 k10 x1_61 x2_61 x3_61 x4_61 M_61
    else
      zB (D_X8_gets P x5_61 x1_61 (1 : Int32) M_61) fun e_105 =>
      D_X8_firstRound_108 P k3 k10 x1_61 x2_61 x3_61 x4_61 e_105
noncomputable def D_X8_firstRound_60 (P : Nat) (k3 : Int32 → Int32 → Int32 → zMt → Option (zMt)) (k10 : Int32 → Int32 → Int32 → Int32 → zMt → Option (zMt)) (x1_60 : Int32) (x2_60 : Int32) (x3_60 : Int32) (x4_60 : Int32) (x5_60 : Int32) (M_60 : zMt) : Option (zMt) :=
  D_X8_firstRound_61 P k3 k10 x1_60 x2_60 x3_60 x4_60 x5_60 (0 : Int32) M_60
noncomputable def D_X8_firstRound_10 (P : Nat) (k3 : Int32 → Int32 → Int32 → zMt → Option (zMt)) : Nat → Int32 → Int32 → Int32 → Int32 → zMt → Option (zMt)
  | 0, _, _, _, _, _ => none
  | n + 1, x1_10, x2_10, x3_10, x4_10, M_10 =>
    if (M_10 P 33) ≤ x4_10 then
      k3 x1_10 x2_10 (x3_10 + (-1)) M_10
    else
      zI x4_10 10 <|
      if (M_10 (P + 18) x4_10.toNatClampNeg) = x2_10 then
        D_X8_firstRound_60 P k3 (D_X8_firstRound_10 P k3 n) x1_10 x2_10 x3_10 x4_10 (M_10 (P + 18) x4_10.toNatClampNeg) M_10
      else
        zB (D_X8_choiceOf P M_10 (M_10 (P + 18) x4_10.toNatClampNeg) (0 : Int32)) fun e_38 =>
        if e_38 = x1_10 then
          zI (M_10 (P + 18) x4_10.toNatClampNeg) 10 <|
          if (M_10 (P + 16) (M_10 (P + 18) x4_10.toNatClampNeg).toNatClampNeg) = x3_10 then
            D_X8_firstRound_61 P k3 (D_X8_firstRound_10 P k3 n) x1_10 x2_10 x3_10 x4_10 (M_10 (P + 18) x4_10.toNatClampNeg) (1 : Int32) M_10
          else
            D_X8_firstRound_60 P k3 (D_X8_firstRound_10 P k3 n) x1_10 x2_10 x3_10 x4_10 (M_10 (P + 18) x4_10.toNatClampNeg) M_10
        else
          D_X8_firstRound_60 P k3 (D_X8_firstRound_10 P k3 n) x1_10 x2_10 x3_10 x4_10 (M_10 (P + 18) x4_10.toNatClampNeg) M_10
noncomputable def D_X8_firstRound_3 (P : Nat) : Nat → Int32 → Int32 → Int32 → zMt → Option (zMt)
  | 0, _, _, _, _ => none
  | n + 1, x1_3, x2_3, x3_3, M_3 =>
    if x3_3 < 0 then
      some (M_3)
    else
      D_X8_firstRound_10 P (D_X8_firstRound_3 P n) zFu x1_3 x2_3 x3_3 (0 : Int32) M_3
noncomputable def D_X8_firstRound (P : Nat) (v0 : Int32) (v1 : Int32) (M : zMt) : Option (zMt) :=
  D_X8_firstRound_3 P zFu v0 v1 (20 : Int32) M
set_option maxRecDepth 100000 in
set_option maxHeartbeats 4000000 in
theorem t_X8_firstRound {l : Launch} {G : zG} {b : Nat} {L : List zC} {M : zMt} {N : zNt} {P : Nat} {v0 : Int32} {v1 : Int32} (hP : LX8 L P) {r : zMt} (h : D_X8_firstRound P v0 v1 M = some r) : zM l G b yX8_firstRound cX8_firstRound 7 none 1 0 0 [.ref P, .int v0, .int v1] (L, M, N) (fun r2 z => r2 = none ∧ z = (L, r, N)) := by
  refine zM.of miX8_firstRound (Nat.le_of_ble_eq_true rfl) ?_
  intro p e s m args below meth c X hr hname
  generalize hF : ((fun r2 z => r2 = none ∧ z = (L, r, N)) : Option Value → zS → Prop) = FQ
  change Zw p l e { frames := 1, cells := 0, slots := 0, locals := 80 * (1) } s m args below meth c G b 7 (MQ below (zQ G b FQ) args s 0 0 (fun q : Nat => b ≤ q)) 0 0 0 [some (.ref P), some (.int v0), some (.int v1), none, none, none, none] [] (L, M, N)
  obtain ⟨p_lt, p_o, p_s, p_read, p_aside, p_kept, p_guest, p_readGuest, p_tape, p_unitName, p_hunterName, p_partyName, p_bits, p_partyOf, p_choiceAt, p_sizes, p_guestMany, p_pointsOf, p_ticketsOf, p_ord, p_given, p_roundOf, p_tags, p_guestTags, p_places, p_sumAt, p_sumFirst, p_sumRound, p_sumBoth, p_sumTags, p_isEnd, p_newPoints, p_inRow, p_out⟩ := id hP
  have L_3 : ∀ u : Nat, ∀ (x1_3 : Int32) (x2_3 : Int32) (x3_3 : Int32) (x4_3 : Option Value) (x5_3 : Option Value) (x6_3 : Option Value) (M_3 : zMt), D_X8_firstRound_3 P u x1_3 x2_3 x3_3 M_3 = some r → Zw p l e { frames := 1, cells := 0, slots := 0, locals := 80 * (1) } s m args below meth c G b 7 (MQ below (zQ G b FQ) args s 0 0 (fun q : Nat => b ≤ q)) 0 0 3 [some (.ref (P)), some (.int x1_3), some (.int x2_3), some (.int x3_3), x4_3, x5_3, x6_3] [] (L, M_3, N) := by
    intro u
    induction u with
    | zero => intro x1_3 x2_3 x3_3 x4_3 x5_3 x6_3 M_3 h; cases (show none = some r from h)
    | succ u_3 ih_3 =>
      have L_10 : ∀ u : Nat, ∀ (x1_10 : Int32) (x2_10 : Int32) (x3_10 : Int32) (x4_10 : Int32) (x5_10 : Option Value) (x6_10 : Option Value) (M_10 : zMt), D_X8_firstRound_10 P (D_X8_firstRound_3 P u_3) u x1_10 x2_10 x3_10 x4_10 M_10 = some r → Zw p l e { frames := 1, cells := 0, slots := 0, locals := 80 * (1) } s m args below meth c G b 7 (MQ below (zQ G b FQ) args s 0 0 (fun q : Nat => b ≤ q)) 0 0 10 [some (.ref (P)), some (.int x1_10), some (.int x2_10), some (.int x3_10), some (.int x4_10), x5_10, x6_10] [] (L, M_10, N) := by
        intro u
        induction u with
        | zero => intro x1_10 x2_10 x3_10 x4_10 x5_10 x6_10 M_10 h; cases (show none = some r from h)
        | succ u_10 ih_10 =>
          have J_108 : ∀ (x1_108 : Int32) (x2_108 : Int32) (x3_108 : Int32) (x4_108 : Int32) (x5_108 : Int32) (x6_108 : Int32) (M_108 : zMt), D_X8_firstRound_108 P (D_X8_firstRound_3 P u_3) (D_X8_firstRound_10 P (D_X8_firstRound_3 P u_3) u_10) x1_108 x2_108 x3_108 x4_108 M_108 = some r → Zw p l e { frames := 1, cells := 0, slots := 0, locals := 80 * (1) } s m args below meth c G b 7 (MQ below (zQ G b FQ) args s 0 0 (fun q : Nat => b ≤ q)) 0 0 108 [some (.ref (P)), some (.int x1_108), some (.int x2_108), some (.int x3_108), some (.int x4_108), some (.int x5_108), some (.int x6_108)] [] (L, M_108, N) := by
            intro x1_108 x2_108 x3_108 x4_108 x5_108 x6_108 M_108 h
            unfold D_X8_firstRound_108 at h
            refine a_iinc (v := x4_108 + 1) X dX8_firstRound_108 (by decide) rfl zi_1 ?_
            refine a_goto (tgt := 10) X dX8_firstRound_111 (by decide) ?_
            exact Zw.to2 (ih_10 _ _ _ _ _ _ _ h) rfl rfl rfl
          have J_61 : ∀ (x1_61 : Int32) (x2_61 : Int32) (x3_61 : Int32) (x4_61 : Int32) (x5_61 : Int32) (x6_61 : Option Value) (y0_61 : Int32) (M_61 : zMt), (y0_61 = 0 ∨ y0_61 = 1) → D_X8_firstRound_61 P (D_X8_firstRound_3 P u_3) (D_X8_firstRound_10 P (D_X8_firstRound_3 P u_3) u_10) x1_61 x2_61 x3_61 x4_61 x5_61 y0_61 M_61 = some r → Zw p l e { frames := 1, cells := 0, slots := 0, locals := 80 * (1) } s m args below meth c G b 7 (MQ below (zQ G b FQ) args s 0 0 (fun q : Nat => b ≤ q)) 0 0 61 [some (.ref (P)), some (.int x1_61), some (.int x2_61), some (.int x3_61), some (.int x4_61), some (.int x5_61), x6_61] [.int y0_61] (L, M_61, N) := by
            intro x1_61 x2_61 x3_61 x4_61 x5_61 x6_61 y0_61 M_61 fb_y0_61 h
            unfold D_X8_firstRound_61 at h
            refine a_istore X dX8_firstRound_61 (by decide) ?_
            refine a_iload X dX8_firstRound_63 rfl ?_
            refine a_if_eq (tgt := 108) X dX8_firstRound_65 (by decide) (fun h_65 => ?_) (fun h_65 => ?_)
            · replace h := (if_pos h_65).symm.trans h
              exact Zw.to2 (J_108 _ _ _ _ _ _ _ h) rfl rfl rfl
            · replace h := (if_neg h_65).symm.trans h
              refine a_aload_n X dX8_firstRound_68 rfl ?_
              refine a_iload X dX8_firstRound_69 rfl ?_
              refine a_iload_n X dX8_firstRound_71 rfl ?_
              refine a_aload_n X dX8_firstRound_72 rfl ?_
              refine a_getr X lf8_79 (by assumption) rfl (by omega) dX8_firstRound_73 ?_
              refine a_iload_n X dX8_firstRound_76 rfl ?_
              obtain ⟨g_77, h⟩ := zIx h
              refine a_iaload X (by assumption) g_77 dX8_firstRound_77 ?_
              refine a_aload_n X dX8_firstRound_78 rfl ?_
              refine a_getr X lf8_7 (by assumption) rfl (by omega) dX8_firstRound_79 ?_
              refine a_bipush (v := 62) X dX8_firstRound_82 (by decide) ?_
              refine a_iload_n X dX8_firstRound_84 rfl ?_
              refine a_iadd X dX8_firstRound_85 ?_
              obtain ⟨g_86, h⟩ := zIx h
              refine a_iaload X (by assumption) g_86 dX8_firstRound_86 ?_
              refine a_isub X dX8_firstRound_87 ?_
              refine a_aload_n X dX8_firstRound_88 rfl ?_
              refine a_iload_n X dX8_firstRound_89 rfl ?_
              obtain ⟨e_90, f_90, h⟩ := zBx h
              refine a_callVv X dX8_firstRound_90 miX8_preferred lm8_304 (t_X8_preferred (by assumption) f_90) (by assumption) rfl rfl rfl (Nat.le_of_ble_eq_true rfl) ⟨by decide, by decide, by decide, by decide⟩ ?_
              refine a_iadd X dX8_firstRound_93 ?_
              obtain ⟨e_94, f_94, h⟩ := zBx h
              refine a_callVx X dX8_firstRound_94 miX8_fits lm8_329 (t_X8_fits (by assumption) f_94) (by assumption) rfl rfl rfl (Nat.le_of_ble_eq_true rfl) ⟨by decide, by decide, by decide, by decide⟩ (fun r_94 S_94 q_94 => ?_)
              obtain ⟨rfl, rfl, b_94⟩ := q_94
              refine a_if_eq (tgt := 108) X dX8_firstRound_97 (by decide) (fun h_97 => ?_) (fun h_97 => ?_)
              · replace h := (if_pos h_97).symm.trans h
                exact Zw.to2 (J_108 _ _ _ _ _ _ _ h) rfl rfl rfl
              · replace h := (if_neg h_97).symm.trans h
                refine a_aload_n X dX8_firstRound_100 rfl ?_
                refine a_iload X dX8_firstRound_101 rfl ?_
                refine a_iload_n X dX8_firstRound_103 rfl ?_
                refine a_iconst (v := 1) X dX8_firstRound_104 (by decide) ?_
                obtain ⟨e_105, f_105, h⟩ := zBx h
                refine a_callVu X dX8_firstRound_105 miX8_gets lm8_333 (t_X8_gets (by assumption) f_105) (by assumption) rfl rfl rfl (Nat.le_of_ble_eq_true rfl) ⟨by decide, by decide, by decide, by decide⟩ ?_
                exact Zw.to2 (J_108 _ _ _ _ _ _ _ h) rfl rfl rfl
          have J_60 : ∀ (x1_60 : Int32) (x2_60 : Int32) (x3_60 : Int32) (x4_60 : Int32) (x5_60 : Int32) (x6_60 : Option Value) (M_60 : zMt), D_X8_firstRound_60 P (D_X8_firstRound_3 P u_3) (D_X8_firstRound_10 P (D_X8_firstRound_3 P u_3) u_10) x1_60 x2_60 x3_60 x4_60 x5_60 M_60 = some r → Zw p l e { frames := 1, cells := 0, slots := 0, locals := 80 * (1) } s m args below meth c G b 7 (MQ below (zQ G b FQ) args s 0 0 (fun q : Nat => b ≤ q)) 0 0 60 [some (.ref (P)), some (.int x1_60), some (.int x2_60), some (.int x3_60), some (.int x4_60), some (.int x5_60), x6_60] [] (L, M_60, N) := by
            intro x1_60 x2_60 x3_60 x4_60 x5_60 x6_60 M_60 h
            unfold D_X8_firstRound_60 at h
            refine a_iconst (v := 0) X dX8_firstRound_60 (by decide) ?_
            exact Zw.to2 (J_61 _ _ _ _ _ _ _ _ (by first | exact Or.inl rfl | exact Or.inr rfl | assumption) h) rfl rfl rfl
          intro x1_10 x2_10 x3_10 x4_10 x5_10 x6_10 M_10 h
          rw [D_X8_firstRound_10] at h
          refine a_iload X dX8_firstRound_10 rfl ?_
          refine a_aload_n X dX8_firstRound_12 rfl ?_
          refine a_geti X lf8_275 (by assumption) rfl dX8_firstRound_13 ?_
          refine a_icmp_ge (tgt := 114) X dX8_firstRound_16 (by decide) (fun h_16 => ?_) (fun h_16 => ?_)
          · replace h := (if_pos h_16).symm.trans h
            refine a_iinc (v := x3_10 + (-1)) X dX8_firstRound_114 (by decide) rfl zi_m1 ?_
            refine a_goto (tgt := 3) X dX8_firstRound_117 (by decide) ?_
            exact Zw.to2 (ih_3 _ _ _ _ _ _ _ h) rfl rfl rfl
          · replace h := (if_neg h_16).symm.trans h
            refine a_aload_n X dX8_firstRound_19 rfl ?_
            refine a_getr X lf8_70 (by assumption) rfl (by omega) dX8_firstRound_20 ?_
            refine a_iload X dX8_firstRound_23 rfl ?_
            obtain ⟨g_25, h⟩ := zIx h
            refine a_iaload X (by assumption) g_25 dX8_firstRound_25 ?_
            refine a_istore X dX8_firstRound_26 (by decide) ?_
            refine a_iload X dX8_firstRound_28 rfl ?_
            refine a_iload_n X dX8_firstRound_30 rfl ?_
            refine a_icmp_eq (tgt := 60) X dX8_firstRound_31 (by decide) (fun h_31 => ?_) (fun h_31 => ?_)
            · replace h := (if_pos h_31).symm.trans h
              exact Zw.to2 (J_60 _ _ _ _ _ _ _ h) rfl rfl rfl
            · replace h := (if_neg h_31).symm.trans h
              refine a_aload_n X dX8_firstRound_34 rfl ?_
              refine a_iload X dX8_firstRound_35 rfl ?_
              refine a_iconst (v := 0) X dX8_firstRound_37 (by decide) ?_
              obtain ⟨e_38, f_38, h⟩ := zBx h
              refine a_callVv X dX8_firstRound_38 miX8_choiceOf lm8_284 (t_X8_choiceOf (by assumption) f_38) (by assumption) rfl rfl rfl (Nat.le_of_ble_eq_true rfl) ⟨by decide, by decide, by decide, by decide⟩ ?_
              refine a_iload_n X dX8_firstRound_41 rfl ?_
              refine a_icmp_ne (tgt := 60) X dX8_firstRound_42 (by decide) (fun h_42 => ?_) (fun h_42 => ?_)
              · replace h := (if_neg h_42).symm.trans h
                exact Zw.to2 (J_60 _ _ _ _ _ _ _ h) rfl rfl rfl
              · replace h := (if_pos h_42).symm.trans h
                refine a_aload_n X dX8_firstRound_45 rfl ?_
                refine a_getr X lf8_64 (by assumption) rfl (by omega) dX8_firstRound_46 ?_
                refine a_iload X dX8_firstRound_49 rfl ?_
                obtain ⟨g_51, h⟩ := zIx h
                refine a_iaload X (by assumption) g_51 dX8_firstRound_51 ?_
                refine a_iload_n X dX8_firstRound_52 rfl ?_
                refine a_icmp_ne (tgt := 60) X dX8_firstRound_53 (by decide) (fun h_53 => ?_) (fun h_53 => ?_)
                · replace h := (if_neg h_53).symm.trans h
                  exact Zw.to2 (J_60 _ _ _ _ _ _ _ h) rfl rfl rfl
                · replace h := (if_pos h_53).symm.trans h
                  refine a_iconst (v := 1) X dX8_firstRound_56 (by decide) ?_
                  refine a_goto (tgt := 61) X dX8_firstRound_57 (by decide) ?_
                  exact Zw.to2 (J_61 _ _ _ _ _ _ _ _ (by first | exact Or.inl rfl | exact Or.inr rfl | assumption) h) rfl rfl rfl
      have H_10 : ∀ (x1_10 : Int32) (x2_10 : Int32) (x3_10 : Int32) (x4_10 : Int32) (x5_10 : Option Value) (x6_10 : Option Value) (M_10 : zMt), D_X8_firstRound_10 P (D_X8_firstRound_3 P u_3) zFu x1_10 x2_10 x3_10 x4_10 M_10 = some r → Zw p l e { frames := 1, cells := 0, slots := 0, locals := 80 * (1) } s m args below meth c G b 7 (MQ below (zQ G b FQ) args s 0 0 (fun q : Nat => b ≤ q)) 0 0 10 [some (.ref (P)), some (.int x1_10), some (.int x2_10), some (.int x3_10), some (.int x4_10), x5_10, x6_10] [] (L, M_10, N) := L_10 zFu
      intro x1_3 x2_3 x3_3 x4_3 x5_3 x6_3 M_3 h
      rw [D_X8_firstRound_3] at h
      refine a_iload_n X dX8_firstRound_3 rfl ?_
      refine a_if_lt (tgt := 120) X dX8_firstRound_4 (by decide) (fun h_4 => ?_) (fun h_4 => ?_)
      · replace h := (if_pos h_4).symm.trans h
        refine a_vret X hr dX8_firstRound_120 ⟨by decide, by decide⟩ ?_
        subst hF
        rw [← Option.some.inj h]
        exact ⟨rfl, rfl⟩
      · replace h := (if_neg h_4).symm.trans h
        refine a_iconst (v := 0) X dX8_firstRound_7 (by decide) ?_
        refine a_istore X dX8_firstRound_8 (by decide) ?_
        exact Zw.to2 (H_10 _ _ _ _ _ _ _ h) rfl rfl rfl
  have H_3 : ∀ (x1_3 : Int32) (x2_3 : Int32) (x3_3 : Int32) (x4_3 : Option Value) (x5_3 : Option Value) (x6_3 : Option Value) (M_3 : zMt), D_X8_firstRound_3 P zFu x1_3 x2_3 x3_3 M_3 = some r → Zw p l e { frames := 1, cells := 0, slots := 0, locals := 80 * (1) } s m args below meth c G b 7 (MQ below (zQ G b FQ) args s 0 0 (fun q : Nat => b ≤ q)) 0 0 3 [some (.ref (P)), some (.int x1_3), some (.int x2_3), some (.int x3_3), x4_3, x5_3, x6_3] [] (L, M_3, N) := L_3 zFu
  unfold D_X8_firstRound at h
  refine a_bipush (v := 20) X dX8_firstRound_0 (by decide) ?_
  refine a_istore_n X dX8_firstRound_2 (by decide) ?_
  exact Zw.to2 (H_3 _ _ _ _ _ _ _ h) rfl rfl rfl
noncomputable def D_X8_results_185 (P : Nat) (k96 : Int32 → Int32 → zMt → Option (zMt)) (x1_185 : Int32) (x2_185 : Int32) (M_185 : zMt) : Option (zMt) :=
  k96 x1_185 (x2_185 + 1) M_185
noncomputable def D_X8_results_179 (P : Nat) (k96 : Int32 → Int32 → zMt → Option (zMt)) (k114 : Int32 → Int32 → Int32 → Int32 → zMt → Option (zMt)) (x1_179 : Int32) (x2_179 : Int32) (x3_179 : Int32) (x4_179 : Int32) (M_179 : zMt) : Option (zMt) :=
  k114 x1_179 x2_179 x3_179 (x4_179 + 1) M_179
noncomputable def D_X8_results_114 (P : Nat) (k96 : Int32 → Int32 → zMt → Option (zMt)) : Nat → Int32 → Int32 → Int32 → Int32 → zMt → Option (zMt)
  | 0, _, _, _, _, _ => none
  | n + 1, x1_114, x2_114, x3_114, x4_114, M_114 =>
    zB (D_X8_choiceMany P M_114 x3_114) fun e_118 =>
    if e_118 ≤ x4_114 then
      D_X8_results_185 P k96 x1_114 x2_114 M_114
    else
      zI x3_114 10 <|
      if (M_114 (P + 19) x3_114.toNatClampNeg) = (-1 : Int32) then
        if x3_114 = x1_114 then
          D_X8_results_185 P k96 x1_114 x2_114 M_114
        else
          zB (D_X8_choiceOf P M_114 x3_114 x4_114) fun e_145 =>
          zB (D_X8_choiceOf P M_114 x3_114 x4_114) fun e_156 =>
          zI e_156 5 <|
          zB (D_X8_fits P M_114 x3_114 e_145 (M_114 (P + 21) e_156.toNatClampNeg)) fun e_160 =>
          if e_160 = 0 then
            D_X8_results_179 P k96 (D_X8_results_114 P k96 n) x1_114 x2_114 x3_114 x4_114 M_114
          else
            zB (D_X8_choiceOf P M_114 x3_114 x4_114) fun e_172 =>
            zB (D_X8_gets P x3_114 e_172 (2 : Int32) M_114) fun e_176 =>
            D_X8_results_179 P k96 (D_X8_results_114 P k96 n) x1_114 x2_114 x3_114 x4_114 e_176
      else
        D_X8_results_185 P k96 x1_114 x2_114 M_114
noncomputable def D_X8_results_96 (P : Nat) : Nat → Int32 → Int32 → zMt → Option (zMt)
  | 0, _, _, _ => none
  | n + 1, x1_96, x2_96, M_96 =>
    if (M_96 P 33) ≤ x2_96 then
      some (M_96)
    else
      zI x2_96 10 <|
      D_X8_results_114 P (D_X8_results_96 P n) zFu x1_96 x2_96 (M_96 (P + 18) x2_96.toNatClampNeg) (0 : Int32) M_96
noncomputable def D_X8_results_74 (P : Nat) : Nat → Int32 → Int32 → zMt → Option (zMt)
  | 0, _, _, _ => none
  | n + 1, x1_74, x2_74, M_74 =>
    if (M_74 P 7) ≤ x2_74 then
      D_X8_results_96 P zFu x1_74 (0 : Int32) M_74
    else
      zB (D_X8_firstRound P x2_74 x1_74 M_74) fun e_85 =>
      (D_X8_results_74 P n) x1_74 (x2_74 + 1) e_85
noncomputable def D_X8_results_32 (P : Nat) : Nat → Int32 → Int32 → zMt → Option (zMt)
  | 0, _, _, _ => none
  | n + 1, x1_32, x2_32, M_32 =>
    if (M_32 P 7) ≤ x2_32 then
      D_X8_results_74 P zFu x1_32 (0 : Int32) M_32
    else
      zI ((62 : Int32) + x2_32) 82 <|
      zI x2_32 5 <|
      zLt (zu M_32 (P + 21) x2_32.toNatClampNeg (M_32 (P + 1) ((62 : Int32) + x2_32).toNatClampNeg)) fun M_54 =>
      zB (D_X8_forGuests P M_54 x2_32) fun e_62 =>
      zI x2_32 5 <|
      zLt (zu M_54 (P + 22) x2_32.toNatClampNeg e_62) fun M_65 =>
      (D_X8_results_32 P n) x1_32 (x2_32 + 1) M_65
noncomputable def D_X8_results_2 (P : Nat) : Nat → Int32 → Int32 → zMt → Option (zMt)
  | 0, _, _, _ => none
  | n + 1, x1_2, x2_2, M_2 =>
    if (M_2 P 33) ≤ x2_2 then
      D_X8_results_32 P zFu x1_2 (0 : Int32) M_2
    else
      zI x2_2 10 <|
      zLt (zu M_2 (P + 19) x2_2.toNatClampNeg (-1 : Int32)) fun M_16 =>
      zI x2_2 10 <|
      zLt (zu M_16 (P + 20) x2_2.toNatClampNeg (0 : Int32)) fun M_23 =>
      (D_X8_results_2 P n) x1_2 (x2_2 + 1) M_23
noncomputable def D_X8_results (P : Nat) (v0 : Int32) (M : zMt) : Option (zMt) :=
  D_X8_results_2 P zFu v0 (0 : Int32) M
set_option maxRecDepth 100000 in
set_option maxHeartbeats 4000000 in
theorem t_X8_results {l : Launch} {G : zG} {b : Nat} {L : List zC} {M : zMt} {N : zNt} {P : Nat} {v0 : Int32} (hP : LX8 L P) {r : zMt} (h : D_X8_results P v0 M = some r) : zM l G b yX8_results cX8_results 5 none 2 0 0 [.ref P, .int v0] (L, M, N) (fun r2 z => r2 = none ∧ z = (L, r, N)) := by
  refine zM.of miX8_results (Nat.le_of_ble_eq_true rfl) ?_
  intro p e s m args below meth c X hr hname
  generalize hF : ((fun r2 z => r2 = none ∧ z = (L, r, N)) : Option Value → zS → Prop) = FQ
  change Zw p l e { frames := 2, cells := 0, slots := 0, locals := 80 * (2) } s m args below meth c G b 5 (MQ below (zQ G b FQ) args s 0 0 (fun q : Nat => b ≤ q)) 0 0 0 [some (.ref P), some (.int v0), none, none, none] [] (L, M, N)
  obtain ⟨p_lt, p_o, p_s, p_read, p_aside, p_kept, p_guest, p_readGuest, p_tape, p_unitName, p_hunterName, p_partyName, p_bits, p_partyOf, p_choiceAt, p_sizes, p_guestMany, p_pointsOf, p_ticketsOf, p_ord, p_given, p_roundOf, p_tags, p_guestTags, p_places, p_sumAt, p_sumFirst, p_sumRound, p_sumBoth, p_sumTags, p_isEnd, p_newPoints, p_inRow, p_out⟩ := id hP
  have L_96 : ∀ u : Nat, ∀ (x1_96 : Int32) (x2_96 : Int32) (x3_96 : Option Value) (x4_96 : Option Value) (M_96 : zMt), D_X8_results_96 P u x1_96 x2_96 M_96 = some r → Zw p l e { frames := 2, cells := 0, slots := 0, locals := 80 * (2) } s m args below meth c G b 5 (MQ below (zQ G b FQ) args s 0 0 (fun q : Nat => b ≤ q)) 0 0 96 [some (.ref (P)), some (.int x1_96), some (.int x2_96), x3_96, x4_96] [] (L, M_96, N) := by
    intro u
    induction u with
    | zero => intro x1_96 x2_96 x3_96 x4_96 M_96 h; cases (show none = some r from h)
    | succ u_96 ih_96 =>
      have J_185 : ∀ (x1_185 : Int32) (x2_185 : Int32) (x3_185 : Int32) (x4_185 : Int32) (M_185 : zMt), D_X8_results_185 P (D_X8_results_96 P u_96) x1_185 x2_185 M_185 = some r → Zw p l e { frames := 2, cells := 0, slots := 0, locals := 80 * (2) } s m args below meth c G b 5 (MQ below (zQ G b FQ) args s 0 0 (fun q : Nat => b ≤ q)) 0 0 185 [some (.ref (P)), some (.int x1_185), some (.int x2_185), some (.int x3_185), some (.int x4_185)] [] (L, M_185, N) := by
        intro x1_185 x2_185 x3_185 x4_185 M_185 h
        unfold D_X8_results_185 at h
        refine a_iinc (v := x2_185 + 1) X dX8_results_185 (by decide) rfl zi_1 ?_
        refine a_goto (tgt := 96) X dX8_results_188 (by decide) ?_
        exact Zw.to2 (ih_96 _ _ _ _ _ h) rfl rfl rfl
      have L_114 : ∀ u : Nat, ∀ (x1_114 : Int32) (x2_114 : Int32) (x3_114 : Int32) (x4_114 : Int32) (M_114 : zMt), D_X8_results_114 P (D_X8_results_96 P u_96) u x1_114 x2_114 x3_114 x4_114 M_114 = some r → Zw p l e { frames := 2, cells := 0, slots := 0, locals := 80 * (2) } s m args below meth c G b 5 (MQ below (zQ G b FQ) args s 0 0 (fun q : Nat => b ≤ q)) 0 0 114 [some (.ref (P)), some (.int x1_114), some (.int x2_114), some (.int x3_114), some (.int x4_114)] [] (L, M_114, N) := by
        intro u
        induction u with
        | zero => intro x1_114 x2_114 x3_114 x4_114 M_114 h; cases (show none = some r from h)
        | succ u_114 ih_114 =>
          have J_179 : ∀ (x1_179 : Int32) (x2_179 : Int32) (x3_179 : Int32) (x4_179 : Int32) (M_179 : zMt), D_X8_results_179 P (D_X8_results_96 P u_96) (D_X8_results_114 P (D_X8_results_96 P u_96) u_114) x1_179 x2_179 x3_179 x4_179 M_179 = some r → Zw p l e { frames := 2, cells := 0, slots := 0, locals := 80 * (2) } s m args below meth c G b 5 (MQ below (zQ G b FQ) args s 0 0 (fun q : Nat => b ≤ q)) 0 0 179 [some (.ref (P)), some (.int x1_179), some (.int x2_179), some (.int x3_179), some (.int x4_179)] [] (L, M_179, N) := by
            intro x1_179 x2_179 x3_179 x4_179 M_179 h
            unfold D_X8_results_179 at h
            refine a_iinc (v := x4_179 + 1) X dX8_results_179 (by decide) rfl zi_1 ?_
            refine a_goto (tgt := 114) X dX8_results_182 (by decide) ?_
            exact Zw.to2 (ih_114 _ _ _ _ _ h) rfl rfl rfl
          intro x1_114 x2_114 x3_114 x4_114 M_114 h
          rw [D_X8_results_114] at h
          refine a_iload X dX8_results_114 rfl ?_
          refine a_aload_n X dX8_results_116 rfl ?_
          refine a_iload_n X dX8_results_117 rfl ?_
          obtain ⟨e_118, f_118, h⟩ := zBx h
          refine a_callVv X dX8_results_118 miX8_choiceMany lm8_288 (t_X8_choiceMany (by assumption) f_118) (by assumption) rfl rfl rfl (Nat.le_of_ble_eq_true rfl) ⟨by decide, by decide, by decide, by decide⟩ ?_
          refine a_icmp_ge (tgt := 185) X dX8_results_121 (by decide) (fun h_121 => ?_) (fun h_121 => ?_)
          · replace h := (if_pos h_121).symm.trans h
            exact Zw.to2 (J_185 _ _ _ _ _ h) rfl rfl rfl
          · replace h := (if_neg h_121).symm.trans h
            refine a_aload_n X dX8_results_124 rfl ?_
            refine a_getr X lf8_73 (by assumption) rfl (by omega) dX8_results_125 ?_
            refine a_iload_n X dX8_results_128 rfl ?_
            obtain ⟨g_129, h⟩ := zIx h
            refine a_iaload X (by assumption) g_129 dX8_results_129 ?_
            refine a_iconst (v := -1) X dX8_results_130 (by decide) ?_
            refine a_icmp_ne (tgt := 185) X dX8_results_131 (by decide) (fun h_131 => ?_) (fun h_131 => ?_)
            · replace h := (if_neg h_131).symm.trans h
              exact Zw.to2 (J_185 _ _ _ _ _ h) rfl rfl rfl
            · replace h := (if_pos h_131).symm.trans h
              refine a_iload_n X dX8_results_134 rfl ?_
              refine a_iload_n X dX8_results_135 rfl ?_
              refine a_icmp_eq (tgt := 185) X dX8_results_136 (by decide) (fun h_136 => ?_) (fun h_136 => ?_)
              · replace h := (if_pos h_136).symm.trans h
                exact Zw.to2 (J_185 _ _ _ _ _ h) rfl rfl rfl
              · replace h := (if_neg h_136).symm.trans h
                refine a_aload_n X dX8_results_139 rfl ?_
                refine a_iload_n X dX8_results_140 rfl ?_
                refine a_aload_n X dX8_results_141 rfl ?_
                refine a_iload_n X dX8_results_142 rfl ?_
                refine a_iload X dX8_results_143 rfl ?_
                obtain ⟨e_145, f_145, h⟩ := zBx h
                refine a_callVv X dX8_results_145 miX8_choiceOf lm8_284 (t_X8_choiceOf (by assumption) f_145) (by assumption) rfl rfl rfl (Nat.le_of_ble_eq_true rfl) ⟨by decide, by decide, by decide, by decide⟩ ?_
                refine a_aload_n X dX8_results_148 rfl ?_
                refine a_getr X lf8_79 (by assumption) rfl (by omega) dX8_results_149 ?_
                refine a_aload_n X dX8_results_152 rfl ?_
                refine a_iload_n X dX8_results_153 rfl ?_
                refine a_iload X dX8_results_154 rfl ?_
                obtain ⟨e_156, f_156, h⟩ := zBx h
                refine a_callVv X dX8_results_156 miX8_choiceOf lm8_284 (t_X8_choiceOf (by assumption) f_156) (by assumption) rfl rfl rfl (Nat.le_of_ble_eq_true rfl) ⟨by decide, by decide, by decide, by decide⟩ ?_
                obtain ⟨g_159, h⟩ := zIx h
                refine a_iaload X (by assumption) g_159 dX8_results_159 ?_
                obtain ⟨e_160, f_160, h⟩ := zBx h
                refine a_callVx X dX8_results_160 miX8_fits lm8_329 (t_X8_fits (by assumption) f_160) (by assumption) rfl rfl rfl (Nat.le_of_ble_eq_true rfl) ⟨by decide, by decide, by decide, by decide⟩ (fun r_160 S_160 q_160 => ?_)
                obtain ⟨rfl, rfl, b_160⟩ := q_160
                refine a_if_eq (tgt := 179) X dX8_results_163 (by decide) (fun h_163 => ?_) (fun h_163 => ?_)
                · replace h := (if_pos h_163).symm.trans h
                  exact Zw.to2 (J_179 _ _ _ _ _ h) rfl rfl rfl
                · replace h := (if_neg h_163).symm.trans h
                  refine a_aload_n X dX8_results_166 rfl ?_
                  refine a_iload_n X dX8_results_167 rfl ?_
                  refine a_aload_n X dX8_results_168 rfl ?_
                  refine a_iload_n X dX8_results_169 rfl ?_
                  refine a_iload X dX8_results_170 rfl ?_
                  obtain ⟨e_172, f_172, h⟩ := zBx h
                  refine a_callVv X dX8_results_172 miX8_choiceOf lm8_284 (t_X8_choiceOf (by assumption) f_172) (by assumption) rfl rfl rfl (Nat.le_of_ble_eq_true rfl) ⟨by decide, by decide, by decide, by decide⟩ ?_
                  refine a_iconst (v := 2) X dX8_results_175 (by decide) ?_
                  obtain ⟨e_176, f_176, h⟩ := zBx h
                  refine a_callVu X dX8_results_176 miX8_gets lm8_333 (t_X8_gets (by assumption) f_176) (by assumption) rfl rfl rfl (Nat.le_of_ble_eq_true rfl) ⟨by decide, by decide, by decide, by decide⟩ ?_
                  exact Zw.to2 (J_179 _ _ _ _ _ h) rfl rfl rfl
      have H_114 : ∀ (x1_114 : Int32) (x2_114 : Int32) (x3_114 : Int32) (x4_114 : Int32) (M_114 : zMt), D_X8_results_114 P (D_X8_results_96 P u_96) zFu x1_114 x2_114 x3_114 x4_114 M_114 = some r → Zw p l e { frames := 2, cells := 0, slots := 0, locals := 80 * (2) } s m args below meth c G b 5 (MQ below (zQ G b FQ) args s 0 0 (fun q : Nat => b ≤ q)) 0 0 114 [some (.ref (P)), some (.int x1_114), some (.int x2_114), some (.int x3_114), some (.int x4_114)] [] (L, M_114, N) := L_114 zFu
      intro x1_96 x2_96 x3_96 x4_96 M_96 h
      rw [D_X8_results_96] at h
      refine a_iload_n X dX8_results_96 rfl ?_
      refine a_aload_n X dX8_results_97 rfl ?_
      refine a_geti X lf8_275 (by assumption) rfl dX8_results_98 ?_
      refine a_icmp_ge (tgt := 191) X dX8_results_101 (by decide) (fun h_101 => ?_) (fun h_101 => ?_)
      · replace h := (if_pos h_101).symm.trans h
        refine a_vret X hr dX8_results_191 ⟨by decide, by decide⟩ ?_
        subst hF
        rw [← Option.some.inj h]
        exact ⟨rfl, rfl⟩
      · replace h := (if_neg h_101).symm.trans h
        refine a_aload_n X dX8_results_104 rfl ?_
        refine a_getr X lf8_70 (by assumption) rfl (by omega) dX8_results_105 ?_
        refine a_iload_n X dX8_results_108 rfl ?_
        obtain ⟨g_109, h⟩ := zIx h
        refine a_iaload X (by assumption) g_109 dX8_results_109 ?_
        refine a_istore_n X dX8_results_110 (by decide) ?_
        refine a_iconst (v := 0) X dX8_results_111 (by decide) ?_
        refine a_istore X dX8_results_112 (by decide) ?_
        exact Zw.to2 (H_114 _ _ _ _ _ h) rfl rfl rfl
  have H_96 : ∀ (x1_96 : Int32) (x2_96 : Int32) (x3_96 : Option Value) (x4_96 : Option Value) (M_96 : zMt), D_X8_results_96 P zFu x1_96 x2_96 M_96 = some r → Zw p l e { frames := 2, cells := 0, slots := 0, locals := 80 * (2) } s m args below meth c G b 5 (MQ below (zQ G b FQ) args s 0 0 (fun q : Nat => b ≤ q)) 0 0 96 [some (.ref (P)), some (.int x1_96), some (.int x2_96), x3_96, x4_96] [] (L, M_96, N) := L_96 zFu
  have L_74 : ∀ u : Nat, ∀ (x1_74 : Int32) (x2_74 : Int32) (x3_74 : Option Value) (x4_74 : Option Value) (M_74 : zMt), D_X8_results_74 P u x1_74 x2_74 M_74 = some r → Zw p l e { frames := 2, cells := 0, slots := 0, locals := 80 * (2) } s m args below meth c G b 5 (MQ below (zQ G b FQ) args s 0 0 (fun q : Nat => b ≤ q)) 0 0 74 [some (.ref (P)), some (.int x1_74), some (.int x2_74), x3_74, x4_74] [] (L, M_74, N) := by
    intro u
    induction u with
    | zero => intro x1_74 x2_74 x3_74 x4_74 M_74 h; cases (show none = some r from h)
    | succ u_74 ih_74 =>
      intro x1_74 x2_74 x3_74 x4_74 M_74 h
      rw [D_X8_results_74] at h
      refine a_iload_n X dX8_results_74 rfl ?_
      refine a_aload_n X dX8_results_75 rfl ?_
      refine a_geti X lf8_125 (by assumption) rfl dX8_results_76 ?_
      refine a_icmp_ge (tgt := 94) X dX8_results_79 (by decide) (fun h_79 => ?_) (fun h_79 => ?_)
      · replace h := (if_pos h_79).symm.trans h
        refine a_iconst (v := 0) X dX8_results_94 (by decide) ?_
        refine a_istore_n X dX8_results_95 (by decide) ?_
        exact Zw.to2 (H_96 _ _ _ _ _ h) rfl rfl rfl
      · replace h := (if_neg h_79).symm.trans h
        refine a_aload_n X dX8_results_82 rfl ?_
        refine a_iload_n X dX8_results_83 rfl ?_
        refine a_iload_n X dX8_results_84 rfl ?_
        obtain ⟨e_85, f_85, h⟩ := zBx h
        refine a_callVu X dX8_results_85 miX8_firstRound lm8_325 (t_X8_firstRound (by assumption) f_85) (by assumption) rfl rfl rfl (Nat.le_of_ble_eq_true rfl) ⟨by decide, by decide, by decide, by decide⟩ ?_
        refine a_iinc (v := x2_74 + 1) X dX8_results_88 (by decide) rfl zi_1 ?_
        refine a_goto (tgt := 74) X dX8_results_91 (by decide) ?_
        exact Zw.to2 (ih_74 _ _ _ _ _ h) rfl rfl rfl
  have H_74 : ∀ (x1_74 : Int32) (x2_74 : Int32) (x3_74 : Option Value) (x4_74 : Option Value) (M_74 : zMt), D_X8_results_74 P zFu x1_74 x2_74 M_74 = some r → Zw p l e { frames := 2, cells := 0, slots := 0, locals := 80 * (2) } s m args below meth c G b 5 (MQ below (zQ G b FQ) args s 0 0 (fun q : Nat => b ≤ q)) 0 0 74 [some (.ref (P)), some (.int x1_74), some (.int x2_74), x3_74, x4_74] [] (L, M_74, N) := L_74 zFu
  have L_32 : ∀ u : Nat, ∀ (x1_32 : Int32) (x2_32 : Int32) (x3_32 : Option Value) (x4_32 : Option Value) (M_32 : zMt), D_X8_results_32 P u x1_32 x2_32 M_32 = some r → Zw p l e { frames := 2, cells := 0, slots := 0, locals := 80 * (2) } s m args below meth c G b 5 (MQ below (zQ G b FQ) args s 0 0 (fun q : Nat => b ≤ q)) 0 0 32 [some (.ref (P)), some (.int x1_32), some (.int x2_32), x3_32, x4_32] [] (L, M_32, N) := by
    intro u
    induction u with
    | zero => intro x1_32 x2_32 x3_32 x4_32 M_32 h; cases (show none = some r from h)
    | succ u_32 ih_32 =>
      intro x1_32 x2_32 x3_32 x4_32 M_32 h
      rw [D_X8_results_32] at h
      refine a_iload_n X dX8_results_32 rfl ?_
      refine a_aload_n X dX8_results_33 rfl ?_
      refine a_geti X lf8_125 (by assumption) rfl dX8_results_34 ?_
      refine a_icmp_ge (tgt := 72) X dX8_results_37 (by decide) (fun h_37 => ?_) (fun h_37 => ?_)
      · replace h := (if_pos h_37).symm.trans h
        refine a_iconst (v := 0) X dX8_results_72 (by decide) ?_
        refine a_istore_n X dX8_results_73 (by decide) ?_
        exact Zw.to2 (H_74 _ _ _ _ _ h) rfl rfl rfl
      · replace h := (if_neg h_37).symm.trans h
        refine a_aload_n X dX8_results_40 rfl ?_
        refine a_getr X lf8_79 (by assumption) rfl (by omega) dX8_results_41 ?_
        refine a_iload_n X dX8_results_44 rfl ?_
        refine a_aload_n X dX8_results_45 rfl ?_
        refine a_getr X lf8_7 (by assumption) rfl (by omega) dX8_results_46 ?_
        refine a_bipush (v := 62) X dX8_results_49 (by decide) ?_
        refine a_iload_n X dX8_results_51 rfl ?_
        refine a_iadd X dX8_results_52 ?_
        obtain ⟨g_53, h⟩ := zIx h
        refine a_iaload X (by assumption) g_53 dX8_results_53 ?_
        obtain ⟨g_54, h⟩ := zIx h
        obtain ⟨M_54, f_54, h⟩ := zLtx h
        refine d_iastore X (by assumption) g_54 dX8_results_54 f_54 ?_
        refine a_aload_n X dX8_results_55 rfl ?_
        refine a_getr X lf8_82 (by assumption) rfl (by omega) dX8_results_56 ?_
        refine a_iload_n X dX8_results_59 rfl ?_
        refine a_aload_n X dX8_results_60 rfl ?_
        refine a_iload_n X dX8_results_61 rfl ?_
        obtain ⟨e_62, f_62, h⟩ := zBx h
        refine a_callVv X dX8_results_62 miX8_forGuests lm8_307 (t_X8_forGuests (by assumption) f_62) (by assumption) rfl rfl rfl (Nat.le_of_ble_eq_true rfl) ⟨by decide, by decide, by decide, by decide⟩ ?_
        obtain ⟨g_65, h⟩ := zIx h
        obtain ⟨M_65, f_65, h⟩ := zLtx h
        refine d_iastore X (by assumption) g_65 dX8_results_65 f_65 ?_
        refine a_iinc (v := x2_32 + 1) X dX8_results_66 (by decide) rfl zi_1 ?_
        refine a_goto (tgt := 32) X dX8_results_69 (by decide) ?_
        exact Zw.to2 (ih_32 _ _ _ _ _ h) rfl rfl rfl
  have H_32 : ∀ (x1_32 : Int32) (x2_32 : Int32) (x3_32 : Option Value) (x4_32 : Option Value) (M_32 : zMt), D_X8_results_32 P zFu x1_32 x2_32 M_32 = some r → Zw p l e { frames := 2, cells := 0, slots := 0, locals := 80 * (2) } s m args below meth c G b 5 (MQ below (zQ G b FQ) args s 0 0 (fun q : Nat => b ≤ q)) 0 0 32 [some (.ref (P)), some (.int x1_32), some (.int x2_32), x3_32, x4_32] [] (L, M_32, N) := L_32 zFu
  have L_2 : ∀ u : Nat, ∀ (x1_2 : Int32) (x2_2 : Int32) (x3_2 : Option Value) (x4_2 : Option Value) (M_2 : zMt), D_X8_results_2 P u x1_2 x2_2 M_2 = some r → Zw p l e { frames := 2, cells := 0, slots := 0, locals := 80 * (2) } s m args below meth c G b 5 (MQ below (zQ G b FQ) args s 0 0 (fun q : Nat => b ≤ q)) 0 0 2 [some (.ref (P)), some (.int x1_2), some (.int x2_2), x3_2, x4_2] [] (L, M_2, N) := by
    intro u
    induction u with
    | zero => intro x1_2 x2_2 x3_2 x4_2 M_2 h; cases (show none = some r from h)
    | succ u_2 ih_2 =>
      intro x1_2 x2_2 x3_2 x4_2 M_2 h
      rw [D_X8_results_2] at h
      refine a_iload_n X dX8_results_2 rfl ?_
      refine a_aload_n X dX8_results_3 rfl ?_
      refine a_geti X lf8_275 (by assumption) rfl dX8_results_4 ?_
      refine a_icmp_ge (tgt := 30) X dX8_results_7 (by decide) (fun h_7 => ?_) (fun h_7 => ?_)
      · replace h := (if_pos h_7).symm.trans h
        refine a_iconst (v := 0) X dX8_results_30 (by decide) ?_
        refine a_istore_n X dX8_results_31 (by decide) ?_
        exact Zw.to2 (H_32 _ _ _ _ _ h) rfl rfl rfl
      · replace h := (if_neg h_7).symm.trans h
        refine a_aload_n X dX8_results_10 rfl ?_
        refine a_getr X lf8_73 (by assumption) rfl (by omega) dX8_results_11 ?_
        refine a_iload_n X dX8_results_14 rfl ?_
        refine a_iconst (v := -1) X dX8_results_15 (by decide) ?_
        obtain ⟨g_16, h⟩ := zIx h
        obtain ⟨M_16, f_16, h⟩ := zLtx h
        refine d_iastore X (by assumption) g_16 dX8_results_16 f_16 ?_
        refine a_aload_n X dX8_results_17 rfl ?_
        refine a_getr X lf8_76 (by assumption) rfl (by omega) dX8_results_18 ?_
        refine a_iload_n X dX8_results_21 rfl ?_
        refine a_iconst (v := 0) X dX8_results_22 (by decide) ?_
        obtain ⟨g_23, h⟩ := zIx h
        obtain ⟨M_23, f_23, h⟩ := zLtx h
        refine d_iastore X (by assumption) g_23 dX8_results_23 f_23 ?_
        refine a_iinc (v := x2_2 + 1) X dX8_results_24 (by decide) rfl zi_1 ?_
        refine a_goto (tgt := 2) X dX8_results_27 (by decide) ?_
        exact Zw.to2 (ih_2 _ _ _ _ _ h) rfl rfl rfl
  have H_2 : ∀ (x1_2 : Int32) (x2_2 : Int32) (x3_2 : Option Value) (x4_2 : Option Value) (M_2 : zMt), D_X8_results_2 P zFu x1_2 x2_2 M_2 = some r → Zw p l e { frames := 2, cells := 0, slots := 0, locals := 80 * (2) } s m args below meth c G b 5 (MQ below (zQ G b FQ) args s 0 0 (fun q : Nat => b ≤ q)) 0 0 2 [some (.ref (P)), some (.int x1_2), some (.int x2_2), x3_2, x4_2] [] (L, M_2, N) := L_2 zFu
  unfold D_X8_results at h
  refine a_iconst (v := 0) X dX8_results_0 (by decide) ?_
  refine a_istore_n X dX8_results_1 (by decide) ?_
  exact Zw.to2 (H_2 _ _ _ _ _ h) rfl rfl rfl
