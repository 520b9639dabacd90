noncomputable def D_X8_readParty_193 (P : Nat) (k161 : Int64 → Int32 → Int32 → zMt → zNt → Option (Int32 × zMt × zNt)) (x1_193 : Int64) (x3_193 : Int32) (x5_193 : Int32) (M_193 : zMt) (N_193 : zNt) : Option (Int32 × zMt × zNt) :=
  k161 x1_193 x3_193 (x5_193 + 1) M_193 N_193
noncomputable def D_X8_readParty_161 (P : Nat) : Nat → Int64 → Int32 → Int32 → zMt → zNt → Option (Int32 × zMt × zNt)
  | 0, _, _, _, _, _ => none
  | n + 1, x1_161, x3_161, x5_161, M_161, N_161 =>
    if (M_161 P 29) ≤ x5_161 then
      zI (M_161 P 30) 4 <|
      zLt (zu N_161 (P + 10) (M_161 P 30).toNatClampNeg x1_161) fun N_208 =>
      zLt (zu M_161 P 30 ((M_161 P 30) + (1 : Int32))) fun M_216 =>
      some ((1 : Int32), M_216, N_208)
    else
      zB (D_X8_has x3_161 x5_161) fun e_173 =>
      if e_173 = 0 then
        D_X8_readParty_193 P (D_X8_readParty_161 P n) x1_161 x3_161 x5_161 M_161 N_161
      else
        zI ((10 : Int32) + x5_161) 82 <|
        zLt (zu M_161 (P + 2) ((10 : Int32) + x5_161).toNatClampNeg (M_161 P 30)) fun M_192 =>
        D_X8_readParty_193 P (D_X8_readParty_161 P n) x1_161 x3_161 x5_161 M_192 N_161
noncomputable def D_X8_readParty_134 (P : Nat) (M_134 : zMt) (N_134 : zNt) : Option (Int32 × zMt × zNt) :=
  zB (D_X8_bad P (4 : Int32) M_134) fun e_136 =>
  some (e_136.1, e_136.2, N_134)
noncomputable def D_X8_readParty_66 (P : Nat) (M_66 : zMt) (N_66 : zNt) : Option (Int32 × zMt × zNt) :=
  zB (D_X8_bad P (2 : Int32) M_66) fun e_68 =>
  some (e_68.1, e_68.2, N_66)
noncomputable def D_X8_readParty_53 (P : Nat) (k40 : Int64 → Int32 → Int32 → zMt → zNt → Option (Int32 × zMt × zNt)) (x1_53 : Int64) (x3_53 : Int32) (x4_53 : Int32) (M_53 : zMt) (N_53 : zNt) : Option (Int32 × zMt × zNt) :=
  zB (D_X8_isName P M_53) fun e_54 =>
  if e_54 = 0 then
    D_X8_readParty_66 P M_53 N_53
  else
    if x4_53 = (4 : Int32) then
      D_X8_readParty_66 P M_53 N_53
    else
      zB (D_X8_found (P + 9) 10 N_53 (M_53 P 29) (N_53 P 24)) fun e_84 =>
      if e_84 = (-1 : Int32) then
        D_X8_readParty_134 P M_53 N_53
      else
        zI ((10 : Int32) + e_84) 82 <|
        if (M_53 (P + 2) ((10 : Int32) + e_84).toNatClampNeg) = (-1 : Int32) then
          zI ((20 : Int32) + ((3 : Int32) * e_84)) 82 <|
          if (M_53 (P + 2) ((20 : Int32) + ((3 : Int32) * e_84)).toNatClampNeg) = (-1 : Int32) then
            zB (D_X8_has x3_53 e_84) fun e_128 =>
            if e_128 = 0 then
              zB (D_X8_next P M_53 N_53) fun e_151 =>
              k40 x1_53 (x3_53 ||| ((1 : Int32) <<< (e_84 &&& 31))) (x4_53 + 1) e_151.2.1 e_151.2.2
            else
              D_X8_readParty_134 P M_53 N_53
          else
            D_X8_readParty_134 P M_53 N_53
        else
          D_X8_readParty_134 P M_53 N_53
noncomputable def D_X8_readParty_40 (P : Nat) : Nat → Int64 → Int32 → Int32 → zMt → zNt → Option (Int32 × zMt × zNt)
  | 0, _, _, _, _, _ => none
  | n + 1, x1_40, x3_40, x4_40, M_40, N_40 =>
    if x4_40 < (2 : Int32) then
      D_X8_readParty_53 P (D_X8_readParty_40 P n) x1_40 x3_40 x4_40 M_40 N_40
    else
      zB (D_X8_isName P M_40) fun e_47 =>
      if e_47 = 0 then
        D_X8_readParty_161 P zFu x1_40 x3_40 (0 : Int32) M_40 N_40
      else
        D_X8_readParty_53 P (D_X8_readParty_40 P n) x1_40 x3_40 x4_40 M_40 N_40
noncomputable def D_X8_readParty_28 (P : Nat) (M_28 : zMt) (N_28 : zNt) : Option (Int32 × zMt × zNt) :=
  some ((0 : Int32), M_28, N_28)
noncomputable def D_X8_readParty (P : Nat) (M : zMt) (N : zNt) : Option (Int32 × zMt × zNt) :=
  if (M P 30) = (4 : Int32) then
    zB (D_X8_bad P (2 : Int32) M) fun e_10 =>
    some (e_10.1, e_10.2, N)
  else
    zB (D_X8_next P M N) fun e_15 =>
    if e_15.1 = 0 then
      D_X8_readParty_28 P e_15.2.1 e_15.2.2
    else
      zB (D_X8_newName P e_15.2.1 e_15.2.2) fun e_22 =>
      if e_22.1 = 0 then
        D_X8_readParty_28 P e_22.2.1 e_22.2.2
      else
        D_X8_readParty_40 P zFu (e_22.2.2 P 32) (0 : Int32) (0 : Int32) e_22.2.1 e_22.2.2
set_option maxRecDepth 100000 in
set_option maxHeartbeats 4000000 in
theorem t_X8_readParty {l : Launch} {G : zG} {b : Nat} {L : List zC} {M : zMt} {N : zNt} {P : Nat}  (hP : LX8 L P) {r : Int32 × zMt × zNt} (h : D_X8_readParty P M N = some r) : zM l G b yX8_readParty cX8_readParty 6 (some .boolean) 7 0 0 [.ref P] (L, M, N) (fun r2 z => r2 = some (.int r.1) ∧ z = (L, r.2.1, r.2.2) ∧ (r.1 = 0 ∨ r.1 = 1)) := by
  refine zM.of miX8_readParty (Nat.le_of_ble_eq_true rfl) ?_
  intro p e s m args below meth c X hr hname
  generalize hF : ((fun r2 z => r2 = some (.int r.1) ∧ z = (L, r.2.1, r.2.2) ∧ (r.1 = 0 ∨ r.1 = 1)) : Option Value → zS → Prop) = FQ
  change Zw p l e { frames := 7, cells := 0, slots := 0, locals := 80 * (7) } s m args below meth c G b 6 (MQ below (zQ G b FQ) args s 0 0 (fun q : Nat => b ≤ q)) 0 0 0 [some (.ref P), none, none, none, none, none] [] (L, M, N)
  obtain ⟨p_lt, p_o, p_s, p_read, p_aside, p_kept, p_guest, p_readGuest, p_tape, p_unitName, p_hunterName, p_partyName, p_bits, p_partyOf, p_choiceAt, p_sizes, p_guestMany, p_pointsOf, p_ticketsOf, p_ord, p_given, p_roundOf, p_tags, p_guestTags, p_places, p_sumAt, p_sumFirst, p_sumRound, p_sumBoth, p_sumTags, p_isEnd, p_newPoints, p_inRow, p_out⟩ := id hP
  have L_161 : ∀ u : Nat, ∀ (x1_161 : Int64) (x3_161 : Int32) (x4_161 : Int32) (x5_161 : Int32) (M_161 : zMt) (N_161 : zNt), D_X8_readParty_161 P u x1_161 x3_161 x5_161 M_161 N_161 = some r → Zw p l e { frames := 7, cells := 0, slots := 0, locals := 80 * (7) } s m args below meth c G b 6 (MQ below (zQ G b FQ) args s 0 0 (fun q : Nat => b ≤ q)) 0 0 161 [some (.ref (P)), some (.long x1_161), none, some (.int x3_161), some (.int x4_161), some (.int x5_161)] [] (L, M_161, N_161) := by
    intro u
    induction u with
    | zero => intro x1_161 x3_161 x4_161 x5_161 M_161 N_161 h; cases (show none = some r from h)
    | succ u_161 ih_161 =>
      have J_193 : ∀ (x1_193 : Int64) (x3_193 : Int32) (x4_193 : Int32) (x5_193 : Int32) (M_193 : zMt) (N_193 : zNt), D_X8_readParty_193 P (D_X8_readParty_161 P u_161) x1_193 x3_193 x5_193 M_193 N_193 = some r → Zw p l e { frames := 7, cells := 0, slots := 0, locals := 80 * (7) } s m args below meth c G b 6 (MQ below (zQ G b FQ) args s 0 0 (fun q : Nat => b ≤ q)) 0 0 193 [some (.ref (P)), some (.long x1_193), none, some (.int x3_193), some (.int x4_193), some (.int x5_193)] [] (L, M_193, N_193) := by
        intro x1_193 x3_193 x4_193 x5_193 M_193 N_193 h
        unfold D_X8_readParty_193 at h
        refine a_iinc (v := x5_193 + 1) X dX8_readParty_193 (by decide) rfl zi_1 ?_
        refine a_goto (tgt := 161) X dX8_readParty_196 (by decide) ?_
        exact Zw.to2 (ih_161 _ _ _ _ _ _ h) rfl rfl rfl
      intro x1_161 x3_161 x4_161 x5_161 M_161 N_161 h
      rw [D_X8_readParty_161] at h
      refine a_iload X dX8_readParty_161 rfl ?_
      refine a_aload_n X dX8_readParty_163 rfl ?_
      refine a_geti X lf8_208 (by assumption) rfl dX8_readParty_164 ?_
      refine a_icmp_ge (tgt := 199) X dX8_readParty_167 (by decide) (fun h_167 => ?_) (fun h_167 => ?_)
      · replace h := (if_pos h_167).symm.trans h
        refine a_aload_n X dX8_readParty_199 rfl ?_
        refine a_getr X lf8_46 (by assumption) rfl (by omega) dX8_readParty_200 ?_
        refine a_aload_n X dX8_readParty_203 rfl ?_
        refine a_geti X lf8_211 (by assumption) rfl dX8_readParty_204 ?_
        refine a_lload_n X dX8_readParty_207 rfl ?_
        obtain ⟨g_208, h⟩ := zIx h
        obtain ⟨N_208, f_208, h⟩ := zLtx h
        refine d_lastore X (by assumption) g_208 dX8_readParty_208 f_208 ?_
        refine a_aload_n X dX8_readParty_209 rfl ?_
        refine a_dup X dX8_readParty_210 rfl ?_
        refine a_geti X lf8_211 (by assumption) rfl dX8_readParty_211 ?_
        refine a_iconst (v := 1) X dX8_readParty_214 (by decide) ?_
        refine a_iadd X dX8_readParty_215 ?_
        obtain ⟨M_216, f_216, h⟩ := zLtx h
        refine d_puti X lf8_211 (by assumption) rfl dX8_readParty_216 f_216 ?_
        refine a_iconst (v := 1) X dX8_readParty_219 (by decide) ?_
        refine a_zret X (by first | exact Or.inl rfl | exact Or.inr rfl | assumption) hr dX8_readParty_220 ⟨by decide, by decide⟩ ?_
        subst hF
        rw [← Option.some.inj h]
        exact ⟨rfl, rfl, (by first | exact Or.inl rfl | exact Or.inr rfl | assumption)⟩
      · replace h := (if_neg h_167).symm.trans h
        refine a_iload_n X dX8_readParty_170 rfl ?_
        refine a_iload X dX8_readParty_171 rfl ?_
        obtain ⟨e_173, f_173, h⟩ := zBx h
        refine a_callSx X dX8_readParty_173 miX8_has lm8_240 (t_X8_has f_173) rfl rfl (Nat.le_of_ble_eq_true rfl) ⟨by decide, by decide, by decide, by decide⟩ (fun r_173 S_173 q_173 => ?_)
        obtain ⟨rfl, rfl, b_173⟩ := q_173
        refine a_if_eq (tgt := 193) X dX8_readParty_176 (by decide) (fun h_176 => ?_) (fun h_176 => ?_)
        · replace h := (if_pos h_176).symm.trans h
          exact Zw.to2 (J_193 _ _ _ _ _ _ h) rfl rfl rfl
        · replace h := (if_neg h_176).symm.trans h
          refine a_aload_n X dX8_readParty_179 rfl ?_
          refine a_getr X lf8_13 (by assumption) rfl (by omega) dX8_readParty_180 ?_
          refine a_bipush (v := 10) X dX8_readParty_183 (by decide) ?_
          refine a_iload X dX8_readParty_185 rfl ?_
          refine a_iadd X dX8_readParty_187 ?_
          refine a_aload_n X dX8_readParty_188 rfl ?_
          refine a_geti X lf8_211 (by assumption) rfl dX8_readParty_189 ?_
          obtain ⟨g_192, h⟩ := zIx h
          obtain ⟨M_192, f_192, h⟩ := zLtx h
          refine d_iastore X (by assumption) g_192 dX8_readParty_192 f_192 ?_
          exact Zw.to2 (J_193 _ _ _ _ _ _ h) rfl rfl rfl
  have H_161 : ∀ (x1_161 : Int64) (x3_161 : Int32) (x4_161 : Int32) (x5_161 : Int32) (M_161 : zMt) (N_161 : zNt), D_X8_readParty_161 P zFu x1_161 x3_161 x5_161 M_161 N_161 = some r → Zw p l e { frames := 7, cells := 0, slots := 0, locals := 80 * (7) } s m args below meth c G b 6 (MQ below (zQ G b FQ) args s 0 0 (fun q : Nat => b ≤ q)) 0 0 161 [some (.ref (P)), some (.long x1_161), none, some (.int x3_161), some (.int x4_161), some (.int x5_161)] [] (L, M_161, N_161) := L_161 zFu
  have J_134 : ∀ (x1_134 : Int64) (x3_134 : Int32) (x4_134 : Int32) (x5_134 : Int32) (M_134 : zMt) (N_134 : zNt), D_X8_readParty_134 P M_134 N_134 = some r → Zw p l e { frames := 7, cells := 0, slots := 0, locals := 80 * (7) } s m args below meth c G b 6 (MQ below (zQ G b FQ) args s 0 0 (fun q : Nat => b ≤ q)) 0 0 134 [some (.ref (P)), some (.long x1_134), none, some (.int x3_134), some (.int x4_134), some (.int x5_134)] [] (L, M_134, N_134) := by
    intro x1_134 x3_134 x4_134 x5_134 M_134 N_134 h
    unfold D_X8_readParty_134 at h
    refine a_aload_n X dX8_readParty_134 rfl ?_
    refine a_iconst (v := 4) X dX8_readParty_135 (by decide) ?_
    obtain ⟨e_136, f_136, h⟩ := zBx h
    refine a_callVx X dX8_readParty_136 miX8_bad lm8_214 (t_X8_bad (by assumption) f_136) (by assumption) rfl rfl rfl (Nat.le_of_ble_eq_true rfl) ⟨by decide, by decide, by decide, by decide⟩ (fun r_136 S_136 q_136 => ?_)
    obtain ⟨rfl, rfl, b_136⟩ := q_136
    refine a_zret X (by first | exact Or.inl rfl | exact Or.inr rfl | assumption) hr dX8_readParty_139 ⟨by decide, by decide⟩ ?_
    subst hF
    rw [← Option.some.inj h]
    exact ⟨rfl, rfl, (by first | exact Or.inl rfl | exact Or.inr rfl | assumption)⟩
  have J_66 : ∀ (x1_66 : Int64) (x3_66 : Int32) (x4_66 : Int32) (x5_66 : Option Value) (M_66 : zMt) (N_66 : zNt), D_X8_readParty_66 P M_66 N_66 = some r → Zw p l e { frames := 7, cells := 0, slots := 0, locals := 80 * (7) } s m args below meth c G b 6 (MQ below (zQ G b FQ) args s 0 0 (fun q : Nat => b ≤ q)) 0 0 66 [some (.ref (P)), some (.long x1_66), none, some (.int x3_66), some (.int x4_66), x5_66] [] (L, M_66, N_66) := by
    intro x1_66 x3_66 x4_66 x5_66 M_66 N_66 h
    unfold D_X8_readParty_66 at h
    refine a_aload_n X dX8_readParty_66 rfl ?_
    refine a_iconst (v := 2) X dX8_readParty_67 (by decide) ?_
    obtain ⟨e_68, f_68, h⟩ := zBx h
    refine a_callVx X dX8_readParty_68 miX8_bad lm8_214 (t_X8_bad (by assumption) f_68) (by assumption) rfl rfl rfl (Nat.le_of_ble_eq_true rfl) ⟨by decide, by decide, by decide, by decide⟩ (fun r_68 S_68 q_68 => ?_)
    obtain ⟨rfl, rfl, b_68⟩ := q_68
    refine a_zret X (by first | exact Or.inl rfl | exact Or.inr rfl | assumption) hr dX8_readParty_71 ⟨by decide, by decide⟩ ?_
    subst hF
    rw [← Option.some.inj h]
    exact ⟨rfl, rfl, (by first | exact Or.inl rfl | exact Or.inr rfl | assumption)⟩
  have L_40 : ∀ u : Nat, ∀ (x1_40 : Int64) (x3_40 : Int32) (x4_40 : Int32) (x5_40 : Option Value) (M_40 : zMt) (N_40 : zNt), D_X8_readParty_40 P u x1_40 x3_40 x4_40 M_40 N_40 = some r → Zw p l e { frames := 7, cells := 0, slots := 0, locals := 80 * (7) } s m args below meth c G b 6 (MQ below (zQ G b FQ) args s 0 0 (fun q : Nat => b ≤ q)) 0 0 40 [some (.ref (P)), some (.long x1_40), none, some (.int x3_40), some (.int x4_40), x5_40] [] (L, M_40, N_40) := by
    intro u
    induction u with
    | zero => intro x1_40 x3_40 x4_40 x5_40 M_40 N_40 h; cases (show none = some r from h)
    | succ u_40 ih_40 =>
      have J_53 : ∀ (x1_53 : Int64) (x3_53 : Int32) (x4_53 : Int32) (x5_53 : Option Value) (M_53 : zMt) (N_53 : zNt), D_X8_readParty_53 P (D_X8_readParty_40 P u_40) x1_53 x3_53 x4_53 M_53 N_53 = some r → Zw p l e { frames := 7, cells := 0, slots := 0, locals := 80 * (7) } s m args below meth c G b 6 (MQ below (zQ G b FQ) args s 0 0 (fun q : Nat => b ≤ q)) 0 0 53 [some (.ref (P)), some (.long x1_53), none, some (.int x3_53), some (.int x4_53), x5_53] [] (L, M_53, N_53) := by
        intro x1_53 x3_53 x4_53 x5_53 M_53 N_53 h
        unfold D_X8_readParty_53 at h
        refine a_aload_n X dX8_readParty_53 rfl ?_
        obtain ⟨e_54, f_54, h⟩ := zBx h
        refine a_callVx X dX8_readParty_54 miX8_isName lm8_224 (t_X8_isName (by assumption) f_54) (by assumption) rfl rfl rfl (Nat.le_of_ble_eq_true rfl) ⟨by decide, by decide, by decide, by decide⟩ (fun r_54 S_54 q_54 => ?_)
        obtain ⟨rfl, rfl, b_54⟩ := q_54
        refine a_if_eq (tgt := 66) X dX8_readParty_57 (by decide) (fun h_57 => ?_) (fun h_57 => ?_)
        · replace h := (if_pos h_57).symm.trans h
          exact Zw.to2 (J_66 _ _ _ _ _ _ h) rfl rfl rfl
        · replace h := (if_neg h_57).symm.trans h
          refine a_iload X dX8_readParty_60 rfl ?_
          refine a_iconst (v := 4) X dX8_readParty_62 (by decide) ?_
          refine a_icmp_ne (tgt := 72) X dX8_readParty_63 (by decide) (fun h_63 => ?_) (fun h_63 => ?_)
          · replace h := (if_neg h_63).symm.trans h
            refine a_aload_n X dX8_readParty_72 rfl ?_
            refine a_getr X lf8_43 (by assumption) rfl (by omega) dX8_readParty_73 ?_
            refine a_aload_n X dX8_readParty_76 rfl ?_
            refine a_geti X lf8_208 (by assumption) rfl dX8_readParty_77 ?_
            refine a_aload_n X dX8_readParty_80 rfl ?_
            refine a_getl X lf8_167 (by assumption) rfl dX8_readParty_81 ?_
            obtain ⟨e_84, f_84, h⟩ := zBx h
            refine a_callSv X dX8_readParty_84 miX8_found lm8_204 (t_X8_found (by assumption) (by first | decide | assumption) f_84) rfl rfl (Nat.le_of_ble_eq_true rfl) ⟨by decide, by decide, by decide, by decide⟩ ?_
            refine a_istore X dX8_readParty_87 (by decide) ?_
            refine a_iload X dX8_readParty_89 rfl ?_
            refine a_iconst (v := -1) X dX8_readParty_91 (by decide) ?_
            refine a_icmp_eq (tgt := 134) X dX8_readParty_92 (by decide) (fun h_92 => ?_) (fun h_92 => ?_)
            · replace h := (if_pos h_92).symm.trans h
              exact Zw.to2 (J_134 _ _ _ _ _ _ h) rfl rfl rfl
            · replace h := (if_neg h_92).symm.trans h
              refine a_aload_n X dX8_readParty_95 rfl ?_
              refine a_getr X lf8_13 (by assumption) rfl (by omega) dX8_readParty_96 ?_
              refine a_bipush (v := 10) X dX8_readParty_99 (by decide) ?_
              refine a_iload X dX8_readParty_101 rfl ?_
              refine a_iadd X dX8_readParty_103 ?_
              obtain ⟨g_104, h⟩ := zIx h
              refine a_iaload X (by assumption) g_104 dX8_readParty_104 ?_
              refine a_iconst (v := -1) X dX8_readParty_105 (by decide) ?_
              refine a_icmp_ne (tgt := 134) X dX8_readParty_106 (by decide) (fun h_106 => ?_) (fun h_106 => ?_)
              · replace h := (if_neg h_106).symm.trans h
                exact Zw.to2 (J_134 _ _ _ _ _ _ h) rfl rfl rfl
              · replace h := (if_pos h_106).symm.trans h
                refine a_aload_n X dX8_readParty_109 rfl ?_
                refine a_getr X lf8_13 (by assumption) rfl (by omega) dX8_readParty_110 ?_
                refine a_bipush (v := 20) X dX8_readParty_113 (by decide) ?_
                refine a_iconst (v := 3) X dX8_readParty_115 (by decide) ?_
                refine a_iload X dX8_readParty_116 rfl ?_
                refine a_imul X dX8_readParty_118 ?_
                refine a_iadd X dX8_readParty_119 ?_
                obtain ⟨g_120, h⟩ := zIx h
                refine a_iaload X (by assumption) g_120 dX8_readParty_120 ?_
                refine a_iconst (v := -1) X dX8_readParty_121 (by decide) ?_
                refine a_icmp_ne (tgt := 134) X dX8_readParty_122 (by decide) (fun h_122 => ?_) (fun h_122 => ?_)
                · replace h := (if_neg h_122).symm.trans h
                  exact Zw.to2 (J_134 _ _ _ _ _ _ h) rfl rfl rfl
                · replace h := (if_pos h_122).symm.trans h
                  refine a_iload_n X dX8_readParty_125 rfl ?_
                  refine a_iload X dX8_readParty_126 rfl ?_
                  obtain ⟨e_128, f_128, h⟩ := zBx h
                  refine a_callSx X dX8_readParty_128 miX8_has lm8_240 (t_X8_has f_128) rfl rfl (Nat.le_of_ble_eq_true rfl) ⟨by decide, by decide, by decide, by decide⟩ (fun r_128 S_128 q_128 => ?_)
                  obtain ⟨rfl, rfl, b_128⟩ := q_128
                  refine a_if_eq (tgt := 140) X dX8_readParty_131 (by decide) (fun h_131 => ?_) (fun h_131 => ?_)
                  · replace h := (if_pos h_131).symm.trans h
                    refine a_iload_n X dX8_readParty_140 rfl ?_
                    refine a_iconst (v := 1) X dX8_readParty_141 (by decide) ?_
                    refine a_iload X dX8_readParty_142 rfl ?_
                    refine a_ishl X dX8_readParty_144 ?_
                    refine a_ior X dX8_readParty_145 ?_
                    refine a_istore_n X dX8_readParty_146 (by decide) ?_
                    refine a_iinc (v := x4_53 + 1) X dX8_readParty_147 (by decide) rfl zi_1 ?_
                    refine a_aload_n X dX8_readParty_150 rfl ?_
                    obtain ⟨e_151, f_151, h⟩ := zBx h
                    refine a_callVx X dX8_readParty_151 miX8_next lm8_220 (t_X8_next (by assumption) f_151) (by assumption) rfl rfl rfl (Nat.le_of_ble_eq_true rfl) ⟨by decide, by decide, by decide, by decide⟩ (fun r_151 S_151 q_151 => ?_)
                    obtain ⟨rfl, rfl, b_151⟩ := q_151
                    refine a_pop X dX8_readParty_154 rfl ?_
                    refine a_goto (tgt := 40) X dX8_readParty_155 (by decide) ?_
                    exact Zw.to2 (ih_40 _ _ _ _ _ _ h) rfl rfl rfl
                  · replace h := (if_neg h_131).symm.trans h
                    exact Zw.to2 (J_134 _ _ _ _ _ _ h) rfl rfl rfl
          · replace h := (if_pos h_63).symm.trans h
            exact Zw.to2 (J_66 _ _ _ _ _ _ h) rfl rfl rfl
      intro x1_40 x3_40 x4_40 x5_40 M_40 N_40 h
      rw [D_X8_readParty_40] at h
      refine a_iload X dX8_readParty_40 rfl ?_
      refine a_iconst (v := 2) X dX8_readParty_42 (by decide) ?_
      refine a_icmp_lt (tgt := 53) X dX8_readParty_43 (by decide) (fun h_43 => ?_) (fun h_43 => ?_)
      · replace h := (if_pos h_43).symm.trans h
        exact Zw.to2 (J_53 _ _ _ _ _ _ h) rfl rfl rfl
      · replace h := (if_neg h_43).symm.trans h
        refine a_aload_n X dX8_readParty_46 rfl ?_
        obtain ⟨e_47, f_47, h⟩ := zBx h
        refine a_callVx X dX8_readParty_47 miX8_isName lm8_224 (t_X8_isName (by assumption) f_47) (by assumption) rfl rfl rfl (Nat.le_of_ble_eq_true rfl) ⟨by decide, by decide, by decide, by decide⟩ (fun r_47 S_47 q_47 => ?_)
        obtain ⟨rfl, rfl, b_47⟩ := q_47
        refine a_if_eq (tgt := 158) X dX8_readParty_50 (by decide) (fun h_50 => ?_) (fun h_50 => ?_)
        · replace h := (if_pos h_50).symm.trans h
          refine a_iconst (v := 0) X dX8_readParty_158 (by decide) ?_
          refine a_istore X dX8_readParty_159 (by decide) ?_
          exact Zw.to2 (H_161 _ _ _ _ _ _ h) rfl rfl rfl
        · replace h := (if_neg h_50).symm.trans h
          exact Zw.to2 (J_53 _ _ _ _ _ _ h) rfl rfl rfl
  have H_40 : ∀ (x1_40 : Int64) (x3_40 : Int32) (x4_40 : Int32) (x5_40 : Option Value) (M_40 : zMt) (N_40 : zNt), D_X8_readParty_40 P zFu x1_40 x3_40 x4_40 M_40 N_40 = some r → Zw p l e { frames := 7, cells := 0, slots := 0, locals := 80 * (7) } s m args below meth c G b 6 (MQ below (zQ G b FQ) args s 0 0 (fun q : Nat => b ≤ q)) 0 0 40 [some (.ref (P)), some (.long x1_40), none, some (.int x3_40), some (.int x4_40), x5_40] [] (L, M_40, N_40) := L_40 zFu
  have J_28 : ∀ (x1_28 : Option Value) (x2_28 : Option Value) (x3_28 : Option Value) (x4_28 : Option Value) (x5_28 : Option Value) (M_28 : zMt) (N_28 : zNt), D_X8_readParty_28 P M_28 N_28 = some r → Zw p l e { frames := 7, cells := 0, slots := 0, locals := 80 * (7) } s m args below meth c G b 6 (MQ below (zQ G b FQ) args s 0 0 (fun q : Nat => b ≤ q)) 0 0 28 [some (.ref (P)), x1_28, x2_28, x3_28, x4_28, x5_28] [] (L, M_28, N_28) := by
    intro x1_28 x2_28 x3_28 x4_28 x5_28 M_28 N_28 h
    unfold D_X8_readParty_28 at h
    refine a_iconst (v := 0) X dX8_readParty_28 (by decide) ?_
    refine a_zret X (by first | exact Or.inl rfl | exact Or.inr rfl | assumption) hr dX8_readParty_29 ⟨by decide, by decide⟩ ?_
    subst hF
    rw [← Option.some.inj h]
    exact ⟨rfl, rfl, (by first | exact Or.inl rfl | exact Or.inr rfl | assumption)⟩
  unfold D_X8_readParty at h
  refine a_aload_n X dX8_readParty_0 rfl ?_
  refine a_geti X lf8_211 (by assumption) rfl dX8_readParty_1 ?_
  refine a_iconst (v := 4) X dX8_readParty_4 (by decide) ?_
  refine a_icmp_ne (tgt := 14) X dX8_readParty_5 (by decide) (fun h_5 => ?_) (fun h_5 => ?_)
  · replace h := (if_neg h_5).symm.trans h
    refine a_aload_n X dX8_readParty_14 rfl ?_
    obtain ⟨e_15, f_15, h⟩ := zBx h
    refine a_callVx X dX8_readParty_15 miX8_next lm8_220 (t_X8_next (by assumption) f_15) (by assumption) rfl rfl rfl (Nat.le_of_ble_eq_true rfl) ⟨by decide, by decide, by decide, by decide⟩ (fun r_15 S_15 q_15 => ?_)
    obtain ⟨rfl, rfl, b_15⟩ := q_15
    refine a_if_eq (tgt := 28) X dX8_readParty_18 (by decide) (fun h_18 => ?_) (fun h_18 => ?_)
    · replace h := (if_pos h_18).symm.trans h
      exact Zw.to2 (J_28 _ _ _ _ _ _ _ h) rfl rfl rfl
    · replace h := (if_neg h_18).symm.trans h
      refine a_aload_n X dX8_readParty_21 rfl ?_
      obtain ⟨e_22, f_22, h⟩ := zBx h
      refine a_callVx X dX8_readParty_22 miX8_newName lm8_233 (t_X8_newName (by assumption) f_22) (by assumption) rfl rfl rfl (Nat.le_of_ble_eq_true rfl) ⟨by decide, by decide, by decide, by decide⟩ (fun r_22 S_22 q_22 => ?_)
      obtain ⟨rfl, rfl, b_22⟩ := q_22
      refine a_if_ne (tgt := 30) X dX8_readParty_25 (by decide) (fun h_25 => ?_) (fun h_25 => ?_)
      · replace h := (if_neg h_25).symm.trans h
        refine a_aload_n X dX8_readParty_30 rfl ?_
        refine a_getl X lf8_230 (by assumption) rfl dX8_readParty_31 ?_
        refine a_lstore_n X dX8_readParty_34 (by decide) ?_
        refine a_iconst (v := 0) X dX8_readParty_35 (by decide) ?_
        refine a_istore_n X dX8_readParty_36 (by decide) ?_
        refine a_iconst (v := 0) X dX8_readParty_37 (by decide) ?_
        refine a_istore X dX8_readParty_38 (by decide) ?_
        exact Zw.to2 (H_40 _ _ _ _ _ _ h) rfl rfl rfl
      · replace h := (if_pos h_25).symm.trans h
        exact Zw.to2 (J_28 _ _ _ _ _ _ _ h) rfl rfl rfl
  · replace h := (if_pos h_5).symm.trans h
    refine a_aload_n X dX8_readParty_8 rfl ?_
    refine a_iconst (v := 2) X dX8_readParty_9 (by decide) ?_
    obtain ⟨e_10, f_10, h⟩ := zBx h
    refine a_callVx X dX8_readParty_10 miX8_bad lm8_214 (t_X8_bad (by assumption) f_10) (by assumption) rfl rfl rfl (Nat.le_of_ble_eq_true rfl) ⟨by decide, by decide, by decide, by decide⟩ (fun r_10 S_10 q_10 => ?_)
    obtain ⟨rfl, rfl, b_10⟩ := q_10
    refine a_zret X (by first | exact Or.inl rfl | exact Or.inr rfl | assumption) hr dX8_readParty_13 ⟨by decide, by decide⟩ ?_
    subst hF
    rw [← Option.some.inj h]
    exact ⟨rfl, rfl, (by first | exact Or.inl rfl | exact Or.inr rfl | assumption)⟩
noncomputable def D_X8_readAsks_149 (P : Nat) (M_149 : zMt) (N_149 : zNt) : Option (Int32 × zMt × zNt) :=
  zB (D_X8_bad P (2 : Int32) M_149) fun e_151 =>
  some (e_151.1, e_151.2, N_149)
noncomputable def D_X8_readAsks_187 (P : Nat) (k124 : Int32 → Int32 → zMt → zNt → Option (Int32 × zMt × zNt)) : Nat → Int32 → Int32 → Int32 → Int32 → zMt → zNt → Option (Int32 × zMt × zNt)
  | 0, _, _, _, _, _, _ => none
  | n + 1, x3_187, x4_187, x5_187, x6_187, M_187, N_187 =>
    if x4_187 ≤ x6_187 then
      zI (x3_187 + x4_187) 82 <|
      zLt (zu M_187 (P + 2) (x3_187 + x4_187).toNatClampNeg x5_187) fun M_230 =>
      zB (D_X8_next P M_230 N_187) fun e_235 =>
      k124 x3_187 (x4_187 + 1) e_235.2.1 e_235.2.2
    else
      zI (x3_187 + x6_187) 82 <|
      if (M_187 (P + 2) (x3_187 + x6_187).toNatClampNeg) = x5_187 then
        zB (D_X8_bad P (4 : Int32) M_187) fun e_210 =>
        some (e_210.1, e_210.2, N_187)
      else
        (D_X8_readAsks_187 P k124 n) x3_187 x4_187 x5_187 (x6_187 + 1) M_187 N_187
noncomputable def D_X8_readAsks_136 (P : Nat) (k124 : Int32 → Int32 → zMt → zNt → Option (Int32 × zMt × zNt)) (x3_136 : Int32) (x4_136 : Int32) (M_136 : zMt) (N_136 : zNt) : Option (Int32 × zMt × zNt) :=
  zB (D_X8_isName P M_136) fun e_137 =>
  if e_137 = 0 then
    D_X8_readAsks_149 P M_136 N_136
  else
    if x4_136 = (3 : Int32) then
      D_X8_readAsks_149 P M_136 N_136
    else
      zB (D_X8_found (P + 8) 5 N_136 (M_136 P 28) (N_136 P 24)) fun e_167 =>
      if e_167 = (-1 : Int32) then
        zB (D_X8_bad P (4 : Int32) M_136) fun e_180 =>
        some (e_180.1, e_180.2, N_136)
      else
        D_X8_readAsks_187 P k124 zFu x3_136 x4_136 e_167 (0 : Int32) M_136 N_136
noncomputable def D_X8_readAsks_124 (P : Nat) : Nat → Int32 → Int32 → zMt → zNt → Option (Int32 × zMt × zNt)
  | 0, _, _, _, _ => none
  | n + 1, x3_124, x4_124, M_124, N_124 =>
    if x4_124 = 0 then
      D_X8_readAsks_136 P (D_X8_readAsks_124 P n) x3_124 x4_124 M_124 N_124
    else
      zB (D_X8_isName P M_124) fun e_130 =>
      if e_130 = 0 then
        some ((1 : Int32), M_124, N_124)
      else
        D_X8_readAsks_136 P (D_X8_readAsks_124 P n) x3_124 x4_124 M_124 N_124
noncomputable def D_X8_readAsks_99 (P : Nat) (y0_99 : Int32) (M_99 : zMt) (N_99 : zNt) : Option (Int32 × zMt × zNt) :=
  zI y0_99 82 <|
  if (M_99 (P + 2) y0_99.toNatClampNeg) = (-1 : Int32) then
    zB (D_X8_next P M_99 N_99) fun e_117 =>
    D_X8_readAsks_124 P zFu y0_99 (0 : Int32) e_117.2.1 e_117.2.2
  else
    zB (D_X8_bad P (4 : Int32) M_99) fun e_112 =>
    some (e_112.1, e_112.2, N_99)
noncomputable def D_X8_readAsks_79 (P : Nat) (x1_79 : Int32) (x2_79 : Int32) (M_79 : zMt) (N_79 : zNt) : Option (Int32 × zMt × zNt) :=
  if x2_79 = (-1 : Int32) then
    D_X8_readAsks_99 P ((20 : Int32) + ((3 : Int32) * x1_79)) M_79 N_79
  else
    D_X8_readAsks_99 P ((50 : Int32) + ((3 : Int32) * x2_79)) M_79 N_79
noncomputable def D_X8_readAsks_73 (P : Nat) (M_73 : zMt) (N_73 : zNt) : Option (Int32 × zMt × zNt) :=
  zB (D_X8_bad P (4 : Int32) M_73) fun e_75 =>
  some (e_75.1, e_75.2, N_73)
noncomputable def D_X8_readAsks (P : Nat) (M : zMt) (N : zNt) : Option (Int32 × zMt × zNt) :=
  zB (D_X8_next P M N) fun e_1 =>
  zB (D_X8_isName P e_1.2.1) fun e_6 =>
  if e_6 = 0 then
    zB (D_X8_bad P (2 : Int32) e_1.2.1) fun e_14 =>
    some (e_14.1, e_14.2, e_1.2.2)
  else
    zB (D_X8_found (P + 9) 10 e_1.2.2 (e_1.2.1 P 29) (e_1.2.2 P 24)) fun e_30 =>
    zB (D_X8_found (P + 10) 4 e_1.2.2 (e_1.2.1 P 30) (e_1.2.2 P 24)) fun e_46 =>
    if e_46 = (-1 : Int32) then
      if e_30 = (-1 : Int32) then
        D_X8_readAsks_73 P e_1.2.1 e_1.2.2
      else
        zI ((10 : Int32) + e_30) 82 <|
        if (e_1.2.1 (P + 2) ((10 : Int32) + e_30).toNatClampNeg) = (-1 : Int32) then
          D_X8_readAsks_79 P e_30 e_46 e_1.2.1 e_1.2.2
        else
          D_X8_readAsks_73 P e_1.2.1 e_1.2.2
    else
      D_X8_readAsks_79 P e_30 e_46 e_1.2.1 e_1.2.2
set_option maxRecDepth 100000 in
set_option maxHeartbeats 4000000 in
theorem t_X8_readAsks {l : Launch} {G : zG} {b : Nat} {L : List zC} {M : zMt} {N : zNt} {P : Nat}  (hP : LX8 L P) {r : Int32 × zMt × zNt} (h : D_X8_readAsks P M N = some r) : zM l G b yX8_readAsks cX8_readAsks 7 (some .boolean) 6 0 0 [.ref P] (L, M, N) (fun r2 z => r2 = some (.int r.1) ∧ z = (L, r.2.1, r.2.2) ∧ (r.1 = 0 ∨ r.1 = 1)) := by
  refine zM.of miX8_readAsks (Nat.le_of_ble_eq_true rfl) ?_
  intro p e s m args below meth c X hr hname
  generalize hF : ((fun r2 z => r2 = some (.int r.1) ∧ z = (L, r.2.1, r.2.2) ∧ (r.1 = 0 ∨ r.1 = 1)) : Option Value → zS → Prop) = FQ
  change Zw p l e { frames := 6, cells := 0, slots := 0, locals := 80 * (6) } s m args below meth c G b 7 (MQ below (zQ G b FQ) args s 0 0 (fun q : Nat => b ≤ q)) 0 0 0 [some (.ref P), none, none, none, none, none, none] [] (L, M, N)
  obtain ⟨p_lt, p_o, p_s, p_read, p_aside, p_kept, p_guest, p_readGuest, p_tape, p_unitName, p_hunterName, p_partyName, p_bits, p_partyOf, p_choiceAt, p_sizes, p_guestMany, p_pointsOf, p_ticketsOf, p_ord, p_given, p_roundOf, p_tags, p_guestTags, p_places, p_sumAt, p_sumFirst, p_sumRound, p_sumBoth, p_sumTags, p_isEnd, p_newPoints, p_inRow, p_out⟩ := id hP
  have J_149 : ∀ (x1_149 : Int32) (x2_149 : Int32) (x3_149 : Int32) (x4_149 : Int32) (x5_149 : Option Value) (x6_149 : Option Value) (M_149 : zMt) (N_149 : zNt), D_X8_readAsks_149 P M_149 N_149 = some r → Zw p l e { frames := 6, cells := 0, slots := 0, locals := 80 * (6) } s m args below meth c G b 7 (MQ below (zQ G b FQ) args s 0 0 (fun q : Nat => b ≤ q)) 0 0 149 [some (.ref (P)), some (.int x1_149), some (.int x2_149), some (.int x3_149), some (.int x4_149), x5_149, x6_149] [] (L, M_149, N_149) := by
    intro x1_149 x2_149 x3_149 x4_149 x5_149 x6_149 M_149 N_149 h
    unfold D_X8_readAsks_149 at h
    refine a_aload_n X dX8_readAsks_149 rfl ?_
    refine a_iconst (v := 2) X dX8_readAsks_150 (by decide) ?_
    obtain ⟨e_151, f_151, h⟩ := zBx h
    refine a_callVx X dX8_readAsks_151 miX8_bad lm8_214 (t_X8_bad (by assumption) f_151) (by assumption) rfl rfl rfl (Nat.le_of_ble_eq_true rfl) ⟨by decide, by decide, by decide, by decide⟩ (fun r_151 S_151 q_151 => ?_)
    obtain ⟨rfl, rfl, b_151⟩ := q_151
    refine a_zret X (by first | exact Or.inl rfl | exact Or.inr rfl | assumption) hr dX8_readAsks_154 ⟨by decide, by decide⟩ ?_
    subst hF
    rw [← Option.some.inj h]
    exact ⟨rfl, rfl, (by first | exact Or.inl rfl | exact Or.inr rfl | assumption)⟩
  have L_124 : ∀ u : Nat, ∀ (x1_124 : Int32) (x2_124 : Int32) (x3_124 : Int32) (x4_124 : Int32) (x5_124 : Option Value) (x6_124 : Option Value) (M_124 : zMt) (N_124 : zNt), D_X8_readAsks_124 P u x3_124 x4_124 M_124 N_124 = some r → Zw p l e { frames := 6, cells := 0, slots := 0, locals := 80 * (6) } s m args below meth c G b 7 (MQ below (zQ G b FQ) args s 0 0 (fun q : Nat => b ≤ q)) 0 0 124 [some (.ref (P)), some (.int x1_124), some (.int x2_124), some (.int x3_124), some (.int x4_124), x5_124, x6_124] [] (L, M_124, N_124) := by
    intro u
    induction u with
    | zero => intro x1_124 x2_124 x3_124 x4_124 x5_124 x6_124 M_124 N_124 h; cases (show none = some r from h)
    | succ u_124 ih_124 =>
      have L_187 : ∀ u : Nat, ∀ (x1_187 : Int32) (x2_187 : Int32) (x3_187 : Int32) (x4_187 : Int32) (x5_187 : Int32) (x6_187 : Int32) (M_187 : zMt) (N_187 : zNt), D_X8_readAsks_187 P (D_X8_readAsks_124 P u_124) u x3_187 x4_187 x5_187 x6_187 M_187 N_187 = some r → Zw p l e { frames := 6, cells := 0, slots := 0, locals := 80 * (6) } s m args below meth c G b 7 (MQ below (zQ G b FQ) args s 0 0 (fun q : Nat => b ≤ q)) 0 0 187 [some (.ref (P)), some (.int x1_187), some (.int x2_187), some (.int x3_187), some (.int x4_187), some (.int x5_187), some (.int x6_187)] [] (L, M_187, N_187) := by
        intro u
        induction u with
        | zero => intro x1_187 x2_187 x3_187 x4_187 x5_187 x6_187 M_187 N_187 h; cases (show none = some r from h)
        | succ u_187 ih_187 =>
          intro x1_187 x2_187 x3_187 x4_187 x5_187 x6_187 M_187 N_187 h
          rw [D_X8_readAsks_187] at h
          refine a_iload X dX8_readAsks_187 rfl ?_
          refine a_iload X dX8_readAsks_189 rfl ?_
          refine a_icmp_ge (tgt := 220) X dX8_readAsks_191 (by decide) (fun h_191 => ?_) (fun h_191 => ?_)
          · replace h := (if_pos h_191).symm.trans h
            refine a_aload_n X dX8_readAsks_220 rfl ?_
            refine a_getr X lf8_13 (by assumption) rfl (by omega) dX8_readAsks_221 ?_
            refine a_iload_n X dX8_readAsks_224 rfl ?_
            refine a_iload X dX8_readAsks_225 rfl ?_
            refine a_iadd X dX8_readAsks_227 ?_
            refine a_iload X dX8_readAsks_228 rfl ?_
            obtain ⟨g_230, h⟩ := zIx h
            obtain ⟨M_230, f_230, h⟩ := zLtx h
            refine d_iastore X (by assumption) g_230 dX8_readAsks_230 f_230 ?_
            refine a_iinc (v := x4_187 + 1) X dX8_readAsks_231 (by decide) rfl zi_1 ?_
            refine a_aload_n X dX8_readAsks_234 rfl ?_
            obtain ⟨e_235, f_235, h⟩ := zBx h
            refine a_callVx X dX8_readAsks_235 miX8_next lm8_220 (t_X8_next (by assumption) f_235) (by assumption) rfl rfl rfl (Nat.le_of_ble_eq_true rfl) ⟨by decide, by decide, by decide, by decide⟩ (fun r_235 S_235 q_235 => ?_)
            obtain ⟨rfl, rfl, b_235⟩ := q_235
            refine a_pop X dX8_readAsks_238 rfl ?_
            refine a_goto (tgt := 124) X dX8_readAsks_239 (by decide) ?_
            exact Zw.to2 (ih_124 _ _ _ _ _ _ _ _ h) rfl rfl rfl
          · replace h := (if_neg h_191).symm.trans h
            refine a_aload_n X dX8_readAsks_194 rfl ?_
            refine a_getr X lf8_13 (by assumption) rfl (by omega) dX8_readAsks_195 ?_
            refine a_iload_n X dX8_readAsks_198 rfl ?_
            refine a_iload X dX8_readAsks_199 rfl ?_
            refine a_iadd X dX8_readAsks_201 ?_
            obtain ⟨g_202, h⟩ := zIx h
            refine a_iaload X (by assumption) g_202 dX8_readAsks_202 ?_
            refine a_iload X dX8_readAsks_203 rfl ?_
            refine a_icmp_ne (tgt := 214) X dX8_readAsks_205 (by decide) (fun h_205 => ?_) (fun h_205 => ?_)
            · replace h := (if_neg h_205).symm.trans h
              refine a_iinc (v := x6_187 + 1) X dX8_readAsks_214 (by decide) rfl zi_1 ?_
              refine a_goto (tgt := 187) X dX8_readAsks_217 (by decide) ?_
              exact Zw.to2 (ih_187 _ _ _ _ _ _ _ _ h) rfl rfl rfl
            · replace h := (if_pos h_205).symm.trans h
              refine a_aload_n X dX8_readAsks_208 rfl ?_
              refine a_iconst (v := 4) X dX8_readAsks_209 (by decide) ?_
              obtain ⟨e_210, f_210, h⟩ := zBx h
              refine a_callVx X dX8_readAsks_210 miX8_bad lm8_214 (t_X8_bad (by assumption) f_210) (by assumption) rfl rfl rfl (Nat.le_of_ble_eq_true rfl) ⟨by decide, by decide, by decide, by decide⟩ (fun r_210 S_210 q_210 => ?_)
              obtain ⟨rfl, rfl, b_210⟩ := q_210
              refine a_zret X (by first | exact Or.inl rfl | exact Or.inr rfl | assumption) hr dX8_readAsks_213 ⟨by decide, by decide⟩ ?_
              subst hF
              rw [← Option.some.inj h]
              exact ⟨rfl, rfl, (by first | exact Or.inl rfl | exact Or.inr rfl | assumption)⟩
      have H_187 : ∀ (x1_187 : Int32) (x2_187 : Int32) (x3_187 : Int32) (x4_187 : Int32) (x5_187 : Int32) (x6_187 : Int32) (M_187 : zMt) (N_187 : zNt), D_X8_readAsks_187 P (D_X8_readAsks_124 P u_124) zFu x3_187 x4_187 x5_187 x6_187 M_187 N_187 = some r → Zw p l e { frames := 6, cells := 0, slots := 0, locals := 80 * (6) } s m args below meth c G b 7 (MQ below (zQ G b FQ) args s 0 0 (fun q : Nat => b ≤ q)) 0 0 187 [some (.ref (P)), some (.int x1_187), some (.int x2_187), some (.int x3_187), some (.int x4_187), some (.int x5_187), some (.int x6_187)] [] (L, M_187, N_187) := L_187 zFu
      have J_136 : ∀ (x1_136 : Int32) (x2_136 : Int32) (x3_136 : Int32) (x4_136 : Int32) (x5_136 : Option Value) (x6_136 : Option Value) (M_136 : zMt) (N_136 : zNt), D_X8_readAsks_136 P (D_X8_readAsks_124 P u_124) x3_136 x4_136 M_136 N_136 = some r → Zw p l e { frames := 6, cells := 0, slots := 0, locals := 80 * (6) } s m args below meth c G b 7 (MQ below (zQ G b FQ) args s 0 0 (fun q : Nat => b ≤ q)) 0 0 136 [some (.ref (P)), some (.int x1_136), some (.int x2_136), some (.int x3_136), some (.int x4_136), x5_136, x6_136] [] (L, M_136, N_136) := by
        intro x1_136 x2_136 x3_136 x4_136 x5_136 x6_136 M_136 N_136 h
        unfold D_X8_readAsks_136 at h
        refine a_aload_n X dX8_readAsks_136 rfl ?_
        obtain ⟨e_137, f_137, h⟩ := zBx h
        refine a_callVx X dX8_readAsks_137 miX8_isName lm8_224 (t_X8_isName (by assumption) f_137) (by assumption) rfl rfl rfl (Nat.le_of_ble_eq_true rfl) ⟨by decide, by decide, by decide, by decide⟩ (fun r_137 S_137 q_137 => ?_)
        obtain ⟨rfl, rfl, b_137⟩ := q_137
        refine a_if_eq (tgt := 149) X dX8_readAsks_140 (by decide) (fun h_140 => ?_) (fun h_140 => ?_)
        · replace h := (if_pos h_140).symm.trans h
          exact Zw.to2 (J_149 _ _ _ _ _ _ _ _ h) rfl rfl rfl
        · replace h := (if_neg h_140).symm.trans h
          refine a_iload X dX8_readAsks_143 rfl ?_
          refine a_iconst (v := 3) X dX8_readAsks_145 (by decide) ?_
          refine a_icmp_ne (tgt := 155) X dX8_readAsks_146 (by decide) (fun h_146 => ?_) (fun h_146 => ?_)
          · replace h := (if_neg h_146).symm.trans h
            refine a_aload_n X dX8_readAsks_155 rfl ?_
            refine a_getr X lf8_39 (by assumption) rfl (by omega) dX8_readAsks_156 ?_
            refine a_aload_n X dX8_readAsks_159 rfl ?_
            refine a_geti X lf8_201 (by assumption) rfl dX8_readAsks_160 ?_
            refine a_aload_n X dX8_readAsks_163 rfl ?_
            refine a_getl X lf8_167 (by assumption) rfl dX8_readAsks_164 ?_
            obtain ⟨e_167, f_167, h⟩ := zBx h
            refine a_callSv X dX8_readAsks_167 miX8_found lm8_204 (t_X8_found (by assumption) (by first | decide | assumption) f_167) rfl rfl (Nat.le_of_ble_eq_true rfl) ⟨by decide, by decide, by decide, by decide⟩ ?_
            refine a_istore X dX8_readAsks_170 (by decide) ?_
            refine a_iload X dX8_readAsks_172 rfl ?_
            refine a_iconst (v := -1) X dX8_readAsks_174 (by decide) ?_
            refine a_icmp_ne (tgt := 184) X dX8_readAsks_175 (by decide) (fun h_175 => ?_) (fun h_175 => ?_)
            · replace h := (if_neg h_175).symm.trans h
              refine a_iconst (v := 0) X dX8_readAsks_184 (by decide) ?_
              refine a_istore X dX8_readAsks_185 (by decide) ?_
              exact Zw.to2 (H_187 _ _ _ _ _ _ _ _ h) rfl rfl rfl
            · replace h := (if_pos h_175).symm.trans h
              refine a_aload_n X dX8_readAsks_178 rfl ?_
              refine a_iconst (v := 4) X dX8_readAsks_179 (by decide) ?_
              obtain ⟨e_180, f_180, h⟩ := zBx h
              refine a_callVx X dX8_readAsks_180 miX8_bad lm8_214 (t_X8_bad (by assumption) f_180) (by assumption) rfl rfl rfl (Nat.le_of_ble_eq_true rfl) ⟨by decide, by decide, by decide, by decide⟩ (fun r_180 S_180 q_180 => ?_)
              obtain ⟨rfl, rfl, b_180⟩ := q_180
              refine a_zret X (by first | exact Or.inl rfl | exact Or.inr rfl | assumption) hr dX8_readAsks_183 ⟨by decide, by decide⟩ ?_
              subst hF
              rw [← Option.some.inj h]
              exact ⟨rfl, rfl, (by first | exact Or.inl rfl | exact Or.inr rfl | assumption)⟩
          · replace h := (if_pos h_146).symm.trans h
            exact Zw.to2 (J_149 _ _ _ _ _ _ _ _ h) rfl rfl rfl
      intro x1_124 x2_124 x3_124 x4_124 x5_124 x6_124 M_124 N_124 h
      rw [D_X8_readAsks_124] at h
      refine a_iload X dX8_readAsks_124 rfl ?_
      refine a_if_eq (tgt := 136) X dX8_readAsks_126 (by decide) (fun h_126 => ?_) (fun h_126 => ?_)
      · replace h := (if_pos h_126).symm.trans h
        exact Zw.to2 (J_136 _ _ _ _ _ _ _ _ h) rfl rfl rfl
      · replace h := (if_neg h_126).symm.trans h
        refine a_aload_n X dX8_readAsks_129 rfl ?_
        obtain ⟨e_130, f_130, h⟩ := zBx h
        refine a_callVx X dX8_readAsks_130 miX8_isName lm8_224 (t_X8_isName (by assumption) f_130) (by assumption) rfl rfl rfl (Nat.le_of_ble_eq_true rfl) ⟨by decide, by decide, by decide, by decide⟩ (fun r_130 S_130 q_130 => ?_)
        obtain ⟨rfl, rfl, b_130⟩ := q_130
        refine a_if_eq (tgt := 242) X dX8_readAsks_133 (by decide) (fun h_133 => ?_) (fun h_133 => ?_)
        · replace h := (if_pos h_133).symm.trans h
          refine a_iconst (v := 1) X dX8_readAsks_242 (by decide) ?_
          refine a_zret X (by first | exact Or.inl rfl | exact Or.inr rfl | assumption) hr dX8_readAsks_243 ⟨by decide, by decide⟩ ?_
          subst hF
          rw [← Option.some.inj h]
          exact ⟨rfl, rfl, (by first | exact Or.inl rfl | exact Or.inr rfl | assumption)⟩
        · replace h := (if_neg h_133).symm.trans h
          exact Zw.to2 (J_136 _ _ _ _ _ _ _ _ h) rfl rfl rfl
  have H_124 : ∀ (x1_124 : Int32) (x2_124 : Int32) (x3_124 : Int32) (x4_124 : Int32) (x5_124 : Option Value) (x6_124 : Option Value) (M_124 : zMt) (N_124 : zNt), D_X8_readAsks_124 P zFu x3_124 x4_124 M_124 N_124 = some r → Zw p l e { frames := 6, cells := 0, slots := 0, locals := 80 * (6) } s m args below meth c G b 7 (MQ below (zQ G b FQ) args s 0 0 (fun q : Nat => b ≤ q)) 0 0 124 [some (.ref (P)), some (.int x1_124), some (.int x2_124), some (.int x3_124), some (.int x4_124), x5_124, x6_124] [] (L, M_124, N_124) := L_124 zFu
  have J_99 : ∀ (x1_99 : Int32) (x2_99 : Int32) (x3_99 : Option Value) (x4_99 : Option Value) (x5_99 : Option Value) (x6_99 : Option Value) (y0_99 : Int32) (M_99 : zMt) (N_99 : zNt), D_X8_readAsks_99 P y0_99 M_99 N_99 = some r → Zw p l e { frames := 6, cells := 0, slots := 0, locals := 80 * (6) } s m args below meth c G b 7 (MQ below (zQ G b FQ) args s 0 0 (fun q : Nat => b ≤ q)) 0 0 99 [some (.ref (P)), some (.int x1_99), some (.int x2_99), x3_99, x4_99, x5_99, x6_99] [.int y0_99] (L, M_99, N_99) := by
    intro x1_99 x2_99 x3_99 x4_99 x5_99 x6_99 y0_99 M_99 N_99 h
    unfold D_X8_readAsks_99 at h
    refine a_istore_n X dX8_readAsks_99 (by decide) ?_
    refine a_aload_n X dX8_readAsks_100 rfl ?_
    refine a_getr X lf8_13 (by assumption) rfl (by omega) dX8_readAsks_101 ?_
    refine a_iload_n X dX8_readAsks_104 rfl ?_
    obtain ⟨g_105, h⟩ := zIx h
    refine a_iaload X (by assumption) g_105 dX8_readAsks_105 ?_
    refine a_iconst (v := -1) X dX8_readAsks_106 (by decide) ?_
    refine a_icmp_eq (tgt := 116) X dX8_readAsks_107 (by decide) (fun h_107 => ?_) (fun h_107 => ?_)
    · replace h := (if_pos h_107).symm.trans h
      refine a_aload_n X dX8_readAsks_116 rfl ?_
      obtain ⟨e_117, f_117, h⟩ := zBx h
      refine a_callVx X dX8_readAsks_117 miX8_next lm8_220 (t_X8_next (by assumption) f_117) (by assumption) rfl rfl rfl (Nat.le_of_ble_eq_true rfl) ⟨by decide, by decide, by decide, by decide⟩ (fun r_117 S_117 q_117 => ?_)
      obtain ⟨rfl, rfl, b_117⟩ := q_117
      refine a_pop X dX8_readAsks_120 rfl ?_
      refine a_iconst (v := 0) X dX8_readAsks_121 (by decide) ?_
      refine a_istore X dX8_readAsks_122 (by decide) ?_
      exact Zw.to2 (H_124 _ _ _ _ _ _ _ _ h) rfl rfl rfl
    · replace h := (if_neg h_107).symm.trans h
      refine a_aload_n X dX8_readAsks_110 rfl ?_
      refine a_iconst (v := 4) X dX8_readAsks_111 (by decide) ?_
      obtain ⟨e_112, f_112, h⟩ := zBx h
      refine a_callVx X dX8_readAsks_112 miX8_bad lm8_214 (t_X8_bad (by assumption) f_112) (by assumption) rfl rfl rfl (Nat.le_of_ble_eq_true rfl) ⟨by decide, by decide, by decide, by decide⟩ (fun r_112 S_112 q_112 => ?_)
      obtain ⟨rfl, rfl, b_112⟩ := q_112
      refine a_zret X (by first | exact Or.inl rfl | exact Or.inr rfl | assumption) hr dX8_readAsks_115 ⟨by decide, by decide⟩ ?_
      subst hF
      rw [← Option.some.inj h]
      exact ⟨rfl, rfl, (by first | exact Or.inl rfl | exact Or.inr rfl | assumption)⟩
  have J_79 : ∀ (x1_79 : Int32) (x2_79 : Int32) (x3_79 : Option Value) (x4_79 : Option Value) (x5_79 : Option Value) (x6_79 : Option Value) (M_79 : zMt) (N_79 : zNt), D_X8_readAsks_79 P x1_79 x2_79 M_79 N_79 = some r → Zw p l e { frames := 6, cells := 0, slots := 0, locals := 80 * (6) } s m args below meth c G b 7 (MQ below (zQ G b FQ) args s 0 0 (fun q : Nat => b ≤ q)) 0 0 79 [some (.ref (P)), some (.int x1_79), some (.int x2_79), x3_79, x4_79, x5_79, x6_79] [] (L, M_79, N_79) := by
    intro x1_79 x2_79 x3_79 x4_79 x5_79 x6_79 M_79 N_79 h
    unfold D_X8_readAsks_79 at h
    refine a_iload_n X dX8_readAsks_79 rfl ?_
    refine a_iconst (v := -1) X dX8_readAsks_80 (by decide) ?_
    refine a_icmp_eq (tgt := 93) X dX8_readAsks_81 (by decide) (fun h_81 => ?_) (fun h_81 => ?_)
    · replace h := (if_pos h_81).symm.trans h
      refine a_bipush (v := 20) X dX8_readAsks_93 (by decide) ?_
      refine a_iconst (v := 3) X dX8_readAsks_95 (by decide) ?_
      refine a_iload_n X dX8_readAsks_96 rfl ?_
      refine a_imul X dX8_readAsks_97 ?_
      refine a_iadd X dX8_readAsks_98 ?_
      exact Zw.to2 (J_99 _ _ _ _ _ _ _ _ _ h) rfl rfl rfl
    · replace h := (if_neg h_81).symm.trans h
      refine a_bipush (v := 50) X dX8_readAsks_84 (by decide) ?_
      refine a_iconst (v := 3) X dX8_readAsks_86 (by decide) ?_
      refine a_iload_n X dX8_readAsks_87 rfl ?_
      refine a_imul X dX8_readAsks_88 ?_
      refine a_iadd X dX8_readAsks_89 ?_
      refine a_goto (tgt := 99) X dX8_readAsks_90 (by decide) ?_
      exact Zw.to2 (J_99 _ _ _ _ _ _ _ _ _ h) rfl rfl rfl
  have J_73 : ∀ (x1_73 : Int32) (x2_73 : Int32) (x3_73 : Option Value) (x4_73 : Option Value) (x5_73 : Option Value) (x6_73 : Option Value) (M_73 : zMt) (N_73 : zNt), D_X8_readAsks_73 P M_73 N_73 = some r → Zw p l e { frames := 6, cells := 0, slots := 0, locals := 80 * (6) } s m args below meth c G b 7 (MQ below (zQ G b FQ) args s 0 0 (fun q : Nat => b ≤ q)) 0 0 73 [some (.ref (P)), some (.int x1_73), some (.int x2_73), x3_73, x4_73, x5_73, x6_73] [] (L, M_73, N_73) := by
    intro x1_73 x2_73 x3_73 x4_73 x5_73 x6_73 M_73 N_73 h
    unfold D_X8_readAsks_73 at h
    refine a_aload_n X dX8_readAsks_73 rfl ?_
    refine a_iconst (v := 4) X dX8_readAsks_74 (by decide) ?_
    obtain ⟨e_75, f_75, h⟩ := zBx h
    refine a_callVx X dX8_readAsks_75 miX8_bad lm8_214 (t_X8_bad (by assumption) f_75) (by assumption) rfl rfl rfl (Nat.le_of_ble_eq_true rfl) ⟨by decide, by decide, by decide, by decide⟩ (fun r_75 S_75 q_75 => ?_)
    obtain ⟨rfl, rfl, b_75⟩ := q_75
    refine a_zret X (by first | exact Or.inl rfl | exact Or.inr rfl | assumption) hr dX8_readAsks_78 ⟨by decide, by decide⟩ ?_
    subst hF
    rw [← Option.some.inj h]
    exact ⟨rfl, rfl, (by first | exact Or.inl rfl | exact Or.inr rfl | assumption)⟩
  unfold D_X8_readAsks at h
  refine a_aload_n X dX8_readAsks_0 rfl ?_
  obtain ⟨e_1, f_1, h⟩ := zBx h
  refine a_callVx X dX8_readAsks_1 miX8_next lm8_220 (t_X8_next (by assumption) f_1) (by assumption) rfl rfl rfl (Nat.le_of_ble_eq_true rfl) ⟨by decide, by decide, by decide, by decide⟩ (fun r_1 S_1 q_1 => ?_)
  obtain ⟨rfl, rfl, b_1⟩ := q_1
  refine a_pop X dX8_readAsks_4 rfl ?_
  refine a_aload_n X dX8_readAsks_5 rfl ?_
  obtain ⟨e_6, f_6, h⟩ := zBx h
  refine a_callVx X dX8_readAsks_6 miX8_isName lm8_224 (t_X8_isName (by assumption) f_6) (by assumption) rfl rfl rfl (Nat.le_of_ble_eq_true rfl) ⟨by decide, by decide, by decide, by decide⟩ (fun r_6 S_6 q_6 => ?_)
  obtain ⟨rfl, rfl, b_6⟩ := q_6
  refine a_if_ne (tgt := 18) X dX8_readAsks_9 (by decide) (fun h_9 => ?_) (fun h_9 => ?_)
  · replace h := (if_neg h_9).symm.trans h
    refine a_aload_n X dX8_readAsks_18 rfl ?_
    refine a_getr X lf8_43 (by assumption) rfl (by omega) dX8_readAsks_19 ?_
    refine a_aload_n X dX8_readAsks_22 rfl ?_
    refine a_geti X lf8_208 (by assumption) rfl dX8_readAsks_23 ?_
    refine a_aload_n X dX8_readAsks_26 rfl ?_
    refine a_getl X lf8_167 (by assumption) rfl dX8_readAsks_27 ?_
    obtain ⟨e_30, f_30, h⟩ := zBx h
    refine a_callSv X dX8_readAsks_30 miX8_found lm8_204 (t_X8_found (by assumption) (by first | decide | assumption) f_30) rfl rfl (Nat.le_of_ble_eq_true rfl) ⟨by decide, by decide, by decide, by decide⟩ ?_
    refine a_istore_n X dX8_readAsks_33 (by decide) ?_
    refine a_aload_n X dX8_readAsks_34 rfl ?_
    refine a_getr X lf8_46 (by assumption) rfl (by omega) dX8_readAsks_35 ?_
    refine a_aload_n X dX8_readAsks_38 rfl ?_
    refine a_geti X lf8_211 (by assumption) rfl dX8_readAsks_39 ?_
    refine a_aload_n X dX8_readAsks_42 rfl ?_
    refine a_getl X lf8_167 (by assumption) rfl dX8_readAsks_43 ?_
    obtain ⟨e_46, f_46, h⟩ := zBx h
    refine a_callSv X dX8_readAsks_46 miX8_found lm8_204 (t_X8_found (by assumption) (by first | decide | assumption) f_46) rfl rfl (Nat.le_of_ble_eq_true rfl) ⟨by decide, by decide, by decide, by decide⟩ ?_
    refine a_istore_n X dX8_readAsks_49 (by decide) ?_
    refine a_iload_n X dX8_readAsks_50 rfl ?_
    refine a_iconst (v := -1) X dX8_readAsks_51 (by decide) ?_
    refine a_icmp_ne (tgt := 79) X dX8_readAsks_52 (by decide) (fun h_52 => ?_) (fun h_52 => ?_)
    · replace h := (if_neg h_52).symm.trans h
      exact Zw.to2 (J_79 _ _ _ _ _ _ _ _ h) rfl rfl rfl
    · replace h := (if_pos h_52).symm.trans h
      refine a_iload_n X dX8_readAsks_55 rfl ?_
      refine a_iconst (v := -1) X dX8_readAsks_56 (by decide) ?_
      refine a_icmp_eq (tgt := 73) X dX8_readAsks_57 (by decide) (fun h_57 => ?_) (fun h_57 => ?_)
      · replace h := (if_pos h_57).symm.trans h
        exact Zw.to2 (J_73 _ _ _ _ _ _ _ _ h) rfl rfl rfl
      · replace h := (if_neg h_57).symm.trans h
        refine a_aload_n X dX8_readAsks_60 rfl ?_
        refine a_getr X lf8_13 (by assumption) rfl (by omega) dX8_readAsks_61 ?_
        refine a_bipush (v := 10) X dX8_readAsks_64 (by decide) ?_
        refine a_iload_n X dX8_readAsks_66 rfl ?_
        refine a_iadd X dX8_readAsks_67 ?_
        obtain ⟨g_68, h⟩ := zIx h
        refine a_iaload X (by assumption) g_68 dX8_readAsks_68 ?_
        refine a_iconst (v := -1) X dX8_readAsks_69 (by decide) ?_
        refine a_icmp_eq (tgt := 79) X dX8_readAsks_70 (by decide) (fun h_70 => ?_) (fun h_70 => ?_)
        · replace h := (if_pos h_70).symm.trans h
          exact Zw.to2 (J_79 _ _ _ _ _ _ _ _ h) rfl rfl rfl
        · replace h := (if_neg h_70).symm.trans h
          exact Zw.to2 (J_73 _ _ _ _ _ _ _ _ h) rfl rfl rfl
  · replace h := (if_pos h_9).symm.trans h
    refine a_aload_n X dX8_readAsks_12 rfl ?_
    refine a_iconst (v := 2) X dX8_readAsks_13 (by decide) ?_
    obtain ⟨e_14, f_14, h⟩ := zBx h
    refine a_callVx X dX8_readAsks_14 miX8_bad lm8_214 (t_X8_bad (by assumption) f_14) (by assumption) rfl rfl rfl (Nat.le_of_ble_eq_true rfl) ⟨by decide, by decide, by decide, by decide⟩ (fun r_14 S_14 q_14 => ?_)
    obtain ⟨rfl, rfl, b_14⟩ := q_14
    refine a_zret X (by first | exact Or.inl rfl | exact Or.inr rfl | assumption) hr dX8_readAsks_17 ⟨by decide, by decide⟩ ?_
    subst hF
    rw [← Option.some.inj h]
    exact ⟨rfl, rfl, (by first | exact Or.inl rfl | exact Or.inr rfl | assumption)⟩
noncomputable def D_X8_readOnce_111 (P : Nat) (y1_111 : Int32) (M_111 : zMt) (N_111 : zNt) : Option (Int32 × zMt × zNt) :=
  zI y1_111 82 <|
  zLt (zu M_111 (P + 2) y1_111.toNatClampNeg (M_111 P 31)) fun M_115 =>
  some ((1 : Int32), M_115, N_111)
noncomputable def D_X8_readOnce_57 (P : Nat) (y0_57 : Int32) (M_57 : zMt) (N_57 : zNt) : Option (Int32 × zMt × zNt) :=
  if y0_57 = (-1 : Int32) then
    zB (D_X8_bad P (2 : Int32) M_57) fun e_65 =>
    some (e_65.1, e_65.2, N_57)
  else
    zI (67 : Int32) 82 <|
    zLt (zu M_57 (P + 2) (67 : Int32).toNatClampNeg y0_57) fun M_76 =>
    zB (D_X8_next P M_76 N_57) fun e_78 =>
    some (e_78.1, e_78.2.1, e_78.2.2)
noncomputable def D_X8_readOnce (P : Nat) (v0 : Int32) (M : zMt) (N : zNt) : Option (Int32 × zMt × zNt) :=
  zB (D_X8_has (M P 23) v0) fun e_5 =>
  if e_5 = 0 then
    zLt (zu M P 23 ((M P 23) ||| ((1 : Int32) <<< (v0 &&& 31)))) fun M_26 =>
    zB (D_X8_next P M_26 N) fun e_30 =>
    if v0 = (5 : Int32) then
      if (e_30.2.1 P 18) = (2 : Int32) then
        zB (D_X8_among P 12 e_30.2.2) fun e_50 =>
        D_X8_readOnce_57 P e_50 e_30.2.1 e_30.2.2
      else
        D_X8_readOnce_57 P (-1 : Int32) e_30.2.1 e_30.2.2
    else
      zB (D_X8_number P (0 : Int32) (100 : Int32) e_30.2.1 e_30.2.2) fun e_86 =>
      if e_86.1 = 0 then
        some ((0 : Int32), e_86.2.1, e_86.2.2)
      else
        if v0 = (6 : Int32) then
          D_X8_readOnce_111 P (68 : Int32) e_86.2.1 e_86.2.2
        else
          D_X8_readOnce_111 P (69 : Int32) e_86.2.1 e_86.2.2
  else
    zB (D_X8_bad P (2 : Int32) M) fun e_13 =>
    some (e_13.1, e_13.2, N)
set_option maxRecDepth 100000 in
set_option maxHeartbeats 4000000 in
theorem t_X8_readOnce {l : Launch} {G : zG} {b : Nat} {L : List zC} {M : zMt} {N : zNt} {P : Nat} {v0 : Int32} (hP : LX8 L P) {r : Int32 × zMt × zNt} (h : D_X8_readOnce P v0 M N = some r) : zM l G b yX8_readOnce cX8_readOnce 3 (some .boolean) 7 0 0 [.ref P, .int v0] (L, M, N) (fun r2 z => r2 = some (.int r.1) ∧ z = (L, r.2.1, r.2.2) ∧ (r.1 = 0 ∨ r.1 = 1)) := by
  refine zM.of miX8_readOnce (Nat.le_of_ble_eq_true rfl) ?_
  intro p e s m args below meth c X hr hname
  generalize hF : ((fun r2 z => r2 = some (.int r.1) ∧ z = (L, r.2.1, r.2.2) ∧ (r.1 = 0 ∨ r.1 = 1)) : Option Value → zS → Prop) = FQ
  change Zw p l e { frames := 7, cells := 0, slots := 0, locals := 80 * (7) } s m args below meth c G b 3 (MQ below (zQ G b FQ) args s 0 0 (fun q : Nat => b ≤ q)) 0 0 0 [some (.ref P), some (.int v0), none] [] (L, M, N)
  obtain ⟨p_lt, p_o, p_s, p_read, p_aside, p_kept, p_guest, p_readGuest, p_tape, p_unitName, p_hunterName, p_partyName, p_bits, p_partyOf, p_choiceAt, p_sizes, p_guestMany, p_pointsOf, p_ticketsOf, p_ord, p_given, p_roundOf, p_tags, p_guestTags, p_places, p_sumAt, p_sumFirst, p_sumRound, p_sumBoth, p_sumTags, p_isEnd, p_newPoints, p_inRow, p_out⟩ := id hP
  have J_111 : ∀ (x1_111 : Int32) (x2_111 : Option Value) (y1_111 : Int32) (M_111 : zMt) (N_111 : zNt), D_X8_readOnce_111 P y1_111 M_111 N_111 = some r → Zw p l e { frames := 7, cells := 0, slots := 0, locals := 80 * (7) } s m args below meth c G b 3 (MQ below (zQ G b FQ) args s 0 0 (fun q : Nat => b ≤ q)) 0 0 111 [some (.ref (P)), some (.int x1_111), x2_111] [.int y1_111, .ref (P + 2)] (L, M_111, N_111) := by
    intro x1_111 x2_111 y1_111 M_111 N_111 h
    unfold D_X8_readOnce_111 at h
    refine a_aload_n X dX8_readOnce_111 rfl ?_
    refine a_geti X lf8_217 (by assumption) rfl dX8_readOnce_112 ?_
    obtain ⟨g_115, h⟩ := zIx h
    obtain ⟨M_115, f_115, h⟩ := zLtx h
    refine d_iastore X (by assumption) g_115 dX8_readOnce_115 f_115 ?_
    refine a_iconst (v := 1) X dX8_readOnce_116 (by decide) ?_
    refine a_zret X (by first | exact Or.inl rfl | exact Or.inr rfl | assumption) hr dX8_readOnce_117 ⟨by decide, by decide⟩ ?_
    subst hF
    rw [← Option.some.inj h]
    exact ⟨rfl, rfl, (by first | exact Or.inl rfl | exact Or.inr rfl | assumption)⟩
  have J_57 : ∀ (x1_57 : Int32) (x2_57 : Option Value) (y0_57 : Int32) (M_57 : zMt) (N_57 : zNt), D_X8_readOnce_57 P y0_57 M_57 N_57 = some r → Zw p l e { frames := 7, cells := 0, slots := 0, locals := 80 * (7) } s m args below meth c G b 3 (MQ below (zQ G b FQ) args s 0 0 (fun q : Nat => b ≤ q)) 0 0 57 [some (.ref (P)), some (.int x1_57), x2_57] [.int y0_57] (L, M_57, N_57) := by
    intro x1_57 x2_57 y0_57 M_57 N_57 h
    unfold D_X8_readOnce_57 at h
    refine a_istore_n X dX8_readOnce_57 (by decide) ?_
    refine a_iload_n X dX8_readOnce_58 rfl ?_
    refine a_iconst (v := -1) X dX8_readOnce_59 (by decide) ?_
    refine a_icmp_ne (tgt := 69) X dX8_readOnce_60 (by decide) (fun h_60 => ?_) (fun h_60 => ?_)
    · replace h := (if_neg h_60).symm.trans h
      refine a_aload_n X dX8_readOnce_69 rfl ?_
      refine a_getr X lf8_13 (by assumption) rfl (by omega) dX8_readOnce_70 ?_
      refine a_bipush (v := 67) X dX8_readOnce_73 (by decide) ?_
      refine a_iload_n X dX8_readOnce_75 rfl ?_
      obtain ⟨g_76, h⟩ := zIx h
      obtain ⟨M_76, f_76, h⟩ := zLtx h
      refine d_iastore X (by assumption) g_76 dX8_readOnce_76 f_76 ?_
      refine a_aload_n X dX8_readOnce_77 rfl ?_
      obtain ⟨e_78, f_78, h⟩ := zBx h
      refine a_callVx X dX8_readOnce_78 miX8_next lm8_220 (t_X8_next (by assumption) f_78) (by assumption) rfl rfl rfl (Nat.le_of_ble_eq_true rfl) ⟨by decide, by decide, by decide, by decide⟩ (fun r_78 S_78 q_78 => ?_)
      obtain ⟨rfl, rfl, b_78⟩ := q_78
      refine a_zret X (by first | exact Or.inl rfl | exact Or.inr rfl | assumption) hr dX8_readOnce_81 ⟨by decide, by decide⟩ ?_
      subst hF
      rw [← Option.some.inj h]
      exact ⟨rfl, rfl, (by first | exact Or.inl rfl | exact Or.inr rfl | assumption)⟩
    · replace h := (if_pos h_60).symm.trans h
      refine a_aload_n X dX8_readOnce_63 rfl ?_
      refine a_iconst (v := 2) X dX8_readOnce_64 (by decide) ?_
      obtain ⟨e_65, f_65, h⟩ := zBx h
      refine a_callVx X dX8_readOnce_65 miX8_bad lm8_214 (t_X8_bad (by assumption) f_65) (by assumption) rfl rfl rfl (Nat.le_of_ble_eq_true rfl) ⟨by decide, by decide, by decide, by decide⟩ (fun r_65 S_65 q_65 => ?_)
      obtain ⟨rfl, rfl, b_65⟩ := q_65
      refine a_zret X (by first | exact Or.inl rfl | exact Or.inr rfl | assumption) hr dX8_readOnce_68 ⟨by decide, by decide⟩ ?_
      subst hF
      rw [← Option.some.inj h]
      exact ⟨rfl, rfl, (by first | exact Or.inl rfl | exact Or.inr rfl | assumption)⟩
  unfold D_X8_readOnce at h
  refine a_aload_n X dX8_readOnce_0 rfl ?_
  refine a_geti X lf8_243 (by assumption) rfl dX8_readOnce_1 ?_
  refine a_iload_n X dX8_readOnce_4 rfl ?_
  obtain ⟨e_5, f_5, h⟩ := zBx h
  refine a_callSx X dX8_readOnce_5 miX8_has lm8_240 (t_X8_has f_5) rfl rfl (Nat.le_of_ble_eq_true rfl) ⟨by decide, by decide, by decide, by decide⟩ (fun r_5 S_5 q_5 => ?_)
  obtain ⟨rfl, rfl, b_5⟩ := q_5
  refine a_if_eq (tgt := 17) X dX8_readOnce_8 (by decide) (fun h_8 => ?_) (fun h_8 => ?_)
  · replace h := (if_pos h_8).symm.trans h
    refine a_aload_n X dX8_readOnce_17 rfl ?_
    refine a_dup X dX8_readOnce_18 rfl ?_
    refine a_geti X lf8_243 (by assumption) rfl dX8_readOnce_19 ?_
    refine a_iconst (v := 1) X dX8_readOnce_22 (by decide) ?_
    refine a_iload_n X dX8_readOnce_23 rfl ?_
    refine a_ishl X dX8_readOnce_24 ?_
    refine a_ior X dX8_readOnce_25 ?_
    obtain ⟨M_26, f_26, h⟩ := zLtx h
    refine d_puti X lf8_243 (by assumption) rfl dX8_readOnce_26 f_26 ?_
    refine a_aload_n X dX8_readOnce_29 rfl ?_
    obtain ⟨e_30, f_30, h⟩ := zBx h
    refine a_callVx X dX8_readOnce_30 miX8_next lm8_220 (t_X8_next (by assumption) f_30) (by assumption) rfl rfl rfl (Nat.le_of_ble_eq_true rfl) ⟨by decide, by decide, by decide, by decide⟩ (fun r_30 S_30 q_30 => ?_)
    obtain ⟨rfl, rfl, b_30⟩ := q_30
    refine a_pop X dX8_readOnce_33 rfl ?_
    refine a_iload_n X dX8_readOnce_34 rfl ?_
    refine a_iconst (v := 5) X dX8_readOnce_35 (by decide) ?_
    refine a_icmp_ne (tgt := 82) X dX8_readOnce_36 (by decide) (fun h_36 => ?_) (fun h_36 => ?_)
    · replace h := (if_neg h_36).symm.trans h
      refine a_aload_n X dX8_readOnce_82 rfl ?_
      refine a_iconst (v := 0) X dX8_readOnce_83 (by decide) ?_
      refine a_bipush (v := 100) X dX8_readOnce_84 (by decide) ?_
      obtain ⟨e_86, f_86, h⟩ := zBx h
      refine a_callVx X dX8_readOnce_86 miX8_number lm8_236 (t_X8_number (by assumption) f_86) (by assumption) rfl rfl rfl (Nat.le_of_ble_eq_true rfl) ⟨by decide, by decide, by decide, by decide⟩ (fun r_86 S_86 q_86 => ?_)
      obtain ⟨rfl, rfl, b_86⟩ := q_86
      refine a_if_ne (tgt := 94) X dX8_readOnce_89 (by decide) (fun h_89 => ?_) (fun h_89 => ?_)
      · replace h := (if_neg h_89).symm.trans h
        refine a_aload_n X dX8_readOnce_94 rfl ?_
        refine a_getr X lf8_13 (by assumption) rfl (by omega) dX8_readOnce_95 ?_
        refine a_iload_n X dX8_readOnce_98 rfl ?_
        refine a_bipush (v := 6) X dX8_readOnce_99 (by decide) ?_
        refine a_icmp_ne (tgt := 109) X dX8_readOnce_101 (by decide) (fun h_101 => ?_) (fun h_101 => ?_)
        · replace h := (if_neg h_101).symm.trans h
          refine a_bipush (v := 69) X dX8_readOnce_109 (by decide) ?_
          exact Zw.to2 (J_111 _ _ _ _ _ h) rfl rfl rfl
        · replace h := (if_pos h_101).symm.trans h
          refine a_bipush (v := 68) X dX8_readOnce_104 (by decide) ?_
          refine a_goto (tgt := 111) X dX8_readOnce_106 (by decide) ?_
          exact Zw.to2 (J_111 _ _ _ _ _ h) rfl rfl rfl
      · replace h := (if_pos h_89).symm.trans h
        refine a_iconst (v := 0) X dX8_readOnce_92 (by decide) ?_
        refine a_zret X (by first | exact Or.inl rfl | exact Or.inr rfl | assumption) hr dX8_readOnce_93 ⟨by decide, by decide⟩ ?_
        subst hF
        rw [← Option.some.inj h]
        exact ⟨rfl, rfl, (by first | exact Or.inl rfl | exact Or.inr rfl | assumption)⟩
    · replace h := (if_pos h_36).symm.trans h
      refine a_aload_n X dX8_readOnce_39 rfl ?_
      refine a_geti X lf8_160 (by assumption) rfl dX8_readOnce_40 ?_
      refine a_iconst (v := 2) X dX8_readOnce_43 (by decide) ?_
      refine a_icmp_ne (tgt := 56) X dX8_readOnce_44 (by decide) (fun h_44 => ?_) (fun h_44 => ?_)
      · replace h := (if_neg h_44).symm.trans h
        refine a_iconst (v := -1) X dX8_readOnce_56 (by decide) ?_
        exact Zw.to2 (J_57 _ _ _ _ _ h) rfl rfl rfl
      · replace h := (if_pos h_44).symm.trans h
        refine a_aload_n X dX8_readOnce_47 rfl ?_
        refine a_ldcS (i := 12) (q := ("TagDrawModel", 246, "plain line square ")) X rfl rfl rfl dX8_readOnce_48 ?_
        obtain ⟨e_50, f_50, h⟩ := zBx h
        refine a_callVv X dX8_readOnce_50 miX8_among lm8_175 (t_X8_among (by assumption) (by first | assumption | decide) f_50) (by assumption) rfl rfl rfl (Nat.le_of_ble_eq_true rfl) ⟨by decide, by decide, by decide, by decide⟩ ?_
        refine a_goto (tgt := 57) X dX8_readOnce_53 (by decide) ?_
        exact Zw.to2 (J_57 _ _ _ _ _ h) rfl rfl rfl
  · replace h := (if_neg h_8).symm.trans h
    refine a_aload_n X dX8_readOnce_11 rfl ?_
    refine a_iconst (v := 2) X dX8_readOnce_12 (by decide) ?_
    obtain ⟨e_13, f_13, h⟩ := zBx h
    refine a_callVx X dX8_readOnce_13 miX8_bad lm8_214 (t_X8_bad (by assumption) f_13) (by assumption) rfl rfl rfl (Nat.le_of_ble_eq_true rfl) ⟨by decide, by decide, by decide, by decide⟩ (fun r_13 S_13 q_13 => ?_)
    obtain ⟨rfl, rfl, b_13⟩ := q_13
    refine a_zret X (by first | exact Or.inl rfl | exact Or.inr rfl | assumption) hr dX8_readOnce_16 ⟨by decide, by decide⟩ ?_
    subst hF
    rw [← Option.some.inj h]
    exact ⟨rfl, rfl, (by first | exact Or.inl rfl | exact Or.inr rfl | assumption)⟩
noncomputable def D_X8_readLine_140 (P : Nat) (y0_140 : Int32) (M_140 : zMt) (N_140 : zNt) : Option (Int32 × zMt × zNt) :=
  some (y0_140, M_140, N_140)
noncomputable def D_X8_readLine_114 (P : Nat) (x1_114 : Int32) (M_114 : zMt) (N_114 : zNt) : Option (Int32 × zMt × zNt) :=
  if x1_114 = 0 then
    some ((0 : Int32), M_114, N_114)
  else
    if (M_114 P 18) = (4 : Int32) then
      zB (D_X8_next P M_114 N_114) fun e_129 =>
      D_X8_readLine_140 P e_129.1 e_129.2.1 e_129.2.2
    else
      zB (D_X8_bad P (2 : Int32) M_114) fun e_137 =>
      D_X8_readLine_140 P e_137.1 e_137.2 N_114
noncomputable def D_X8_readLine_108 (P : Nat) (M_108 : zMt) (N_108 : zNt) : Option (Int32 × zMt × zNt) :=
  zB (D_X8_bad P (2 : Int32) M_108) fun e_110 =>
  some (e_110.1, e_110.2, N_108)
noncomputable def D_X8_readLine_96 (P : Nat) (M_96 : zMt) (N_96 : zNt) : Option (Int32 × zMt × zNt) :=
  zB (D_X8_readOnce P (M_96 P 19) M_96 N_96) fun e_101 =>
  D_X8_readLine_114 P e_101.1 e_101.2.1 e_101.2.2
noncomputable def D_X8_readLine_16 (P : Nat) (y0_16 : Int32) (M_16 : zMt) (N_16 : zNt) : Option (Int32 × zMt × zNt) :=
  if Int32.toInt y0_16 = 0 then
    zB (D_X8_readUnit P M_16 N_16) fun e_65 =>
    D_X8_readLine_114 P e_65.1 e_65.2.1 e_65.2.2
  else
  if Int32.toInt y0_16 = 1 then
    zB (D_X8_readHunter P M_16 N_16) fun e_73 =>
    D_X8_readLine_114 P e_73.1 e_73.2.1 e_73.2.2
  else
  if Int32.toInt y0_16 = 2 then
    D_X8_readLine_108 P M_16 N_16
  else
  if Int32.toInt y0_16 = 3 then
    zB (D_X8_readParty P M_16 N_16) fun e_81 =>
    D_X8_readLine_114 P e_81.1 e_81.2.1 e_81.2.2
  else
  if Int32.toInt y0_16 = 4 then
    zB (D_X8_readAsks P M_16 N_16) fun e_89 =>
    D_X8_readLine_114 P e_89.1 e_89.2.1 e_89.2.2
  else
  if Int32.toInt y0_16 = 5 then
    D_X8_readLine_96 P M_16 N_16
  else
  if Int32.toInt y0_16 = 6 then
    D_X8_readLine_96 P M_16 N_16
  else
  if Int32.toInt y0_16 = 7 then
    D_X8_readLine_96 P M_16 N_16
  else
    D_X8_readLine_108 P M_16 N_16
noncomputable def D_X8_readLine (P : Nat) (M : zMt) (N : zNt) : Option (Int32 × zMt × zNt) :=
  if (M P 18) = (2 : Int32) then
    D_X8_readLine_16 P (M P 19) M N
  else
    D_X8_readLine_16 P (-1 : Int32) M N
set_option maxRecDepth 100000 in
set_option maxHeartbeats 4000000 in
theorem t_X8_readLine {l : Launch} {G : zG} {b : Nat} {L : List zC} {M : zMt} {N : zNt} {P : Nat}  (hP : LX8 L P) {r : Int32 × zMt × zNt} (h : D_X8_readLine P M N = some r) : zM l G b yX8_readLine cX8_readLine 2 (some .boolean) 8 0 0 [.ref P] (L, M, N) (fun r2 z => r2 = some (.int r.1) ∧ z = (L, r.2.1, r.2.2) ∧ (r.1 = 0 ∨ r.1 = 1)) := by
  refine zM.of miX8_readLine (Nat.le_of_ble_eq_true rfl) ?_
  intro p e s m args below meth c X hr hname
  generalize hF : ((fun r2 z => r2 = some (.int r.1) ∧ z = (L, r.2.1, r.2.2) ∧ (r.1 = 0 ∨ r.1 = 1)) : Option Value → zS → Prop) = FQ
  change Zw p l e { frames := 8, cells := 0, slots := 0, locals := 80 * (8) } s m args below meth c G b 2 (MQ below (zQ G b FQ) args s 0 0 (fun q : Nat => b ≤ q)) 0 0 0 [some (.ref P), none] [] (L, M, N)
  obtain ⟨p_lt, p_o, p_s, p_read, p_aside, p_kept, p_guest, p_readGuest, p_tape, p_unitName, p_hunterName, p_partyName, p_bits, p_partyOf, p_choiceAt, p_sizes, p_guestMany, p_pointsOf, p_ticketsOf, p_ord, p_given, p_roundOf, p_tags, p_guestTags, p_places, p_sumAt, p_sumFirst, p_sumRound, p_sumBoth, p_sumTags, p_isEnd, p_newPoints, p_inRow, p_out⟩ := id hP
  have J_140 : ∀ (x1_140 : Int32) (y0_140 : Int32) (M_140 : zMt) (N_140 : zNt), (y0_140 = 0 ∨ y0_140 = 1) → D_X8_readLine_140 P y0_140 M_140 N_140 = some r → Zw p l e { frames := 8, cells := 0, slots := 0, locals := 80 * (8) } s m args below meth c G b 2 (MQ below (zQ G b FQ) args s 0 0 (fun q : Nat => b ≤ q)) 0 0 140 [some (.ref (P)), some (.int x1_140)] [.int y0_140] (L, M_140, N_140) := by
    intro x1_140 y0_140 M_140 N_140 fb_y0_140 h
    unfold D_X8_readLine_140 at h
    refine a_zret X (by first | exact Or.inl rfl | exact Or.inr rfl | assumption) hr dX8_readLine_140 ⟨by decide, by decide⟩ ?_
    subst hF
    rw [← Option.some.inj h]
    exact ⟨rfl, rfl, (by first | exact Or.inl rfl | exact Or.inr rfl | assumption)⟩
  have J_114 : ∀ (x1_114 : Int32) (M_114 : zMt) (N_114 : zNt), (x1_114 = 0 ∨ x1_114 = 1) → D_X8_readLine_114 P x1_114 M_114 N_114 = some r → Zw p l e { frames := 8, cells := 0, slots := 0, locals := 80 * (8) } s m args below meth c G b 2 (MQ below (zQ G b FQ) args s 0 0 (fun q : Nat => b ≤ q)) 0 0 114 [some (.ref (P)), some (.int x1_114)] [] (L, M_114, N_114) := by
    intro x1_114 M_114 N_114 fb_x1_114 h
    unfold D_X8_readLine_114 at h
    refine a_iload_n X dX8_readLine_114 rfl ?_
    refine a_if_ne (tgt := 120) X dX8_readLine_115 (by decide) (fun h_115 => ?_) (fun h_115 => ?_)
    · replace h := (if_neg h_115).symm.trans h
      refine a_aload_n X dX8_readLine_120 rfl ?_
      refine a_geti X lf8_160 (by assumption) rfl dX8_readLine_121 ?_
      refine a_iconst (v := 4) X dX8_readLine_124 (by decide) ?_
      refine a_icmp_ne (tgt := 135) X dX8_readLine_125 (by decide) (fun h_125 => ?_) (fun h_125 => ?_)
      · replace h := (if_neg h_125).symm.trans h
        refine a_aload_n X dX8_readLine_135 rfl ?_
        refine a_iconst (v := 2) X dX8_readLine_136 (by decide) ?_
        obtain ⟨e_137, f_137, h⟩ := zBx h
        refine a_callVx X dX8_readLine_137 miX8_bad lm8_214 (t_X8_bad (by assumption) f_137) (by assumption) rfl rfl rfl (Nat.le_of_ble_eq_true rfl) ⟨by decide, by decide, by decide, by decide⟩ (fun r_137 S_137 q_137 => ?_)
        obtain ⟨rfl, rfl, b_137⟩ := q_137
        exact Zw.to2 (J_140 _ _ _ _ (by first | exact Or.inl rfl | exact Or.inr rfl | assumption) h) rfl rfl rfl
      · replace h := (if_pos h_125).symm.trans h
        refine a_aload_n X dX8_readLine_128 rfl ?_
        obtain ⟨e_129, f_129, h⟩ := zBx h
        refine a_callVx X dX8_readLine_129 miX8_next lm8_220 (t_X8_next (by assumption) f_129) (by assumption) rfl rfl rfl (Nat.le_of_ble_eq_true rfl) ⟨by decide, by decide, by decide, by decide⟩ (fun r_129 S_129 q_129 => ?_)
        obtain ⟨rfl, rfl, b_129⟩ := q_129
        refine a_goto (tgt := 140) X dX8_readLine_132 (by decide) ?_
        exact Zw.to2 (J_140 _ _ _ _ (by first | exact Or.inl rfl | exact Or.inr rfl | assumption) h) rfl rfl rfl
    · replace h := (if_pos h_115).symm.trans h
      refine a_iconst (v := 0) X dX8_readLine_118 (by decide) ?_
      refine a_zret X (by first | exact Or.inl rfl | exact Or.inr rfl | assumption) hr dX8_readLine_119 ⟨by decide, by decide⟩ ?_
      subst hF
      rw [← Option.some.inj h]
      exact ⟨rfl, rfl, (by first | exact Or.inl rfl | exact Or.inr rfl | assumption)⟩
  have J_108 : ∀ (x1_108 : Option Value) (M_108 : zMt) (N_108 : zNt), D_X8_readLine_108 P M_108 N_108 = some r → Zw p l e { frames := 8, cells := 0, slots := 0, locals := 80 * (8) } s m args below meth c G b 2 (MQ below (zQ G b FQ) args s 0 0 (fun q : Nat => b ≤ q)) 0 0 108 [some (.ref (P)), x1_108] [] (L, M_108, N_108) := by
    intro x1_108 M_108 N_108 h
    unfold D_X8_readLine_108 at h
    refine a_aload_n X dX8_readLine_108 rfl ?_
    refine a_iconst (v := 2) X dX8_readLine_109 (by decide) ?_
    obtain ⟨e_110, f_110, h⟩ := zBx h
    refine a_callVx X dX8_readLine_110 miX8_bad lm8_214 (t_X8_bad (by assumption) f_110) (by assumption) rfl rfl rfl (Nat.le_of_ble_eq_true rfl) ⟨by decide, by decide, by decide, by decide⟩ (fun r_110 S_110 q_110 => ?_)
    obtain ⟨rfl, rfl, b_110⟩ := q_110
    refine a_zret X (by first | exact Or.inl rfl | exact Or.inr rfl | assumption) hr dX8_readLine_113 ⟨by decide, by decide⟩ ?_
    subst hF
    rw [← Option.some.inj h]
    exact ⟨rfl, rfl, (by first | exact Or.inl rfl | exact Or.inr rfl | assumption)⟩
  have J_96 : ∀ (x1_96 : Option Value) (M_96 : zMt) (N_96 : zNt), D_X8_readLine_96 P M_96 N_96 = some r → Zw p l e { frames := 8, cells := 0, slots := 0, locals := 80 * (8) } s m args below meth c G b 2 (MQ below (zQ G b FQ) args s 0 0 (fun q : Nat => b ≤ q)) 0 0 96 [some (.ref (P)), x1_96] [] (L, M_96, N_96) := by
    intro x1_96 M_96 N_96 h
    unfold D_X8_readLine_96 at h
    refine a_aload_n X dX8_readLine_96 rfl ?_
    refine a_aload_n X dX8_readLine_97 rfl ?_
    refine a_geti X lf8_157 (by assumption) rfl dX8_readLine_98 ?_
    obtain ⟨e_101, f_101, h⟩ := zBx h
    refine a_callVx X dX8_readLine_101 miX8_readOnce lm8_260 (t_X8_readOnce (by assumption) f_101) (by assumption) rfl rfl rfl (Nat.le_of_ble_eq_true rfl) ⟨by decide, by decide, by decide, by decide⟩ (fun r_101 S_101 q_101 => ?_)
    obtain ⟨rfl, rfl, b_101⟩ := q_101
    refine a_istore_n X dX8_readLine_104 (by decide) ?_
    refine a_goto (tgt := 114) X dX8_readLine_105 (by decide) ?_
    exact Zw.to2 (J_114 _ _ _ (by first | exact Or.inl rfl | exact Or.inr rfl | assumption) h) rfl rfl rfl
  have J_16 : ∀ (x1_16 : Option Value) (y0_16 : Int32) (M_16 : zMt) (N_16 : zNt), D_X8_readLine_16 P y0_16 M_16 N_16 = some r → Zw p l e { frames := 8, cells := 0, slots := 0, locals := 80 * (8) } s m args below meth c G b 2 (MQ below (zQ G b FQ) args s 0 0 (fun q : Nat => b ≤ q)) 0 0 16 [some (.ref (P)), x1_16] [.int y0_16] (L, M_16, N_16) := by
    intro x1_16 y0_16 M_16 N_16 h
    unfold D_X8_readLine_16 at h
    refine a_tsw (tg := [64, 72, 108, 80, 88, 96, 96, 96]) (td := 108) X dX8_readLine_16 (by decide +kernel) (by decide) (by decide) (fun k_16 t_16 ht_16 hx_16 => ?_) (fun hx_16 => ?_)
    · match k_16, ht_16, hx_16 with
      | 0, ht_16, hx_16 =>
        cases ht_16
        replace h := (if_pos (by omega)).symm.trans h
        refine a_aload_n X dX8_readLine_64 rfl ?_
        obtain ⟨e_65, f_65, h⟩ := zBx h
        refine a_callVx X dX8_readLine_65 miX8_readUnit lm8_248 (t_X8_readUnit (by assumption) f_65) (by assumption) rfl rfl rfl (Nat.le_of_ble_eq_true rfl) ⟨by decide, by decide, by decide, by decide⟩ (fun r_65 S_65 q_65 => ?_)
        obtain ⟨rfl, rfl, b_65⟩ := q_65
        refine a_istore_n X dX8_readLine_68 (by decide) ?_
        refine a_goto (tgt := 114) X dX8_readLine_69 (by decide) ?_
        exact Zw.to2 (J_114 _ _ _ (by first | exact Or.inl rfl | exact Or.inr rfl | assumption) h) rfl rfl rfl
      | 1, ht_16, hx_16 =>
        cases ht_16
        replace h := (if_neg (by omega)).symm.trans h
        replace h := (if_pos (by omega)).symm.trans h
        refine a_aload_n X dX8_readLine_72 rfl ?_
        obtain ⟨e_73, f_73, h⟩ := zBx h
        refine a_callVx X dX8_readLine_73 miX8_readHunter lm8_251 (t_X8_readHunter (by assumption) f_73) (by assumption) rfl rfl rfl (Nat.le_of_ble_eq_true rfl) ⟨by decide, by decide, by decide, by decide⟩ (fun r_73 S_73 q_73 => ?_)
        obtain ⟨rfl, rfl, b_73⟩ := q_73
        refine a_istore_n X dX8_readLine_76 (by decide) ?_
        refine a_goto (tgt := 114) X dX8_readLine_77 (by decide) ?_
        exact Zw.to2 (J_114 _ _ _ (by first | exact Or.inl rfl | exact Or.inr rfl | assumption) h) rfl rfl rfl
      | 2, ht_16, hx_16 =>
        cases ht_16
        replace h := (if_neg (by omega)).symm.trans h
        replace h := (if_neg (by omega)).symm.trans h
        replace h := (if_pos (by omega)).symm.trans h
        exact Zw.to2 (J_108 _ _ _ h) rfl rfl rfl
      | 3, ht_16, hx_16 =>
        cases ht_16
        replace h := (if_neg (by omega)).symm.trans h
        replace h := (if_neg (by omega)).symm.trans h
        replace h := (if_neg (by omega)).symm.trans h
        replace h := (if_pos (by omega)).symm.trans h
        refine a_aload_n X dX8_readLine_80 rfl ?_
        obtain ⟨e_81, f_81, h⟩ := zBx h
        refine a_callVx X dX8_readLine_81 miX8_readParty lm8_254 (t_X8_readParty (by assumption) f_81) (by assumption) rfl rfl rfl (Nat.le_of_ble_eq_true rfl) ⟨by decide, by decide, by decide, by decide⟩ (fun r_81 S_81 q_81 => ?_)
        obtain ⟨rfl, rfl, b_81⟩ := q_81
        refine a_istore_n X dX8_readLine_84 (by decide) ?_
        refine a_goto (tgt := 114) X dX8_readLine_85 (by decide) ?_
        exact Zw.to2 (J_114 _ _ _ (by first | exact Or.inl rfl | exact Or.inr rfl | assumption) h) rfl rfl rfl
      | 4, ht_16, hx_16 =>
        cases ht_16
        replace h := (if_neg (by omega)).symm.trans h
        replace h := (if_neg (by omega)).symm.trans h
        replace h := (if_neg (by omega)).symm.trans h
        replace h := (if_neg (by omega)).symm.trans h
        replace h := (if_pos (by omega)).symm.trans h
        refine a_aload_n X dX8_readLine_88 rfl ?_
        obtain ⟨e_89, f_89, h⟩ := zBx h
        refine a_callVx X dX8_readLine_89 miX8_readAsks lm8_257 (t_X8_readAsks (by assumption) f_89) (by assumption) rfl rfl rfl (Nat.le_of_ble_eq_true rfl) ⟨by decide, by decide, by decide, by decide⟩ (fun r_89 S_89 q_89 => ?_)
        obtain ⟨rfl, rfl, b_89⟩ := q_89
        refine a_istore_n X dX8_readLine_92 (by decide) ?_
        refine a_goto (tgt := 114) X dX8_readLine_93 (by decide) ?_
        exact Zw.to2 (J_114 _ _ _ (by first | exact Or.inl rfl | exact Or.inr rfl | assumption) h) rfl rfl rfl
      | 5, ht_16, hx_16 =>
        cases ht_16
        replace h := (if_neg (by omega)).symm.trans h
        replace h := (if_neg (by omega)).symm.trans h
        replace h := (if_neg (by omega)).symm.trans h
        replace h := (if_neg (by omega)).symm.trans h
        replace h := (if_neg (by omega)).symm.trans h
        replace h := (if_pos (by omega)).symm.trans h
        exact Zw.to2 (J_96 _ _ _ h) rfl rfl rfl
      | 6, ht_16, hx_16 =>
        cases ht_16
        replace h := (if_neg (by omega)).symm.trans h
        replace h := (if_neg (by omega)).symm.trans h
        replace h := (if_neg (by omega)).symm.trans h
        replace h := (if_neg (by omega)).symm.trans h
        replace h := (if_neg (by omega)).symm.trans h
        replace h := (if_neg (by omega)).symm.trans h
        replace h := (if_pos (by omega)).symm.trans h
        exact Zw.to2 (J_96 _ _ _ h) rfl rfl rfl
      | 7, ht_16, hx_16 =>
        cases ht_16
        replace h := (if_neg (by omega)).symm.trans h
        replace h := (if_neg (by omega)).symm.trans h
        replace h := (if_neg (by omega)).symm.trans h
        replace h := (if_neg (by omega)).symm.trans h
        replace h := (if_neg (by omega)).symm.trans h
        replace h := (if_neg (by omega)).symm.trans h
        replace h := (if_neg (by omega)).symm.trans h
        replace h := (if_pos (by omega)).symm.trans h
        exact Zw.to2 (J_96 _ _ _ h) rfl rfl rfl
    · skip
      replace h := (if_neg (by omega)).symm.trans h
      replace h := (if_neg (by omega)).symm.trans h
      replace h := (if_neg (by omega)).symm.trans h
      replace h := (if_neg (by omega)).symm.trans h
      replace h := (if_neg (by omega)).symm.trans h
      replace h := (if_neg (by omega)).symm.trans h
      replace h := (if_neg (by omega)).symm.trans h
      replace h := (if_neg (by omega)).symm.trans h
      exact Zw.to2 (J_108 _ _ _ h) rfl rfl rfl
  unfold D_X8_readLine at h
  refine a_aload_n X dX8_readLine_0 rfl ?_
  refine a_geti X lf8_160 (by assumption) rfl dX8_readLine_1 ?_
  refine a_iconst (v := 2) X dX8_readLine_4 (by decide) ?_
  refine a_icmp_ne (tgt := 15) X dX8_readLine_5 (by decide) (fun h_5 => ?_) (fun h_5 => ?_)
  · replace h := (if_neg h_5).symm.trans h
    refine a_iconst (v := -1) X dX8_readLine_15 (by decide) ?_
    exact Zw.to2 (J_16 _ _ _ _ h) rfl rfl rfl
  · replace h := (if_pos h_5).symm.trans h
    refine a_aload_n X dX8_readLine_8 rfl ?_
    refine a_geti X lf8_157 (by assumption) rfl dX8_readLine_9 ?_
    refine a_goto (tgt := 16) X dX8_readLine_12 (by decide) ?_
    exact Zw.to2 (J_16 _ _ _ _ h) rfl rfl rfl
noncomputable def D_X8_load_197 (P : Nat) (k164 : Int32 → zMt → zNt → Option (Int32 × zMt × zNt)) (x3_197 : Int32) (y1_197 : Int32) (y2_197 : Int32) (M_197 : zMt) (N_197 : zNt) : Option (Int32 × zMt × zNt) :=
  zI y1_197 10 <|
  zLt (zu M_197 (P + 5) y1_197.toNatClampNeg y2_197) fun M_197 =>
  k164 (x3_197 + 1) M_197 N_197
noncomputable def D_X8_load_196 (P : Nat) (k164 : Int32 → zMt → zNt → Option (Int32 × zMt × zNt)) (x3_196 : Int32) (y1_196 : Int32) (M_196 : zMt) (N_196 : zNt) : Option (Int32 × zMt × zNt) :=
  D_X8_load_197 P k164 x3_196 y1_196 (0 : Int32) M_196 N_196
noncomputable def D_X8_load_164 (P : Nat) : Nat → Int32 → zMt → zNt → Option (Int32 × zMt × zNt)
  | 0, _, _, _ => none
  | n + 1, x3_164, M_164, N_164 =>
    if (10 : Int32) ≤ x3_164 then
      zLt (zu M_164 P 7 (M_164 P 28)) fun M_209 =>
      zLt (zu M_209 P 8 (M_209 P 29)) fun M_217 =>
      zLt (zu M_217 P 9 (0 : Int32)) fun M_222 =>
      zB (D_X8_gives P (M_222 P 8) M_222) fun e_230 =>
      some (e_230.1, e_230.2, N_164)
    else
      if (M_164 P 29) ≤ x3_164 then
        D_X8_load_196 P (D_X8_load_164 P n) x3_164 x3_164 M_164 N_164
      else
        zI x3_164 10 <|
        if (M_164 (P + 6) x3_164.toNatClampNeg) = 0 then
          D_X8_load_196 P (D_X8_load_164 P n) x3_164 x3_164 M_164 N_164
        else
          D_X8_load_197 P (D_X8_load_164 P n) x3_164 x3_164 (1 : Int32) M_164 N_164
noncomputable def D_X8_load_138 (P : Nat) : Nat → Int32 → zMt → zNt → Option (Int32 × zMt × zNt)
  | 0, _, _, _ => none
  | n + 1, x3_138, M_138, N_138 =>
    if (82 : Int32) ≤ x3_138 then
      D_X8_load_164 P zFu (0 : Int32) M_138 N_138
    else
      zI x3_138 82 <|
      zI x3_138 82 <|
      zLt (zu M_138 (P + 1) x3_138.toNatClampNeg (M_138 (P + 2) x3_138.toNatClampNeg)) fun M_155 =>
      (D_X8_load_138 P n) (x3_138 + 1) M_155 N_138
noncomputable def D_X8_load_98 (P : Nat) (x2_98 : Int32) (M_98 : zMt) (N_98 : zNt) : Option (Int32 × zMt × zNt) :=
  zLt (zu M_98 P 13 (M_98 P 21)) fun M_103 =>
  zLt (zu M_103 P 14 (M_103 P 22)) fun M_111 =>
  if x2_98 = 0 then
    zB (D_X8_refuse P (9 : Int32) M_111) fun e_121 =>
    some (e_121.1, e_121.2, N_98)
  else
    zI (70 : Int32) 82 <|
    zLt (zu M_111 (P + 2) (70 : Int32).toNatClampNeg (M_111 P 30)) fun M_135 =>
    D_X8_load_138 P zFu (0 : Int32) M_135 N_98
noncomputable def D_X8_load_79 (P : Nat) : Nat → Int32 → zMt → zNt → Option (Int32 × zMt × zNt)
  | 0, _, _, _ => none
  | n + 1, x2_79, M_79, N_79 =>
    if x2_79 = 0 then
      D_X8_load_98 P x2_79 M_79 N_79
    else
      if (M_79 P 18) = 0 then
        D_X8_load_98 P x2_79 M_79 N_79
      else
        zB (D_X8_readLine P M_79 N_79) fun e_91 =>
        (D_X8_load_79 P n) e_91.1 e_91.2.1 e_91.2.2
noncomputable def D_X8_load (P : Nat) (v0 : Int32) (M : zMt) (N : zNt) : Option (Int32 × zMt × zNt) :=
  zB (D_X8_isFrom (Int32.toInt64 v0) (0 : Int64) (Int32.toInt64 (M P 11))) fun e_8 =>
  if e_8 = 0 then
    zB (D_X8_refuse P (1 : Int32) M) fun e_16 =>
    some (e_16.1, e_16.2, N)
  else
    zLt (zu M P 15 v0) fun M_22 =>
    zLt (zu M_22 P 11 (0 : Int32)) fun M_27 =>
    zLt (zu M_27 P 17 (0 : Int32)) fun M_32 =>
    zLt (zu M_32 P 21 (0 : Int32)) fun M_37 =>
    zLt (zu M_37 P 22 (-1 : Int32)) fun M_42 =>
    zLt (zu M_42 P 23 (0 : Int32)) fun M_47 =>
    zLt (zu M_47 P 28 (0 : Int32)) fun M_52 =>
    zLt (zu M_52 P 29 (0 : Int32)) fun M_57 =>
    zLt (zu M_57 P 30 (0 : Int32)) fun M_62 =>
    zB (D_X8_begins (P + 2) 82 M_62) fun e_69 =>
    zB (D_X8_next P e_69 N) fun e_73 =>
    D_X8_load_79 P zFu (1 : Int32) e_73.2.1 e_73.2.2
set_option maxRecDepth 100000 in
set_option maxHeartbeats 4000000 in
theorem t_X8_load {l : Launch} {G : zG} {b : Nat} {L : List zC} {M : zMt} {N : zNt} {P : Nat} {v0 : Int32} (hP : LX8 L P) {r : Int32 × zMt × zNt} (h : D_X8_load P v0 M N = some r) : zM l G b yX8_load cX8_load 4 (some .int) 9 0 0 [.ref P, .int v0] (L, M, N) (fun r2 z => r2 = some (.int r.1) ∧ z = (L, r.2.1, r.2.2)) := by
  refine zM.of miX8_load (Nat.le_of_ble_eq_true rfl) ?_
  intro p e s m args below meth c X hr hname
  generalize hF : ((fun r2 z => r2 = some (.int r.1) ∧ z = (L, r.2.1, r.2.2)) : Option Value → zS → Prop) = FQ
  change Zw p l e { frames := 9, cells := 0, slots := 0, locals := 80 * (9) } s m args below meth c G b 4 (MQ below (zQ G b FQ) args s 0 0 (fun q : Nat => b ≤ q)) 0 0 0 [some (.ref P), some (.int v0), none, none] [] (L, M, N)
  obtain ⟨p_lt, p_o, p_s, p_read, p_aside, p_kept, p_guest, p_readGuest, p_tape, p_unitName, p_hunterName, p_partyName, p_bits, p_partyOf, p_choiceAt, p_sizes, p_guestMany, p_pointsOf, p_ticketsOf, p_ord, p_given, p_roundOf, p_tags, p_guestTags, p_places, p_sumAt, p_sumFirst, p_sumRound, p_sumBoth, p_sumTags, p_isEnd, p_newPoints, p_inRow, p_out⟩ := id hP
  have L_164 : ∀ u : Nat, ∀ (x1_164 : Int32) (x2_164 : Int32) (x3_164 : Int32) (M_164 : zMt) (N_164 : zNt), D_X8_load_164 P u x3_164 M_164 N_164 = some r → Zw p l e { frames := 9, cells := 0, slots := 0, locals := 80 * (9) } s m args below meth c G b 4 (MQ below (zQ G b FQ) args s 0 0 (fun q : Nat => b ≤ q)) 0 0 164 [some (.ref (P)), some (.int x1_164), some (.int x2_164), some (.int x3_164)] [] (L, M_164, N_164) := by
    intro u
    induction u with
    | zero => intro x1_164 x2_164 x3_164 M_164 N_164 h; cases (show none = some r from h)
    | succ u_164 ih_164 =>
      have J_197 : ∀ (x1_197 : Int32) (x2_197 : Int32) (x3_197 : Int32) (y1_197 : Int32) (y2_197 : Int32) (M_197 : zMt) (N_197 : zNt), (y2_197 = 0 ∨ y2_197 = 1) → D_X8_load_197 P (D_X8_load_164 P u_164) x3_197 y1_197 y2_197 M_197 N_197 = some r → Zw p l e { frames := 9, cells := 0, slots := 0, locals := 80 * (9) } s m args below meth c G b 4 (MQ below (zQ G b FQ) args s 0 0 (fun q : Nat => b ≤ q)) 0 0 197 [some (.ref (P)), some (.int x1_197), some (.int x2_197), some (.int x3_197)] [.int y2_197, .int y1_197, .ref (P + 5)] (L, M_197, N_197) := by
        intro x1_197 x2_197 x3_197 y1_197 y2_197 M_197 N_197 fb_y2_197 h
        unfold D_X8_load_197 at h
        obtain ⟨g_197, h⟩ := zIx h
        obtain ⟨M_197, f_197, h⟩ := zLtx h
        refine d_bastore X (by first | exact Or.inl rfl | exact Or.inr rfl | assumption) (by assumption) g_197 dX8_load_197 f_197 ?_
        refine a_iinc (v := x3_197 + 1) X dX8_load_198 (by decide) rfl zi_1 ?_
        refine a_goto (tgt := 164) X dX8_load_201 (by decide) ?_
        exact Zw.to2 (ih_164 _ _ _ _ _ h) rfl rfl rfl
      have J_196 : ∀ (x1_196 : Int32) (x2_196 : Int32) (x3_196 : Int32) (y1_196 : Int32) (M_196 : zMt) (N_196 : zNt), D_X8_load_196 P (D_X8_load_164 P u_164) x3_196 y1_196 M_196 N_196 = some r → Zw p l e { frames := 9, cells := 0, slots := 0, locals := 80 * (9) } s m args below meth c G b 4 (MQ below (zQ G b FQ) args s 0 0 (fun q : Nat => b ≤ q)) 0 0 196 [some (.ref (P)), some (.int x1_196), some (.int x2_196), some (.int x3_196)] [.int y1_196, .ref (P + 5)] (L, M_196, N_196) := by
        intro x1_196 x2_196 x3_196 y1_196 M_196 N_196 h
        unfold D_X8_load_196 at h
        refine a_iconst (v := 0) X dX8_load_196 (by decide) ?_
        exact Zw.to2 (J_197 _ _ _ _ _ _ _ (by first | exact Or.inl rfl | exact Or.inr rfl | assumption) h) rfl rfl rfl
      intro x1_164 x2_164 x3_164 M_164 N_164 h
      rw [D_X8_load_164] at h
      refine a_iload_n X dX8_load_164 rfl ?_
      refine a_bipush (v := 10) X dX8_load_165 (by decide) ?_
      refine a_icmp_ge (tgt := 204) X dX8_load_167 (by decide) (fun h_167 => ?_) (fun h_167 => ?_)
      · replace h := (if_pos h_167).symm.trans h
        refine a_aload_n X dX8_load_204 rfl ?_
        refine a_aload_n X dX8_load_205 rfl ?_
        refine a_geti X lf8_201 (by assumption) rfl dX8_load_206 ?_
        obtain ⟨M_209, f_209, h⟩ := zLtx h
        refine d_puti X lf8_125 (by assumption) rfl dX8_load_209 f_209 ?_
        refine a_aload_n X dX8_load_212 rfl ?_
        refine a_aload_n X dX8_load_213 rfl ?_
        refine a_geti X lf8_208 (by assumption) rfl dX8_load_214 ?_
        obtain ⟨M_217, f_217, h⟩ := zLtx h
        refine d_puti X lf8_132 (by assumption) rfl dX8_load_217 f_217 ?_
        refine a_aload_n X dX8_load_220 rfl ?_
        refine a_iconst (v := 0) X dX8_load_221 (by decide) ?_
        obtain ⟨M_222, f_222, h⟩ := zLtx h
        refine d_puti X lf8_269 (by assumption) rfl dX8_load_222 f_222 ?_
        refine a_aload_n X dX8_load_225 rfl ?_
        refine a_aload_n X dX8_load_226 rfl ?_
        refine a_geti X lf8_132 (by assumption) rfl dX8_load_227 ?_
        obtain ⟨e_230, f_230, h⟩ := zBx h
        refine a_callVv X dX8_load_230 miX8_gives lm8_272 (t_X8_gives (by assumption) f_230) (by assumption) rfl rfl rfl (Nat.le_of_ble_eq_true rfl) ⟨by decide, by decide, by decide, by decide⟩ ?_
        refine a_iret X hr dX8_load_233 ⟨by decide, by decide⟩ ?_
        subst hF
        rw [← Option.some.inj h]
        exact ⟨rfl, rfl⟩
      · replace h := (if_neg h_167).symm.trans h
        refine a_aload_n X dX8_load_170 rfl ?_
        refine a_getr X lf8_22 (by assumption) rfl (by omega) dX8_load_171 ?_
        refine a_iload_n X dX8_load_174 rfl ?_
        refine a_iload_n X dX8_load_175 rfl ?_
        refine a_aload_n X dX8_load_176 rfl ?_
        refine a_geti X lf8_208 (by assumption) rfl dX8_load_177 ?_
        refine a_icmp_ge (tgt := 196) X dX8_load_180 (by decide) (fun h_180 => ?_) (fun h_180 => ?_)
        · replace h := (if_pos h_180).symm.trans h
          exact Zw.to2 (J_196 _ _ _ _ _ _ h) rfl rfl rfl
        · replace h := (if_neg h_180).symm.trans h
          refine a_aload_n X dX8_load_183 rfl ?_
          refine a_getr X lf8_26 (by assumption) rfl (by omega) dX8_load_184 ?_
          refine a_iload_n X dX8_load_187 rfl ?_
          obtain ⟨g_188, h⟩ := zIx h
          refine a_baload X (by assumption) g_188 dX8_load_188 ?_
          refine a_if_eq (tgt := 196) X dX8_load_189 (by decide) (fun h_189 => ?_) (fun h_189 => ?_)
          · replace h := (if_pos h_189).symm.trans h
            exact Zw.to2 (J_196 _ _ _ _ _ _ h) rfl rfl rfl
          · replace h := (if_neg h_189).symm.trans h
            refine a_iconst (v := 1) X dX8_load_192 (by decide) ?_
            refine a_goto (tgt := 197) X dX8_load_193 (by decide) ?_
            exact Zw.to2 (J_197 _ _ _ _ _ _ _ (by first | exact Or.inl rfl | exact Or.inr rfl | assumption) h) rfl rfl rfl
  have H_164 : ∀ (x1_164 : Int32) (x2_164 : Int32) (x3_164 : Int32) (M_164 : zMt) (N_164 : zNt), D_X8_load_164 P zFu x3_164 M_164 N_164 = some r → Zw p l e { frames := 9, cells := 0, slots := 0, locals := 80 * (9) } s m args below meth c G b 4 (MQ below (zQ G b FQ) args s 0 0 (fun q : Nat => b ≤ q)) 0 0 164 [some (.ref (P)), some (.int x1_164), some (.int x2_164), some (.int x3_164)] [] (L, M_164, N_164) := L_164 zFu
  have L_138 : ∀ u : Nat, ∀ (x1_138 : Int32) (x2_138 : Int32) (x3_138 : Int32) (M_138 : zMt) (N_138 : zNt), D_X8_load_138 P u x3_138 M_138 N_138 = some r → Zw p l e { frames := 9, cells := 0, slots := 0, locals := 80 * (9) } s m args below meth c G b 4 (MQ below (zQ G b FQ) args s 0 0 (fun q : Nat => b ≤ q)) 0 0 138 [some (.ref (P)), some (.int x1_138), some (.int x2_138), some (.int x3_138)] [] (L, M_138, N_138) := by
    intro u
    induction u with
    | zero => intro x1_138 x2_138 x3_138 M_138 N_138 h; cases (show none = some r from h)
    | succ u_138 ih_138 =>
      intro x1_138 x2_138 x3_138 M_138 N_138 h
      rw [D_X8_load_138] at h
      refine a_iload_n X dX8_load_138 rfl ?_
      refine a_bipush (v := 82) X dX8_load_139 (by decide) ?_
      refine a_icmp_ge (tgt := 162) X dX8_load_141 (by decide) (fun h_141 => ?_) (fun h_141 => ?_)
      · replace h := (if_pos h_141).symm.trans h
        refine a_iconst (v := 0) X dX8_load_162 (by decide) ?_
        refine a_istore_n X dX8_load_163 (by decide) ?_
        exact Zw.to2 (H_164 _ _ _ _ _ h) rfl rfl rfl
      · replace h := (if_neg h_141).symm.trans h
        refine a_aload_n X dX8_load_144 rfl ?_
        refine a_getr X lf8_7 (by assumption) rfl (by omega) dX8_load_145 ?_
        refine a_iload_n X dX8_load_148 rfl ?_
        refine a_aload_n X dX8_load_149 rfl ?_
        refine a_getr X lf8_13 (by assumption) rfl (by omega) dX8_load_150 ?_
        refine a_iload_n X dX8_load_153 rfl ?_
        obtain ⟨g_154, h⟩ := zIx h
        refine a_iaload X (by assumption) g_154 dX8_load_154 ?_
        obtain ⟨g_155, h⟩ := zIx h
        obtain ⟨M_155, f_155, h⟩ := zLtx h
        refine d_iastore X (by assumption) g_155 dX8_load_155 f_155 ?_
        refine a_iinc (v := x3_138 + 1) X dX8_load_156 (by decide) rfl zi_1 ?_
        refine a_goto (tgt := 138) X dX8_load_159 (by decide) ?_
        exact Zw.to2 (ih_138 _ _ _ _ _ h) rfl rfl rfl
  have H_138 : ∀ (x1_138 : Int32) (x2_138 : Int32) (x3_138 : Int32) (M_138 : zMt) (N_138 : zNt), D_X8_load_138 P zFu x3_138 M_138 N_138 = some r → Zw p l e { frames := 9, cells := 0, slots := 0, locals := 80 * (9) } s m args below meth c G b 4 (MQ below (zQ G b FQ) args s 0 0 (fun q : Nat => b ≤ q)) 0 0 138 [some (.ref (P)), some (.int x1_138), some (.int x2_138), some (.int x3_138)] [] (L, M_138, N_138) := L_138 zFu
  have J_98 : ∀ (x1_98 : Int32) (x2_98 : Int32) (x3_98 : Option Value) (M_98 : zMt) (N_98 : zNt), (x2_98 = 0 ∨ x2_98 = 1) → D_X8_load_98 P x2_98 M_98 N_98 = some r → Zw p l e { frames := 9, cells := 0, slots := 0, locals := 80 * (9) } s m args below meth c G b 4 (MQ below (zQ G b FQ) args s 0 0 (fun q : Nat => b ≤ q)) 0 0 98 [some (.ref (P)), some (.int x1_98), some (.int x2_98), x3_98] [] (L, M_98, N_98) := by
    intro x1_98 x2_98 x3_98 M_98 N_98 fb_x2_98 h
    unfold D_X8_load_98 at h
    refine a_aload_n X dX8_load_98 rfl ?_
    refine a_aload_n X dX8_load_99 rfl ?_
    refine a_geti X lf8_195 (by assumption) rfl dX8_load_100 ?_
    obtain ⟨M_103, f_103, h⟩ := zLtx h
    refine d_puti X lf8_32 (by assumption) rfl dX8_load_103 f_103 ?_
    refine a_aload_n X dX8_load_106 rfl ?_
    refine a_aload_n X dX8_load_107 rfl ?_
    refine a_geti X lf8_198 (by assumption) rfl dX8_load_108 ?_
    obtain ⟨M_111, f_111, h⟩ := zLtx h
    refine d_puti X lf8_36 (by assumption) rfl dX8_load_111 f_111 ?_
    refine a_iload_n X dX8_load_114 rfl ?_
    refine a_if_ne (tgt := 125) X dX8_load_115 (by decide) (fun h_115 => ?_) (fun h_115 => ?_)
    · replace h := (if_neg h_115).symm.trans h
      refine a_aload_n X dX8_load_125 rfl ?_
      refine a_getr X lf8_13 (by assumption) rfl (by omega) dX8_load_126 ?_
      refine a_bipush (v := 70) X dX8_load_129 (by decide) ?_
      refine a_aload_n X dX8_load_131 rfl ?_
      refine a_geti X lf8_211 (by assumption) rfl dX8_load_132 ?_
      obtain ⟨g_135, h⟩ := zIx h
      obtain ⟨M_135, f_135, h⟩ := zLtx h
      refine d_iastore X (by assumption) g_135 dX8_load_135 f_135 ?_
      refine a_iconst (v := 0) X dX8_load_136 (by decide) ?_
      refine a_istore_n X dX8_load_137 (by decide) ?_
      exact Zw.to2 (H_138 _ _ _ _ _ h) rfl rfl rfl
    · replace h := (if_pos h_115).symm.trans h
      refine a_aload_n X dX8_load_118 rfl ?_
      refine a_bipush (v := 9) X dX8_load_119 (by decide) ?_
      obtain ⟨e_121, f_121, h⟩ := zBx h
      refine a_callVv X dX8_load_121 miX8_refuse lm8_263 (t_X8_refuse (by assumption) f_121) (by assumption) rfl rfl rfl (Nat.le_of_ble_eq_true rfl) ⟨by decide, by decide, by decide, by decide⟩ ?_
      refine a_iret X hr dX8_load_124 ⟨by decide, by decide⟩ ?_
      subst hF
      rw [← Option.some.inj h]
      exact ⟨rfl, rfl⟩
  have L_79 : ∀ u : Nat, ∀ (x1_79 : Int32) (x2_79 : Int32) (x3_79 : Option Value) (M_79 : zMt) (N_79 : zNt), (x2_79 = 0 ∨ x2_79 = 1) → D_X8_load_79 P u x2_79 M_79 N_79 = some r → Zw p l e { frames := 9, cells := 0, slots := 0, locals := 80 * (9) } s m args below meth c G b 4 (MQ below (zQ G b FQ) args s 0 0 (fun q : Nat => b ≤ q)) 0 0 79 [some (.ref (P)), some (.int x1_79), some (.int x2_79), x3_79] [] (L, M_79, N_79) := by
    intro u
    induction u with
    | zero => intro x1_79 x2_79 x3_79 M_79 N_79 fb_x2_79 h; cases (show none = some r from h)
    | succ u_79 ih_79 =>
      intro x1_79 x2_79 x3_79 M_79 N_79 fb_x2_79 h
      rw [D_X8_load_79] at h
      refine a_iload_n X dX8_load_79 rfl ?_
      refine a_if_eq (tgt := 98) X dX8_load_80 (by decide) (fun h_80 => ?_) (fun h_80 => ?_)
      · replace h := (if_pos h_80).symm.trans h
        exact Zw.to2 (J_98 _ _ _ _ _ (by first | exact Or.inl rfl | exact Or.inr rfl | assumption) h) rfl rfl rfl
      · replace h := (if_neg h_80).symm.trans h
        refine a_aload_n X dX8_load_83 rfl ?_
        refine a_geti X lf8_160 (by assumption) rfl dX8_load_84 ?_
        refine a_if_eq (tgt := 98) X dX8_load_87 (by decide) (fun h_87 => ?_) (fun h_87 => ?_)
        · replace h := (if_pos h_87).symm.trans h
          exact Zw.to2 (J_98 _ _ _ _ _ (by first | exact Or.inl rfl | exact Or.inr rfl | assumption) h) rfl rfl rfl
        · replace h := (if_neg h_87).symm.trans h
          refine a_aload_n X dX8_load_90 rfl ?_
          obtain ⟨e_91, f_91, h⟩ := zBx h
          refine a_callVx X dX8_load_91 miX8_readLine lm8_266 (t_X8_readLine (by assumption) f_91) (by assumption) rfl rfl rfl (Nat.le_of_ble_eq_true rfl) ⟨by decide, by decide, by decide, by decide⟩ (fun r_91 S_91 q_91 => ?_)
          obtain ⟨rfl, rfl, b_91⟩ := q_91
          refine a_istore_n X dX8_load_94 (by decide) ?_
          refine a_goto (tgt := 79) X dX8_load_95 (by decide) ?_
          exact Zw.to2 (ih_79 _ _ _ _ _ (by first | exact Or.inl rfl | exact Or.inr rfl | assumption) h) rfl rfl rfl
  have H_79 : ∀ (x1_79 : Int32) (x2_79 : Int32) (x3_79 : Option Value) (M_79 : zMt) (N_79 : zNt), (x2_79 = 0 ∨ x2_79 = 1) → D_X8_load_79 P zFu x2_79 M_79 N_79 = some r → Zw p l e { frames := 9, cells := 0, slots := 0, locals := 80 * (9) } s m args below meth c G b 4 (MQ below (zQ G b FQ) args s 0 0 (fun q : Nat => b ≤ q)) 0 0 79 [some (.ref (P)), some (.int x1_79), some (.int x2_79), x3_79] [] (L, M_79, N_79) := L_79 zFu
  unfold D_X8_load at h
  refine a_iload_n X dX8_load_0 rfl ?_
  refine a_i2l X dX8_load_1 ?_
  refine a_lconst (v := 0) X dX8_load_2 (by decide) ?_
  refine a_aload_n X dX8_load_3 rfl ?_
  refine a_geti X lf8_137 (by assumption) rfl dX8_load_4 ?_
  refine a_i2l X dX8_load_7 ?_
  obtain ⟨e_8, f_8, h⟩ := zBx h
  refine a_callSx X dX8_load_8 miX8_isFrom lm8_128 (t_X8_isFrom f_8) rfl rfl (Nat.le_of_ble_eq_true rfl) ⟨by decide, by decide, by decide, by decide⟩ (fun r_8 S_8 q_8 => ?_)
  obtain ⟨rfl, rfl, b_8⟩ := q_8
  refine a_if_ne (tgt := 20) X dX8_load_11 (by decide) (fun h_11 => ?_) (fun h_11 => ?_)
  · replace h := (if_neg h_11).symm.trans h
    refine a_aload_n X dX8_load_20 rfl ?_
    refine a_iload_n X dX8_load_21 rfl ?_
    obtain ⟨M_22, f_22, h⟩ := zLtx h
    refine d_puti X lf8_144 (by assumption) rfl dX8_load_22 f_22 ?_
    refine a_aload_n X dX8_load_25 rfl ?_
    refine a_iconst (v := 0) X dX8_load_26 (by decide) ?_
    obtain ⟨M_27, f_27, h⟩ := zLtx h
    refine d_puti X lf8_137 (by assumption) rfl dX8_load_27 f_27 ?_
    refine a_aload_n X dX8_load_30 rfl ?_
    refine a_iconst (v := 0) X dX8_load_31 (by decide) ?_
    obtain ⟨M_32, f_32, h⟩ := zLtx h
    refine d_puti X lf8_147 (by assumption) rfl dX8_load_32 f_32 ?_
    refine a_aload_n X dX8_load_35 rfl ?_
    refine a_iconst (v := 0) X dX8_load_36 (by decide) ?_
    obtain ⟨M_37, f_37, h⟩ := zLtx h
    refine d_puti X lf8_195 (by assumption) rfl dX8_load_37 f_37 ?_
    refine a_aload_n X dX8_load_40 rfl ?_
    refine a_iconst (v := -1) X dX8_load_41 (by decide) ?_
    obtain ⟨M_42, f_42, h⟩ := zLtx h
    refine d_puti X lf8_198 (by assumption) rfl dX8_load_42 f_42 ?_
    refine a_aload_n X dX8_load_45 rfl ?_
    refine a_iconst (v := 0) X dX8_load_46 (by decide) ?_
    obtain ⟨M_47, f_47, h⟩ := zLtx h
    refine d_puti X lf8_243 (by assumption) rfl dX8_load_47 f_47 ?_
    refine a_aload_n X dX8_load_50 rfl ?_
    refine a_iconst (v := 0) X dX8_load_51 (by decide) ?_
    obtain ⟨M_52, f_52, h⟩ := zLtx h
    refine d_puti X lf8_201 (by assumption) rfl dX8_load_52 f_52 ?_
    refine a_aload_n X dX8_load_55 rfl ?_
    refine a_iconst (v := 0) X dX8_load_56 (by decide) ?_
    obtain ⟨M_57, f_57, h⟩ := zLtx h
    refine d_puti X lf8_208 (by assumption) rfl dX8_load_57 f_57 ?_
    refine a_aload_n X dX8_load_60 rfl ?_
    refine a_iconst (v := 0) X dX8_load_61 (by decide) ?_
    obtain ⟨M_62, f_62, h⟩ := zLtx h
    refine d_puti X lf8_211 (by assumption) rfl dX8_load_62 f_62 ?_
    refine a_aload_n X dX8_load_65 rfl ?_
    refine a_getr X lf8_13 (by assumption) rfl (by omega) dX8_load_66 ?_
    obtain ⟨e_69, f_69, h⟩ := zBx h
    refine a_callSu X dX8_load_69 miX8_begins lm8_115 (t_X8_begins (by assumption) (by first | decide | assumption) f_69) rfl rfl (Nat.le_of_ble_eq_true rfl) ⟨by decide, by decide, by decide, by decide⟩ ?_
    refine a_aload_n X dX8_load_72 rfl ?_
    obtain ⟨e_73, f_73, h⟩ := zBx h
    refine a_callVx X dX8_load_73 miX8_next lm8_220 (t_X8_next (by assumption) f_73) (by assumption) rfl rfl rfl (Nat.le_of_ble_eq_true rfl) ⟨by decide, by decide, by decide, by decide⟩ (fun r_73 S_73 q_73 => ?_)
    obtain ⟨rfl, rfl, b_73⟩ := q_73
    refine a_pop X dX8_load_76 rfl ?_
    refine a_iconst (v := 1) X dX8_load_77 (by decide) ?_
    refine a_istore_n X dX8_load_78 (by decide) ?_
    exact Zw.to2 (H_79 _ _ _ _ _ (by first | exact Or.inl rfl | exact Or.inr rfl | assumption) h) rfl rfl rfl
  · replace h := (if_pos h_11).symm.trans h
    refine a_aload_n X dX8_load_14 rfl ?_
    refine a_iconst (v := 1) X dX8_load_15 (by decide) ?_
    obtain ⟨e_16, f_16, h⟩ := zBx h
    refine a_callVv X dX8_load_16 miX8_refuse lm8_263 (t_X8_refuse (by assumption) f_16) (by assumption) rfl rfl rfl (Nat.le_of_ble_eq_true rfl) ⟨by decide, by decide, by decide, by decide⟩ ?_
    refine a_iret X hr dX8_load_19 ⟨by decide, by decide⟩ ?_
    subst hF
    rw [← Option.some.inj h]
    exact ⟨rfl, rfl⟩
