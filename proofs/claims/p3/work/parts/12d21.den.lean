noncomputable def D_X8_hunter_92 (P : Nat) (y1_92 : Int32) (M_92 : zMt) : Option (Int32 × zMt) :=
  zB (D_X8_gives P y1_92 M_92) fun e_92 =>
  some (e_92.1, e_92.2)
noncomputable def D_X8_hunter (P : Nat) (v0 : Int32) (v1 : Int32) (M : zMt) : Option (Int32 × zMt) :=
  zB (D_X8_isFrom (Int32.toInt64 v1) (0 : Int64) (4 : Int64)) fun e_6 =>
  if e_6 = 0 then
    zB (D_X8_refuse P (1 : Int32) M) fun e_14 =>
    some (e_14.1, e_14.2)
  else
    zB (D_X8_isHunter P M v0) fun e_20 =>
    if e_20 = 0 then
      zB (D_X8_refuse P (2 : Int32) M) fun e_28 =>
      some (e_28.1, e_28.2)
    else
      if Int32.toInt v1 = 0 then
        zI ((0 : Int32) + v0) 82 <|
        zB (D_X8_gives P (M (P + 1) ((0 : Int32) + v0).toNatClampNeg) M) fun e_73 =>
        some (e_73.1, e_73.2)
      else
      if Int32.toInt v1 = 1 then
        zI v0 10 <|
        if (M (P + 5) v0.toNatClampNeg) = 0 then
          D_X8_hunter_92 P (0 : Int32) M
        else
          D_X8_hunter_92 P (1 : Int32) M
      else
      if Int32.toInt v1 = 2 then
        zI ((10 : Int32) + v0) 82 <|
        zB (D_X8_gives P (M (P + 1) ((10 : Int32) + v0).toNatClampNeg) M) fun e_106 =>
        some (e_106.1, e_106.2)
      else
      if Int32.toInt v1 = 3 then
        zB (D_X8_applicantOf P v0 M) fun e_113 =>
        zB (D_X8_gives P e_113.1 e_113.2) fun e_116 =>
        some (e_116.1, e_116.2)
      else
        zI ((72 : Int32) + v0) 82 <|
        zB (D_X8_gives P (M (P + 1) ((72 : Int32) + v0).toNatClampNeg) M) fun e_130 =>
        some (e_130.1, e_130.2)
set_option maxRecDepth 100000 in
set_option maxHeartbeats 4000000 in
theorem t_X8_hunter {l : Launch} {G : zG} {b : Nat} {L : List zC} {M : zMt} {N : zNt} {P : Nat} (hP : LX8 L P) {v0 : Int32} {v1 : Int32} {r : Int32 × zMt} (h : D_X8_hunter P v0 v1 M = some r) : zM l G b yX8_hunter cX8_hunter 3 (some .int) 4 0 0 [.ref P, .int v0, .int v1] (L, M, N) (fun r2 z => r2 = some (.int r.1) ∧ z = (L, r.2, N)) := by
  refine zM.of miX8_hunter (Nat.le_of_ble_eq_true rfl) ?_
  intro p e s m args below meth c X hr hname
  generalize hF : ((fun r2 z => r2 = some (.int r.1) ∧ z = (L, r.2, N)) : Option Value → zS → Prop) = FQ
  change Zw p l e { frames := 4, cells := 0, slots := 0, locals := 80 * (4) } s m args below meth c G b 3 (MQ below (zQ G b FQ) args s 0 0 (fun q : Nat => b ≤ q)) 0 0 0 [some (.ref P), some (.int v0), some (.int v1)] [] (L, M, N)
  obtain ⟨p_lt, p_o, p_s, p_read, p_aside, p_kept, p_guest, p_readGuest, p_tape, p_unitName, p_hunterName, p_partyName, p_bits, p_partyOf, p_choiceAt, p_sizes, p_guestMany, p_pointsOf, p_ticketsOf, p_ord, p_given, p_roundOf, p_tags, p_guestTags, p_places, p_sumAt, p_sumFirst, p_sumRound, p_sumBoth, p_sumTags, p_isEnd, p_newPoints, p_inRow, p_out⟩ := id hP
  have J_92 : ∀ (x1_92 : Int32) (x2_92 : Int32) (y1_92 : Int32) (M_92 : zMt), (y1_92 = 0 ∨ y1_92 = 1) → D_X8_hunter_92 P y1_92 M_92 = some r → Zw p l e { frames := 4, cells := 0, slots := 0, locals := 80 * (4) } s m args below meth c G b 3 (MQ below (zQ G b FQ) args s 0 0 (fun q : Nat => b ≤ q)) 0 0 92 [some (.ref (P)), some (.int x1_92), some (.int x2_92)] [.int y1_92, .ref (P)] (L, M_92, N) := by
    intro x1_92 x2_92 y1_92 M_92 fb_y1_92 h
    unfold D_X8_hunter_92 at h
    obtain ⟨e_92, f_92, h⟩ := zBx h
    refine a_callVv X dX8_hunter_92 miX8_gives lm8_272 (t_X8_gives (by assumption) f_92) (by assumption) rfl rfl rfl (Nat.le_of_ble_eq_true rfl) ⟨by decide, by decide, by decide, by decide⟩ ?_
    refine a_iret X hr dX8_hunter_95 ⟨by decide, by decide⟩ ?_
    subst hF
    rw [← Option.some.inj h]
    exact ⟨rfl, rfl⟩
  unfold D_X8_hunter at h
  refine a_iload_n X dX8_hunter_0 rfl ?_
  refine a_i2l X dX8_hunter_1 ?_
  refine a_lconst (v := 0) X dX8_hunter_2 (by decide) ?_
  refine a_ldc2 X dX8_hunter_3 lk8_291 ?_
  obtain ⟨e_6, f_6, h⟩ := zBx h
  refine a_callSx X dX8_hunter_6 miX8_isFrom lm8_128 (t_X8_isFrom f_6) rfl rfl (Nat.le_of_ble_eq_true rfl) ⟨by decide, by decide, by decide, by decide⟩ (fun r_6 S_6 q_6 => ?_)
  obtain ⟨rfl, rfl, b_6⟩ := q_6
  refine a_if_ne (tgt := 18) X dX8_hunter_9 (by decide) (fun h_9 => ?_) (fun h_9 => ?_)
  · replace h := (if_neg h_9).symm.trans h
    refine a_aload_n X dX8_hunter_18 rfl ?_
    refine a_iload_n X dX8_hunter_19 rfl ?_
    obtain ⟨e_20, f_20, h⟩ := zBx h
    refine a_callVx X dX8_hunter_20 miX8_isHunter lm8_293 (t_X8_isHunter (by assumption) f_20) (by assumption) rfl rfl rfl (Nat.le_of_ble_eq_true rfl) ⟨by decide, by decide, by decide, by decide⟩ (fun r_20 S_20 q_20 => ?_)
    obtain ⟨rfl, rfl, b_20⟩ := q_20
    refine a_if_ne (tgt := 32) X dX8_hunter_23 (by decide) (fun h_23 => ?_) (fun h_23 => ?_)
    · replace h := (if_neg h_23).symm.trans h
      refine a_iload_n X dX8_hunter_32 rfl ?_
      refine a_tsw (tg := [64, 77, 96, 110]) (td := 120) X dX8_hunter_33 (by decide +kernel) (by decide) (by decide) (fun k_33 t_33 ht_33 hx_33 => ?_) (fun hx_33 => ?_)
      · match k_33, ht_33, hx_33 with
        | 0, ht_33, hx_33 =>
          cases ht_33
          replace h := (if_pos (by omega)).symm.trans h
          refine a_aload_n X dX8_hunter_64 rfl ?_
          refine a_aload_n X dX8_hunter_65 rfl ?_
          refine a_getr X lf8_7 (by assumption) rfl (by omega) dX8_hunter_66 ?_
          refine a_iconst (v := 0) X dX8_hunter_69 (by decide) ?_
          refine a_iload_n X dX8_hunter_70 rfl ?_
          refine a_iadd X dX8_hunter_71 ?_
          obtain ⟨g_72, h⟩ := zIx h
          refine a_iaload X (by assumption) g_72 dX8_hunter_72 ?_
          obtain ⟨e_73, f_73, h⟩ := zBx h
          refine a_callVv X dX8_hunter_73 miX8_gives lm8_272 (t_X8_gives (by assumption) f_73) (by assumption) rfl rfl rfl (Nat.le_of_ble_eq_true rfl) ⟨by decide, by decide, by decide, by decide⟩ ?_
          refine a_iret X hr dX8_hunter_76 ⟨by decide, by decide⟩ ?_
          subst hF
          rw [← Option.some.inj h]
          exact ⟨rfl, rfl⟩
        | 1, ht_33, hx_33 =>
          cases ht_33
          replace h := (if_neg (by omega)).symm.trans h
          replace h := (if_pos (by omega)).symm.trans h
          refine a_aload_n X dX8_hunter_77 rfl ?_
          refine a_aload_n X dX8_hunter_78 rfl ?_
          refine a_getr X lf8_22 (by assumption) rfl (by omega) dX8_hunter_79 ?_
          refine a_iload_n X dX8_hunter_82 rfl ?_
          obtain ⟨g_83, h⟩ := zIx h
          refine a_baload X (by assumption) g_83 dX8_hunter_83 ?_
          refine a_if_eq (tgt := 91) X dX8_hunter_84 (by decide) (fun h_84 => ?_) (fun h_84 => ?_)
          · replace h := (if_pos h_84).symm.trans h
            refine a_iconst (v := 0) X dX8_hunter_91 (by decide) ?_
            exact Zw.to2 (J_92 _ _ _ _ (by first | exact Or.inl rfl | exact Or.inr rfl | assumption) h) rfl rfl rfl
          · replace h := (if_neg h_84).symm.trans h
            refine a_iconst (v := 1) X dX8_hunter_87 (by decide) ?_
            refine a_goto (tgt := 92) X dX8_hunter_88 (by decide) ?_
            exact Zw.to2 (J_92 _ _ _ _ (by first | exact Or.inl rfl | exact Or.inr rfl | assumption) h) rfl rfl rfl
        | 2, ht_33, hx_33 =>
          cases ht_33
          replace h := (if_neg (by omega)).symm.trans h
          replace h := (if_neg (by omega)).symm.trans h
          replace h := (if_pos (by omega)).symm.trans h
          refine a_aload_n X dX8_hunter_96 rfl ?_
          refine a_aload_n X dX8_hunter_97 rfl ?_
          refine a_getr X lf8_7 (by assumption) rfl (by omega) dX8_hunter_98 ?_
          refine a_bipush (v := 10) X dX8_hunter_101 (by decide) ?_
          refine a_iload_n X dX8_hunter_103 rfl ?_
          refine a_iadd X dX8_hunter_104 ?_
          obtain ⟨g_105, h⟩ := zIx h
          refine a_iaload X (by assumption) g_105 dX8_hunter_105 ?_
          obtain ⟨e_106, f_106, h⟩ := zBx h
          refine a_callVv X dX8_hunter_106 miX8_gives lm8_272 (t_X8_gives (by assumption) f_106) (by assumption) rfl rfl rfl (Nat.le_of_ble_eq_true rfl) ⟨by decide, by decide, by decide, by decide⟩ ?_
          refine a_iret X hr dX8_hunter_109 ⟨by decide, by decide⟩ ?_
          subst hF
          rw [← Option.some.inj h]
          exact ⟨rfl, rfl⟩
        | 3, ht_33, hx_33 =>
          cases ht_33
          replace h := (if_neg (by omega)).symm.trans h
          replace h := (if_neg (by omega)).symm.trans h
          replace h := (if_neg (by omega)).symm.trans h
          replace h := (if_pos (by omega)).symm.trans h
          refine a_aload_n X dX8_hunter_110 rfl ?_
          refine a_aload_n X dX8_hunter_111 rfl ?_
          refine a_iload_n X dX8_hunter_112 rfl ?_
          obtain ⟨e_113, f_113, h⟩ := zBx h
          refine a_callVv X dX8_hunter_113 miX8_applicantOf lm8_296 (t_X8_applicantOf (by assumption) f_113) (by assumption) rfl rfl rfl (Nat.le_of_ble_eq_true rfl) ⟨by decide, by decide, by decide, by decide⟩ ?_
          obtain ⟨e_116, f_116, h⟩ := zBx h
          refine a_callVv X dX8_hunter_116 miX8_gives lm8_272 (t_X8_gives (by assumption) f_116) (by assumption) rfl rfl rfl (Nat.le_of_ble_eq_true rfl) ⟨by decide, by decide, by decide, by decide⟩ ?_
          refine a_iret X hr dX8_hunter_119 ⟨by decide, by decide⟩ ?_
          subst hF
          rw [← Option.some.inj h]
          exact ⟨rfl, rfl⟩
      · skip
        replace h := (if_neg (by omega)).symm.trans h
        replace h := (if_neg (by omega)).symm.trans h
        replace h := (if_neg (by omega)).symm.trans h
        replace h := (if_neg (by omega)).symm.trans h
        refine a_aload_n X dX8_hunter_120 rfl ?_
        refine a_aload_n X dX8_hunter_121 rfl ?_
        refine a_getr X lf8_7 (by assumption) rfl (by omega) dX8_hunter_122 ?_
        refine a_bipush (v := 72) X dX8_hunter_125 (by decide) ?_
        refine a_iload_n X dX8_hunter_127 rfl ?_
        refine a_iadd X dX8_hunter_128 ?_
        obtain ⟨g_129, h⟩ := zIx h
        refine a_iaload X (by assumption) g_129 dX8_hunter_129 ?_
        obtain ⟨e_130, f_130, h⟩ := zBx h
        refine a_callVv X dX8_hunter_130 miX8_gives lm8_272 (t_X8_gives (by assumption) f_130) (by assumption) rfl rfl rfl (Nat.le_of_ble_eq_true rfl) ⟨by decide, by decide, by decide, by decide⟩ ?_
        refine a_iret X hr dX8_hunter_133 ⟨by decide, by decide⟩ ?_
        subst hF
        rw [← Option.some.inj h]
        exact ⟨rfl, rfl⟩
    · replace h := (if_pos h_23).symm.trans h
      refine a_aload_n X dX8_hunter_26 rfl ?_
      refine a_iconst (v := 2) X dX8_hunter_27 (by decide) ?_
      obtain ⟨e_28, f_28, h⟩ := zBx h
      refine a_callVv X dX8_hunter_28 miX8_refuse lm8_263 (t_X8_refuse (by assumption) f_28) (by assumption) rfl rfl rfl (Nat.le_of_ble_eq_true rfl) ⟨by decide, by decide, by decide, by decide⟩ ?_
      refine a_iret X hr dX8_hunter_31 ⟨by decide, by decide⟩ ?_
      subst hF
      rw [← Option.some.inj h]
      exact ⟨rfl, rfl⟩
  · replace h := (if_pos h_9).symm.trans h
    refine a_aload_n X dX8_hunter_12 rfl ?_
    refine a_iconst (v := 1) X dX8_hunter_13 (by decide) ?_
    obtain ⟨e_14, f_14, h⟩ := zBx h
    refine a_callVv X dX8_hunter_14 miX8_refuse lm8_263 (t_X8_refuse (by assumption) f_14) (by assumption) rfl rfl rfl (Nat.le_of_ble_eq_true rfl) ⟨by decide, by decide, by decide, by decide⟩ ?_
    refine a_iret X hr dX8_hunter_17 ⟨by decide, by decide⟩ ?_
    subst hF
    rw [← Option.some.inj h]
    exact ⟨rfl, rfl⟩
noncomputable def D_X8_preferred (P : Nat) (M : zMt) (v0 : Int32) : Option (Int32) :=
  zI ((62 : Int32) + v0) 82 <|
  zI (68 : Int32) 82 <|
  some ((((M (P + 1) ((62 : Int32) + v0).toNatClampNeg) * (M (P + 1) (68 : Int32).toNatClampNeg)) / (100 : Int32)))
set_option maxRecDepth 100000 in
set_option maxHeartbeats 4000000 in
theorem t_X8_preferred {l : Launch} {G : zG} {b : Nat} {L : List zC} {M : zMt} {N : zNt} {P : Nat} (hP : LX8 L P) {v0 : Int32} {r : Int32} (h : D_X8_preferred P M v0 = some r) : zM l G b yX8_preferred cX8_preferred 2 (some .int) 0 0 0 [.ref P, .int v0] (L, M, N) (fun r2 z => r2 = some (.int r) ∧ z = (L, M, N)) := by
  refine zM.of miX8_preferred (Nat.le_of_ble_eq_true rfl) ?_
  intro p e s m args below meth c X hr hname
  generalize hF : ((fun r2 z => r2 = some (.int r) ∧ z = (L, M, N)) : Option Value → zS → Prop) = FQ
  change Zw p l e { frames := 0, cells := 0, slots := 0, locals := 80 * (0) } s m args below meth c G b 2 (MQ below (zQ G b FQ) args s 0 0 (fun q : Nat => b ≤ q)) 0 0 0 [some (.ref P), some (.int v0)] [] (L, M, N)
  obtain ⟨p_lt, p_o, p_s, p_read, p_aside, p_kept, p_guest, p_readGuest, p_tape, p_unitName, p_hunterName, p_partyName, p_bits, p_partyOf, p_choiceAt, p_sizes, p_guestMany, p_pointsOf, p_ticketsOf, p_ord, p_given, p_roundOf, p_tags, p_guestTags, p_places, p_sumAt, p_sumFirst, p_sumRound, p_sumBoth, p_sumTags, p_isEnd, p_newPoints, p_inRow, p_out⟩ := id hP
  unfold D_X8_preferred at h
  refine a_aload_n X dX8_preferred_0 rfl ?_
  refine a_getr X lf8_7 (by assumption) rfl (by omega) dX8_preferred_1 ?_
  refine a_bipush (v := 62) X dX8_preferred_4 (by decide) ?_
  refine a_iload_n X dX8_preferred_6 rfl ?_
  refine a_iadd X dX8_preferred_7 ?_
  obtain ⟨g_8, h⟩ := zIx h
  refine a_iaload X (by assumption) g_8 dX8_preferred_8 ?_
  refine a_aload_n X dX8_preferred_9 rfl ?_
  refine a_getr X lf8_7 (by assumption) rfl (by omega) dX8_preferred_10 ?_
  refine a_bipush (v := 68) X dX8_preferred_13 (by decide) ?_
  obtain ⟨g_15, h⟩ := zIx h
  refine a_iaload X (by assumption) g_15 dX8_preferred_15 ?_
  refine a_imul X dX8_preferred_16 ?_
  refine a_bipush (v := 100) X dX8_preferred_17 (by decide) ?_
  refine a_idiv X dX8_preferred_19 (by decide) ?_
  refine a_iret X hr dX8_preferred_20 ⟨by decide, by decide⟩ ?_
  subst hF
  rw [← Option.some.inj h]
  exact ⟨rfl, rfl⟩
noncomputable def D_X8_forGuests (P : Nat) (M : zMt) (v0 : Int32) : Option (Int32) :=
  zI ((62 : Int32) + v0) 82 <|
  zI (69 : Int32) 82 <|
  some ((((M (P + 1) ((62 : Int32) + v0).toNatClampNeg) * (M (P + 1) (69 : Int32).toNatClampNeg)) / (100 : Int32)))
set_option maxRecDepth 100000 in
set_option maxHeartbeats 4000000 in
theorem t_X8_forGuests {l : Launch} {G : zG} {b : Nat} {L : List zC} {M : zMt} {N : zNt} {P : Nat} (hP : LX8 L P) {v0 : Int32} {r : Int32} (h : D_X8_forGuests P M v0 = some r) : zM l G b yX8_forGuests cX8_forGuests 2 (some .int) 0 0 0 [.ref P, .int v0] (L, M, N) (fun r2 z => r2 = some (.int r) ∧ z = (L, M, N)) := by
  refine zM.of miX8_forGuests (Nat.le_of_ble_eq_true rfl) ?_
  intro p e s m args below meth c X hr hname
  generalize hF : ((fun r2 z => r2 = some (.int r) ∧ z = (L, M, N)) : Option Value → zS → Prop) = FQ
  change Zw p l e { frames := 0, cells := 0, slots := 0, locals := 80 * (0) } s m args below meth c G b 2 (MQ below (zQ G b FQ) args s 0 0 (fun q : Nat => b ≤ q)) 0 0 0 [some (.ref P), some (.int v0)] [] (L, M, N)
  obtain ⟨p_lt, p_o, p_s, p_read, p_aside, p_kept, p_guest, p_readGuest, p_tape, p_unitName, p_hunterName, p_partyName, p_bits, p_partyOf, p_choiceAt, p_sizes, p_guestMany, p_pointsOf, p_ticketsOf, p_ord, p_given, p_roundOf, p_tags, p_guestTags, p_places, p_sumAt, p_sumFirst, p_sumRound, p_sumBoth, p_sumTags, p_isEnd, p_newPoints, p_inRow, p_out⟩ := id hP
  unfold D_X8_forGuests at h
  refine a_aload_n X dX8_forGuests_0 rfl ?_
  refine a_getr X lf8_7 (by assumption) rfl (by omega) dX8_forGuests_1 ?_
  refine a_bipush (v := 62) X dX8_forGuests_4 (by decide) ?_
  refine a_iload_n X dX8_forGuests_6 rfl ?_
  refine a_iadd X dX8_forGuests_7 ?_
  obtain ⟨g_8, h⟩ := zIx h
  refine a_iaload X (by assumption) g_8 dX8_forGuests_8 ?_
  refine a_aload_n X dX8_forGuests_9 rfl ?_
  refine a_getr X lf8_7 (by assumption) rfl (by omega) dX8_forGuests_10 ?_
  refine a_bipush (v := 69) X dX8_forGuests_13 (by decide) ?_
  obtain ⟨g_15, h⟩ := zIx h
  refine a_iaload X (by assumption) g_15 dX8_forGuests_15 ?_
  refine a_imul X dX8_forGuests_16 ?_
  refine a_bipush (v := 100) X dX8_forGuests_17 (by decide) ?_
  refine a_idiv X dX8_forGuests_19 (by decide) ?_
  refine a_iret X hr dX8_forGuests_20 ⟨by decide, by decide⟩ ?_
  subst hF
  rw [← Option.some.inj h]
  exact ⟨rfl, rfl⟩
noncomputable def D_X8_unit_162 (P : Nat) (k85 : Int32 → Int32 → Int32 → Int32 → zMt → Option (Int32 × zMt)) (x1_162 : Int32) (x2_162 : Int32) (x4_162 : Int32) (y0_162 : Int32) (y1_162 : Int32) (M_162 : zMt) : Option (Int32 × zMt) :=
  k85 x1_162 x2_162 (y0_162 + y1_162) (x4_162 + 1) M_162
noncomputable def D_X8_unit_134 (P : Nat) (k85 : Int32 → Int32 → Int32 → Int32 → zMt → Option (Int32 × zMt)) (x1_134 : Int32) (x2_134 : Int32) (x3_134 : Int32) (x4_134 : Int32) (y0_134 : Int32) (M_134 : zMt) : Option (Int32 × zMt) :=
  if y0_134 = 0 then
    D_X8_unit_162 P k85 x1_134 x2_134 x4_134 x3_134 (0 : Int32) M_134
  else
    if x2_134 = (4 : Int32) then
      zI x4_134 10 <|
      D_X8_unit_162 P k85 x1_134 x2_134 x4_134 x3_134 (M_134 (P + 14) x4_134.toNatClampNeg) M_134
    else
      D_X8_unit_162 P k85 x1_134 x2_134 x4_134 x3_134 (1 : Int32) M_134
noncomputable def D_X8_unit_85 (P : Nat) : Nat → Int32 → Int32 → Int32 → Int32 → zMt → Option (Int32 × zMt)
  | 0, _, _, _, _, _ => none
  | n + 1, x1_85, x2_85, x3_85, x4_85, M_85 =>
    if (M_85 P 33) ≤ x4_85 then
      zB (D_X8_gives P x3_85 M_85) fun e_172 =>
      some (e_172.1, e_172.2)
    else
      if x2_85 = (5 : Int32) then
        zB (D_X8_placeOf P M_85 x4_85 x1_85) fun e_103 =>
        if e_103 = (-1 : Int32) then
          D_X8_unit_134 P (D_X8_unit_85 P n) x1_85 x2_85 x3_85 x4_85 (0 : Int32) M_85
        else
          D_X8_unit_134 P (D_X8_unit_85 P n) x1_85 x2_85 x3_85 x4_85 (1 : Int32) M_85
      else
        zB (D_X8_choiceOf P M_85 x4_85 (0 : Int32)) fun e_122 =>
        if e_122 = x1_85 then
          D_X8_unit_134 P (D_X8_unit_85 P n) x1_85 x2_85 x3_85 x4_85 (1 : Int32) M_85
        else
          D_X8_unit_134 P (D_X8_unit_85 P n) x1_85 x2_85 x3_85 x4_85 (0 : Int32) M_85
noncomputable def D_X8_unit_72 (P : Nat) (y1_72 : Int32) (M_72 : zMt) : Option (Int32 × zMt) :=
  zB (D_X8_gives P y1_72 M_72) fun e_72 =>
  some (e_72.1, e_72.2)
noncomputable def D_X8_unit (P : Nat) (v0 : Int32) (v1 : Int32) (M : zMt) : Option (Int32 × zMt) :=
  zB (D_X8_isFrom (Int32.toInt64 v1) (0 : Int64) (5 : Int64)) fun e_6 =>
  if e_6 = 0 then
    zB (D_X8_refuse P (1 : Int32) M) fun e_14 =>
    some (e_14.1, e_14.2)
  else
    zB (D_X8_isUnit P M v0) fun e_20 =>
    if e_20 = 0 then
      zB (D_X8_refuse P (2 : Int32) M) fun e_28 =>
      some (e_28.1, e_28.2)
    else
      if (3 : Int32) ≤ v1 then
        zB (D_X8_laysApplicants P M) fun e_77 =>
        D_X8_unit_85 P zFu v0 v1 (0 : Int32) (0 : Int32) e_77
      else
        if v1 = 0 then
          zI ((62 : Int32) + v0) 82 <|
          D_X8_unit_72 P (M (P + 1) ((62 : Int32) + v0).toNatClampNeg) M
        else
          if v1 = (1 : Int32) then
            zB (D_X8_preferred P M v0) fun e_61 =>
            D_X8_unit_72 P e_61 M
          else
            zB (D_X8_forGuests P M v0) fun e_69 =>
            D_X8_unit_72 P e_69 M
set_option maxRecDepth 100000 in
set_option maxHeartbeats 4000000 in
theorem t_X8_unit {l : Launch} {G : zG} {b : Nat} {L : List zC} {M : zMt} {N : zNt} {P : Nat} (hP : LX8 L P) {v0 : Int32} {v1 : Int32} {r : Int32 × zMt} (h : D_X8_unit P v0 v1 M = some r) : zM l G b yX8_unit cX8_unit 6 (some .int) 3 0 0 [.ref P, .int v0, .int v1] (L, M, N) (fun r2 z => r2 = some (.int r.1) ∧ z = (L, r.2, N)) := by
  refine zM.of miX8_unit (Nat.le_of_ble_eq_true rfl) ?_
  intro p e s m args below meth c X hr hname
  generalize hF : ((fun r2 z => r2 = some (.int r.1) ∧ z = (L, r.2, N)) : Option Value → zS → Prop) = FQ
  change Zw p l e { frames := 3, cells := 0, slots := 0, locals := 80 * (3) } s m args below meth c G b 6 (MQ below (zQ G b FQ) args s 0 0 (fun q : Nat => b ≤ q)) 0 0 0 [some (.ref P), some (.int v0), some (.int v1), none, none, none] [] (L, M, N)
  obtain ⟨p_lt, p_o, p_s, p_read, p_aside, p_kept, p_guest, p_readGuest, p_tape, p_unitName, p_hunterName, p_partyName, p_bits, p_partyOf, p_choiceAt, p_sizes, p_guestMany, p_pointsOf, p_ticketsOf, p_ord, p_given, p_roundOf, p_tags, p_guestTags, p_places, p_sumAt, p_sumFirst, p_sumRound, p_sumBoth, p_sumTags, p_isEnd, p_newPoints, p_inRow, p_out⟩ := id hP
  have L_85 : ∀ u : Nat, ∀ (x1_85 : Int32) (x2_85 : Int32) (x3_85 : Int32) (x4_85 : Int32) (x5_85 : Option Value) (M_85 : zMt), D_X8_unit_85 P u x1_85 x2_85 x3_85 x4_85 M_85 = some r → Zw p l e { frames := 3, cells := 0, slots := 0, locals := 80 * (3) } s m args below meth c G b 6 (MQ below (zQ G b FQ) args s 0 0 (fun q : Nat => b ≤ q)) 0 0 85 [some (.ref (P)), some (.int x1_85), some (.int x2_85), some (.int x3_85), some (.int x4_85), x5_85] [] (L, M_85, N) := by
    intro u
    induction u with
    | zero => intro x1_85 x2_85 x3_85 x4_85 x5_85 M_85 h; cases (show none = some r from h)
    | succ u_85 ih_85 =>
      have J_162 : ∀ (x1_162 : Int32) (x2_162 : Int32) (x3_162 : Int32) (x4_162 : Int32) (x5_162 : Int32) (y0_162 : Int32) (y1_162 : Int32) (M_162 : zMt), D_X8_unit_162 P (D_X8_unit_85 P u_85) x1_162 x2_162 x4_162 y0_162 y1_162 M_162 = some r → Zw p l e { frames := 3, cells := 0, slots := 0, locals := 80 * (3) } s m args below meth c G b 6 (MQ below (zQ G b FQ) args s 0 0 (fun q : Nat => b ≤ q)) 0 0 162 [some (.ref (P)), some (.int x1_162), some (.int x2_162), some (.int x3_162), some (.int x4_162), some (.int x5_162)] [.int y1_162, .int y0_162] (L, M_162, N) := by
        intro x1_162 x2_162 x3_162 x4_162 x5_162 y0_162 y1_162 M_162 h
        unfold D_X8_unit_162 at h
        refine a_iadd X dX8_unit_162 ?_
        refine a_istore_n X dX8_unit_163 (by decide) ?_
        refine a_iinc (v := x4_162 + 1) X dX8_unit_164 (by decide) rfl zi_1 ?_
        refine a_goto (tgt := 85) X dX8_unit_167 (by decide) ?_
        exact Zw.to2 (ih_85 _ _ _ _ _ _ h) rfl rfl rfl
      have J_134 : ∀ (x1_134 : Int32) (x2_134 : Int32) (x3_134 : Int32) (x4_134 : Int32) (x5_134 : Option Value) (y0_134 : Int32) (M_134 : zMt), (y0_134 = 0 ∨ y0_134 = 1) → D_X8_unit_134 P (D_X8_unit_85 P u_85) x1_134 x2_134 x3_134 x4_134 y0_134 M_134 = some r → Zw p l e { frames := 3, cells := 0, slots := 0, locals := 80 * (3) } s m args below meth c G b 6 (MQ below (zQ G b FQ) args s 0 0 (fun q : Nat => b ≤ q)) 0 0 134 [some (.ref (P)), some (.int x1_134), some (.int x2_134), some (.int x3_134), some (.int x4_134), x5_134] [.int y0_134] (L, M_134, N) := by
        intro x1_134 x2_134 x3_134 x4_134 x5_134 y0_134 M_134 fb_y0_134 h
        unfold D_X8_unit_134 at h
        refine a_istore X dX8_unit_134 (by decide) ?_
        refine a_iload_n X dX8_unit_136 rfl ?_
        refine a_iload X dX8_unit_137 rfl ?_
        refine a_if_eq (tgt := 161) X dX8_unit_139 (by decide) (fun h_139 => ?_) (fun h_139 => ?_)
        · replace h := (if_pos h_139).symm.trans h
          refine a_iconst (v := 0) X dX8_unit_161 (by decide) ?_
          exact Zw.to2 (J_162 _ _ _ _ _ _ _ _ h) rfl rfl rfl
        · replace h := (if_neg h_139).symm.trans h
          refine a_iload_n X dX8_unit_142 rfl ?_
          refine a_iconst (v := 4) X dX8_unit_143 (by decide) ?_
          refine a_icmp_ne (tgt := 157) X dX8_unit_144 (by decide) (fun h_144 => ?_) (fun h_144 => ?_)
          · replace h := (if_neg h_144).symm.trans h
            refine a_iconst (v := 1) X dX8_unit_157 (by decide) ?_
            refine a_goto (tgt := 162) X dX8_unit_158 (by decide) ?_
            exact Zw.to2 (J_162 _ _ _ _ _ _ _ _ h) rfl rfl rfl
          · replace h := (if_pos h_144).symm.trans h
            refine a_aload_n X dX8_unit_147 rfl ?_
            refine a_getr X lf8_58 (by assumption) rfl (by omega) dX8_unit_148 ?_
            refine a_iload X dX8_unit_151 rfl ?_
            obtain ⟨g_153, h⟩ := zIx h
            refine a_iaload X (by assumption) g_153 dX8_unit_153 ?_
            refine a_goto (tgt := 162) X dX8_unit_154 (by decide) ?_
            exact Zw.to2 (J_162 _ _ _ _ _ _ _ _ h) rfl rfl rfl
      intro x1_85 x2_85 x3_85 x4_85 x5_85 M_85 h
      rw [D_X8_unit_85] at h
      refine a_iload X dX8_unit_85 rfl ?_
      refine a_aload_n X dX8_unit_87 rfl ?_
      refine a_geti X lf8_275 (by assumption) rfl dX8_unit_88 ?_
      refine a_icmp_ge (tgt := 170) X dX8_unit_91 (by decide) (fun h_91 => ?_) (fun h_91 => ?_)
      · replace h := (if_pos h_91).symm.trans h
        refine a_aload_n X dX8_unit_170 rfl ?_
        refine a_iload_n X dX8_unit_171 rfl ?_
        obtain ⟨e_172, f_172, h⟩ := zBx h
        refine a_callVv X dX8_unit_172 miX8_gives lm8_272 (t_X8_gives (by assumption) f_172) (by assumption) rfl rfl rfl (Nat.le_of_ble_eq_true rfl) ⟨by decide, by decide, by decide, by decide⟩ ?_
        refine a_iret X hr dX8_unit_175 ⟨by decide, by decide⟩ ?_
        subst hF
        rw [← Option.some.inj h]
        exact ⟨rfl, rfl⟩
      · replace h := (if_neg h_91).symm.trans h
        refine a_iload_n X dX8_unit_94 rfl ?_
        refine a_iconst (v := 5) X dX8_unit_95 (by decide) ?_
        refine a_icmp_ne (tgt := 118) X dX8_unit_96 (by decide) (fun h_96 => ?_) (fun h_96 => ?_)
        · replace h := (if_neg h_96).symm.trans h
          refine a_aload_n X dX8_unit_118 rfl ?_
          refine a_iload X dX8_unit_119 rfl ?_
          refine a_iconst (v := 0) X dX8_unit_121 (by decide) ?_
          obtain ⟨e_122, f_122, h⟩ := zBx h
          refine a_callVv X dX8_unit_122 miX8_choiceOf lm8_284 (t_X8_choiceOf (by assumption) f_122) (by assumption) rfl rfl rfl (Nat.le_of_ble_eq_true rfl) ⟨by decide, by decide, by decide, by decide⟩ ?_
          refine a_iload_n X dX8_unit_125 rfl ?_
          refine a_icmp_ne (tgt := 133) X dX8_unit_126 (by decide) (fun h_126 => ?_) (fun h_126 => ?_)
          · replace h := (if_neg h_126).symm.trans h
            refine a_iconst (v := 0) X dX8_unit_133 (by decide) ?_
            exact Zw.to2 (J_134 _ _ _ _ _ _ _ (by first | exact Or.inl rfl | exact Or.inr rfl | assumption) h) rfl rfl rfl
          · replace h := (if_pos h_126).symm.trans h
            refine a_iconst (v := 1) X dX8_unit_129 (by decide) ?_
            refine a_goto (tgt := 134) X dX8_unit_130 (by decide) ?_
            exact Zw.to2 (J_134 _ _ _ _ _ _ _ (by first | exact Or.inl rfl | exact Or.inr rfl | assumption) h) rfl rfl rfl
        · replace h := (if_pos h_96).symm.trans h
          refine a_aload_n X dX8_unit_99 rfl ?_
          refine a_iload X dX8_unit_100 rfl ?_
          refine a_iload_n X dX8_unit_102 rfl ?_
          obtain ⟨e_103, f_103, h⟩ := zBx h
          refine a_callVv X dX8_unit_103 miX8_placeOf lm8_310 (t_X8_placeOf (by assumption) f_103) (by assumption) rfl rfl rfl (Nat.le_of_ble_eq_true rfl) ⟨by decide, by decide, by decide, by decide⟩ ?_
          refine a_iconst (v := -1) X dX8_unit_106 (by decide) ?_
          refine a_icmp_eq (tgt := 114) X dX8_unit_107 (by decide) (fun h_107 => ?_) (fun h_107 => ?_)
          · replace h := (if_pos h_107).symm.trans h
            refine a_iconst (v := 0) X dX8_unit_114 (by decide) ?_
            refine a_goto (tgt := 134) X dX8_unit_115 (by decide) ?_
            exact Zw.to2 (J_134 _ _ _ _ _ _ _ (by first | exact Or.inl rfl | exact Or.inr rfl | assumption) h) rfl rfl rfl
          · replace h := (if_neg h_107).symm.trans h
            refine a_iconst (v := 1) X dX8_unit_110 (by decide) ?_
            refine a_goto (tgt := 134) X dX8_unit_111 (by decide) ?_
            exact Zw.to2 (J_134 _ _ _ _ _ _ _ (by first | exact Or.inl rfl | exact Or.inr rfl | assumption) h) rfl rfl rfl
  have H_85 : ∀ (x1_85 : Int32) (x2_85 : Int32) (x3_85 : Int32) (x4_85 : Int32) (x5_85 : Option Value) (M_85 : zMt), D_X8_unit_85 P zFu x1_85 x2_85 x3_85 x4_85 M_85 = some r → Zw p l e { frames := 3, cells := 0, slots := 0, locals := 80 * (3) } s m args below meth c G b 6 (MQ below (zQ G b FQ) args s 0 0 (fun q : Nat => b ≤ q)) 0 0 85 [some (.ref (P)), some (.int x1_85), some (.int x2_85), some (.int x3_85), some (.int x4_85), x5_85] [] (L, M_85, N) := L_85 zFu
  have J_72 : ∀ (x1_72 : Int32) (x2_72 : Int32) (x3_72 : Option Value) (x4_72 : Option Value) (x5_72 : Option Value) (y1_72 : Int32) (M_72 : zMt), D_X8_unit_72 P y1_72 M_72 = some r → Zw p l e { frames := 3, cells := 0, slots := 0, locals := 80 * (3) } s m args below meth c G b 6 (MQ below (zQ G b FQ) args s 0 0 (fun q : Nat => b ≤ q)) 0 0 72 [some (.ref (P)), some (.int x1_72), some (.int x2_72), x3_72, x4_72, x5_72] [.int y1_72, .ref (P)] (L, M_72, N) := by
    intro x1_72 x2_72 x3_72 x4_72 x5_72 y1_72 M_72 h
    unfold D_X8_unit_72 at h
    obtain ⟨e_72, f_72, h⟩ := zBx h
    refine a_callVv X dX8_unit_72 miX8_gives lm8_272 (t_X8_gives (by assumption) f_72) (by assumption) rfl rfl rfl (Nat.le_of_ble_eq_true rfl) ⟨by decide, by decide, by decide, by decide⟩ ?_
    refine a_iret X hr dX8_unit_75 ⟨by decide, by decide⟩ ?_
    subst hF
    rw [← Option.some.inj h]
    exact ⟨rfl, rfl⟩
  unfold D_X8_unit at h
  refine a_iload_n X dX8_unit_0 rfl ?_
  refine a_i2l X dX8_unit_1 ?_
  refine a_lconst (v := 0) X dX8_unit_2 (by decide) ?_
  refine a_ldc2 X dX8_unit_3 lk8_299 ?_
  obtain ⟨e_6, f_6, h⟩ := zBx h
  refine a_callSx X dX8_unit_6 miX8_isFrom lm8_128 (t_X8_isFrom f_6) rfl rfl (Nat.le_of_ble_eq_true rfl) ⟨by decide, by decide, by decide, by decide⟩ (fun r_6 S_6 q_6 => ?_)
  obtain ⟨rfl, rfl, b_6⟩ := q_6
  refine a_if_ne (tgt := 18) X dX8_unit_9 (by decide) (fun h_9 => ?_) (fun h_9 => ?_)
  · replace h := (if_neg h_9).symm.trans h
    refine a_aload_n X dX8_unit_18 rfl ?_
    refine a_iload_n X dX8_unit_19 rfl ?_
    obtain ⟨e_20, f_20, h⟩ := zBx h
    refine a_callVx X dX8_unit_20 miX8_isUnit lm8_301 (t_X8_isUnit (by assumption) f_20) (by assumption) rfl rfl rfl (Nat.le_of_ble_eq_true rfl) ⟨by decide, by decide, by decide, by decide⟩ (fun r_20 S_20 q_20 => ?_)
    obtain ⟨rfl, rfl, b_20⟩ := q_20
    refine a_if_ne (tgt := 32) X dX8_unit_23 (by decide) (fun h_23 => ?_) (fun h_23 => ?_)
    · replace h := (if_neg h_23).symm.trans h
      refine a_iload_n X dX8_unit_32 rfl ?_
      refine a_iconst (v := 3) X dX8_unit_33 (by decide) ?_
      refine a_icmp_ge (tgt := 76) X dX8_unit_34 (by decide) (fun h_34 => ?_) (fun h_34 => ?_)
      · replace h := (if_pos h_34).symm.trans h
        refine a_aload_n X dX8_unit_76 rfl ?_
        obtain ⟨e_77, f_77, h⟩ := zBx h
        refine a_callVu X dX8_unit_77 miX8_laysApplicants lm8_281 (t_X8_laysApplicants (by assumption) f_77) (by assumption) rfl rfl rfl (Nat.le_of_ble_eq_true rfl) ⟨by decide, by decide, by decide, by decide⟩ ?_
        refine a_iconst (v := 0) X dX8_unit_80 (by decide) ?_
        refine a_istore_n X dX8_unit_81 (by decide) ?_
        refine a_iconst (v := 0) X dX8_unit_82 (by decide) ?_
        refine a_istore X dX8_unit_83 (by decide) ?_
        exact Zw.to2 (H_85 _ _ _ _ _ _ h) rfl rfl rfl
      · replace h := (if_neg h_34).symm.trans h
        refine a_aload_n X dX8_unit_37 rfl ?_
        refine a_iload_n X dX8_unit_38 rfl ?_
        refine a_if_ne (tgt := 54) X dX8_unit_39 (by decide) (fun h_39 => ?_) (fun h_39 => ?_)
        · replace h := (if_neg h_39).symm.trans h
          refine a_iload_n X dX8_unit_54 rfl ?_
          refine a_iconst (v := 1) X dX8_unit_55 (by decide) ?_
          refine a_icmp_ne (tgt := 67) X dX8_unit_56 (by decide) (fun h_56 => ?_) (fun h_56 => ?_)
          · replace h := (if_neg h_56).symm.trans h
            refine a_aload_n X dX8_unit_67 rfl ?_
            refine a_iload_n X dX8_unit_68 rfl ?_
            obtain ⟨e_69, f_69, h⟩ := zBx h
            refine a_callVv X dX8_unit_69 miX8_forGuests lm8_307 (t_X8_forGuests (by assumption) f_69) (by assumption) rfl rfl rfl (Nat.le_of_ble_eq_true rfl) ⟨by decide, by decide, by decide, by decide⟩ ?_
            exact Zw.to2 (J_72 _ _ _ _ _ _ _ h) rfl rfl rfl
          · replace h := (if_pos h_56).symm.trans h
            refine a_aload_n X dX8_unit_59 rfl ?_
            refine a_iload_n X dX8_unit_60 rfl ?_
            obtain ⟨e_61, f_61, h⟩ := zBx h
            refine a_callVv X dX8_unit_61 miX8_preferred lm8_304 (t_X8_preferred (by assumption) f_61) (by assumption) rfl rfl rfl (Nat.le_of_ble_eq_true rfl) ⟨by decide, by decide, by decide, by decide⟩ ?_
            refine a_goto (tgt := 72) X dX8_unit_64 (by decide) ?_
            exact Zw.to2 (J_72 _ _ _ _ _ _ _ h) rfl rfl rfl
        · replace h := (if_pos h_39).symm.trans h
          refine a_aload_n X dX8_unit_42 rfl ?_
          refine a_getr X lf8_7 (by assumption) rfl (by omega) dX8_unit_43 ?_
          refine a_bipush (v := 62) X dX8_unit_46 (by decide) ?_
          refine a_iload_n X dX8_unit_48 rfl ?_
          refine a_iadd X dX8_unit_49 ?_
          obtain ⟨g_50, h⟩ := zIx h
          refine a_iaload X (by assumption) g_50 dX8_unit_50 ?_
          refine a_goto (tgt := 72) X dX8_unit_51 (by decide) ?_
          exact Zw.to2 (J_72 _ _ _ _ _ _ _ h) rfl rfl rfl
    · replace h := (if_pos h_23).symm.trans h
      refine a_aload_n X dX8_unit_26 rfl ?_
      refine a_iconst (v := 2) X dX8_unit_27 (by decide) ?_
      obtain ⟨e_28, f_28, h⟩ := zBx h
      refine a_callVv X dX8_unit_28 miX8_refuse lm8_263 (t_X8_refuse (by assumption) f_28) (by assumption) rfl rfl rfl (Nat.le_of_ble_eq_true rfl) ⟨by decide, by decide, by decide, by decide⟩ ?_
      refine a_iret X hr dX8_unit_31 ⟨by decide, by decide⟩ ?_
      subst hF
      rw [← Option.some.inj h]
      exact ⟨rfl, rfl⟩
  · replace h := (if_pos h_9).symm.trans h
    refine a_aload_n X dX8_unit_12 rfl ?_
    refine a_iconst (v := 1) X dX8_unit_13 (by decide) ?_
    obtain ⟨e_14, f_14, h⟩ := zBx h
    refine a_callVv X dX8_unit_14 miX8_refuse lm8_263 (t_X8_refuse (by assumption) f_14) (by assumption) rfl rfl rfl (Nat.le_of_ble_eq_true rfl) ⟨by decide, by decide, by decide, by decide⟩ ?_
    refine a_iret X hr dX8_unit_17 ⟨by decide, by decide⟩ ?_
    subst hF
    rw [← Option.some.inj h]
    exact ⟨rfl, rfl⟩
noncomputable def D_X8_applicant (P : Nat) (v0 : Int32) (v1 : Int32) (M : zMt) : Option (Int32 × zMt) :=
  zB (D_X8_isFrom (Int32.toInt64 v1) (0 : Int64) (6 : Int64)) fun e_6 =>
  if e_6 = 0 then
    zB (D_X8_refuse P (1 : Int32) M) fun e_14 =>
    some (e_14.1, e_14.2)
  else
    zB (D_X8_isApplicant P v0 M) fun e_20 =>
    if e_20.1 = 0 then
      zB (D_X8_refuse P (2 : Int32) e_20.2) fun e_28 =>
      some (e_28.1, e_28.2)
    else
      if Int32.toInt v1 = 0 then
        zI v0 10 <|
        zB (D_X8_gives P (e_20.2 (P + 14) v0.toNatClampNeg) e_20.2) fun e_79 =>
        some (e_79.1, e_79.2)
      else
      if Int32.toInt v1 = 1 then
        zI v0 10 <|
        zB (D_X8_gives P (e_20.2 (P + 15) v0.toNatClampNeg) e_20.2) fun e_90 =>
        some (e_90.1, e_90.2)
      else
      if Int32.toInt v1 = 2 then
        zI v0 10 <|
        zB (D_X8_gives P (e_20.2 (P + 16) v0.toNatClampNeg) e_20.2) fun e_101 =>
        some (e_101.1, e_101.2)
      else
      if Int32.toInt v1 = 3 then
        zI v0 10 <|
        zB (D_X8_gives P (e_20.2 (P + 17) v0.toNatClampNeg) e_20.2) fun e_112 =>
        some (e_112.1, e_112.2)
      else
      if Int32.toInt v1 = 4 then
        zB (D_X8_choiceMany P e_20.2 v0) fun e_119 =>
        zB (D_X8_gives P e_119 e_20.2) fun e_122 =>
        some (e_122.1, e_122.2)
      else
      if Int32.toInt v1 = 5 then
        zI v0 10 <|
        zB (D_X8_gives P (e_20.2 (P + 11) v0.toNatClampNeg) e_20.2) fun e_133 =>
        some (e_133.1, e_133.2)
      else
        zI v0 10 <|
        zB (D_X8_gives P (e_20.2 (P + 12) v0.toNatClampNeg) e_20.2) fun e_144 =>
        some (e_144.1, e_144.2)
set_option maxRecDepth 100000 in
set_option maxHeartbeats 4000000 in
theorem t_X8_applicant {l : Launch} {G : zG} {b : Nat} {L : List zC} {M : zMt} {N : zNt} {P : Nat} (hP : LX8 L P) {v0 : Int32} {v1 : Int32} {r : Int32 × zMt} (h : D_X8_applicant P v0 v1 M = some r) : zM l G b yX8_applicant cX8_applicant 3 (some .int) 4 0 0 [.ref P, .int v0, .int v1] (L, M, N) (fun r2 z => r2 = some (.int r.1) ∧ z = (L, r.2, N)) := by
  refine zM.of miX8_applicant (Nat.le_of_ble_eq_true rfl) ?_
  intro p e s m args below meth c X hr hname
  generalize hF : ((fun r2 z => r2 = some (.int r.1) ∧ z = (L, r.2, N)) : Option Value → zS → Prop) = FQ
  change Zw p l e { frames := 4, cells := 0, slots := 0, locals := 80 * (4) } s m args below meth c G b 3 (MQ below (zQ G b FQ) args s 0 0 (fun q : Nat => b ≤ q)) 0 0 0 [some (.ref P), some (.int v0), some (.int v1)] [] (L, M, N)
  obtain ⟨p_lt, p_o, p_s, p_read, p_aside, p_kept, p_guest, p_readGuest, p_tape, p_unitName, p_hunterName, p_partyName, p_bits, p_partyOf, p_choiceAt, p_sizes, p_guestMany, p_pointsOf, p_ticketsOf, p_ord, p_given, p_roundOf, p_tags, p_guestTags, p_places, p_sumAt, p_sumFirst, p_sumRound, p_sumBoth, p_sumTags, p_isEnd, p_newPoints, p_inRow, p_out⟩ := id hP
  unfold D_X8_applicant at h
  refine a_iload_n X dX8_applicant_0 rfl ?_
  refine a_i2l X dX8_applicant_1 ?_
  refine a_lconst (v := 0) X dX8_applicant_2 (by decide) ?_
  refine a_ldc2 X dX8_applicant_3 lk8_313 ?_
  obtain ⟨e_6, f_6, h⟩ := zBx h
  refine a_callSx X dX8_applicant_6 miX8_isFrom lm8_128 (t_X8_isFrom f_6) rfl rfl (Nat.le_of_ble_eq_true rfl) ⟨by decide, by decide, by decide, by decide⟩ (fun r_6 S_6 q_6 => ?_)
  obtain ⟨rfl, rfl, b_6⟩ := q_6
  refine a_if_ne (tgt := 18) X dX8_applicant_9 (by decide) (fun h_9 => ?_) (fun h_9 => ?_)
  · replace h := (if_neg h_9).symm.trans h
    refine a_aload_n X dX8_applicant_18 rfl ?_
    refine a_iload_n X dX8_applicant_19 rfl ?_
    obtain ⟨e_20, f_20, h⟩ := zBx h
    refine a_callVx X dX8_applicant_20 miX8_isApplicant lm8_315 (t_X8_isApplicant (by assumption) f_20) (by assumption) rfl rfl rfl (Nat.le_of_ble_eq_true rfl) ⟨by decide, by decide, by decide, by decide⟩ (fun r_20 S_20 q_20 => ?_)
    obtain ⟨rfl, rfl, b_20⟩ := q_20
    refine a_if_ne (tgt := 32) X dX8_applicant_23 (by decide) (fun h_23 => ?_) (fun h_23 => ?_)
    · replace h := (if_neg h_23).symm.trans h
      refine a_iload_n X dX8_applicant_32 rfl ?_
      refine a_tsw (tg := [72, 83, 94, 105, 116, 126]) (td := 137) X dX8_applicant_33 (by decide +kernel) (by decide) (by decide) (fun k_33 t_33 ht_33 hx_33 => ?_) (fun hx_33 => ?_)
      · match k_33, ht_33, hx_33 with
        | 0, ht_33, hx_33 =>
          cases ht_33
          replace h := (if_pos (by omega)).symm.trans h
          refine a_aload_n X dX8_applicant_72 rfl ?_
          refine a_aload_n X dX8_applicant_73 rfl ?_
          refine a_getr X lf8_58 (by assumption) rfl (by omega) dX8_applicant_74 ?_
          refine a_iload_n X dX8_applicant_77 rfl ?_
          obtain ⟨g_78, h⟩ := zIx h
          refine a_iaload X (by assumption) g_78 dX8_applicant_78 ?_
          obtain ⟨e_79, f_79, h⟩ := zBx h
          refine a_callVv X dX8_applicant_79 miX8_gives lm8_272 (t_X8_gives (by assumption) f_79) (by assumption) rfl rfl rfl (Nat.le_of_ble_eq_true rfl) ⟨by decide, by decide, by decide, by decide⟩ ?_
          refine a_iret X hr dX8_applicant_82 ⟨by decide, by decide⟩ ?_
          subst hF
          rw [← Option.some.inj h]
          exact ⟨rfl, rfl⟩
        | 1, ht_33, hx_33 =>
          cases ht_33
          replace h := (if_neg (by omega)).symm.trans h
          replace h := (if_pos (by omega)).symm.trans h
          refine a_aload_n X dX8_applicant_83 rfl ?_
          refine a_aload_n X dX8_applicant_84 rfl ?_
          refine a_getr X lf8_61 (by assumption) rfl (by omega) dX8_applicant_85 ?_
          refine a_iload_n X dX8_applicant_88 rfl ?_
          obtain ⟨g_89, h⟩ := zIx h
          refine a_iaload X (by assumption) g_89 dX8_applicant_89 ?_
          obtain ⟨e_90, f_90, h⟩ := zBx h
          refine a_callVv X dX8_applicant_90 miX8_gives lm8_272 (t_X8_gives (by assumption) f_90) (by assumption) rfl rfl rfl (Nat.le_of_ble_eq_true rfl) ⟨by decide, by decide, by decide, by decide⟩ ?_
          refine a_iret X hr dX8_applicant_93 ⟨by decide, by decide⟩ ?_
          subst hF
          rw [← Option.some.inj h]
          exact ⟨rfl, rfl⟩
        | 2, ht_33, hx_33 =>
          cases ht_33
          replace h := (if_neg (by omega)).symm.trans h
          replace h := (if_neg (by omega)).symm.trans h
          replace h := (if_pos (by omega)).symm.trans h
          refine a_aload_n X dX8_applicant_94 rfl ?_
          refine a_aload_n X dX8_applicant_95 rfl ?_
          refine a_getr X lf8_64 (by assumption) rfl (by omega) dX8_applicant_96 ?_
          refine a_iload_n X dX8_applicant_99 rfl ?_
          obtain ⟨g_100, h⟩ := zIx h
          refine a_iaload X (by assumption) g_100 dX8_applicant_100 ?_
          obtain ⟨e_101, f_101, h⟩ := zBx h
          refine a_callVv X dX8_applicant_101 miX8_gives lm8_272 (t_X8_gives (by assumption) f_101) (by assumption) rfl rfl rfl (Nat.le_of_ble_eq_true rfl) ⟨by decide, by decide, by decide, by decide⟩ ?_
          refine a_iret X hr dX8_applicant_104 ⟨by decide, by decide⟩ ?_
          subst hF
          rw [← Option.some.inj h]
          exact ⟨rfl, rfl⟩
        | 3, ht_33, hx_33 =>
          cases ht_33
          replace h := (if_neg (by omega)).symm.trans h
          replace h := (if_neg (by omega)).symm.trans h
          replace h := (if_neg (by omega)).symm.trans h
          replace h := (if_pos (by omega)).symm.trans h
          refine a_aload_n X dX8_applicant_105 rfl ?_
          refine a_aload_n X dX8_applicant_106 rfl ?_
          refine a_getr X lf8_67 (by assumption) rfl (by omega) dX8_applicant_107 ?_
          refine a_iload_n X dX8_applicant_110 rfl ?_
          obtain ⟨g_111, h⟩ := zIx h
          refine a_iaload X (by assumption) g_111 dX8_applicant_111 ?_
          obtain ⟨e_112, f_112, h⟩ := zBx h
          refine a_callVv X dX8_applicant_112 miX8_gives lm8_272 (t_X8_gives (by assumption) f_112) (by assumption) rfl rfl rfl (Nat.le_of_ble_eq_true rfl) ⟨by decide, by decide, by decide, by decide⟩ ?_
          refine a_iret X hr dX8_applicant_115 ⟨by decide, by decide⟩ ?_
          subst hF
          rw [← Option.some.inj h]
          exact ⟨rfl, rfl⟩
        | 4, ht_33, hx_33 =>
          cases ht_33
          replace h := (if_neg (by omega)).symm.trans h
          replace h := (if_neg (by omega)).symm.trans h
          replace h := (if_neg (by omega)).symm.trans h
          replace h := (if_neg (by omega)).symm.trans h
          replace h := (if_pos (by omega)).symm.trans h
          refine a_aload_n X dX8_applicant_116 rfl ?_
          refine a_aload_n X dX8_applicant_117 rfl ?_
          refine a_iload_n X dX8_applicant_118 rfl ?_
          obtain ⟨e_119, f_119, h⟩ := zBx h
          refine a_callVv X dX8_applicant_119 miX8_choiceMany lm8_288 (t_X8_choiceMany (by assumption) f_119) (by assumption) rfl rfl rfl (Nat.le_of_ble_eq_true rfl) ⟨by decide, by decide, by decide, by decide⟩ ?_
          obtain ⟨e_122, f_122, h⟩ := zBx h
          refine a_callVv X dX8_applicant_122 miX8_gives lm8_272 (t_X8_gives (by assumption) f_122) (by assumption) rfl rfl rfl (Nat.le_of_ble_eq_true rfl) ⟨by decide, by decide, by decide, by decide⟩ ?_
          refine a_iret X hr dX8_applicant_125 ⟨by decide, by decide⟩ ?_
          subst hF
          rw [← Option.some.inj h]
          exact ⟨rfl, rfl⟩
        | 5, ht_33, hx_33 =>
          cases ht_33
          replace h := (if_neg (by omega)).symm.trans h
          replace h := (if_neg (by omega)).symm.trans h
          replace h := (if_neg (by omega)).symm.trans h
          replace h := (if_neg (by omega)).symm.trans h
          replace h := (if_neg (by omega)).symm.trans h
          replace h := (if_pos (by omega)).symm.trans h
          refine a_aload_n X dX8_applicant_126 rfl ?_
          refine a_aload_n X dX8_applicant_127 rfl ?_
          refine a_getr X lf8_49 (by assumption) rfl (by omega) dX8_applicant_128 ?_
          refine a_iload_n X dX8_applicant_131 rfl ?_
          obtain ⟨g_132, h⟩ := zIx h
          refine a_iaload X (by assumption) g_132 dX8_applicant_132 ?_
          obtain ⟨e_133, f_133, h⟩ := zBx h
          refine a_callVv X dX8_applicant_133 miX8_gives lm8_272 (t_X8_gives (by assumption) f_133) (by assumption) rfl rfl rfl (Nat.le_of_ble_eq_true rfl) ⟨by decide, by decide, by decide, by decide⟩ ?_
          refine a_iret X hr dX8_applicant_136 ⟨by decide, by decide⟩ ?_
          subst hF
          rw [← Option.some.inj h]
          exact ⟨rfl, rfl⟩
      · skip
        replace h := (if_neg (by omega)).symm.trans h
        replace h := (if_neg (by omega)).symm.trans h
        replace h := (if_neg (by omega)).symm.trans h
        replace h := (if_neg (by omega)).symm.trans h
        replace h := (if_neg (by omega)).symm.trans h
        replace h := (if_neg (by omega)).symm.trans h
        refine a_aload_n X dX8_applicant_137 rfl ?_
        refine a_aload_n X dX8_applicant_138 rfl ?_
        refine a_getr X lf8_52 (by assumption) rfl (by omega) dX8_applicant_139 ?_
        refine a_iload_n X dX8_applicant_142 rfl ?_
        obtain ⟨g_143, h⟩ := zIx h
        refine a_iaload X (by assumption) g_143 dX8_applicant_143 ?_
        obtain ⟨e_144, f_144, h⟩ := zBx h
        refine a_callVv X dX8_applicant_144 miX8_gives lm8_272 (t_X8_gives (by assumption) f_144) (by assumption) rfl rfl rfl (Nat.le_of_ble_eq_true rfl) ⟨by decide, by decide, by decide, by decide⟩ ?_
        refine a_iret X hr dX8_applicant_147 ⟨by decide, by decide⟩ ?_
        subst hF
        rw [← Option.some.inj h]
        exact ⟨rfl, rfl⟩
    · replace h := (if_pos h_23).symm.trans h
      refine a_aload_n X dX8_applicant_26 rfl ?_
      refine a_iconst (v := 2) X dX8_applicant_27 (by decide) ?_
      obtain ⟨e_28, f_28, h⟩ := zBx h
      refine a_callVv X dX8_applicant_28 miX8_refuse lm8_263 (t_X8_refuse (by assumption) f_28) (by assumption) rfl rfl rfl (Nat.le_of_ble_eq_true rfl) ⟨by decide, by decide, by decide, by decide⟩ ?_
      refine a_iret X hr dX8_applicant_31 ⟨by decide, by decide⟩ ?_
      subst hF
      rw [← Option.some.inj h]
      exact ⟨rfl, rfl⟩
  · replace h := (if_pos h_9).symm.trans h
    refine a_aload_n X dX8_applicant_12 rfl ?_
    refine a_iconst (v := 1) X dX8_applicant_13 (by decide) ?_
    obtain ⟨e_14, f_14, h⟩ := zBx h
    refine a_callVv X dX8_applicant_14 miX8_refuse lm8_263 (t_X8_refuse (by assumption) f_14) (by assumption) rfl rfl rfl (Nat.le_of_ble_eq_true rfl) ⟨by decide, by decide, by decide, by decide⟩ ?_
    refine a_iret X hr dX8_applicant_17 ⟨by decide, by decide⟩ ?_
    subst hF
    rw [← Option.some.inj h]
    exact ⟨rfl, rfl⟩
noncomputable def D_X8_choice_51 (P : Nat) (y0_51 : Int32) (M_51 : zMt) : Option (Int32 × zMt) :=
  some (y0_51, M_51)
noncomputable def D_X8_choice (P : Nat) (v0 : Int32) (v1 : Int32) (M : zMt) : Option (Int32 × zMt) :=
  if 0 ≤ v1 then
    zB (D_X8_isApplicant P v0 M) fun e_12 =>
    if e_12.1 = 0 then
      zB (D_X8_refuse P (2 : Int32) e_12.2) fun e_20 =>
      some (e_20.1, e_20.2)
    else
      zB (D_X8_choiceMany P e_12.2 v0) fun e_27 =>
      if e_27 ≤ v1 then
        zB (D_X8_refuse P (5 : Int32) e_12.2) fun e_48 =>
        D_X8_choice_51 P e_48.1 e_48.2
      else
        zB (D_X8_choiceOf P e_12.2 v0 v1) fun e_37 =>
        zB (D_X8_gives P e_37 e_12.2) fun e_40 =>
        D_X8_choice_51 P e_40.1 e_40.2
  else
    zB (D_X8_refuse P (1 : Int32) M) fun e_6 =>
    some (e_6.1, e_6.2)
set_option maxRecDepth 100000 in
set_option maxHeartbeats 4000000 in
theorem t_X8_choice {l : Launch} {G : zG} {b : Nat} {L : List zC} {M : zMt} {N : zNt} {P : Nat} (hP : LX8 L P) {v0 : Int32} {v1 : Int32} {r : Int32 × zMt} (h : D_X8_choice P v0 v1 M = some r) : zM l G b yX8_choice cX8_choice 3 (some .int) 4 0 0 [.ref P, .int v0, .int v1] (L, M, N) (fun r2 z => r2 = some (.int r.1) ∧ z = (L, r.2, N)) := by
  refine zM.of miX8_choice (Nat.le_of_ble_eq_true rfl) ?_
  intro p e s m args below meth c X hr hname
  generalize hF : ((fun r2 z => r2 = some (.int r.1) ∧ z = (L, r.2, N)) : Option Value → zS → Prop) = FQ
  change Zw p l e { frames := 4, cells := 0, slots := 0, locals := 80 * (4) } s m args below meth c G b 3 (MQ below (zQ G b FQ) args s 0 0 (fun q : Nat => b ≤ q)) 0 0 0 [some (.ref P), some (.int v0), some (.int v1)] [] (L, M, N)
  obtain ⟨p_lt, p_o, p_s, p_read, p_aside, p_kept, p_guest, p_readGuest, p_tape, p_unitName, p_hunterName, p_partyName, p_bits, p_partyOf, p_choiceAt, p_sizes, p_guestMany, p_pointsOf, p_ticketsOf, p_ord, p_given, p_roundOf, p_tags, p_guestTags, p_places, p_sumAt, p_sumFirst, p_sumRound, p_sumBoth, p_sumTags, p_isEnd, p_newPoints, p_inRow, p_out⟩ := id hP
  have J_51 : ∀ (x1_51 : Int32) (x2_51 : Int32) (y0_51 : Int32) (M_51 : zMt), D_X8_choice_51 P y0_51 M_51 = some r → Zw p l e { frames := 4, cells := 0, slots := 0, locals := 80 * (4) } s m args below meth c G b 3 (MQ below (zQ G b FQ) args s 0 0 (fun q : Nat => b ≤ q)) 0 0 51 [some (.ref (P)), some (.int x1_51), some (.int x2_51)] [.int y0_51] (L, M_51, N) := by
    intro x1_51 x2_51 y0_51 M_51 h
    unfold D_X8_choice_51 at h
    refine a_iret X hr dX8_choice_51 ⟨by decide, by decide⟩ ?_
    subst hF
    rw [← Option.some.inj h]
    exact ⟨rfl, rfl⟩
  unfold D_X8_choice at h
  refine a_iload_n X dX8_choice_0 rfl ?_
  refine a_if_ge (tgt := 10) X dX8_choice_1 (by decide) (fun h_1 => ?_) (fun h_1 => ?_)
  · replace h := (if_pos h_1).symm.trans h
    refine a_aload_n X dX8_choice_10 rfl ?_
    refine a_iload_n X dX8_choice_11 rfl ?_
    obtain ⟨e_12, f_12, h⟩ := zBx h
    refine a_callVx X dX8_choice_12 miX8_isApplicant lm8_315 (t_X8_isApplicant (by assumption) f_12) (by assumption) rfl rfl rfl (Nat.le_of_ble_eq_true rfl) ⟨by decide, by decide, by decide, by decide⟩ (fun r_12 S_12 q_12 => ?_)
    obtain ⟨rfl, rfl, b_12⟩ := q_12
    refine a_if_ne (tgt := 24) X dX8_choice_15 (by decide) (fun h_15 => ?_) (fun h_15 => ?_)
    · replace h := (if_neg h_15).symm.trans h
      refine a_iload_n X dX8_choice_24 rfl ?_
      refine a_aload_n X dX8_choice_25 rfl ?_
      refine a_iload_n X dX8_choice_26 rfl ?_
      obtain ⟨e_27, f_27, h⟩ := zBx h
      refine a_callVv X dX8_choice_27 miX8_choiceMany lm8_288 (t_X8_choiceMany (by assumption) f_27) (by assumption) rfl rfl rfl (Nat.le_of_ble_eq_true rfl) ⟨by decide, by decide, by decide, by decide⟩ ?_
      refine a_icmp_ge (tgt := 46) X dX8_choice_30 (by decide) (fun h_30 => ?_) (fun h_30 => ?_)
      · replace h := (if_pos h_30).symm.trans h
        refine a_aload_n X dX8_choice_46 rfl ?_
        refine a_iconst (v := 5) X dX8_choice_47 (by decide) ?_
        obtain ⟨e_48, f_48, h⟩ := zBx h
        refine a_callVv X dX8_choice_48 miX8_refuse lm8_263 (t_X8_refuse (by assumption) f_48) (by assumption) rfl rfl rfl (Nat.le_of_ble_eq_true rfl) ⟨by decide, by decide, by decide, by decide⟩ ?_
        exact Zw.to2 (J_51 _ _ _ _ h) rfl rfl rfl
      · replace h := (if_neg h_30).symm.trans h
        refine a_aload_n X dX8_choice_33 rfl ?_
        refine a_aload_n X dX8_choice_34 rfl ?_
        refine a_iload_n X dX8_choice_35 rfl ?_
        refine a_iload_n X dX8_choice_36 rfl ?_
        obtain ⟨e_37, f_37, h⟩ := zBx h
        refine a_callVv X dX8_choice_37 miX8_choiceOf lm8_284 (t_X8_choiceOf (by assumption) f_37) (by assumption) rfl rfl rfl (Nat.le_of_ble_eq_true rfl) ⟨by decide, by decide, by decide, by decide⟩ ?_
        obtain ⟨e_40, f_40, h⟩ := zBx h
        refine a_callVv X dX8_choice_40 miX8_gives lm8_272 (t_X8_gives (by assumption) f_40) (by assumption) rfl rfl rfl (Nat.le_of_ble_eq_true rfl) ⟨by decide, by decide, by decide, by decide⟩ ?_
        refine a_goto (tgt := 51) X dX8_choice_43 (by decide) ?_
        exact Zw.to2 (J_51 _ _ _ _ h) rfl rfl rfl
    · replace h := (if_pos h_15).symm.trans h
      refine a_aload_n X dX8_choice_18 rfl ?_
      refine a_iconst (v := 2) X dX8_choice_19 (by decide) ?_
      obtain ⟨e_20, f_20, h⟩ := zBx h
      refine a_callVv X dX8_choice_20 miX8_refuse lm8_263 (t_X8_refuse (by assumption) f_20) (by assumption) rfl rfl rfl (Nat.le_of_ble_eq_true rfl) ⟨by decide, by decide, by decide, by decide⟩ ?_
      refine a_iret X hr dX8_choice_23 ⟨by decide, by decide⟩ ?_
      subst hF
      rw [← Option.some.inj h]
      exact ⟨rfl, rfl⟩
  · replace h := (if_neg h_1).symm.trans h
    refine a_aload_n X dX8_choice_4 rfl ?_
    refine a_iconst (v := 1) X dX8_choice_5 (by decide) ?_
    obtain ⟨e_6, f_6, h⟩ := zBx h
    refine a_callVv X dX8_choice_6 miX8_refuse lm8_263 (t_X8_refuse (by assumption) f_6) (by assumption) rfl rfl rfl (Nat.le_of_ble_eq_true rfl) ⟨by decide, by decide, by decide, by decide⟩ ?_
    refine a_iret X hr dX8_choice_9 ⟨by decide, by decide⟩ ?_
    subst hF
    rw [← Option.some.inj h]
    exact ⟨rfl, rfl⟩
noncomputable def D_X8_term_23 (P : Nat) (y1_23 : Int32) (M_23 : zMt) : Option (Int32 × zMt) :=
  zB (D_X8_gives P y1_23 M_23) fun e_23 =>
  some (e_23.1, e_23.2)
noncomputable def D_X8_term (P : Nat) (v0 : Int32) (v1 : Int32) (v2 : Int32) (M : zMt) : Option (Int32 × zMt) :=
  zB (D_X8_common v0 v1) fun e_2 =>
  if v2 = 0 then
    zZ e_2 <|
    D_X8_term_23 P (v0 / e_2) M
  else
    zZ e_2 <|
    D_X8_term_23 P (v1 / e_2) M
set_option maxRecDepth 100000 in
set_option maxHeartbeats 4000000 in
theorem t_X8_term {l : Launch} {G : zG} {b : Nat} {L : List zC} {M : zMt} {N : zNt} {P : Nat} (hP : LX8 L P) {v0 : Int32} {v1 : Int32} {v2 : Int32} {r : Int32 × zMt} (h : D_X8_term P v0 v1 v2 M = some r) : zM l G b yX8_term cX8_term 5 (some .int) 1 0 0 [.ref P, .int v0, .int v1, .int v2] (L, M, N) (fun r2 z => r2 = some (.int r.1) ∧ z = (L, r.2, N)) := by
  refine zM.of miX8_term (Nat.le_of_ble_eq_true rfl) ?_
  intro p e s m args below meth c X hr hname
  generalize hF : ((fun r2 z => r2 = some (.int r.1) ∧ z = (L, r.2, N)) : Option Value → zS → Prop) = FQ
  change Zw p l e { frames := 1, cells := 0, slots := 0, locals := 80 * (1) } s m args below meth c G b 5 (MQ below (zQ G b FQ) args s 0 0 (fun q : Nat => b ≤ q)) 0 0 0 [some (.ref P), some (.int v0), some (.int v1), some (.int v2), none] [] (L, M, N)
  obtain ⟨p_lt, p_o, p_s, p_read, p_aside, p_kept, p_guest, p_readGuest, p_tape, p_unitName, p_hunterName, p_partyName, p_bits, p_partyOf, p_choiceAt, p_sizes, p_guestMany, p_pointsOf, p_ticketsOf, p_ord, p_given, p_roundOf, p_tags, p_guestTags, p_places, p_sumAt, p_sumFirst, p_sumRound, p_sumBoth, p_sumTags, p_isEnd, p_newPoints, p_inRow, p_out⟩ := id hP
  have J_23 : ∀ (x1_23 : Int32) (x2_23 : Int32) (x3_23 : Int32) (x4_23 : Int32) (y1_23 : Int32) (M_23 : zMt), D_X8_term_23 P y1_23 M_23 = some r → Zw p l e { frames := 1, cells := 0, slots := 0, locals := 80 * (1) } s m args below meth c G b 5 (MQ below (zQ G b FQ) args s 0 0 (fun q : Nat => b ≤ q)) 0 0 23 [some (.ref (P)), some (.int x1_23), some (.int x2_23), some (.int x3_23), some (.int x4_23)] [.int y1_23, .ref (P)] (L, M_23, N) := by
    intro x1_23 x2_23 x3_23 x4_23 y1_23 M_23 h
    unfold D_X8_term_23 at h
    obtain ⟨e_23, f_23, h⟩ := zBx h
    refine a_callVv X dX8_term_23 miX8_gives lm8_272 (t_X8_gives (by assumption) f_23) (by assumption) rfl rfl rfl (Nat.le_of_ble_eq_true rfl) ⟨by decide, by decide, by decide, by decide⟩ ?_
    refine a_iret X hr dX8_term_26 ⟨by decide, by decide⟩ ?_
    subst hF
    rw [← Option.some.inj h]
    exact ⟨rfl, rfl⟩
  unfold D_X8_term at h
  refine a_iload_n X dX8_term_0 rfl ?_
  refine a_iload_n X dX8_term_1 rfl ?_
  obtain ⟨e_2, f_2, h⟩ := zBx h
  refine a_callSv X dX8_term_2 miX8_common lm8_318 (t_X8_common f_2) rfl rfl (Nat.le_of_ble_eq_true rfl) ⟨by decide, by decide, by decide, by decide⟩ ?_
  refine a_istore X dX8_term_5 (by decide) ?_
  refine a_aload_n X dX8_term_7 rfl ?_
  refine a_iload_n X dX8_term_8 rfl ?_
  refine a_if_ne (tgt := 19) X dX8_term_9 (by decide) (fun h_9 => ?_) (fun h_9 => ?_)
  · replace h := (if_neg h_9).symm.trans h
    refine a_iload_n X dX8_term_19 rfl ?_
    refine a_iload X dX8_term_20 rfl ?_
    obtain ⟨z_22, h⟩ := zZx h
    refine a_idiv X dX8_term_22 (z_22) ?_
    exact Zw.to2 (J_23 _ _ _ _ _ _ h) rfl rfl rfl
  · replace h := (if_pos h_9).symm.trans h
    refine a_iload_n X dX8_term_12 rfl ?_
    refine a_iload X dX8_term_13 rfl ?_
    obtain ⟨z_15, h⟩ := zZx h
    refine a_idiv X dX8_term_15 (z_15) ?_
    refine a_goto (tgt := 23) X dX8_term_16 (by decide) ?_
    exact Zw.to2 (J_23 _ _ _ _ _ _ h) rfl rfl rfl
noncomputable def D_X8_demand_89 (P : Nat) (k57 : Int32 → Int32 → Int32 → Int32 → zMt → Option (Int32 × zMt)) (x1_89 : Int32) (x2_89 : Int32) (x4_89 : Int32) (y0_89 : Int32) (y1_89 : Int32) (M_89 : zMt) : Option (Int32 × zMt) :=
  k57 x1_89 x2_89 (y0_89 + y1_89) (x4_89 + 1) M_89
noncomputable def D_X8_demand_57 (P : Nat) : Nat → Int32 → Int32 → Int32 → Int32 → zMt → Option (Int32 × zMt)
  | 0, _, _, _, _, _ => none
  | n + 1, x1_57, x2_57, x3_57, x4_57, M_57 =>
    if (M_57 P 33) ≤ x4_57 then
      zI ((62 : Int32) + x1_57) 82 <|
      zB (D_X8_term P x3_57 (M_57 (P + 1) ((62 : Int32) + x1_57).toNatClampNeg) x2_57 M_57) fun e_109 =>
      some (e_109.1, e_109.2)
    else
      zB (D_X8_choiceOf P M_57 x4_57 (0 : Int32)) fun e_71 =>
      if e_71 = x1_57 then
        zI x4_57 10 <|
        D_X8_demand_89 P (D_X8_demand_57 P n) x1_57 x2_57 x4_57 x3_57 (M_57 (P + 14) x4_57.toNatClampNeg) M_57
      else
        D_X8_demand_89 P (D_X8_demand_57 P n) x1_57 x2_57 x4_57 x3_57 (0 : Int32) M_57
noncomputable def D_X8_demand (P : Nat) (v0 : Int32) (v1 : Int32) (M : zMt) : Option (Int32 × zMt) :=
  zB (D_X8_isFrom (Int32.toInt64 v1) (0 : Int64) (1 : Int64)) fun e_4 =>
  if e_4 = 0 then
    zB (D_X8_refuse P (1 : Int32) M) fun e_12 =>
    some (e_12.1, e_12.2)
  else
    zB (D_X8_isUnit P M v0) fun e_18 =>
    if e_18 = 0 then
      zB (D_X8_refuse P (2 : Int32) M) fun e_26 =>
      some (e_26.1, e_26.2)
    else
      zI ((62 : Int32) + v0) 82 <|
      if (M (P + 1) ((62 : Int32) + v0).toNatClampNeg) = 0 then
        zB (D_X8_refuse P (5 : Int32) M) fun e_44 =>
        some (e_44.1, e_44.2)
      else
        zB (D_X8_laysApplicants P M) fun e_49 =>
        D_X8_demand_57 P zFu v0 v1 (0 : Int32) (0 : Int32) e_49
set_option maxRecDepth 100000 in
set_option maxHeartbeats 4000000 in
theorem t_X8_demand {l : Launch} {G : zG} {b : Nat} {L : List zC} {M : zMt} {N : zNt} {P : Nat} (hP : LX8 L P) {v0 : Int32} {v1 : Int32} {r : Int32 × zMt} (h : D_X8_demand P v0 v1 M = some r) : zM l G b yX8_demand cX8_demand 5 (some .int) 3 0 0 [.ref P, .int v0, .int v1] (L, M, N) (fun r2 z => r2 = some (.int r.1) ∧ z = (L, r.2, N)) := by
  refine zM.of miX8_demand (Nat.le_of_ble_eq_true rfl) ?_
  intro p e s m args below meth c X hr hname
  generalize hF : ((fun r2 z => r2 = some (.int r.1) ∧ z = (L, r.2, N)) : Option Value → zS → Prop) = FQ
  change Zw p l e { frames := 3, cells := 0, slots := 0, locals := 80 * (3) } s m args below meth c G b 5 (MQ below (zQ G b FQ) args s 0 0 (fun q : Nat => b ≤ q)) 0 0 0 [some (.ref P), some (.int v0), some (.int v1), none, none] [] (L, M, N)
  obtain ⟨p_lt, p_o, p_s, p_read, p_aside, p_kept, p_guest, p_readGuest, p_tape, p_unitName, p_hunterName, p_partyName, p_bits, p_partyOf, p_choiceAt, p_sizes, p_guestMany, p_pointsOf, p_ticketsOf, p_ord, p_given, p_roundOf, p_tags, p_guestTags, p_places, p_sumAt, p_sumFirst, p_sumRound, p_sumBoth, p_sumTags, p_isEnd, p_newPoints, p_inRow, p_out⟩ := id hP
  have L_57 : ∀ u : Nat, ∀ (x1_57 : Int32) (x2_57 : Int32) (x3_57 : Int32) (x4_57 : Int32) (M_57 : zMt), D_X8_demand_57 P u x1_57 x2_57 x3_57 x4_57 M_57 = some r → Zw p l e { frames := 3, cells := 0, slots := 0, locals := 80 * (3) } s m args below meth c G b 5 (MQ below (zQ G b FQ) args s 0 0 (fun q : Nat => b ≤ q)) 0 0 57 [some (.ref (P)), some (.int x1_57), some (.int x2_57), some (.int x3_57), some (.int x4_57)] [] (L, M_57, N) := by
    intro u
    induction u with
    | zero => intro x1_57 x2_57 x3_57 x4_57 M_57 h; cases (show none = some r from h)
    | succ u_57 ih_57 =>
      have J_89 : ∀ (x1_89 : Int32) (x2_89 : Int32) (x3_89 : Int32) (x4_89 : Int32) (y0_89 : Int32) (y1_89 : Int32) (M_89 : zMt), D_X8_demand_89 P (D_X8_demand_57 P u_57) x1_89 x2_89 x4_89 y0_89 y1_89 M_89 = some r → Zw p l e { frames := 3, cells := 0, slots := 0, locals := 80 * (3) } s m args below meth c G b 5 (MQ below (zQ G b FQ) args s 0 0 (fun q : Nat => b ≤ q)) 0 0 89 [some (.ref (P)), some (.int x1_89), some (.int x2_89), some (.int x3_89), some (.int x4_89)] [.int y1_89, .int y0_89] (L, M_89, N) := by
        intro x1_89 x2_89 x3_89 x4_89 y0_89 y1_89 M_89 h
        unfold D_X8_demand_89 at h
        refine a_iadd X dX8_demand_89 ?_
        refine a_istore_n X dX8_demand_90 (by decide) ?_
        refine a_iinc (v := x4_89 + 1) X dX8_demand_91 (by decide) rfl zi_1 ?_
        refine a_goto (tgt := 57) X dX8_demand_94 (by decide) ?_
        exact Zw.to2 (ih_57 _ _ _ _ _ h) rfl rfl rfl
      intro x1_57 x2_57 x3_57 x4_57 M_57 h
      rw [D_X8_demand_57] at h
      refine a_iload X dX8_demand_57 rfl ?_
      refine a_aload_n X dX8_demand_59 rfl ?_
      refine a_geti X lf8_275 (by assumption) rfl dX8_demand_60 ?_
      refine a_icmp_ge (tgt := 97) X dX8_demand_63 (by decide) (fun h_63 => ?_) (fun h_63 => ?_)
      · replace h := (if_pos h_63).symm.trans h
        refine a_aload_n X dX8_demand_97 rfl ?_
        refine a_iload_n X dX8_demand_98 rfl ?_
        refine a_aload_n X dX8_demand_99 rfl ?_
        refine a_getr X lf8_7 (by assumption) rfl (by omega) dX8_demand_100 ?_
        refine a_bipush (v := 62) X dX8_demand_103 (by decide) ?_
        refine a_iload_n X dX8_demand_105 rfl ?_
        refine a_iadd X dX8_demand_106 ?_
        obtain ⟨g_107, h⟩ := zIx h
        refine a_iaload X (by assumption) g_107 dX8_demand_107 ?_
        refine a_iload_n X dX8_demand_108 rfl ?_
        obtain ⟨e_109, f_109, h⟩ := zBx h
        refine a_callVv X dX8_demand_109 miX8_term lm8_321 (t_X8_term (by assumption) f_109) (by assumption) rfl rfl rfl (Nat.le_of_ble_eq_true rfl) ⟨by decide, by decide, by decide, by decide⟩ ?_
        refine a_iret X hr dX8_demand_112 ⟨by decide, by decide⟩ ?_
        subst hF
        rw [← Option.some.inj h]
        exact ⟨rfl, rfl⟩
      · replace h := (if_neg h_63).symm.trans h
        refine a_iload_n X dX8_demand_66 rfl ?_
        refine a_aload_n X dX8_demand_67 rfl ?_
        refine a_iload X dX8_demand_68 rfl ?_
        refine a_iconst (v := 0) X dX8_demand_70 (by decide) ?_
        obtain ⟨e_71, f_71, h⟩ := zBx h
        refine a_callVv X dX8_demand_71 miX8_choiceOf lm8_284 (t_X8_choiceOf (by assumption) f_71) (by assumption) rfl rfl rfl (Nat.le_of_ble_eq_true rfl) ⟨by decide, by decide, by decide, by decide⟩ ?_
        refine a_iload_n X dX8_demand_74 rfl ?_
        refine a_icmp_ne (tgt := 88) X dX8_demand_75 (by decide) (fun h_75 => ?_) (fun h_75 => ?_)
        · replace h := (if_neg h_75).symm.trans h
          refine a_iconst (v := 0) X dX8_demand_88 (by decide) ?_
          exact Zw.to2 (J_89 _ _ _ _ _ _ _ h) rfl rfl rfl
        · replace h := (if_pos h_75).symm.trans h
          refine a_aload_n X dX8_demand_78 rfl ?_
          refine a_getr X lf8_58 (by assumption) rfl (by omega) dX8_demand_79 ?_
          refine a_iload X dX8_demand_82 rfl ?_
          obtain ⟨g_84, h⟩ := zIx h
          refine a_iaload X (by assumption) g_84 dX8_demand_84 ?_
          refine a_goto (tgt := 89) X dX8_demand_85 (by decide) ?_
          exact Zw.to2 (J_89 _ _ _ _ _ _ _ h) rfl rfl rfl
  have H_57 : ∀ (x1_57 : Int32) (x2_57 : Int32) (x3_57 : Int32) (x4_57 : Int32) (M_57 : zMt), D_X8_demand_57 P zFu x1_57 x2_57 x3_57 x4_57 M_57 = some r → Zw p l e { frames := 3, cells := 0, slots := 0, locals := 80 * (3) } s m args below meth c G b 5 (MQ below (zQ G b FQ) args s 0 0 (fun q : Nat => b ≤ q)) 0 0 57 [some (.ref (P)), some (.int x1_57), some (.int x2_57), some (.int x3_57), some (.int x4_57)] [] (L, M_57, N) := L_57 zFu
  unfold D_X8_demand at h
  refine a_iload_n X dX8_demand_0 rfl ?_
  refine a_i2l X dX8_demand_1 ?_
  refine a_lconst (v := 0) X dX8_demand_2 (by decide) ?_
  refine a_lconst (v := 1) X dX8_demand_3 (by decide) ?_
  obtain ⟨e_4, f_4, h⟩ := zBx h
  refine a_callSx X dX8_demand_4 miX8_isFrom lm8_128 (t_X8_isFrom f_4) rfl rfl (Nat.le_of_ble_eq_true rfl) ⟨by decide, by decide, by decide, by decide⟩ (fun r_4 S_4 q_4 => ?_)
  obtain ⟨rfl, rfl, b_4⟩ := q_4
  refine a_if_ne (tgt := 16) X dX8_demand_7 (by decide) (fun h_7 => ?_) (fun h_7 => ?_)
  · replace h := (if_neg h_7).symm.trans h
    refine a_aload_n X dX8_demand_16 rfl ?_
    refine a_iload_n X dX8_demand_17 rfl ?_
    obtain ⟨e_18, f_18, h⟩ := zBx h
    refine a_callVx X dX8_demand_18 miX8_isUnit lm8_301 (t_X8_isUnit (by assumption) f_18) (by assumption) rfl rfl rfl (Nat.le_of_ble_eq_true rfl) ⟨by decide, by decide, by decide, by decide⟩ (fun r_18 S_18 q_18 => ?_)
    obtain ⟨rfl, rfl, b_18⟩ := q_18
    refine a_if_ne (tgt := 30) X dX8_demand_21 (by decide) (fun h_21 => ?_) (fun h_21 => ?_)
    · replace h := (if_neg h_21).symm.trans h
      refine a_aload_n X dX8_demand_30 rfl ?_
      refine a_getr X lf8_7 (by assumption) rfl (by omega) dX8_demand_31 ?_
      refine a_bipush (v := 62) X dX8_demand_34 (by decide) ?_
      refine a_iload_n X dX8_demand_36 rfl ?_
      refine a_iadd X dX8_demand_37 ?_
      obtain ⟨g_38, h⟩ := zIx h
      refine a_iaload X (by assumption) g_38 dX8_demand_38 ?_
      refine a_if_ne (tgt := 48) X dX8_demand_39 (by decide) (fun h_39 => ?_) (fun h_39 => ?_)
      · replace h := (if_neg h_39).symm.trans h
        refine a_aload_n X dX8_demand_48 rfl ?_
        obtain ⟨e_49, f_49, h⟩ := zBx h
        refine a_callVu X dX8_demand_49 miX8_laysApplicants lm8_281 (t_X8_laysApplicants (by assumption) f_49) (by assumption) rfl rfl rfl (Nat.le_of_ble_eq_true rfl) ⟨by decide, by decide, by decide, by decide⟩ ?_
        refine a_iconst (v := 0) X dX8_demand_52 (by decide) ?_
        refine a_istore_n X dX8_demand_53 (by decide) ?_
        refine a_iconst (v := 0) X dX8_demand_54 (by decide) ?_
        refine a_istore X dX8_demand_55 (by decide) ?_
        exact Zw.to2 (H_57 _ _ _ _ _ h) rfl rfl rfl
      · replace h := (if_pos h_39).symm.trans h
        refine a_aload_n X dX8_demand_42 rfl ?_
        refine a_iconst (v := 5) X dX8_demand_43 (by decide) ?_
        obtain ⟨e_44, f_44, h⟩ := zBx h
        refine a_callVv X dX8_demand_44 miX8_refuse lm8_263 (t_X8_refuse (by assumption) f_44) (by assumption) rfl rfl rfl (Nat.le_of_ble_eq_true rfl) ⟨by decide, by decide, by decide, by decide⟩ ?_
        refine a_iret X hr dX8_demand_47 ⟨by decide, by decide⟩ ?_
        subst hF
        rw [← Option.some.inj h]
        exact ⟨rfl, rfl⟩
    · replace h := (if_pos h_21).symm.trans h
      refine a_aload_n X dX8_demand_24 rfl ?_
      refine a_iconst (v := 2) X dX8_demand_25 (by decide) ?_
      obtain ⟨e_26, f_26, h⟩ := zBx h
      refine a_callVv X dX8_demand_26 miX8_refuse lm8_263 (t_X8_refuse (by assumption) f_26) (by assumption) rfl rfl rfl (Nat.le_of_ble_eq_true rfl) ⟨by decide, by decide, by decide, by decide⟩ ?_
      refine a_iret X hr dX8_demand_29 ⟨by decide, by decide⟩ ?_
      subst hF
      rw [← Option.some.inj h]
      exact ⟨rfl, rfl⟩
  · replace h := (if_pos h_7).symm.trans h
    refine a_aload_n X dX8_demand_10 rfl ?_
    refine a_iconst (v := 1) X dX8_demand_11 (by decide) ?_
    obtain ⟨e_12, f_12, h⟩ := zBx h
    refine a_callVv X dX8_demand_12 miX8_refuse lm8_263 (t_X8_refuse (by assumption) f_12) (by assumption) rfl rfl rfl (Nat.le_of_ble_eq_true rfl) ⟨by decide, by decide, by decide, by decide⟩ ?_
    refine a_iret X hr dX8_demand_15 ⟨by decide, by decide⟩ ?_
    subst hF
    rw [← Option.some.inj h]
    exact ⟨rfl, rfl⟩
