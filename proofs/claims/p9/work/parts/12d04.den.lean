noncomputable def D_X3_readGuests (Q : Nat) (M : zMt) (N : zNt) : Option (Int32 × zMt × zNt) :=
  zB (D_X3_step Q M N) fun e_1 =>
  zB (D_X3_numberUpTo Q (100 : Int32) e_1.1 e_1.2) fun e_7 =>
  if e_7.1 = 0 then
    some ((0 : Int32), e_7.2.1, e_7.2.2)
  else
    zLt (zu e_7.2.1 Q 13 (1 : Int32)) fun M_17 =>
    zLt (zu M_17 (Q + 1) 5 (M_17 Q 9)) fun M_28 =>
    zB (D_X3_endOfLine Q M_28 e_7.2.2) fun e_32 =>
    some (e_32.1, e_32.2.1, e_32.2.2)
set_option maxRecDepth 100000 in
set_option maxHeartbeats 4000000 in
theorem t_X3_readGuests {l : Launch} {G : zG} {b : Nat} {L : List zC} {M : zMt} {N : zNt} {Q : Nat}  (hQ : LX3 L Q) {r : Int32 × zMt × zNt} (h : D_X3_readGuests Q M N = some r) : zM l G b yX3_readGuests cX3_readGuests 1 (some .boolean) 4 0 0 [.ref Q] (L, M, N) (fun r2 z => r2 = some (.int r.1) ∧ z = (L, r.2.1, r.2.2) ∧ (r.1 = 0 ∨ r.1 = 1)) := by
  refine zM.of miX3_readGuests (Nat.le_of_ble_eq_true rfl) ?_
  intro p e s m args below meth c X hr hname
  generalize hF : ((fun r2 z => r2 = some (.int r.1) ∧ z = (L, r.2.1, r.2.2) ∧ (r.1 = 0 ∨ r.1 = 1)) : Option Value → zS → Prop) = FQ
  change Zw p l e { frames := 4, cells := 0, slots := 0, locals := 80 * (4) } s m args below meth c G b 1 (MQ below (zQ G b FQ) args s 0 0 (fun q : Nat => b ≤ q)) 0 0 0 [some (.ref Q)] [] (L, M, N)
  obtain ⟨q_lt, q_o, q_draft, q_text, q_unitNames, q_hunterNames, q_partyNames, q_asked⟩ := id hQ
  obtain ⟨q_draft_lt, q_draft_o, q_draft_quota, q_draft_score, q_draft_guest, q_draft_party, q_draft_wishCount, q_draft_wishes, q_draft_has⟩ := id q_draft
  unfold D_X3_readGuests at h
  refine a_aload_n X dX3_readGuests_0 rfl ?_
  obtain ⟨e_1, f_1, h⟩ := zBx h
  refine a_callVu X dX3_readGuests_1 miX3_step lm3_71 (t_X3_step (by assumption) f_1) (by assumption) rfl rfl rfl (Nat.le_of_ble_eq_true rfl) ⟨by decide, by decide, by decide, by decide⟩ ?_
  refine a_aload_n X dX3_readGuests_4 rfl ?_
  refine a_bipush (v := 100) X dX3_readGuests_5 (by decide) ?_
  obtain ⟨e_7, f_7, h⟩ := zBx h
  refine a_callVx X dX3_readGuests_7 miX3_numberUpTo lm3_178 (t_X3_numberUpTo (by assumption) f_7) (by assumption) rfl rfl rfl (Nat.le_of_ble_eq_true rfl) ⟨by decide, by decide, by decide, by decide⟩ (fun r_7 S_7 q_7 => ?_)
  obtain ⟨rfl, rfl, b_7⟩ := q_7
  refine a_if_ne (tgt := 15) X dX3_readGuests_10 (by decide) (fun h_10 => ?_) (fun h_10 => ?_)
  · replace h := (if_neg h_10).symm.trans h
    refine a_aload_n X dX3_readGuests_15 rfl ?_
    refine a_iconst (v := 1) X dX3_readGuests_16 (by decide) ?_
    obtain ⟨M_17, f_17, h⟩ := zLtx h
    refine d_putz X (by first | exact Or.inl rfl | exact Or.inr rfl | assumption) lf3_65 (by assumption) rfl dX3_readGuests_17 f_17 ?_
    refine a_aload_n X dX3_readGuests_20 rfl ?_
    refine a_getr X lf3_12 (by assumption) rfl (by omega) dX3_readGuests_21 ?_
    refine a_aload_n X dX3_readGuests_24 rfl ?_
    refine a_geti X lf3_110 (by assumption) rfl dX3_readGuests_25 ?_
    obtain ⟨M_28, f_28, h⟩ := zLtx h
    refine d_puti X lf3_239 (by assumption) rfl dX3_readGuests_28 f_28 ?_
    refine a_aload_n X dX3_readGuests_31 rfl ?_
    obtain ⟨e_32, f_32, h⟩ := zBx h
    refine a_callVx X dX3_readGuests_32 miX3_endOfLine lm3_181 (t_X3_endOfLine (by assumption) f_32) (by assumption) rfl rfl rfl (Nat.le_of_ble_eq_true rfl) ⟨by decide, by decide, by decide, by decide⟩ (fun r_32 S_32 q_32 => ?_)
    obtain ⟨rfl, rfl, b_32⟩ := q_32
    refine a_zret X (by first | exact Or.inl rfl | exact Or.inr rfl | assumption) hr dX3_readGuests_35 ⟨by decide, by decide⟩ ?_
    subst hF
    rw [← Option.some.inj h]
    exact ⟨rfl, rfl, (by first | exact Or.inl rfl | exact Or.inr rfl | assumption)⟩
  · replace h := (if_pos h_10).symm.trans h
    refine a_iconst (v := 0) X dX3_readGuests_13 (by decide) ?_
    refine a_zret X (by first | exact Or.inl rfl | exact Or.inr rfl | assumption) hr dX3_readGuests_14 ⟨by decide, by decide⟩ ?_
    subst hF
    rw [← Option.some.inj h]
    exact ⟨rfl, rfl, (by first | exact Or.inl rfl | exact Or.inr rfl | assumption)⟩
noncomputable def D_X3_readLine_200 (Q : Nat) (y0_200 : Int32) (M_200 : zMt) (N_200 : zNt) : Option (Int32 × zMt × zNt) :=
  some (y0_200, M_200, N_200)
noncomputable def D_X3_readLine_171 (Q : Nat) (y0_171 : Int32) (M_171 : zMt) (N_171 : zNt) : Option (Int32 × zMt × zNt) :=
  some (y0_171, M_171, N_171)
noncomputable def D_X3_readLine_142 (Q : Nat) (y0_142 : Int32) (M_142 : zMt) (N_142 : zNt) : Option (Int32 × zMt × zNt) :=
  some (y0_142, M_142, N_142)
noncomputable def D_X3_readLine_99 (Q : Nat) (y0_99 : Int32) (M_99 : zMt) (N_99 : zNt) : Option (Int32 × zMt × zNt) :=
  some (y0_99, M_99, N_99)
noncomputable def D_X3_readLine_66 (Q : Nat) (y0_66 : Int32) (M_66 : zMt) (N_66 : zNt) : Option (Int32 × zMt × zNt) :=
  some (y0_66, M_66, N_66)
noncomputable def D_X3_readLine_32 (Q : Nat) (y0_32 : Int32) (M_32 : zMt) (N_32 : zNt) : Option (Int32 × zMt × zNt) :=
  some (y0_32, M_32, N_32)
noncomputable def D_X3_readLine (Q : Nat) (M : zMt) (N : zNt) : Option (Int32 × zMt × zNt) :=
  zB (D_X3_says Q 0 M) fun e_3 =>
  if e_3 = 0 then
    zB (D_X3_says Q 1 M) fun e_36 =>
    if e_36 = 0 then
      zB (D_X3_says Q 3 M) fun e_70 =>
      if e_70 = 0 then
        zB (D_X3_says Q 4 M) fun e_103 =>
        if e_103 = 0 then
          zB (D_X3_says Q 5 M) fun e_117 =>
          if e_117 = 0 then
            zB (D_X3_says Q 6 M) fun e_146 =>
            if e_146 = 0 then
              zB (D_X3_says Q 7 M) fun e_175 =>
              if e_175 = 0 then
                zB (D_X3_fail Q (2 : Int32) M) fun e_203 =>
                some (e_203.1, e_203.2, N)
              else
                if (M Q 13) = 0 then
                  zB (D_X3_readGuests Q M N) fun e_197 =>
                  D_X3_readLine_200 Q e_197.1 e_197.2.1 e_197.2.2
                else
                  zB (D_X3_fail Q (2 : Int32) M) fun e_190 =>
                  D_X3_readLine_200 Q e_190.1 e_190.2 N
            else
              if (M Q 12) = 0 then
                zB (D_X3_readPrefer Q M N) fun e_168 =>
                D_X3_readLine_171 Q e_168.1 e_168.2.1 e_168.2.2
              else
                zB (D_X3_fail Q (2 : Int32) M) fun e_161 =>
                D_X3_readLine_171 Q e_161.1 e_161.2 N
          else
            if (M Q 11) = 0 then
              zB (D_X3_readLaw Q M N) fun e_139 =>
              D_X3_readLine_142 Q e_139.1 e_139.2.1 e_139.2.2
            else
              zB (D_X3_fail Q (2 : Int32) M) fun e_132 =>
              D_X3_readLine_142 Q e_132.1 e_132.2 N
        else
          zB (D_X3_readAsks Q M N) fun e_110 =>
          some (e_110.1, e_110.2.1, e_110.2.2)
      else
        if (4 : Int32) ≤ (M (Q + 1) 2) then
          zB (D_X3_fail Q (2 : Int32) M) fun e_96 =>
          D_X3_readLine_99 Q e_96.1 e_96.2 N
        else
          zB (D_X3_readParty Q M N) fun e_88 =>
          D_X3_readLine_99 Q e_88.1 e_88.2.1 e_88.2.2
    else
      if (10 : Int32) ≤ (M (Q + 1) 1) then
        zB (D_X3_fail Q (2 : Int32) M) fun e_63 =>
        D_X3_readLine_66 Q e_63.1 e_63.2 N
      else
        zB (D_X3_readHunter Q M N) fun e_55 =>
        D_X3_readLine_66 Q e_55.1 e_55.2.1 e_55.2.2
  else
    if (5 : Int32) ≤ (M (Q + 1) 0) then
      zB (D_X3_fail Q (2 : Int32) M) fun e_29 =>
      D_X3_readLine_32 Q e_29.1 e_29.2 N
    else
      zB (D_X3_readUnit Q M N) fun e_21 =>
      D_X3_readLine_32 Q e_21.1 e_21.2.1 e_21.2.2
set_option maxRecDepth 100000 in
set_option maxHeartbeats 4000000 in
theorem t_X3_readLine {l : Launch} {G : zG} {b : Nat} {L : List zC} {M : zMt} {N : zNt} {Q : Nat}  (hQ : LX3 L Q) {r : Int32 × zMt × zNt} (h : D_X3_readLine Q M N = some r) : zM l G b yX3_readLine cX3_readLine 1 (some .boolean) 8 0 0 [.ref Q] (L, M, N) (fun r2 z => r2 = some (.int r.1) ∧ z = (L, r.2.1, r.2.2) ∧ (r.1 = 0 ∨ r.1 = 1)) := by
  refine zM.of miX3_readLine (Nat.le_of_ble_eq_true rfl) ?_
  intro p e s m args below meth c X hr hname
  generalize hF : ((fun r2 z => r2 = some (.int r.1) ∧ z = (L, r.2.1, r.2.2) ∧ (r.1 = 0 ∨ r.1 = 1)) : Option Value → zS → Prop) = FQ
  change Zw p l e { frames := 8, cells := 0, slots := 0, locals := 80 * (8) } s m args below meth c G b 1 (MQ below (zQ G b FQ) args s 0 0 (fun q : Nat => b ≤ q)) 0 0 0 [some (.ref Q)] [] (L, M, N)
  obtain ⟨q_lt, q_o, q_draft, q_text, q_unitNames, q_hunterNames, q_partyNames, q_asked⟩ := id hQ
  obtain ⟨q_draft_lt, q_draft_o, q_draft_quota, q_draft_score, q_draft_guest, q_draft_party, q_draft_wishCount, q_draft_wishes, q_draft_has⟩ := id q_draft
  have J_200 : ∀ (y0_200 : Int32) (M_200 : zMt) (N_200 : zNt), (y0_200 = 0 ∨ y0_200 = 1) → D_X3_readLine_200 Q y0_200 M_200 N_200 = some r → Zw p l e { frames := 8, cells := 0, slots := 0, locals := 80 * (8) } s m args below meth c G b 1 (MQ below (zQ G b FQ) args s 0 0 (fun q : Nat => b ≤ q)) 0 0 200 [some (.ref (Q))] [.int y0_200] (L, M_200, N_200) := by
    intro y0_200 M_200 N_200 fb_y0_200 h
    unfold D_X3_readLine_200 at h
    refine a_zret X (by first | exact Or.inl rfl | exact Or.inr rfl | assumption) hr dX3_readLine_200 ⟨by decide, by decide⟩ ?_
    subst hF
    rw [← Option.some.inj h]
    exact ⟨rfl, rfl, (by first | exact Or.inl rfl | exact Or.inr rfl | assumption)⟩
  have J_171 : ∀ (y0_171 : Int32) (M_171 : zMt) (N_171 : zNt), (y0_171 = 0 ∨ y0_171 = 1) → D_X3_readLine_171 Q y0_171 M_171 N_171 = some r → Zw p l e { frames := 8, cells := 0, slots := 0, locals := 80 * (8) } s m args below meth c G b 1 (MQ below (zQ G b FQ) args s 0 0 (fun q : Nat => b ≤ q)) 0 0 171 [some (.ref (Q))] [.int y0_171] (L, M_171, N_171) := by
    intro y0_171 M_171 N_171 fb_y0_171 h
    unfold D_X3_readLine_171 at h
    refine a_zret X (by first | exact Or.inl rfl | exact Or.inr rfl | assumption) hr dX3_readLine_171 ⟨by decide, by decide⟩ ?_
    subst hF
    rw [← Option.some.inj h]
    exact ⟨rfl, rfl, (by first | exact Or.inl rfl | exact Or.inr rfl | assumption)⟩
  have J_142 : ∀ (y0_142 : Int32) (M_142 : zMt) (N_142 : zNt), (y0_142 = 0 ∨ y0_142 = 1) → D_X3_readLine_142 Q y0_142 M_142 N_142 = some r → Zw p l e { frames := 8, cells := 0, slots := 0, locals := 80 * (8) } s m args below meth c G b 1 (MQ below (zQ G b FQ) args s 0 0 (fun q : Nat => b ≤ q)) 0 0 142 [some (.ref (Q))] [.int y0_142] (L, M_142, N_142) := by
    intro y0_142 M_142 N_142 fb_y0_142 h
    unfold D_X3_readLine_142 at h
    refine a_zret X (by first | exact Or.inl rfl | exact Or.inr rfl | assumption) hr dX3_readLine_142 ⟨by decide, by decide⟩ ?_
    subst hF
    rw [← Option.some.inj h]
    exact ⟨rfl, rfl, (by first | exact Or.inl rfl | exact Or.inr rfl | assumption)⟩
  have J_99 : ∀ (y0_99 : Int32) (M_99 : zMt) (N_99 : zNt), (y0_99 = 0 ∨ y0_99 = 1) → D_X3_readLine_99 Q y0_99 M_99 N_99 = some r → Zw p l e { frames := 8, cells := 0, slots := 0, locals := 80 * (8) } s m args below meth c G b 1 (MQ below (zQ G b FQ) args s 0 0 (fun q : Nat => b ≤ q)) 0 0 99 [some (.ref (Q))] [.int y0_99] (L, M_99, N_99) := by
    intro y0_99 M_99 N_99 fb_y0_99 h
    unfold D_X3_readLine_99 at h
    refine a_zret X (by first | exact Or.inl rfl | exact Or.inr rfl | assumption) hr dX3_readLine_99 ⟨by decide, by decide⟩ ?_
    subst hF
    rw [← Option.some.inj h]
    exact ⟨rfl, rfl, (by first | exact Or.inl rfl | exact Or.inr rfl | assumption)⟩
  have J_66 : ∀ (y0_66 : Int32) (M_66 : zMt) (N_66 : zNt), (y0_66 = 0 ∨ y0_66 = 1) → D_X3_readLine_66 Q y0_66 M_66 N_66 = some r → Zw p l e { frames := 8, cells := 0, slots := 0, locals := 80 * (8) } s m args below meth c G b 1 (MQ below (zQ G b FQ) args s 0 0 (fun q : Nat => b ≤ q)) 0 0 66 [some (.ref (Q))] [.int y0_66] (L, M_66, N_66) := by
    intro y0_66 M_66 N_66 fb_y0_66 h
    unfold D_X3_readLine_66 at h
    refine a_zret X (by first | exact Or.inl rfl | exact Or.inr rfl | assumption) hr dX3_readLine_66 ⟨by decide, by decide⟩ ?_
    subst hF
    rw [← Option.some.inj h]
    exact ⟨rfl, rfl, (by first | exact Or.inl rfl | exact Or.inr rfl | assumption)⟩
  have J_32 : ∀ (y0_32 : Int32) (M_32 : zMt) (N_32 : zNt), (y0_32 = 0 ∨ y0_32 = 1) → D_X3_readLine_32 Q y0_32 M_32 N_32 = some r → Zw p l e { frames := 8, cells := 0, slots := 0, locals := 80 * (8) } s m args below meth c G b 1 (MQ below (zQ G b FQ) args s 0 0 (fun q : Nat => b ≤ q)) 0 0 32 [some (.ref (Q))] [.int y0_32] (L, M_32, N_32) := by
    intro y0_32 M_32 N_32 fb_y0_32 h
    unfold D_X3_readLine_32 at h
    refine a_zret X (by first | exact Or.inl rfl | exact Or.inr rfl | assumption) hr dX3_readLine_32 ⟨by decide, by decide⟩ ?_
    subst hF
    rw [← Option.some.inj h]
    exact ⟨rfl, rfl, (by first | exact Or.inl rfl | exact Or.inr rfl | assumption)⟩
  unfold D_X3_readLine at h
  refine a_aload_n X dX3_readLine_0 rfl ?_
  refine a_ldcS (i := 0) (q := ("TagDraw$Reader", 122, "unit")) X rfl rfl rfl dX3_readLine_1 ?_
  obtain ⟨e_3, f_3, h⟩ := zBx h
  refine a_callVx X dX3_readLine_3 miX3_says lm3_124 (t_X3_says (by assumption) (by first | assumption | decide) f_3) (by assumption) rfl rfl rfl (Nat.le_of_ble_eq_true rfl) ⟨by decide, by decide, by decide, by decide⟩ (fun r_3 S_3 q_3 => ?_)
  obtain ⟨rfl, rfl, b_3⟩ := q_3
  refine a_if_eq (tgt := 33) X dX3_readLine_6 (by decide) (fun h_6 => ?_) (fun h_6 => ?_)
  · replace h := (if_pos h_6).symm.trans h
    refine a_aload_n X dX3_readLine_33 rfl ?_
    refine a_ldcS (i := 1) (q := ("TagDraw$Reader", 128, "hunter")) X rfl rfl rfl dX3_readLine_34 ?_
    obtain ⟨e_36, f_36, h⟩ := zBx h
    refine a_callVx X dX3_readLine_36 miX3_says lm3_124 (t_X3_says (by assumption) (by first | assumption | decide) f_36) (by assumption) rfl rfl rfl (Nat.le_of_ble_eq_true rfl) ⟨by decide, by decide, by decide, by decide⟩ (fun r_36 S_36 q_36 => ?_)
    obtain ⟨rfl, rfl, b_36⟩ := q_36
    refine a_if_eq (tgt := 67) X dX3_readLine_39 (by decide) (fun h_39 => ?_) (fun h_39 => ?_)
    · replace h := (if_pos h_39).symm.trans h
      refine a_aload_n X dX3_readLine_67 rfl ?_
      refine a_ldcS (i := 3) (q := ("TagDraw$Reader", 132, "party")) X rfl rfl rfl dX3_readLine_68 ?_
      obtain ⟨e_70, f_70, h⟩ := zBx h
      refine a_callVx X dX3_readLine_70 miX3_says lm3_124 (t_X3_says (by assumption) (by first | assumption | decide) f_70) (by assumption) rfl rfl rfl (Nat.le_of_ble_eq_true rfl) ⟨by decide, by decide, by decide, by decide⟩ (fun r_70 S_70 q_70 => ?_)
      obtain ⟨rfl, rfl, b_70⟩ := q_70
      refine a_if_eq (tgt := 100) X dX3_readLine_73 (by decide) (fun h_73 => ?_) (fun h_73 => ?_)
      · replace h := (if_pos h_73).symm.trans h
        refine a_aload_n X dX3_readLine_100 rfl ?_
        refine a_ldcS (i := 4) (q := ("TagDraw$Reader", 134, "asks")) X rfl rfl rfl dX3_readLine_101 ?_
        obtain ⟨e_103, f_103, h⟩ := zBx h
        refine a_callVx X dX3_readLine_103 miX3_says lm3_124 (t_X3_says (by assumption) (by first | assumption | decide) f_103) (by assumption) rfl rfl rfl (Nat.le_of_ble_eq_true rfl) ⟨by decide, by decide, by decide, by decide⟩ (fun r_103 S_103 q_103 => ?_)
        obtain ⟨rfl, rfl, b_103⟩ := q_103
        refine a_if_eq (tgt := 114) X dX3_readLine_106 (by decide) (fun h_106 => ?_) (fun h_106 => ?_)
        · replace h := (if_pos h_106).symm.trans h
          refine a_aload_n X dX3_readLine_114 rfl ?_
          refine a_ldcS (i := 5) (q := ("TagDraw$Reader", 136, "law")) X rfl rfl rfl dX3_readLine_115 ?_
          obtain ⟨e_117, f_117, h⟩ := zBx h
          refine a_callVx X dX3_readLine_117 miX3_says lm3_124 (t_X3_says (by assumption) (by first | assumption | decide) f_117) (by assumption) rfl rfl rfl (Nat.le_of_ble_eq_true rfl) ⟨by decide, by decide, by decide, by decide⟩ (fun r_117 S_117 q_117 => ?_)
          obtain ⟨rfl, rfl, b_117⟩ := q_117
          refine a_if_eq (tgt := 143) X dX3_readLine_120 (by decide) (fun h_120 => ?_) (fun h_120 => ?_)
          · replace h := (if_pos h_120).symm.trans h
            refine a_aload_n X dX3_readLine_143 rfl ?_
            refine a_ldcS (i := 6) (q := ("TagDraw$Reader", 138, "prefer")) X rfl rfl rfl dX3_readLine_144 ?_
            obtain ⟨e_146, f_146, h⟩ := zBx h
            refine a_callVx X dX3_readLine_146 miX3_says lm3_124 (t_X3_says (by assumption) (by first | assumption | decide) f_146) (by assumption) rfl rfl rfl (Nat.le_of_ble_eq_true rfl) ⟨by decide, by decide, by decide, by decide⟩ (fun r_146 S_146 q_146 => ?_)
            obtain ⟨rfl, rfl, b_146⟩ := q_146
            refine a_if_eq (tgt := 172) X dX3_readLine_149 (by decide) (fun h_149 => ?_) (fun h_149 => ?_)
            · replace h := (if_pos h_149).symm.trans h
              refine a_aload_n X dX3_readLine_172 rfl ?_
              refine a_ldcS (i := 7) (q := ("TagDraw$Reader", 140, "guests")) X rfl rfl rfl dX3_readLine_173 ?_
              obtain ⟨e_175, f_175, h⟩ := zBx h
              refine a_callVx X dX3_readLine_175 miX3_says lm3_124 (t_X3_says (by assumption) (by first | assumption | decide) f_175) (by assumption) rfl rfl rfl (Nat.le_of_ble_eq_true rfl) ⟨by decide, by decide, by decide, by decide⟩ (fun r_175 S_175 q_175 => ?_)
              obtain ⟨rfl, rfl, b_175⟩ := q_175
              refine a_if_eq (tgt := 201) X dX3_readLine_178 (by decide) (fun h_178 => ?_) (fun h_178 => ?_)
              · replace h := (if_pos h_178).symm.trans h
                refine a_aload_n X dX3_readLine_201 rfl ?_
                refine a_iconst (v := 2) X dX3_readLine_202 (by decide) ?_
                obtain ⟨e_203, f_203, h⟩ := zBx h
                refine a_callVx X dX3_readLine_203 miX3_fail lm3_148 (t_X3_fail (by assumption) f_203) (by assumption) rfl rfl rfl (Nat.le_of_ble_eq_true rfl) ⟨by decide, by decide, by decide, by decide⟩ (fun r_203 S_203 q_203 => ?_)
                obtain ⟨rfl, rfl, b_203⟩ := q_203
                refine a_zret X (by first | exact Or.inl rfl | exact Or.inr rfl | assumption) hr dX3_readLine_206 ⟨by decide, by decide⟩ ?_
                subst hF
                rw [← Option.some.inj h]
                exact ⟨rfl, rfl, (by first | exact Or.inl rfl | exact Or.inr rfl | assumption)⟩
              · replace h := (if_neg h_178).symm.trans h
                refine a_aload_n X dX3_readLine_181 rfl ?_
                refine a_geti X lf3_65 (by assumption) rfl dX3_readLine_182 ?_
                refine a_if_eq (tgt := 196) X dX3_readLine_185 (by decide) (fun h_185 => ?_) (fun h_185 => ?_)
                · replace h := (if_pos h_185).symm.trans h
                  refine a_aload_n X dX3_readLine_196 rfl ?_
                  obtain ⟨e_197, f_197, h⟩ := zBx h
                  refine a_callVx X dX3_readLine_197 miX3_readGuests lm3_172 (t_X3_readGuests (by assumption) f_197) (by assumption) rfl rfl rfl (Nat.le_of_ble_eq_true rfl) ⟨by decide, by decide, by decide, by decide⟩ (fun r_197 S_197 q_197 => ?_)
                  obtain ⟨rfl, rfl, b_197⟩ := q_197
                  exact Zw.to2 (J_200 _ _ _ (by first | exact Or.inl rfl | exact Or.inr rfl | assumption) h) rfl rfl rfl
                · replace h := (if_neg h_185).symm.trans h
                  refine a_aload_n X dX3_readLine_188 rfl ?_
                  refine a_iconst (v := 2) X dX3_readLine_189 (by decide) ?_
                  obtain ⟨e_190, f_190, h⟩ := zBx h
                  refine a_callVx X dX3_readLine_190 miX3_fail lm3_148 (t_X3_fail (by assumption) f_190) (by assumption) rfl rfl rfl (Nat.le_of_ble_eq_true rfl) ⟨by decide, by decide, by decide, by decide⟩ (fun r_190 S_190 q_190 => ?_)
                  obtain ⟨rfl, rfl, b_190⟩ := q_190
                  refine a_goto (tgt := 200) X dX3_readLine_193 (by decide) ?_
                  exact Zw.to2 (J_200 _ _ _ (by first | exact Or.inl rfl | exact Or.inr rfl | assumption) h) rfl rfl rfl
            · replace h := (if_neg h_149).symm.trans h
              refine a_aload_n X dX3_readLine_152 rfl ?_
              refine a_geti X lf3_62 (by assumption) rfl dX3_readLine_153 ?_
              refine a_if_eq (tgt := 167) X dX3_readLine_156 (by decide) (fun h_156 => ?_) (fun h_156 => ?_)
              · replace h := (if_pos h_156).symm.trans h
                refine a_aload_n X dX3_readLine_167 rfl ?_
                obtain ⟨e_168, f_168, h⟩ := zBx h
                refine a_callVx X dX3_readLine_168 miX3_readPrefer lm3_169 (t_X3_readPrefer (by assumption) f_168) (by assumption) rfl rfl rfl (Nat.le_of_ble_eq_true rfl) ⟨by decide, by decide, by decide, by decide⟩ (fun r_168 S_168 q_168 => ?_)
                obtain ⟨rfl, rfl, b_168⟩ := q_168
                exact Zw.to2 (J_171 _ _ _ (by first | exact Or.inl rfl | exact Or.inr rfl | assumption) h) rfl rfl rfl
              · replace h := (if_neg h_156).symm.trans h
                refine a_aload_n X dX3_readLine_159 rfl ?_
                refine a_iconst (v := 2) X dX3_readLine_160 (by decide) ?_
                obtain ⟨e_161, f_161, h⟩ := zBx h
                refine a_callVx X dX3_readLine_161 miX3_fail lm3_148 (t_X3_fail (by assumption) f_161) (by assumption) rfl rfl rfl (Nat.le_of_ble_eq_true rfl) ⟨by decide, by decide, by decide, by decide⟩ (fun r_161 S_161 q_161 => ?_)
                obtain ⟨rfl, rfl, b_161⟩ := q_161
                refine a_goto (tgt := 171) X dX3_readLine_164 (by decide) ?_
                exact Zw.to2 (J_171 _ _ _ (by first | exact Or.inl rfl | exact Or.inr rfl | assumption) h) rfl rfl rfl
          · replace h := (if_neg h_120).symm.trans h
            refine a_aload_n X dX3_readLine_123 rfl ?_
            refine a_geti X lf3_58 (by assumption) rfl dX3_readLine_124 ?_
            refine a_if_eq (tgt := 138) X dX3_readLine_127 (by decide) (fun h_127 => ?_) (fun h_127 => ?_)
            · replace h := (if_pos h_127).symm.trans h
              refine a_aload_n X dX3_readLine_138 rfl ?_
              obtain ⟨e_139, f_139, h⟩ := zBx h
              refine a_callVx X dX3_readLine_139 miX3_readLaw lm3_166 (t_X3_readLaw (by assumption) f_139) (by assumption) rfl rfl rfl (Nat.le_of_ble_eq_true rfl) ⟨by decide, by decide, by decide, by decide⟩ (fun r_139 S_139 q_139 => ?_)
              obtain ⟨rfl, rfl, b_139⟩ := q_139
              exact Zw.to2 (J_142 _ _ _ (by first | exact Or.inl rfl | exact Or.inr rfl | assumption) h) rfl rfl rfl
            · replace h := (if_neg h_127).symm.trans h
              refine a_aload_n X dX3_readLine_130 rfl ?_
              refine a_iconst (v := 2) X dX3_readLine_131 (by decide) ?_
              obtain ⟨e_132, f_132, h⟩ := zBx h
              refine a_callVx X dX3_readLine_132 miX3_fail lm3_148 (t_X3_fail (by assumption) f_132) (by assumption) rfl rfl rfl (Nat.le_of_ble_eq_true rfl) ⟨by decide, by decide, by decide, by decide⟩ (fun r_132 S_132 q_132 => ?_)
              obtain ⟨rfl, rfl, b_132⟩ := q_132
              refine a_goto (tgt := 142) X dX3_readLine_135 (by decide) ?_
              exact Zw.to2 (J_142 _ _ _ (by first | exact Or.inl rfl | exact Or.inr rfl | assumption) h) rfl rfl rfl
        · replace h := (if_neg h_106).symm.trans h
          refine a_aload_n X dX3_readLine_109 rfl ?_
          obtain ⟨e_110, f_110, h⟩ := zBx h
          refine a_callVx X dX3_readLine_110 miX3_readAsks lm3_163 (t_X3_readAsks (by assumption) f_110) (by assumption) rfl rfl rfl (Nat.le_of_ble_eq_true rfl) ⟨by decide, by decide, by decide, by decide⟩ (fun r_110 S_110 q_110 => ?_)
          obtain ⟨rfl, rfl, b_110⟩ := q_110
          refine a_zret X (by first | exact Or.inl rfl | exact Or.inr rfl | assumption) hr dX3_readLine_113 ⟨by decide, by decide⟩ ?_
          subst hF
          rw [← Option.some.inj h]
          exact ⟨rfl, rfl, (by first | exact Or.inl rfl | exact Or.inr rfl | assumption)⟩
      · replace h := (if_neg h_73).symm.trans h
        refine a_aload_n X dX3_readLine_76 rfl ?_
        refine a_getr X lf3_12 (by assumption) rfl (by omega) dX3_readLine_77 ?_
        refine a_geti X lf3_157 (by assumption) rfl dX3_readLine_80 ?_
        refine a_iconst (v := 4) X dX3_readLine_83 (by decide) ?_
        refine a_icmp_ge (tgt := 94) X dX3_readLine_84 (by decide) (fun h_84 => ?_) (fun h_84 => ?_)
        · replace h := (if_pos h_84).symm.trans h
          refine a_aload_n X dX3_readLine_94 rfl ?_
          refine a_iconst (v := 2) X dX3_readLine_95 (by decide) ?_
          obtain ⟨e_96, f_96, h⟩ := zBx h
          refine a_callVx X dX3_readLine_96 miX3_fail lm3_148 (t_X3_fail (by assumption) f_96) (by assumption) rfl rfl rfl (Nat.le_of_ble_eq_true rfl) ⟨by decide, by decide, by decide, by decide⟩ (fun r_96 S_96 q_96 => ?_)
          obtain ⟨rfl, rfl, b_96⟩ := q_96
          exact Zw.to2 (J_99 _ _ _ (by first | exact Or.inl rfl | exact Or.inr rfl | assumption) h) rfl rfl rfl
        · replace h := (if_neg h_84).symm.trans h
          refine a_aload_n X dX3_readLine_87 rfl ?_
          obtain ⟨e_88, f_88, h⟩ := zBx h
          refine a_callVx X dX3_readLine_88 miX3_readParty lm3_160 (t_X3_readParty (by assumption) f_88) (by assumption) rfl rfl rfl (Nat.le_of_ble_eq_true rfl) ⟨by decide, by decide, by decide, by decide⟩ (fun r_88 S_88 q_88 => ?_)
          obtain ⟨rfl, rfl, b_88⟩ := q_88
          refine a_goto (tgt := 99) X dX3_readLine_91 (by decide) ?_
          exact Zw.to2 (J_99 _ _ _ (by first | exact Or.inl rfl | exact Or.inr rfl | assumption) h) rfl rfl rfl
    · replace h := (if_neg h_39).symm.trans h
      refine a_aload_n X dX3_readLine_42 rfl ?_
      refine a_getr X lf3_12 (by assumption) rfl (by omega) dX3_readLine_43 ?_
      refine a_geti X lf3_151 (by assumption) rfl dX3_readLine_46 ?_
      refine a_bipush (v := 10) X dX3_readLine_49 (by decide) ?_
      refine a_icmp_ge (tgt := 61) X dX3_readLine_51 (by decide) (fun h_51 => ?_) (fun h_51 => ?_)
      · replace h := (if_pos h_51).symm.trans h
        refine a_aload_n X dX3_readLine_61 rfl ?_
        refine a_iconst (v := 2) X dX3_readLine_62 (by decide) ?_
        obtain ⟨e_63, f_63, h⟩ := zBx h
        refine a_callVx X dX3_readLine_63 miX3_fail lm3_148 (t_X3_fail (by assumption) f_63) (by assumption) rfl rfl rfl (Nat.le_of_ble_eq_true rfl) ⟨by decide, by decide, by decide, by decide⟩ (fun r_63 S_63 q_63 => ?_)
        obtain ⟨rfl, rfl, b_63⟩ := q_63
        exact Zw.to2 (J_66 _ _ _ (by first | exact Or.inl rfl | exact Or.inr rfl | assumption) h) rfl rfl rfl
      · replace h := (if_neg h_51).symm.trans h
        refine a_aload_n X dX3_readLine_54 rfl ?_
        obtain ⟨e_55, f_55, h⟩ := zBx h
        refine a_callVx X dX3_readLine_55 miX3_readHunter lm3_154 (t_X3_readHunter (by assumption) f_55) (by assumption) rfl rfl rfl (Nat.le_of_ble_eq_true rfl) ⟨by decide, by decide, by decide, by decide⟩ (fun r_55 S_55 q_55 => ?_)
        obtain ⟨rfl, rfl, b_55⟩ := q_55
        refine a_goto (tgt := 66) X dX3_readLine_58 (by decide) ?_
        exact Zw.to2 (J_66 _ _ _ (by first | exact Or.inl rfl | exact Or.inr rfl | assumption) h) rfl rfl rfl
  · replace h := (if_neg h_6).symm.trans h
    refine a_aload_n X dX3_readLine_9 rfl ?_
    refine a_getr X lf3_12 (by assumption) rfl (by omega) dX3_readLine_10 ?_
    refine a_geti X lf3_142 (by assumption) rfl dX3_readLine_13 ?_
    refine a_iconst (v := 5) X dX3_readLine_16 (by decide) ?_
    refine a_icmp_ge (tgt := 27) X dX3_readLine_17 (by decide) (fun h_17 => ?_) (fun h_17 => ?_)
    · replace h := (if_pos h_17).symm.trans h
      refine a_aload_n X dX3_readLine_27 rfl ?_
      refine a_iconst (v := 2) X dX3_readLine_28 (by decide) ?_
      obtain ⟨e_29, f_29, h⟩ := zBx h
      refine a_callVx X dX3_readLine_29 miX3_fail lm3_148 (t_X3_fail (by assumption) f_29) (by assumption) rfl rfl rfl (Nat.le_of_ble_eq_true rfl) ⟨by decide, by decide, by decide, by decide⟩ (fun r_29 S_29 q_29 => ?_)
      obtain ⟨rfl, rfl, b_29⟩ := q_29
      exact Zw.to2 (J_32 _ _ _ (by first | exact Or.inl rfl | exact Or.inr rfl | assumption) h) rfl rfl rfl
    · replace h := (if_neg h_17).symm.trans h
      refine a_aload_n X dX3_readLine_20 rfl ?_
      obtain ⟨e_21, f_21, h⟩ := zBx h
      refine a_callVx X dX3_readLine_21 miX3_readUnit lm3_145 (t_X3_readUnit (by assumption) f_21) (by assumption) rfl rfl rfl (Nat.le_of_ble_eq_true rfl) ⟨by decide, by decide, by decide, by decide⟩ (fun r_21 S_21 q_21 => ?_)
      obtain ⟨rfl, rfl, b_21⟩ := q_21
      refine a_goto (tgt := 32) X dX3_readLine_24 (by decide) ?_
      exact Zw.to2 (J_32 _ _ _ (by first | exact Or.inl rfl | exact Or.inr rfl | assumption) h) rfl rfl rfl
noncomputable def D_X3_read_91 (Q : Nat) (A : Nat) (nA : Nat) (M_91 : zMt) (N_91 : zNt) : Option (Int32 × zMt × zNt) :=
  some ((1 : Int32), M_91, N_91)
noncomputable def D_X3_read_62 (Q : Nat) (A : Nat) (nA : Nat) : Nat → Int32 → zMt → zNt → Option (Int32 × zMt × zNt)
  | 0, _, _, _ => none
  | n + 1, x3_62, M_62, N_62 =>
    if (700 : Int32) ≤ x3_62 then
      D_X3_read_91 Q A nA M_62 N_62
    else
      if (M_62 Q 6) = 0 then
        D_X3_read_91 Q A nA M_62 N_62
      else
        zB (D_X3_readLine Q M_62 N_62) fun e_77 =>
        if e_77.1 = 0 then
          some ((0 : Int32), e_77.2.1, e_77.2.2)
        else
          (D_X3_read_62 Q A nA n) (x3_62 + 1) e_77.2.1 e_77.2.2
noncomputable def D_X3_read (Q : Nat) (A : Nat) (nA : Nat) (v0 : Int32) (M : zMt) (N : zNt) : Option (Int32 × zMt × zNt) :=
  zLt (zcpy M (Q + 9) 700 (fun j => zrd 0 (M A) nA (nI j))) fun M_5 =>
  zLt (zu M_5 Q 4 (if (700 : Int32) < v0 then (700 : Int32) else v0)) fun M_16 =>
  zLt (zu M_16 Q 5 (0 : Int32)) fun M_21 =>
  zLt (zu M_21 Q 11 (0 : Int32)) fun M_26 =>
  zLt (zu M_26 Q 12 (0 : Int32)) fun M_31 =>
  zLt (zu M_31 Q 13 (0 : Int32)) fun M_36 =>
  zB (D_X4_clear (Q + 1) M_36) fun e_43 =>
  zLt (zu e_43 Q 1 (0 : Int32)) fun M_48 =>
  zLt (zu M_48 Q 2 (-1 : Int32)) fun M_53 =>
  zB (D_X3_step Q M_53 N) fun e_57 =>
  D_X3_read_62 Q A nA zFu (0 : Int32) e_57.1 e_57.2
set_option maxRecDepth 100000 in
set_option maxHeartbeats 4000000 in
theorem t_X3_read {l : Launch} {G : zG} {b : Nat} {L : List zC} {M : zMt} {N : zNt} {Q : Nat} {A : Nat} {nA : Nat} {v0 : Int32} (hQ : LX3 L Q) (hA : L[A]? = some (1, nA, [])) (lA : nA < 2 ^ 31) (dQA : A < Q ∨ Q + 14 ≤ A) {r : Int32 × zMt × zNt} (h : D_X3_read Q A nA v0 M N = some r) : zM l G b yX3_read cX3_read 4 (some .boolean) 9 0 0 [.ref Q, .ref A, .int v0] (L, M, N) (fun r2 z => r2 = some (.int r.1) ∧ z = (L, r.2.1, r.2.2) ∧ (r.1 = 0 ∨ r.1 = 1)) := by
  refine zM.of miX3_read (Nat.le_of_ble_eq_true rfl) ?_
  intro p e s m args below meth c X hr hname
  generalize hF : ((fun r2 z => r2 = some (.int r.1) ∧ z = (L, r.2.1, r.2.2) ∧ (r.1 = 0 ∨ r.1 = 1)) : Option Value → zS → Prop) = FQ
  change Zw p l e { frames := 9, cells := 0, slots := 0, locals := 80 * (9) } s m args below meth c G b 4 (MQ below (zQ G b FQ) args s 0 0 (fun q : Nat => b ≤ q)) 0 0 0 [some (.ref Q), some (.ref A), some (.int v0), none] [] (L, M, N)
  obtain ⟨q_lt, q_o, q_draft, q_text, q_unitNames, q_hunterNames, q_partyNames, q_asked⟩ := id hQ
  obtain ⟨q_draft_lt, q_draft_o, q_draft_quota, q_draft_score, q_draft_guest, q_draft_party, q_draft_wishCount, q_draft_wishes, q_draft_has⟩ := id q_draft
  have J_91 : ∀ (x2_91 : Int32) (x3_91 : Int32) (M_91 : zMt) (N_91 : zNt), D_X3_read_91 Q A nA M_91 N_91 = some r → Zw p l e { frames := 9, cells := 0, slots := 0, locals := 80 * (9) } s m args below meth c G b 4 (MQ below (zQ G b FQ) args s 0 0 (fun q : Nat => b ≤ q)) 0 0 91 [some (.ref (Q)), some (.ref (A)), some (.int x2_91), some (.int x3_91)] [] (L, M_91, N_91) := by
    intro x2_91 x3_91 M_91 N_91 h
    unfold D_X3_read_91 at h
    refine a_iconst (v := 1) X dX3_read_91 (by decide) ?_
    refine a_zret X (by first | exact Or.inl rfl | exact Or.inr rfl | assumption) hr dX3_read_92 ⟨by decide, by decide⟩ ?_
    subst hF
    rw [← Option.some.inj h]
    exact ⟨rfl, rfl, (by first | exact Or.inl rfl | exact Or.inr rfl | assumption)⟩
  have L_62 : ∀ u : Nat, ∀ (x2_62 : Int32) (x3_62 : Int32) (M_62 : zMt) (N_62 : zNt), D_X3_read_62 Q A nA u x3_62 M_62 N_62 = some r → Zw p l e { frames := 9, cells := 0, slots := 0, locals := 80 * (9) } s m args below meth c G b 4 (MQ below (zQ G b FQ) args s 0 0 (fun q : Nat => b ≤ q)) 0 0 62 [some (.ref (Q)), some (.ref (A)), some (.int x2_62), some (.int x3_62)] [] (L, M_62, N_62) := by
    intro u
    induction u with
    | zero => intro x2_62 x3_62 M_62 N_62 h; cases (show none = some r from h)
    | succ u_62 ih_62 =>
      intro x2_62 x3_62 M_62 N_62 h
      rw [D_X3_read_62] at h
      refine a_iload_n X dX3_read_62 rfl ?_
      refine a_sipush (v := 700) X dX3_read_63 (by decide) ?_
      refine a_icmp_ge (tgt := 91) X dX3_read_66 (by decide) (fun h_66 => ?_) (fun h_66 => ?_)
      · replace h := (if_pos h_66).symm.trans h
        exact Zw.to2 (J_91 _ _ _ _ h) rfl rfl rfl
      · replace h := (if_neg h_66).symm.trans h
        refine a_aload_n X dX3_read_69 rfl ?_
        refine a_geti X lf3_74 (by assumption) rfl dX3_read_70 ?_
        refine a_if_eq (tgt := 91) X dX3_read_73 (by decide) (fun h_73 => ?_) (fun h_73 => ?_)
        · replace h := (if_pos h_73).symm.trans h
          exact Zw.to2 (J_91 _ _ _ _ h) rfl rfl rfl
        · replace h := (if_neg h_73).symm.trans h
          refine a_aload_n X dX3_read_76 rfl ?_
          obtain ⟨e_77, f_77, h⟩ := zBx h
          refine a_callVx X dX3_read_77 miX3_readLine lm3_77 (t_X3_readLine (by assumption) f_77) (by assumption) rfl rfl rfl (Nat.le_of_ble_eq_true rfl) ⟨by decide, by decide, by decide, by decide⟩ (fun r_77 S_77 q_77 => ?_)
          obtain ⟨rfl, rfl, b_77⟩ := q_77
          refine a_if_ne (tgt := 85) X dX3_read_80 (by decide) (fun h_80 => ?_) (fun h_80 => ?_)
          · replace h := (if_neg h_80).symm.trans h
            refine a_iinc (v := x3_62 + 1) X dX3_read_85 (by decide) rfl zi_1 ?_
            refine a_goto (tgt := 62) X dX3_read_88 (by decide) ?_
            exact Zw.to2 (ih_62 _ _ _ _ h) rfl rfl rfl
          · replace h := (if_pos h_80).symm.trans h
            refine a_iconst (v := 0) X dX3_read_83 (by decide) ?_
            refine a_zret X (by first | exact Or.inl rfl | exact Or.inr rfl | assumption) hr dX3_read_84 ⟨by decide, by decide⟩ ?_
            subst hF
            rw [← Option.some.inj h]
            exact ⟨rfl, rfl, (by first | exact Or.inl rfl | exact Or.inr rfl | assumption)⟩
  have H_62 : ∀ (x2_62 : Int32) (x3_62 : Int32) (M_62 : zMt) (N_62 : zNt), D_X3_read_62 Q A nA zFu x3_62 M_62 N_62 = some r → Zw p l e { frames := 9, cells := 0, slots := 0, locals := 80 * (9) } s m args below meth c G b 4 (MQ below (zQ G b FQ) args s 0 0 (fun q : Nat => b ≤ q)) 0 0 62 [some (.ref (Q)), some (.ref (A)), some (.int x2_62), some (.int x3_62)] [] (L, M_62, N_62) := L_62 zFu
  unfold D_X3_read at h
  refine a_aload_n X dX3_read_0 rfl ?_
  refine a_aload_n X dX3_read_1 rfl ?_
  refine a_getr X lf3_25 (by assumption) rfl (by omega) dX3_read_2 ?_
  obtain ⟨M_5, f_5, h⟩ := zLtx h
  refine a_callSNu X dX3_read_5 miX7_copy lm3_42 (zMu (c_copy (by assumption) (by assumption) (by first | decide | assumption) (by first | decide | assumption) (by omega)) f_5) rfl rfl (Nat.le_of_ble_eq_true rfl) ⟨by decide, by decide, by decide, by decide⟩ ?_
  refine a_aload_n X dX3_read_8 rfl ?_
  refine a_iload_n X dX3_read_9 rfl ?_
  refine a_sipush (v := 700) X dX3_read_10 (by decide) ?_
  refine a_mmin X lm3_46 zmath2 zmath0 zmathc2 ⟨by decide, Nat.le_of_ble_eq_true rfl, by decide, by decide⟩ dX3_read_13 ?_
  obtain ⟨M_16, f_16, h⟩ := zLtx h
  refine d_puti X lf3_52 (by assumption) rfl dX3_read_16 f_16 ?_
  refine a_aload_n X dX3_read_19 rfl ?_
  refine a_iconst (v := 0) X dX3_read_20 (by decide) ?_
  obtain ⟨M_21, f_21, h⟩ := zLtx h
  refine d_puti X lf3_55 (by assumption) rfl dX3_read_21 f_21 ?_
  refine a_aload_n X dX3_read_24 rfl ?_
  refine a_iconst (v := 0) X dX3_read_25 (by decide) ?_
  obtain ⟨M_26, f_26, h⟩ := zLtx h
  refine d_putz X (by first | exact Or.inl rfl | exact Or.inr rfl | assumption) lf3_58 (by assumption) rfl dX3_read_26 f_26 ?_
  refine a_aload_n X dX3_read_29 rfl ?_
  refine a_iconst (v := 0) X dX3_read_30 (by decide) ?_
  obtain ⟨M_31, f_31, h⟩ := zLtx h
  refine d_putz X (by first | exact Or.inl rfl | exact Or.inr rfl | assumption) lf3_62 (by assumption) rfl dX3_read_31 f_31 ?_
  refine a_aload_n X dX3_read_34 rfl ?_
  refine a_iconst (v := 0) X dX3_read_35 (by decide) ?_
  obtain ⟨M_36, f_36, h⟩ := zLtx h
  refine d_putz X (by first | exact Or.inl rfl | exact Or.inr rfl | assumption) lf3_65 (by assumption) rfl dX3_read_36 f_36 ?_
  refine a_aload_n X dX3_read_39 rfl ?_
  refine a_getr X lf3_12 (by assumption) rfl (by omega) dX3_read_40 ?_
  obtain ⟨e_43, f_43, h⟩ := zBx h
  refine a_callVu X dX3_read_43 miX4_clear lm3_68 (t_X4_clear (by assumption) f_43) (by assumption) rfl rfl rfl (Nat.le_of_ble_eq_true rfl) ⟨by decide, by decide, by decide, by decide⟩ ?_
  refine a_aload_n X dX3_read_46 rfl ?_
  refine a_iconst (v := 0) X dX3_read_47 (by decide) ?_
  obtain ⟨M_48, f_48, h⟩ := zLtx h
  refine d_puti X lf3_18 (by assumption) rfl dX3_read_48 f_48 ?_
  refine a_aload_n X dX3_read_51 rfl ?_
  refine a_iconst (v := -1) X dX3_read_52 (by decide) ?_
  obtain ⟨M_53, f_53, h⟩ := zLtx h
  refine d_puti X lf3_22 (by assumption) rfl dX3_read_53 f_53 ?_
  refine a_aload_n X dX3_read_56 rfl ?_
  obtain ⟨e_57, f_57, h⟩ := zBx h
  refine a_callVu X dX3_read_57 miX3_step lm3_71 (t_X3_step (by assumption) f_57) (by assumption) rfl rfl rfl (Nat.le_of_ble_eq_true rfl) ⟨by decide, by decide, by decide, by decide⟩ ?_
  refine a_iconst (v := 0) X dX3_read_60 (by decide) ?_
  refine a_istore_n X dX3_read_61 (by decide) ?_
  exact Zw.to2 (H_62 _ _ _ _ h) rfl rfl rfl
noncomputable def D_X4_take (Q : Nat) (A : Nat) (M : zMt) : Option (zMt) :=
  zLt (zu M Q 0 (M A 0)) fun M_5 =>
  zLt (zu M_5 Q 1 (M_5 A 1)) fun M_13 =>
  zLt (zu M_13 Q 2 (M_13 A 2)) fun M_21 =>
  zLt (zu M_21 Q 3 (M_21 A 3)) fun M_29 =>
  zLt (zu M_29 Q 4 (M_29 A 4)) fun M_37 =>
  zLt (zu M_37 Q 5 (M_37 A 5)) fun M_45 =>
  zLt (zu M_45 Q 6 (M_45 A 6)) fun M_53 =>
  zLt (zcpy M_53 (Q + 1) 5 (fun j => zrd 0 (M_53 (A + 1)) 5 (nI j))) fun M_64 =>
  zLt (zcpy M_64 (Q + 2) 10 (fun j => zrd 0 (M_64 (A + 2)) 10 (nI j))) fun M_75 =>
  zLt (zcpy M_75 (Q + 3) 10 (fun j => zrd 0 (M_75 (A + 3)) 10 (nI j))) fun M_86 =>
  zLt (zcpy M_86 (Q + 4) 10 (fun j => zrd 0 (M_86 (A + 4)) 10 (nI j))) fun M_97 =>
  zLt (zcpy M_97 (Q + 5) 10 (fun j => zrd 0 (M_97 (A + 5)) 10 (nI j))) fun M_108 =>
  zLt (zcpy M_108 (Q + 6) 30 (fun j => zrd 0 (M_108 (A + 6)) 30 (nI j))) fun M_119 =>
  zLt (zcpy M_119 (Q + 7) 10 (fun j => zrd 0 (M_119 (A + 7)) 10 (nI j))) fun M_130 =>
  some (M_130)
set_option maxRecDepth 100000 in
set_option maxHeartbeats 4000000 in
theorem t_X4_take {l : Launch} {G : zG} {b : Nat} {L : List zC} {M : zMt} {N : zNt} {Q : Nat} {A : Nat}  (hQ : LX4 L Q) (hA : LX4 L A) (dQA : Q + 8 ≤ A ∨ A + 8 ≤ Q) {r : zMt} (h : D_X4_take Q A M = some r) : zM l G b yX4_take cX4_take 2 none 2 0 0 [.ref Q, .ref A] (L, M, N) (fun r2 z => r2 = none ∧ z = (L, r, N)) := by
  refine zM.of miX4_take (Nat.le_of_ble_eq_true rfl) ?_
  intro p e s m args below meth c X hr hname
  generalize hF : ((fun r2 z => r2 = none ∧ z = (L, r, N)) : Option Value → zS → Prop) = FQ
  change Zw p l e { frames := 2, cells := 0, slots := 0, locals := 80 * (2) } s m args below meth c G b 2 (MQ below (zQ G b FQ) args s 0 0 (fun q : Nat => b ≤ q)) 0 0 0 [some (.ref Q), some (.ref A)] [] (L, M, N)
  obtain ⟨q_lt, q_o, q_quota, q_score, q_guest, q_party, q_wishCount, q_wishes, q_has⟩ := id hQ
  obtain ⟨a_lt, a_o, a_quota, a_score, a_guest, a_party, a_wishCount, a_wishes, a_has⟩ := id hA
  unfold D_X4_take at h
  refine a_aload_n X dX4_take_0 rfl ?_
  refine a_aload_n X dX4_take_1 rfl ?_
  refine a_geti X lf4_33 (by assumption) rfl dX4_take_2 ?_
  obtain ⟨M_5, f_5, h⟩ := zLtx h
  refine d_puti X lf4_33 (by assumption) rfl dX4_take_5 f_5 ?_
  refine a_aload_n X dX4_take_8 rfl ?_
  refine a_aload_n X dX4_take_9 rfl ?_
  refine a_geti X lf4_37 (by assumption) rfl dX4_take_10 ?_
  obtain ⟨M_13, f_13, h⟩ := zLtx h
  refine d_puti X lf4_37 (by assumption) rfl dX4_take_13 f_13 ?_
  refine a_aload_n X dX4_take_16 rfl ?_
  refine a_aload_n X dX4_take_17 rfl ?_
  refine a_geti X lf4_40 (by assumption) rfl dX4_take_18 ?_
  obtain ⟨M_21, f_21, h⟩ := zLtx h
  refine d_puti X lf4_40 (by assumption) rfl dX4_take_21 f_21 ?_
  refine a_aload_n X dX4_take_24 rfl ?_
  refine a_aload_n X dX4_take_25 rfl ?_
  refine a_geti X lf4_43 (by assumption) rfl dX4_take_26 ?_
  obtain ⟨M_29, f_29, h⟩ := zLtx h
  refine d_puti X lf4_43 (by assumption) rfl dX4_take_29 f_29 ?_
  refine a_aload_n X dX4_take_32 rfl ?_
  refine a_aload_n X dX4_take_33 rfl ?_
  refine a_geti X lf4_46 (by assumption) rfl dX4_take_34 ?_
  obtain ⟨M_37, f_37, h⟩ := zLtx h
  refine d_puti X lf4_46 (by assumption) rfl dX4_take_37 f_37 ?_
  refine a_aload_n X dX4_take_40 rfl ?_
  refine a_aload_n X dX4_take_41 rfl ?_
  refine a_geti X lf4_49 (by assumption) rfl dX4_take_42 ?_
  obtain ⟨M_45, f_45, h⟩ := zLtx h
  refine d_puti X lf4_49 (by assumption) rfl dX4_take_45 f_45 ?_
  refine a_aload_n X dX4_take_48 rfl ?_
  refine a_aload_n X dX4_take_49 rfl ?_
  refine a_geti X lf4_52 (by assumption) rfl dX4_take_50 ?_
  obtain ⟨M_53, f_53, h⟩ := zLtx h
  refine d_puti X lf4_52 (by assumption) rfl dX4_take_53 f_53 ?_
  refine a_aload_n X dX4_take_56 rfl ?_
  refine a_getr X lf4_9 (by assumption) rfl (by omega) dX4_take_57 ?_
  refine a_aload_n X dX4_take_60 rfl ?_
  refine a_getr X lf4_9 (by assumption) rfl (by omega) dX4_take_61 ?_
  obtain ⟨M_64, f_64, h⟩ := zLtx h
  refine a_callSNu X dX4_take_64 miX7_copy lm4_59 (zMu (c_copy (by assumption) (by assumption) (by first | decide | assumption) (by first | decide | assumption) (by omega)) f_64) rfl rfl (Nat.le_of_ble_eq_true rfl) ⟨by decide, by decide, by decide, by decide⟩ ?_
  refine a_aload_n X dX4_take_67 rfl ?_
  refine a_getr X lf4_15 (by assumption) rfl (by omega) dX4_take_68 ?_
  refine a_aload_n X dX4_take_71 rfl ?_
  refine a_getr X lf4_15 (by assumption) rfl (by omega) dX4_take_72 ?_
  obtain ⟨M_75, f_75, h⟩ := zLtx h
  refine a_callSNu X dX4_take_75 miX7_copy lm4_59 (zMu (c_copy (by assumption) (by assumption) (by first | decide | assumption) (by first | decide | assumption) (by omega)) f_75) rfl rfl (Nat.le_of_ble_eq_true rfl) ⟨by decide, by decide, by decide, by decide⟩ ?_
  refine a_aload_n X dX4_take_78 rfl ?_
  refine a_getr X lf4_18 (by assumption) rfl (by omega) dX4_take_79 ?_
  refine a_aload_n X dX4_take_82 rfl ?_
  refine a_getr X lf4_18 (by assumption) rfl (by omega) dX4_take_83 ?_
  obtain ⟨M_86, f_86, h⟩ := zLtx h
  refine a_callSNu X dX4_take_86 miX7_copy lm4_59 (zMu (c_copy (by assumption) (by assumption) (by first | decide | assumption) (by first | decide | assumption) (by omega)) f_86) rfl rfl (Nat.le_of_ble_eq_true rfl) ⟨by decide, by decide, by decide, by decide⟩ ?_
  refine a_aload_n X dX4_take_89 rfl ?_
  refine a_getr X lf4_21 (by assumption) rfl (by omega) dX4_take_90 ?_
  refine a_aload_n X dX4_take_93 rfl ?_
  refine a_getr X lf4_21 (by assumption) rfl (by omega) dX4_take_94 ?_
  obtain ⟨M_97, f_97, h⟩ := zLtx h
  refine a_callSNu X dX4_take_97 miX7_copy lm4_59 (zMu (c_copy (by assumption) (by assumption) (by first | decide | assumption) (by first | decide | assumption) (by omega)) f_97) rfl rfl (Nat.le_of_ble_eq_true rfl) ⟨by decide, by decide, by decide, by decide⟩ ?_
  refine a_aload_n X dX4_take_100 rfl ?_
  refine a_getr X lf4_24 (by assumption) rfl (by omega) dX4_take_101 ?_
  refine a_aload_n X dX4_take_104 rfl ?_
  refine a_getr X lf4_24 (by assumption) rfl (by omega) dX4_take_105 ?_
  obtain ⟨M_108, f_108, h⟩ := zLtx h
  refine a_callSNu X dX4_take_108 miX7_copy lm4_59 (zMu (c_copy (by assumption) (by assumption) (by first | decide | assumption) (by first | decide | assumption) (by omega)) f_108) rfl rfl (Nat.le_of_ble_eq_true rfl) ⟨by decide, by decide, by decide, by decide⟩ ?_
  refine a_aload_n X dX4_take_111 rfl ?_
  refine a_getr X lf4_27 (by assumption) rfl (by omega) dX4_take_112 ?_
  refine a_aload_n X dX4_take_115 rfl ?_
  refine a_getr X lf4_27 (by assumption) rfl (by omega) dX4_take_116 ?_
  obtain ⟨M_119, f_119, h⟩ := zLtx h
  refine a_callSNu X dX4_take_119 miX7_copy lm4_59 (zMu (c_copy (by assumption) (by assumption) (by first | decide | assumption) (by first | decide | assumption) (by omega)) f_119) rfl rfl (Nat.le_of_ble_eq_true rfl) ⟨by decide, by decide, by decide, by decide⟩ ?_
  refine a_aload_n X dX4_take_122 rfl ?_
  refine a_getr X lf4_30 (by assumption) rfl (by omega) dX4_take_123 ?_
  refine a_aload_n X dX4_take_126 rfl ?_
  refine a_getr X lf4_30 (by assumption) rfl (by omega) dX4_take_127 ?_
  obtain ⟨M_130, f_130, h⟩ := zLtx h
  refine a_callSNu X dX4_take_130 miX7_copy lm4_59 (zMu (c_copy (by assumption) (by assumption) (by first | decide | assumption) (by first | decide | assumption) (by omega)) f_130) rfl rfl (Nat.le_of_ble_eq_true rfl) ⟨by decide, by decide, by decide, by decide⟩ ?_
  refine a_vret X hr dX4_take_133 ⟨by decide, by decide⟩ ?_
  subst hF
  rw [← Option.some.inj h]
  exact ⟨rfl, rfl⟩
theorem z_vin {k : Int32} {n : Nat} (hn : n < 2 ^ 31) (h : vp_in k n) : k = nI k.toNatClampNeg ∧ k.toNatClampNeg < n := by
  have h0 : ¬ k < 0 := fun q => h (Or.inl q)
  have h1 : k.toNatClampNeg < n := Nat.not_le.mp (fun q => h (Or.inr q))
  have e1 : k.toNatClampNeg = k.toInt.toNat := rfl
  have e0 : (0 : Int32).toInt = 0 := by decide
  rw [Int32.lt_iff_toInt_lt] at h0
  refine ⟨?_, h1⟩
  apply Int32.toInt_inj.mp
  rw [nI_toInt (by omega), e1]
  omega
noncomputable def D_X1_keep_22 (Q A : Nat) (y1 : Int32) (M : zMt) : Option zMt :=
  zLt (zu M Q 1 y1) fun M1 =>
  zI y1 8 <|
  zB (D_X4_take (Q + 2 + 8 * y1.toNatClampNeg) A M1) fun M2 =>
  zLt (zu M2 Q 0 (if 8 < M2 Q 0 + 1 then 8 else M2 Q 0 + 1)) fun M3 =>
  some M3
noncomputable def D_X1_keep (Q A : Nat) (M : zMt) : Option zMt :=
  if 8 ≤ M Q 1 + 1 then D_X1_keep_22 Q A 0 M else D_X1_keep_22 Q A (M Q 1 + 1) M
noncomputable def D_X1_giveBack_52 (Q A : Nat) (y : Int32) (M : zMt) : Option (Int32 × zMt) :=
  zLt (zu M Q 1 y) fun M1 =>
  some (1, M1)
noncomputable def D_X1_giveBack (Q A : Nat) (M : zMt) : Option (Int32 × zMt) :=
  zI (M Q 1) 8 <|
  if M Q 0 = 0 then some (0, M)
  else
    zB (D_X4_take A (Q + 2 + 8 * (M Q 1).toNatClampNeg) M) fun M1 =>
    zLt (zu M1 Q 0 (M1 Q 0 - 1)) fun M2 =>
    if M2 Q 1 ≤ 0 then D_X1_giveBack_52 Q A 7 M2 else D_X1_giveBack_52 Q A (M2 Q 1 - 1) M2
set_option maxRecDepth 100000 in
theorem t_X1_keep {l : Launch} {G : zG} {b : Nat} {L : List zC} {M : zMt} {N : zNt} {Q A : Nat} (hQ : LX1 L Q) (hA : LX4 L A) (dQA : Q + 66 ≤ A ∨ A + 8 ≤ Q) {r : zMt} (h : D_X1_keep Q A M = some r) : zM l G b yX1_keep cX1_keep 3 none 3 0 0 [.ref Q, .ref A] (L, M, N) (fun r2 z => r2 = none ∧ z = (L, r, N)) := by
  refine zM.of miX1_keep (Nat.le_of_ble_eq_true rfl) ?_
  intro p e s m args below meth c X hr hname
  generalize hF : ((fun r2 z => r2 = none ∧ z = (L, r, N)) : Option Value → zS → Prop) = FQ
  change Zw p l e { frames := 3, cells := 0, slots := 0, locals := 80 * 3 } s m args below meth c G b 3 (MQ below (zQ G b FQ) args s 0 0 (fun q : Nat => b ≤ q)) 0 0 0 [some (.ref Q), some (.ref A), none] [] (L, M, N)
  have hQ9 := hQ
  obtain ⟨plt, po, pstood, pstood0, pstood1, pstood2, pstood3, pstood4, pstood5, pstood6, pstood7⟩ := id hQ
  have hst : ∀ k : Nat, k < 8 → LX4 L (Q + 2 + 8 * k) := fun k hk => by match k, hk with | 0, _ => exact pstood0 | 1, _ => exact pstood1 | 2, _ => exact pstood2 | 3, _ => exact pstood3 | 4, _ => exact pstood4 | 5, _ => exact pstood5 | 6, _ => exact pstood6 | 7, _ => exact pstood7
  have J : ∀ y : Int32, D_X1_keep_22 Q A y M = some r → Zw p l e { frames := 3, cells := 0, slots := 0, locals := 80 * 3 } s m args below meth c G b 3 (MQ below (zQ G b FQ) args s 0 0 (fun q : Nat => b ≤ q)) 0 0 22 [some (.ref Q), some (.ref A), none] [.int y, .ref Q] (L, M, N) := by
    intro y h
    unfold D_X1_keep_22 at h
    obtain ⟨M1, f1, h⟩ := zLtx h
    obtain ⟨g1, h⟩ := zIx h
    obtain ⟨hy, hk8⟩ := z_vin (by decide) g1
    obtain ⟨M2, f2, h⟩ := zBx h
    obtain ⟨M3, f3, h⟩ := zLtx h
    refine d_puti X lf1_22 (by assumption) rfl dX1_keep_22 f1 ?_
    refine a_aload_n X dX1_keep_25 rfl ?_
    refine a_callVv X dX1_keep_26 miX1_newestStood lm1_25 (c_newestStood (k := y.toNatClampNeg) hQ9 (by rw [← hy, ← f1]; exact zu_eq) hk8) (by assumption) rfl rfl rfl (Nat.le_of_ble_eq_true rfl) ⟨by decide, by decide, by decide, by decide⟩ ?_
    refine a_astore_n X dX1_keep_29 (by decide) ?_
    refine a_aload_n X dX1_keep_30 rfl ?_
    refine a_ifnonnull (tgt := 35) X dX1_keep_31 (by decide) ?_
    refine a_aload_n X dX1_keep_35 rfl ?_
    refine a_aload_n X dX1_keep_36 rfl ?_
    refine a_callVu X dX1_keep_37 miX4_take lm1_29 (t_X4_take (hst _ hk8) hA (by omega) f2) ((hst _ hk8).2.1) rfl rfl rfl (Nat.le_of_ble_eq_true rfl) ⟨by decide, by decide, by decide, by decide⟩ ?_
    refine a_aload_n X dX1_keep_40 rfl ?_
    refine a_aload_n X dX1_keep_41 rfl ?_
    refine a_geti X lf1_18 (by assumption) rfl dX1_keep_42 ?_
    refine a_iconst (v := 1) X dX1_keep_45 (by decide) ?_
    refine a_iadd X dX1_keep_46 ?_
    refine a_bipush (v := 8) X dX1_keep_47 (by decide) ?_
    refine a_mmin X lm1_33 zmath2 zmath0 zmathc2 ⟨by decide, Nat.le_of_ble_eq_true rfl, by decide, by decide⟩ dX1_keep_49 ?_
    refine d_puti X lf1_18 (by assumption) rfl dX1_keep_52 f3 ?_
    refine a_vret X hr dX1_keep_55 ⟨by decide, by decide⟩ ?_
    subst hF
    rw [← Option.some.inj h]
    exact ⟨rfl, rfl⟩
  unfold D_X1_keep at h
  refine a_aload_n X dX1_keep_0 rfl ?_
  refine a_aload_n X dX1_keep_1 rfl ?_
  refine a_geti X lf1_22 (by assumption) rfl dX1_keep_2 ?_
  refine a_iconst (v := 1) X dX1_keep_5 (by decide) ?_
  refine a_iadd X dX1_keep_6 ?_
  refine a_bipush (v := 8) X dX1_keep_7 (by decide) ?_
  refine a_icmp_ge (tgt := 21) X dX1_keep_9 (by decide) (fun h_9 => ?_) (fun h_9 => ?_)
  · replace h := (if_pos h_9).symm.trans h
    refine a_iconst (v := 0) X dX1_keep_21 (by decide) ?_
    exact J 0 h
  · replace h := (if_neg h_9).symm.trans h
    refine a_aload_n X dX1_keep_12 rfl ?_
    refine a_geti X lf1_22 (by assumption) rfl dX1_keep_13 ?_
    refine a_iconst (v := 1) X dX1_keep_16 (by decide) ?_
    refine a_iadd X dX1_keep_17 ?_
    refine a_goto (tgt := 22) X dX1_keep_18 (by decide) ?_
    exact J _ h
set_option maxRecDepth 100000 in
theorem t_X1_giveBack {l : Launch} {G : zG} {b : Nat} {L : List zC} {M : zMt} {N : zNt} {Q A : Nat} (hQ : LX1 L Q) (hA : LX4 L A) (dQA : Q + 66 ≤ A ∨ A + 8 ≤ Q) {r : Int32 × zMt} (h : D_X1_giveBack Q A M = some r) : zM l G b yX1_giveBack cX1_giveBack 3 (some .boolean) 3 0 0 [.ref Q, .ref A] (L, M, N) (fun r2 z => r2 = some (.int r.1) ∧ z = (L, r.2, N) ∧ (r.1 = 0 ∨ r.1 = 1)) := by
  refine zM.of miX1_giveBack (Nat.le_of_ble_eq_true rfl) ?_
  intro p e s m args below meth c X hr hname
  generalize hF : ((fun r2 z => r2 = some (.int r.1) ∧ z = (L, r.2, N) ∧ (r.1 = 0 ∨ r.1 = 1)) : Option Value → zS → Prop) = FQ
  change Zw p l e { frames := 3, cells := 0, slots := 0, locals := 80 * 3 } s m args below meth c G b 3 (MQ below (zQ G b FQ) args s 0 0 (fun q : Nat => b ≤ q)) 0 0 0 [some (.ref Q), some (.ref A), none] [] (L, M, N)
  have hQ9 := hQ
  obtain ⟨plt, po, pstood, pstood0, pstood1, pstood2, pstood3, pstood4, pstood5, pstood6, pstood7⟩ := id hQ
  have hst : ∀ k : Nat, k < 8 → LX4 L (Q + 2 + 8 * k) := fun k hk => by match k, hk with | 0, _ => exact pstood0 | 1, _ => exact pstood1 | 2, _ => exact pstood2 | 3, _ => exact pstood3 | 4, _ => exact pstood4 | 5, _ => exact pstood5 | 6, _ => exact pstood6 | 7, _ => exact pstood7
  have J : ∀ (z2 : Option Value) (y : Int32) (M2 : zMt), D_X1_giveBack_52 Q A y M2 = some r → Zw p l e { frames := 3, cells := 0, slots := 0, locals := 80 * 3 } s m args below meth c G b 3 (MQ below (zQ G b FQ) args s 0 0 (fun q : Nat => b ≤ q)) 0 0 52 [some (.ref Q), some (.ref A), z2] [.int y, .ref Q] (L, M2, N) := by
    intro z2 y M2 h
    unfold D_X1_giveBack_52 at h
    obtain ⟨M1, f1, h⟩ := zLtx h
    refine d_puti X lf1_22 (by assumption) rfl dX1_giveBack_52 f1 ?_
    refine a_iconst (v := 1) X dX1_giveBack_55 (by decide) ?_
    refine a_zret X (Or.inr rfl) hr dX1_giveBack_56 ⟨by decide, by decide⟩ ?_
    subst hF
    rw [← Option.some.inj h]
    exact ⟨rfl, rfl, Or.inr rfl⟩
  unfold D_X1_giveBack at h
  obtain ⟨g1, h⟩ := zIx h
  obtain ⟨hy, hk8⟩ := z_vin (by decide) g1
  refine a_aload_n X dX1_giveBack_0 rfl ?_
  refine a_callVv X dX1_giveBack_1 miX1_newestStood lm1_25 (c_newestStood (k := (M Q 1).toNatClampNeg) hQ9 hy hk8) (by assumption) rfl rfl rfl (Nat.le_of_ble_eq_true rfl) ⟨by decide, by decide, by decide, by decide⟩ ?_
  refine a_astore_n X dX1_giveBack_4 (by decide) ?_
  refine a_aload_n X dX1_giveBack_5 rfl ?_
  refine a_geti X lf1_18 (by assumption) rfl dX1_giveBack_6 ?_
  refine a_if_eq (tgt := 16) X dX1_giveBack_9 (by decide) (fun h_9 => ?_) (fun h_9 => ?_)
  · replace h := (if_pos h_9).symm.trans h
    refine a_iconst (v := 0) X dX1_giveBack_16 (by decide) ?_
    refine a_zret X (Or.inl rfl) hr dX1_giveBack_17 ⟨by decide, by decide⟩ ?_
    subst hF
    rw [← Option.some.inj h]
    exact ⟨rfl, rfl, Or.inl rfl⟩
  · replace h := (if_neg h_9).symm.trans h
    obtain ⟨M1, f1, h⟩ := zBx h
    obtain ⟨M2, f2, h⟩ := zLtx h
    refine a_aload_n X dX1_giveBack_12 rfl ?_
    refine a_ifnonnull (tgt := 18) X dX1_giveBack_13 (by decide) ?_
    refine a_aload_n X dX1_giveBack_18 rfl ?_
    refine a_aload_n X dX1_giveBack_19 rfl ?_
    refine a_callVu X dX1_giveBack_20 miX4_take lm1_29 (t_X4_take hA (hst _ hk8) (by omega) f1) (hA.2.1) rfl rfl rfl (Nat.le_of_ble_eq_true rfl) ⟨by decide, by decide, by decide, by decide⟩ ?_
    refine a_aload_n X dX1_giveBack_23 rfl ?_
    refine a_dup X dX1_giveBack_24 rfl ?_
    refine a_geti X lf1_18 (by assumption) rfl dX1_giveBack_25 ?_
    refine a_iconst (v := 1) X dX1_giveBack_28 (by decide) ?_
    refine a_isub X dX1_giveBack_29 ?_
    refine d_puti X lf1_18 (by assumption) rfl dX1_giveBack_30 f2 ?_
    refine a_aload_n X dX1_giveBack_33 rfl ?_
    refine a_aload_n X dX1_giveBack_34 rfl ?_
    refine a_geti X lf1_22 (by assumption) rfl dX1_giveBack_35 ?_
    refine a_if_le (tgt := 50) X dX1_giveBack_38 (by decide) (fun h_38 => ?_) (fun h_38 => ?_)
    · replace h := (if_pos h_38).symm.trans h
      refine a_bipush (v := 7) X dX1_giveBack_50 (by decide) ?_
      exact J _ _ _ h
    · replace h := (if_neg h_38).symm.trans h
      refine a_aload_n X dX1_giveBack_41 rfl ?_
      refine a_geti X lf1_22 (by assumption) rfl dX1_giveBack_42 ?_
      refine a_iconst (v := 1) X dX1_giveBack_45 (by decide) ?_
      refine a_isub X dX1_giveBack_46 ?_
      refine a_goto (tgt := 52) X dX1_giveBack_47 (by decide) ?_
      exact J _ _ _ h
noncomputable def D_X4_join (Q : Nat) (v0 : Int32) (v1 : Int32) (M : zMt) : Option (zMt) :=
  zB (D_X4_wishFor Q ((1 : Int32) <<< (v1 &&& 31)) (zrd 0 (M (Q + 6)) 30 (v0 * (3 : Int32))) (zrd 0 (M (Q + 6)) 30 ((v0 * (3 : Int32)) + (1 : Int32))) (zrd 0 (M (Q + 6)) 30 ((v0 * (3 : Int32)) + (2 : Int32))) M) fun e_36 =>
  zB (D_X4_addParty Q (((1 : Int32) <<< (v0 &&& 31)) ||| ((1 : Int32) <<< (v1 &&& 31))) e_36) fun e_47 =>
  some (e_47)
set_option maxRecDepth 100000 in
set_option maxHeartbeats 4000000 in
theorem t_X4_join {l : Launch} {G : zG} {b : Nat} {L : List zC} {M : zMt} {N : zNt} {Q : Nat} {v0 : Int32} {v1 : Int32} (hQ : LX4 L Q) {r : zMt} (h : D_X4_join Q v0 v1 M = some r) : zM l G b yX4_join cX4_join 4 none 2 0 0 [.ref Q, .int v0, .int v1] (L, M, N) (fun r2 z => r2 = none ∧ z = (L, r, N)) := by
  refine zM.of miX4_join (Nat.le_of_ble_eq_true rfl) ?_
  intro p e s m args below meth c X hr hname
  generalize hF : ((fun r2 z => r2 = none ∧ z = (L, r, N)) : Option Value → zS → Prop) = FQ
  change Zw p l e { frames := 2, cells := 0, slots := 0, locals := 80 * (2) } s m args below meth c G b 4 (MQ below (zQ G b FQ) args s 0 0 (fun q : Nat => b ≤ q)) 0 0 0 [some (.ref Q), some (.int v0), some (.int v1), none] [] (L, M, N)
  obtain ⟨q_lt, q_o, q_quota, q_score, q_guest, q_party, q_wishCount, q_wishes, q_has⟩ := id hQ
  unfold D_X4_join at h
  refine a_iload_n X dX4_join_0 rfl ?_
  refine a_iconst (v := 3) X dX4_join_1 (by decide) ?_
  refine a_imul X dX4_join_2 ?_
  refine a_istore_n X dX4_join_3 (by decide) ?_
  refine a_aload_n X dX4_join_4 rfl ?_
  refine a_iconst (v := 1) X dX4_join_5 (by decide) ?_
  refine a_iload_n X dX4_join_6 rfl ?_
  refine a_ishl X dX4_join_7 ?_
  refine a_aload_n X dX4_join_8 rfl ?_
  refine a_getr X lf4_27 (by assumption) rfl (by omega) dX4_join_9 ?_
  refine a_iload_n X dX4_join_12 rfl ?_
  refine a_callSNv X dX4_join_13 miX7_cell lm4_67 (c_cell (by assumption) (by first | decide | assumption)) rfl rfl (Nat.le_of_ble_eq_true rfl) ⟨by decide, by decide, by decide, by decide⟩ ?_
  refine a_aload_n X dX4_join_16 rfl ?_
  refine a_getr X lf4_27 (by assumption) rfl (by omega) dX4_join_17 ?_
  refine a_iload_n X dX4_join_20 rfl ?_
  refine a_iconst (v := 1) X dX4_join_21 (by decide) ?_
  refine a_iadd X dX4_join_22 ?_
  refine a_callSNv X dX4_join_23 miX7_cell lm4_67 (c_cell (by assumption) (by first | decide | assumption)) rfl rfl (Nat.le_of_ble_eq_true rfl) ⟨by decide, by decide, by decide, by decide⟩ ?_
  refine a_aload_n X dX4_join_26 rfl ?_
  refine a_getr X lf4_27 (by assumption) rfl (by omega) dX4_join_27 ?_
  refine a_iload_n X dX4_join_30 rfl ?_
  refine a_iconst (v := 2) X dX4_join_31 (by decide) ?_
  refine a_iadd X dX4_join_32 ?_
  refine a_callSNv X dX4_join_33 miX7_cell lm4_67 (c_cell (by assumption) (by first | decide | assumption)) rfl rfl (Nat.le_of_ble_eq_true rfl) ⟨by decide, by decide, by decide, by decide⟩ ?_
  obtain ⟨e_36, f_36, h⟩ := zBx h
  refine a_callVu X dX4_join_36 miX4_wishFor lm4_71 (t_X4_wishFor (by assumption) f_36) (by assumption) rfl rfl rfl (Nat.le_of_ble_eq_true rfl) ⟨by decide, by decide, by decide, by decide⟩ ?_
  refine a_aload_n X dX4_join_39 rfl ?_
  refine a_iconst (v := 1) X dX4_join_40 (by decide) ?_
  refine a_iload_n X dX4_join_41 rfl ?_
  refine a_ishl X dX4_join_42 ?_
  refine a_iconst (v := 1) X dX4_join_43 (by decide) ?_
  refine a_iload_n X dX4_join_44 rfl ?_
  refine a_ishl X dX4_join_45 ?_
  refine a_ior X dX4_join_46 ?_
  obtain ⟨e_47, f_47, h⟩ := zBx h
  refine a_callVu X dX4_join_47 miX4_addParty lm4_75 (t_X4_addParty (by assumption) f_47) (by assumption) rfl rfl rfl (Nat.le_of_ble_eq_true rfl) ⟨by decide, by decide, by decide, by decide⟩ ?_
  refine a_vret X hr dX4_join_50 ⟨by decide, by decide⟩ ?_
  subst hF
  rw [← Option.some.inj h]
  exact ⟨rfl, rfl⟩
noncomputable def D_X4_dissolve_52 (Q : Nat) (k2 : Int32 → Int32 → zMt → Option (zMt)) (x1_52 : Int32) (x2_52 : Int32) (M_52 : zMt) : Option (zMt) :=
  k2 x1_52 (x2_52 + 1) M_52
noncomputable def D_X4_dissolve_2 (Q : Nat) : Nat → Int32 → Int32 → zMt → Option (zMt)
  | 0, _, _, _ => none
  | n + 1, x1_2, x2_2, M_2 =>
    if (M_2 Q 1) ≤ x2_2 then
      zLt (zu M_2 Q 2 ((M_2 Q 2) - (1 : Int32))) fun M_65 =>
      some (M_65)
    else
      if (zrd 0 (M_2 (Q + 4)) 10 x2_2) = x1_2 then
        zLt (zwr M_2 (Q + 4) 10 x2_2 (-1 : Int32)) fun M_30 =>
        D_X4_dissolve_52 Q (D_X4_dissolve_2 Q n) x1_2 x2_2 M_30
      else
        if (zrd 0 (M_2 (Q + 4)) 10 x2_2) ≤ x1_2 then
          D_X4_dissolve_52 Q (D_X4_dissolve_2 Q n) x1_2 x2_2 M_2
        else
          zLt (zwr M_2 (Q + 4) 10 x2_2 ((zrd 0 (M_2 (Q + 4)) 10 x2_2) - (1 : Int32))) fun M_49 =>
          D_X4_dissolve_52 Q (D_X4_dissolve_2 Q n) x1_2 x2_2 M_49
noncomputable def D_X4_dissolve (Q : Nat) (v0 : Int32) (M : zMt) : Option (zMt) :=
  D_X4_dissolve_2 Q zFu v0 (0 : Int32) M
set_option maxRecDepth 100000 in
set_option maxHeartbeats 4000000 in
theorem t_X4_dissolve {l : Launch} {G : zG} {b : Nat} {L : List zC} {M : zMt} {N : zNt} {Q : Nat} {v0 : Int32} (hQ : LX4 L Q) {r : zMt} (h : D_X4_dissolve Q v0 M = some r) : zM l G b yX4_dissolve cX4_dissolve 4 none 1 0 0 [.ref Q, .int v0] (L, M, N) (fun r2 z => r2 = none ∧ z = (L, r, N)) := by
  refine zM.of miX4_dissolve (Nat.le_of_ble_eq_true rfl) ?_
  intro p e s m args below meth c X hr hname
  generalize hF : ((fun r2 z => r2 = none ∧ z = (L, r, N)) : Option Value → zS → Prop) = FQ
  change Zw p l e { frames := 1, cells := 0, slots := 0, locals := 80 * (1) } s m args below meth c G b 4 (MQ below (zQ G b FQ) args s 0 0 (fun q : Nat => b ≤ q)) 0 0 0 [some (.ref Q), some (.int v0), none, none] [] (L, M, N)
  obtain ⟨q_lt, q_o, q_quota, q_score, q_guest, q_party, q_wishCount, q_wishes, q_has⟩ := id hQ
  have L_2 : ∀ u : Nat, ∀ (x1_2 : Int32) (x2_2 : Int32) (x3_2 : Option Value) (M_2 : zMt), D_X4_dissolve_2 Q u x1_2 x2_2 M_2 = some r → Zw p l e { frames := 1, cells := 0, slots := 0, locals := 80 * (1) } s m args below meth c G b 4 (MQ below (zQ G b FQ) args s 0 0 (fun q : Nat => b ≤ q)) 0 0 2 [some (.ref (Q)), some (.int x1_2), some (.int x2_2), x3_2] [] (L, M_2, N) := by
    intro u
    induction u with
    | zero => intro x1_2 x2_2 x3_2 M_2 h; cases (show none = some r from h)
    | succ u_2 ih_2 =>
      have J_52 : ∀ (x1_52 : Int32) (x2_52 : Int32) (x3_52 : Int32) (M_52 : zMt), D_X4_dissolve_52 Q (D_X4_dissolve_2 Q u_2) x1_52 x2_52 M_52 = some r → Zw p l e { frames := 1, cells := 0, slots := 0, locals := 80 * (1) } s m args below meth c G b 4 (MQ below (zQ G b FQ) args s 0 0 (fun q : Nat => b ≤ q)) 0 0 52 [some (.ref (Q)), some (.int x1_52), some (.int x2_52), some (.int x3_52)] [] (L, M_52, N) := by
        intro x1_52 x2_52 x3_52 M_52 h
        unfold D_X4_dissolve_52 at h
        refine a_iinc (v := x2_52 + 1) X dX4_dissolve_52 (by decide) rfl zi_1 ?_
        refine a_goto (tgt := 2) X dX4_dissolve_55 (by decide) ?_
        exact Zw.to2 (ih_2 _ _ _ _ h) rfl rfl rfl
      intro x1_2 x2_2 x3_2 M_2 h
      rw [D_X4_dissolve_2] at h
      refine a_iload_n X dX4_dissolve_2 rfl ?_
      refine a_aload_n X dX4_dissolve_3 rfl ?_
      refine a_geti X lf4_37 (by assumption) rfl dX4_dissolve_4 ?_
      refine a_icmp_ge (tgt := 58) X dX4_dissolve_7 (by decide) (fun h_7 => ?_) (fun h_7 => ?_)
      · replace h := (if_pos h_7).symm.trans h
        refine a_aload_n X dX4_dissolve_58 rfl ?_
        refine a_dup X dX4_dissolve_59 rfl ?_
        refine a_geti X lf4_40 (by assumption) rfl dX4_dissolve_60 ?_
        refine a_iconst (v := 1) X dX4_dissolve_63 (by decide) ?_
        refine a_isub X dX4_dissolve_64 ?_
        obtain ⟨M_65, f_65, h⟩ := zLtx h
        refine d_puti X lf4_40 (by assumption) rfl dX4_dissolve_65 f_65 ?_
        refine a_vret X hr dX4_dissolve_68 ⟨by decide, by decide⟩ ?_
        subst hF
        rw [← Option.some.inj h]
        exact ⟨rfl, rfl⟩
      · replace h := (if_neg h_7).symm.trans h
        refine a_aload_n X dX4_dissolve_10 rfl ?_
        refine a_getr X lf4_21 (by assumption) rfl (by omega) dX4_dissolve_11 ?_
        refine a_iload_n X dX4_dissolve_14 rfl ?_
        refine a_callSNv X dX4_dissolve_15 miX7_cell lm4_67 (c_cell (by assumption) (by first | decide | assumption)) rfl rfl (Nat.le_of_ble_eq_true rfl) ⟨by decide, by decide, by decide, by decide⟩ ?_
        refine a_istore_n X dX4_dissolve_18 (by decide) ?_
        refine a_iload_n X dX4_dissolve_19 rfl ?_
        refine a_iload_n X dX4_dissolve_20 rfl ?_
        refine a_icmp_ne (tgt := 36) X dX4_dissolve_21 (by decide) (fun h_21 => ?_) (fun h_21 => ?_)
        · replace h := (if_neg h_21).symm.trans h
          refine a_iload_n X dX4_dissolve_36 rfl ?_
          refine a_iload_n X dX4_dissolve_37 rfl ?_
          refine a_icmp_le (tgt := 52) X dX4_dissolve_38 (by decide) (fun h_38 => ?_) (fun h_38 => ?_)
          · replace h := (if_pos h_38).symm.trans h
            exact Zw.to2 (J_52 _ _ _ _ h) rfl rfl rfl
          · replace h := (if_neg h_38).symm.trans h
            refine a_aload_n X dX4_dissolve_41 rfl ?_
            refine a_getr X lf4_21 (by assumption) rfl (by omega) dX4_dissolve_42 ?_
            refine a_iload_n X dX4_dissolve_45 rfl ?_
            refine a_iload_n X dX4_dissolve_46 rfl ?_
            refine a_iconst (v := 1) X dX4_dissolve_47 (by decide) ?_
            refine a_isub X dX4_dissolve_48 ?_
            obtain ⟨M_49, f_49, h⟩ := zLtx h
            refine a_callSNu X dX4_dissolve_49 miX7_put lm4_63 (zMu (c_put (by assumption) (by first | decide | assumption)) f_49) rfl rfl (Nat.le_of_ble_eq_true rfl) ⟨by decide, by decide, by decide, by decide⟩ ?_
            exact Zw.to2 (J_52 _ _ _ _ h) rfl rfl rfl
        · replace h := (if_pos h_21).symm.trans h
          refine a_aload_n X dX4_dissolve_24 rfl ?_
          refine a_getr X lf4_21 (by assumption) rfl (by omega) dX4_dissolve_25 ?_
          refine a_iload_n X dX4_dissolve_28 rfl ?_
          refine a_iconst (v := -1) X dX4_dissolve_29 (by decide) ?_
          obtain ⟨M_30, f_30, h⟩ := zLtx h
          refine a_callSNu X dX4_dissolve_30 miX7_put lm4_63 (zMu (c_put (by assumption) (by first | decide | assumption)) f_30) rfl rfl (Nat.le_of_ble_eq_true rfl) ⟨by decide, by decide, by decide, by decide⟩ ?_
          refine a_goto (tgt := 52) X dX4_dissolve_33 (by decide) ?_
          exact Zw.to2 (J_52 _ _ _ _ h) rfl rfl rfl
  have H_2 : ∀ (x1_2 : Int32) (x2_2 : Int32) (x3_2 : Option Value) (M_2 : zMt), D_X4_dissolve_2 Q zFu x1_2 x2_2 M_2 = some r → Zw p l e { frames := 1, cells := 0, slots := 0, locals := 80 * (1) } s m args below meth c G b 4 (MQ below (zQ G b FQ) args s 0 0 (fun q : Nat => b ≤ q)) 0 0 2 [some (.ref (Q)), some (.int x1_2), some (.int x2_2), x3_2] [] (L, M_2, N) := L_2 zFu
  unfold D_X4_dissolve at h
  refine a_iconst (v := 0) X dX4_dissolve_0 (by decide) ?_
  refine a_istore_n X dX4_dissolve_1 (by decide) ?_
  exact Zw.to2 (H_2 _ _ _ _ h) rfl rfl rfl
noncomputable def D_X5_hasFirst_34 (Q : Nat) (A : Nat) (M : zMt) (y0_34 : Int32) : Option (Int32) :=
  some (y0_34)
noncomputable def D_X5_hasFirst_33 (Q : Nat) (A : Nat) (M : zMt)  : Option (Int32) :=
  D_X5_hasFirst_34 Q A M (0 : Int32)
noncomputable def D_X5_hasFirst (Q : Nat) (A : Nat) (M : zMt) (v0 : Int32) : Option (Int32) :=
  if (zrd 0 (M (Q + 2)) 10 v0) = (-1 : Int32) then
    D_X5_hasFirst_33 Q A M
  else
    zB (D_X2_wish A M v0 (0 : Int32)) fun e_23 =>
    if (zrd 0 (M (Q + 2)) 10 v0) = e_23 then
      D_X5_hasFirst_34 Q A M (1 : Int32)
    else
      D_X5_hasFirst_33 Q A M
set_option maxRecDepth 100000 in
set_option maxHeartbeats 4000000 in
theorem t_X5_hasFirst {l : Launch} {G : zG} {b : Nat} {L : List zC} {M : zMt} {N : zNt} {Q : Nat} {A : Nat} {v0 : Int32} (hQ : LX5 L Q) (hA : LX2 L A) {r : Int32} (h : D_X5_hasFirst Q A M v0 = some r) : zM l G b yX5_hasFirst cX5_hasFirst 3 (some .boolean) 2 0 0 [.ref Q, .ref A, .int v0] (L, M, N) (fun r2 z => r2 = some (.int r) ∧ z = (L, M, N) ∧ (r = 0 ∨ r = 1)) := by
  refine zM.of miX5_hasFirst (Nat.le_of_ble_eq_true rfl) ?_
  intro p e s m args below meth c X hr hname
  generalize hF : ((fun r2 z => r2 = some (.int r) ∧ z = (L, M, N) ∧ (r = 0 ∨ r = 1)) : Option Value → zS → Prop) = FQ
  change Zw p l e { frames := 2, cells := 0, slots := 0, locals := 80 * (2) } s m args below meth c G b 3 (MQ below (zQ G b FQ) args s 0 0 (fun q : Nat => b ≤ q)) 0 0 0 [some (.ref Q), some (.ref A), some (.int v0)] [] (L, M, N)
  obtain ⟨q_lt, q_o, q_line, q_unitOf, q_roundOf, q_leftTags, q_leftGuests, q_leftPreferred, q_ranked⟩ := id hQ
  obtain ⟨a_lt, a_o, a_quota, a_preferred, a_forGuests, a_applicantOf, a_size, a_guestCount, a_score, a_tickets, a_bits, a_party, a_wishCount, a_wishes⟩ := id hA
  have J_34 : ∀ (x2_34 : Int32) (y0_34 : Int32), (y0_34 = 0 ∨ y0_34 = 1) → D_X5_hasFirst_34 Q A M y0_34 = some r → Zw p l e { frames := 2, cells := 0, slots := 0, locals := 80 * (2) } s m args below meth c G b 3 (MQ below (zQ G b FQ) args s 0 0 (fun q : Nat => b ≤ q)) 0 0 34 [some (.ref (Q)), some (.ref (A)), some (.int x2_34)] [.int y0_34] (L, M, N) := by
    intro x2_34 y0_34 fb_y0_34 h
    unfold D_X5_hasFirst_34 at h
    refine a_zret X (by first | exact Or.inl rfl | exact Or.inr rfl | assumption) hr dX5_hasFirst_34 ⟨by decide, by decide⟩ ?_
    subst hF
    rw [← Option.some.inj h]
    exact ⟨rfl, rfl, (by first | exact Or.inl rfl | exact Or.inr rfl | assumption)⟩
  have J_33 : ∀ (x2_33 : Int32), D_X5_hasFirst_33 Q A M = some r → Zw p l e { frames := 2, cells := 0, slots := 0, locals := 80 * (2) } s m args below meth c G b 3 (MQ below (zQ G b FQ) args s 0 0 (fun q : Nat => b ≤ q)) 0 0 33 [some (.ref (Q)), some (.ref (A)), some (.int x2_33)] [] (L, M, N) := by
    intro x2_33 h
    unfold D_X5_hasFirst_33 at h
    refine a_iconst (v := 0) X dX5_hasFirst_33 (by decide) ?_
    exact Zw.to2 (J_34 _ _ (by first | exact Or.inl rfl | exact Or.inr rfl | assumption) h) rfl rfl rfl
  unfold D_X5_hasFirst at h
  refine a_aload_n X dX5_hasFirst_0 rfl ?_
  refine a_getr X lf5_15 (by assumption) rfl (by omega) dX5_hasFirst_1 ?_
  refine a_iload_n X dX5_hasFirst_4 rfl ?_
  refine a_callSNv X dX5_hasFirst_5 miX7_cell lm5_69 (c_cell (by assumption) (by first | decide | assumption)) rfl rfl (Nat.le_of_ble_eq_true rfl) ⟨by decide, by decide, by decide, by decide⟩ ?_
  refine a_iconst (v := -1) X dX5_hasFirst_8 (by decide) ?_
  refine a_icmp_eq (tgt := 33) X dX5_hasFirst_9 (by decide) (fun h_9 => ?_) (fun h_9 => ?_)
  · replace h := (if_pos h_9).symm.trans h
    exact Zw.to2 (J_33 _ h) rfl rfl rfl
  · replace h := (if_neg h_9).symm.trans h
    refine a_aload_n X dX5_hasFirst_12 rfl ?_
    refine a_getr X lf5_15 (by assumption) rfl (by omega) dX5_hasFirst_13 ?_
    refine a_iload_n X dX5_hasFirst_16 rfl ?_
    refine a_callSNv X dX5_hasFirst_17 miX7_cell lm5_69 (c_cell (by assumption) (by first | decide | assumption)) rfl rfl (Nat.le_of_ble_eq_true rfl) ⟨by decide, by decide, by decide, by decide⟩ ?_
    refine a_aload_n X dX5_hasFirst_20 rfl ?_
    refine a_iload_n X dX5_hasFirst_21 rfl ?_
    refine a_iconst (v := 0) X dX5_hasFirst_22 (by decide) ?_
    obtain ⟨e_23, f_23, h⟩ := zBx h
    refine a_callVv X dX5_hasFirst_23 miX2_wish lm5_98 (t_X2_wish (by assumption) f_23) (by assumption) rfl rfl rfl (Nat.le_of_ble_eq_true rfl) ⟨by decide, by decide, by decide, by decide⟩ ?_
    refine a_icmp_ne (tgt := 33) X dX5_hasFirst_26 (by decide) (fun h_26 => ?_) (fun h_26 => ?_)
    · replace h := (if_neg h_26).symm.trans h
      exact Zw.to2 (J_33 _ h) rfl rfl rfl
    · replace h := (if_pos h_26).symm.trans h
      refine a_iconst (v := 1) X dX5_hasFirst_29 (by decide) ?_
      refine a_goto (tgt := 34) X dX5_hasFirst_30 (by decide) ?_
      exact Zw.to2 (J_34 _ _ (by first | exact Or.inl rfl | exact Or.inr rfl | assumption) h) rfl rfl rfl
noncomputable def D_X5_scoreBehind_48 (Q : Nat) (A : Nat) (M : zMt) (y0_48 : Int32) : Option (Int32) :=
  some (y0_48)
noncomputable def D_X5_scoreBehind (Q : Nat) (A : Nat) (M : zMt) (v0 : Int32) (v1 : Int32) : Option (Int32) :=
  if (zrd 0 (M (A + 11)) 10 v0) = 0 then
    some (v1)
  else
    if (zrd 0 (M (Q + 2)) 10 v0) = (-1 : Int32) then
      some ((if (20 : Int32) < (v1 + (1 : Int32)) then (20 : Int32) else (v1 + (1 : Int32))))
    else
      zB (D_X5_hasFirst Q A M v0) fun e_37 =>
      if e_37 = 0 then
        D_X5_scoreBehind_48 Q A M v1
      else
        D_X5_scoreBehind_48 Q A M (0 : Int32)
set_option maxRecDepth 100000 in
set_option maxHeartbeats 4000000 in
theorem t_X5_scoreBehind {l : Launch} {G : zG} {b : Nat} {L : List zC} {M : zMt} {N : zNt} {Q : Nat} {A : Nat} {v0 : Int32} {v1 : Int32} (hQ : LX5 L Q) (hA : LX2 L A) {r : Int32} (h : D_X5_scoreBehind Q A M v0 v1 = some r) : zM l G b yX5_scoreBehind cX5_scoreBehind 4 (some .int) 3 0 0 [.ref Q, .ref A, .int v0, .int v1] (L, M, N) (fun r2 z => r2 = some (.int r) ∧ z = (L, M, N)) := by
  refine zM.of miX5_scoreBehind (Nat.le_of_ble_eq_true rfl) ?_
  intro p e s m args below meth c X hr hname
  generalize hF : ((fun r2 z => r2 = some (.int r) ∧ z = (L, M, N)) : Option Value → zS → Prop) = FQ
  change Zw p l e { frames := 3, cells := 0, slots := 0, locals := 80 * (3) } s m args below meth c G b 4 (MQ below (zQ G b FQ) args s 0 0 (fun q : Nat => b ≤ q)) 0 0 0 [some (.ref Q), some (.ref A), some (.int v0), some (.int v1)] [] (L, M, N)
  obtain ⟨q_lt, q_o, q_line, q_unitOf, q_roundOf, q_leftTags, q_leftGuests, q_leftPreferred, q_ranked⟩ := id hQ
  obtain ⟨a_lt, a_o, a_quota, a_preferred, a_forGuests, a_applicantOf, a_size, a_guestCount, a_score, a_tickets, a_bits, a_party, a_wishCount, a_wishes⟩ := id hA
  have J_48 : ∀ (x2_48 : Int32) (x3_48 : Int32) (y0_48 : Int32), D_X5_scoreBehind_48 Q A M y0_48 = some r → Zw p l e { frames := 3, cells := 0, slots := 0, locals := 80 * (3) } s m args below meth c G b 4 (MQ below (zQ G b FQ) args s 0 0 (fun q : Nat => b ≤ q)) 0 0 48 [some (.ref (Q)), some (.ref (A)), some (.int x2_48), some (.int x3_48)] [.int y0_48] (L, M, N) := by
    intro x2_48 x3_48 y0_48 h
    unfold D_X5_scoreBehind_48 at h
    refine a_iret X hr dX5_scoreBehind_48 ⟨by decide, by decide⟩ ?_
    subst hF
    rw [← Option.some.inj h]
    exact ⟨rfl, rfl⟩
  unfold D_X5_scoreBehind at h
  refine a_aload_n X dX5_scoreBehind_0 rfl ?_
  refine a_getr X lf5_119 (by assumption) rfl (by omega) dX5_scoreBehind_1 ?_
  refine a_iload_n X dX5_scoreBehind_4 rfl ?_
  refine a_callSNv X dX5_scoreBehind_5 miX7_cell lm5_69 (c_cell (by assumption) (by first | decide | assumption)) rfl rfl (Nat.le_of_ble_eq_true rfl) ⟨by decide, by decide, by decide, by decide⟩ ?_
  refine a_if_ne (tgt := 13) X dX5_scoreBehind_8 (by decide) (fun h_8 => ?_) (fun h_8 => ?_)
  · replace h := (if_neg h_8).symm.trans h
    refine a_aload_n X dX5_scoreBehind_13 rfl ?_
    refine a_getr X lf5_15 (by assumption) rfl (by omega) dX5_scoreBehind_14 ?_
    refine a_iload_n X dX5_scoreBehind_17 rfl ?_
    refine a_callSNv X dX5_scoreBehind_18 miX7_cell lm5_69 (c_cell (by assumption) (by first | decide | assumption)) rfl rfl (Nat.le_of_ble_eq_true rfl) ⟨by decide, by decide, by decide, by decide⟩ ?_
    refine a_iconst (v := -1) X dX5_scoreBehind_21 (by decide) ?_
    refine a_icmp_ne (tgt := 34) X dX5_scoreBehind_22 (by decide) (fun h_22 => ?_) (fun h_22 => ?_)
    · replace h := (if_neg h_22).symm.trans h
      refine a_aload_n X dX5_scoreBehind_34 rfl ?_
      refine a_aload_n X dX5_scoreBehind_35 rfl ?_
      refine a_iload_n X dX5_scoreBehind_36 rfl ?_
      obtain ⟨e_37, f_37, h⟩ := zBx h
      refine a_callVx X dX5_scoreBehind_37 miX5_hasFirst lm5_133 (t_X5_hasFirst (by assumption) (by assumption) f_37) (by assumption) rfl rfl rfl (Nat.le_of_ble_eq_true rfl) ⟨by decide, by decide, by decide, by decide⟩ (fun r_37 S_37 q_37 => ?_)
      obtain ⟨rfl, rfl, b_37⟩ := q_37
      refine a_if_eq (tgt := 47) X dX5_scoreBehind_40 (by decide) (fun h_40 => ?_) (fun h_40 => ?_)
      · replace h := (if_pos h_40).symm.trans h
        refine a_iload_n X dX5_scoreBehind_47 rfl ?_
        exact Zw.to2 (J_48 _ _ _ h) rfl rfl rfl
      · replace h := (if_neg h_40).symm.trans h
        refine a_iconst (v := 0) X dX5_scoreBehind_43 (by decide) ?_
        refine a_goto (tgt := 48) X dX5_scoreBehind_44 (by decide) ?_
        exact Zw.to2 (J_48 _ _ _ h) rfl rfl rfl
    · replace h := (if_pos h_22).symm.trans h
      refine a_iload_n X dX5_scoreBehind_25 rfl ?_
      refine a_iconst (v := 1) X dX5_scoreBehind_26 (by decide) ?_
      refine a_iadd X dX5_scoreBehind_27 ?_
      refine a_bipush (v := 20) X dX5_scoreBehind_28 (by decide) ?_
      refine a_mmin X lm5_128 zmath2 zmath0 zmathc2 ⟨by decide, Nat.le_of_ble_eq_true rfl, by decide, by decide⟩ dX5_scoreBehind_30 ?_
      refine a_iret X hr dX5_scoreBehind_33 ⟨by decide, by decide⟩ ?_
      subst hF
      rw [← Option.some.inj h]
      exact ⟨rfl, rfl⟩
  · replace h := (if_pos h_8).symm.trans h
    refine a_iload_n X dX5_scoreBehind_11 rfl ?_
    refine a_iret X hr dX5_scoreBehind_12 ⟨by decide, by decide⟩ ?_
    subst hF
    rw [← Option.some.inj h]
    exact ⟨rfl, rfl⟩
noncomputable def D_X4_live_2 (Q : Nat) (A : Nat) (B : Nat) : Nat → Int32 → zMt → Option (zMt)
  | 0, _, _ => none
  | n + 1, x3_2, M_2 =>
    if (M_2 Q 1) ≤ x3_2 then
      some (M_2)
    else
      zB (D_X5_scoreBehind B A M_2 (zrd 0 (M_2 (A + 4)) 10 x3_2) (zrd 0 (M_2 (Q + 2)) 10 x3_2)) fun e_37 =>
      zLt (zwr M_2 (Q + 2) 10 x3_2 e_37) fun M_40 =>
      zLt (zwr M_40 (Q + 7) 10 x3_2 (zrd 0 (M_40 (B + 2)) 10 (zrd 0 (M_2 (A + 4)) 10 x3_2))) fun M_57 =>
      (D_X4_live_2 Q A B n) (x3_2 + 1) M_57
noncomputable def D_X4_live (Q : Nat) (A : Nat) (B : Nat) (M : zMt) : Option (zMt) :=
  D_X4_live_2 Q A B zFu (0 : Int32) M
set_option maxRecDepth 100000 in
set_option maxHeartbeats 4000000 in
theorem t_X4_live {l : Launch} {G : zG} {b : Nat} {L : List zC} {M : zMt} {N : zNt} {Q : Nat} {A : Nat} {B : Nat}  (hQ : LX4 L Q) (hA : LX2 L A) (hB : LX5 L B) {r : zMt} (h : D_X4_live Q A B M = some r) : zM l G b yX4_live cX4_live 5 none 4 0 0 [.ref Q, .ref A, .ref B] (L, M, N) (fun r2 z => r2 = none ∧ z = (L, r, N)) := by
  refine zM.of miX4_live (Nat.le_of_ble_eq_true rfl) ?_
  intro p e s m args below meth c X hr hname
  generalize hF : ((fun r2 z => r2 = none ∧ z = (L, r, N)) : Option Value → zS → Prop) = FQ
  change Zw p l e { frames := 4, cells := 0, slots := 0, locals := 80 * (4) } s m args below meth c G b 5 (MQ below (zQ G b FQ) args s 0 0 (fun q : Nat => b ≤ q)) 0 0 0 [some (.ref Q), some (.ref A), some (.ref B), none, none] [] (L, M, N)
  obtain ⟨q_lt, q_o, q_quota, q_score, q_guest, q_party, q_wishCount, q_wishes, q_has⟩ := id hQ
  obtain ⟨a_lt, a_o, a_quota, a_preferred, a_forGuests, a_applicantOf, a_size, a_guestCount, a_score, a_tickets, a_bits, a_party, a_wishCount, a_wishes⟩ := id hA
  obtain ⟨b_lt, b_o, b_line, b_unitOf, b_roundOf, b_leftTags, b_leftGuests, b_leftPreferred, b_ranked⟩ := id hB
  have L_2 : ∀ u : Nat, ∀ (x3_2 : Int32) (x4_2 : Option Value) (M_2 : zMt), D_X4_live_2 Q A B u x3_2 M_2 = some r → Zw p l e { frames := 4, cells := 0, slots := 0, locals := 80 * (4) } s m args below meth c G b 5 (MQ below (zQ G b FQ) args s 0 0 (fun q : Nat => b ≤ q)) 0 0 2 [some (.ref (Q)), some (.ref (A)), some (.ref (B)), some (.int x3_2), x4_2] [] (L, M_2, N) := by
    intro u
    induction u with
    | zero => intro x3_2 x4_2 M_2 h; cases (show none = some r from h)
    | succ u_2 ih_2 =>
      intro x3_2 x4_2 M_2 h
      rw [D_X4_live_2] at h
      refine a_iload_n X dX4_live_2 rfl ?_
      refine a_aload_n X dX4_live_3 rfl ?_
      refine a_geti X lf4_37 (by assumption) rfl dX4_live_4 ?_
      refine a_icmp_ge (tgt := 66) X dX4_live_7 (by decide) (fun h_7 => ?_) (fun h_7 => ?_)
      · replace h := (if_pos h_7).symm.trans h
        refine a_vret X hr dX4_live_66 ⟨by decide, by decide⟩ ?_
        subst hF
        rw [← Option.some.inj h]
        exact ⟨rfl, rfl⟩
      · replace h := (if_neg h_7).symm.trans h
        refine a_aload_n X dX4_live_10 rfl ?_
        refine a_getr X lf4_79 (by assumption) rfl (by omega) dX4_live_11 ?_
        refine a_iload_n X dX4_live_14 rfl ?_
        refine a_callSNv X dX4_live_15 miX7_cell lm4_67 (c_cell (by assumption) (by first | decide | assumption)) rfl rfl (Nat.le_of_ble_eq_true rfl) ⟨by decide, by decide, by decide, by decide⟩ ?_
        refine a_istore X dX4_live_18 (by decide) ?_
        refine a_aload_n X dX4_live_20 rfl ?_
        refine a_getr X lf4_15 (by assumption) rfl (by omega) dX4_live_21 ?_
        refine a_iload_n X dX4_live_24 rfl ?_
        refine a_aload_n X dX4_live_25 rfl ?_
        refine a_aload_n X dX4_live_26 rfl ?_
        refine a_iload X dX4_live_27 rfl ?_
        refine a_aload_n X dX4_live_29 rfl ?_
        refine a_getr X lf4_15 (by assumption) rfl (by omega) dX4_live_30 ?_
        refine a_iload_n X dX4_live_33 rfl ?_
        refine a_callSNv X dX4_live_34 miX7_cell lm4_67 (c_cell (by assumption) (by first | decide | assumption)) rfl rfl (Nat.le_of_ble_eq_true rfl) ⟨by decide, by decide, by decide, by decide⟩ ?_
        obtain ⟨e_37, f_37, h⟩ := zBx h
        refine a_callVv X dX4_live_37 miX5_scoreBehind lm4_84 (t_X5_scoreBehind (by assumption) (by assumption) f_37) (by assumption) rfl rfl rfl (Nat.le_of_ble_eq_true rfl) ⟨by decide, by decide, by decide, by decide⟩ ?_
        obtain ⟨M_40, f_40, h⟩ := zLtx h
        refine a_callSNu X dX4_live_40 miX7_put lm4_63 (zMu (c_put (by assumption) (by first | decide | assumption)) f_40) rfl rfl (Nat.le_of_ble_eq_true rfl) ⟨by decide, by decide, by decide, by decide⟩ ?_
        refine a_aload_n X dX4_live_43 rfl ?_
        refine a_getr X lf4_30 (by assumption) rfl (by omega) dX4_live_44 ?_
        refine a_iload_n X dX4_live_47 rfl ?_
        refine a_aload_n X dX4_live_48 rfl ?_
        refine a_getr X lf4_90 (by assumption) rfl (by omega) dX4_live_49 ?_
        refine a_iload X dX4_live_52 rfl ?_
        refine a_callSNv X dX4_live_54 miX7_cell lm4_67 (c_cell (by assumption) (by first | decide | assumption)) rfl rfl (Nat.le_of_ble_eq_true rfl) ⟨by decide, by decide, by decide, by decide⟩ ?_
        obtain ⟨M_57, f_57, h⟩ := zLtx h
        refine a_callSNu X dX4_live_57 miX7_put lm4_63 (zMu (c_put (by assumption) (by first | decide | assumption)) f_57) rfl rfl (Nat.le_of_ble_eq_true rfl) ⟨by decide, by decide, by decide, by decide⟩ ?_
        refine a_iinc (v := x3_2 + 1) X dX4_live_60 (by decide) rfl zi_1 ?_
        refine a_goto (tgt := 2) X dX4_live_63 (by decide) ?_
        exact Zw.to2 (ih_2 _ _ _ h) rfl rfl rfl
  have H_2 : ∀ (x3_2 : Int32) (x4_2 : Option Value) (M_2 : zMt), D_X4_live_2 Q A B zFu x3_2 M_2 = some r → Zw p l e { frames := 4, cells := 0, slots := 0, locals := 80 * (4) } s m args below meth c G b 5 (MQ below (zQ G b FQ) args s 0 0 (fun q : Nat => b ≤ q)) 0 0 2 [some (.ref (Q)), some (.ref (A)), some (.ref (B)), some (.int x3_2), x4_2] [] (L, M_2, N) := L_2 zFu
  unfold D_X4_live at h
  refine a_iconst (v := 0) X dX4_live_0 (by decide) ?_
  refine a_istore_n X dX4_live_1 (by decide) ?_
  exact Zw.to2 (H_2 _ _ _ h) rfl rfl rfl
noncomputable def D_X5_holderOf_44 (Q : Nat) (M : zMt) (k5 : Int32 → Int32 → Int32 → Int32 → Option (Int32)) (x1_44 : Int32) (x2_44 : Int32) (x3_44 : Int32) (x4_44 : Int32) : Option (Int32) :=
  k5 x1_44 x2_44 x3_44 (x4_44 + 1)
noncomputable def D_X5_holderOf_5 (Q : Nat) (M : zMt) : Nat → Int32 → Int32 → Int32 → Int32 → Option (Int32)
  | 0, _, _, _, _ => none
  | n + 1, x1_5, x2_5, x3_5, x4_5 =>
    if (M Q 1) ≤ x4_5 then
      some ((0 : Int32))
    else
      if ((x1_5 >>> (x4_5 &&& 31)) &&& (1 : Int32)) = (1 : Int32) then
        if (x3_5 + (zrd 0 (M (Q + 8)) 10 x4_5)) ≤ x2_5 then
          D_X5_holderOf_44 Q M (D_X5_holderOf_5 Q M n) x1_5 x2_5 (x3_5 + (zrd 0 (M (Q + 8)) 10 x4_5)) x4_5
        else
          some (x4_5)
      else
        D_X5_holderOf_44 Q M (D_X5_holderOf_5 Q M n) x1_5 x2_5 x3_5 x4_5
noncomputable def D_X5_holderOf (Q : Nat) (M : zMt) (v0 : Int32) (v1 : Int32) : Option (Int32) :=
  D_X5_holderOf_5 Q M zFu v0 v1 (0 : Int32) (0 : Int32)
set_option maxRecDepth 100000 in
set_option maxHeartbeats 4000000 in
theorem t_X5_holderOf {l : Launch} {G : zG} {b : Nat} {L : List zC} {M : zMt} {N : zNt} {Q : Nat} {v0 : Int32} {v1 : Int32} (hQ : LX2 L Q) {r : Int32} (h : D_X5_holderOf Q M v0 v1 = some r) : zM l G b yX5_holderOf cX5_holderOf 5 (some .int) 1 0 0 [.ref Q, .int v0, .int v1] (L, M, N) (fun r2 z => r2 = some (.int r) ∧ z = (L, M, N)) := by
  refine zM.of miX5_holderOf (Nat.le_of_ble_eq_true rfl) ?_
  intro p e s m args below meth c X hr hname
  generalize hF : ((fun r2 z => r2 = some (.int r) ∧ z = (L, M, N)) : Option Value → zS → Prop) = FQ
  change Zw p l e { frames := 1, cells := 0, slots := 0, locals := 80 * (1) } s m args below meth c G b 5 (MQ below (zQ G b FQ) args s 0 0 (fun q : Nat => b ≤ q)) 0 0 0 [some (.ref Q), some (.int v0), some (.int v1), none, none] [] (L, M, N)
  obtain ⟨q_lt, q_o, q_quota, q_preferred, q_forGuests, q_applicantOf, q_size, q_guestCount, q_score, q_tickets, q_bits, q_party, q_wishCount, q_wishes⟩ := id hQ
  have L_5 : ∀ u : Nat, ∀ (x1_5 : Int32) (x2_5 : Int32) (x3_5 : Int32) (x4_5 : Int32), D_X5_holderOf_5 Q M u x1_5 x2_5 x3_5 x4_5 = some r → Zw p l e { frames := 1, cells := 0, slots := 0, locals := 80 * (1) } s m args below meth c G b 5 (MQ below (zQ G b FQ) args s 0 0 (fun q : Nat => b ≤ q)) 0 0 5 [some (.ref (Q)), some (.int x1_5), some (.int x2_5), some (.int x3_5), some (.int x4_5)] [] (L, M, N) := by
    intro u
    induction u with
    | zero => intro x1_5 x2_5 x3_5 x4_5 h; cases (show none = some r from h)
    | succ u_5 ih_5 =>
      have J_44 : ∀ (x1_44 : Int32) (x2_44 : Int32) (x3_44 : Int32) (x4_44 : Int32), D_X5_holderOf_44 Q M (D_X5_holderOf_5 Q M u_5) x1_44 x2_44 x3_44 x4_44 = some r → Zw p l e { frames := 1, cells := 0, slots := 0, locals := 80 * (1) } s m args below meth c G b 5 (MQ below (zQ G b FQ) args s 0 0 (fun q : Nat => b ≤ q)) 0 0 44 [some (.ref (Q)), some (.int x1_44), some (.int x2_44), some (.int x3_44), some (.int x4_44)] [] (L, M, N) := by
        intro x1_44 x2_44 x3_44 x4_44 h
        unfold D_X5_holderOf_44 at h
        refine a_iinc (v := x4_44 + 1) X dX5_holderOf_44 (by decide) rfl zi_1 ?_
        refine a_goto (tgt := 5) X dX5_holderOf_47 (by decide) ?_
        exact Zw.to2 (ih_5 _ _ _ _ h) rfl rfl rfl
      intro x1_5 x2_5 x3_5 x4_5 h
      rw [D_X5_holderOf_5] at h
      refine a_iload X dX5_holderOf_5 rfl ?_
      refine a_aload_n X dX5_holderOf_7 rfl ?_
      refine a_geti X lf5_47 (by assumption) rfl dX5_holderOf_8 ?_
      refine a_icmp_ge (tgt := 50) X dX5_holderOf_11 (by decide) (fun h_11 => ?_) (fun h_11 => ?_)
      · replace h := (if_pos h_11).symm.trans h
        refine a_iconst (v := 0) X dX5_holderOf_50 (by decide) ?_
        refine a_iret X hr dX5_holderOf_51 ⟨by decide, by decide⟩ ?_
        subst hF
        rw [← Option.some.inj h]
        exact ⟨rfl, rfl⟩
      · replace h := (if_neg h_11).symm.trans h
        refine a_iload_n X dX5_holderOf_14 rfl ?_
        refine a_iload X dX5_holderOf_15 rfl ?_
        refine a_ishr X dX5_holderOf_17 ?_
        refine a_iconst (v := 1) X dX5_holderOf_18 (by decide) ?_
        refine a_iand X dX5_holderOf_19 ?_
        refine a_iconst (v := 1) X dX5_holderOf_20 (by decide) ?_
        refine a_icmp_ne (tgt := 44) X dX5_holderOf_21 (by decide) (fun h_21 => ?_) (fun h_21 => ?_)
        · replace h := (if_neg h_21).symm.trans h
          exact Zw.to2 (J_44 _ _ _ _ h) rfl rfl rfl
        · replace h := (if_pos h_21).symm.trans h
          refine a_iload_n X dX5_holderOf_24 rfl ?_
          refine a_aload_n X dX5_holderOf_25 rfl ?_
          refine a_getr X lf5_66 (by assumption) rfl (by omega) dX5_holderOf_26 ?_
          refine a_iload X dX5_holderOf_29 rfl ?_
          refine a_callSNv X dX5_holderOf_31 miX7_cell lm5_69 (c_cell (by assumption) (by first | decide | assumption)) rfl rfl (Nat.le_of_ble_eq_true rfl) ⟨by decide, by decide, by decide, by decide⟩ ?_
          refine a_iadd X dX5_holderOf_34 ?_
          refine a_istore_n X dX5_holderOf_35 (by decide) ?_
          refine a_iload_n X dX5_holderOf_36 rfl ?_
          refine a_iload_n X dX5_holderOf_37 rfl ?_
          refine a_icmp_le (tgt := 44) X dX5_holderOf_38 (by decide) (fun h_38 => ?_) (fun h_38 => ?_)
          · replace h := (if_pos h_38).symm.trans h
            exact Zw.to2 (J_44 _ _ _ _ h) rfl rfl rfl
          · replace h := (if_neg h_38).symm.trans h
            refine a_iload X dX5_holderOf_41 rfl ?_
            refine a_iret X hr dX5_holderOf_43 ⟨by decide, by decide⟩ ?_
            subst hF
            rw [← Option.some.inj h]
            exact ⟨rfl, rfl⟩
  have H_5 : ∀ (x1_5 : Int32) (x2_5 : Int32) (x3_5 : Int32) (x4_5 : Int32), D_X5_holderOf_5 Q M zFu x1_5 x2_5 x3_5 x4_5 = some r → Zw p l e { frames := 1, cells := 0, slots := 0, locals := 80 * (1) } s m args below meth c G b 5 (MQ below (zQ G b FQ) args s 0 0 (fun q : Nat => b ≤ q)) 0 0 5 [some (.ref (Q)), some (.int x1_5), some (.int x2_5), some (.int x3_5), some (.int x4_5)] [] (L, M, N) := L_5 zFu
  unfold D_X5_holderOf at h
  refine a_iconst (v := 0) X dX5_holderOf_0 (by decide) ?_
  refine a_istore_n X dX5_holderOf_1 (by decide) ?_
  refine a_iconst (v := 0) X dX5_holderOf_2 (by decide) ?_
  refine a_istore X dX5_holderOf_3 (by decide) ?_
  exact Zw.to2 (H_5 _ _ _ _ h) rfl rfl rfl
noncomputable def D_X5_lineUp_110 (Q : Nat) (A : Nat) (M_110 : zMt) : Option (zMt) :=
  some (M_110)
noncomputable def D_X5_lineUp_22 (Q : Nat) (A : Nat) : Nat → Int64 → Int32 → Int32 → Int32 → zMt → Option (zMt)
  | 0, _, _, _, _, _ => none
  | n + 1, x3_22, x5_22, x6_22, x7_22, M_22 =>
    if (M_22 A 1) ≤ x7_22 then
      D_X5_lineUp_110 Q A M_22
    else
      if x5_22 ≤ 0 then
        D_X5_lineUp_110 Q A M_22
      else
        zZl (Int32.toInt64 x5_22) <|
        zB (D_X5_holderOf A M_22 x6_22 (Int64.toInt32 ((((((1103515245 : Int64) * x3_22) + (12345 : Int64)) - (((1103515245 : Int64) * x3_22) + (12345 : Int64)) / (2147483648 : Int64) * (2147483648 : Int64)) / (65536 : Int64)) - (((((1103515245 : Int64) * x3_22) + (12345 : Int64)) - (((1103515245 : Int64) * x3_22) + (12345 : Int64)) / (2147483648 : Int64) * (2147483648 : Int64)) / (65536 : Int64)) / (Int32.toInt64 x5_22) * (Int32.toInt64 x5_22)))) fun e_63 =>
        zLt (zwr M_22 (Q + 1) 10 x7_22 e_63) fun M_76 =>
        (D_X5_lineUp_22 Q A n) ((((1103515245 : Int64) * x3_22) + (12345 : Int64)) - (((1103515245 : Int64) * x3_22) + (12345 : Int64)) / (2147483648 : Int64) * (2147483648 : Int64)) (x5_22 - (zrd 0 (M_76 (A + 8)) 10 e_63)) (x6_22 &&& (((1 : Int32) <<< (e_63 &&& 31)) ^^^ (-1 : Int32))) (x7_22 + 1) M_76
noncomputable def D_X5_lineUp (Q : Nat) (A : Nat) (v0 : Int32) (M : zMt) : Option (zMt) :=
  D_X5_lineUp_22 Q A zFu (Int32.toInt64 v0) (M A 2) (((1 : Int32) <<< ((M A 1) &&& 31)) - (1 : Int32)) (0 : Int32) M
set_option maxRecDepth 100000 in
set_option maxHeartbeats 4000000 in
theorem t_X5_lineUp {l : Launch} {G : zG} {b : Nat} {L : List zC} {M : zMt} {N : zNt} {Q : Nat} {A : Nat} {v0 : Int32} (hQ : LX5 L Q) (hA : LX2 L A) {r : zMt} (h : D_X5_lineUp Q A v0 M = some r) : zM l G b yX5_lineUp cX5_lineUp 9 none 2 0 0 [.ref Q, .ref A, .int v0] (L, M, N) (fun r2 z => r2 = none ∧ z = (L, r, N)) := by
  refine zM.of miX5_lineUp (Nat.le_of_ble_eq_true rfl) ?_
  intro p e s m args below meth c X hr hname
  generalize hF : ((fun r2 z => r2 = none ∧ z = (L, r, N)) : Option Value → zS → Prop) = FQ
  change Zw p l e { frames := 2, cells := 0, slots := 0, locals := 80 * (2) } s m args below meth c G b 9 (MQ below (zQ G b FQ) args s 0 0 (fun q : Nat => b ≤ q)) 0 0 0 [some (.ref Q), some (.ref A), some (.int v0), none, none, none, none, none, none] [] (L, M, N)
  obtain ⟨q_lt, q_o, q_line, q_unitOf, q_roundOf, q_leftTags, q_leftGuests, q_leftPreferred, q_ranked⟩ := id hQ
  obtain ⟨a_lt, a_o, a_quota, a_preferred, a_forGuests, a_applicantOf, a_size, a_guestCount, a_score, a_tickets, a_bits, a_party, a_wishCount, a_wishes⟩ := id hA
  have J_110 : ∀ (x2_110 : Int32) (x3_110 : Int64) (x5_110 : Int32) (x6_110 : Int32) (x7_110 : Int32) (x8_110 : Option Value) (M_110 : zMt), D_X5_lineUp_110 Q A M_110 = some r → Zw p l e { frames := 2, cells := 0, slots := 0, locals := 80 * (2) } s m args below meth c G b 9 (MQ below (zQ G b FQ) args s 0 0 (fun q : Nat => b ≤ q)) 0 0 110 [some (.ref (Q)), some (.ref (A)), some (.int x2_110), some (.long x3_110), none, some (.int x5_110), some (.int x6_110), some (.int x7_110), x8_110] [] (L, M_110, N) := by
    intro x2_110 x3_110 x5_110 x6_110 x7_110 x8_110 M_110 h
    unfold D_X5_lineUp_110 at h
    refine a_vret X hr dX5_lineUp_110 ⟨by decide, by decide⟩ ?_
    subst hF
    rw [← Option.some.inj h]
    exact ⟨rfl, rfl⟩
  have L_22 : ∀ u : Nat, ∀ (x2_22 : Int32) (x3_22 : Int64) (x5_22 : Int32) (x6_22 : Int32) (x7_22 : Int32) (x8_22 : Option Value) (M_22 : zMt), D_X5_lineUp_22 Q A u x3_22 x5_22 x6_22 x7_22 M_22 = some r → Zw p l e { frames := 2, cells := 0, slots := 0, locals := 80 * (2) } s m args below meth c G b 9 (MQ below (zQ G b FQ) args s 0 0 (fun q : Nat => b ≤ q)) 0 0 22 [some (.ref (Q)), some (.ref (A)), some (.int x2_22), some (.long x3_22), none, some (.int x5_22), some (.int x6_22), some (.int x7_22), x8_22] [] (L, M_22, N) := by
    intro u
    induction u with
    | zero => intro x2_22 x3_22 x5_22 x6_22 x7_22 x8_22 M_22 h; cases (show none = some r from h)
    | succ u_22 ih_22 =>
      intro x2_22 x3_22 x5_22 x6_22 x7_22 x8_22 M_22 h
      rw [D_X5_lineUp_22] at h
      refine a_iload X dX5_lineUp_22 rfl ?_
      refine a_aload_n X dX5_lineUp_24 rfl ?_
      refine a_geti X lf5_47 (by assumption) rfl dX5_lineUp_25 ?_
      refine a_icmp_ge (tgt := 110) X dX5_lineUp_28 (by decide) (fun h_28 => ?_) (fun h_28 => ?_)
      · replace h := (if_pos h_28).symm.trans h
        exact Zw.to2 (J_110 _ _ _ _ _ _ _ h) rfl rfl rfl
      · replace h := (if_neg h_28).symm.trans h
        refine a_iload X dX5_lineUp_31 rfl ?_
        refine a_if_le (tgt := 110) X dX5_lineUp_33 (by decide) (fun h_33 => ?_) (fun h_33 => ?_)
        · replace h := (if_pos h_33).symm.trans h
          exact Zw.to2 (J_110 _ _ _ _ _ _ _ h) rfl rfl rfl
        · replace h := (if_neg h_33).symm.trans h
          refine a_ldc2 X dX5_lineUp_36 lk5_50 ?_
          refine a_lload_n X dX5_lineUp_39 rfl ?_
          refine a_lmul X dX5_lineUp_40 ?_
          refine a_ldc2 X dX5_lineUp_41 lk5_52 ?_
          refine a_ladd X dX5_lineUp_44 ?_
          refine a_ldc2 X dX5_lineUp_45 lk5_54 ?_
          refine a_lrem X dX5_lineUp_48 (by decide) ?_
          refine a_lstore_n X dX5_lineUp_49 (by decide) ?_
          refine a_aload_n X dX5_lineUp_50 rfl ?_
          refine a_iload X dX5_lineUp_51 rfl ?_
          refine a_lload_n X dX5_lineUp_53 rfl ?_
          refine a_ldc2 X dX5_lineUp_54 lk5_56 ?_
          refine a_ldiv X dX5_lineUp_57 (by decide) ?_
          refine a_iload X dX5_lineUp_58 rfl ?_
          refine a_i2l X dX5_lineUp_60 ?_
          obtain ⟨z_61, h⟩ := zZlx h
          refine a_lrem X dX5_lineUp_61 (z_61) ?_
          refine a_l2i X dX5_lineUp_62 ?_
          obtain ⟨e_63, f_63, h⟩ := zBx h
          refine a_callSv X dX5_lineUp_63 miX5_holderOf lm5_58 (t_X5_holderOf (by assumption) f_63) rfl rfl (Nat.le_of_ble_eq_true rfl) ⟨by decide, by decide, by decide, by decide⟩ ?_
          refine a_istore X dX5_lineUp_66 (by decide) ?_
          refine a_aload_n X dX5_lineUp_68 rfl ?_
          refine a_getr X lf5_9 (by assumption) rfl (by omega) dX5_lineUp_69 ?_
          refine a_iload X dX5_lineUp_72 rfl ?_
          refine a_iload X dX5_lineUp_74 rfl ?_
          obtain ⟨M_76, f_76, h⟩ := zLtx h
          refine a_callSNu X dX5_lineUp_76 miX7_put lm5_62 (zMu (c_put (by assumption) (by first | decide | assumption)) f_76) rfl rfl (Nat.le_of_ble_eq_true rfl) ⟨by decide, by decide, by decide, by decide⟩ ?_
          refine a_iload X dX5_lineUp_79 rfl ?_
          refine a_iconst (v := 1) X dX5_lineUp_81 (by decide) ?_
          refine a_iload X dX5_lineUp_82 rfl ?_
          refine a_ishl X dX5_lineUp_84 ?_
          refine a_iconst (v := -1) X dX5_lineUp_85 (by decide) ?_
          refine a_ixor X dX5_lineUp_86 ?_
          refine a_iand X dX5_lineUp_87 ?_
          refine a_istore X dX5_lineUp_88 (by decide) ?_
          refine a_iload X dX5_lineUp_90 rfl ?_
          refine a_aload_n X dX5_lineUp_92 rfl ?_
          refine a_getr X lf5_66 (by assumption) rfl (by omega) dX5_lineUp_93 ?_
          refine a_iload X dX5_lineUp_96 rfl ?_
          refine a_callSNv X dX5_lineUp_98 miX7_cell lm5_69 (c_cell (by assumption) (by first | decide | assumption)) rfl rfl (Nat.le_of_ble_eq_true rfl) ⟨by decide, by decide, by decide, by decide⟩ ?_
          refine a_isub X dX5_lineUp_101 ?_
          refine a_istore X dX5_lineUp_102 (by decide) ?_
          refine a_iinc (v := x7_22 + 1) X dX5_lineUp_104 (by decide) rfl zi_1 ?_
          refine a_goto (tgt := 22) X dX5_lineUp_107 (by decide) ?_
          exact Zw.to2 (ih_22 _ _ _ _ _ _ _ h) rfl rfl rfl
  have H_22 : ∀ (x2_22 : Int32) (x3_22 : Int64) (x5_22 : Int32) (x6_22 : Int32) (x7_22 : Int32) (x8_22 : Option Value) (M_22 : zMt), D_X5_lineUp_22 Q A zFu x3_22 x5_22 x6_22 x7_22 M_22 = some r → Zw p l e { frames := 2, cells := 0, slots := 0, locals := 80 * (2) } s m args below meth c G b 9 (MQ below (zQ G b FQ) args s 0 0 (fun q : Nat => b ≤ q)) 0 0 22 [some (.ref (Q)), some (.ref (A)), some (.int x2_22), some (.long x3_22), none, some (.int x5_22), some (.int x6_22), some (.int x7_22), x8_22] [] (L, M_22, N) := L_22 zFu
  unfold D_X5_lineUp at h
  refine a_iload_n X dX5_lineUp_0 rfl ?_
  refine a_i2l X dX5_lineUp_1 ?_
  refine a_lstore_n X dX5_lineUp_2 (by decide) ?_
  refine a_aload_n X dX5_lineUp_3 rfl ?_
  refine a_geti X lf5_41 (by assumption) rfl dX5_lineUp_4 ?_
  refine a_istore X dX5_lineUp_7 (by decide) ?_
  refine a_iconst (v := 1) X dX5_lineUp_9 (by decide) ?_
  refine a_aload_n X dX5_lineUp_10 rfl ?_
  refine a_geti X lf5_47 (by assumption) rfl dX5_lineUp_11 ?_
  refine a_ishl X dX5_lineUp_14 ?_
  refine a_iconst (v := 1) X dX5_lineUp_15 (by decide) ?_
  refine a_isub X dX5_lineUp_16 ?_
  refine a_istore X dX5_lineUp_17 (by decide) ?_
  refine a_iconst (v := 0) X dX5_lineUp_19 (by decide) ?_
  refine a_istore X dX5_lineUp_20 (by decide) ?_
  exact Zw.to2 (H_22 _ _ _ _ _ _ _ h) rfl rfl rfl
