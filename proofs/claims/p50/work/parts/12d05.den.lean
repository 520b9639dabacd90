noncomputable def D_X8_wise_51 (P : Nat) (y0_51 : Int32) (M_51 : zMt) (N_51 : zNt) : Option (Int32 × zMt × zNt) :=
  some (y0_51, M_51, N_51)
noncomputable def D_X8_wise (P : Nat) (v0 : Int32) (M : zMt) (N : zNt) : Option (Int32 × zMt × zNt) :=
  zB (D_X8_isApplicant P v0 M) fun e_2 =>
  if e_2.1 = 0 then
    zB (D_X8_refuse P (2 : Int32) e_2.2) fun e_10 =>
    some (e_10.1, e_10.2, N)
  else
    zB (D_X8_areMany P e_2.2) fun e_15 =>
    if e_15.1 = 0 then
      zB (D_X8_wisest P v0 e_15.2 N) fun e_29 =>
      if e_29.1 = (-1 : Int32) then
        zB (D_X8_refuse P (5 : Int32) e_29.2.1) fun e_40 =>
        D_X8_wise_51 P e_40.1 e_40.2 e_29.2.2
      else
        zB (D_X8_gives P e_29.1 e_29.2.1) fun e_48 =>
        D_X8_wise_51 P e_48.1 e_48.2 e_29.2.2
    else
      zB (D_X8_refuse P (3 : Int32) e_15.2) fun e_23 =>
      some (e_23.1, e_23.2, N)
set_option maxRecDepth 100000 in
set_option maxHeartbeats 4000000 in
theorem t_X8_wise {l : Launch} {G : zG} {b : Nat} {L : List zC} {M : zMt} {N : zNt} {P : Nat} {v0 : Int32} (hP : LX8 L P) {r : Int32 × zMt × zNt} (h : D_X8_wise P v0 M N = some r) : zM l G b yX8_wise cX8_wise 3 (some .int) 15 0 0 [.ref P, .int v0] (L, M, N) (fun r2 z => r2 = some (.int r.1) ∧ z = (L, r.2.1, r.2.2)) := by
  refine zM.of miX8_wise (Nat.le_of_ble_eq_true rfl) ?_
  intro p e s m args below meth c X hr hname
  generalize hF : ((fun r2 z => r2 = some (.int r.1) ∧ z = (L, r.2.1, r.2.2)) : Option Value → zS → Prop) = FQ
  change Zw p l e { frames := 15, cells := 0, slots := 0, locals := 80 * (15) } s m args below meth c G b 3 (MQ below (zQ G b FQ) args s 0 0 (fun q : Nat => b ≤ q)) 0 0 0 [some (.ref P), some (.int v0), none] [] (L, M, N)
  have p_lt := hP.1
  have p_o := hP.2.1
  have J_51 : ∀ (x1_51 : Int32) (x2_51 : Int32) (y0_51 : Int32) (M_51 : zMt) (N_51 : zNt), D_X8_wise_51 P y0_51 M_51 N_51 = some r → Zw p l e { frames := 15, cells := 0, slots := 0, locals := 80 * (15) } s m args below meth c G b 3 (MQ below (zQ G b FQ) args s 0 0 (fun q : Nat => b ≤ q)) 0 0 51 [some (.ref (P)), some (.int x1_51), some (.int x2_51)] [.int y0_51] (L, M_51, N_51) := by
    intro x1_51 x2_51 y0_51 M_51 N_51 h
    unfold D_X8_wise_51 at h
    refine a_iret X hr dX8_wise_51 ⟨by decide, by decide⟩ ?_
    subst hF
    rw [← Option.some.inj h]
    exact ⟨rfl, rfl⟩
  unfold D_X8_wise at h
  refine a_aload_n X dX8_wise_0 rfl ?_
  refine a_iload_n X dX8_wise_1 rfl ?_
  obtain ⟨e_2, f_2, h⟩ := zBx h
  refine a_callVx X dX8_wise_2 miX8_isApplicant lm8_315 (t_X8_isApplicant (by first | exact hP | assumption) f_2) (by first | exact p_o | assumption) rfl rfl rfl (Nat.le_of_ble_eq_true rfl) ⟨by decide, by decide, by decide, by decide⟩ (fun r_2 S_2 q_2 => ?_)
  obtain ⟨rfl, rfl, b_2⟩ := q_2
  refine a_if_ne (tgt := 14) X dX8_wise_5 (by decide) (fun h_5 => ?_) (fun h_5 => ?_)
  · replace h := (if_neg h_5).symm.trans h
    refine a_aload_n X dX8_wise_14 rfl ?_
    obtain ⟨e_15, f_15, h⟩ := zBx h
    refine a_callVx X dX8_wise_15 miX8_areMany lm8_429 (t_X8_areMany (by first | exact hP | assumption) f_15) (by first | exact p_o | assumption) rfl rfl rfl (Nat.le_of_ble_eq_true rfl) ⟨by decide, by decide, by decide, by decide⟩ (fun r_15 S_15 q_15 => ?_)
    obtain ⟨rfl, rfl, b_15⟩ := q_15
    refine a_if_eq (tgt := 27) X dX8_wise_18 (by decide) (fun h_18 => ?_) (fun h_18 => ?_)
    · replace h := (if_pos h_18).symm.trans h
      refine a_aload_n X dX8_wise_27 rfl ?_
      refine a_iload_n X dX8_wise_28 rfl ?_
      obtain ⟨e_29, f_29, h⟩ := zBx h
      refine a_callVv X dX8_wise_29 miX8_wisest lm8_457 (t_X8_wisest (by first | exact hP | assumption) f_29) (by first | exact p_o | assumption) rfl rfl rfl (Nat.le_of_ble_eq_true rfl) ⟨by decide, by decide, by decide, by decide⟩ ?_
      refine a_istore_n X dX8_wise_32 (by decide) ?_
      refine a_iload_n X dX8_wise_33 rfl ?_
      refine a_iconst (v := -1) X dX8_wise_34 (by decide) ?_
      refine a_icmp_ne (tgt := 46) X dX8_wise_35 (by decide) (fun h_35 => ?_) (fun h_35 => ?_)
      · replace h := (if_neg h_35).symm.trans h
        refine a_aload_n X dX8_wise_46 rfl ?_
        refine a_iload_n X dX8_wise_47 rfl ?_
        obtain ⟨e_48, f_48, h⟩ := zBx h
        refine a_callVv X dX8_wise_48 miX8_gives lm8_272 (t_X8_gives (by first | exact hP | assumption) f_48) (by first | exact p_o | assumption) rfl rfl rfl (Nat.le_of_ble_eq_true rfl) ⟨by decide, by decide, by decide, by decide⟩ ?_
        exact Zw.to2 (J_51 _ _ _ _ _ h) rfl rfl rfl
      · replace h := (if_pos h_35).symm.trans h
        refine a_aload_n X dX8_wise_38 rfl ?_
        refine a_iconst (v := 5) X dX8_wise_39 (by decide) ?_
        obtain ⟨e_40, f_40, h⟩ := zBx h
        refine a_callVv X dX8_wise_40 miX8_refuse lm8_263 (t_X8_refuse (by first | exact hP | assumption) f_40) (by first | exact p_o | assumption) rfl rfl rfl (Nat.le_of_ble_eq_true rfl) ⟨by decide, by decide, by decide, by decide⟩ ?_
        refine a_goto (tgt := 51) X dX8_wise_43 (by decide) ?_
        exact Zw.to2 (J_51 _ _ _ _ _ h) rfl rfl rfl
    · replace h := (if_neg h_18).symm.trans h
      refine a_aload_n X dX8_wise_21 rfl ?_
      refine a_iconst (v := 3) X dX8_wise_22 (by decide) ?_
      obtain ⟨e_23, f_23, h⟩ := zBx h
      refine a_callVv X dX8_wise_23 miX8_refuse lm8_263 (t_X8_refuse (by first | exact hP | assumption) f_23) (by first | exact p_o | assumption) rfl rfl rfl (Nat.le_of_ble_eq_true rfl) ⟨by decide, by decide, by decide, by decide⟩ ?_
      refine a_iret X hr dX8_wise_26 ⟨by decide, by decide⟩ ?_
      subst hF
      rw [← Option.some.inj h]
      exact ⟨rfl, rfl⟩
  · replace h := (if_pos h_5).symm.trans h
    refine a_aload_n X dX8_wise_8 rfl ?_
    refine a_iconst (v := 2) X dX8_wise_9 (by decide) ?_
    obtain ⟨e_10, f_10, h⟩ := zBx h
    refine a_callVv X dX8_wise_10 miX8_refuse lm8_263 (t_X8_refuse (by first | exact hP | assumption) f_10) (by first | exact p_o | assumption) rfl rfl rfl (Nat.le_of_ble_eq_true rfl) ⟨by decide, by decide, by decide, by decide⟩ ?_
    refine a_iret X hr dX8_wise_13 ⟨by decide, by decide⟩ ?_
    subst hF
    rw [← Option.some.inj h]
    exact ⟨rfl, rfl⟩
noncomputable def D_X8_wiseChance_55 (P : Nat) (y0_55 : Int64) (M_55 : zMt) (N_55 : zNt) : Option (Int64 × zMt × zNt) :=
  some (y0_55, M_55, N_55)
noncomputable def D_X8_wiseChance (P : Nat) (v0 : Int32) (M : zMt) (N : zNt) : Option (Int64 × zMt × zNt) :=
  zB (D_X8_isApplicant P v0 M) fun e_2 =>
  if e_2.1 = 0 then
    zB (D_X8_refuse P (2 : Int32) e_2.2) fun e_10 =>
    some ((Int32.toInt64 e_10.1), e_10.2, N)
  else
    zB (D_X8_areMany P e_2.2) fun e_16 =>
    if e_16.1 = 0 then
      zB (D_X8_wisest P v0 e_16.2 N) fun e_31 =>
      if e_31.1 = (-1 : Int32) then
        zB (D_X8_refuse P (5 : Int32) e_31.2.1) fun e_40 =>
        D_X8_wiseChance_55 P (Int32.toInt64 e_40.1) e_40.2 e_31.2.2
      else
        zB (D_X8_givesLong P (e_31.2.2 P 60) e_31.2.1) fun e_52 =>
        D_X8_wiseChance_55 P e_52.1 e_52.2 e_31.2.2
    else
      zB (D_X8_refuse P (3 : Int32) e_16.2) fun e_24 =>
      some ((Int32.toInt64 e_24.1), e_24.2, N)
set_option maxRecDepth 100000 in
set_option maxHeartbeats 4000000 in
theorem t_X8_wiseChance {l : Launch} {G : zG} {b : Nat} {L : List zC} {M : zMt} {N : zNt} {P : Nat} {v0 : Int32} (hP : LX8 L P) {r : Int64 × zMt × zNt} (h : D_X8_wiseChance P v0 M N = some r) : zM l G b yX8_wiseChance cX8_wiseChance 2 (some .long) 15 0 0 [.ref P, .int v0] (L, M, N) (fun r2 z => r2 = some (.long r.1) ∧ z = (L, r.2.1, r.2.2)) := by
  refine zM.of miX8_wiseChance (Nat.le_of_ble_eq_true rfl) ?_
  intro p e s m args below meth c X hr hname
  generalize hF : ((fun r2 z => r2 = some (.long r.1) ∧ z = (L, r.2.1, r.2.2)) : Option Value → zS → Prop) = FQ
  change Zw p l e { frames := 15, cells := 0, slots := 0, locals := 80 * (15) } s m args below meth c G b 2 (MQ below (zQ G b FQ) args s 0 0 (fun q : Nat => b ≤ q)) 0 0 0 [some (.ref P), some (.int v0)] [] (L, M, N)
  have p_lt := hP.1
  have p_o := hP.2.1
  have J_55 : ∀ (x1_55 : Int32) (y0_55 : Int64) (M_55 : zMt) (N_55 : zNt), D_X8_wiseChance_55 P y0_55 M_55 N_55 = some r → Zw p l e { frames := 15, cells := 0, slots := 0, locals := 80 * (15) } s m args below meth c G b 2 (MQ below (zQ G b FQ) args s 0 0 (fun q : Nat => b ≤ q)) 0 0 55 [some (.ref (P)), some (.int x1_55)] [.long y0_55] (L, M_55, N_55) := by
    intro x1_55 y0_55 M_55 N_55 h
    unfold D_X8_wiseChance_55 at h
    refine a_lret X hr dX8_wiseChance_55 ⟨by decide, by decide⟩ ?_
    subst hF
    rw [← Option.some.inj h]
    exact ⟨rfl, rfl⟩
  unfold D_X8_wiseChance at h
  refine a_aload_n X dX8_wiseChance_0 rfl ?_
  refine a_iload_n X dX8_wiseChance_1 rfl ?_
  obtain ⟨e_2, f_2, h⟩ := zBx h
  refine a_callVx X dX8_wiseChance_2 miX8_isApplicant lm8_315 (t_X8_isApplicant (by first | exact hP | assumption) f_2) (by first | exact p_o | assumption) rfl rfl rfl (Nat.le_of_ble_eq_true rfl) ⟨by decide, by decide, by decide, by decide⟩ (fun r_2 S_2 q_2 => ?_)
  obtain ⟨rfl, rfl, b_2⟩ := q_2
  refine a_if_ne (tgt := 15) X dX8_wiseChance_5 (by decide) (fun h_5 => ?_) (fun h_5 => ?_)
  · replace h := (if_neg h_5).symm.trans h
    refine a_aload_n X dX8_wiseChance_15 rfl ?_
    obtain ⟨e_16, f_16, h⟩ := zBx h
    refine a_callVx X dX8_wiseChance_16 miX8_areMany lm8_429 (t_X8_areMany (by first | exact hP | assumption) f_16) (by first | exact p_o | assumption) rfl rfl rfl (Nat.le_of_ble_eq_true rfl) ⟨by decide, by decide, by decide, by decide⟩ (fun r_16 S_16 q_16 => ?_)
    obtain ⟨rfl, rfl, b_16⟩ := q_16
    refine a_if_eq (tgt := 29) X dX8_wiseChance_19 (by decide) (fun h_19 => ?_) (fun h_19 => ?_)
    · replace h := (if_pos h_19).symm.trans h
      refine a_aload_n X dX8_wiseChance_29 rfl ?_
      refine a_iload_n X dX8_wiseChance_30 rfl ?_
      obtain ⟨e_31, f_31, h⟩ := zBx h
      refine a_callVv X dX8_wiseChance_31 miX8_wisest lm8_457 (t_X8_wisest (by first | exact hP | assumption) f_31) (by first | exact p_o | assumption) rfl rfl rfl (Nat.le_of_ble_eq_true rfl) ⟨by decide, by decide, by decide, by decide⟩ ?_
      refine a_iconst (v := -1) X dX8_wiseChance_34 (by decide) ?_
      refine a_icmp_ne (tgt := 47) X dX8_wiseChance_35 (by decide) (fun h_35 => ?_) (fun h_35 => ?_)
      · replace h := (if_neg h_35).symm.trans h
        refine a_aload_n X dX8_wiseChance_47 rfl ?_
        refine a_aload_n X dX8_wiseChance_48 rfl ?_
        refine a_getl X lf8_454 (by first | exact p_o | assumption) rfl dX8_wiseChance_49 ?_
        obtain ⟨e_52, f_52, h⟩ := zBx h
        refine a_callVv X dX8_wiseChance_52 miX8_givesLong lm8_438 (t_X8_givesLong (by first | exact hP | assumption) f_52) (by first | exact p_o | assumption) rfl rfl rfl (Nat.le_of_ble_eq_true rfl) ⟨by decide, by decide, by decide, by decide⟩ ?_
        exact Zw.to2 (J_55 _ _ _ _ h) rfl rfl rfl
      · replace h := (if_pos h_35).symm.trans h
        refine a_aload_n X dX8_wiseChance_38 rfl ?_
        refine a_iconst (v := 5) X dX8_wiseChance_39 (by decide) ?_
        obtain ⟨e_40, f_40, h⟩ := zBx h
        refine a_callVv X dX8_wiseChance_40 miX8_refuse lm8_263 (t_X8_refuse (by first | exact hP | assumption) f_40) (by first | exact p_o | assumption) rfl rfl rfl (Nat.le_of_ble_eq_true rfl) ⟨by decide, by decide, by decide, by decide⟩ ?_
        refine a_i2l X dX8_wiseChance_43 ?_
        refine a_goto (tgt := 55) X dX8_wiseChance_44 (by decide) ?_
        exact Zw.to2 (J_55 _ _ _ _ h) rfl rfl rfl
    · replace h := (if_neg h_19).symm.trans h
      refine a_aload_n X dX8_wiseChance_22 rfl ?_
      refine a_iconst (v := 3) X dX8_wiseChance_23 (by decide) ?_
      obtain ⟨e_24, f_24, h⟩ := zBx h
      refine a_callVv X dX8_wiseChance_24 miX8_refuse lm8_263 (t_X8_refuse (by first | exact hP | assumption) f_24) (by first | exact p_o | assumption) rfl rfl rfl (Nat.le_of_ble_eq_true rfl) ⟨by decide, by decide, by decide, by decide⟩ ?_
      refine a_i2l X dX8_wiseChance_27 ?_
      refine a_lret X hr dX8_wiseChance_28 ⟨by decide, by decide⟩ ?_
      subst hF
      rw [← Option.some.inj h]
      exact ⟨rfl, rfl⟩
  · replace h := (if_pos h_5).symm.trans h
    refine a_aload_n X dX8_wiseChance_8 rfl ?_
    refine a_iconst (v := 2) X dX8_wiseChance_9 (by decide) ?_
    obtain ⟨e_10, f_10, h⟩ := zBx h
    refine a_callVv X dX8_wiseChance_10 miX8_refuse lm8_263 (t_X8_refuse (by first | exact hP | assumption) f_10) (by first | exact p_o | assumption) rfl rfl rfl (Nat.le_of_ble_eq_true rfl) ⟨by decide, by decide, by decide, by decide⟩ ?_
    refine a_i2l X dX8_wiseChance_13 ?_
    refine a_lret X hr dX8_wiseChance_14 ⟨by decide, by decide⟩ ?_
    subst hF
    rw [← Option.some.inj h]
    exact ⟨rfl, rfl⟩
noncomputable def D_X8_laysJoined_133 (P : Nat) : Nat → Int32 → Int32 → zMt → Option (Int32 × zMt)
  | 0, _, _, _ => none
  | n + 1, x3_133, x4_133, M_133 =>
    if (M_133 P 33) ≤ x4_133 then
      some (x3_133, M_133)
    else
      zB (D_X8_laysOne P x4_133 M_133) fun e_145 =>
      (D_X8_laysJoined_133 P n) x3_133 (x4_133 + 1) e_145
noncomputable def D_X8_laysJoined_85 (P : Nat) (k5 : Int32 → Int32 → Int32 → Int32 → zMt → Option (Int32 × zMt)) (x1_85 : Int32) (x2_85 : Int32) (x3_85 : Int32) (x4_85 : Int32) (M_85 : zMt) : Option (Int32 × zMt) :=
  k5 x1_85 x2_85 x3_85 (x4_85 + 1) M_85
noncomputable def D_X8_laysJoined_5 (P : Nat) : Nat → Int32 → Int32 → Int32 → Int32 → zMt → Option (Int32 × zMt)
  | 0, _, _, _, _, _ => none
  | n + 1, x1_5, x2_5, x3_5, x4_5, M_5 =>
    if (M_5 P 33) ≤ x4_5 then
      zI x3_5 10 <|
      zLt (zu M_5 (P + 11) x3_5.toNatClampNeg (((1 : Int32) <<< (x1_5 &&& 31)) ||| ((1 : Int32) <<< (x2_5 &&& 31)))) fun M_103 =>
      zI x3_5 10 <|
      zLt (zu M_103 (P + 12) x3_5.toNatClampNeg (-1 : Int32)) fun M_110 =>
      zI x3_5 10 <|
      zLt (zu M_110 (P + 13) x3_5.toNatClampNeg ((20 : Int32) + ((3 : Int32) * x1_5))) fun M_122 =>
      zLt (zu M_122 P 33 (x3_5 + (1 : Int32))) fun M_127 =>
      D_X8_laysJoined_133 P zFu x3_5 (0 : Int32) M_127
    else
      zI x4_5 10 <|
      if (M_5 (P + 11) x4_5.toNatClampNeg) = ((1 : Int32) <<< (x1_5 &&& 31)) then
        D_X8_laysJoined_85 P (D_X8_laysJoined_5 P n) x1_5 x2_5 x3_5 x4_5 M_5
      else
        zI x4_5 10 <|
        if (M_5 (P + 11) x4_5.toNatClampNeg) = ((1 : Int32) <<< (x2_5 &&& 31)) then
          D_X8_laysJoined_85 P (D_X8_laysJoined_5 P n) x1_5 x2_5 x3_5 x4_5 M_5
        else
          zI x4_5 10 <|
          zI x3_5 10 <|
          zLt (zu M_5 (P + 11) x3_5.toNatClampNeg (M_5 (P + 11) x4_5.toNatClampNeg)) fun M_55 =>
          zI x4_5 10 <|
          zI x3_5 10 <|
          zLt (zu M_55 (P + 12) x3_5.toNatClampNeg (M_55 (P + 12) x4_5.toNatClampNeg)) fun M_68 =>
          zI x4_5 10 <|
          zI x3_5 10 <|
          zLt (zu M_68 (P + 13) x3_5.toNatClampNeg (M_68 (P + 13) x4_5.toNatClampNeg)) fun M_81 =>
          D_X8_laysJoined_85 P (D_X8_laysJoined_5 P n) x1_5 x2_5 (x3_5 + 1) x4_5 M_81
noncomputable def D_X8_laysJoined (P : Nat) (v0 : Int32) (v1 : Int32) (M : zMt) : Option (Int32 × zMt) :=
  D_X8_laysJoined_5 P zFu v0 v1 (0 : Int32) (0 : Int32) M
set_option maxRecDepth 100000 in
set_option maxHeartbeats 4000000 in
theorem t_X8_laysJoined {l : Launch} {G : zG} {b : Nat} {L : List zC} {M : zMt} {N : zNt} {P : Nat} {v0 : Int32} {v1 : Int32} (hP : LX8 L P) {r : Int32 × zMt} (h : D_X8_laysJoined P v0 v1 M = some r) : zM l G b yX8_laysJoined cX8_laysJoined 5 (some .int) 2 0 0 [.ref P, .int v0, .int v1] (L, M, N) (fun r2 z => r2 = some (.int r.1) ∧ z = (L, r.2, N)) := by
  refine zM.of miX8_laysJoined (Nat.le_of_ble_eq_true rfl) ?_
  intro p e s m args below meth c X hr hname
  generalize hF : ((fun r2 z => r2 = some (.int r.1) ∧ z = (L, r.2, N)) : Option Value → zS → Prop) = FQ
  change Zw p l e { frames := 2, cells := 0, slots := 0, locals := 80 * (2) } s m args below meth c G b 5 (MQ below (zQ G b FQ) args s 0 0 (fun q : Nat => b ≤ q)) 0 0 0 [some (.ref P), some (.int v0), some (.int v1), none, none] [] (L, M, N)
  have p_lt := hP.1
  have p_o := hP.2.1
  have p_bits := hP.2.2.2.2.2.2.2.2.2.2.2.2.1
  have p_partyOf := hP.2.2.2.2.2.2.2.2.2.2.2.2.2.1
  have p_choiceAt := hP.2.2.2.2.2.2.2.2.2.2.2.2.2.2.1
  have L_133 : ∀ u : Nat, ∀ (x1_133 : Int32) (x2_133 : Int32) (x3_133 : Int32) (x4_133 : Int32) (M_133 : zMt), D_X8_laysJoined_133 P u x3_133 x4_133 M_133 = some r → Zw p l e { frames := 2, cells := 0, slots := 0, locals := 80 * (2) } s m args below meth c G b 5 (MQ below (zQ G b FQ) args s 0 0 (fun q : Nat => b ≤ q)) 0 0 133 [some (.ref (P)), some (.int x1_133), some (.int x2_133), some (.int x3_133), some (.int x4_133)] [] (L, M_133, N) := by
    intro u
    induction u with
    | zero => intro x1_133 x2_133 x3_133 x4_133 M_133 h; cases (show none = some r from h)
    | succ u_133 ih_133 =>
      intro x1_133 x2_133 x3_133 x4_133 M_133 h
      rw [D_X8_laysJoined_133] at h
      refine a_iload X dX8_laysJoined_133 rfl ?_
      refine a_aload_n X dX8_laysJoined_135 rfl ?_
      refine a_geti X lf8_275 (by first | exact p_o | assumption) rfl dX8_laysJoined_136 ?_
      refine a_icmp_ge (tgt := 154) X dX8_laysJoined_139 (by decide) (fun h_139 => ?_) (fun h_139 => ?_)
      · replace h := (if_pos h_139).symm.trans h
        refine a_iload_n X dX8_laysJoined_154 rfl ?_
        refine a_iret X hr dX8_laysJoined_155 ⟨by decide, by decide⟩ ?_
        subst hF
        rw [← Option.some.inj h]
        exact ⟨rfl, rfl⟩
      · replace h := (if_neg h_139).symm.trans h
        refine a_aload_n X dX8_laysJoined_142 rfl ?_
        refine a_iload X dX8_laysJoined_143 rfl ?_
        obtain ⟨e_145, f_145, h⟩ := zBx h
        refine a_callVu X dX8_laysJoined_145 miX8_laysOne lm8_278 (t_X8_laysOne (by first | exact hP | assumption) f_145) (by first | exact p_o | assumption) rfl rfl rfl (Nat.le_of_ble_eq_true rfl) ⟨by decide, by decide, by decide, by decide⟩ ?_
        refine a_iinc (v := x4_133 + 1) X dX8_laysJoined_148 (by decide) rfl zi_1 ?_
        refine a_goto (tgt := 133) X dX8_laysJoined_151 (by decide) ?_
        exact Zw.to2 (ih_133 _ _ _ _ _ h) rfl rfl rfl
  have H_133 : ∀ (x1_133 : Int32) (x2_133 : Int32) (x3_133 : Int32) (x4_133 : Int32) (M_133 : zMt), D_X8_laysJoined_133 P zFu x3_133 x4_133 M_133 = some r → Zw p l e { frames := 2, cells := 0, slots := 0, locals := 80 * (2) } s m args below meth c G b 5 (MQ below (zQ G b FQ) args s 0 0 (fun q : Nat => b ≤ q)) 0 0 133 [some (.ref (P)), some (.int x1_133), some (.int x2_133), some (.int x3_133), some (.int x4_133)] [] (L, M_133, N) := L_133 zFu
  have L_5 : ∀ u : Nat, ∀ (x1_5 : Int32) (x2_5 : Int32) (x3_5 : Int32) (x4_5 : Int32) (M_5 : zMt), D_X8_laysJoined_5 P u x1_5 x2_5 x3_5 x4_5 M_5 = some r → Zw p l e { frames := 2, cells := 0, slots := 0, locals := 80 * (2) } s m args below meth c G b 5 (MQ below (zQ G b FQ) args s 0 0 (fun q : Nat => b ≤ q)) 0 0 5 [some (.ref (P)), some (.int x1_5), some (.int x2_5), some (.int x3_5), some (.int x4_5)] [] (L, M_5, N) := by
    intro u
    induction u with
    | zero => intro x1_5 x2_5 x3_5 x4_5 M_5 h; cases (show none = some r from h)
    | succ u_5 ih_5 =>
      have J_85 : ∀ (x1_85 : Int32) (x2_85 : Int32) (x3_85 : Int32) (x4_85 : Int32) (M_85 : zMt), D_X8_laysJoined_85 P (D_X8_laysJoined_5 P u_5) x1_85 x2_85 x3_85 x4_85 M_85 = some r → Zw p l e { frames := 2, cells := 0, slots := 0, locals := 80 * (2) } s m args below meth c G b 5 (MQ below (zQ G b FQ) args s 0 0 (fun q : Nat => b ≤ q)) 0 0 85 [some (.ref (P)), some (.int x1_85), some (.int x2_85), some (.int x3_85), some (.int x4_85)] [] (L, M_85, N) := by
        intro x1_85 x2_85 x3_85 x4_85 M_85 h
        unfold D_X8_laysJoined_85 at h
        refine a_iinc (v := x4_85 + 1) X dX8_laysJoined_85 (by decide) rfl zi_1 ?_
        refine a_goto (tgt := 5) X dX8_laysJoined_88 (by decide) ?_
        exact Zw.to2 (ih_5 _ _ _ _ _ h) rfl rfl rfl
      intro x1_5 x2_5 x3_5 x4_5 M_5 h
      rw [D_X8_laysJoined_5] at h
      refine a_iload X dX8_laysJoined_5 rfl ?_
      refine a_aload_n X dX8_laysJoined_7 rfl ?_
      refine a_geti X lf8_275 (by first | exact p_o | assumption) rfl dX8_laysJoined_8 ?_
      refine a_icmp_ge (tgt := 91) X dX8_laysJoined_11 (by decide) (fun h_11 => ?_) (fun h_11 => ?_)
      · replace h := (if_pos h_11).symm.trans h
        refine a_aload_n X dX8_laysJoined_91 rfl ?_
        refine a_getr X lf8_49 (by first | exact p_o | assumption) rfl (by omega) dX8_laysJoined_92 ?_
        refine a_iload_n X dX8_laysJoined_95 rfl ?_
        refine a_iconst (v := 1) X dX8_laysJoined_96 (by decide) ?_
        refine a_iload_n X dX8_laysJoined_97 rfl ?_
        refine a_ishl X dX8_laysJoined_98 ?_
        refine a_iconst (v := 1) X dX8_laysJoined_99 (by decide) ?_
        refine a_iload_n X dX8_laysJoined_100 rfl ?_
        refine a_ishl X dX8_laysJoined_101 ?_
        refine a_ior X dX8_laysJoined_102 ?_
        obtain ⟨g_103, h⟩ := zIx h
        obtain ⟨M_103, f_103, h⟩ := zLtx h
        refine d_iastore X (by first | exact p_bits | assumption) g_103 dX8_laysJoined_103 f_103 ?_
        refine a_aload_n X dX8_laysJoined_104 rfl ?_
        refine a_getr X lf8_52 (by first | exact p_o | assumption) rfl (by omega) dX8_laysJoined_105 ?_
        refine a_iload_n X dX8_laysJoined_108 rfl ?_
        refine a_iconst (v := -1) X dX8_laysJoined_109 (by decide) ?_
        obtain ⟨g_110, h⟩ := zIx h
        obtain ⟨M_110, f_110, h⟩ := zLtx h
        refine d_iastore X (by first | exact p_partyOf | assumption) g_110 dX8_laysJoined_110 f_110 ?_
        refine a_aload_n X dX8_laysJoined_111 rfl ?_
        refine a_getr X lf8_55 (by first | exact p_o | assumption) rfl (by omega) dX8_laysJoined_112 ?_
        refine a_iload_n X dX8_laysJoined_115 rfl ?_
        refine a_bipush (v := 20) X dX8_laysJoined_116 (by decide) ?_
        refine a_iconst (v := 3) X dX8_laysJoined_118 (by decide) ?_
        refine a_iload_n X dX8_laysJoined_119 rfl ?_
        refine a_imul X dX8_laysJoined_120 ?_
        refine a_iadd X dX8_laysJoined_121 ?_
        obtain ⟨g_122, h⟩ := zIx h
        obtain ⟨M_122, f_122, h⟩ := zLtx h
        refine d_iastore X (by first | exact p_choiceAt | assumption) g_122 dX8_laysJoined_122 f_122 ?_
        refine a_aload_n X dX8_laysJoined_123 rfl ?_
        refine a_iload_n X dX8_laysJoined_124 rfl ?_
        refine a_iconst (v := 1) X dX8_laysJoined_125 (by decide) ?_
        refine a_iadd X dX8_laysJoined_126 ?_
        obtain ⟨M_127, f_127, h⟩ := zLtx h
        refine d_puti X lf8_275 (by first | exact p_o | assumption) rfl dX8_laysJoined_127 f_127 ?_
        refine a_iconst (v := 0) X dX8_laysJoined_130 (by decide) ?_
        refine a_istore X dX8_laysJoined_131 (by decide) ?_
        exact Zw.to2 (H_133 _ _ _ _ _ h) rfl rfl rfl
      · replace h := (if_neg h_11).symm.trans h
        refine a_aload_n X dX8_laysJoined_14 rfl ?_
        refine a_getr X lf8_49 (by first | exact p_o | assumption) rfl (by omega) dX8_laysJoined_15 ?_
        refine a_iload X dX8_laysJoined_18 rfl ?_
        obtain ⟨g_20, h⟩ := zIx h
        refine a_iaload X (by first | exact p_bits | assumption) g_20 dX8_laysJoined_20 ?_
        refine a_iconst (v := 1) X dX8_laysJoined_21 (by decide) ?_
        refine a_iload_n X dX8_laysJoined_22 rfl ?_
        refine a_ishl X dX8_laysJoined_23 ?_
        refine a_icmp_eq (tgt := 85) X dX8_laysJoined_24 (by decide) (fun h_24 => ?_) (fun h_24 => ?_)
        · replace h := (if_pos h_24).symm.trans h
          exact Zw.to2 (J_85 _ _ _ _ _ h) rfl rfl rfl
        · replace h := (if_neg h_24).symm.trans h
          refine a_aload_n X dX8_laysJoined_27 rfl ?_
          refine a_getr X lf8_49 (by first | exact p_o | assumption) rfl (by omega) dX8_laysJoined_28 ?_
          refine a_iload X dX8_laysJoined_31 rfl ?_
          obtain ⟨g_33, h⟩ := zIx h
          refine a_iaload X (by first | exact p_bits | assumption) g_33 dX8_laysJoined_33 ?_
          refine a_iconst (v := 1) X dX8_laysJoined_34 (by decide) ?_
          refine a_iload_n X dX8_laysJoined_35 rfl ?_
          refine a_ishl X dX8_laysJoined_36 ?_
          refine a_icmp_ne (tgt := 43) X dX8_laysJoined_37 (by decide) (fun h_37 => ?_) (fun h_37 => ?_)
          · replace h := (if_neg h_37).symm.trans h
            refine a_aload_n X dX8_laysJoined_43 rfl ?_
            refine a_getr X lf8_49 (by first | exact p_o | assumption) rfl (by omega) dX8_laysJoined_44 ?_
            refine a_iload_n X dX8_laysJoined_47 rfl ?_
            refine a_aload_n X dX8_laysJoined_48 rfl ?_
            refine a_getr X lf8_49 (by first | exact p_o | assumption) rfl (by omega) dX8_laysJoined_49 ?_
            refine a_iload X dX8_laysJoined_52 rfl ?_
            obtain ⟨g_54, h⟩ := zIx h
            refine a_iaload X (by first | exact p_bits | assumption) g_54 dX8_laysJoined_54 ?_
            obtain ⟨g_55, h⟩ := zIx h
            obtain ⟨M_55, f_55, h⟩ := zLtx h
            refine d_iastore X (by first | exact p_bits | assumption) g_55 dX8_laysJoined_55 f_55 ?_
            refine a_aload_n X dX8_laysJoined_56 rfl ?_
            refine a_getr X lf8_52 (by first | exact p_o | assumption) rfl (by omega) dX8_laysJoined_57 ?_
            refine a_iload_n X dX8_laysJoined_60 rfl ?_
            refine a_aload_n X dX8_laysJoined_61 rfl ?_
            refine a_getr X lf8_52 (by first | exact p_o | assumption) rfl (by omega) dX8_laysJoined_62 ?_
            refine a_iload X dX8_laysJoined_65 rfl ?_
            obtain ⟨g_67, h⟩ := zIx h
            refine a_iaload X (by first | exact p_partyOf | assumption) g_67 dX8_laysJoined_67 ?_
            obtain ⟨g_68, h⟩ := zIx h
            obtain ⟨M_68, f_68, h⟩ := zLtx h
            refine d_iastore X (by first | exact p_partyOf | assumption) g_68 dX8_laysJoined_68 f_68 ?_
            refine a_aload_n X dX8_laysJoined_69 rfl ?_
            refine a_getr X lf8_55 (by first | exact p_o | assumption) rfl (by omega) dX8_laysJoined_70 ?_
            refine a_iload_n X dX8_laysJoined_73 rfl ?_
            refine a_aload_n X dX8_laysJoined_74 rfl ?_
            refine a_getr X lf8_55 (by first | exact p_o | assumption) rfl (by omega) dX8_laysJoined_75 ?_
            refine a_iload X dX8_laysJoined_78 rfl ?_
            obtain ⟨g_80, h⟩ := zIx h
            refine a_iaload X (by first | exact p_choiceAt | assumption) g_80 dX8_laysJoined_80 ?_
            obtain ⟨g_81, h⟩ := zIx h
            obtain ⟨M_81, f_81, h⟩ := zLtx h
            refine d_iastore X (by first | exact p_choiceAt | assumption) g_81 dX8_laysJoined_81 f_81 ?_
            refine a_iinc (v := x3_5 + 1) X dX8_laysJoined_82 (by decide) rfl zi_1 ?_
            exact Zw.to2 (J_85 _ _ _ _ _ h) rfl rfl rfl
          · replace h := (if_pos h_37).symm.trans h
            refine a_goto (tgt := 85) X dX8_laysJoined_40 (by decide) ?_
            exact Zw.to2 (J_85 _ _ _ _ _ h) rfl rfl rfl
  have H_5 : ∀ (x1_5 : Int32) (x2_5 : Int32) (x3_5 : Int32) (x4_5 : Int32) (M_5 : zMt), D_X8_laysJoined_5 P zFu x1_5 x2_5 x3_5 x4_5 M_5 = some r → Zw p l e { frames := 2, cells := 0, slots := 0, locals := 80 * (2) } s m args below meth c G b 5 (MQ below (zQ G b FQ) args s 0 0 (fun q : Nat => b ≤ q)) 0 0 5 [some (.ref (P)), some (.int x1_5), some (.int x2_5), some (.int x3_5), some (.int x4_5)] [] (L, M_5, N) := L_5 zFu
  unfold D_X8_laysJoined at h
  refine a_iconst (v := 0) X dX8_laysJoined_0 (by decide) ?_
  refine a_istore_n X dX8_laysJoined_1 (by decide) ?_
  refine a_iconst (v := 0) X dX8_laysJoined_2 (by decide) ?_
  refine a_istore X dX8_laysJoined_3 (by decide) ?_
  exact Zw.to2 (H_5 _ _ _ _ _ h) rfl rfl rfl
noncomputable def D_X8_together_61 (P : Nat) (M_61 : zMt) (N_61 : zNt) : Option (Int64 × zMt × zNt) :=
  zB (D_X8_refuse P (7 : Int32) M_61) fun e_64 =>
  some ((Int32.toInt64 e_64.1), e_64.2, N_61)
noncomputable def D_X8_together_16 (P : Nat) (M_16 : zMt) (N_16 : zNt) : Option (Int64 × zMt × zNt) :=
  zB (D_X8_refuse P (2 : Int32) M_16) fun e_18 =>
  some ((Int32.toInt64 e_18.1), e_18.2, N_16)
noncomputable def D_X8_together (P : Nat) (v0 : Int32) (v1 : Int32) (M : zMt) (N : zNt) : Option (Int64 × zMt × zNt) :=
  zB (D_X8_isHunter P M v0) fun e_2 =>
  if e_2 = 0 then
    D_X8_together_16 P M N
  else
    zB (D_X8_isHunter P M v1) fun e_10 =>
    if e_10 = 0 then
      D_X8_together_16 P M N
    else
      if v0 = v1 then
        zB (D_X8_refuse P (4 : Int32) M) fun e_30 =>
        some ((Int32.toInt64 e_30.1), e_30.2, N)
      else
        zI ((10 : Int32) + v0) 82 <|
        if (M (P + 1) ((10 : Int32) + v0).toNatClampNeg) = (-1 : Int32) then
          zI ((10 : Int32) + v1) 82 <|
          if (M (P + 1) ((10 : Int32) + v1).toNatClampNeg) = (-1 : Int32) then
            zB (D_X8_laysApplicants P M) fun e_70 =>
            if (e_70 P 33) ≤ (8 : Int32) then
              zB (D_X8_laysJoined P v0 v1 e_70) fun e_92 =>
              zB (D_X8_allOrders P e_92.2 N) fun e_97 =>
              zB (D_X8_chanceOf P e_97.1 e_97.2 e_92.1) fun e_103 =>
              zB (D_X8_givesLong P e_103 e_97.1) fun e_106 =>
              some (e_106.1, e_106.2, e_97.2)
            else
              zB (D_X8_refuse P (3 : Int32) e_70) fun e_84 =>
              some ((Int32.toInt64 e_84.1), e_84.2, N)
          else
            D_X8_together_61 P M N
        else
          D_X8_together_61 P M N
set_option maxRecDepth 100000 in
set_option maxHeartbeats 4000000 in
theorem t_X8_together {l : Launch} {G : zG} {b : Nat} {L : List zC} {M : zMt} {N : zNt} {P : Nat} {v0 : Int32} {v1 : Int32} (hP : LX8 L P) {r : Int64 × zMt × zNt} (h : D_X8_together P v0 v1 M N = some r) : zM l G b yX8_together cX8_together 4 (some .long) 13 0 0 [.ref P, .int v0, .int v1] (L, M, N) (fun r2 z => r2 = some (.long r.1) ∧ z = (L, r.2.1, r.2.2)) := by
  refine zM.of miX8_together (Nat.le_of_ble_eq_true rfl) ?_
  intro p e s m args below meth c X hr hname
  generalize hF : ((fun r2 z => r2 = some (.long r.1) ∧ z = (L, r.2.1, r.2.2)) : Option Value → zS → Prop) = FQ
  change Zw p l e { frames := 13, cells := 0, slots := 0, locals := 80 * (13) } s m args below meth c G b 4 (MQ below (zQ G b FQ) args s 0 0 (fun q : Nat => b ≤ q)) 0 0 0 [some (.ref P), some (.int v0), some (.int v1), none] [] (L, M, N)
  have p_lt := hP.1
  have p_o := hP.2.1
  have p_s := hP.2.2.1
  have J_61 : ∀ (x1_61 : Int32) (x2_61 : Int32) (x3_61 : Option Value) (M_61 : zMt) (N_61 : zNt), D_X8_together_61 P M_61 N_61 = some r → Zw p l e { frames := 13, cells := 0, slots := 0, locals := 80 * (13) } s m args below meth c G b 4 (MQ below (zQ G b FQ) args s 0 0 (fun q : Nat => b ≤ q)) 0 0 61 [some (.ref (P)), some (.int x1_61), some (.int x2_61), x3_61] [] (L, M_61, N_61) := by
    intro x1_61 x2_61 x3_61 M_61 N_61 h
    unfold D_X8_together_61 at h
    refine a_aload_n X dX8_together_61 rfl ?_
    refine a_bipush (v := 7) X dX8_together_62 (by decide) ?_
    obtain ⟨e_64, f_64, h⟩ := zBx h
    refine a_callVv X dX8_together_64 miX8_refuse lm8_263 (t_X8_refuse (by first | exact hP | assumption) f_64) (by first | exact p_o | assumption) rfl rfl rfl (Nat.le_of_ble_eq_true rfl) ⟨by decide, by decide, by decide, by decide⟩ ?_
    refine a_i2l X dX8_together_67 ?_
    refine a_lret X hr dX8_together_68 ⟨by decide, by decide⟩ ?_
    subst hF
    rw [← Option.some.inj h]
    exact ⟨rfl, rfl⟩
  have J_16 : ∀ (x1_16 : Int32) (x2_16 : Int32) (x3_16 : Option Value) (M_16 : zMt) (N_16 : zNt), D_X8_together_16 P M_16 N_16 = some r → Zw p l e { frames := 13, cells := 0, slots := 0, locals := 80 * (13) } s m args below meth c G b 4 (MQ below (zQ G b FQ) args s 0 0 (fun q : Nat => b ≤ q)) 0 0 16 [some (.ref (P)), some (.int x1_16), some (.int x2_16), x3_16] [] (L, M_16, N_16) := by
    intro x1_16 x2_16 x3_16 M_16 N_16 h
    unfold D_X8_together_16 at h
    refine a_aload_n X dX8_together_16 rfl ?_
    refine a_iconst (v := 2) X dX8_together_17 (by decide) ?_
    obtain ⟨e_18, f_18, h⟩ := zBx h
    refine a_callVv X dX8_together_18 miX8_refuse lm8_263 (t_X8_refuse (by first | exact hP | assumption) f_18) (by first | exact p_o | assumption) rfl rfl rfl (Nat.le_of_ble_eq_true rfl) ⟨by decide, by decide, by decide, by decide⟩ ?_
    refine a_i2l X dX8_together_21 ?_
    refine a_lret X hr dX8_together_22 ⟨by decide, by decide⟩ ?_
    subst hF
    rw [← Option.some.inj h]
    exact ⟨rfl, rfl⟩
  unfold D_X8_together at h
  refine a_aload_n X dX8_together_0 rfl ?_
  refine a_iload_n X dX8_together_1 rfl ?_
  obtain ⟨e_2, f_2, h⟩ := zBx h
  refine a_callVx X dX8_together_2 miX8_isHunter lm8_293 (t_X8_isHunter (by first | exact hP | assumption) f_2) (by first | exact p_o | assumption) rfl rfl rfl (Nat.le_of_ble_eq_true rfl) ⟨by decide, by decide, by decide, by decide⟩ (fun r_2 S_2 q_2 => ?_)
  obtain ⟨rfl, rfl, b_2⟩ := q_2
  refine a_if_eq (tgt := 16) X dX8_together_5 (by decide) (fun h_5 => ?_) (fun h_5 => ?_)
  · replace h := (if_pos h_5).symm.trans h
    exact Zw.to2 (J_16 _ _ _ _ _ h) rfl rfl rfl
  · replace h := (if_neg h_5).symm.trans h
    refine a_aload_n X dX8_together_8 rfl ?_
    refine a_iload_n X dX8_together_9 rfl ?_
    obtain ⟨e_10, f_10, h⟩ := zBx h
    refine a_callVx X dX8_together_10 miX8_isHunter lm8_293 (t_X8_isHunter (by first | exact hP | assumption) f_10) (by first | exact p_o | assumption) rfl rfl rfl (Nat.le_of_ble_eq_true rfl) ⟨by decide, by decide, by decide, by decide⟩ (fun r_10 S_10 q_10 => ?_)
    obtain ⟨rfl, rfl, b_10⟩ := q_10
    refine a_if_ne (tgt := 23) X dX8_together_13 (by decide) (fun h_13 => ?_) (fun h_13 => ?_)
    · replace h := (if_neg h_13).symm.trans h
      refine a_iload_n X dX8_together_23 rfl ?_
      refine a_iload_n X dX8_together_24 rfl ?_
      refine a_icmp_ne (tgt := 35) X dX8_together_25 (by decide) (fun h_25 => ?_) (fun h_25 => ?_)
      · replace h := (if_neg h_25).symm.trans h
        refine a_aload_n X dX8_together_35 rfl ?_
        refine a_getr X lf8_7 (by first | exact p_o | assumption) rfl (by omega) dX8_together_36 ?_
        refine a_bipush (v := 10) X dX8_together_39 (by decide) ?_
        refine a_iload_n X dX8_together_41 rfl ?_
        refine a_iadd X dX8_together_42 ?_
        obtain ⟨g_43, h⟩ := zIx h
        refine a_iaload X (by first | exact p_s | assumption) g_43 dX8_together_43 ?_
        refine a_iconst (v := -1) X dX8_together_44 (by decide) ?_
        refine a_icmp_ne (tgt := 61) X dX8_together_45 (by decide) (fun h_45 => ?_) (fun h_45 => ?_)
        · replace h := (if_neg h_45).symm.trans h
          exact Zw.to2 (J_61 _ _ _ _ _ h) rfl rfl rfl
        · replace h := (if_pos h_45).symm.trans h
          refine a_aload_n X dX8_together_48 rfl ?_
          refine a_getr X lf8_7 (by first | exact p_o | assumption) rfl (by omega) dX8_together_49 ?_
          refine a_bipush (v := 10) X dX8_together_52 (by decide) ?_
          refine a_iload_n X dX8_together_54 rfl ?_
          refine a_iadd X dX8_together_55 ?_
          obtain ⟨g_56, h⟩ := zIx h
          refine a_iaload X (by first | exact p_s | assumption) g_56 dX8_together_56 ?_
          refine a_iconst (v := -1) X dX8_together_57 (by decide) ?_
          refine a_icmp_eq (tgt := 69) X dX8_together_58 (by decide) (fun h_58 => ?_) (fun h_58 => ?_)
          · replace h := (if_pos h_58).symm.trans h
            refine a_aload_n X dX8_together_69 rfl ?_
            obtain ⟨e_70, f_70, h⟩ := zBx h
            refine a_callVu X dX8_together_70 miX8_laysApplicants lm8_281 (t_X8_laysApplicants (by first | exact hP | assumption) f_70) (by first | exact p_o | assumption) rfl rfl rfl (Nat.le_of_ble_eq_true rfl) ⟨by decide, by decide, by decide, by decide⟩ ?_
            refine a_aload_n X dX8_together_73 rfl ?_
            refine a_geti X lf8_275 (by first | exact p_o | assumption) rfl dX8_together_74 ?_
            refine a_bipush (v := 8) X dX8_together_77 (by decide) ?_
            refine a_icmp_le (tgt := 89) X dX8_together_79 (by decide) (fun h_79 => ?_) (fun h_79 => ?_)
            · replace h := (if_pos h_79).symm.trans h
              refine a_aload_n X dX8_together_89 rfl ?_
              refine a_iload_n X dX8_together_90 rfl ?_
              refine a_iload_n X dX8_together_91 rfl ?_
              obtain ⟨e_92, f_92, h⟩ := zBx h
              refine a_callVv X dX8_together_92 miX8_laysJoined lm8_460 (t_X8_laysJoined (by first | exact hP | assumption) f_92) (by first | exact p_o | assumption) rfl rfl rfl (Nat.le_of_ble_eq_true rfl) ⟨by decide, by decide, by decide, by decide⟩ ?_
              refine a_istore_n X dX8_together_95 (by decide) ?_
              refine a_aload_n X dX8_together_96 rfl ?_
              obtain ⟨e_97, f_97, h⟩ := zBx h
              refine a_callVu X dX8_together_97 miX8_allOrders lm8_390 (t_X8_allOrders (by first | exact hP | assumption) f_97) (by first | exact p_o | assumption) rfl rfl rfl (Nat.le_of_ble_eq_true rfl) ⟨by decide, by decide, by decide, by decide⟩ ?_
              refine a_aload_n X dX8_together_100 rfl ?_
              refine a_aload_n X dX8_together_101 rfl ?_
              refine a_iload_n X dX8_together_102 rfl ?_
              obtain ⟨e_103, f_103, h⟩ := zBx h
              refine a_callVv X dX8_together_103 miX8_chanceOf lm8_435 (t_X8_chanceOf (by first | exact hP | assumption) f_103) (by first | exact p_o | assumption) rfl rfl rfl (Nat.le_of_ble_eq_true rfl) ⟨by decide, by decide, by decide, by decide⟩ ?_
              obtain ⟨e_106, f_106, h⟩ := zBx h
              refine a_callVv X dX8_together_106 miX8_givesLong lm8_438 (t_X8_givesLong (by first | exact hP | assumption) f_106) (by first | exact p_o | assumption) rfl rfl rfl (Nat.le_of_ble_eq_true rfl) ⟨by decide, by decide, by decide, by decide⟩ ?_
              refine a_lret X hr dX8_together_109 ⟨by decide, by decide⟩ ?_
              subst hF
              rw [← Option.some.inj h]
              exact ⟨rfl, rfl⟩
            · replace h := (if_neg h_79).symm.trans h
              refine a_aload_n X dX8_together_82 rfl ?_
              refine a_iconst (v := 3) X dX8_together_83 (by decide) ?_
              obtain ⟨e_84, f_84, h⟩ := zBx h
              refine a_callVv X dX8_together_84 miX8_refuse lm8_263 (t_X8_refuse (by first | exact hP | assumption) f_84) (by first | exact p_o | assumption) rfl rfl rfl (Nat.le_of_ble_eq_true rfl) ⟨by decide, by decide, by decide, by decide⟩ ?_
              refine a_i2l X dX8_together_87 ?_
              refine a_lret X hr dX8_together_88 ⟨by decide, by decide⟩ ?_
              subst hF
              rw [← Option.some.inj h]
              exact ⟨rfl, rfl⟩
          · replace h := (if_neg h_58).symm.trans h
            exact Zw.to2 (J_61 _ _ _ _ _ h) rfl rfl rfl
      · replace h := (if_pos h_25).symm.trans h
        refine a_aload_n X dX8_together_28 rfl ?_
        refine a_iconst (v := 4) X dX8_together_29 (by decide) ?_
        obtain ⟨e_30, f_30, h⟩ := zBx h
        refine a_callVv X dX8_together_30 miX8_refuse lm8_263 (t_X8_refuse (by first | exact hP | assumption) f_30) (by first | exact p_o | assumption) rfl rfl rfl (Nat.le_of_ble_eq_true rfl) ⟨by decide, by decide, by decide, by decide⟩ ?_
        refine a_i2l X dX8_together_33 ?_
        refine a_lret X hr dX8_together_34 ⟨by decide, by decide⟩ ?_
        subst hF
        rw [← Option.some.inj h]
        exact ⟨rfl, rfl⟩
    · replace h := (if_pos h_13).symm.trans h
      exact Zw.to2 (J_16 _ _ _ _ _ h) rfl rfl rfl
noncomputable def D_X8_splits_157 (P : Nat) (k122 : Int32 → zMt → Option (zMt)) (x2_157 : Int32) (y1_157 : Int32) (y2_157 : Int32) (M_157 : zMt) : Option (zMt) :=
  zI y1_157 82 <|
  zLt (zu M_157 (P + 1) y1_157.toNatClampNeg y2_157) fun M_157 =>
  k122 (x2_157 + 1) M_157
noncomputable def D_X8_splits_122 (P : Nat) : Nat → Int32 → zMt → Option (zMt)
  | 0, _, _ => none
  | n + 1, x2_122, M_122 =>
    if (12 : Int32) ≤ x2_122 then
      some (M_122)
    else
      if (9 : Int32) ≤ x2_122 then
        D_X8_splits_157 P (D_X8_splits_122 P n) x2_122 ((50 : Int32) + x2_122) (-1 : Int32) M_122
      else
        zI (((50 : Int32) + x2_122) + (3 : Int32)) 82 <|
        D_X8_splits_157 P (D_X8_splits_122 P n) x2_122 ((50 : Int32) + x2_122) (M_122 (P + 1) (((50 : Int32) + x2_122) + (3 : Int32)).toNatClampNeg) M_122
noncomputable def D_X8_splits_101 (P : Nat) (k2 : Int32 → Int32 → zMt → Option (zMt)) (x1_101 : Int32) (x2_101 : Int32) (M_101 : zMt) : Option (zMt) :=
  k2 x1_101 (x2_101 + 1) M_101
noncomputable def D_X8_splits_35 (P : Nat) (k2 : Int32 → Int32 → zMt → Option (zMt)) : Nat → Int32 → Int32 → Int32 → zMt → Option (zMt)
  | 0, _, _, _, _ => none
  | n + 1, x1_35, x2_35, x3_35, M_35 =>
    if (3 : Int32) ≤ x3_35 then
      D_X8_splits_101 P k2 x1_35 x2_35 M_35
    else
      zI (((50 : Int32) + ((3 : Int32) * x1_35)) + x3_35) 82 <|
      zI (((20 : Int32) + ((3 : Int32) * x2_35)) + x3_35) 82 <|
      zLt (zu M_35 (P + 1) (((20 : Int32) + ((3 : Int32) * x2_35)) + x3_35).toNatClampNeg (M_35 (P + 1) (((50 : Int32) + ((3 : Int32) * x1_35)) + x3_35).toNatClampNeg)) fun M_65 =>
      (D_X8_splits_35 P k2 n) x1_35 x2_35 (x3_35 + 1) M_65
noncomputable def D_X8_splits_2 (P : Nat) : Nat → Int32 → Int32 → zMt → Option (zMt)
  | 0, _, _, _ => none
  | n + 1, x1_2, x2_2, M_2 =>
    if (M_2 P 8) ≤ x2_2 then
      zI (70 : Int32) 82 <|
      zI (70 : Int32) 82 <|
      zLt (zu M_2 (P + 1) (70 : Int32).toNatClampNeg ((M_2 (P + 1) (70 : Int32).toNatClampNeg) - (1 : Int32))) fun M_117 =>
      D_X8_splits_122 P zFu ((3 : Int32) * x1_2) M_117
    else
      zI ((10 : Int32) + x2_2) 82 <|
      if (M_2 (P + 1) ((10 : Int32) + x2_2).toNatClampNeg) = x1_2 then
        zI ((10 : Int32) + x2_2) 82 <|
        zLt (zu M_2 (P + 1) ((10 : Int32) + x2_2).toNatClampNeg (-1 : Int32)) fun M_32 =>
        D_X8_splits_35 P (D_X8_splits_2 P n) zFu x1_2 x2_2 (0 : Int32) M_32
      else
        zI ((10 : Int32) + x2_2) 82 <|
        if (M_2 (P + 1) ((10 : Int32) + x2_2).toNatClampNeg) ≤ x1_2 then
          D_X8_splits_101 P (D_X8_splits_2 P n) x1_2 x2_2 M_2
        else
          zI ((10 : Int32) + x2_2) 82 <|
          zI ((10 : Int32) + x2_2) 82 <|
          zLt (zu M_2 (P + 1) ((10 : Int32) + x2_2).toNatClampNeg ((M_2 (P + 1) ((10 : Int32) + x2_2).toNatClampNeg) - (1 : Int32))) fun M_100 =>
          D_X8_splits_101 P (D_X8_splits_2 P n) x1_2 x2_2 M_100
noncomputable def D_X8_splits (P : Nat) (v0 : Int32) (M : zMt) : Option (zMt) :=
  D_X8_splits_2 P zFu v0 (0 : Int32) M
set_option maxRecDepth 100000 in
set_option maxHeartbeats 4000000 in
theorem t_X8_splits {l : Launch} {G : zG} {b : Nat} {L : List zC} {M : zMt} {N : zNt} {P : Nat} {v0 : Int32} (hP : LX8 L P) {r : zMt} (h : D_X8_splits P v0 M = some r) : zM l G b yX8_splits cX8_splits 4 none 0 0 0 [.ref P, .int v0] (L, M, N) (fun r2 z => r2 = none ∧ z = (L, r, N)) := by
  refine zM.of miX8_splits (Nat.le_of_ble_eq_true rfl) ?_
  intro p e s m args below meth c X hr hname
  generalize hF : ((fun r2 z => r2 = none ∧ z = (L, r, N)) : Option Value → zS → Prop) = FQ
  change Zw p l e { frames := 0, cells := 0, slots := 0, locals := 80 * (0) } s m args below meth c G b 4 (MQ below (zQ G b FQ) args s 0 0 (fun q : Nat => b ≤ q)) 0 0 0 [some (.ref P), some (.int v0), none, none] [] (L, M, N)
  have p_lt := hP.1
  have p_o := hP.2.1
  have p_s := hP.2.2.1
  have L_122 : ∀ u : Nat, ∀ (x1_122 : Int32) (x2_122 : Int32) (x3_122 : Option Value) (M_122 : zMt), D_X8_splits_122 P u x2_122 M_122 = some r → Zw p l e { frames := 0, cells := 0, slots := 0, locals := 80 * (0) } s m args below meth c G b 4 (MQ below (zQ G b FQ) args s 0 0 (fun q : Nat => b ≤ q)) 0 0 122 [some (.ref (P)), some (.int x1_122), some (.int x2_122), x3_122] [] (L, M_122, N) := by
    intro u
    induction u with
    | zero => intro x1_122 x2_122 x3_122 M_122 h; cases (show none = some r from h)
    | succ u_122 ih_122 =>
      have J_157 : ∀ (x1_157 : Int32) (x2_157 : Int32) (x3_157 : Option Value) (y1_157 : Int32) (y2_157 : Int32) (M_157 : zMt), D_X8_splits_157 P (D_X8_splits_122 P u_122) x2_157 y1_157 y2_157 M_157 = some r → Zw p l e { frames := 0, cells := 0, slots := 0, locals := 80 * (0) } s m args below meth c G b 4 (MQ below (zQ G b FQ) args s 0 0 (fun q : Nat => b ≤ q)) 0 0 157 [some (.ref (P)), some (.int x1_157), some (.int x2_157), x3_157] [.int y2_157, .int y1_157, .ref (P + 1)] (L, M_157, N) := by
        intro x1_157 x2_157 x3_157 y1_157 y2_157 M_157 h
        unfold D_X8_splits_157 at h
        obtain ⟨g_157, h⟩ := zIx h
        obtain ⟨M_157, f_157, h⟩ := zLtx h
        refine d_iastore X (by first | exact p_s | assumption) g_157 dX8_splits_157 f_157 ?_
        refine a_iinc (v := x2_157 + 1) X dX8_splits_158 (by decide) rfl zi_1 ?_
        refine a_goto (tgt := 122) X dX8_splits_161 (by decide) ?_
        exact Zw.to2 (ih_122 _ _ _ _ h) rfl rfl rfl
      intro x1_122 x2_122 x3_122 M_122 h
      rw [D_X8_splits_122] at h
      refine a_iload_n X dX8_splits_122 rfl ?_
      refine a_bipush (v := 12) X dX8_splits_123 (by decide) ?_
      refine a_icmp_ge (tgt := 164) X dX8_splits_125 (by decide) (fun h_125 => ?_) (fun h_125 => ?_)
      · replace h := (if_pos h_125).symm.trans h
        refine a_vret X hr dX8_splits_164 ⟨by decide, by decide⟩ ?_
        subst hF
        rw [← Option.some.inj h]
        exact ⟨rfl, rfl⟩
      · replace h := (if_neg h_125).symm.trans h
        refine a_aload_n X dX8_splits_128 rfl ?_
        refine a_getr X lf8_7 (by first | exact p_o | assumption) rfl (by omega) dX8_splits_129 ?_
        refine a_bipush (v := 50) X dX8_splits_132 (by decide) ?_
        refine a_iload_n X dX8_splits_134 rfl ?_
        refine a_iadd X dX8_splits_135 ?_
        refine a_iload_n X dX8_splits_136 rfl ?_
        refine a_bipush (v := 9) X dX8_splits_137 (by decide) ?_
        refine a_icmp_ge (tgt := 156) X dX8_splits_139 (by decide) (fun h_139 => ?_) (fun h_139 => ?_)
        · replace h := (if_pos h_139).symm.trans h
          refine a_iconst (v := -1) X dX8_splits_156 (by decide) ?_
          exact Zw.to2 (J_157 _ _ _ _ _ _ h) rfl rfl rfl
        · replace h := (if_neg h_139).symm.trans h
          refine a_aload_n X dX8_splits_142 rfl ?_
          refine a_getr X lf8_7 (by first | exact p_o | assumption) rfl (by omega) dX8_splits_143 ?_
          refine a_bipush (v := 50) X dX8_splits_146 (by decide) ?_
          refine a_iload_n X dX8_splits_148 rfl ?_
          refine a_iadd X dX8_splits_149 ?_
          refine a_iconst (v := 3) X dX8_splits_150 (by decide) ?_
          refine a_iadd X dX8_splits_151 ?_
          obtain ⟨g_152, h⟩ := zIx h
          refine a_iaload X (by first | exact p_s | assumption) g_152 dX8_splits_152 ?_
          refine a_goto (tgt := 157) X dX8_splits_153 (by decide) ?_
          exact Zw.to2 (J_157 _ _ _ _ _ _ h) rfl rfl rfl
  have H_122 : ∀ (x1_122 : Int32) (x2_122 : Int32) (x3_122 : Option Value) (M_122 : zMt), D_X8_splits_122 P zFu x2_122 M_122 = some r → Zw p l e { frames := 0, cells := 0, slots := 0, locals := 80 * (0) } s m args below meth c G b 4 (MQ below (zQ G b FQ) args s 0 0 (fun q : Nat => b ≤ q)) 0 0 122 [some (.ref (P)), some (.int x1_122), some (.int x2_122), x3_122] [] (L, M_122, N) := L_122 zFu
  have L_2 : ∀ u : Nat, ∀ (x1_2 : Int32) (x2_2 : Int32) (x3_2 : Option Value) (M_2 : zMt), D_X8_splits_2 P u x1_2 x2_2 M_2 = some r → Zw p l e { frames := 0, cells := 0, slots := 0, locals := 80 * (0) } s m args below meth c G b 4 (MQ below (zQ G b FQ) args s 0 0 (fun q : Nat => b ≤ q)) 0 0 2 [some (.ref (P)), some (.int x1_2), some (.int x2_2), x3_2] [] (L, M_2, N) := by
    intro u
    induction u with
    | zero => intro x1_2 x2_2 x3_2 M_2 h; cases (show none = some r from h)
    | succ u_2 ih_2 =>
      have J_101 : ∀ (x1_101 : Int32) (x2_101 : Int32) (x3_101 : Option Value) (M_101 : zMt), D_X8_splits_101 P (D_X8_splits_2 P u_2) x1_101 x2_101 M_101 = some r → Zw p l e { frames := 0, cells := 0, slots := 0, locals := 80 * (0) } s m args below meth c G b 4 (MQ below (zQ G b FQ) args s 0 0 (fun q : Nat => b ≤ q)) 0 0 101 [some (.ref (P)), some (.int x1_101), some (.int x2_101), x3_101] [] (L, M_101, N) := by
        intro x1_101 x2_101 x3_101 M_101 h
        unfold D_X8_splits_101 at h
        refine a_iinc (v := x2_101 + 1) X dX8_splits_101 (by decide) rfl zi_1 ?_
        refine a_goto (tgt := 2) X dX8_splits_104 (by decide) ?_
        exact Zw.to2 (ih_2 _ _ _ _ h) rfl rfl rfl
      have L_35 : ∀ u : Nat, ∀ (x1_35 : Int32) (x2_35 : Int32) (x3_35 : Int32) (M_35 : zMt), D_X8_splits_35 P (D_X8_splits_2 P u_2) u x1_35 x2_35 x3_35 M_35 = some r → Zw p l e { frames := 0, cells := 0, slots := 0, locals := 80 * (0) } s m args below meth c G b 4 (MQ below (zQ G b FQ) args s 0 0 (fun q : Nat => b ≤ q)) 0 0 35 [some (.ref (P)), some (.int x1_35), some (.int x2_35), some (.int x3_35)] [] (L, M_35, N) := by
        intro u
        induction u with
        | zero => intro x1_35 x2_35 x3_35 M_35 h; cases (show none = some r from h)
        | succ u_35 ih_35 =>
          intro x1_35 x2_35 x3_35 M_35 h
          rw [D_X8_splits_35] at h
          refine a_iload_n X dX8_splits_35 rfl ?_
          refine a_iconst (v := 3) X dX8_splits_36 (by decide) ?_
          refine a_icmp_ge (tgt := 72) X dX8_splits_37 (by decide) (fun h_37 => ?_) (fun h_37 => ?_)
          · replace h := (if_pos h_37).symm.trans h
            refine a_goto (tgt := 101) X dX8_splits_72 (by decide) ?_
            exact Zw.to2 (J_101 _ _ _ _ h) rfl rfl rfl
          · replace h := (if_neg h_37).symm.trans h
            refine a_aload_n X dX8_splits_40 rfl ?_
            refine a_getr X lf8_7 (by first | exact p_o | assumption) rfl (by omega) dX8_splits_41 ?_
            refine a_bipush (v := 20) X dX8_splits_44 (by decide) ?_
            refine a_iconst (v := 3) X dX8_splits_46 (by decide) ?_
            refine a_iload_n X dX8_splits_47 rfl ?_
            refine a_imul X dX8_splits_48 ?_
            refine a_iadd X dX8_splits_49 ?_
            refine a_iload_n X dX8_splits_50 rfl ?_
            refine a_iadd X dX8_splits_51 ?_
            refine a_aload_n X dX8_splits_52 rfl ?_
            refine a_getr X lf8_7 (by first | exact p_o | assumption) rfl (by omega) dX8_splits_53 ?_
            refine a_bipush (v := 50) X dX8_splits_56 (by decide) ?_
            refine a_iconst (v := 3) X dX8_splits_58 (by decide) ?_
            refine a_iload_n X dX8_splits_59 rfl ?_
            refine a_imul X dX8_splits_60 ?_
            refine a_iadd X dX8_splits_61 ?_
            refine a_iload_n X dX8_splits_62 rfl ?_
            refine a_iadd X dX8_splits_63 ?_
            obtain ⟨g_64, h⟩ := zIx h
            refine a_iaload X (by first | exact p_s | assumption) g_64 dX8_splits_64 ?_
            obtain ⟨g_65, h⟩ := zIx h
            obtain ⟨M_65, f_65, h⟩ := zLtx h
            refine d_iastore X (by first | exact p_s | assumption) g_65 dX8_splits_65 f_65 ?_
            refine a_iinc (v := x3_35 + 1) X dX8_splits_66 (by decide) rfl zi_1 ?_
            refine a_goto (tgt := 35) X dX8_splits_69 (by decide) ?_
            exact Zw.to2 (ih_35 _ _ _ _ h) rfl rfl rfl
      have H_35 : ∀ (x1_35 : Int32) (x2_35 : Int32) (x3_35 : Int32) (M_35 : zMt), D_X8_splits_35 P (D_X8_splits_2 P u_2) zFu x1_35 x2_35 x3_35 M_35 = some r → Zw p l e { frames := 0, cells := 0, slots := 0, locals := 80 * (0) } s m args below meth c G b 4 (MQ below (zQ G b FQ) args s 0 0 (fun q : Nat => b ≤ q)) 0 0 35 [some (.ref (P)), some (.int x1_35), some (.int x2_35), some (.int x3_35)] [] (L, M_35, N) := L_35 zFu
      intro x1_2 x2_2 x3_2 M_2 h
      rw [D_X8_splits_2] at h
      refine a_iload_n X dX8_splits_2 rfl ?_
      refine a_aload_n X dX8_splits_3 rfl ?_
      refine a_geti X lf8_132 (by first | exact p_o | assumption) rfl dX8_splits_4 ?_
      refine a_icmp_ge (tgt := 107) X dX8_splits_7 (by decide) (fun h_7 => ?_) (fun h_7 => ?_)
      · replace h := (if_pos h_7).symm.trans h
        refine a_aload_n X dX8_splits_107 rfl ?_
        refine a_getr X lf8_7 (by first | exact p_o | assumption) rfl (by omega) dX8_splits_108 ?_
        refine a_bipush (v := 70) X dX8_splits_111 (by decide) ?_
        refine a_dup2 X dX8_splits_113 rfl rfl ?_
        obtain ⟨g_114, h⟩ := zIx h
        refine a_iaload X (by first | exact p_s | assumption) g_114 dX8_splits_114 ?_
        refine a_iconst (v := 1) X dX8_splits_115 (by decide) ?_
        refine a_isub X dX8_splits_116 ?_
        obtain ⟨g_117, h⟩ := zIx h
        obtain ⟨M_117, f_117, h⟩ := zLtx h
        refine d_iastore X (by first | exact p_s | assumption) g_117 dX8_splits_117 f_117 ?_
        refine a_iconst (v := 3) X dX8_splits_118 (by decide) ?_
        refine a_iload_n X dX8_splits_119 rfl ?_
        refine a_imul X dX8_splits_120 ?_
        refine a_istore_n X dX8_splits_121 (by decide) ?_
        exact Zw.to2 (H_122 _ _ _ _ h) rfl rfl rfl
      · replace h := (if_neg h_7).symm.trans h
        refine a_aload_n X dX8_splits_10 rfl ?_
        refine a_getr X lf8_7 (by first | exact p_o | assumption) rfl (by omega) dX8_splits_11 ?_
        refine a_bipush (v := 10) X dX8_splits_14 (by decide) ?_
        refine a_iload_n X dX8_splits_16 rfl ?_
        refine a_iadd X dX8_splits_17 ?_
        obtain ⟨g_18, h⟩ := zIx h
        refine a_iaload X (by first | exact p_s | assumption) g_18 dX8_splits_18 ?_
        refine a_iload_n X dX8_splits_19 rfl ?_
        refine a_icmp_ne (tgt := 75) X dX8_splits_20 (by decide) (fun h_20 => ?_) (fun h_20 => ?_)
        · replace h := (if_neg h_20).symm.trans h
          refine a_aload_n X dX8_splits_75 rfl ?_
          refine a_getr X lf8_7 (by first | exact p_o | assumption) rfl (by omega) dX8_splits_76 ?_
          refine a_bipush (v := 10) X dX8_splits_79 (by decide) ?_
          refine a_iload_n X dX8_splits_81 rfl ?_
          refine a_iadd X dX8_splits_82 ?_
          obtain ⟨g_83, h⟩ := zIx h
          refine a_iaload X (by first | exact p_s | assumption) g_83 dX8_splits_83 ?_
          refine a_iload_n X dX8_splits_84 rfl ?_
          refine a_icmp_le (tgt := 101) X dX8_splits_85 (by decide) (fun h_85 => ?_) (fun h_85 => ?_)
          · replace h := (if_pos h_85).symm.trans h
            exact Zw.to2 (J_101 _ _ _ _ h) rfl rfl rfl
          · replace h := (if_neg h_85).symm.trans h
            refine a_aload_n X dX8_splits_88 rfl ?_
            refine a_getr X lf8_7 (by first | exact p_o | assumption) rfl (by omega) dX8_splits_89 ?_
            refine a_bipush (v := 10) X dX8_splits_92 (by decide) ?_
            refine a_iload_n X dX8_splits_94 rfl ?_
            refine a_iadd X dX8_splits_95 ?_
            refine a_dup2 X dX8_splits_96 rfl rfl ?_
            obtain ⟨g_97, h⟩ := zIx h
            refine a_iaload X (by first | exact p_s | assumption) g_97 dX8_splits_97 ?_
            refine a_iconst (v := 1) X dX8_splits_98 (by decide) ?_
            refine a_isub X dX8_splits_99 ?_
            obtain ⟨g_100, h⟩ := zIx h
            obtain ⟨M_100, f_100, h⟩ := zLtx h
            refine d_iastore X (by first | exact p_s | assumption) g_100 dX8_splits_100 f_100 ?_
            exact Zw.to2 (J_101 _ _ _ _ h) rfl rfl rfl
        · replace h := (if_pos h_20).symm.trans h
          refine a_aload_n X dX8_splits_23 rfl ?_
          refine a_getr X lf8_7 (by first | exact p_o | assumption) rfl (by omega) dX8_splits_24 ?_
          refine a_bipush (v := 10) X dX8_splits_27 (by decide) ?_
          refine a_iload_n X dX8_splits_29 rfl ?_
          refine a_iadd X dX8_splits_30 ?_
          refine a_iconst (v := -1) X dX8_splits_31 (by decide) ?_
          obtain ⟨g_32, h⟩ := zIx h
          obtain ⟨M_32, f_32, h⟩ := zLtx h
          refine d_iastore X (by first | exact p_s | assumption) g_32 dX8_splits_32 f_32 ?_
          refine a_iconst (v := 0) X dX8_splits_33 (by decide) ?_
          refine a_istore_n X dX8_splits_34 (by decide) ?_
          exact Zw.to2 (H_35 _ _ _ _ h) rfl rfl rfl
  have H_2 : ∀ (x1_2 : Int32) (x2_2 : Int32) (x3_2 : Option Value) (M_2 : zMt), D_X8_splits_2 P zFu x1_2 x2_2 M_2 = some r → Zw p l e { frames := 0, cells := 0, slots := 0, locals := 80 * (0) } s m args below meth c G b 4 (MQ below (zQ G b FQ) args s 0 0 (fun q : Nat => b ≤ q)) 0 0 2 [some (.ref (P)), some (.int x1_2), some (.int x2_2), x3_2] [] (L, M_2, N) := L_2 zFu
  unfold D_X8_splits at h
  refine a_iconst (v := 0) X dX8_splits_0 (by decide) ?_
  refine a_istore_n X dX8_splits_1 (by decide) ?_
  exact Zw.to2 (H_2 _ _ _ _ h) rfl rfl rfl
noncomputable def D_X8_apart_163 (P : Nat) (y0_163 : Int64) (M_163 : zMt) (N_163 : zNt) : Option (Int64 × zMt × zNt) :=
  some (y0_163, M_163, N_163)
noncomputable def D_X8_apart_138 (P : Nat) (x3_138 : Int32) (M_138 : zMt) (N_138 : zNt) : Option (Int64 × zMt × zNt) :=
  zB (D_X8_takesBack P M_138) fun e_139 =>
  if x3_138 = 0 then
    zB (D_X8_refuse P (3 : Int32) e_139) fun e_159 =>
    D_X8_apart_163 P (Int32.toInt64 e_159.1) e_159.2 N_138
  else
    zB (D_X8_givesLong P (N_138 P 59) e_139) fun e_151 =>
    D_X8_apart_163 P e_151.1 e_151.2 N_138
noncomputable def D_X8_apart_124 (P : Nat) (k90 : Int32 → Int32 → Int32 → zMt → zNt → Option (Int64 × zMt × zNt)) (x2_124 : Int32) (x3_124 : Int32) (x4_124 : Int32) (y1_124 : Int32) (y2_124 : Int32) (M_124 : zMt) (N_124 : zNt) : Option (Int64 × zMt × zNt) :=
  zLt (zu M_124 P 58 (y1_124 ||| y2_124)) fun M_125 =>
  k90 x2_124 x3_124 (x4_124 + 1) M_125 N_124
noncomputable def D_X8_apart_90 (P : Nat) : Nat → Int32 → Int32 → Int32 → zMt → zNt → Option (Int64 × zMt × zNt)
  | 0, _, _, _, _, _ => none
  | n + 1, x2_90, x3_90, x4_90, M_90, N_90 =>
    if (M_90 P 33) ≤ x4_90 then
      zB (D_X8_laysAll P M_90 N_90) fun e_135 =>
      D_X8_apart_138 P x3_90 e_135.1 e_135.2
    else
      zI x4_90 10 <|
      if ((M_90 (P + 11) x4_90.toNatClampNeg) &&& x2_90) = 0 then
        D_X8_apart_124 P (D_X8_apart_90 P n) x2_90 x3_90 x4_90 (M_90 P 58) (0 : Int32) M_90 N_90
      else
        D_X8_apart_124 P (D_X8_apart_90 P n) x2_90 x3_90 x4_90 (M_90 P 58) ((1 : Int32) <<< (x4_90 &&& 31)) M_90 N_90
noncomputable def D_X8_apart_77 (P : Nat) (x2_77 : Int32) (y0_77 : Int32) (M_77 : zMt) (N_77 : zNt) : Option (Int64 × zMt × zNt) :=
  if y0_77 = 0 then
    D_X8_apart_138 P y0_77 M_77 N_77
  else
    zLt (zu M_77 P 58 (0 : Int32)) fun M_84 =>
    D_X8_apart_90 P zFu x2_77 y0_77 (0 : Int32) M_84 N_77
noncomputable def D_X8_apart_48 (P : Nat) (k19 : Int32 → Int32 → Int32 → zMt → zNt → Option (Int64 × zMt × zNt)) (x1_48 : Int32) (x3_48 : Int32) (y0_48 : Int32) (y1_48 : Int32) (M_48 : zMt) (N_48 : zNt) : Option (Int64 × zMt × zNt) :=
  k19 x1_48 (y0_48 ||| y1_48) (x3_48 + 1) M_48 N_48
noncomputable def D_X8_apart_19 (P : Nat) : Nat → Int32 → Int32 → Int32 → zMt → zNt → Option (Int64 × zMt × zNt)
  | 0, _, _, _, _, _ => none
  | n + 1, x1_19, x2_19, x3_19, M_19, N_19 =>
    if (M_19 P 8) ≤ x3_19 then
      zB (D_X8_putsAside P M_19) fun e_57 =>
      zB (D_X8_splits P x1_19 e_57) fun e_62 =>
      zB (D_X8_areMany P e_62) fun e_66 =>
      if e_66.1 = 0 then
        D_X8_apart_77 P x2_19 (1 : Int32) e_66.2 N_19
      else
        D_X8_apart_77 P x2_19 (0 : Int32) e_66.2 N_19
    else
      zI ((10 : Int32) + x3_19) 82 <|
      if (M_19 (P + 1) ((10 : Int32) + x3_19).toNatClampNeg) = x1_19 then
        D_X8_apart_48 P (D_X8_apart_19 P n) x1_19 x3_19 x2_19 ((1 : Int32) <<< (x3_19 &&& 31)) M_19 N_19
      else
        D_X8_apart_48 P (D_X8_apart_19 P n) x1_19 x3_19 x2_19 (0 : Int32) M_19 N_19
noncomputable def D_X8_apart (P : Nat) (v0 : Int32) (M : zMt) (N : zNt) : Option (Int64 × zMt × zNt) :=
  zB (D_X8_isParty P M v0) fun e_2 =>
  if e_2 = 0 then
    zB (D_X8_refuse P (2 : Int32) M) fun e_10 =>
    some ((Int32.toInt64 e_10.1), e_10.2, N)
  else
    D_X8_apart_19 P zFu v0 (0 : Int32) (0 : Int32) M N
set_option maxRecDepth 100000 in
set_option maxHeartbeats 4000000 in
theorem t_X8_apart {l : Launch} {G : zG} {b : Nat} {L : List zC} {M : zMt} {N : zNt} {P : Nat} {v0 : Int32} (hP : LX8 L P) {r : Int64 × zMt × zNt} (h : D_X8_apart P v0 M N = some r) : zM l G b yX8_apart cX8_apart 5 (some .long) 14 0 0 [.ref P, .int v0] (L, M, N) (fun r2 z => r2 = some (.long r.1) ∧ z = (L, r.2.1, r.2.2)) := by
  refine zM.of miX8_apart (Nat.le_of_ble_eq_true rfl) ?_
  intro p e s m args below meth c X hr hname
  generalize hF : ((fun r2 z => r2 = some (.long r.1) ∧ z = (L, r.2.1, r.2.2)) : Option Value → zS → Prop) = FQ
  change Zw p l e { frames := 14, cells := 0, slots := 0, locals := 80 * (14) } s m args below meth c G b 5 (MQ below (zQ G b FQ) args s 0 0 (fun q : Nat => b ≤ q)) 0 0 0 [some (.ref P), some (.int v0), none, none, none] [] (L, M, N)
  have p_lt := hP.1
  have p_o := hP.2.1
  have p_s := hP.2.2.1
  have p_bits := hP.2.2.2.2.2.2.2.2.2.2.2.2.1
  have J_163 : ∀ (x1_163 : Int32) (x2_163 : Int32) (x3_163 : Int32) (x4_163 : Option Value) (y0_163 : Int64) (M_163 : zMt) (N_163 : zNt), D_X8_apart_163 P y0_163 M_163 N_163 = some r → Zw p l e { frames := 14, cells := 0, slots := 0, locals := 80 * (14) } s m args below meth c G b 5 (MQ below (zQ G b FQ) args s 0 0 (fun q : Nat => b ≤ q)) 0 0 163 [some (.ref (P)), some (.int x1_163), some (.int x2_163), some (.int x3_163), x4_163] [.long y0_163] (L, M_163, N_163) := by
    intro x1_163 x2_163 x3_163 x4_163 y0_163 M_163 N_163 h
    unfold D_X8_apart_163 at h
    refine a_lret X hr dX8_apart_163 ⟨by decide, by decide⟩ ?_
    subst hF
    rw [← Option.some.inj h]
    exact ⟨rfl, rfl⟩
  have J_138 : ∀ (x1_138 : Int32) (x2_138 : Int32) (x3_138 : Int32) (x4_138 : Option Value) (M_138 : zMt) (N_138 : zNt), (x3_138 = 0 ∨ x3_138 = 1) → D_X8_apart_138 P x3_138 M_138 N_138 = some r → Zw p l e { frames := 14, cells := 0, slots := 0, locals := 80 * (14) } s m args below meth c G b 5 (MQ below (zQ G b FQ) args s 0 0 (fun q : Nat => b ≤ q)) 0 0 138 [some (.ref (P)), some (.int x1_138), some (.int x2_138), some (.int x3_138), x4_138] [] (L, M_138, N_138) := by
    intro x1_138 x2_138 x3_138 x4_138 M_138 N_138 fb_x3_138 h
    unfold D_X8_apart_138 at h
    refine a_aload_n X dX8_apart_138 rfl ?_
    obtain ⟨e_139, f_139, h⟩ := zBx h
    refine a_callVu X dX8_apart_139 miX8_takesBack lm8_449 (t_X8_takesBack (by first | exact hP | assumption) f_139) (by first | exact p_o | assumption) rfl rfl rfl (Nat.le_of_ble_eq_true rfl) ⟨by decide, by decide, by decide, by decide⟩ ?_
    refine a_iload_n X dX8_apart_142 rfl ?_
    refine a_if_eq (tgt := 157) X dX8_apart_143 (by decide) (fun h_143 => ?_) (fun h_143 => ?_)
    · replace h := (if_pos h_143).symm.trans h
      refine a_aload_n X dX8_apart_157 rfl ?_
      refine a_iconst (v := 3) X dX8_apart_158 (by decide) ?_
      obtain ⟨e_159, f_159, h⟩ := zBx h
      refine a_callVv X dX8_apart_159 miX8_refuse lm8_263 (t_X8_refuse (by first | exact hP | assumption) f_159) (by first | exact p_o | assumption) rfl rfl rfl (Nat.le_of_ble_eq_true rfl) ⟨by decide, by decide, by decide, by decide⟩ ?_
      refine a_i2l X dX8_apart_162 ?_
      exact Zw.to2 (J_163 _ _ _ _ _ _ _ h) rfl rfl rfl
    · replace h := (if_neg h_143).symm.trans h
      refine a_aload_n X dX8_apart_146 rfl ?_
      refine a_aload_n X dX8_apart_147 rfl ?_
      refine a_getl X lf8_393 (by first | exact p_o | assumption) rfl dX8_apart_148 ?_
      obtain ⟨e_151, f_151, h⟩ := zBx h
      refine a_callVv X dX8_apart_151 miX8_givesLong lm8_438 (t_X8_givesLong (by first | exact hP | assumption) f_151) (by first | exact p_o | assumption) rfl rfl rfl (Nat.le_of_ble_eq_true rfl) ⟨by decide, by decide, by decide, by decide⟩ ?_
      refine a_goto (tgt := 163) X dX8_apart_154 (by decide) ?_
      exact Zw.to2 (J_163 _ _ _ _ _ _ _ h) rfl rfl rfl
  have L_90 : ∀ u : Nat, ∀ (x1_90 : Int32) (x2_90 : Int32) (x3_90 : Int32) (x4_90 : Int32) (M_90 : zMt) (N_90 : zNt), (x3_90 = 0 ∨ x3_90 = 1) → D_X8_apart_90 P u x2_90 x3_90 x4_90 M_90 N_90 = some r → Zw p l e { frames := 14, cells := 0, slots := 0, locals := 80 * (14) } s m args below meth c G b 5 (MQ below (zQ G b FQ) args s 0 0 (fun q : Nat => b ≤ q)) 0 0 90 [some (.ref (P)), some (.int x1_90), some (.int x2_90), some (.int x3_90), some (.int x4_90)] [] (L, M_90, N_90) := by
    intro u
    induction u with
    | zero => intro x1_90 x2_90 x3_90 x4_90 M_90 N_90 fb_x3_90 h; cases (show none = some r from h)
    | succ u_90 ih_90 =>
      have J_124 : ∀ (x1_124 : Int32) (x2_124 : Int32) (x3_124 : Int32) (x4_124 : Int32) (y1_124 : Int32) (y2_124 : Int32) (M_124 : zMt) (N_124 : zNt), (x3_124 = 0 ∨ x3_124 = 1) → D_X8_apart_124 P (D_X8_apart_90 P u_90) x2_124 x3_124 x4_124 y1_124 y2_124 M_124 N_124 = some r → Zw p l e { frames := 14, cells := 0, slots := 0, locals := 80 * (14) } s m args below meth c G b 5 (MQ below (zQ G b FQ) args s 0 0 (fun q : Nat => b ≤ q)) 0 0 124 [some (.ref (P)), some (.int x1_124), some (.int x2_124), some (.int x3_124), some (.int x4_124)] [.int y2_124, .int y1_124, .ref (P)] (L, M_124, N_124) := by
        intro x1_124 x2_124 x3_124 x4_124 y1_124 y2_124 M_124 N_124 fb_x3_124 h
        unfold D_X8_apart_124 at h
        refine a_ior X dX8_apart_124 ?_
        obtain ⟨M_125, f_125, h⟩ := zLtx h
        refine d_puti X lf8_418 (by first | exact p_o | assumption) rfl dX8_apart_125 f_125 ?_
        refine a_iinc (v := x4_124 + 1) X dX8_apart_128 (by decide) rfl zi_1 ?_
        refine a_goto (tgt := 90) X dX8_apart_131 (by decide) ?_
        exact Zw.to2 (ih_90 _ _ _ _ _ _ (by first | exact Or.inl rfl | exact Or.inr rfl | assumption) h) rfl rfl rfl
      intro x1_90 x2_90 x3_90 x4_90 M_90 N_90 fb_x3_90 h
      rw [D_X8_apart_90] at h
      refine a_iload X dX8_apart_90 rfl ?_
      refine a_aload_n X dX8_apart_92 rfl ?_
      refine a_geti X lf8_275 (by first | exact p_o | assumption) rfl dX8_apart_93 ?_
      refine a_icmp_ge (tgt := 134) X dX8_apart_96 (by decide) (fun h_96 => ?_) (fun h_96 => ?_)
      · replace h := (if_pos h_96).symm.trans h
        refine a_aload_n X dX8_apart_134 rfl ?_
        obtain ⟨e_135, f_135, h⟩ := zBx h
        refine a_callVu X dX8_apart_135 miX8_laysAll lm8_432 (t_X8_laysAll (by first | exact hP | assumption) f_135) (by first | exact p_o | assumption) rfl rfl rfl (Nat.le_of_ble_eq_true rfl) ⟨by decide, by decide, by decide, by decide⟩ ?_
        exact Zw.to2 (J_138 _ _ _ _ _ _ (by first | exact Or.inl rfl | exact Or.inr rfl | assumption) h) rfl rfl rfl
      · replace h := (if_neg h_96).symm.trans h
        refine a_aload_n X dX8_apart_99 rfl ?_
        refine a_dup X dX8_apart_100 rfl ?_
        refine a_geti X lf8_418 (by first | exact p_o | assumption) rfl dX8_apart_101 ?_
        refine a_aload_n X dX8_apart_104 rfl ?_
        refine a_getr X lf8_49 (by first | exact p_o | assumption) rfl (by omega) dX8_apart_105 ?_
        refine a_iload X dX8_apart_108 rfl ?_
        obtain ⟨g_110, h⟩ := zIx h
        refine a_iaload X (by first | exact p_bits | assumption) g_110 dX8_apart_110 ?_
        refine a_iload_n X dX8_apart_111 rfl ?_
        refine a_iand X dX8_apart_112 ?_
        refine a_if_eq (tgt := 123) X dX8_apart_113 (by decide) (fun h_113 => ?_) (fun h_113 => ?_)
        · replace h := (if_pos h_113).symm.trans h
          refine a_iconst (v := 0) X dX8_apart_123 (by decide) ?_
          exact Zw.to2 (J_124 _ _ _ _ _ _ _ _ (by first | exact Or.inl rfl | exact Or.inr rfl | assumption) h) rfl rfl rfl
        · replace h := (if_neg h_113).symm.trans h
          refine a_iconst (v := 1) X dX8_apart_116 (by decide) ?_
          refine a_iload X dX8_apart_117 rfl ?_
          refine a_ishl X dX8_apart_119 ?_
          refine a_goto (tgt := 124) X dX8_apart_120 (by decide) ?_
          exact Zw.to2 (J_124 _ _ _ _ _ _ _ _ (by first | exact Or.inl rfl | exact Or.inr rfl | assumption) h) rfl rfl rfl
  have H_90 : ∀ (x1_90 : Int32) (x2_90 : Int32) (x3_90 : Int32) (x4_90 : Int32) (M_90 : zMt) (N_90 : zNt), (x3_90 = 0 ∨ x3_90 = 1) → D_X8_apart_90 P zFu x2_90 x3_90 x4_90 M_90 N_90 = some r → Zw p l e { frames := 14, cells := 0, slots := 0, locals := 80 * (14) } s m args below meth c G b 5 (MQ below (zQ G b FQ) args s 0 0 (fun q : Nat => b ≤ q)) 0 0 90 [some (.ref (P)), some (.int x1_90), some (.int x2_90), some (.int x3_90), some (.int x4_90)] [] (L, M_90, N_90) := L_90 zFu
  have J_77 : ∀ (x1_77 : Int32) (x2_77 : Int32) (x3_77 : Int32) (x4_77 : Option Value) (y0_77 : Int32) (M_77 : zMt) (N_77 : zNt), (y0_77 = 0 ∨ y0_77 = 1) → D_X8_apart_77 P x2_77 y0_77 M_77 N_77 = some r → Zw p l e { frames := 14, cells := 0, slots := 0, locals := 80 * (14) } s m args below meth c G b 5 (MQ below (zQ G b FQ) args s 0 0 (fun q : Nat => b ≤ q)) 0 0 77 [some (.ref (P)), some (.int x1_77), some (.int x2_77), some (.int x3_77), x4_77] [.int y0_77] (L, M_77, N_77) := by
    intro x1_77 x2_77 x3_77 x4_77 y0_77 M_77 N_77 fb_y0_77 h
    unfold D_X8_apart_77 at h
    refine a_istore_n X dX8_apart_77 (by decide) ?_
    refine a_iload_n X dX8_apart_78 rfl ?_
    refine a_if_eq (tgt := 138) X dX8_apart_79 (by decide) (fun h_79 => ?_) (fun h_79 => ?_)
    · replace h := (if_pos h_79).symm.trans h
      exact Zw.to2 (J_138 _ _ _ _ _ _ (by first | exact Or.inl rfl | exact Or.inr rfl | assumption) h) rfl rfl rfl
    · replace h := (if_neg h_79).symm.trans h
      refine a_aload_n X dX8_apart_82 rfl ?_
      refine a_iconst (v := 0) X dX8_apart_83 (by decide) ?_
      obtain ⟨M_84, f_84, h⟩ := zLtx h
      refine d_puti X lf8_418 (by first | exact p_o | assumption) rfl dX8_apart_84 f_84 ?_
      refine a_iconst (v := 0) X dX8_apart_87 (by decide) ?_
      refine a_istore X dX8_apart_88 (by decide) ?_
      exact Zw.to2 (H_90 _ _ _ _ _ _ (by first | exact Or.inl rfl | exact Or.inr rfl | assumption) h) rfl rfl rfl
  have L_19 : ∀ u : Nat, ∀ (x1_19 : Int32) (x2_19 : Int32) (x3_19 : Int32) (x4_19 : Option Value) (M_19 : zMt) (N_19 : zNt), D_X8_apart_19 P u x1_19 x2_19 x3_19 M_19 N_19 = some r → Zw p l e { frames := 14, cells := 0, slots := 0, locals := 80 * (14) } s m args below meth c G b 5 (MQ below (zQ G b FQ) args s 0 0 (fun q : Nat => b ≤ q)) 0 0 19 [some (.ref (P)), some (.int x1_19), some (.int x2_19), some (.int x3_19), x4_19] [] (L, M_19, N_19) := by
    intro u
    induction u with
    | zero => intro x1_19 x2_19 x3_19 x4_19 M_19 N_19 h; cases (show none = some r from h)
    | succ u_19 ih_19 =>
      have J_48 : ∀ (x1_48 : Int32) (x2_48 : Int32) (x3_48 : Int32) (x4_48 : Option Value) (y0_48 : Int32) (y1_48 : Int32) (M_48 : zMt) (N_48 : zNt), D_X8_apart_48 P (D_X8_apart_19 P u_19) x1_48 x3_48 y0_48 y1_48 M_48 N_48 = some r → Zw p l e { frames := 14, cells := 0, slots := 0, locals := 80 * (14) } s m args below meth c G b 5 (MQ below (zQ G b FQ) args s 0 0 (fun q : Nat => b ≤ q)) 0 0 48 [some (.ref (P)), some (.int x1_48), some (.int x2_48), some (.int x3_48), x4_48] [.int y1_48, .int y0_48] (L, M_48, N_48) := by
        intro x1_48 x2_48 x3_48 x4_48 y0_48 y1_48 M_48 N_48 h
        unfold D_X8_apart_48 at h
        refine a_ior X dX8_apart_48 ?_
        refine a_istore_n X dX8_apart_49 (by decide) ?_
        refine a_iinc (v := x3_48 + 1) X dX8_apart_50 (by decide) rfl zi_1 ?_
        refine a_goto (tgt := 19) X dX8_apart_53 (by decide) ?_
        exact Zw.to2 (ih_19 _ _ _ _ _ _ h) rfl rfl rfl
      intro x1_19 x2_19 x3_19 x4_19 M_19 N_19 h
      rw [D_X8_apart_19] at h
      refine a_iload_n X dX8_apart_19 rfl ?_
      refine a_aload_n X dX8_apart_20 rfl ?_
      refine a_geti X lf8_132 (by first | exact p_o | assumption) rfl dX8_apart_21 ?_
      refine a_icmp_ge (tgt := 56) X dX8_apart_24 (by decide) (fun h_24 => ?_) (fun h_24 => ?_)
      · replace h := (if_pos h_24).symm.trans h
        refine a_aload_n X dX8_apart_56 rfl ?_
        obtain ⟨e_57, f_57, h⟩ := zBx h
        refine a_callVu X dX8_apart_57 miX8_putsAside lm8_444 (t_X8_putsAside (by first | exact hP | assumption) f_57) (by first | exact p_o | assumption) rfl rfl rfl (Nat.le_of_ble_eq_true rfl) ⟨by decide, by decide, by decide, by decide⟩ ?_
        refine a_aload_n X dX8_apart_60 rfl ?_
        refine a_iload_n X dX8_apart_61 rfl ?_
        obtain ⟨e_62, f_62, h⟩ := zBx h
        refine a_callVu X dX8_apart_62 miX8_splits lm8_466 (t_X8_splits (by first | exact hP | assumption) f_62) (by first | exact p_o | assumption) rfl rfl rfl (Nat.le_of_ble_eq_true rfl) ⟨by decide, by decide, by decide, by decide⟩ ?_
        refine a_aload_n X dX8_apart_65 rfl ?_
        obtain ⟨e_66, f_66, h⟩ := zBx h
        refine a_callVx X dX8_apart_66 miX8_areMany lm8_429 (t_X8_areMany (by first | exact hP | assumption) f_66) (by first | exact p_o | assumption) rfl rfl rfl (Nat.le_of_ble_eq_true rfl) ⟨by decide, by decide, by decide, by decide⟩ (fun r_66 S_66 q_66 => ?_)
        obtain ⟨rfl, rfl, b_66⟩ := q_66
        refine a_if_ne (tgt := 76) X dX8_apart_69 (by decide) (fun h_69 => ?_) (fun h_69 => ?_)
        · replace h := (if_neg h_69).symm.trans h
          refine a_iconst (v := 0) X dX8_apart_76 (by decide) ?_
          exact Zw.to2 (J_77 _ _ _ _ _ _ _ (by first | exact Or.inl rfl | exact Or.inr rfl | assumption) h) rfl rfl rfl
        · replace h := (if_pos h_69).symm.trans h
          refine a_iconst (v := 1) X dX8_apart_72 (by decide) ?_
          refine a_goto (tgt := 77) X dX8_apart_73 (by decide) ?_
          exact Zw.to2 (J_77 _ _ _ _ _ _ _ (by first | exact Or.inl rfl | exact Or.inr rfl | assumption) h) rfl rfl rfl
      · replace h := (if_neg h_24).symm.trans h
        refine a_iload_n X dX8_apart_27 rfl ?_
        refine a_aload_n X dX8_apart_28 rfl ?_
        refine a_getr X lf8_7 (by first | exact p_o | assumption) rfl (by omega) dX8_apart_29 ?_
        refine a_bipush (v := 10) X dX8_apart_32 (by decide) ?_
        refine a_iload_n X dX8_apart_34 rfl ?_
        refine a_iadd X dX8_apart_35 ?_
        obtain ⟨g_36, h⟩ := zIx h
        refine a_iaload X (by first | exact p_s | assumption) g_36 dX8_apart_36 ?_
        refine a_iload_n X dX8_apart_37 rfl ?_
        refine a_icmp_ne (tgt := 47) X dX8_apart_38 (by decide) (fun h_38 => ?_) (fun h_38 => ?_)
        · replace h := (if_neg h_38).symm.trans h
          refine a_iconst (v := 0) X dX8_apart_47 (by decide) ?_
          exact Zw.to2 (J_48 _ _ _ _ _ _ _ _ h) rfl rfl rfl
        · replace h := (if_pos h_38).symm.trans h
          refine a_iconst (v := 1) X dX8_apart_41 (by decide) ?_
          refine a_iload_n X dX8_apart_42 rfl ?_
          refine a_ishl X dX8_apart_43 ?_
          refine a_goto (tgt := 48) X dX8_apart_44 (by decide) ?_
          exact Zw.to2 (J_48 _ _ _ _ _ _ _ _ h) rfl rfl rfl
  have H_19 : ∀ (x1_19 : Int32) (x2_19 : Int32) (x3_19 : Int32) (x4_19 : Option Value) (M_19 : zMt) (N_19 : zNt), D_X8_apart_19 P zFu x1_19 x2_19 x3_19 M_19 N_19 = some r → Zw p l e { frames := 14, cells := 0, slots := 0, locals := 80 * (14) } s m args below meth c G b 5 (MQ below (zQ G b FQ) args s 0 0 (fun q : Nat => b ≤ q)) 0 0 19 [some (.ref (P)), some (.int x1_19), some (.int x2_19), some (.int x3_19), x4_19] [] (L, M_19, N_19) := L_19 zFu
  unfold D_X8_apart at h
  refine a_aload_n X dX8_apart_0 rfl ?_
  refine a_iload_n X dX8_apart_1 rfl ?_
  obtain ⟨e_2, f_2, h⟩ := zBx h
  refine a_callVx X dX8_apart_2 miX8_isParty lm8_463 (t_X8_isParty (by first | exact hP | assumption) f_2) (by first | exact p_o | assumption) rfl rfl rfl (Nat.le_of_ble_eq_true rfl) ⟨by decide, by decide, by decide, by decide⟩ (fun r_2 S_2 q_2 => ?_)
  obtain ⟨rfl, rfl, b_2⟩ := q_2
  refine a_if_ne (tgt := 15) X dX8_apart_5 (by decide) (fun h_5 => ?_) (fun h_5 => ?_)
  · replace h := (if_neg h_5).symm.trans h
    refine a_iconst (v := 0) X dX8_apart_15 (by decide) ?_
    refine a_istore_n X dX8_apart_16 (by decide) ?_
    refine a_iconst (v := 0) X dX8_apart_17 (by decide) ?_
    refine a_istore_n X dX8_apart_18 (by decide) ?_
    exact Zw.to2 (H_19 _ _ _ _ _ _ h) rfl rfl rfl
  · replace h := (if_pos h_5).symm.trans h
    refine a_aload_n X dX8_apart_8 rfl ?_
    refine a_iconst (v := 2) X dX8_apart_9 (by decide) ?_
    obtain ⟨e_10, f_10, h⟩ := zBx h
    refine a_callVv X dX8_apart_10 miX8_refuse lm8_263 (t_X8_refuse (by first | exact hP | assumption) f_10) (by first | exact p_o | assumption) rfl rfl rfl (Nat.le_of_ble_eq_true rfl) ⟨by decide, by decide, by decide, by decide⟩ ?_
    refine a_i2l X dX8_apart_13 ?_
    refine a_lret X hr dX8_apart_14 ⟨by decide, by decide⟩ ?_
    subst hF
    rw [← Option.some.inj h]
    exact ⟨rfl, rfl⟩
noncomputable def D_X8_likes_78 (P : Nat) (k40 : Int32 → Int32 → Int64 → Int32 → zMt → zNt → Option (Int32 × zMt × zNt)) (x1_78 : Int32) (x2_78 : Int32) (x3_78 : Int64) (x5_78 : Int32) (M_78 : zMt) (N_78 : zNt) : Option (Int32 × zMt × zNt) :=
  k40 x1_78 x2_78 x3_78 (x5_78 + 1) M_78 N_78
noncomputable def D_X8_likes_40 (P : Nat) : Nat → Int32 → Int32 → Int64 → Int32 → zMt → zNt → Option (Int32 × zMt × zNt)
  | 0, _, _, _, _, _, _ => none
  | n + 1, x1_40, x2_40, x3_40, x5_40, M_40, N_40 =>
    if (3 : Int32) ≤ x5_40 then
      zB (D_X8_takesBack P M_40) fun e_85 =>
      zB (D_X8_gives P x2_40 e_85) fun e_90 =>
      some (e_90.1, e_90.2, N_40)
    else
      zI (67 : Int32) 82 <|
      zLt (zu M_40 (P + 1) (67 : Int32).toNatClampNeg x5_40) fun M_54 =>
      zB (D_X8_laysAll P M_54 N_40) fun e_56 =>
      zB (D_X8_chanceOf P e_56.1 e_56.2 x1_40) fun e_61 =>
      if (lg_cmp e_61 x3_40) ≤ 0 then
        D_X8_likes_78 P (D_X8_likes_40 P n) x1_40 x2_40 x3_40 x5_40 e_56.1 e_56.2
      else
        zB (D_X8_chanceOf P e_56.1 e_56.2 x1_40) fun e_74 =>
        D_X8_likes_78 P (D_X8_likes_40 P n) x1_40 x5_40 e_74 x5_40 e_56.1 e_56.2
noncomputable def D_X8_likes (P : Nat) (v0 : Int32) (M : zMt) (N : zNt) : Option (Int32 × zMt × zNt) :=
  zB (D_X8_isApplicant P v0 M) fun e_2 =>
  if e_2.1 = 0 then
    zB (D_X8_refuse P (2 : Int32) e_2.2) fun e_10 =>
    some (e_10.1, e_10.2, N)
  else
    zB (D_X8_areMany P e_2.2) fun e_15 =>
    if e_15.1 = 0 then
      zB (D_X8_putsAside P e_15.2) fun e_28 =>
      D_X8_likes_40 P zFu v0 (-1 : Int32) (-1 : Int64) (0 : Int32) e_28 N
    else
      zB (D_X8_refuse P (3 : Int32) e_15.2) fun e_23 =>
      some (e_23.1, e_23.2, N)
set_option maxRecDepth 100000 in
set_option maxHeartbeats 4000000 in
theorem t_X8_likes {l : Launch} {G : zG} {b : Nat} {L : List zC} {M : zMt} {N : zNt} {P : Nat} {v0 : Int32} (hP : LX8 L P) {r : Int32 × zMt × zNt} (h : D_X8_likes P v0 M N = some r) : zM l G b yX8_likes cX8_likes 6 (some .int) 14 0 0 [.ref P, .int v0] (L, M, N) (fun r2 z => r2 = some (.int r.1) ∧ z = (L, r.2.1, r.2.2)) := by
  refine zM.of miX8_likes (Nat.le_of_ble_eq_true rfl) ?_
  intro p e s m args below meth c X hr hname
  generalize hF : ((fun r2 z => r2 = some (.int r.1) ∧ z = (L, r.2.1, r.2.2)) : Option Value → zS → Prop) = FQ
  change Zw p l e { frames := 14, cells := 0, slots := 0, locals := 80 * (14) } s m args below meth c G b 6 (MQ below (zQ G b FQ) args s 0 0 (fun q : Nat => b ≤ q)) 0 0 0 [some (.ref P), some (.int v0), none, none, none, none] [] (L, M, N)
  have p_lt := hP.1
  have p_o := hP.2.1
  have p_s := hP.2.2.1
  have L_40 : ∀ u : Nat, ∀ (x1_40 : Int32) (x2_40 : Int32) (x3_40 : Int64) (x5_40 : Int32) (M_40 : zMt) (N_40 : zNt), D_X8_likes_40 P u x1_40 x2_40 x3_40 x5_40 M_40 N_40 = some r → Zw p l e { frames := 14, cells := 0, slots := 0, locals := 80 * (14) } s m args below meth c G b 6 (MQ below (zQ G b FQ) args s 0 0 (fun q : Nat => b ≤ q)) 0 0 40 [some (.ref (P)), some (.int x1_40), some (.int x2_40), some (.long x3_40), none, some (.int x5_40)] [] (L, M_40, N_40) := by
    intro u
    induction u with
    | zero => intro x1_40 x2_40 x3_40 x5_40 M_40 N_40 h; cases (show none = some r from h)
    | succ u_40 ih_40 =>
      have J_78 : ∀ (x1_78 : Int32) (x2_78 : Int32) (x3_78 : Int64) (x5_78 : Int32) (M_78 : zMt) (N_78 : zNt), D_X8_likes_78 P (D_X8_likes_40 P u_40) x1_78 x2_78 x3_78 x5_78 M_78 N_78 = some r → Zw p l e { frames := 14, cells := 0, slots := 0, locals := 80 * (14) } s m args below meth c G b 6 (MQ below (zQ G b FQ) args s 0 0 (fun q : Nat => b ≤ q)) 0 0 78 [some (.ref (P)), some (.int x1_78), some (.int x2_78), some (.long x3_78), none, some (.int x5_78)] [] (L, M_78, N_78) := by
        intro x1_78 x2_78 x3_78 x5_78 M_78 N_78 h
        unfold D_X8_likes_78 at h
        refine a_iinc (v := x5_78 + 1) X dX8_likes_78 (by decide) rfl zi_1 ?_
        refine a_goto (tgt := 40) X dX8_likes_81 (by decide) ?_
        exact Zw.to2 (ih_40 _ _ _ _ _ _ h) rfl rfl rfl
      intro x1_40 x2_40 x3_40 x5_40 M_40 N_40 h
      rw [D_X8_likes_40] at h
      refine a_iload X dX8_likes_40 rfl ?_
      refine a_iconst (v := 3) X dX8_likes_42 (by decide) ?_
      refine a_icmp_ge (tgt := 84) X dX8_likes_43 (by decide) (fun h_43 => ?_) (fun h_43 => ?_)
      · replace h := (if_pos h_43).symm.trans h
        refine a_aload_n X dX8_likes_84 rfl ?_
        obtain ⟨e_85, f_85, h⟩ := zBx h
        refine a_callVu X dX8_likes_85 miX8_takesBack lm8_449 (t_X8_takesBack (by first | exact hP | assumption) f_85) (by first | exact p_o | assumption) rfl rfl rfl (Nat.le_of_ble_eq_true rfl) ⟨by decide, by decide, by decide, by decide⟩ ?_
        refine a_aload_n X dX8_likes_88 rfl ?_
        refine a_iload_n X dX8_likes_89 rfl ?_
        obtain ⟨e_90, f_90, h⟩ := zBx h
        refine a_callVv X dX8_likes_90 miX8_gives lm8_272 (t_X8_gives (by first | exact hP | assumption) f_90) (by first | exact p_o | assumption) rfl rfl rfl (Nat.le_of_ble_eq_true rfl) ⟨by decide, by decide, by decide, by decide⟩ ?_
        refine a_iret X hr dX8_likes_93 ⟨by decide, by decide⟩ ?_
        subst hF
        rw [← Option.some.inj h]
        exact ⟨rfl, rfl⟩
      · replace h := (if_neg h_43).symm.trans h
        refine a_aload_n X dX8_likes_46 rfl ?_
        refine a_getr X lf8_7 (by first | exact p_o | assumption) rfl (by omega) dX8_likes_47 ?_
        refine a_bipush (v := 67) X dX8_likes_50 (by decide) ?_
        refine a_iload X dX8_likes_52 rfl ?_
        obtain ⟨g_54, h⟩ := zIx h
        obtain ⟨M_54, f_54, h⟩ := zLtx h
        refine d_iastore X (by first | exact p_s | assumption) g_54 dX8_likes_54 f_54 ?_
        refine a_aload_n X dX8_likes_55 rfl ?_
        obtain ⟨e_56, f_56, h⟩ := zBx h
        refine a_callVu X dX8_likes_56 miX8_laysAll lm8_432 (t_X8_laysAll (by first | exact hP | assumption) f_56) (by first | exact p_o | assumption) rfl rfl rfl (Nat.le_of_ble_eq_true rfl) ⟨by decide, by decide, by decide, by decide⟩ ?_
        refine a_aload_n X dX8_likes_59 rfl ?_
        refine a_iload_n X dX8_likes_60 rfl ?_
        obtain ⟨e_61, f_61, h⟩ := zBx h
        refine a_callVv X dX8_likes_61 miX8_chanceOf lm8_435 (t_X8_chanceOf (by first | exact hP | assumption) f_61) (by first | exact p_o | assumption) rfl rfl rfl (Nat.le_of_ble_eq_true rfl) ⟨by decide, by decide, by decide, by decide⟩ ?_
        refine a_lload_n X dX8_likes_64 rfl ?_
        refine a_lcmp X dX8_likes_65 ?_
        refine a_if_le (tgt := 78) X dX8_likes_66 (by decide) (fun h_66 => ?_) (fun h_66 => ?_)
        · replace h := (if_pos h_66).symm.trans h
          exact Zw.to2 (J_78 _ _ _ _ _ _ h) rfl rfl rfl
        · replace h := (if_neg h_66).symm.trans h
          refine a_iload X dX8_likes_69 rfl ?_
          refine a_istore_n X dX8_likes_71 (by decide) ?_
          refine a_aload_n X dX8_likes_72 rfl ?_
          refine a_iload_n X dX8_likes_73 rfl ?_
          obtain ⟨e_74, f_74, h⟩ := zBx h
          refine a_callVv X dX8_likes_74 miX8_chanceOf lm8_435 (t_X8_chanceOf (by first | exact hP | assumption) f_74) (by first | exact p_o | assumption) rfl rfl rfl (Nat.le_of_ble_eq_true rfl) ⟨by decide, by decide, by decide, by decide⟩ ?_
          refine a_lstore_n X dX8_likes_77 (by decide) ?_
          exact Zw.to2 (J_78 _ _ _ _ _ _ h) rfl rfl rfl
  have H_40 : ∀ (x1_40 : Int32) (x2_40 : Int32) (x3_40 : Int64) (x5_40 : Int32) (M_40 : zMt) (N_40 : zNt), D_X8_likes_40 P zFu x1_40 x2_40 x3_40 x5_40 M_40 N_40 = some r → Zw p l e { frames := 14, cells := 0, slots := 0, locals := 80 * (14) } s m args below meth c G b 6 (MQ below (zQ G b FQ) args s 0 0 (fun q : Nat => b ≤ q)) 0 0 40 [some (.ref (P)), some (.int x1_40), some (.int x2_40), some (.long x3_40), none, some (.int x5_40)] [] (L, M_40, N_40) := L_40 zFu
  unfold D_X8_likes at h
  refine a_aload_n X dX8_likes_0 rfl ?_
  refine a_iload_n X dX8_likes_1 rfl ?_
  obtain ⟨e_2, f_2, h⟩ := zBx h
  refine a_callVx X dX8_likes_2 miX8_isApplicant lm8_315 (t_X8_isApplicant (by first | exact hP | assumption) f_2) (by first | exact p_o | assumption) rfl rfl rfl (Nat.le_of_ble_eq_true rfl) ⟨by decide, by decide, by decide, by decide⟩ (fun r_2 S_2 q_2 => ?_)
  obtain ⟨rfl, rfl, b_2⟩ := q_2
  refine a_if_ne (tgt := 14) X dX8_likes_5 (by decide) (fun h_5 => ?_) (fun h_5 => ?_)
  · replace h := (if_neg h_5).symm.trans h
    refine a_aload_n X dX8_likes_14 rfl ?_
    obtain ⟨e_15, f_15, h⟩ := zBx h
    refine a_callVx X dX8_likes_15 miX8_areMany lm8_429 (t_X8_areMany (by first | exact hP | assumption) f_15) (by first | exact p_o | assumption) rfl rfl rfl (Nat.le_of_ble_eq_true rfl) ⟨by decide, by decide, by decide, by decide⟩ (fun r_15 S_15 q_15 => ?_)
    obtain ⟨rfl, rfl, b_15⟩ := q_15
    refine a_if_eq (tgt := 27) X dX8_likes_18 (by decide) (fun h_18 => ?_) (fun h_18 => ?_)
    · replace h := (if_pos h_18).symm.trans h
      refine a_aload_n X dX8_likes_27 rfl ?_
      obtain ⟨e_28, f_28, h⟩ := zBx h
      refine a_callVu X dX8_likes_28 miX8_putsAside lm8_444 (t_X8_putsAside (by first | exact hP | assumption) f_28) (by first | exact p_o | assumption) rfl rfl rfl (Nat.le_of_ble_eq_true rfl) ⟨by decide, by decide, by decide, by decide⟩ ?_
      refine a_iconst (v := -1) X dX8_likes_31 (by decide) ?_
      refine a_istore_n X dX8_likes_32 (by decide) ?_
      refine a_ldc2 X dX8_likes_33 lk8_452 ?_
      refine a_lstore_n X dX8_likes_36 (by decide) ?_
      refine a_iconst (v := 0) X dX8_likes_37 (by decide) ?_
      refine a_istore X dX8_likes_38 (by decide) ?_
      exact Zw.to2 (H_40 _ _ _ _ _ _ h) rfl rfl rfl
    · replace h := (if_neg h_18).symm.trans h
      refine a_aload_n X dX8_likes_21 rfl ?_
      refine a_iconst (v := 3) X dX8_likes_22 (by decide) ?_
      obtain ⟨e_23, f_23, h⟩ := zBx h
      refine a_callVv X dX8_likes_23 miX8_refuse lm8_263 (t_X8_refuse (by first | exact hP | assumption) f_23) (by first | exact p_o | assumption) rfl rfl rfl (Nat.le_of_ble_eq_true rfl) ⟨by decide, by decide, by decide, by decide⟩ ?_
      refine a_iret X hr dX8_likes_26 ⟨by decide, by decide⟩ ?_
      subst hF
      rw [← Option.some.inj h]
      exact ⟨rfl, rfl⟩
  · replace h := (if_pos h_5).symm.trans h
    refine a_aload_n X dX8_likes_8 rfl ?_
    refine a_iconst (v := 2) X dX8_likes_9 (by decide) ?_
    obtain ⟨e_10, f_10, h⟩ := zBx h
    refine a_callVv X dX8_likes_10 miX8_refuse lm8_263 (t_X8_refuse (by first | exact hP | assumption) f_10) (by first | exact p_o | assumption) rfl rfl rfl (Nat.le_of_ble_eq_true rfl) ⟨by decide, by decide, by decide, by decide⟩ ?_
    refine a_iret X hr dX8_likes_13 ⟨by decide, by decide⟩ ?_
    subst hF
    rw [← Option.some.inj h]
    exact ⟨rfl, rfl⟩
noncomputable def D_X8_goesYear_34 (P : Nat) : Nat → Int32 → zMt → zNt → Option (zMt × zNt)
  | 0, _, _, _ => none
  | n + 1, x2_34, M_34, N_34 =>
    if (M_34 P 8) ≤ x2_34 then
      some (M_34, N_34)
    else
      zI x2_34 10 <|
      zI ((0 : Int32) + x2_34) 82 <|
      zLt (zu M_34 (P + 1) ((0 : Int32) + x2_34).toNatClampNeg (M_34 (P + 30) x2_34.toNatClampNeg)) fun M_55 =>
      (D_X8_goesYear_34 P n) (x2_34 + 1) M_55 N_34
noncomputable def D_X8_goesYear_7 (P : Nat) : Nat → Int32 → zMt → zNt → Option (zMt × zNt)
  | 0, _, _, _ => none
  | n + 1, x2_7, M_7, N_7 =>
    if (M_7 P 8) ≤ x2_7 then
      D_X8_goesYear_34 P zFu (0 : Int32) M_7 N_7
    else
      zB (D_X8_behindNow P M_7 x2_7) fun e_22 =>
      zI x2_7 10 <|
      zLt (zu M_7 (P + 30) x2_7.toNatClampNeg e_22) fun M_25 =>
      (D_X8_goesYear_7 P n) (x2_7 + 1) M_25 N_7
noncomputable def D_X8_goesYear (P : Nat) (v0 : Int32) (M : zMt) (N : zNt) : Option (zMt × zNt) :=
  zB (D_X8_laysResult P v0 M N) fun e_2 =>
  D_X8_goesYear_7 P zFu (0 : Int32) e_2.1 e_2.2
set_option maxRecDepth 100000 in
set_option maxHeartbeats 4000000 in
theorem t_X8_goesYear {l : Launch} {G : zG} {b : Nat} {L : List zC} {M : zMt} {N : zNt} {P : Nat} {v0 : Int32} (hP : LX8 L P) {r : zMt × zNt} (h : D_X8_goesYear P v0 M N = some r) : zM l G b yX8_goesYear cX8_goesYear 3 none 5 0 0 [.ref P, .int v0] (L, M, N) (fun r2 z => r2 = none ∧ z = (L, r.1, r.2)) := by
  refine zM.of miX8_goesYear (Nat.le_of_ble_eq_true rfl) ?_
  intro p e s m args below meth c X hr hname
  generalize hF : ((fun r2 z => r2 = none ∧ z = (L, r.1, r.2)) : Option Value → zS → Prop) = FQ
  change Zw p l e { frames := 5, cells := 0, slots := 0, locals := 80 * (5) } s m args below meth c G b 3 (MQ below (zQ G b FQ) args s 0 0 (fun q : Nat => b ≤ q)) 0 0 0 [some (.ref P), some (.int v0), none] [] (L, M, N)
  have p_lt := hP.1
  have p_o := hP.2.1
  have p_s := hP.2.2.1
  have p_newPoints := hP.2.2.2.2.2.2.2.2.2.2.2.2.2.2.2.2.2.2.2.2.2.2.2.2.2.2.2.2.2.2.2.1
  have L_34 : ∀ u : Nat, ∀ (x1_34 : Int32) (x2_34 : Int32) (M_34 : zMt) (N_34 : zNt), D_X8_goesYear_34 P u x2_34 M_34 N_34 = some r → Zw p l e { frames := 5, cells := 0, slots := 0, locals := 80 * (5) } s m args below meth c G b 3 (MQ below (zQ G b FQ) args s 0 0 (fun q : Nat => b ≤ q)) 0 0 34 [some (.ref (P)), some (.int x1_34), some (.int x2_34)] [] (L, M_34, N_34) := by
    intro u
    induction u with
    | zero => intro x1_34 x2_34 M_34 N_34 h; cases (show none = some r from h)
    | succ u_34 ih_34 =>
      intro x1_34 x2_34 M_34 N_34 h
      rw [D_X8_goesYear_34] at h
      refine a_iload_n X dX8_goesYear_34 rfl ?_
      refine a_aload_n X dX8_goesYear_35 rfl ?_
      refine a_geti X lf8_132 (by first | exact p_o | assumption) rfl dX8_goesYear_36 ?_
      refine a_icmp_ge (tgt := 62) X dX8_goesYear_39 (by decide) (fun h_39 => ?_) (fun h_39 => ?_)
      · replace h := (if_pos h_39).symm.trans h
        refine a_vret X hr dX8_goesYear_62 ⟨by decide, by decide⟩ ?_
        subst hF
        rw [← Option.some.inj h]
        exact ⟨rfl, rfl⟩
      · replace h := (if_neg h_39).symm.trans h
        refine a_aload_n X dX8_goesYear_42 rfl ?_
        refine a_getr X lf8_7 (by first | exact p_o | assumption) rfl (by omega) dX8_goesYear_43 ?_
        refine a_iconst (v := 0) X dX8_goesYear_46 (by decide) ?_
        refine a_iload_n X dX8_goesYear_47 rfl ?_
        refine a_iadd X dX8_goesYear_48 ?_
        refine a_aload_n X dX8_goesYear_49 rfl ?_
        refine a_getr X lf8_106 (by first | exact p_o | assumption) rfl (by omega) dX8_goesYear_50 ?_
        refine a_iload_n X dX8_goesYear_53 rfl ?_
        obtain ⟨g_54, h⟩ := zIx h
        refine a_iaload X (by first | exact p_newPoints | assumption) g_54 dX8_goesYear_54 ?_
        obtain ⟨g_55, h⟩ := zIx h
        obtain ⟨M_55, f_55, h⟩ := zLtx h
        refine d_iastore X (by first | exact p_s | assumption) g_55 dX8_goesYear_55 f_55 ?_
        refine a_iinc (v := x2_34 + 1) X dX8_goesYear_56 (by decide) rfl zi_1 ?_
        refine a_goto (tgt := 34) X dX8_goesYear_59 (by decide) ?_
        exact Zw.to2 (ih_34 _ _ _ _ h) rfl rfl rfl
  have H_34 : ∀ (x1_34 : Int32) (x2_34 : Int32) (M_34 : zMt) (N_34 : zNt), D_X8_goesYear_34 P zFu x2_34 M_34 N_34 = some r → Zw p l e { frames := 5, cells := 0, slots := 0, locals := 80 * (5) } s m args below meth c G b 3 (MQ below (zQ G b FQ) args s 0 0 (fun q : Nat => b ≤ q)) 0 0 34 [some (.ref (P)), some (.int x1_34), some (.int x2_34)] [] (L, M_34, N_34) := L_34 zFu
  have L_7 : ∀ u : Nat, ∀ (x1_7 : Int32) (x2_7 : Int32) (M_7 : zMt) (N_7 : zNt), D_X8_goesYear_7 P u x2_7 M_7 N_7 = some r → Zw p l e { frames := 5, cells := 0, slots := 0, locals := 80 * (5) } s m args below meth c G b 3 (MQ below (zQ G b FQ) args s 0 0 (fun q : Nat => b ≤ q)) 0 0 7 [some (.ref (P)), some (.int x1_7), some (.int x2_7)] [] (L, M_7, N_7) := by
    intro u
    induction u with
    | zero => intro x1_7 x2_7 M_7 N_7 h; cases (show none = some r from h)
    | succ u_7 ih_7 =>
      intro x1_7 x2_7 M_7 N_7 h
      rw [D_X8_goesYear_7] at h
      refine a_iload_n X dX8_goesYear_7 rfl ?_
      refine a_aload_n X dX8_goesYear_8 rfl ?_
      refine a_geti X lf8_132 (by first | exact p_o | assumption) rfl dX8_goesYear_9 ?_
      refine a_icmp_ge (tgt := 32) X dX8_goesYear_12 (by decide) (fun h_12 => ?_) (fun h_12 => ?_)
      · replace h := (if_pos h_12).symm.trans h
        refine a_iconst (v := 0) X dX8_goesYear_32 (by decide) ?_
        refine a_istore_n X dX8_goesYear_33 (by decide) ?_
        exact Zw.to2 (H_34 _ _ _ _ h) rfl rfl rfl
      · replace h := (if_neg h_12).symm.trans h
        refine a_aload_n X dX8_goesYear_15 rfl ?_
        refine a_getr X lf8_106 (by first | exact p_o | assumption) rfl (by omega) dX8_goesYear_16 ?_
        refine a_iload_n X dX8_goesYear_19 rfl ?_
        refine a_aload_n X dX8_goesYear_20 rfl ?_
        refine a_iload_n X dX8_goesYear_21 rfl ?_
        obtain ⟨e_22, f_22, h⟩ := zBx h
        refine a_callVv X dX8_goesYear_22 miX8_behindNow lm8_382 (t_X8_behindNow (by first | exact hP | assumption) f_22) (by first | exact p_o | assumption) rfl rfl rfl (Nat.le_of_ble_eq_true rfl) ⟨by decide, by decide, by decide, by decide⟩ ?_
        obtain ⟨g_25, h⟩ := zIx h
        obtain ⟨M_25, f_25, h⟩ := zLtx h
        refine d_iastore X (by first | exact p_newPoints | assumption) g_25 dX8_goesYear_25 f_25 ?_
        refine a_iinc (v := x2_7 + 1) X dX8_goesYear_26 (by decide) rfl zi_1 ?_
        refine a_goto (tgt := 7) X dX8_goesYear_29 (by decide) ?_
        exact Zw.to2 (ih_7 _ _ _ _ h) rfl rfl rfl
  have H_7 : ∀ (x1_7 : Int32) (x2_7 : Int32) (M_7 : zMt) (N_7 : zNt), D_X8_goesYear_7 P zFu x2_7 M_7 N_7 = some r → Zw p l e { frames := 5, cells := 0, slots := 0, locals := 80 * (5) } s m args below meth c G b 3 (MQ below (zQ G b FQ) args s 0 0 (fun q : Nat => b ≤ q)) 0 0 7 [some (.ref (P)), some (.int x1_7), some (.int x2_7)] [] (L, M_7, N_7) := L_7 zFu
  unfold D_X8_goesYear at h
  refine a_aload_n X dX8_goesYear_0 rfl ?_
  refine a_iload_n X dX8_goesYear_1 rfl ?_
  obtain ⟨e_2, f_2, h⟩ := zBx h
  refine a_callVu X dX8_goesYear_2 miX8_laysResult lm8_361 (t_X8_laysResult (by first | exact hP | assumption) f_2) (by first | exact p_o | assumption) rfl rfl rfl (Nat.le_of_ble_eq_true rfl) ⟨by decide, by decide, by decide, by decide⟩ ?_
  refine a_iconst (v := 0) X dX8_goesYear_5 (by decide) ?_
  refine a_istore_n X dX8_goesYear_6 (by decide) ?_
  exact Zw.to2 (H_7 _ _ _ _ h) rfl rfl rfl
noncomputable def D_X8_unitNow_2 (P : Nat) (M : zMt) : Nat → Int32 → Int32 → Option (Int32)
  | 0, _, _ => none
  | n + 1, x1_2, x2_2 =>
    zI x2_2 10 <|
    zB (D_X8_has (M (P + 11) x2_2.toNatClampNeg) x1_2) fun e_9 =>
    if e_9 = 0 then
      (D_X8_unitNow_2 P M n) x1_2 (x2_2 + 1)
    else
      zI x2_2 10 <|
      some ((M (P + 19) x2_2.toNatClampNeg))
noncomputable def D_X8_unitNow (P : Nat) (M : zMt) (v0 : Int32) : Option (Int32) :=
  D_X8_unitNow_2 P M zFu v0 (0 : Int32)
set_option maxRecDepth 100000 in
set_option maxHeartbeats 4000000 in
theorem t_X8_unitNow {l : Launch} {G : zG} {b : Nat} {L : List zC} {M : zMt} {N : zNt} {P : Nat} {v0 : Int32} (hP : LX8 L P) {r : Int32} (h : D_X8_unitNow P M v0 = some r) : zM l G b yX8_unitNow cX8_unitNow 3 (some .int) 1 0 0 [.ref P, .int v0] (L, M, N) (fun r2 z => r2 = some (.int r) ∧ z = (L, M, N)) := by
  refine zM.of miX8_unitNow (Nat.le_of_ble_eq_true rfl) ?_
  intro p e s m args below meth c X hr hname
  generalize hF : ((fun r2 z => r2 = some (.int r) ∧ z = (L, M, N)) : Option Value → zS → Prop) = FQ
  change Zw p l e { frames := 1, cells := 0, slots := 0, locals := 80 * (1) } s m args below meth c G b 3 (MQ below (zQ G b FQ) args s 0 0 (fun q : Nat => b ≤ q)) 0 0 0 [some (.ref P), some (.int v0), none] [] (L, M, N)
  have p_lt := hP.1
  have p_o := hP.2.1
  have p_bits := hP.2.2.2.2.2.2.2.2.2.2.2.2.1
  have p_given := hP.2.2.2.2.2.2.2.2.2.2.2.2.2.2.2.2.2.2.2.2.1
  have L_2 : ∀ u : Nat, ∀ (x1_2 : Int32) (x2_2 : Int32), D_X8_unitNow_2 P M u x1_2 x2_2 = some r → Zw p l e { frames := 1, cells := 0, slots := 0, locals := 80 * (1) } s m args below meth c G b 3 (MQ below (zQ G b FQ) args s 0 0 (fun q : Nat => b ≤ q)) 0 0 2 [some (.ref (P)), some (.int x1_2), some (.int x2_2)] [] (L, M, N) := by
    intro u
    induction u with
    | zero => intro x1_2 x2_2 h; cases (show none = some r from h)
    | succ u_2 ih_2 =>
      intro x1_2 x2_2 h
      rw [D_X8_unitNow_2] at h
      refine a_aload_n X dX8_unitNow_2 rfl ?_
      refine a_getr X lf8_49 (by first | exact p_o | assumption) rfl (by omega) dX8_unitNow_3 ?_
      refine a_iload_n X dX8_unitNow_6 rfl ?_
      obtain ⟨g_7, h⟩ := zIx h
      refine a_iaload X (by first | exact p_bits | assumption) g_7 dX8_unitNow_7 ?_
      refine a_iload_n X dX8_unitNow_8 rfl ?_
      obtain ⟨e_9, f_9, h⟩ := zBx h
      refine a_callSx X dX8_unitNow_9 miX8_has lm8_240 (t_X8_has f_9) rfl rfl (Nat.le_of_ble_eq_true rfl) ⟨by decide, by decide, by decide, by decide⟩ (fun r_9 S_9 q_9 => ?_)
      obtain ⟨rfl, rfl, b_9⟩ := q_9
      refine a_if_ne (tgt := 21) X dX8_unitNow_12 (by decide) (fun h_12 => ?_) (fun h_12 => ?_)
      · replace h := (if_neg h_12).symm.trans h
        refine a_aload_n X dX8_unitNow_21 rfl ?_
        refine a_getr X lf8_73 (by first | exact p_o | assumption) rfl (by omega) dX8_unitNow_22 ?_
        refine a_iload_n X dX8_unitNow_25 rfl ?_
        obtain ⟨g_26, h⟩ := zIx h
        refine a_iaload X (by first | exact p_given | assumption) g_26 dX8_unitNow_26 ?_
        refine a_iret X hr dX8_unitNow_27 ⟨by decide, by decide⟩ ?_
        subst hF
        rw [← Option.some.inj h]
        exact ⟨rfl, rfl⟩
      · replace h := (if_pos h_12).symm.trans h
        refine a_iinc (v := x2_2 + 1) X dX8_unitNow_15 (by decide) rfl zi_1 ?_
        refine a_goto (tgt := 2) X dX8_unitNow_18 (by decide) ?_
        exact Zw.to2 (ih_2 _ _ h) rfl rfl rfl
  have H_2 : ∀ (x1_2 : Int32) (x2_2 : Int32), D_X8_unitNow_2 P M zFu x1_2 x2_2 = some r → Zw p l e { frames := 1, cells := 0, slots := 0, locals := 80 * (1) } s m args below meth c G b 3 (MQ below (zQ G b FQ) args s 0 0 (fun q : Nat => b ≤ q)) 0 0 2 [some (.ref (P)), some (.int x1_2), some (.int x2_2)] [] (L, M, N) := L_2 zFu
  unfold D_X8_unitNow at h
  refine a_iconst (v := 0) X dX8_unitNow_0 (by decide) ?_
  refine a_istore_n X dX8_unitNow_1 (by decide) ?_
  exact Zw.to2 (H_2 _ _ h) rfl rfl rfl
noncomputable def D_X8_areYears_39  (y0_39 : Int32) : Option (Int32) :=
  some (y0_39)
noncomputable def D_X8_areYears_38   : Option (Int32) :=
  D_X8_areYears_39 (0 : Int32)
noncomputable def D_X8_areYears  (v0 : Int32) (v1 : Int32) : Option (Int32) :=
  zB (D_X8_isSeed v0) fun e_1 =>
  if e_1 = 0 then
    D_X8_areYears_38
  else
    zB (D_X8_isFrom (Int32.toInt64 v1) (1 : Int64) (30 : Int64)) fun e_13 =>
    if e_13 = 0 then
      D_X8_areYears_38
    else
      zB (D_X8_isFrom ((Int32.toInt64 v0) + (Int32.toInt64 v1)) (0 : Int64) (999999999 : Int64)) fun e_28 =>
      if e_28 = 0 then
        D_X8_areYears_38
      else
        D_X8_areYears_39 (1 : Int32)
set_option maxRecDepth 100000 in
set_option maxHeartbeats 4000000 in
theorem t_X8_areYears {l : Launch} {G : zG} {b : Nat} {L : List zC} {M : zMt} {N : zNt}  {v0 : Int32} {v1 : Int32}  {r : Int32} (h : D_X8_areYears v0 v1 = some r) : zM l G b yX8_areYears cX8_areYears 2 (some .boolean) 2 0 0 [.int v0, .int v1] (L, M, N) (fun r2 z => r2 = some (.int r) ∧ z = (L, M, N) ∧ (r = 0 ∨ r = 1)) := by
  refine zM.of miX8_areYears (Nat.le_of_ble_eq_true rfl) ?_
  intro p e s m args below meth c X hr hname
  generalize hF : ((fun r2 z => r2 = some (.int r) ∧ z = (L, M, N) ∧ (r = 0 ∨ r = 1)) : Option Value → zS → Prop) = FQ
  change Zw p l e { frames := 2, cells := 0, slots := 0, locals := 80 * (2) } s m args below meth c G b 2 (MQ below (zQ G b FQ) args s 0 0 (fun q : Nat => b ≤ q)) 0 0 0 [some (.int v0), some (.int v1)] [] (L, M, N)
  have J_39 : ∀ (x0_39 : Int32) (x1_39 : Int32) (y0_39 : Int32), (y0_39 = 0 ∨ y0_39 = 1) → D_X8_areYears_39 y0_39 = some r → Zw p l e { frames := 2, cells := 0, slots := 0, locals := 80 * (2) } s m args below meth c G b 2 (MQ below (zQ G b FQ) args s 0 0 (fun q : Nat => b ≤ q)) 0 0 39 [some (.int x0_39), some (.int x1_39)] [.int y0_39] (L, M, N) := by
    intro x0_39 x1_39 y0_39 fb_y0_39 h
    unfold D_X8_areYears_39 at h
    refine a_zret X (by first | exact Or.inl rfl | exact Or.inr rfl | assumption) hr dX8_areYears_39 ⟨by decide, by decide⟩ ?_
    subst hF
    rw [← Option.some.inj h]
    exact ⟨rfl, rfl, (by first | exact Or.inl rfl | exact Or.inr rfl | assumption)⟩
  have J_38 : ∀ (x0_38 : Int32) (x1_38 : Int32), D_X8_areYears_38 = some r → Zw p l e { frames := 2, cells := 0, slots := 0, locals := 80 * (2) } s m args below meth c G b 2 (MQ below (zQ G b FQ) args s 0 0 (fun q : Nat => b ≤ q)) 0 0 38 [some (.int x0_38), some (.int x1_38)] [] (L, M, N) := by
    intro x0_38 x1_38 h
    unfold D_X8_areYears_38 at h
    refine a_iconst (v := 0) X dX8_areYears_38 (by decide) ?_
    exact Zw.to2 (J_39 _ _ _ (by first | exact Or.inl rfl | exact Or.inr rfl | assumption) h) rfl rfl rfl
  unfold D_X8_areYears at h
  refine a_iload_n X dX8_areYears_0 rfl ?_
  obtain ⟨e_1, f_1, h⟩ := zBx h
  refine a_callSx X dX8_areYears_1 miX8_isSeed lm8_358 (t_X8_isSeed f_1) rfl rfl (Nat.le_of_ble_eq_true rfl) ⟨by decide, by decide, by decide, by decide⟩ (fun r_1 S_1 q_1 => ?_)
  obtain ⟨rfl, rfl, b_1⟩ := q_1
  refine a_if_eq (tgt := 38) X dX8_areYears_4 (by decide) (fun h_4 => ?_) (fun h_4 => ?_)
  · replace h := (if_pos h_4).symm.trans h
    exact Zw.to2 (J_38 _ _ h) rfl rfl rfl
  · replace h := (if_neg h_4).symm.trans h
    refine a_iload_n X dX8_areYears_7 rfl ?_
    refine a_i2l X dX8_areYears_8 ?_
    refine a_lconst (v := 1) X dX8_areYears_9 (by decide) ?_
    refine a_ldc2 X dX8_areYears_10 lk8_469 ?_
    obtain ⟨e_13, f_13, h⟩ := zBx h
    refine a_callSx X dX8_areYears_13 miX8_isFrom lm8_128 (t_X8_isFrom f_13) rfl rfl (Nat.le_of_ble_eq_true rfl) ⟨by decide, by decide, by decide, by decide⟩ (fun r_13 S_13 q_13 => ?_)
    obtain ⟨rfl, rfl, b_13⟩ := q_13
    refine a_if_eq (tgt := 38) X dX8_areYears_16 (by decide) (fun h_16 => ?_) (fun h_16 => ?_)
    · replace h := (if_pos h_16).symm.trans h
      exact Zw.to2 (J_38 _ _ h) rfl rfl rfl
    · replace h := (if_neg h_16).symm.trans h
      refine a_iload_n X dX8_areYears_19 rfl ?_
      refine a_i2l X dX8_areYears_20 ?_
      refine a_iload_n X dX8_areYears_21 rfl ?_
      refine a_i2l X dX8_areYears_22 ?_
      refine a_ladd X dX8_areYears_23 ?_
      refine a_lconst (v := 0) X dX8_areYears_24 (by decide) ?_
      refine a_ldc2 X dX8_areYears_25 lk8_135 ?_
      obtain ⟨e_28, f_28, h⟩ := zBx h
      refine a_callSx X dX8_areYears_28 miX8_isFrom lm8_128 (t_X8_isFrom f_28) rfl rfl (Nat.le_of_ble_eq_true rfl) ⟨by decide, by decide, by decide, by decide⟩ (fun r_28 S_28 q_28 => ?_)
      obtain ⟨rfl, rfl, b_28⟩ := q_28
      refine a_if_eq (tgt := 38) X dX8_areYears_31 (by decide) (fun h_31 => ?_) (fun h_31 => ?_)
      · replace h := (if_pos h_31).symm.trans h
        exact Zw.to2 (J_38 _ _ h) rfl rfl rfl
      · replace h := (if_neg h_31).symm.trans h
        refine a_iconst (v := 1) X dX8_areYears_34 (by decide) ?_
        refine a_goto (tgt := 39) X dX8_areYears_35 (by decide) ?_
        exact Zw.to2 (J_39 _ _ _ (by first | exact Or.inl rfl | exact Or.inr rfl | assumption) h) rfl rfl rfl
noncomputable def D_X8_years_203 (P : Nat) (y1_203 : Int32) (M_203 : zMt) (N_203 : zNt) : Option (Int32 × zMt × zNt) :=
  zB (D_X8_gives P y1_203 M_203) fun e_203 =>
  some (e_203.1, e_203.2, N_203)
noncomputable def D_X8_years_150 (P : Nat) (k75 : Int32 → Int32 → Int32 → Int32 → Int32 → Int32 → Int32 → zMt → zNt → Option (Int32 × zMt × zNt)) (k112 : Int32 → Int32 → Int32 → Int32 → Int32 → Int32 → Int32 → Int32 → zMt → zNt → Option (Int32 × zMt × zNt)) (x1_150 : Int32) (x2_150 : Int32) (x3_150 : Int32) (x4_150 : Int32) (x5_150 : Int32) (x6_150 : Int32) (x7_150 : Int32) (x8_150 : Int32) (y1_150 : Int32) (y2_150 : Int32) (M_150 : zMt) (N_150 : zNt) : Option (Int32 × zMt × zNt) :=
  zI y1_150 10 <|
  zLt (zu M_150 (P + 31) y1_150.toNatClampNeg y2_150) fun M_150 =>
  zI x8_150 10 <|
  k112 x1_150 x2_150 x3_150 x4_150 x5_150 (if x6_150 < (M_150 (P + 31) x8_150.toNatClampNeg) then (M_150 (P + 31) x8_150.toNatClampNeg) else x6_150) x7_150 (x8_150 + 1) M_150 N_150
noncomputable def D_X8_years_112 (P : Nat) (k75 : Int32 → Int32 → Int32 → Int32 → Int32 → Int32 → Int32 → zMt → zNt → Option (Int32 × zMt × zNt)) : Nat → Int32 → Int32 → Int32 → Int32 → Int32 → Int32 → Int32 → Int32 → zMt → zNt → Option (Int32 × zMt × zNt)
  | 0, _, _, _, _, _, _, _, _, _, _ => none
  | n + 1, x1_112, x2_112, x3_112, x4_112, x5_112, x6_112, x7_112, x8_112, M_112, N_112 =>
    if (M_112 P 8) ≤ x8_112 then
      k75 x1_112 x2_112 x3_112 x4_112 x5_112 x6_112 (x7_112 + 1) M_112 N_112
    else
      zB (D_X8_unitNow P M_112 x8_112) fun e_130 =>
      if e_130 = (-1 : Int32) then
        zI x8_112 10 <|
        D_X8_years_150 P k75 (D_X8_years_112 P k75 n) x1_112 x2_112 x3_112 x4_112 x5_112 x6_112 x7_112 x8_112 x8_112 ((M_112 (P + 31) x8_112.toNatClampNeg) + (1 : Int32)) M_112 N_112
      else
        D_X8_years_150 P k75 (D_X8_years_112 P k75 n) x1_112 x2_112 x3_112 x4_112 x5_112 x6_112 x7_112 x8_112 x8_112 (0 : Int32) M_112 N_112
noncomputable def D_X8_years_75 (P : Nat) : Nat → Int32 → Int32 → Int32 → Int32 → Int32 → Int32 → Int32 → zMt → zNt → Option (Int32 × zMt × zNt)
  | 0, _, _, _, _, _, _, _, _, _ => none
  | n + 1, x1_75, x2_75, x3_75, x4_75, x5_75, x6_75, x7_75, M_75, N_75 =>
    if x2_75 ≤ x7_75 then
      zB (D_X8_takesBack P M_75) fun e_178 =>
      if x3_75 = 0 then
        D_X8_years_203 P x4_75 e_178 N_75
      else
        if x3_75 = (1 : Int32) then
          D_X8_years_203 P x5_75 e_178 N_75
        else
          D_X8_years_203 P x6_75 e_178 N_75
    else
      zB (D_X8_goesYear P (x1_75 + x7_75) M_75 N_75) fun e_86 =>
      zB (D_X8_givenTags P e_86.1) fun e_92 =>
      zB (D_X8_winnersNow P e_86.1) fun e_101 =>
      D_X8_years_112 P (D_X8_years_75 P n) zFu x1_75 x2_75 x3_75 (x4_75 + e_92) (x5_75 &&& (e_101 ^^^ (-1 : Int32))) x6_75 x7_75 (0 : Int32) e_86.1 e_86.2
noncomputable def D_X8_years_49 (P : Nat) : Nat → Int32 → Int32 → Int32 → Int32 → Int32 → Int32 → Int32 → zMt → zNt → Option (Int32 × zMt × zNt)
  | 0, _, _, _, _, _, _, _, _, _ => none
  | n + 1, x1_49, x2_49, x3_49, x4_49, x5_49, x6_49, x7_49, M_49, N_49 =>
    if (M_49 P 8) ≤ x7_49 then
      D_X8_years_75 P zFu x1_49 x2_49 x3_49 x4_49 x5_49 x6_49 (0 : Int32) M_49 N_49
    else
      zI x7_49 10 <|
      zLt (zu M_49 (P + 31) x7_49.toNatClampNeg (0 : Int32)) fun M_65 =>
      (D_X8_years_49 P n) x1_49 x2_49 x3_49 x4_49 x5_49 x6_49 (x7_49 + 1) M_65 N_49
noncomputable def D_X8_years_20 (P : Nat) (M_20 : zMt) (N_20 : zNt) : Option (Int32 × zMt × zNt) :=
  zB (D_X8_refuse P (1 : Int32) M_20) fun e_22 =>
  some (e_22.1, e_22.2, N_20)
noncomputable def D_X8_years (P : Nat) (v0 : Int32) (v1 : Int32) (v2 : Int32) (M : zMt) (N : zNt) : Option (Int32 × zMt × zNt) :=
  zB (D_X8_areYears v0 v1) fun e_2 =>
  if e_2 = 0 then
    D_X8_years_20 P M N
  else
    zB (D_X8_isFrom (Int32.toInt64 v2) (0 : Int64) (2 : Int64)) fun e_14 =>
    if e_14 = 0 then
      D_X8_years_20 P M N
    else
      zB (D_X8_putsAside P M) fun e_27 =>
      D_X8_years_49 P zFu v0 v1 v2 (0 : Int32) (((1 : Int32) <<< ((e_27 P 8) &&& 31)) - (1 : Int32)) (0 : Int32) (0 : Int32) e_27 N
set_option maxRecDepth 100000 in
set_option maxHeartbeats 4000000 in
theorem t_X8_years {l : Launch} {G : zG} {b : Nat} {L : List zC} {M : zMt} {N : zNt} {P : Nat} {v0 : Int32} {v1 : Int32} {v2 : Int32} (hP : LX8 L P) {r : Int32 × zMt × zNt} (h : D_X8_years P v0 v1 v2 M N = some r) : zM l G b yX8_years cX8_years 9 (some .int) 6 0 0 [.ref P, .int v0, .int v1, .int v2] (L, M, N) (fun r2 z => r2 = some (.int r.1) ∧ z = (L, r.2.1, r.2.2)) := by
  refine zM.of miX8_years (Nat.le_of_ble_eq_true rfl) ?_
  intro p e s m args below meth c X hr hname
  generalize hF : ((fun r2 z => r2 = some (.int r.1) ∧ z = (L, r.2.1, r.2.2)) : Option Value → zS → Prop) = FQ
  change Zw p l e { frames := 6, cells := 0, slots := 0, locals := 80 * (6) } s m args below meth c G b 9 (MQ below (zQ G b FQ) args s 0 0 (fun q : Nat => b ≤ q)) 0 0 0 [some (.ref P), some (.int v0), some (.int v1), some (.int v2), none, none, none, none, none] [] (L, M, N)
  have p_lt := hP.1
  have p_o := hP.2.1
  have p_inRow := hP.2.2.2.2.2.2.2.2.2.2.2.2.2.2.2.2.2.2.2.2.2.2.2.2.2.2.2.2.2.2.2.2.1
  have J_203 : ∀ (x1_203 : Int32) (x2_203 : Int32) (x3_203 : Int32) (x4_203 : Int32) (x5_203 : Int32) (x6_203 : Int32) (x7_203 : Int32) (x8_203 : Option Value) (y1_203 : Int32) (M_203 : zMt) (N_203 : zNt), D_X8_years_203 P y1_203 M_203 N_203 = some r → Zw p l e { frames := 6, cells := 0, slots := 0, locals := 80 * (6) } s m args below meth c G b 9 (MQ below (zQ G b FQ) args s 0 0 (fun q : Nat => b ≤ q)) 0 0 203 [some (.ref (P)), some (.int x1_203), some (.int x2_203), some (.int x3_203), some (.int x4_203), some (.int x5_203), some (.int x6_203), some (.int x7_203), x8_203] [.int y1_203, .ref (P)] (L, M_203, N_203) := by
    intro x1_203 x2_203 x3_203 x4_203 x5_203 x6_203 x7_203 x8_203 y1_203 M_203 N_203 h
    unfold D_X8_years_203 at h
    obtain ⟨e_203, f_203, h⟩ := zBx h
    refine a_callVv X dX8_years_203 miX8_gives lm8_272 (t_X8_gives (by first | exact hP | assumption) f_203) (by first | exact p_o | assumption) rfl rfl rfl (Nat.le_of_ble_eq_true rfl) ⟨by decide, by decide, by decide, by decide⟩ ?_
    refine a_iret X hr dX8_years_206 ⟨by decide, by decide⟩ ?_
    subst hF
    rw [← Option.some.inj h]
    exact ⟨rfl, rfl⟩
  have L_75 : ∀ u : Nat, ∀ (x1_75 : Int32) (x2_75 : Int32) (x3_75 : Int32) (x4_75 : Int32) (x5_75 : Int32) (x6_75 : Int32) (x7_75 : Int32) (x8_75 : Option Value) (M_75 : zMt) (N_75 : zNt), D_X8_years_75 P u x1_75 x2_75 x3_75 x4_75 x5_75 x6_75 x7_75 M_75 N_75 = some r → Zw p l e { frames := 6, cells := 0, slots := 0, locals := 80 * (6) } s m args below meth c G b 9 (MQ below (zQ G b FQ) args s 0 0 (fun q : Nat => b ≤ q)) 0 0 75 [some (.ref (P)), some (.int x1_75), some (.int x2_75), some (.int x3_75), some (.int x4_75), some (.int x5_75), some (.int x6_75), some (.int x7_75), x8_75] [] (L, M_75, N_75) := by
    intro u
    induction u with
    | zero => intro x1_75 x2_75 x3_75 x4_75 x5_75 x6_75 x7_75 x8_75 M_75 N_75 h; cases (show none = some r from h)
    | succ u_75 ih_75 =>
      have L_112 : ∀ u : Nat, ∀ (x1_112 : Int32) (x2_112 : Int32) (x3_112 : Int32) (x4_112 : Int32) (x5_112 : Int32) (x6_112 : Int32) (x7_112 : Int32) (x8_112 : Int32) (M_112 : zMt) (N_112 : zNt), D_X8_years_112 P (D_X8_years_75 P u_75) u x1_112 x2_112 x3_112 x4_112 x5_112 x6_112 x7_112 x8_112 M_112 N_112 = some r → Zw p l e { frames := 6, cells := 0, slots := 0, locals := 80 * (6) } s m args below meth c G b 9 (MQ below (zQ G b FQ) args s 0 0 (fun q : Nat => b ≤ q)) 0 0 112 [some (.ref (P)), some (.int x1_112), some (.int x2_112), some (.int x3_112), some (.int x4_112), some (.int x5_112), some (.int x6_112), some (.int x7_112), some (.int x8_112)] [] (L, M_112, N_112) := by
        intro u
        induction u with
        | zero => intro x1_112 x2_112 x3_112 x4_112 x5_112 x6_112 x7_112 x8_112 M_112 N_112 h; cases (show none = some r from h)
        | succ u_112 ih_112 =>
          have J_150 : ∀ (x1_150 : Int32) (x2_150 : Int32) (x3_150 : Int32) (x4_150 : Int32) (x5_150 : Int32) (x6_150 : Int32) (x7_150 : Int32) (x8_150 : Int32) (y1_150 : Int32) (y2_150 : Int32) (M_150 : zMt) (N_150 : zNt), D_X8_years_150 P (D_X8_years_75 P u_75) (D_X8_years_112 P (D_X8_years_75 P u_75) u_112) x1_150 x2_150 x3_150 x4_150 x5_150 x6_150 x7_150 x8_150 y1_150 y2_150 M_150 N_150 = some r → Zw p l e { frames := 6, cells := 0, slots := 0, locals := 80 * (6) } s m args below meth c G b 9 (MQ below (zQ G b FQ) args s 0 0 (fun q : Nat => b ≤ q)) 0 0 150 [some (.ref (P)), some (.int x1_150), some (.int x2_150), some (.int x3_150), some (.int x4_150), some (.int x5_150), some (.int x6_150), some (.int x7_150), some (.int x8_150)] [.int y2_150, .int y1_150, .ref (P + 31)] (L, M_150, N_150) := by
            intro x1_150 x2_150 x3_150 x4_150 x5_150 x6_150 x7_150 x8_150 y1_150 y2_150 M_150 N_150 h
            unfold D_X8_years_150 at h
            obtain ⟨g_150, h⟩ := zIx h
            obtain ⟨M_150, f_150, h⟩ := zLtx h
            refine d_iastore X (by first | exact p_inRow | assumption) g_150 dX8_years_150 f_150 ?_
            refine a_iload X dX8_years_151 rfl ?_
            refine a_aload_n X dX8_years_153 rfl ?_
            refine a_getr X lf8_109 (by first | exact p_o | assumption) rfl (by omega) dX8_years_154 ?_
            refine a_iload X dX8_years_157 rfl ?_
            obtain ⟨g_159, h⟩ := zIx h
            refine a_iaload X (by first | exact p_inRow | assumption) g_159 dX8_years_159 ?_
            refine a_mmax X lm8_424 zmath1 zmath0 zmathc1 ⟨by decide, Nat.le_of_ble_eq_true rfl, by decide, by decide⟩ dX8_years_160 ?_
            refine a_istore X dX8_years_163 (by decide) ?_
            refine a_iinc (v := x8_150 + 1) X dX8_years_165 (by decide) rfl zi_1 ?_
            refine a_goto (tgt := 112) X dX8_years_168 (by decide) ?_
            exact Zw.to2 (ih_112 _ _ _ _ _ _ _ _ _ _ h) rfl rfl rfl
          intro x1_112 x2_112 x3_112 x4_112 x5_112 x6_112 x7_112 x8_112 M_112 N_112 h
          rw [D_X8_years_112] at h
          refine a_iload X dX8_years_112 rfl ?_
          refine a_aload_n X dX8_years_114 rfl ?_
          refine a_geti X lf8_132 (by first | exact p_o | assumption) rfl dX8_years_115 ?_
          refine a_icmp_ge (tgt := 171) X dX8_years_118 (by decide) (fun h_118 => ?_) (fun h_118 => ?_)
          · replace h := (if_pos h_118).symm.trans h
            refine a_iinc (v := x7_112 + 1) X dX8_years_171 (by decide) rfl zi_1 ?_
            refine a_goto (tgt := 75) X dX8_years_174 (by decide) ?_
            exact Zw.to2 (ih_75 _ _ _ _ _ _ _ _ _ _ h) rfl rfl rfl
          · replace h := (if_neg h_118).symm.trans h
            refine a_aload_n X dX8_years_121 rfl ?_
            refine a_getr X lf8_109 (by first | exact p_o | assumption) rfl (by omega) dX8_years_122 ?_
            refine a_iload X dX8_years_125 rfl ?_
            refine a_aload_n X dX8_years_127 rfl ?_
            refine a_iload X dX8_years_128 rfl ?_
            obtain ⟨e_130, f_130, h⟩ := zBx h
            refine a_callVv X dX8_years_130 miX8_unitNow lm8_477 (t_X8_unitNow (by first | exact hP | assumption) f_130) (by first | exact p_o | assumption) rfl rfl rfl (Nat.le_of_ble_eq_true rfl) ⟨by decide, by decide, by decide, by decide⟩ ?_
            refine a_iconst (v := -1) X dX8_years_133 (by decide) ?_
            refine a_icmp_ne (tgt := 149) X dX8_years_134 (by decide) (fun h_134 => ?_) (fun h_134 => ?_)
            · replace h := (if_neg h_134).symm.trans h
              refine a_iconst (v := 0) X dX8_years_149 (by decide) ?_
              exact Zw.to2 (J_150 _ _ _ _ _ _ _ _ _ _ _ _ h) rfl rfl rfl
            · replace h := (if_pos h_134).symm.trans h
              refine a_aload_n X dX8_years_137 rfl ?_
              refine a_getr X lf8_109 (by first | exact p_o | assumption) rfl (by omega) dX8_years_138 ?_
              refine a_iload X dX8_years_141 rfl ?_
              obtain ⟨g_143, h⟩ := zIx h
              refine a_iaload X (by first | exact p_inRow | assumption) g_143 dX8_years_143 ?_
              refine a_iconst (v := 1) X dX8_years_144 (by decide) ?_
              refine a_iadd X dX8_years_145 ?_
              refine a_goto (tgt := 150) X dX8_years_146 (by decide) ?_
              exact Zw.to2 (J_150 _ _ _ _ _ _ _ _ _ _ _ _ h) rfl rfl rfl
      have H_112 : ∀ (x1_112 : Int32) (x2_112 : Int32) (x3_112 : Int32) (x4_112 : Int32) (x5_112 : Int32) (x6_112 : Int32) (x7_112 : Int32) (x8_112 : Int32) (M_112 : zMt) (N_112 : zNt), D_X8_years_112 P (D_X8_years_75 P u_75) zFu x1_112 x2_112 x3_112 x4_112 x5_112 x6_112 x7_112 x8_112 M_112 N_112 = some r → Zw p l e { frames := 6, cells := 0, slots := 0, locals := 80 * (6) } s m args below meth c G b 9 (MQ below (zQ G b FQ) args s 0 0 (fun q : Nat => b ≤ q)) 0 0 112 [some (.ref (P)), some (.int x1_112), some (.int x2_112), some (.int x3_112), some (.int x4_112), some (.int x5_112), some (.int x6_112), some (.int x7_112), some (.int x8_112)] [] (L, M_112, N_112) := L_112 zFu
      intro x1_75 x2_75 x3_75 x4_75 x5_75 x6_75 x7_75 x8_75 M_75 N_75 h
      rw [D_X8_years_75] at h
      refine a_iload X dX8_years_75 rfl ?_
      refine a_iload_n X dX8_years_77 rfl ?_
      refine a_icmp_ge (tgt := 177) X dX8_years_78 (by decide) (fun h_78 => ?_) (fun h_78 => ?_)
      · replace h := (if_pos h_78).symm.trans h
        refine a_aload_n X dX8_years_177 rfl ?_
        obtain ⟨e_178, f_178, h⟩ := zBx h
        refine a_callVu X dX8_years_178 miX8_takesBack lm8_449 (t_X8_takesBack (by first | exact hP | assumption) f_178) (by first | exact p_o | assumption) rfl rfl rfl (Nat.le_of_ble_eq_true rfl) ⟨by decide, by decide, by decide, by decide⟩ ?_
        refine a_aload_n X dX8_years_181 rfl ?_
        refine a_iload_n X dX8_years_182 rfl ?_
        refine a_if_ne (tgt := 191) X dX8_years_183 (by decide) (fun h_183 => ?_) (fun h_183 => ?_)
        · replace h := (if_neg h_183).symm.trans h
          refine a_iload_n X dX8_years_191 rfl ?_
          refine a_iconst (v := 1) X dX8_years_192 (by decide) ?_
          refine a_icmp_ne (tgt := 201) X dX8_years_193 (by decide) (fun h_193 => ?_) (fun h_193 => ?_)
          · replace h := (if_neg h_193).symm.trans h
            refine a_iload X dX8_years_201 rfl ?_
            exact Zw.to2 (J_203 _ _ _ _ _ _ _ _ _ _ _ h) rfl rfl rfl
          · replace h := (if_pos h_193).symm.trans h
            refine a_iload X dX8_years_196 rfl ?_
            refine a_goto (tgt := 203) X dX8_years_198 (by decide) ?_
            exact Zw.to2 (J_203 _ _ _ _ _ _ _ _ _ _ _ h) rfl rfl rfl
        · replace h := (if_pos h_183).symm.trans h
          refine a_iload X dX8_years_186 rfl ?_
          refine a_goto (tgt := 203) X dX8_years_188 (by decide) ?_
          exact Zw.to2 (J_203 _ _ _ _ _ _ _ _ _ _ _ h) rfl rfl rfl
      · replace h := (if_neg h_78).symm.trans h
        refine a_aload_n X dX8_years_81 rfl ?_
        refine a_iload_n X dX8_years_82 rfl ?_
        refine a_iload X dX8_years_83 rfl ?_
        refine a_iadd X dX8_years_85 ?_
        obtain ⟨e_86, f_86, h⟩ := zBx h
        refine a_callVu X dX8_years_86 miX8_goesYear lm8_474 (t_X8_goesYear (by first | exact hP | assumption) f_86) (by first | exact p_o | assumption) rfl rfl rfl (Nat.le_of_ble_eq_true rfl) ⟨by decide, by decide, by decide, by decide⟩ ?_
        refine a_iload X dX8_years_89 rfl ?_
        refine a_aload_n X dX8_years_91 rfl ?_
        obtain ⟨e_92, f_92, h⟩ := zBx h
        refine a_callVv X dX8_years_92 miX8_givenTags lm8_421 (t_X8_givenTags (by first | exact hP | assumption) f_92) (by first | exact p_o | assumption) rfl rfl rfl (Nat.le_of_ble_eq_true rfl) ⟨by decide, by decide, by decide, by decide⟩ ?_
        refine a_iadd X dX8_years_95 ?_
        refine a_istore X dX8_years_96 (by decide) ?_
        refine a_iload X dX8_years_98 rfl ?_
        refine a_aload_n X dX8_years_100 rfl ?_
        obtain ⟨e_101, f_101, h⟩ := zBx h
        refine a_callVv X dX8_years_101 miX8_winnersNow lm8_371 (t_X8_winnersNow (by first | exact hP | assumption) f_101) (by first | exact p_o | assumption) rfl rfl rfl (Nat.le_of_ble_eq_true rfl) ⟨by decide, by decide, by decide, by decide⟩ ?_
        refine a_iconst (v := -1) X dX8_years_104 (by decide) ?_
        refine a_ixor X dX8_years_105 ?_
        refine a_iand X dX8_years_106 ?_
        refine a_istore X dX8_years_107 (by decide) ?_
        refine a_iconst (v := 0) X dX8_years_109 (by decide) ?_
        refine a_istore X dX8_years_110 (by decide) ?_
        exact Zw.to2 (H_112 _ _ _ _ _ _ _ _ _ _ h) rfl rfl rfl
  have H_75 : ∀ (x1_75 : Int32) (x2_75 : Int32) (x3_75 : Int32) (x4_75 : Int32) (x5_75 : Int32) (x6_75 : Int32) (x7_75 : Int32) (x8_75 : Option Value) (M_75 : zMt) (N_75 : zNt), D_X8_years_75 P zFu x1_75 x2_75 x3_75 x4_75 x5_75 x6_75 x7_75 M_75 N_75 = some r → Zw p l e { frames := 6, cells := 0, slots := 0, locals := 80 * (6) } s m args below meth c G b 9 (MQ below (zQ G b FQ) args s 0 0 (fun q : Nat => b ≤ q)) 0 0 75 [some (.ref (P)), some (.int x1_75), some (.int x2_75), some (.int x3_75), some (.int x4_75), some (.int x5_75), some (.int x6_75), some (.int x7_75), x8_75] [] (L, M_75, N_75) := L_75 zFu
  have L_49 : ∀ u : Nat, ∀ (x1_49 : Int32) (x2_49 : Int32) (x3_49 : Int32) (x4_49 : Int32) (x5_49 : Int32) (x6_49 : Int32) (x7_49 : Int32) (x8_49 : Option Value) (M_49 : zMt) (N_49 : zNt), (x4_49 = 0 ∨ x4_49 = 1) → (x6_49 = 0 ∨ x6_49 = 1) → D_X8_years_49 P u x1_49 x2_49 x3_49 x4_49 x5_49 x6_49 x7_49 M_49 N_49 = some r → Zw p l e { frames := 6, cells := 0, slots := 0, locals := 80 * (6) } s m args below meth c G b 9 (MQ below (zQ G b FQ) args s 0 0 (fun q : Nat => b ≤ q)) 0 0 49 [some (.ref (P)), some (.int x1_49), some (.int x2_49), some (.int x3_49), some (.int x4_49), some (.int x5_49), some (.int x6_49), some (.int x7_49), x8_49] [] (L, M_49, N_49) := by
    intro u
    induction u with
    | zero => intro x1_49 x2_49 x3_49 x4_49 x5_49 x6_49 x7_49 x8_49 M_49 N_49 fb_x4_49 fb_x6_49 h; cases (show none = some r from h)
    | succ u_49 ih_49 =>
      intro x1_49 x2_49 x3_49 x4_49 x5_49 x6_49 x7_49 x8_49 M_49 N_49 fb_x4_49 fb_x6_49 h
      rw [D_X8_years_49] at h
      refine a_iload X dX8_years_49 rfl ?_
      refine a_aload_n X dX8_years_51 rfl ?_
      refine a_geti X lf8_132 (by first | exact p_o | assumption) rfl dX8_years_52 ?_
      refine a_icmp_ge (tgt := 72) X dX8_years_55 (by decide) (fun h_55 => ?_) (fun h_55 => ?_)
      · replace h := (if_pos h_55).symm.trans h
        refine a_iconst (v := 0) X dX8_years_72 (by decide) ?_
        refine a_istore X dX8_years_73 (by decide) ?_
        exact Zw.to2 (H_75 _ _ _ _ _ _ _ _ _ _ h) rfl rfl rfl
      · replace h := (if_neg h_55).symm.trans h
        refine a_aload_n X dX8_years_58 rfl ?_
        refine a_getr X lf8_109 (by first | exact p_o | assumption) rfl (by omega) dX8_years_59 ?_
        refine a_iload X dX8_years_62 rfl ?_
        refine a_iconst (v := 0) X dX8_years_64 (by decide) ?_
        obtain ⟨g_65, h⟩ := zIx h
        obtain ⟨M_65, f_65, h⟩ := zLtx h
        refine d_iastore X (by first | exact p_inRow | assumption) g_65 dX8_years_65 f_65 ?_
        refine a_iinc (v := x7_49 + 1) X dX8_years_66 (by decide) rfl zi_1 ?_
        refine a_goto (tgt := 49) X dX8_years_69 (by decide) ?_
        exact Zw.to2 (ih_49 _ _ _ _ _ _ _ _ _ _ (by first | exact Or.inl rfl | exact Or.inr rfl | assumption) (by first | exact Or.inl rfl | exact Or.inr rfl | assumption) h) rfl rfl rfl
  have H_49 : ∀ (x1_49 : Int32) (x2_49 : Int32) (x3_49 : Int32) (x4_49 : Int32) (x5_49 : Int32) (x6_49 : Int32) (x7_49 : Int32) (x8_49 : Option Value) (M_49 : zMt) (N_49 : zNt), (x4_49 = 0 ∨ x4_49 = 1) → (x6_49 = 0 ∨ x6_49 = 1) → D_X8_years_49 P zFu x1_49 x2_49 x3_49 x4_49 x5_49 x6_49 x7_49 M_49 N_49 = some r → Zw p l e { frames := 6, cells := 0, slots := 0, locals := 80 * (6) } s m args below meth c G b 9 (MQ below (zQ G b FQ) args s 0 0 (fun q : Nat => b ≤ q)) 0 0 49 [some (.ref (P)), some (.int x1_49), some (.int x2_49), some (.int x3_49), some (.int x4_49), some (.int x5_49), some (.int x6_49), some (.int x7_49), x8_49] [] (L, M_49, N_49) := L_49 zFu
  have J_20 : ∀ (x1_20 : Int32) (x2_20 : Int32) (x3_20 : Int32) (x4_20 : Option Value) (x5_20 : Option Value) (x6_20 : Option Value) (x7_20 : Option Value) (x8_20 : Option Value) (M_20 : zMt) (N_20 : zNt), D_X8_years_20 P M_20 N_20 = some r → Zw p l e { frames := 6, cells := 0, slots := 0, locals := 80 * (6) } s m args below meth c G b 9 (MQ below (zQ G b FQ) args s 0 0 (fun q : Nat => b ≤ q)) 0 0 20 [some (.ref (P)), some (.int x1_20), some (.int x2_20), some (.int x3_20), x4_20, x5_20, x6_20, x7_20, x8_20] [] (L, M_20, N_20) := by
    intro x1_20 x2_20 x3_20 x4_20 x5_20 x6_20 x7_20 x8_20 M_20 N_20 h
    unfold D_X8_years_20 at h
    refine a_aload_n X dX8_years_20 rfl ?_
    refine a_iconst (v := 1) X dX8_years_21 (by decide) ?_
    obtain ⟨e_22, f_22, h⟩ := zBx h
    refine a_callVv X dX8_years_22 miX8_refuse lm8_263 (t_X8_refuse (by first | exact hP | assumption) f_22) (by first | exact p_o | assumption) rfl rfl rfl (Nat.le_of_ble_eq_true rfl) ⟨by decide, by decide, by decide, by decide⟩ ?_
    refine a_iret X hr dX8_years_25 ⟨by decide, by decide⟩ ?_
    subst hF
    rw [← Option.some.inj h]
    exact ⟨rfl, rfl⟩
  unfold D_X8_years at h
  refine a_iload_n X dX8_years_0 rfl ?_
  refine a_iload_n X dX8_years_1 rfl ?_
  obtain ⟨e_2, f_2, h⟩ := zBx h
  refine a_callSx X dX8_years_2 miX8_areYears lm8_471 (t_X8_areYears f_2) rfl rfl (Nat.le_of_ble_eq_true rfl) ⟨by decide, by decide, by decide, by decide⟩ (fun r_2 S_2 q_2 => ?_)
  obtain ⟨rfl, rfl, b_2⟩ := q_2
  refine a_if_eq (tgt := 20) X dX8_years_5 (by decide) (fun h_5 => ?_) (fun h_5 => ?_)
  · replace h := (if_pos h_5).symm.trans h
    exact Zw.to2 (J_20 _ _ _ _ _ _ _ _ _ _ h) rfl rfl rfl
  · replace h := (if_neg h_5).symm.trans h
    refine a_iload_n X dX8_years_8 rfl ?_
    refine a_i2l X dX8_years_9 ?_
    refine a_lconst (v := 0) X dX8_years_10 (by decide) ?_
    refine a_ldc2 X dX8_years_11 lk8_427 ?_
    obtain ⟨e_14, f_14, h⟩ := zBx h
    refine a_callSx X dX8_years_14 miX8_isFrom lm8_128 (t_X8_isFrom f_14) rfl rfl (Nat.le_of_ble_eq_true rfl) ⟨by decide, by decide, by decide, by decide⟩ (fun r_14 S_14 q_14 => ?_)
    obtain ⟨rfl, rfl, b_14⟩ := q_14
    refine a_if_ne (tgt := 26) X dX8_years_17 (by decide) (fun h_17 => ?_) (fun h_17 => ?_)
    · replace h := (if_neg h_17).symm.trans h
      refine a_aload_n X dX8_years_26 rfl ?_
      obtain ⟨e_27, f_27, h⟩ := zBx h
      refine a_callVu X dX8_years_27 miX8_putsAside lm8_444 (t_X8_putsAside (by first | exact hP | assumption) f_27) (by first | exact p_o | assumption) rfl rfl rfl (Nat.le_of_ble_eq_true rfl) ⟨by decide, by decide, by decide, by decide⟩ ?_
      refine a_iconst (v := 0) X dX8_years_30 (by decide) ?_
      refine a_istore X dX8_years_31 (by decide) ?_
      refine a_iconst (v := 1) X dX8_years_33 (by decide) ?_
      refine a_aload_n X dX8_years_34 rfl ?_
      refine a_geti X lf8_132 (by first | exact p_o | assumption) rfl dX8_years_35 ?_
      refine a_ishl X dX8_years_38 ?_
      refine a_iconst (v := 1) X dX8_years_39 (by decide) ?_
      refine a_isub X dX8_years_40 ?_
      refine a_istore X dX8_years_41 (by decide) ?_
      refine a_iconst (v := 0) X dX8_years_43 (by decide) ?_
      refine a_istore X dX8_years_44 (by decide) ?_
      refine a_iconst (v := 0) X dX8_years_46 (by decide) ?_
      refine a_istore X dX8_years_47 (by decide) ?_
      exact Zw.to2 (H_49 _ _ _ _ _ _ _ _ _ _ (by first | exact Or.inl rfl | exact Or.inr rfl | assumption) (by first | exact Or.inl rfl | exact Or.inr rfl | assumption) h) rfl rfl rfl
    · replace h := (if_pos h_17).symm.trans h
      exact Zw.to2 (J_20 _ _ _ _ _ _ _ _ _ _ h) rfl rfl rfl
noncomputable def D_X8_often_68 (P : Nat) (k38 : Int32 → Int32 → Int32 → Int32 → Int32 → zMt → zNt → Option (Int32 × zMt × zNt)) (x1_68 : Int32) (x2_68 : Int32) (x3_68 : Int32) (x5_68 : Int32) (y0_68 : Int32) (y1_68 : Int32) (M_68 : zMt) (N_68 : zNt) : Option (Int32 × zMt × zNt) :=
  k38 x1_68 x2_68 x3_68 (y0_68 + y1_68) (x5_68 + 1) M_68 N_68
noncomputable def D_X8_often_38 (P : Nat) : Nat → Int32 → Int32 → Int32 → Int32 → Int32 → zMt → zNt → Option (Int32 × zMt × zNt)
  | 0, _, _, _, _, _, _, _ => none
  | n + 1, x1_38, x2_38, x3_38, x4_38, x5_38, M_38, N_38 =>
    if x2_38 ≤ x5_38 then
      zB (D_X8_takesBack P M_38) fun e_78 =>
      zB (D_X8_gives P x4_38 e_78) fun e_84 =>
      some (e_84.1, e_84.2, N_38)
    else
      zB (D_X8_goesYear P (x1_38 + x5_38) M_38 N_38) fun e_49 =>
      zB (D_X8_unitNow P e_49.1 x3_38) fun e_56 =>
      if e_56 = (-1 : Int32) then
        D_X8_often_68 P (D_X8_often_38 P n) x1_38 x2_38 x3_38 x5_38 x4_38 (0 : Int32) e_49.1 e_49.2
      else
        D_X8_often_68 P (D_X8_often_38 P n) x1_38 x2_38 x3_38 x5_38 x4_38 (1 : Int32) e_49.1 e_49.2
noncomputable def D_X8_often (P : Nat) (v0 : Int32) (v1 : Int32) (v2 : Int32) (M : zMt) (N : zNt) : Option (Int32 × zMt × zNt) :=
  zB (D_X8_areYears v0 v1) fun e_2 =>
  if e_2 = 0 then
    zB (D_X8_refuse P (1 : Int32) M) fun e_10 =>
    some (e_10.1, e_10.2, N)
  else
    zB (D_X8_isHunter P M v2) fun e_16 =>
    if e_16 = 0 then
      zB (D_X8_refuse P (2 : Int32) M) fun e_24 =>
      some (e_24.1, e_24.2, N)
    else
      zB (D_X8_putsAside P M) fun e_29 =>
      D_X8_often_38 P zFu v0 v1 v2 (0 : Int32) (0 : Int32) e_29 N
set_option maxRecDepth 100000 in
set_option maxHeartbeats 4000000 in
theorem t_X8_often {l : Launch} {G : zG} {b : Nat} {L : List zC} {M : zMt} {N : zNt} {P : Nat} {v0 : Int32} {v1 : Int32} {v2 : Int32} (hP : LX8 L P) {r : Int32 × zMt × zNt} (h : D_X8_often P v0 v1 v2 M N = some r) : zM l G b yX8_often cX8_often 6 (some .int) 6 0 0 [.ref P, .int v0, .int v1, .int v2] (L, M, N) (fun r2 z => r2 = some (.int r.1) ∧ z = (L, r.2.1, r.2.2)) := by
  refine zM.of miX8_often (Nat.le_of_ble_eq_true rfl) ?_
  intro p e s m args below meth c X hr hname
  generalize hF : ((fun r2 z => r2 = some (.int r.1) ∧ z = (L, r.2.1, r.2.2)) : Option Value → zS → Prop) = FQ
  change Zw p l e { frames := 6, cells := 0, slots := 0, locals := 80 * (6) } s m args below meth c G b 6 (MQ below (zQ G b FQ) args s 0 0 (fun q : Nat => b ≤ q)) 0 0 0 [some (.ref P), some (.int v0), some (.int v1), some (.int v2), none, none] [] (L, M, N)
  have p_lt := hP.1
  have p_o := hP.2.1
  have L_38 : ∀ u : Nat, ∀ (x1_38 : Int32) (x2_38 : Int32) (x3_38 : Int32) (x4_38 : Int32) (x5_38 : Int32) (M_38 : zMt) (N_38 : zNt), D_X8_often_38 P u x1_38 x2_38 x3_38 x4_38 x5_38 M_38 N_38 = some r → Zw p l e { frames := 6, cells := 0, slots := 0, locals := 80 * (6) } s m args below meth c G b 6 (MQ below (zQ G b FQ) args s 0 0 (fun q : Nat => b ≤ q)) 0 0 38 [some (.ref (P)), some (.int x1_38), some (.int x2_38), some (.int x3_38), some (.int x4_38), some (.int x5_38)] [] (L, M_38, N_38) := by
    intro u
    induction u with
    | zero => intro x1_38 x2_38 x3_38 x4_38 x5_38 M_38 N_38 h; cases (show none = some r from h)
    | succ u_38 ih_38 =>
      have J_68 : ∀ (x1_68 : Int32) (x2_68 : Int32) (x3_68 : Int32) (x4_68 : Int32) (x5_68 : Int32) (y0_68 : Int32) (y1_68 : Int32) (M_68 : zMt) (N_68 : zNt), (y1_68 = 0 ∨ y1_68 = 1) → D_X8_often_68 P (D_X8_often_38 P u_38) x1_68 x2_68 x3_68 x5_68 y0_68 y1_68 M_68 N_68 = some r → Zw p l e { frames := 6, cells := 0, slots := 0, locals := 80 * (6) } s m args below meth c G b 6 (MQ below (zQ G b FQ) args s 0 0 (fun q : Nat => b ≤ q)) 0 0 68 [some (.ref (P)), some (.int x1_68), some (.int x2_68), some (.int x3_68), some (.int x4_68), some (.int x5_68)] [.int y1_68, .int y0_68] (L, M_68, N_68) := by
        intro x1_68 x2_68 x3_68 x4_68 x5_68 y0_68 y1_68 M_68 N_68 fb_y1_68 h
        unfold D_X8_often_68 at h
        refine a_iadd X dX8_often_68 ?_
        refine a_istore X dX8_often_69 (by decide) ?_
        refine a_iinc (v := x5_68 + 1) X dX8_often_71 (by decide) rfl zi_1 ?_
        refine a_goto (tgt := 38) X dX8_often_74 (by decide) ?_
        exact Zw.to2 (ih_38 _ _ _ _ _ _ _ h) rfl rfl rfl
      intro x1_38 x2_38 x3_38 x4_38 x5_38 M_38 N_38 h
      rw [D_X8_often_38] at h
      refine a_iload X dX8_often_38 rfl ?_
      refine a_iload_n X dX8_often_40 rfl ?_
      refine a_icmp_ge (tgt := 77) X dX8_often_41 (by decide) (fun h_41 => ?_) (fun h_41 => ?_)
      · replace h := (if_pos h_41).symm.trans h
        refine a_aload_n X dX8_often_77 rfl ?_
        obtain ⟨e_78, f_78, h⟩ := zBx h
        refine a_callVu X dX8_often_78 miX8_takesBack lm8_449 (t_X8_takesBack (by first | exact hP | assumption) f_78) (by first | exact p_o | assumption) rfl rfl rfl (Nat.le_of_ble_eq_true rfl) ⟨by decide, by decide, by decide, by decide⟩ ?_
        refine a_aload_n X dX8_often_81 rfl ?_
        refine a_iload X dX8_often_82 rfl ?_
        obtain ⟨e_84, f_84, h⟩ := zBx h
        refine a_callVv X dX8_often_84 miX8_gives lm8_272 (t_X8_gives (by first | exact hP | assumption) f_84) (by first | exact p_o | assumption) rfl rfl rfl (Nat.le_of_ble_eq_true rfl) ⟨by decide, by decide, by decide, by decide⟩ ?_
        refine a_iret X hr dX8_often_87 ⟨by decide, by decide⟩ ?_
        subst hF
        rw [← Option.some.inj h]
        exact ⟨rfl, rfl⟩
      · replace h := (if_neg h_41).symm.trans h
        refine a_aload_n X dX8_often_44 rfl ?_
        refine a_iload_n X dX8_often_45 rfl ?_
        refine a_iload X dX8_often_46 rfl ?_
        refine a_iadd X dX8_often_48 ?_
        obtain ⟨e_49, f_49, h⟩ := zBx h
        refine a_callVu X dX8_often_49 miX8_goesYear lm8_474 (t_X8_goesYear (by first | exact hP | assumption) f_49) (by first | exact p_o | assumption) rfl rfl rfl (Nat.le_of_ble_eq_true rfl) ⟨by decide, by decide, by decide, by decide⟩ ?_
        refine a_iload X dX8_often_52 rfl ?_
        refine a_aload_n X dX8_often_54 rfl ?_
        refine a_iload_n X dX8_often_55 rfl ?_
        obtain ⟨e_56, f_56, h⟩ := zBx h
        refine a_callVv X dX8_often_56 miX8_unitNow lm8_477 (t_X8_unitNow (by first | exact hP | assumption) f_56) (by first | exact p_o | assumption) rfl rfl rfl (Nat.le_of_ble_eq_true rfl) ⟨by decide, by decide, by decide, by decide⟩ ?_
        refine a_iconst (v := -1) X dX8_often_59 (by decide) ?_
        refine a_icmp_ne (tgt := 67) X dX8_often_60 (by decide) (fun h_60 => ?_) (fun h_60 => ?_)
        · replace h := (if_neg h_60).symm.trans h
          refine a_iconst (v := 1) X dX8_often_67 (by decide) ?_
          exact Zw.to2 (J_68 _ _ _ _ _ _ _ _ _ (by first | exact Or.inl rfl | exact Or.inr rfl | assumption) h) rfl rfl rfl
        · replace h := (if_pos h_60).symm.trans h
          refine a_iconst (v := 0) X dX8_often_63 (by decide) ?_
          refine a_goto (tgt := 68) X dX8_often_64 (by decide) ?_
          exact Zw.to2 (J_68 _ _ _ _ _ _ _ _ _ (by first | exact Or.inl rfl | exact Or.inr rfl | assumption) h) rfl rfl rfl
  have H_38 : ∀ (x1_38 : Int32) (x2_38 : Int32) (x3_38 : Int32) (x4_38 : Int32) (x5_38 : Int32) (M_38 : zMt) (N_38 : zNt), D_X8_often_38 P zFu x1_38 x2_38 x3_38 x4_38 x5_38 M_38 N_38 = some r → Zw p l e { frames := 6, cells := 0, slots := 0, locals := 80 * (6) } s m args below meth c G b 6 (MQ below (zQ G b FQ) args s 0 0 (fun q : Nat => b ≤ q)) 0 0 38 [some (.ref (P)), some (.int x1_38), some (.int x2_38), some (.int x3_38), some (.int x4_38), some (.int x5_38)] [] (L, M_38, N_38) := L_38 zFu
  unfold D_X8_often at h
  refine a_iload_n X dX8_often_0 rfl ?_
  refine a_iload_n X dX8_often_1 rfl ?_
  obtain ⟨e_2, f_2, h⟩ := zBx h
  refine a_callSx X dX8_often_2 miX8_areYears lm8_471 (t_X8_areYears f_2) rfl rfl (Nat.le_of_ble_eq_true rfl) ⟨by decide, by decide, by decide, by decide⟩ (fun r_2 S_2 q_2 => ?_)
  obtain ⟨rfl, rfl, b_2⟩ := q_2
  refine a_if_ne (tgt := 14) X dX8_often_5 (by decide) (fun h_5 => ?_) (fun h_5 => ?_)
  · replace h := (if_neg h_5).symm.trans h
    refine a_aload_n X dX8_often_14 rfl ?_
    refine a_iload_n X dX8_often_15 rfl ?_
    obtain ⟨e_16, f_16, h⟩ := zBx h
    refine a_callVx X dX8_often_16 miX8_isHunter lm8_293 (t_X8_isHunter (by first | exact hP | assumption) f_16) (by first | exact p_o | assumption) rfl rfl rfl (Nat.le_of_ble_eq_true rfl) ⟨by decide, by decide, by decide, by decide⟩ (fun r_16 S_16 q_16 => ?_)
    obtain ⟨rfl, rfl, b_16⟩ := q_16
    refine a_if_ne (tgt := 28) X dX8_often_19 (by decide) (fun h_19 => ?_) (fun h_19 => ?_)
    · replace h := (if_neg h_19).symm.trans h
      refine a_aload_n X dX8_often_28 rfl ?_
      obtain ⟨e_29, f_29, h⟩ := zBx h
      refine a_callVu X dX8_often_29 miX8_putsAside lm8_444 (t_X8_putsAside (by first | exact hP | assumption) f_29) (by first | exact p_o | assumption) rfl rfl rfl (Nat.le_of_ble_eq_true rfl) ⟨by decide, by decide, by decide, by decide⟩ ?_
      refine a_iconst (v := 0) X dX8_often_32 (by decide) ?_
      refine a_istore X dX8_often_33 (by decide) ?_
      refine a_iconst (v := 0) X dX8_often_35 (by decide) ?_
      refine a_istore X dX8_often_36 (by decide) ?_
      exact Zw.to2 (H_38 _ _ _ _ _ _ _ h) rfl rfl rfl
    · replace h := (if_pos h_19).symm.trans h
      refine a_aload_n X dX8_often_22 rfl ?_
      refine a_iconst (v := 2) X dX8_often_23 (by decide) ?_
      obtain ⟨e_24, f_24, h⟩ := zBx h
      refine a_callVv X dX8_often_24 miX8_refuse lm8_263 (t_X8_refuse (by first | exact hP | assumption) f_24) (by first | exact p_o | assumption) rfl rfl rfl (Nat.le_of_ble_eq_true rfl) ⟨by decide, by decide, by decide, by decide⟩ ?_
      refine a_iret X hr dX8_often_27 ⟨by decide, by decide⟩ ?_
      subst hF
      rw [← Option.some.inj h]
      exact ⟨rfl, rfl⟩
  · replace h := (if_pos h_5).symm.trans h
    refine a_aload_n X dX8_often_8 rfl ?_
    refine a_iconst (v := 1) X dX8_often_9 (by decide) ?_
    obtain ⟨e_10, f_10, h⟩ := zBx h
    refine a_callVv X dX8_often_10 miX8_refuse lm8_263 (t_X8_refuse (by first | exact hP | assumption) f_10) (by first | exact p_o | assumption) rfl rfl rfl (Nat.le_of_ble_eq_true rfl) ⟨by decide, by decide, by decide, by decide⟩ ?_
    refine a_iret X hr dX8_often_13 ⟨by decide, by decide⟩ ?_
    subst hF
    rw [← Option.some.inj h]
    exact ⟨rfl, rfl⟩
noncomputable def D_X8_soonest_130 (P : Nat) (y0_130 : Int32) (M_130 : zMt) (N_130 : zNt) : Option (Int32 × zMt × zNt) :=
  some (y0_130, M_130, N_130)
noncomputable def D_X8_soonest_106 (P : Nat) (x4_106 : Int32) (M_106 : zMt) (N_106 : zNt) : Option (Int32 × zMt × zNt) :=
  zB (D_X8_takesBack P M_106) fun e_107 =>
  if x4_106 = (-1 : Int32) then
    zB (D_X8_refuse P (5 : Int32) e_107) fun e_118 =>
    D_X8_soonest_130 P e_118.1 e_118.2 N_106
  else
    zB (D_X8_gives P x4_106 e_107) fun e_127 =>
    D_X8_soonest_130 P e_127.1 e_127.2 N_106
noncomputable def D_X8_soonest_98 (P : Nat) (k38 : Int32 → Int32 → Int32 → Int32 → Int32 → zMt → zNt → Option (Int32 × zMt × zNt)) (x1_98 : Int32) (x2_98 : Int32) (x3_98 : Int32) (x5_98 : Int32) (y0_98 : Int32) (M_98 : zMt) (N_98 : zNt) : Option (Int32 × zMt × zNt) :=
  k38 x1_98 x2_98 x3_98 y0_98 (x5_98 + 1) M_98 N_98
noncomputable def D_X8_soonest_61 (P : Nat) (k38 : Int32 → Int32 → Int32 → Int32 → Int32 → zMt → zNt → Option (Int32 × zMt × zNt)) : Nat → Int32 → Int32 → Int32 → Int32 → Int32 → zMt → zNt → Option (Int32 × zMt × zNt)
  | 0, _, _, _, _, _, _, _ => none
  | n + 1, x1_61, x2_61, x3_61, x5_61, x6_61, M_61, N_61 =>
    zI x6_61 10 <|
    zB (D_X8_has (M_61 (P + 11) x6_61.toNatClampNeg) x3_61) fun e_69 =>
    if e_69 = 0 then
      (D_X8_soonest_61 P k38 n) x1_61 x2_61 x3_61 x5_61 (x6_61 + 1) M_61 N_61
    else
      zB (D_X8_hasFirst P M_61 x6_61) fun e_84 =>
      if e_84 = 0 then
        D_X8_soonest_98 P k38 x1_61 x2_61 x3_61 x5_61 (-1 : Int32) M_61 N_61
      else
        D_X8_soonest_98 P k38 x1_61 x2_61 x3_61 x5_61 (x5_61 + (1 : Int32)) M_61 N_61
noncomputable def D_X8_soonest_38 (P : Nat) : Nat → Int32 → Int32 → Int32 → Int32 → Int32 → zMt → zNt → Option (Int32 × zMt × zNt)
  | 0, _, _, _, _, _, _, _ => none
  | n + 1, x1_38, x2_38, x3_38, x4_38, x5_38, M_38, N_38 =>
    if x2_38 ≤ x5_38 then
      D_X8_soonest_106 P x4_38 M_38 N_38
    else
      if x4_38 = (-1 : Int32) then
        zB (D_X8_goesYear P (x1_38 + x5_38) M_38 N_38) fun e_55 =>
        D_X8_soonest_61 P (D_X8_soonest_38 P n) zFu x1_38 x2_38 x3_38 x5_38 (0 : Int32) e_55.1 e_55.2
      else
        D_X8_soonest_106 P x4_38 M_38 N_38
noncomputable def D_X8_soonest (P : Nat) (v0 : Int32) (v1 : Int32) (v2 : Int32) (M : zMt) (N : zNt) : Option (Int32 × zMt × zNt) :=
  zB (D_X8_areYears v0 v1) fun e_2 =>
  if e_2 = 0 then
    zB (D_X8_refuse P (1 : Int32) M) fun e_10 =>
    some (e_10.1, e_10.2, N)
  else
    zB (D_X8_isHunter P M v2) fun e_16 =>
    if e_16 = 0 then
      zB (D_X8_refuse P (2 : Int32) M) fun e_24 =>
      some (e_24.1, e_24.2, N)
    else
      zB (D_X8_putsAside P M) fun e_29 =>
      D_X8_soonest_38 P zFu v0 v1 v2 (-1 : Int32) (0 : Int32) e_29 N
set_option maxRecDepth 100000 in
set_option maxHeartbeats 4000000 in
theorem t_X8_soonest {l : Launch} {G : zG} {b : Nat} {L : List zC} {M : zMt} {N : zNt} {P : Nat} {v0 : Int32} {v1 : Int32} {v2 : Int32} (hP : LX8 L P) {r : Int32 × zMt × zNt} (h : D_X8_soonest P v0 v1 v2 M N = some r) : zM l G b yX8_soonest cX8_soonest 7 (some .int) 6 0 0 [.ref P, .int v0, .int v1, .int v2] (L, M, N) (fun r2 z => r2 = some (.int r.1) ∧ z = (L, r.2.1, r.2.2)) := by
  refine zM.of miX8_soonest (Nat.le_of_ble_eq_true rfl) ?_
  intro p e s m args below meth c X hr hname
  generalize hF : ((fun r2 z => r2 = some (.int r.1) ∧ z = (L, r.2.1, r.2.2)) : Option Value → zS → Prop) = FQ
  change Zw p l e { frames := 6, cells := 0, slots := 0, locals := 80 * (6) } s m args below meth c G b 7 (MQ below (zQ G b FQ) args s 0 0 (fun q : Nat => b ≤ q)) 0 0 0 [some (.ref P), some (.int v0), some (.int v1), some (.int v2), none, none, none] [] (L, M, N)
  have p_lt := hP.1
  have p_o := hP.2.1
  have p_bits := hP.2.2.2.2.2.2.2.2.2.2.2.2.1
  have J_130 : ∀ (x1_130 : Int32) (x2_130 : Int32) (x3_130 : Int32) (x4_130 : Int32) (x5_130 : Int32) (x6_130 : Option Value) (y0_130 : Int32) (M_130 : zMt) (N_130 : zNt), D_X8_soonest_130 P y0_130 M_130 N_130 = some r → Zw p l e { frames := 6, cells := 0, slots := 0, locals := 80 * (6) } s m args below meth c G b 7 (MQ below (zQ G b FQ) args s 0 0 (fun q : Nat => b ≤ q)) 0 0 130 [some (.ref (P)), some (.int x1_130), some (.int x2_130), some (.int x3_130), some (.int x4_130), some (.int x5_130), x6_130] [.int y0_130] (L, M_130, N_130) := by
    intro x1_130 x2_130 x3_130 x4_130 x5_130 x6_130 y0_130 M_130 N_130 h
    unfold D_X8_soonest_130 at h
    refine a_iret X hr dX8_soonest_130 ⟨by decide, by decide⟩ ?_
    subst hF
    rw [← Option.some.inj h]
    exact ⟨rfl, rfl⟩
  have J_106 : ∀ (x1_106 : Int32) (x2_106 : Int32) (x3_106 : Int32) (x4_106 : Int32) (x5_106 : Int32) (x6_106 : Option Value) (M_106 : zMt) (N_106 : zNt), D_X8_soonest_106 P x4_106 M_106 N_106 = some r → Zw p l e { frames := 6, cells := 0, slots := 0, locals := 80 * (6) } s m args below meth c G b 7 (MQ below (zQ G b FQ) args s 0 0 (fun q : Nat => b ≤ q)) 0 0 106 [some (.ref (P)), some (.int x1_106), some (.int x2_106), some (.int x3_106), some (.int x4_106), some (.int x5_106), x6_106] [] (L, M_106, N_106) := by
    intro x1_106 x2_106 x3_106 x4_106 x5_106 x6_106 M_106 N_106 h
    unfold D_X8_soonest_106 at h
    refine a_aload_n X dX8_soonest_106 rfl ?_
    obtain ⟨e_107, f_107, h⟩ := zBx h
    refine a_callVu X dX8_soonest_107 miX8_takesBack lm8_449 (t_X8_takesBack (by first | exact hP | assumption) f_107) (by first | exact p_o | assumption) rfl rfl rfl (Nat.le_of_ble_eq_true rfl) ⟨by decide, by decide, by decide, by decide⟩ ?_
    refine a_iload X dX8_soonest_110 rfl ?_
    refine a_iconst (v := -1) X dX8_soonest_112 (by decide) ?_
    refine a_icmp_ne (tgt := 124) X dX8_soonest_113 (by decide) (fun h_113 => ?_) (fun h_113 => ?_)
    · replace h := (if_neg h_113).symm.trans h
      refine a_aload_n X dX8_soonest_124 rfl ?_
      refine a_iload X dX8_soonest_125 rfl ?_
      obtain ⟨e_127, f_127, h⟩ := zBx h
      refine a_callVv X dX8_soonest_127 miX8_gives lm8_272 (t_X8_gives (by first | exact hP | assumption) f_127) (by first | exact p_o | assumption) rfl rfl rfl (Nat.le_of_ble_eq_true rfl) ⟨by decide, by decide, by decide, by decide⟩ ?_
      exact Zw.to2 (J_130 _ _ _ _ _ _ _ _ _ h) rfl rfl rfl
    · replace h := (if_pos h_113).symm.trans h
      refine a_aload_n X dX8_soonest_116 rfl ?_
      refine a_iconst (v := 5) X dX8_soonest_117 (by decide) ?_
      obtain ⟨e_118, f_118, h⟩ := zBx h
      refine a_callVv X dX8_soonest_118 miX8_refuse lm8_263 (t_X8_refuse (by first | exact hP | assumption) f_118) (by first | exact p_o | assumption) rfl rfl rfl (Nat.le_of_ble_eq_true rfl) ⟨by decide, by decide, by decide, by decide⟩ ?_
      refine a_goto (tgt := 130) X dX8_soonest_121 (by decide) ?_
      exact Zw.to2 (J_130 _ _ _ _ _ _ _ _ _ h) rfl rfl rfl
  have L_38 : ∀ u : Nat, ∀ (x1_38 : Int32) (x2_38 : Int32) (x3_38 : Int32) (x4_38 : Int32) (x5_38 : Int32) (x6_38 : Option Value) (M_38 : zMt) (N_38 : zNt), D_X8_soonest_38 P u x1_38 x2_38 x3_38 x4_38 x5_38 M_38 N_38 = some r → Zw p l e { frames := 6, cells := 0, slots := 0, locals := 80 * (6) } s m args below meth c G b 7 (MQ below (zQ G b FQ) args s 0 0 (fun q : Nat => b ≤ q)) 0 0 38 [some (.ref (P)), some (.int x1_38), some (.int x2_38), some (.int x3_38), some (.int x4_38), some (.int x5_38), x6_38] [] (L, M_38, N_38) := by
    intro u
    induction u with
    | zero => intro x1_38 x2_38 x3_38 x4_38 x5_38 x6_38 M_38 N_38 h; cases (show none = some r from h)
    | succ u_38 ih_38 =>
      have J_98 : ∀ (x1_98 : Int32) (x2_98 : Int32) (x3_98 : Int32) (x4_98 : Int32) (x5_98 : Int32) (x6_98 : Int32) (y0_98 : Int32) (M_98 : zMt) (N_98 : zNt), D_X8_soonest_98 P (D_X8_soonest_38 P u_38) x1_98 x2_98 x3_98 x5_98 y0_98 M_98 N_98 = some r → Zw p l e { frames := 6, cells := 0, slots := 0, locals := 80 * (6) } s m args below meth c G b 7 (MQ below (zQ G b FQ) args s 0 0 (fun q : Nat => b ≤ q)) 0 0 98 [some (.ref (P)), some (.int x1_98), some (.int x2_98), some (.int x3_98), some (.int x4_98), some (.int x5_98), some (.int x6_98)] [.int y0_98] (L, M_98, N_98) := by
        intro x1_98 x2_98 x3_98 x4_98 x5_98 x6_98 y0_98 M_98 N_98 h
        unfold D_X8_soonest_98 at h
        refine a_istore X dX8_soonest_98 (by decide) ?_
        refine a_iinc (v := x5_98 + 1) X dX8_soonest_100 (by decide) rfl zi_1 ?_
        refine a_goto (tgt := 38) X dX8_soonest_103 (by decide) ?_
        exact Zw.to2 (ih_38 _ _ _ _ _ _ _ _ h) rfl rfl rfl
      have L_61 : ∀ u : Nat, ∀ (x1_61 : Int32) (x2_61 : Int32) (x3_61 : Int32) (x4_61 : Int32) (x5_61 : Int32) (x6_61 : Int32) (M_61 : zMt) (N_61 : zNt), D_X8_soonest_61 P (D_X8_soonest_38 P u_38) u x1_61 x2_61 x3_61 x5_61 x6_61 M_61 N_61 = some r → Zw p l e { frames := 6, cells := 0, slots := 0, locals := 80 * (6) } s m args below meth c G b 7 (MQ below (zQ G b FQ) args s 0 0 (fun q : Nat => b ≤ q)) 0 0 61 [some (.ref (P)), some (.int x1_61), some (.int x2_61), some (.int x3_61), some (.int x4_61), some (.int x5_61), some (.int x6_61)] [] (L, M_61, N_61) := by
        intro u
        induction u with
        | zero => intro x1_61 x2_61 x3_61 x4_61 x5_61 x6_61 M_61 N_61 h; cases (show none = some r from h)
        | succ u_61 ih_61 =>
          intro x1_61 x2_61 x3_61 x4_61 x5_61 x6_61 M_61 N_61 h
          rw [D_X8_soonest_61] at h
          refine a_aload_n X dX8_soonest_61 rfl ?_
          refine a_getr X lf8_49 (by first | exact p_o | assumption) rfl (by omega) dX8_soonest_62 ?_
          refine a_iload X dX8_soonest_65 rfl ?_
          obtain ⟨g_67, h⟩ := zIx h
          refine a_iaload X (by first | exact p_bits | assumption) g_67 dX8_soonest_67 ?_
          refine a_iload_n X dX8_soonest_68 rfl ?_
          obtain ⟨e_69, f_69, h⟩ := zBx h
          refine a_callSx X dX8_soonest_69 miX8_has lm8_240 (t_X8_has f_69) rfl rfl (Nat.le_of_ble_eq_true rfl) ⟨by decide, by decide, by decide, by decide⟩ (fun r_69 S_69 q_69 => ?_)
          obtain ⟨rfl, rfl, b_69⟩ := q_69
          refine a_if_ne (tgt := 81) X dX8_soonest_72 (by decide) (fun h_72 => ?_) (fun h_72 => ?_)
          · replace h := (if_neg h_72).symm.trans h
            refine a_aload_n X dX8_soonest_81 rfl ?_
            refine a_iload X dX8_soonest_82 rfl ?_
            obtain ⟨e_84, f_84, h⟩ := zBx h
            refine a_callVx X dX8_soonest_84 miX8_hasFirst lm8_387 (t_X8_hasFirst (by first | exact hP | assumption) f_84) (by first | exact p_o | assumption) rfl rfl rfl (Nat.le_of_ble_eq_true rfl) ⟨by decide, by decide, by decide, by decide⟩ (fun r_84 S_84 q_84 => ?_)
            obtain ⟨rfl, rfl, b_84⟩ := q_84
            refine a_if_eq (tgt := 97) X dX8_soonest_87 (by decide) (fun h_87 => ?_) (fun h_87 => ?_)
            · replace h := (if_pos h_87).symm.trans h
              refine a_iconst (v := -1) X dX8_soonest_97 (by decide) ?_
              exact Zw.to2 (J_98 _ _ _ _ _ _ _ _ _ h) rfl rfl rfl
            · replace h := (if_neg h_87).symm.trans h
              refine a_iload X dX8_soonest_90 rfl ?_
              refine a_iconst (v := 1) X dX8_soonest_92 (by decide) ?_
              refine a_iadd X dX8_soonest_93 ?_
              refine a_goto (tgt := 98) X dX8_soonest_94 (by decide) ?_
              exact Zw.to2 (J_98 _ _ _ _ _ _ _ _ _ h) rfl rfl rfl
          · replace h := (if_pos h_72).symm.trans h
            refine a_iinc (v := x6_61 + 1) X dX8_soonest_75 (by decide) rfl zi_1 ?_
            refine a_goto (tgt := 61) X dX8_soonest_78 (by decide) ?_
            exact Zw.to2 (ih_61 _ _ _ _ _ _ _ _ h) rfl rfl rfl
      have H_61 : ∀ (x1_61 : Int32) (x2_61 : Int32) (x3_61 : Int32) (x4_61 : Int32) (x5_61 : Int32) (x6_61 : Int32) (M_61 : zMt) (N_61 : zNt), D_X8_soonest_61 P (D_X8_soonest_38 P u_38) zFu x1_61 x2_61 x3_61 x5_61 x6_61 M_61 N_61 = some r → Zw p l e { frames := 6, cells := 0, slots := 0, locals := 80 * (6) } s m args below meth c G b 7 (MQ below (zQ G b FQ) args s 0 0 (fun q : Nat => b ≤ q)) 0 0 61 [some (.ref (P)), some (.int x1_61), some (.int x2_61), some (.int x3_61), some (.int x4_61), some (.int x5_61), some (.int x6_61)] [] (L, M_61, N_61) := L_61 zFu
      intro x1_38 x2_38 x3_38 x4_38 x5_38 x6_38 M_38 N_38 h
      rw [D_X8_soonest_38] at h
      refine a_iload X dX8_soonest_38 rfl ?_
      refine a_iload_n X dX8_soonest_40 rfl ?_
      refine a_icmp_ge (tgt := 106) X dX8_soonest_41 (by decide) (fun h_41 => ?_) (fun h_41 => ?_)
      · replace h := (if_pos h_41).symm.trans h
        exact Zw.to2 (J_106 _ _ _ _ _ _ _ _ h) rfl rfl rfl
      · replace h := (if_neg h_41).symm.trans h
        refine a_iload X dX8_soonest_44 rfl ?_
        refine a_iconst (v := -1) X dX8_soonest_46 (by decide) ?_
        refine a_icmp_ne (tgt := 106) X dX8_soonest_47 (by decide) (fun h_47 => ?_) (fun h_47 => ?_)
        · replace h := (if_neg h_47).symm.trans h
          exact Zw.to2 (J_106 _ _ _ _ _ _ _ _ h) rfl rfl rfl
        · replace h := (if_pos h_47).symm.trans h
          refine a_aload_n X dX8_soonest_50 rfl ?_
          refine a_iload_n X dX8_soonest_51 rfl ?_
          refine a_iload X dX8_soonest_52 rfl ?_
          refine a_iadd X dX8_soonest_54 ?_
          obtain ⟨e_55, f_55, h⟩ := zBx h
          refine a_callVu X dX8_soonest_55 miX8_goesYear lm8_474 (t_X8_goesYear (by first | exact hP | assumption) f_55) (by first | exact p_o | assumption) rfl rfl rfl (Nat.le_of_ble_eq_true rfl) ⟨by decide, by decide, by decide, by decide⟩ ?_
          refine a_iconst (v := 0) X dX8_soonest_58 (by decide) ?_
          refine a_istore X dX8_soonest_59 (by decide) ?_
          exact Zw.to2 (H_61 _ _ _ _ _ _ _ _ h) rfl rfl rfl
  have H_38 : ∀ (x1_38 : Int32) (x2_38 : Int32) (x3_38 : Int32) (x4_38 : Int32) (x5_38 : Int32) (x6_38 : Option Value) (M_38 : zMt) (N_38 : zNt), D_X8_soonest_38 P zFu x1_38 x2_38 x3_38 x4_38 x5_38 M_38 N_38 = some r → Zw p l e { frames := 6, cells := 0, slots := 0, locals := 80 * (6) } s m args below meth c G b 7 (MQ below (zQ G b FQ) args s 0 0 (fun q : Nat => b ≤ q)) 0 0 38 [some (.ref (P)), some (.int x1_38), some (.int x2_38), some (.int x3_38), some (.int x4_38), some (.int x5_38), x6_38] [] (L, M_38, N_38) := L_38 zFu
  unfold D_X8_soonest at h
  refine a_iload_n X dX8_soonest_0 rfl ?_
  refine a_iload_n X dX8_soonest_1 rfl ?_
  obtain ⟨e_2, f_2, h⟩ := zBx h
  refine a_callSx X dX8_soonest_2 miX8_areYears lm8_471 (t_X8_areYears f_2) rfl rfl (Nat.le_of_ble_eq_true rfl) ⟨by decide, by decide, by decide, by decide⟩ (fun r_2 S_2 q_2 => ?_)
  obtain ⟨rfl, rfl, b_2⟩ := q_2
  refine a_if_ne (tgt := 14) X dX8_soonest_5 (by decide) (fun h_5 => ?_) (fun h_5 => ?_)
  · replace h := (if_neg h_5).symm.trans h
    refine a_aload_n X dX8_soonest_14 rfl ?_
    refine a_iload_n X dX8_soonest_15 rfl ?_
    obtain ⟨e_16, f_16, h⟩ := zBx h
    refine a_callVx X dX8_soonest_16 miX8_isHunter lm8_293 (t_X8_isHunter (by first | exact hP | assumption) f_16) (by first | exact p_o | assumption) rfl rfl rfl (Nat.le_of_ble_eq_true rfl) ⟨by decide, by decide, by decide, by decide⟩ (fun r_16 S_16 q_16 => ?_)
    obtain ⟨rfl, rfl, b_16⟩ := q_16
    refine a_if_ne (tgt := 28) X dX8_soonest_19 (by decide) (fun h_19 => ?_) (fun h_19 => ?_)
    · replace h := (if_neg h_19).symm.trans h
      refine a_aload_n X dX8_soonest_28 rfl ?_
      obtain ⟨e_29, f_29, h⟩ := zBx h
      refine a_callVu X dX8_soonest_29 miX8_putsAside lm8_444 (t_X8_putsAside (by first | exact hP | assumption) f_29) (by first | exact p_o | assumption) rfl rfl rfl (Nat.le_of_ble_eq_true rfl) ⟨by decide, by decide, by decide, by decide⟩ ?_
      refine a_iconst (v := -1) X dX8_soonest_32 (by decide) ?_
      refine a_istore X dX8_soonest_33 (by decide) ?_
      refine a_iconst (v := 0) X dX8_soonest_35 (by decide) ?_
      refine a_istore X dX8_soonest_36 (by decide) ?_
      exact Zw.to2 (H_38 _ _ _ _ _ _ _ _ h) rfl rfl rfl
    · replace h := (if_pos h_19).symm.trans h
      refine a_aload_n X dX8_soonest_22 rfl ?_
      refine a_iconst (v := 2) X dX8_soonest_23 (by decide) ?_
      obtain ⟨e_24, f_24, h⟩ := zBx h
      refine a_callVv X dX8_soonest_24 miX8_refuse lm8_263 (t_X8_refuse (by first | exact hP | assumption) f_24) (by first | exact p_o | assumption) rfl rfl rfl (Nat.le_of_ble_eq_true rfl) ⟨by decide, by decide, by decide, by decide⟩ ?_
      refine a_iret X hr dX8_soonest_27 ⟨by decide, by decide⟩ ?_
      subst hF
      rw [← Option.some.inj h]
      exact ⟨rfl, rfl⟩
  · replace h := (if_pos h_5).symm.trans h
    refine a_aload_n X dX8_soonest_8 rfl ?_
    refine a_iconst (v := 1) X dX8_soonest_9 (by decide) ?_
    obtain ⟨e_10, f_10, h⟩ := zBx h
    refine a_callVv X dX8_soonest_10 miX8_refuse lm8_263 (t_X8_refuse (by first | exact hP | assumption) f_10) (by first | exact p_o | assumption) rfl rfl rfl (Nat.le_of_ble_eq_true rfl) ⟨by decide, by decide, by decide, by decide⟩ ?_
    refine a_iret X hr dX8_soonest_13 ⟨by decide, by decide⟩ ?_
    subst hF
    rw [← Option.some.inj h]
    exact ⟨rfl, rfl⟩
noncomputable def D_X8_keeps_52 (P : Nat) : Nat → Int32 → zMt → Option (zMt)
  | 0, _, _ => none
  | n + 1, x1_52, M_52 =>
    if (82 : Int32) ≤ x1_52 then
      zLt (zu M_52 P 9 ((M_52 P 9) + (1 : Int32))) fun M_91 =>
      some (M_91)
    else
      zI x1_52 82 <|
      zI (((82 : Int32) * (M_52 P 9)) + x1_52) 656 <|
      zLt (zu M_52 (P + 4) (((82 : Int32) * (M_52 P 9)) + x1_52).toNatClampNeg (M_52 (P + 1) x1_52.toNatClampNeg)) fun M_77 =>
      (D_X8_keeps_52 P n) (x1_52 + 1) M_77
noncomputable def D_X8_keeps_50 (P : Nat) (M_50 : zMt) : Option (zMt) :=
  D_X8_keeps_52 P zFu (0 : Int32) M_50
noncomputable def D_X8_keeps_12 (P : Nat) : Nat → Int32 → zMt → Option (zMt)
  | 0, _, _ => none
  | n + 1, x1_12, M_12 =>
    if (656 : Int32) ≤ x1_12 then
      zLt (zu M_12 P 9 ((M_12 P 9) - (1 : Int32))) fun M_47 =>
      D_X8_keeps_50 P M_47
    else
      zI x1_12 656 <|
      zI (x1_12 - (82 : Int32)) 656 <|
      zLt (zu M_12 (P + 4) (x1_12 - (82 : Int32)).toNatClampNeg (M_12 (P + 4) x1_12.toNatClampNeg)) fun M_33 =>
      (D_X8_keeps_12 P n) (x1_12 + 1) M_33
noncomputable def D_X8_keeps (P : Nat) (M : zMt) : Option (zMt) :=
  if (M P 9) = (8 : Int32) then
    D_X8_keeps_12 P zFu (82 : Int32) M
  else
    D_X8_keeps_50 P M
set_option maxRecDepth 100000 in
set_option maxHeartbeats 4000000 in
theorem t_X8_keeps {l : Launch} {G : zG} {b : Nat} {L : List zC} {M : zMt} {N : zNt} {P : Nat}  (hP : LX8 L P) {r : zMt} (h : D_X8_keeps P M = some r) : zM l G b yX8_keeps cX8_keeps 2 none 0 0 0 [.ref P] (L, M, N) (fun r2 z => r2 = none ∧ z = (L, r, N)) := by
  refine zM.of miX8_keeps (Nat.le_of_ble_eq_true rfl) ?_
  intro p e s m args below meth c X hr hname
  generalize hF : ((fun r2 z => r2 = none ∧ z = (L, r, N)) : Option Value → zS → Prop) = FQ
  change Zw p l e { frames := 0, cells := 0, slots := 0, locals := 80 * (0) } s m args below meth c G b 2 (MQ below (zQ G b FQ) args s 0 0 (fun q : Nat => b ≤ q)) 0 0 0 [some (.ref P), none] [] (L, M, N)
  have p_lt := hP.1
  have p_o := hP.2.1
  have p_s := hP.2.2.1
  have p_kept := hP.2.2.2.2.2.1
  have L_52 : ∀ u : Nat, ∀ (x1_52 : Int32) (M_52 : zMt), D_X8_keeps_52 P u x1_52 M_52 = some r → Zw p l e { frames := 0, cells := 0, slots := 0, locals := 80 * (0) } s m args below meth c G b 2 (MQ below (zQ G b FQ) args s 0 0 (fun q : Nat => b ≤ q)) 0 0 52 [some (.ref (P)), some (.int x1_52)] [] (L, M_52, N) := by
    intro u
    induction u with
    | zero => intro x1_52 M_52 h; cases (show none = some r from h)
    | succ u_52 ih_52 =>
      intro x1_52 M_52 h
      rw [D_X8_keeps_52] at h
      refine a_iload_n X dX8_keeps_52 rfl ?_
      refine a_bipush (v := 82) X dX8_keeps_53 (by decide) ?_
      refine a_icmp_ge (tgt := 84) X dX8_keeps_55 (by decide) (fun h_55 => ?_) (fun h_55 => ?_)
      · replace h := (if_pos h_55).symm.trans h
        refine a_aload_n X dX8_keeps_84 rfl ?_
        refine a_dup X dX8_keeps_85 rfl ?_
        refine a_geti X lf8_269 (by first | exact p_o | assumption) rfl dX8_keeps_86 ?_
        refine a_iconst (v := 1) X dX8_keeps_89 (by decide) ?_
        refine a_iadd X dX8_keeps_90 ?_
        obtain ⟨M_91, f_91, h⟩ := zLtx h
        refine d_puti X lf8_269 (by first | exact p_o | assumption) rfl dX8_keeps_91 f_91 ?_
        refine a_vret X hr dX8_keeps_94 ⟨by decide, by decide⟩ ?_
        subst hF
        rw [← Option.some.inj h]
        exact ⟨rfl, rfl⟩
      · replace h := (if_neg h_55).symm.trans h
        refine a_aload_n X dX8_keeps_58 rfl ?_
        refine a_getr X lf8_19 (by first | exact p_o | assumption) rfl (by omega) dX8_keeps_59 ?_
        refine a_bipush (v := 82) X dX8_keeps_62 (by decide) ?_
        refine a_aload_n X dX8_keeps_64 rfl ?_
        refine a_geti X lf8_269 (by first | exact p_o | assumption) rfl dX8_keeps_65 ?_
        refine a_imul X dX8_keeps_68 ?_
        refine a_iload_n X dX8_keeps_69 rfl ?_
        refine a_iadd X dX8_keeps_70 ?_
        refine a_aload_n X dX8_keeps_71 rfl ?_
        refine a_getr X lf8_7 (by first | exact p_o | assumption) rfl (by omega) dX8_keeps_72 ?_
        refine a_iload_n X dX8_keeps_75 rfl ?_
        obtain ⟨g_76, h⟩ := zIx h
        refine a_iaload X (by first | exact p_s | assumption) g_76 dX8_keeps_76 ?_
        obtain ⟨g_77, h⟩ := zIx h
        obtain ⟨M_77, f_77, h⟩ := zLtx h
        refine d_iastore X (by first | exact p_kept | assumption) g_77 dX8_keeps_77 f_77 ?_
        refine a_iinc (v := x1_52 + 1) X dX8_keeps_78 (by decide) rfl zi_1 ?_
        refine a_goto (tgt := 52) X dX8_keeps_81 (by decide) ?_
        exact Zw.to2 (ih_52 _ _ h) rfl rfl rfl
  have H_52 : ∀ (x1_52 : Int32) (M_52 : zMt), D_X8_keeps_52 P zFu x1_52 M_52 = some r → Zw p l e { frames := 0, cells := 0, slots := 0, locals := 80 * (0) } s m args below meth c G b 2 (MQ below (zQ G b FQ) args s 0 0 (fun q : Nat => b ≤ q)) 0 0 52 [some (.ref (P)), some (.int x1_52)] [] (L, M_52, N) := L_52 zFu
  have J_50 : ∀ (x1_50 : Option Value) (M_50 : zMt), D_X8_keeps_50 P M_50 = some r → Zw p l e { frames := 0, cells := 0, slots := 0, locals := 80 * (0) } s m args below meth c G b 2 (MQ below (zQ G b FQ) args s 0 0 (fun q : Nat => b ≤ q)) 0 0 50 [some (.ref (P)), x1_50] [] (L, M_50, N) := by
    intro x1_50 M_50 h
    unfold D_X8_keeps_50 at h
    refine a_iconst (v := 0) X dX8_keeps_50 (by decide) ?_
    refine a_istore_n X dX8_keeps_51 (by decide) ?_
    exact Zw.to2 (H_52 _ _ h) rfl rfl rfl
  have L_12 : ∀ u : Nat, ∀ (x1_12 : Int32) (M_12 : zMt), D_X8_keeps_12 P u x1_12 M_12 = some r → Zw p l e { frames := 0, cells := 0, slots := 0, locals := 80 * (0) } s m args below meth c G b 2 (MQ below (zQ G b FQ) args s 0 0 (fun q : Nat => b ≤ q)) 0 0 12 [some (.ref (P)), some (.int x1_12)] [] (L, M_12, N) := by
    intro u
    induction u with
    | zero => intro x1_12 M_12 h; cases (show none = some r from h)
    | succ u_12 ih_12 =>
      intro x1_12 M_12 h
      rw [D_X8_keeps_12] at h
      refine a_iload_n X dX8_keeps_12 rfl ?_
      refine a_sipush (v := 656) X dX8_keeps_13 (by decide) ?_
      refine a_icmp_ge (tgt := 40) X dX8_keeps_16 (by decide) (fun h_16 => ?_) (fun h_16 => ?_)
      · replace h := (if_pos h_16).symm.trans h
        refine a_aload_n X dX8_keeps_40 rfl ?_
        refine a_dup X dX8_keeps_41 rfl ?_
        refine a_geti X lf8_269 (by first | exact p_o | assumption) rfl dX8_keeps_42 ?_
        refine a_iconst (v := 1) X dX8_keeps_45 (by decide) ?_
        refine a_isub X dX8_keeps_46 ?_
        obtain ⟨M_47, f_47, h⟩ := zLtx h
        refine d_puti X lf8_269 (by first | exact p_o | assumption) rfl dX8_keeps_47 f_47 ?_
        exact Zw.to2 (J_50 _ _ h) rfl rfl rfl
      · replace h := (if_neg h_16).symm.trans h
        refine a_aload_n X dX8_keeps_19 rfl ?_
        refine a_getr X lf8_19 (by first | exact p_o | assumption) rfl (by omega) dX8_keeps_20 ?_
        refine a_iload_n X dX8_keeps_23 rfl ?_
        refine a_bipush (v := 82) X dX8_keeps_24 (by decide) ?_
        refine a_isub X dX8_keeps_26 ?_
        refine a_aload_n X dX8_keeps_27 rfl ?_
        refine a_getr X lf8_19 (by first | exact p_o | assumption) rfl (by omega) dX8_keeps_28 ?_
        refine a_iload_n X dX8_keeps_31 rfl ?_
        obtain ⟨g_32, h⟩ := zIx h
        refine a_iaload X (by first | exact p_kept | assumption) g_32 dX8_keeps_32 ?_
        obtain ⟨g_33, h⟩ := zIx h
        obtain ⟨M_33, f_33, h⟩ := zLtx h
        refine d_iastore X (by first | exact p_kept | assumption) g_33 dX8_keeps_33 f_33 ?_
        refine a_iinc (v := x1_12 + 1) X dX8_keeps_34 (by decide) rfl zi_1 ?_
        refine a_goto (tgt := 12) X dX8_keeps_37 (by decide) ?_
        exact Zw.to2 (ih_12 _ _ h) rfl rfl rfl
  have H_12 : ∀ (x1_12 : Int32) (M_12 : zMt), D_X8_keeps_12 P zFu x1_12 M_12 = some r → Zw p l e { frames := 0, cells := 0, slots := 0, locals := 80 * (0) } s m args below meth c G b 2 (MQ below (zQ G b FQ) args s 0 0 (fun q : Nat => b ≤ q)) 0 0 12 [some (.ref (P)), some (.int x1_12)] [] (L, M_12, N) := L_12 zFu
  unfold D_X8_keeps at h
  refine a_aload_n X dX8_keeps_0 rfl ?_
  refine a_geti X lf8_269 (by first | exact p_o | assumption) rfl dX8_keeps_1 ?_
  refine a_bipush (v := 8) X dX8_keeps_4 (by decide) ?_
  refine a_icmp_ne (tgt := 50) X dX8_keeps_6 (by decide) (fun h_6 => ?_) (fun h_6 => ?_)
  · replace h := (if_neg h_6).symm.trans h
    exact Zw.to2 (J_50 _ _ h) rfl rfl rfl
  · replace h := (if_pos h_6).symm.trans h
    refine a_bipush (v := 82) X dX8_keeps_9 (by decide) ?_
    refine a_istore_n X dX8_keeps_11 (by decide) ?_
    exact Zw.to2 (H_12 _ _ h) rfl rfl rfl
noncomputable def D_X8_undo_25 (P : Nat) : Nat → Int32 → zMt → Option (Int32 × zMt)
  | 0, _, _ => none
  | n + 1, x1_25, M_25 =>
    if (82 : Int32) ≤ x1_25 then
      zB (D_X8_gives P (M_25 P 9) M_25) fun e_62 =>
      some (e_62.1, e_62.2)
    else
      zI (((82 : Int32) * (M_25 P 9)) + x1_25) 656 <|
      zI x1_25 82 <|
      zLt (zu M_25 (P + 1) x1_25.toNatClampNeg (M_25 (P + 4) (((82 : Int32) * (M_25 P 9)) + x1_25).toNatClampNeg)) fun M_50 =>
      (D_X8_undo_25 P n) (x1_25 + 1) M_50
noncomputable def D_X8_undo (P : Nat) (M : zMt) : Option (Int32 × zMt) :=
  if (M P 9) = 0 then
    zB (D_X8_refuse P (5 : Int32) M) fun e_9 =>
    some (e_9.1, e_9.2)
  else
    zLt (zu M P 9 ((M P 9) - (1 : Int32))) fun M_20 =>
    D_X8_undo_25 P zFu (0 : Int32) M_20
set_option maxRecDepth 100000 in
set_option maxHeartbeats 4000000 in
theorem t_X8_undo {l : Launch} {G : zG} {b : Nat} {L : List zC} {M : zMt} {N : zNt} {P : Nat}  (hP : LX8 L P) {r : Int32 × zMt} (h : D_X8_undo P M = some r) : zM l G b yX8_undo cX8_undo 2 (some .int) 1 0 0 [.ref P] (L, M, N) (fun r2 z => r2 = some (.int r.1) ∧ z = (L, r.2, N)) := by
  refine zM.of miX8_undo (Nat.le_of_ble_eq_true rfl) ?_
  intro p e s m args below meth c X hr hname
  generalize hF : ((fun r2 z => r2 = some (.int r.1) ∧ z = (L, r.2, N)) : Option Value → zS → Prop) = FQ
  change Zw p l e { frames := 1, cells := 0, slots := 0, locals := 80 * (1) } s m args below meth c G b 2 (MQ below (zQ G b FQ) args s 0 0 (fun q : Nat => b ≤ q)) 0 0 0 [some (.ref P), none] [] (L, M, N)
  have p_lt := hP.1
  have p_o := hP.2.1
  have p_s := hP.2.2.1
  have p_kept := hP.2.2.2.2.2.1
  have L_25 : ∀ u : Nat, ∀ (x1_25 : Int32) (M_25 : zMt), D_X8_undo_25 P u x1_25 M_25 = some r → Zw p l e { frames := 1, cells := 0, slots := 0, locals := 80 * (1) } s m args below meth c G b 2 (MQ below (zQ G b FQ) args s 0 0 (fun q : Nat => b ≤ q)) 0 0 25 [some (.ref (P)), some (.int x1_25)] [] (L, M_25, N) := by
    intro u
    induction u with
    | zero => intro x1_25 M_25 h; cases (show none = some r from h)
    | succ u_25 ih_25 =>
      intro x1_25 M_25 h
      rw [D_X8_undo_25] at h
      refine a_iload_n X dX8_undo_25 rfl ?_
      refine a_bipush (v := 82) X dX8_undo_26 (by decide) ?_
      refine a_icmp_ge (tgt := 57) X dX8_undo_28 (by decide) (fun h_28 => ?_) (fun h_28 => ?_)
      · replace h := (if_pos h_28).symm.trans h
        refine a_aload_n X dX8_undo_57 rfl ?_
        refine a_aload_n X dX8_undo_58 rfl ?_
        refine a_geti X lf8_269 (by first | exact p_o | assumption) rfl dX8_undo_59 ?_
        obtain ⟨e_62, f_62, h⟩ := zBx h
        refine a_callVv X dX8_undo_62 miX8_gives lm8_272 (t_X8_gives (by first | exact hP | assumption) f_62) (by first | exact p_o | assumption) rfl rfl rfl (Nat.le_of_ble_eq_true rfl) ⟨by decide, by decide, by decide, by decide⟩ ?_
        refine a_iret X hr dX8_undo_65 ⟨by decide, by decide⟩ ?_
        subst hF
        rw [← Option.some.inj h]
        exact ⟨rfl, rfl⟩
      · replace h := (if_neg h_28).symm.trans h
        refine a_aload_n X dX8_undo_31 rfl ?_
        refine a_getr X lf8_7 (by first | exact p_o | assumption) rfl (by omega) dX8_undo_32 ?_
        refine a_iload_n X dX8_undo_35 rfl ?_
        refine a_aload_n X dX8_undo_36 rfl ?_
        refine a_getr X lf8_19 (by first | exact p_o | assumption) rfl (by omega) dX8_undo_37 ?_
        refine a_bipush (v := 82) X dX8_undo_40 (by decide) ?_
        refine a_aload_n X dX8_undo_42 rfl ?_
        refine a_geti X lf8_269 (by first | exact p_o | assumption) rfl dX8_undo_43 ?_
        refine a_imul X dX8_undo_46 ?_
        refine a_iload_n X dX8_undo_47 rfl ?_
        refine a_iadd X dX8_undo_48 ?_
        obtain ⟨g_49, h⟩ := zIx h
        refine a_iaload X (by first | exact p_kept | assumption) g_49 dX8_undo_49 ?_
        obtain ⟨g_50, h⟩ := zIx h
        obtain ⟨M_50, f_50, h⟩ := zLtx h
        refine d_iastore X (by first | exact p_s | assumption) g_50 dX8_undo_50 f_50 ?_
        refine a_iinc (v := x1_25 + 1) X dX8_undo_51 (by decide) rfl zi_1 ?_
        refine a_goto (tgt := 25) X dX8_undo_54 (by decide) ?_
        exact Zw.to2 (ih_25 _ _ h) rfl rfl rfl
  have H_25 : ∀ (x1_25 : Int32) (M_25 : zMt), D_X8_undo_25 P zFu x1_25 M_25 = some r → Zw p l e { frames := 1, cells := 0, slots := 0, locals := 80 * (1) } s m args below meth c G b 2 (MQ below (zQ G b FQ) args s 0 0 (fun q : Nat => b ≤ q)) 0 0 25 [some (.ref (P)), some (.int x1_25)] [] (L, M_25, N) := L_25 zFu
  unfold D_X8_undo at h
  refine a_aload_n X dX8_undo_0 rfl ?_
  refine a_geti X lf8_269 (by first | exact p_o | assumption) rfl dX8_undo_1 ?_
  refine a_if_ne (tgt := 13) X dX8_undo_4 (by decide) (fun h_4 => ?_) (fun h_4 => ?_)
  · replace h := (if_neg h_4).symm.trans h
    refine a_aload_n X dX8_undo_13 rfl ?_
    refine a_dup X dX8_undo_14 rfl ?_
    refine a_geti X lf8_269 (by first | exact p_o | assumption) rfl dX8_undo_15 ?_
    refine a_iconst (v := 1) X dX8_undo_18 (by decide) ?_
    refine a_isub X dX8_undo_19 ?_
    obtain ⟨M_20, f_20, h⟩ := zLtx h
    refine d_puti X lf8_269 (by first | exact p_o | assumption) rfl dX8_undo_20 f_20 ?_
    refine a_iconst (v := 0) X dX8_undo_23 (by decide) ?_
    refine a_istore_n X dX8_undo_24 (by decide) ?_
    exact Zw.to2 (H_25 _ _ h) rfl rfl rfl
  · replace h := (if_pos h_4).symm.trans h
    refine a_aload_n X dX8_undo_7 rfl ?_
    refine a_iconst (v := 5) X dX8_undo_8 (by decide) ?_
    obtain ⟨e_9, f_9, h⟩ := zBx h
    refine a_callVv X dX8_undo_9 miX8_refuse lm8_263 (t_X8_refuse (by first | exact hP | assumption) f_9) (by first | exact p_o | assumption) rfl rfl rfl (Nat.le_of_ble_eq_true rfl) ⟨by decide, by decide, by decide, by decide⟩ ?_
    refine a_iret X hr dX8_undo_12 ⟨by decide, by decide⟩ ?_
    subst hF
    rw [← Option.some.inj h]
    exact ⟨rfl, rfl⟩
noncomputable def D_X8_draw_24 (P : Nat) : Nat → Int32 → zMt → zNt → Option (Int32 × zMt × zNt)
  | 0, _, _, _ => none
  | n + 1, x2_24, M_24, N_24 =>
    if (M_24 P 8) ≤ x2_24 then
      zI (71 : Int32) 82 <|
      zI (71 : Int32) 82 <|
      zLt (zu M_24 (P + 1) (71 : Int32).toNatClampNeg ((M_24 (P + 1) (71 : Int32).toNatClampNeg) + (1 : Int32))) fun M_62 =>
      zB (D_X8_givenTags P M_62) fun e_65 =>
      zB (D_X8_gives P e_65 M_62) fun e_68 =>
      some (e_68.1, e_68.2, N_24)
    else
      zB (D_X8_unitNow P M_24 x2_24) fun e_42 =>
      zI ((72 : Int32) + x2_24) 82 <|
      zLt (zu M_24 (P + 1) ((72 : Int32) + x2_24).toNatClampNeg e_42) fun M_45 =>
      (D_X8_draw_24 P n) (x2_24 + 1) M_45 N_24
noncomputable def D_X8_draw (P : Nat) (v0 : Int32) (M : zMt) (N : zNt) : Option (Int32 × zMt × zNt) :=
  zB (D_X8_isSeed v0) fun e_1 =>
  if e_1 = 0 then
    zB (D_X8_refuse P (1 : Int32) M) fun e_9 =>
    some (e_9.1, e_9.2, N)
  else
    zB (D_X8_keeps P M) fun e_14 =>
    zB (D_X8_goesYear P v0 e_14 N) fun e_19 =>
    D_X8_draw_24 P zFu (0 : Int32) e_19.1 e_19.2
set_option maxRecDepth 100000 in
set_option maxHeartbeats 4000000 in
theorem t_X8_draw {l : Launch} {G : zG} {b : Nat} {L : List zC} {M : zMt} {N : zNt} {P : Nat} {v0 : Int32} (hP : LX8 L P) {r : Int32 × zMt × zNt} (h : D_X8_draw P v0 M N = some r) : zM l G b yX8_draw cX8_draw 3 (some .int) 6 0 0 [.ref P, .int v0] (L, M, N) (fun r2 z => r2 = some (.int r.1) ∧ z = (L, r.2.1, r.2.2)) := by
  refine zM.of miX8_draw (Nat.le_of_ble_eq_true rfl) ?_
  intro p e s m args below meth c X hr hname
  generalize hF : ((fun r2 z => r2 = some (.int r.1) ∧ z = (L, r.2.1, r.2.2)) : Option Value → zS → Prop) = FQ
  change Zw p l e { frames := 6, cells := 0, slots := 0, locals := 80 * (6) } s m args below meth c G b 3 (MQ below (zQ G b FQ) args s 0 0 (fun q : Nat => b ≤ q)) 0 0 0 [some (.ref P), some (.int v0), none] [] (L, M, N)
  have p_lt := hP.1
  have p_o := hP.2.1
  have p_s := hP.2.2.1
  have L_24 : ∀ u : Nat, ∀ (x1_24 : Int32) (x2_24 : Int32) (M_24 : zMt) (N_24 : zNt), D_X8_draw_24 P u x2_24 M_24 N_24 = some r → Zw p l e { frames := 6, cells := 0, slots := 0, locals := 80 * (6) } s m args below meth c G b 3 (MQ below (zQ G b FQ) args s 0 0 (fun q : Nat => b ≤ q)) 0 0 24 [some (.ref (P)), some (.int x1_24), some (.int x2_24)] [] (L, M_24, N_24) := by
    intro u
    induction u with
    | zero => intro x1_24 x2_24 M_24 N_24 h; cases (show none = some r from h)
    | succ u_24 ih_24 =>
      intro x1_24 x2_24 M_24 N_24 h
      rw [D_X8_draw_24] at h
      refine a_iload_n X dX8_draw_24 rfl ?_
      refine a_aload_n X dX8_draw_25 rfl ?_
      refine a_geti X lf8_132 (by first | exact p_o | assumption) rfl dX8_draw_26 ?_
      refine a_icmp_ge (tgt := 52) X dX8_draw_29 (by decide) (fun h_29 => ?_) (fun h_29 => ?_)
      · replace h := (if_pos h_29).symm.trans h
        refine a_aload_n X dX8_draw_52 rfl ?_
        refine a_getr X lf8_7 (by first | exact p_o | assumption) rfl (by omega) dX8_draw_53 ?_
        refine a_bipush (v := 71) X dX8_draw_56 (by decide) ?_
        refine a_dup2 X dX8_draw_58 rfl rfl ?_
        obtain ⟨g_59, h⟩ := zIx h
        refine a_iaload X (by first | exact p_s | assumption) g_59 dX8_draw_59 ?_
        refine a_iconst (v := 1) X dX8_draw_60 (by decide) ?_
        refine a_iadd X dX8_draw_61 ?_
        obtain ⟨g_62, h⟩ := zIx h
        obtain ⟨M_62, f_62, h⟩ := zLtx h
        refine d_iastore X (by first | exact p_s | assumption) g_62 dX8_draw_62 f_62 ?_
        refine a_aload_n X dX8_draw_63 rfl ?_
        refine a_aload_n X dX8_draw_64 rfl ?_
        obtain ⟨e_65, f_65, h⟩ := zBx h
        refine a_callVv X dX8_draw_65 miX8_givenTags lm8_421 (t_X8_givenTags (by first | exact hP | assumption) f_65) (by first | exact p_o | assumption) rfl rfl rfl (Nat.le_of_ble_eq_true rfl) ⟨by decide, by decide, by decide, by decide⟩ ?_
        obtain ⟨e_68, f_68, h⟩ := zBx h
        refine a_callVv X dX8_draw_68 miX8_gives lm8_272 (t_X8_gives (by first | exact hP | assumption) f_68) (by first | exact p_o | assumption) rfl rfl rfl (Nat.le_of_ble_eq_true rfl) ⟨by decide, by decide, by decide, by decide⟩ ?_
        refine a_iret X hr dX8_draw_71 ⟨by decide, by decide⟩ ?_
        subst hF
        rw [← Option.some.inj h]
        exact ⟨rfl, rfl⟩
      · replace h := (if_neg h_29).symm.trans h
        refine a_aload_n X dX8_draw_32 rfl ?_
        refine a_getr X lf8_7 (by first | exact p_o | assumption) rfl (by omega) dX8_draw_33 ?_
        refine a_bipush (v := 72) X dX8_draw_36 (by decide) ?_
        refine a_iload_n X dX8_draw_38 rfl ?_
        refine a_iadd X dX8_draw_39 ?_
        refine a_aload_n X dX8_draw_40 rfl ?_
        refine a_iload_n X dX8_draw_41 rfl ?_
        obtain ⟨e_42, f_42, h⟩ := zBx h
        refine a_callVv X dX8_draw_42 miX8_unitNow lm8_477 (t_X8_unitNow (by first | exact hP | assumption) f_42) (by first | exact p_o | assumption) rfl rfl rfl (Nat.le_of_ble_eq_true rfl) ⟨by decide, by decide, by decide, by decide⟩ ?_
        obtain ⟨g_45, h⟩ := zIx h
        obtain ⟨M_45, f_45, h⟩ := zLtx h
        refine d_iastore X (by first | exact p_s | assumption) g_45 dX8_draw_45 f_45 ?_
        refine a_iinc (v := x2_24 + 1) X dX8_draw_46 (by decide) rfl zi_1 ?_
        refine a_goto (tgt := 24) X dX8_draw_49 (by decide) ?_
        exact Zw.to2 (ih_24 _ _ _ _ h) rfl rfl rfl
  have H_24 : ∀ (x1_24 : Int32) (x2_24 : Int32) (M_24 : zMt) (N_24 : zNt), D_X8_draw_24 P zFu x2_24 M_24 N_24 = some r → Zw p l e { frames := 6, cells := 0, slots := 0, locals := 80 * (6) } s m args below meth c G b 3 (MQ below (zQ G b FQ) args s 0 0 (fun q : Nat => b ≤ q)) 0 0 24 [some (.ref (P)), some (.int x1_24), some (.int x2_24)] [] (L, M_24, N_24) := L_24 zFu
  unfold D_X8_draw at h
  refine a_iload_n X dX8_draw_0 rfl ?_
  obtain ⟨e_1, f_1, h⟩ := zBx h
  refine a_callSx X dX8_draw_1 miX8_isSeed lm8_358 (t_X8_isSeed f_1) rfl rfl (Nat.le_of_ble_eq_true rfl) ⟨by decide, by decide, by decide, by decide⟩ (fun r_1 S_1 q_1 => ?_)
  obtain ⟨rfl, rfl, b_1⟩ := q_1
  refine a_if_ne (tgt := 13) X dX8_draw_4 (by decide) (fun h_4 => ?_) (fun h_4 => ?_)
  · replace h := (if_neg h_4).symm.trans h
    refine a_aload_n X dX8_draw_13 rfl ?_
    obtain ⟨e_14, f_14, h⟩ := zBx h
    refine a_callVu X dX8_draw_14 miX8_keeps lm8_480 (t_X8_keeps (by first | exact hP | assumption) f_14) (by first | exact p_o | assumption) rfl rfl rfl (Nat.le_of_ble_eq_true rfl) ⟨by decide, by decide, by decide, by decide⟩ ?_
    refine a_aload_n X dX8_draw_17 rfl ?_
    refine a_iload_n X dX8_draw_18 rfl ?_
    obtain ⟨e_19, f_19, h⟩ := zBx h
    refine a_callVu X dX8_draw_19 miX8_goesYear lm8_474 (t_X8_goesYear (by first | exact hP | assumption) f_19) (by first | exact p_o | assumption) rfl rfl rfl (Nat.le_of_ble_eq_true rfl) ⟨by decide, by decide, by decide, by decide⟩ ?_
    refine a_iconst (v := 0) X dX8_draw_22 (by decide) ?_
    refine a_istore_n X dX8_draw_23 (by decide) ?_
    exact Zw.to2 (H_24 _ _ _ _ h) rfl rfl rfl
  · replace h := (if_pos h_4).symm.trans h
    refine a_aload_n X dX8_draw_7 rfl ?_
    refine a_iconst (v := 1) X dX8_draw_8 (by decide) ?_
    obtain ⟨e_9, f_9, h⟩ := zBx h
    refine a_callVv X dX8_draw_9 miX8_refuse lm8_263 (t_X8_refuse (by first | exact hP | assumption) f_9) (by first | exact p_o | assumption) rfl rfl rfl (Nat.le_of_ble_eq_true rfl) ⟨by decide, by decide, by decide, by decide⟩ ?_
    refine a_iret X hr dX8_draw_12 ⟨by decide, by decide⟩ ?_
    subst hF
    rw [← Option.some.inj h]
    exact ⟨rfl, rfl⟩
noncomputable def D_X8_becomes (P : Nat) (v0 : Int32) (v1 : Int32) (M : zMt) : Option (Int32 × zMt) :=
  zI v0 82 <|
  if (M (P + 1) v0.toNatClampNeg) = v1 then
    zB (D_X8_refuse P (4 : Int32) M) fun e_12 =>
    some (e_12.1, e_12.2)
  else
    zB (D_X8_keeps P M) fun e_17 =>
    zI v0 82 <|
    zI v0 82 <|
    zLt (zu e_17 (P + 1) v0.toNatClampNeg v1) fun M_33 =>
    zB (D_X8_gives P (e_17 (P + 1) v0.toNatClampNeg) M_33) fun e_36 =>
    some (e_36.1, e_36.2)
set_option maxRecDepth 100000 in
set_option maxHeartbeats 4000000 in
theorem t_X8_becomes {l : Launch} {G : zG} {b : Nat} {L : List zC} {M : zMt} {N : zNt} {P : Nat} {v0 : Int32} {v1 : Int32} (hP : LX8 L P) {r : Int32 × zMt} (h : D_X8_becomes P v0 v1 M = some r) : zM l G b yX8_becomes cX8_becomes 4 (some .int) 1 0 0 [.ref P, .int v0, .int v1] (L, M, N) (fun r2 z => r2 = some (.int r.1) ∧ z = (L, r.2, N)) := by
  refine zM.of miX8_becomes (Nat.le_of_ble_eq_true rfl) ?_
  intro p e s m args below meth c X hr hname
  generalize hF : ((fun r2 z => r2 = some (.int r.1) ∧ z = (L, r.2, N)) : Option Value → zS → Prop) = FQ
  change Zw p l e { frames := 1, cells := 0, slots := 0, locals := 80 * (1) } s m args below meth c G b 4 (MQ below (zQ G b FQ) args s 0 0 (fun q : Nat => b ≤ q)) 0 0 0 [some (.ref P), some (.int v0), some (.int v1), none] [] (L, M, N)
  have p_lt := hP.1
  have p_o := hP.2.1
  have p_s := hP.2.2.1
  unfold D_X8_becomes at h
  refine a_aload_n X dX8_becomes_0 rfl ?_
  refine a_getr X lf8_7 (by first | exact p_o | assumption) rfl (by omega) dX8_becomes_1 ?_
  refine a_iload_n X dX8_becomes_4 rfl ?_
  obtain ⟨g_5, h⟩ := zIx h
  refine a_iaload X (by first | exact p_s | assumption) g_5 dX8_becomes_5 ?_
  refine a_iload_n X dX8_becomes_6 rfl ?_
  refine a_icmp_ne (tgt := 16) X dX8_becomes_7 (by decide) (fun h_7 => ?_) (fun h_7 => ?_)
  · replace h := (if_neg h_7).symm.trans h
    refine a_aload_n X dX8_becomes_16 rfl ?_
    obtain ⟨e_17, f_17, h⟩ := zBx h
    refine a_callVu X dX8_becomes_17 miX8_keeps lm8_480 (t_X8_keeps (by first | exact hP | assumption) f_17) (by first | exact p_o | assumption) rfl rfl rfl (Nat.le_of_ble_eq_true rfl) ⟨by decide, by decide, by decide, by decide⟩ ?_
    refine a_aload_n X dX8_becomes_20 rfl ?_
    refine a_getr X lf8_7 (by first | exact p_o | assumption) rfl (by omega) dX8_becomes_21 ?_
    refine a_iload_n X dX8_becomes_24 rfl ?_
    obtain ⟨g_25, h⟩ := zIx h
    refine a_iaload X (by first | exact p_s | assumption) g_25 dX8_becomes_25 ?_
    refine a_istore_n X dX8_becomes_26 (by decide) ?_
    refine a_aload_n X dX8_becomes_27 rfl ?_
    refine a_getr X lf8_7 (by first | exact p_o | assumption) rfl (by omega) dX8_becomes_28 ?_
    refine a_iload_n X dX8_becomes_31 rfl ?_
    refine a_iload_n X dX8_becomes_32 rfl ?_
    obtain ⟨g_33, h⟩ := zIx h
    obtain ⟨M_33, f_33, h⟩ := zLtx h
    refine d_iastore X (by first | exact p_s | assumption) g_33 dX8_becomes_33 f_33 ?_
    refine a_aload_n X dX8_becomes_34 rfl ?_
    refine a_iload_n X dX8_becomes_35 rfl ?_
    obtain ⟨e_36, f_36, h⟩ := zBx h
    refine a_callVv X dX8_becomes_36 miX8_gives lm8_272 (t_X8_gives (by first | exact hP | assumption) f_36) (by first | exact p_o | assumption) rfl rfl rfl (Nat.le_of_ble_eq_true rfl) ⟨by decide, by decide, by decide, by decide⟩ ?_
    refine a_iret X hr dX8_becomes_39 ⟨by decide, by decide⟩ ?_
    subst hF
    rw [← Option.some.inj h]
    exact ⟨rfl, rfl⟩
  · replace h := (if_pos h_7).symm.trans h
    refine a_aload_n X dX8_becomes_10 rfl ?_
    refine a_iconst (v := 4) X dX8_becomes_11 (by decide) ?_
    obtain ⟨e_12, f_12, h⟩ := zBx h
    refine a_callVv X dX8_becomes_12 miX8_refuse lm8_263 (t_X8_refuse (by first | exact hP | assumption) f_12) (by first | exact p_o | assumption) rfl rfl rfl (Nat.le_of_ble_eq_true rfl) ⟨by decide, by decide, by decide, by decide⟩ ?_
    refine a_iret X hr dX8_becomes_15 ⟨by decide, by decide⟩ ?_
    subst hF
    rw [← Option.some.inj h]
    exact ⟨rfl, rfl⟩
noncomputable def D_X8_points_42 (P : Nat) (y0_42 : Int32) (M_42 : zMt) : Option (Int32 × zMt) :=
  some (y0_42, M_42)
noncomputable def D_X8_points (P : Nat) (v0 : Int32) (v1 : Int32) (M : zMt) : Option (Int32 × zMt) :=
  zB (D_X8_isFrom (Int32.toInt64 v1) (0 : Int64) (20 : Int64)) fun e_6 =>
  if e_6 = 0 then
    zB (D_X8_refuse P (1 : Int32) M) fun e_14 =>
    some (e_14.1, e_14.2)
  else
    zB (D_X8_isHunter P M v0) fun e_20 =>
    if e_20 = 0 then
      zB (D_X8_refuse P (2 : Int32) M) fun e_39 =>
      D_X8_points_42 P e_39.1 e_39.2
    else
      zB (D_X8_becomes P ((0 : Int32) + v0) v1 M) fun e_31 =>
      D_X8_points_42 P e_31.1 e_31.2
set_option maxRecDepth 100000 in
set_option maxHeartbeats 4000000 in
theorem t_X8_points {l : Launch} {G : zG} {b : Nat} {L : List zC} {M : zMt} {N : zNt} {P : Nat} {v0 : Int32} {v1 : Int32} (hP : LX8 L P) {r : Int32 × zMt} (h : D_X8_points P v0 v1 M = some r) : zM l G b yX8_points cX8_points 3 (some .int) 2 0 0 [.ref P, .int v0, .int v1] (L, M, N) (fun r2 z => r2 = some (.int r.1) ∧ z = (L, r.2, N)) := by
  refine zM.of miX8_points (Nat.le_of_ble_eq_true rfl) ?_
  intro p e s m args below meth c X hr hname
  generalize hF : ((fun r2 z => r2 = some (.int r.1) ∧ z = (L, r.2, N)) : Option Value → zS → Prop) = FQ
  change Zw p l e { frames := 2, cells := 0, slots := 0, locals := 80 * (2) } s m args below meth c G b 3 (MQ below (zQ G b FQ) args s 0 0 (fun q : Nat => b ≤ q)) 0 0 0 [some (.ref P), some (.int v0), some (.int v1)] [] (L, M, N)
  have p_lt := hP.1
  have p_o := hP.2.1
  have J_42 : ∀ (x1_42 : Int32) (x2_42 : Int32) (y0_42 : Int32) (M_42 : zMt), D_X8_points_42 P y0_42 M_42 = some r → Zw p l e { frames := 2, cells := 0, slots := 0, locals := 80 * (2) } s m args below meth c G b 3 (MQ below (zQ G b FQ) args s 0 0 (fun q : Nat => b ≤ q)) 0 0 42 [some (.ref (P)), some (.int x1_42), some (.int x2_42)] [.int y0_42] (L, M_42, N) := by
    intro x1_42 x2_42 y0_42 M_42 h
    unfold D_X8_points_42 at h
    refine a_iret X hr dX8_points_42 ⟨by decide, by decide⟩ ?_
    subst hF
    rw [← Option.some.inj h]
    exact ⟨rfl, rfl⟩
  unfold D_X8_points at h
  refine a_iload_n X dX8_points_0 rfl ?_
  refine a_i2l X dX8_points_1 ?_
  refine a_lconst (v := 0) X dX8_points_2 (by decide) ?_
  refine a_ldc2 X dX8_points_3 lk8_377 ?_
  obtain ⟨e_6, f_6, h⟩ := zBx h
  refine a_callSx X dX8_points_6 miX8_isFrom lm8_128 (t_X8_isFrom f_6) rfl rfl (Nat.le_of_ble_eq_true rfl) ⟨by decide, by decide, by decide, by decide⟩ (fun r_6 S_6 q_6 => ?_)
  obtain ⟨rfl, rfl, b_6⟩ := q_6
  refine a_if_ne (tgt := 18) X dX8_points_9 (by decide) (fun h_9 => ?_) (fun h_9 => ?_)
  · replace h := (if_neg h_9).symm.trans h
    refine a_aload_n X dX8_points_18 rfl ?_
    refine a_iload_n X dX8_points_19 rfl ?_
    obtain ⟨e_20, f_20, h⟩ := zBx h
    refine a_callVx X dX8_points_20 miX8_isHunter lm8_293 (t_X8_isHunter (by first | exact hP | assumption) f_20) (by first | exact p_o | assumption) rfl rfl rfl (Nat.le_of_ble_eq_true rfl) ⟨by decide, by decide, by decide, by decide⟩ (fun r_20 S_20 q_20 => ?_)
    obtain ⟨rfl, rfl, b_20⟩ := q_20
    refine a_if_eq (tgt := 37) X dX8_points_23 (by decide) (fun h_23 => ?_) (fun h_23 => ?_)
    · replace h := (if_pos h_23).symm.trans h
      refine a_aload_n X dX8_points_37 rfl ?_
      refine a_iconst (v := 2) X dX8_points_38 (by decide) ?_
      obtain ⟨e_39, f_39, h⟩ := zBx h
      refine a_callVv X dX8_points_39 miX8_refuse lm8_263 (t_X8_refuse (by first | exact hP | assumption) f_39) (by first | exact p_o | assumption) rfl rfl rfl (Nat.le_of_ble_eq_true rfl) ⟨by decide, by decide, by decide, by decide⟩ ?_
      exact Zw.to2 (J_42 _ _ _ _ h) rfl rfl rfl
    · replace h := (if_neg h_23).symm.trans h
      refine a_aload_n X dX8_points_26 rfl ?_
      refine a_iconst (v := 0) X dX8_points_27 (by decide) ?_
      refine a_iload_n X dX8_points_28 rfl ?_
      refine a_iadd X dX8_points_29 ?_
      refine a_iload_n X dX8_points_30 rfl ?_
      obtain ⟨e_31, f_31, h⟩ := zBx h
      refine a_callVv X dX8_points_31 miX8_becomes lm8_483 (t_X8_becomes (by first | exact hP | assumption) f_31) (by first | exact p_o | assumption) rfl rfl rfl (Nat.le_of_ble_eq_true rfl) ⟨by decide, by decide, by decide, by decide⟩ ?_
      refine a_goto (tgt := 42) X dX8_points_34 (by decide) ?_
      exact Zw.to2 (J_42 _ _ _ _ h) rfl rfl rfl
  · replace h := (if_pos h_9).symm.trans h
    refine a_aload_n X dX8_points_12 rfl ?_
    refine a_iconst (v := 1) X dX8_points_13 (by decide) ?_
    obtain ⟨e_14, f_14, h⟩ := zBx h
    refine a_callVv X dX8_points_14 miX8_refuse lm8_263 (t_X8_refuse (by first | exact hP | assumption) f_14) (by first | exact p_o | assumption) rfl rfl rfl (Nat.le_of_ble_eq_true rfl) ⟨by decide, by decide, by decide, by decide⟩ ?_
    refine a_iret X hr dX8_points_17 ⟨by decide, by decide⟩ ?_
    subst hF
    rw [← Option.some.inj h]
    exact ⟨rfl, rfl⟩
noncomputable def D_X8_quota_43 (P : Nat) (y0_43 : Int32) (M_43 : zMt) : Option (Int32 × zMt) :=
  some (y0_43, M_43)
noncomputable def D_X8_quota (P : Nat) (v0 : Int32) (v1 : Int32) (M : zMt) : Option (Int32 × zMt) :=
  zB (D_X8_isFrom (Int32.toInt64 v1) (0 : Int64) (20 : Int64)) fun e_6 =>
  if e_6 = 0 then
    zB (D_X8_refuse P (1 : Int32) M) fun e_14 =>
    some (e_14.1, e_14.2)
  else
    zB (D_X8_isUnit P M v0) fun e_20 =>
    if e_20 = 0 then
      zB (D_X8_refuse P (2 : Int32) M) fun e_40 =>
      D_X8_quota_43 P e_40.1 e_40.2
    else
      zB (D_X8_becomes P ((62 : Int32) + v0) v1 M) fun e_32 =>
      D_X8_quota_43 P e_32.1 e_32.2
set_option maxRecDepth 100000 in
set_option maxHeartbeats 4000000 in
theorem t_X8_quota {l : Launch} {G : zG} {b : Nat} {L : List zC} {M : zMt} {N : zNt} {P : Nat} {v0 : Int32} {v1 : Int32} (hP : LX8 L P) {r : Int32 × zMt} (h : D_X8_quota P v0 v1 M = some r) : zM l G b yX8_quota cX8_quota 3 (some .int) 2 0 0 [.ref P, .int v0, .int v1] (L, M, N) (fun r2 z => r2 = some (.int r.1) ∧ z = (L, r.2, N)) := by
  refine zM.of miX8_quota (Nat.le_of_ble_eq_true rfl) ?_
  intro p e s m args below meth c X hr hname
  generalize hF : ((fun r2 z => r2 = some (.int r.1) ∧ z = (L, r.2, N)) : Option Value → zS → Prop) = FQ
  change Zw p l e { frames := 2, cells := 0, slots := 0, locals := 80 * (2) } s m args below meth c G b 3 (MQ below (zQ G b FQ) args s 0 0 (fun q : Nat => b ≤ q)) 0 0 0 [some (.ref P), some (.int v0), some (.int v1)] [] (L, M, N)
  have p_lt := hP.1
  have p_o := hP.2.1
  have J_43 : ∀ (x1_43 : Int32) (x2_43 : Int32) (y0_43 : Int32) (M_43 : zMt), D_X8_quota_43 P y0_43 M_43 = some r → Zw p l e { frames := 2, cells := 0, slots := 0, locals := 80 * (2) } s m args below meth c G b 3 (MQ below (zQ G b FQ) args s 0 0 (fun q : Nat => b ≤ q)) 0 0 43 [some (.ref (P)), some (.int x1_43), some (.int x2_43)] [.int y0_43] (L, M_43, N) := by
    intro x1_43 x2_43 y0_43 M_43 h
    unfold D_X8_quota_43 at h
    refine a_iret X hr dX8_quota_43 ⟨by decide, by decide⟩ ?_
    subst hF
    rw [← Option.some.inj h]
    exact ⟨rfl, rfl⟩
  unfold D_X8_quota at h
  refine a_iload_n X dX8_quota_0 rfl ?_
  refine a_i2l X dX8_quota_1 ?_
  refine a_lconst (v := 0) X dX8_quota_2 (by decide) ?_
  refine a_ldc2 X dX8_quota_3 lk8_377 ?_
  obtain ⟨e_6, f_6, h⟩ := zBx h
  refine a_callSx X dX8_quota_6 miX8_isFrom lm8_128 (t_X8_isFrom f_6) rfl rfl (Nat.le_of_ble_eq_true rfl) ⟨by decide, by decide, by decide, by decide⟩ (fun r_6 S_6 q_6 => ?_)
  obtain ⟨rfl, rfl, b_6⟩ := q_6
  refine a_if_ne (tgt := 18) X dX8_quota_9 (by decide) (fun h_9 => ?_) (fun h_9 => ?_)
  · replace h := (if_neg h_9).symm.trans h
    refine a_aload_n X dX8_quota_18 rfl ?_
    refine a_iload_n X dX8_quota_19 rfl ?_
    obtain ⟨e_20, f_20, h⟩ := zBx h
    refine a_callVx X dX8_quota_20 miX8_isUnit lm8_301 (t_X8_isUnit (by first | exact hP | assumption) f_20) (by first | exact p_o | assumption) rfl rfl rfl (Nat.le_of_ble_eq_true rfl) ⟨by decide, by decide, by decide, by decide⟩ (fun r_20 S_20 q_20 => ?_)
    obtain ⟨rfl, rfl, b_20⟩ := q_20
    refine a_if_eq (tgt := 38) X dX8_quota_23 (by decide) (fun h_23 => ?_) (fun h_23 => ?_)
    · replace h := (if_pos h_23).symm.trans h
      refine a_aload_n X dX8_quota_38 rfl ?_
      refine a_iconst (v := 2) X dX8_quota_39 (by decide) ?_
      obtain ⟨e_40, f_40, h⟩ := zBx h
      refine a_callVv X dX8_quota_40 miX8_refuse lm8_263 (t_X8_refuse (by first | exact hP | assumption) f_40) (by first | exact p_o | assumption) rfl rfl rfl (Nat.le_of_ble_eq_true rfl) ⟨by decide, by decide, by decide, by decide⟩ ?_
      exact Zw.to2 (J_43 _ _ _ _ h) rfl rfl rfl
    · replace h := (if_neg h_23).symm.trans h
      refine a_aload_n X dX8_quota_26 rfl ?_
      refine a_bipush (v := 62) X dX8_quota_27 (by decide) ?_
      refine a_iload_n X dX8_quota_29 rfl ?_
      refine a_iadd X dX8_quota_30 ?_
      refine a_iload_n X dX8_quota_31 rfl ?_
      obtain ⟨e_32, f_32, h⟩ := zBx h
      refine a_callVv X dX8_quota_32 miX8_becomes lm8_483 (t_X8_becomes (by first | exact hP | assumption) f_32) (by first | exact p_o | assumption) rfl rfl rfl (Nat.le_of_ble_eq_true rfl) ⟨by decide, by decide, by decide, by decide⟩ ?_
      refine a_goto (tgt := 43) X dX8_quota_35 (by decide) ?_
      exact Zw.to2 (J_43 _ _ _ _ h) rfl rfl rfl
  · replace h := (if_pos h_9).symm.trans h
    refine a_aload_n X dX8_quota_12 rfl ?_
    refine a_iconst (v := 1) X dX8_quota_13 (by decide) ?_
    obtain ⟨e_14, f_14, h⟩ := zBx h
    refine a_callVv X dX8_quota_14 miX8_refuse lm8_263 (t_X8_refuse (by first | exact hP | assumption) f_14) (by first | exact p_o | assumption) rfl rfl rfl (Nat.le_of_ble_eq_true rfl) ⟨by decide, by decide, by decide, by decide⟩ ?_
    refine a_iret X hr dX8_quota_17 ⟨by decide, by decide⟩ ?_
    subst hF
    rw [← Option.some.inj h]
    exact ⟨rfl, rfl⟩
noncomputable def D_X8_choose_185 (P : Nat) (x1_185 : Int32) (x2_185 : Int32) (x3_185 : Int32) (x4_185 : Int32) (x7_185 : Int32) (M_185 : zMt) : Option (Int32 × zMt) :=
  zB (D_X8_choiceMany P M_185 x1_185) fun e_187 =>
  zB (D_X8_keeps P M_185) fun e_193 =>
  zI x7_185 82 <|
  zLt (zu e_193 (P + 1) x7_185.toNatClampNeg x2_185) fun M_203 =>
  zI (x7_185 + (1 : Int32)) 82 <|
  zLt (zu M_203 (P + 1) (x7_185 + (1 : Int32)).toNatClampNeg x3_185) fun M_213 =>
  zI (x7_185 + (2 : Int32)) 82 <|
  zLt (zu M_213 (P + 1) (x7_185 + (2 : Int32)).toNatClampNeg x4_185) fun M_224 =>
  zB (D_X8_gives P e_187 M_224) fun e_228 =>
  some (e_228.1, e_228.2)
noncomputable def D_X8_choose_127 (P : Nat) (M_127 : zMt) : Option (Int32 × zMt) :=
  zB (D_X8_refuse P (2 : Int32) M_127) fun e_129 =>
  some (e_129.1, e_129.2)
noncomputable def D_X8_choose_88 (P : Nat) (M_88 : zMt) : Option (Int32 × zMt) :=
  zB (D_X8_refuse P (1 : Int32) M_88) fun e_90 =>
  some (e_90.1, e_90.2)
noncomputable def D_X8_choose_60 (P : Nat) (x1_60 : Int32) (x2_60 : Int32) (x3_60 : Int32) (x4_60 : Int32) (x5_60 : Int32) (y0_60 : Int32) (M_60 : zMt) : Option (Int32 × zMt) :=
  if x2_60 < (-1 : Int32) then
    D_X8_choose_88 P M_60
  else
    if x3_60 < (-1 : Int32) then
      D_X8_choose_88 P M_60
    else
      if x4_60 < (-1 : Int32) then
        D_X8_choose_88 P M_60
      else
        if x5_60 = 0 then
          if y0_60 = 0 then
            zB (D_X8_isApplicant P x1_60 M_60) fun e_96 =>
            if e_96.1 = 0 then
              D_X8_choose_127 P e_96.2
            else
              if (e_96.2 P 7) ≤ x2_60 then
                D_X8_choose_127 P e_96.2
              else
                if (e_96.2 P 7) ≤ x3_60 then
                  D_X8_choose_127 P e_96.2
                else
                  if x4_60 < (e_96.2 P 7) then
                    zI x1_60 10 <|
                    zI (e_96.2 (P + 13) x1_60.toNatClampNeg) 82 <|
                    if (e_96.2 (P + 1) (e_96.2 (P + 13) x1_60.toNatClampNeg).toNatClampNeg) = x2_60 then
                      zI ((e_96.2 (P + 13) x1_60.toNatClampNeg) + (1 : Int32)) 82 <|
                      if (e_96.2 (P + 1) ((e_96.2 (P + 13) x1_60.toNatClampNeg) + (1 : Int32)).toNatClampNeg) = x3_60 then
                        zI ((e_96.2 (P + 13) x1_60.toNatClampNeg) + (2 : Int32)) 82 <|
                        if (e_96.2 (P + 1) ((e_96.2 (P + 13) x1_60.toNatClampNeg) + (2 : Int32)).toNatClampNeg) = x4_60 then
                          zB (D_X8_refuse P (4 : Int32) e_96.2) fun e_181 =>
                          some (e_181.1, e_181.2)
                        else
                          D_X8_choose_185 P x1_60 x2_60 x3_60 x4_60 (e_96.2 (P + 13) x1_60.toNatClampNeg) e_96.2
                      else
                        D_X8_choose_185 P x1_60 x2_60 x3_60 x4_60 (e_96.2 (P + 13) x1_60.toNatClampNeg) e_96.2
                    else
                      D_X8_choose_185 P x1_60 x2_60 x3_60 x4_60 (e_96.2 (P + 13) x1_60.toNatClampNeg) e_96.2
                  else
                    D_X8_choose_127 P e_96.2
          else
            D_X8_choose_88 P M_60
        else
          D_X8_choose_88 P M_60
noncomputable def D_X8_choose_59 (P : Nat) (x1_59 : Int32) (x2_59 : Int32) (x3_59 : Int32) (x4_59 : Int32) (x5_59 : Int32) (M_59 : zMt) : Option (Int32 × zMt) :=
  D_X8_choose_60 P x1_59 x2_59 x3_59 x4_59 x5_59 (0 : Int32) M_59
noncomputable def D_X8_choose_55 (P : Nat) (x1_55 : Int32) (x2_55 : Int32) (x3_55 : Int32) (x4_55 : Int32) (x5_55 : Int32) (M_55 : zMt) : Option (Int32 × zMt) :=
  D_X8_choose_60 P x1_55 x2_55 x3_55 x4_55 x5_55 (1 : Int32) M_55
noncomputable def D_X8_choose_44 (P : Nat) (x1_44 : Int32) (x2_44 : Int32) (x3_44 : Int32) (x4_44 : Int32) (x5_44 : Int32) (M_44 : zMt) : Option (Int32 × zMt) :=
  if x3_44 = (-1 : Int32) then
    D_X8_choose_59 P x1_44 x2_44 x3_44 x4_44 x5_44 M_44
  else
    if x3_44 = x4_44 then
      D_X8_choose_55 P x1_44 x2_44 x3_44 x4_44 x5_44 M_44
    else
      D_X8_choose_59 P x1_44 x2_44 x3_44 x4_44 x5_44 M_44
noncomputable def D_X8_choose_26 (P : Nat) (x1_26 : Int32) (x2_26 : Int32) (x3_26 : Int32) (x4_26 : Int32) (y0_26 : Int32) (M_26 : zMt) : Option (Int32 × zMt) :=
  if x2_26 = (-1 : Int32) then
    D_X8_choose_44 P x1_26 x2_26 x3_26 x4_26 y0_26 M_26
  else
    if x2_26 = x3_26 then
      D_X8_choose_55 P x1_26 x2_26 x3_26 x4_26 y0_26 M_26
    else
      if x2_26 = x4_26 then
        D_X8_choose_55 P x1_26 x2_26 x3_26 x4_26 y0_26 M_26
      else
        D_X8_choose_44 P x1_26 x2_26 x3_26 x4_26 y0_26 M_26
noncomputable def D_X8_choose_25 (P : Nat) (x1_25 : Int32) (x2_25 : Int32) (x3_25 : Int32) (x4_25 : Int32) (M_25 : zMt) : Option (Int32 × zMt) :=
  D_X8_choose_26 P x1_25 x2_25 x3_25 x4_25 (0 : Int32) M_25
noncomputable def D_X8_choose_21 (P : Nat) (x1_21 : Int32) (x2_21 : Int32) (x3_21 : Int32) (x4_21 : Int32) (M_21 : zMt) : Option (Int32 × zMt) :=
  D_X8_choose_26 P x1_21 x2_21 x3_21 x4_21 (1 : Int32) M_21
noncomputable def D_X8_choose_10 (P : Nat) (x1_10 : Int32) (x2_10 : Int32) (x3_10 : Int32) (x4_10 : Int32) (M_10 : zMt) : Option (Int32 × zMt) :=
  if x3_10 = (-1 : Int32) then
    if x4_10 = (-1 : Int32) then
      D_X8_choose_25 P x1_10 x2_10 x3_10 x4_10 M_10
    else
      D_X8_choose_21 P x1_10 x2_10 x3_10 x4_10 M_10
  else
    D_X8_choose_25 P x1_10 x2_10 x3_10 x4_10 M_10
noncomputable def D_X8_choose (P : Nat) (v0 : Int32) (v1 : Int32) (v2 : Int32) (v3 : Int32) (M : zMt) : Option (Int32 × zMt) :=
  if v1 = (-1 : Int32) then
    if v2 = (-1 : Int32) then
      D_X8_choose_10 P v0 v1 v2 v3 M
    else
      D_X8_choose_21 P v0 v1 v2 v3 M
  else
    D_X8_choose_10 P v0 v1 v2 v3 M
set_option maxRecDepth 100000 in
set_option maxHeartbeats 4000000 in
theorem t_X8_choose {l : Launch} {G : zG} {b : Nat} {L : List zC} {M : zMt} {N : zNt} {P : Nat} {v0 : Int32} {v1 : Int32} {v2 : Int32} {v3 : Int32} (hP : LX8 L P) {r : Int32 × zMt} (h : D_X8_choose P v0 v1 v2 v3 M = some r) : zM l G b yX8_choose cX8_choose 9 (some .int) 4 0 0 [.ref P, .int v0, .int v1, .int v2, .int v3] (L, M, N) (fun r2 z => r2 = some (.int r.1) ∧ z = (L, r.2, N)) := by
  refine zM.of miX8_choose (Nat.le_of_ble_eq_true rfl) ?_
  intro p e s m args below meth c X hr hname
  generalize hF : ((fun r2 z => r2 = some (.int r.1) ∧ z = (L, r.2, N)) : Option Value → zS → Prop) = FQ
  change Zw p l e { frames := 4, cells := 0, slots := 0, locals := 80 * (4) } s m args below meth c G b 9 (MQ below (zQ G b FQ) args s 0 0 (fun q : Nat => b ≤ q)) 0 0 0 [some (.ref P), some (.int v0), some (.int v1), some (.int v2), some (.int v3), none, none, none, none] [] (L, M, N)
  have p_lt := hP.1
  have p_o := hP.2.1
  have p_s := hP.2.2.1
  have p_choiceAt := hP.2.2.2.2.2.2.2.2.2.2.2.2.2.2.1
  have J_185 : ∀ (x1_185 : Int32) (x2_185 : Int32) (x3_185 : Int32) (x4_185 : Int32) (x5_185 : Int32) (x6_185 : Int32) (x7_185 : Int32) (x8_185 : Option Value) (M_185 : zMt), D_X8_choose_185 P x1_185 x2_185 x3_185 x4_185 x7_185 M_185 = some r → Zw p l e { frames := 4, cells := 0, slots := 0, locals := 80 * (4) } s m args below meth c G b 9 (MQ below (zQ G b FQ) args s 0 0 (fun q : Nat => b ≤ q)) 0 0 185 [some (.ref (P)), some (.int x1_185), some (.int x2_185), some (.int x3_185), some (.int x4_185), some (.int x5_185), some (.int x6_185), some (.int x7_185), x8_185] [] (L, M_185, N) := by
    intro x1_185 x2_185 x3_185 x4_185 x5_185 x6_185 x7_185 x8_185 M_185 h
    unfold D_X8_choose_185 at h
    refine a_aload_n X dX8_choose_185 rfl ?_
    refine a_iload_n X dX8_choose_186 rfl ?_
    obtain ⟨e_187, f_187, h⟩ := zBx h
    refine a_callVv X dX8_choose_187 miX8_choiceMany lm8_288 (t_X8_choiceMany (by first | exact hP | assumption) f_187) (by first | exact p_o | assumption) rfl rfl rfl (Nat.le_of_ble_eq_true rfl) ⟨by decide, by decide, by decide, by decide⟩ ?_
    refine a_istore X dX8_choose_190 (by decide) ?_
    refine a_aload_n X dX8_choose_192 rfl ?_
    obtain ⟨e_193, f_193, h⟩ := zBx h
    refine a_callVu X dX8_choose_193 miX8_keeps lm8_480 (t_X8_keeps (by first | exact hP | assumption) f_193) (by first | exact p_o | assumption) rfl rfl rfl (Nat.le_of_ble_eq_true rfl) ⟨by decide, by decide, by decide, by decide⟩ ?_
    refine a_aload_n X dX8_choose_196 rfl ?_
    refine a_getr X lf8_7 (by first | exact p_o | assumption) rfl (by omega) dX8_choose_197 ?_
    refine a_iload X dX8_choose_200 rfl ?_
    refine a_iload_n X dX8_choose_202 rfl ?_
    obtain ⟨g_203, h⟩ := zIx h
    obtain ⟨M_203, f_203, h⟩ := zLtx h
    refine d_iastore X (by first | exact p_s | assumption) g_203 dX8_choose_203 f_203 ?_
    refine a_aload_n X dX8_choose_204 rfl ?_
    refine a_getr X lf8_7 (by first | exact p_o | assumption) rfl (by omega) dX8_choose_205 ?_
    refine a_iload X dX8_choose_208 rfl ?_
    refine a_iconst (v := 1) X dX8_choose_210 (by decide) ?_
    refine a_iadd X dX8_choose_211 ?_
    refine a_iload_n X dX8_choose_212 rfl ?_
    obtain ⟨g_213, h⟩ := zIx h
    obtain ⟨M_213, f_213, h⟩ := zLtx h
    refine d_iastore X (by first | exact p_s | assumption) g_213 dX8_choose_213 f_213 ?_
    refine a_aload_n X dX8_choose_214 rfl ?_
    refine a_getr X lf8_7 (by first | exact p_o | assumption) rfl (by omega) dX8_choose_215 ?_
    refine a_iload X dX8_choose_218 rfl ?_
    refine a_iconst (v := 2) X dX8_choose_220 (by decide) ?_
    refine a_iadd X dX8_choose_221 ?_
    refine a_iload X dX8_choose_222 rfl ?_
    obtain ⟨g_224, h⟩ := zIx h
    obtain ⟨M_224, f_224, h⟩ := zLtx h
    refine d_iastore X (by first | exact p_s | assumption) g_224 dX8_choose_224 f_224 ?_
    refine a_aload_n X dX8_choose_225 rfl ?_
    refine a_iload X dX8_choose_226 rfl ?_
    obtain ⟨e_228, f_228, h⟩ := zBx h
    refine a_callVv X dX8_choose_228 miX8_gives lm8_272 (t_X8_gives (by first | exact hP | assumption) f_228) (by first | exact p_o | assumption) rfl rfl rfl (Nat.le_of_ble_eq_true rfl) ⟨by decide, by decide, by decide, by decide⟩ ?_
    refine a_iret X hr dX8_choose_231 ⟨by decide, by decide⟩ ?_
    subst hF
    rw [← Option.some.inj h]
    exact ⟨rfl, rfl⟩
  have J_127 : ∀ (x1_127 : Int32) (x2_127 : Int32) (x3_127 : Int32) (x4_127 : Int32) (x5_127 : Int32) (x6_127 : Int32) (x7_127 : Option Value) (x8_127 : Option Value) (M_127 : zMt), D_X8_choose_127 P M_127 = some r → Zw p l e { frames := 4, cells := 0, slots := 0, locals := 80 * (4) } s m args below meth c G b 9 (MQ below (zQ G b FQ) args s 0 0 (fun q : Nat => b ≤ q)) 0 0 127 [some (.ref (P)), some (.int x1_127), some (.int x2_127), some (.int x3_127), some (.int x4_127), some (.int x5_127), some (.int x6_127), x7_127, x8_127] [] (L, M_127, N) := by
    intro x1_127 x2_127 x3_127 x4_127 x5_127 x6_127 x7_127 x8_127 M_127 h
    unfold D_X8_choose_127 at h
    refine a_aload_n X dX8_choose_127 rfl ?_
    refine a_iconst (v := 2) X dX8_choose_128 (by decide) ?_
    obtain ⟨e_129, f_129, h⟩ := zBx h
    refine a_callVv X dX8_choose_129 miX8_refuse lm8_263 (t_X8_refuse (by first | exact hP | assumption) f_129) (by first | exact p_o | assumption) rfl rfl rfl (Nat.le_of_ble_eq_true rfl) ⟨by decide, by decide, by decide, by decide⟩ ?_
    refine a_iret X hr dX8_choose_132 ⟨by decide, by decide⟩ ?_
    subst hF
    rw [← Option.some.inj h]
    exact ⟨rfl, rfl⟩
  have J_88 : ∀ (x1_88 : Int32) (x2_88 : Int32) (x3_88 : Int32) (x4_88 : Int32) (x5_88 : Int32) (x6_88 : Int32) (x7_88 : Option Value) (x8_88 : Option Value) (M_88 : zMt), D_X8_choose_88 P M_88 = some r → Zw p l e { frames := 4, cells := 0, slots := 0, locals := 80 * (4) } s m args below meth c G b 9 (MQ below (zQ G b FQ) args s 0 0 (fun q : Nat => b ≤ q)) 0 0 88 [some (.ref (P)), some (.int x1_88), some (.int x2_88), some (.int x3_88), some (.int x4_88), some (.int x5_88), some (.int x6_88), x7_88, x8_88] [] (L, M_88, N) := by
    intro x1_88 x2_88 x3_88 x4_88 x5_88 x6_88 x7_88 x8_88 M_88 h
    unfold D_X8_choose_88 at h
    refine a_aload_n X dX8_choose_88 rfl ?_
    refine a_iconst (v := 1) X dX8_choose_89 (by decide) ?_
    obtain ⟨e_90, f_90, h⟩ := zBx h
    refine a_callVv X dX8_choose_90 miX8_refuse lm8_263 (t_X8_refuse (by first | exact hP | assumption) f_90) (by first | exact p_o | assumption) rfl rfl rfl (Nat.le_of_ble_eq_true rfl) ⟨by decide, by decide, by decide, by decide⟩ ?_
    refine a_iret X hr dX8_choose_93 ⟨by decide, by decide⟩ ?_
    subst hF
    rw [← Option.some.inj h]
    exact ⟨rfl, rfl⟩
  have J_60 : ∀ (x1_60 : Int32) (x2_60 : Int32) (x3_60 : Int32) (x4_60 : Int32) (x5_60 : Int32) (x6_60 : Option Value) (x7_60 : Option Value) (x8_60 : Option Value) (y0_60 : Int32) (M_60 : zMt), (x5_60 = 0 ∨ x5_60 = 1) → (y0_60 = 0 ∨ y0_60 = 1) → D_X8_choose_60 P x1_60 x2_60 x3_60 x4_60 x5_60 y0_60 M_60 = some r → Zw p l e { frames := 4, cells := 0, slots := 0, locals := 80 * (4) } s m args below meth c G b 9 (MQ below (zQ G b FQ) args s 0 0 (fun q : Nat => b ≤ q)) 0 0 60 [some (.ref (P)), some (.int x1_60), some (.int x2_60), some (.int x3_60), some (.int x4_60), some (.int x5_60), x6_60, x7_60, x8_60] [.int y0_60] (L, M_60, N) := by
    intro x1_60 x2_60 x3_60 x4_60 x5_60 x6_60 x7_60 x8_60 y0_60 M_60 fb_x5_60 fb_y0_60 h
    unfold D_X8_choose_60 at h
    refine a_istore X dX8_choose_60 (by decide) ?_
    refine a_iload_n X dX8_choose_62 rfl ?_
    refine a_iconst (v := -1) X dX8_choose_63 (by decide) ?_
    refine a_icmp_lt (tgt := 88) X dX8_choose_64 (by decide) (fun h_64 => ?_) (fun h_64 => ?_)
    · replace h := (if_pos h_64).symm.trans h
      exact Zw.to2 (J_88 _ _ _ _ _ _ _ _ _ h) rfl rfl rfl
    · replace h := (if_neg h_64).symm.trans h
      refine a_iload_n X dX8_choose_67 rfl ?_
      refine a_iconst (v := -1) X dX8_choose_68 (by decide) ?_
      refine a_icmp_lt (tgt := 88) X dX8_choose_69 (by decide) (fun h_69 => ?_) (fun h_69 => ?_)
      · replace h := (if_pos h_69).symm.trans h
        exact Zw.to2 (J_88 _ _ _ _ _ _ _ _ _ h) rfl rfl rfl
      · replace h := (if_neg h_69).symm.trans h
        refine a_iload X dX8_choose_72 rfl ?_
        refine a_iconst (v := -1) X dX8_choose_74 (by decide) ?_
        refine a_icmp_lt (tgt := 88) X dX8_choose_75 (by decide) (fun h_75 => ?_) (fun h_75 => ?_)
        · replace h := (if_pos h_75).symm.trans h
          exact Zw.to2 (J_88 _ _ _ _ _ _ _ _ _ h) rfl rfl rfl
        · replace h := (if_neg h_75).symm.trans h
          refine a_iload X dX8_choose_78 rfl ?_
          refine a_if_ne (tgt := 88) X dX8_choose_80 (by decide) (fun h_80 => ?_) (fun h_80 => ?_)
          · replace h := (if_neg h_80).symm.trans h
            exact Zw.to2 (J_88 _ _ _ _ _ _ _ _ _ h) rfl rfl rfl
          · replace h := (if_pos h_80).symm.trans h
            refine a_iload X dX8_choose_83 rfl ?_
            refine a_if_eq (tgt := 94) X dX8_choose_85 (by decide) (fun h_85 => ?_) (fun h_85 => ?_)
            · replace h := (if_pos h_85).symm.trans h
              refine a_aload_n X dX8_choose_94 rfl ?_
              refine a_iload_n X dX8_choose_95 rfl ?_
              obtain ⟨e_96, f_96, h⟩ := zBx h
              refine a_callVx X dX8_choose_96 miX8_isApplicant lm8_315 (t_X8_isApplicant (by first | exact hP | assumption) f_96) (by first | exact p_o | assumption) rfl rfl rfl (Nat.le_of_ble_eq_true rfl) ⟨by decide, by decide, by decide, by decide⟩ (fun r_96 S_96 q_96 => ?_)
              obtain ⟨rfl, rfl, b_96⟩ := q_96
              refine a_if_eq (tgt := 127) X dX8_choose_99 (by decide) (fun h_99 => ?_) (fun h_99 => ?_)
              · replace h := (if_pos h_99).symm.trans h
                exact Zw.to2 (J_127 _ _ _ _ _ _ _ _ _ h) rfl rfl rfl
              · replace h := (if_neg h_99).symm.trans h
                refine a_iload_n X dX8_choose_102 rfl ?_
                refine a_aload_n X dX8_choose_103 rfl ?_
                refine a_geti X lf8_125 (by first | exact p_o | assumption) rfl dX8_choose_104 ?_
                refine a_icmp_ge (tgt := 127) X dX8_choose_107 (by decide) (fun h_107 => ?_) (fun h_107 => ?_)
                · replace h := (if_pos h_107).symm.trans h
                  exact Zw.to2 (J_127 _ _ _ _ _ _ _ _ _ h) rfl rfl rfl
                · replace h := (if_neg h_107).symm.trans h
                  refine a_iload_n X dX8_choose_110 rfl ?_
                  refine a_aload_n X dX8_choose_111 rfl ?_
                  refine a_geti X lf8_125 (by first | exact p_o | assumption) rfl dX8_choose_112 ?_
                  refine a_icmp_ge (tgt := 127) X dX8_choose_115 (by decide) (fun h_115 => ?_) (fun h_115 => ?_)
                  · replace h := (if_pos h_115).symm.trans h
                    exact Zw.to2 (J_127 _ _ _ _ _ _ _ _ _ h) rfl rfl rfl
                  · replace h := (if_neg h_115).symm.trans h
                    refine a_iload X dX8_choose_118 rfl ?_
                    refine a_aload_n X dX8_choose_120 rfl ?_
                    refine a_geti X lf8_125 (by first | exact p_o | assumption) rfl dX8_choose_121 ?_
                    refine a_icmp_lt (tgt := 133) X dX8_choose_124 (by decide) (fun h_124 => ?_) (fun h_124 => ?_)
                    · replace h := (if_pos h_124).symm.trans h
                      refine a_aload_n X dX8_choose_133 rfl ?_
                      refine a_getr X lf8_55 (by first | exact p_o | assumption) rfl (by omega) dX8_choose_134 ?_
                      refine a_iload_n X dX8_choose_137 rfl ?_
                      obtain ⟨g_138, h⟩ := zIx h
                      refine a_iaload X (by first | exact p_choiceAt | assumption) g_138 dX8_choose_138 ?_
                      refine a_istore X dX8_choose_139 (by decide) ?_
                      refine a_aload_n X dX8_choose_141 rfl ?_
                      refine a_getr X lf8_7 (by first | exact p_o | assumption) rfl (by omega) dX8_choose_142 ?_
                      refine a_iload X dX8_choose_145 rfl ?_
                      obtain ⟨g_147, h⟩ := zIx h
                      refine a_iaload X (by first | exact p_s | assumption) g_147 dX8_choose_147 ?_
                      refine a_iload_n X dX8_choose_148 rfl ?_
                      refine a_icmp_ne (tgt := 185) X dX8_choose_149 (by decide) (fun h_149 => ?_) (fun h_149 => ?_)
                      · replace h := (if_neg h_149).symm.trans h
                        exact Zw.to2 (J_185 _ _ _ _ _ _ _ _ _ h) rfl rfl rfl
                      · replace h := (if_pos h_149).symm.trans h
                        refine a_aload_n X dX8_choose_152 rfl ?_
                        refine a_getr X lf8_7 (by first | exact p_o | assumption) rfl (by omega) dX8_choose_153 ?_
                        refine a_iload X dX8_choose_156 rfl ?_
                        refine a_iconst (v := 1) X dX8_choose_158 (by decide) ?_
                        refine a_iadd X dX8_choose_159 ?_
                        obtain ⟨g_160, h⟩ := zIx h
                        refine a_iaload X (by first | exact p_s | assumption) g_160 dX8_choose_160 ?_
                        refine a_iload_n X dX8_choose_161 rfl ?_
                        refine a_icmp_ne (tgt := 185) X dX8_choose_162 (by decide) (fun h_162 => ?_) (fun h_162 => ?_)
                        · replace h := (if_neg h_162).symm.trans h
                          exact Zw.to2 (J_185 _ _ _ _ _ _ _ _ _ h) rfl rfl rfl
                        · replace h := (if_pos h_162).symm.trans h
                          refine a_aload_n X dX8_choose_165 rfl ?_
                          refine a_getr X lf8_7 (by first | exact p_o | assumption) rfl (by omega) dX8_choose_166 ?_
                          refine a_iload X dX8_choose_169 rfl ?_
                          refine a_iconst (v := 2) X dX8_choose_171 (by decide) ?_
                          refine a_iadd X dX8_choose_172 ?_
                          obtain ⟨g_173, h⟩ := zIx h
                          refine a_iaload X (by first | exact p_s | assumption) g_173 dX8_choose_173 ?_
                          refine a_iload X dX8_choose_174 rfl ?_
                          refine a_icmp_ne (tgt := 185) X dX8_choose_176 (by decide) (fun h_176 => ?_) (fun h_176 => ?_)
                          · replace h := (if_neg h_176).symm.trans h
                            exact Zw.to2 (J_185 _ _ _ _ _ _ _ _ _ h) rfl rfl rfl
                          · replace h := (if_pos h_176).symm.trans h
                            refine a_aload_n X dX8_choose_179 rfl ?_
                            refine a_iconst (v := 4) X dX8_choose_180 (by decide) ?_
                            obtain ⟨e_181, f_181, h⟩ := zBx h
                            refine a_callVv X dX8_choose_181 miX8_refuse lm8_263 (t_X8_refuse (by first | exact hP | assumption) f_181) (by first | exact p_o | assumption) rfl rfl rfl (Nat.le_of_ble_eq_true rfl) ⟨by decide, by decide, by decide, by decide⟩ ?_
                            refine a_iret X hr dX8_choose_184 ⟨by decide, by decide⟩ ?_
                            subst hF
                            rw [← Option.some.inj h]
                            exact ⟨rfl, rfl⟩
                    · replace h := (if_neg h_124).symm.trans h
                      exact Zw.to2 (J_127 _ _ _ _ _ _ _ _ _ h) rfl rfl rfl
            · replace h := (if_neg h_85).symm.trans h
              exact Zw.to2 (J_88 _ _ _ _ _ _ _ _ _ h) rfl rfl rfl
  have J_59 : ∀ (x1_59 : Int32) (x2_59 : Int32) (x3_59 : Int32) (x4_59 : Int32) (x5_59 : Int32) (x6_59 : Option Value) (x7_59 : Option Value) (x8_59 : Option Value) (M_59 : zMt), (x5_59 = 0 ∨ x5_59 = 1) → D_X8_choose_59 P x1_59 x2_59 x3_59 x4_59 x5_59 M_59 = some r → Zw p l e { frames := 4, cells := 0, slots := 0, locals := 80 * (4) } s m args below meth c G b 9 (MQ below (zQ G b FQ) args s 0 0 (fun q : Nat => b ≤ q)) 0 0 59 [some (.ref (P)), some (.int x1_59), some (.int x2_59), some (.int x3_59), some (.int x4_59), some (.int x5_59), x6_59, x7_59, x8_59] [] (L, M_59, N) := by
    intro x1_59 x2_59 x3_59 x4_59 x5_59 x6_59 x7_59 x8_59 M_59 fb_x5_59 h
    unfold D_X8_choose_59 at h
    refine a_iconst (v := 0) X dX8_choose_59 (by decide) ?_
    exact Zw.to2 (J_60 _ _ _ _ _ _ _ _ _ _ (by first | exact Or.inl rfl | exact Or.inr rfl | assumption) (by first | exact Or.inl rfl | exact Or.inr rfl | assumption) h) rfl rfl rfl
  have J_55 : ∀ (x1_55 : Int32) (x2_55 : Int32) (x3_55 : Int32) (x4_55 : Int32) (x5_55 : Int32) (x6_55 : Option Value) (x7_55 : Option Value) (x8_55 : Option Value) (M_55 : zMt), (x5_55 = 0 ∨ x5_55 = 1) → D_X8_choose_55 P x1_55 x2_55 x3_55 x4_55 x5_55 M_55 = some r → Zw p l e { frames := 4, cells := 0, slots := 0, locals := 80 * (4) } s m args below meth c G b 9 (MQ below (zQ G b FQ) args s 0 0 (fun q : Nat => b ≤ q)) 0 0 55 [some (.ref (P)), some (.int x1_55), some (.int x2_55), some (.int x3_55), some (.int x4_55), some (.int x5_55), x6_55, x7_55, x8_55] [] (L, M_55, N) := by
    intro x1_55 x2_55 x3_55 x4_55 x5_55 x6_55 x7_55 x8_55 M_55 fb_x5_55 h
    unfold D_X8_choose_55 at h
    refine a_iconst (v := 1) X dX8_choose_55 (by decide) ?_
    refine a_goto (tgt := 60) X dX8_choose_56 (by decide) ?_
    exact Zw.to2 (J_60 _ _ _ _ _ _ _ _ _ _ (by first | exact Or.inl rfl | exact Or.inr rfl | assumption) (by first | exact Or.inl rfl | exact Or.inr rfl | assumption) h) rfl rfl rfl
  have J_44 : ∀ (x1_44 : Int32) (x2_44 : Int32) (x3_44 : Int32) (x4_44 : Int32) (x5_44 : Int32) (x6_44 : Option Value) (x7_44 : Option Value) (x8_44 : Option Value) (M_44 : zMt), (x5_44 = 0 ∨ x5_44 = 1) → D_X8_choose_44 P x1_44 x2_44 x3_44 x4_44 x5_44 M_44 = some r → Zw p l e { frames := 4, cells := 0, slots := 0, locals := 80 * (4) } s m args below meth c G b 9 (MQ below (zQ G b FQ) args s 0 0 (fun q : Nat => b ≤ q)) 0 0 44 [some (.ref (P)), some (.int x1_44), some (.int x2_44), some (.int x3_44), some (.int x4_44), some (.int x5_44), x6_44, x7_44, x8_44] [] (L, M_44, N) := by
    intro x1_44 x2_44 x3_44 x4_44 x5_44 x6_44 x7_44 x8_44 M_44 fb_x5_44 h
    unfold D_X8_choose_44 at h
    refine a_iload_n X dX8_choose_44 rfl ?_
    refine a_iconst (v := -1) X dX8_choose_45 (by decide) ?_
    refine a_icmp_eq (tgt := 59) X dX8_choose_46 (by decide) (fun h_46 => ?_) (fun h_46 => ?_)
    · replace h := (if_pos h_46).symm.trans h
      exact Zw.to2 (J_59 _ _ _ _ _ _ _ _ _ (by first | exact Or.inl rfl | exact Or.inr rfl | assumption) h) rfl rfl rfl
    · replace h := (if_neg h_46).symm.trans h
      refine a_iload_n X dX8_choose_49 rfl ?_
      refine a_iload X dX8_choose_50 rfl ?_
      refine a_icmp_ne (tgt := 59) X dX8_choose_52 (by decide) (fun h_52 => ?_) (fun h_52 => ?_)
      · replace h := (if_neg h_52).symm.trans h
        exact Zw.to2 (J_59 _ _ _ _ _ _ _ _ _ (by first | exact Or.inl rfl | exact Or.inr rfl | assumption) h) rfl rfl rfl
      · replace h := (if_pos h_52).symm.trans h
        exact Zw.to2 (J_55 _ _ _ _ _ _ _ _ _ (by first | exact Or.inl rfl | exact Or.inr rfl | assumption) h) rfl rfl rfl
  have J_26 : ∀ (x1_26 : Int32) (x2_26 : Int32) (x3_26 : Int32) (x4_26 : Int32) (x5_26 : Option Value) (x6_26 : Option Value) (x7_26 : Option Value) (x8_26 : Option Value) (y0_26 : Int32) (M_26 : zMt), (y0_26 = 0 ∨ y0_26 = 1) → D_X8_choose_26 P x1_26 x2_26 x3_26 x4_26 y0_26 M_26 = some r → Zw p l e { frames := 4, cells := 0, slots := 0, locals := 80 * (4) } s m args below meth c G b 9 (MQ below (zQ G b FQ) args s 0 0 (fun q : Nat => b ≤ q)) 0 0 26 [some (.ref (P)), some (.int x1_26), some (.int x2_26), some (.int x3_26), some (.int x4_26), x5_26, x6_26, x7_26, x8_26] [.int y0_26] (L, M_26, N) := by
    intro x1_26 x2_26 x3_26 x4_26 x5_26 x6_26 x7_26 x8_26 y0_26 M_26 fb_y0_26 h
    unfold D_X8_choose_26 at h
    refine a_istore X dX8_choose_26 (by decide) ?_
    refine a_iload_n X dX8_choose_28 rfl ?_
    refine a_iconst (v := -1) X dX8_choose_29 (by decide) ?_
    refine a_icmp_eq (tgt := 44) X dX8_choose_30 (by decide) (fun h_30 => ?_) (fun h_30 => ?_)
    · replace h := (if_pos h_30).symm.trans h
      exact Zw.to2 (J_44 _ _ _ _ _ _ _ _ _ (by first | exact Or.inl rfl | exact Or.inr rfl | assumption) h) rfl rfl rfl
    · replace h := (if_neg h_30).symm.trans h
      refine a_iload_n X dX8_choose_33 rfl ?_
      refine a_iload_n X dX8_choose_34 rfl ?_
      refine a_icmp_eq (tgt := 55) X dX8_choose_35 (by decide) (fun h_35 => ?_) (fun h_35 => ?_)
      · replace h := (if_pos h_35).symm.trans h
        exact Zw.to2 (J_55 _ _ _ _ _ _ _ _ _ (by first | exact Or.inl rfl | exact Or.inr rfl | assumption) h) rfl rfl rfl
      · replace h := (if_neg h_35).symm.trans h
        refine a_iload_n X dX8_choose_38 rfl ?_
        refine a_iload X dX8_choose_39 rfl ?_
        refine a_icmp_eq (tgt := 55) X dX8_choose_41 (by decide) (fun h_41 => ?_) (fun h_41 => ?_)
        · replace h := (if_pos h_41).symm.trans h
          exact Zw.to2 (J_55 _ _ _ _ _ _ _ _ _ (by first | exact Or.inl rfl | exact Or.inr rfl | assumption) h) rfl rfl rfl
        · replace h := (if_neg h_41).symm.trans h
          exact Zw.to2 (J_44 _ _ _ _ _ _ _ _ _ (by first | exact Or.inl rfl | exact Or.inr rfl | assumption) h) rfl rfl rfl
  have J_25 : ∀ (x1_25 : Int32) (x2_25 : Int32) (x3_25 : Int32) (x4_25 : Int32) (x5_25 : Option Value) (x6_25 : Option Value) (x7_25 : Option Value) (x8_25 : Option Value) (M_25 : zMt), D_X8_choose_25 P x1_25 x2_25 x3_25 x4_25 M_25 = some r → Zw p l e { frames := 4, cells := 0, slots := 0, locals := 80 * (4) } s m args below meth c G b 9 (MQ below (zQ G b FQ) args s 0 0 (fun q : Nat => b ≤ q)) 0 0 25 [some (.ref (P)), some (.int x1_25), some (.int x2_25), some (.int x3_25), some (.int x4_25), x5_25, x6_25, x7_25, x8_25] [] (L, M_25, N) := by
    intro x1_25 x2_25 x3_25 x4_25 x5_25 x6_25 x7_25 x8_25 M_25 h
    unfold D_X8_choose_25 at h
    refine a_iconst (v := 0) X dX8_choose_25 (by decide) ?_
    exact Zw.to2 (J_26 _ _ _ _ _ _ _ _ _ _ (by first | exact Or.inl rfl | exact Or.inr rfl | assumption) h) rfl rfl rfl
  have J_21 : ∀ (x1_21 : Int32) (x2_21 : Int32) (x3_21 : Int32) (x4_21 : Int32) (x5_21 : Option Value) (x6_21 : Option Value) (x7_21 : Option Value) (x8_21 : Option Value) (M_21 : zMt), D_X8_choose_21 P x1_21 x2_21 x3_21 x4_21 M_21 = some r → Zw p l e { frames := 4, cells := 0, slots := 0, locals := 80 * (4) } s m args below meth c G b 9 (MQ below (zQ G b FQ) args s 0 0 (fun q : Nat => b ≤ q)) 0 0 21 [some (.ref (P)), some (.int x1_21), some (.int x2_21), some (.int x3_21), some (.int x4_21), x5_21, x6_21, x7_21, x8_21] [] (L, M_21, N) := by
    intro x1_21 x2_21 x3_21 x4_21 x5_21 x6_21 x7_21 x8_21 M_21 h
    unfold D_X8_choose_21 at h
    refine a_iconst (v := 1) X dX8_choose_21 (by decide) ?_
    refine a_goto (tgt := 26) X dX8_choose_22 (by decide) ?_
    exact Zw.to2 (J_26 _ _ _ _ _ _ _ _ _ _ (by first | exact Or.inl rfl | exact Or.inr rfl | assumption) h) rfl rfl rfl
  have J_10 : ∀ (x1_10 : Int32) (x2_10 : Int32) (x3_10 : Int32) (x4_10 : Int32) (x5_10 : Option Value) (x6_10 : Option Value) (x7_10 : Option Value) (x8_10 : Option Value) (M_10 : zMt), D_X8_choose_10 P x1_10 x2_10 x3_10 x4_10 M_10 = some r → Zw p l e { frames := 4, cells := 0, slots := 0, locals := 80 * (4) } s m args below meth c G b 9 (MQ below (zQ G b FQ) args s 0 0 (fun q : Nat => b ≤ q)) 0 0 10 [some (.ref (P)), some (.int x1_10), some (.int x2_10), some (.int x3_10), some (.int x4_10), x5_10, x6_10, x7_10, x8_10] [] (L, M_10, N) := by
    intro x1_10 x2_10 x3_10 x4_10 x5_10 x6_10 x7_10 x8_10 M_10 h
    unfold D_X8_choose_10 at h
    refine a_iload_n X dX8_choose_10 rfl ?_
    refine a_iconst (v := -1) X dX8_choose_11 (by decide) ?_
    refine a_icmp_ne (tgt := 25) X dX8_choose_12 (by decide) (fun h_12 => ?_) (fun h_12 => ?_)
    · replace h := (if_neg h_12).symm.trans h
      exact Zw.to2 (J_25 _ _ _ _ _ _ _ _ _ h) rfl rfl rfl
    · replace h := (if_pos h_12).symm.trans h
      refine a_iload X dX8_choose_15 rfl ?_
      refine a_iconst (v := -1) X dX8_choose_17 (by decide) ?_
      refine a_icmp_eq (tgt := 25) X dX8_choose_18 (by decide) (fun h_18 => ?_) (fun h_18 => ?_)
      · replace h := (if_pos h_18).symm.trans h
        exact Zw.to2 (J_25 _ _ _ _ _ _ _ _ _ h) rfl rfl rfl
      · replace h := (if_neg h_18).symm.trans h
        exact Zw.to2 (J_21 _ _ _ _ _ _ _ _ _ h) rfl rfl rfl
  unfold D_X8_choose at h
  refine a_iload_n X dX8_choose_0 rfl ?_
  refine a_iconst (v := -1) X dX8_choose_1 (by decide) ?_
  refine a_icmp_ne (tgt := 10) X dX8_choose_2 (by decide) (fun h_2 => ?_) (fun h_2 => ?_)
  · replace h := (if_neg h_2).symm.trans h
    exact Zw.to2 (J_10 _ _ _ _ _ _ _ _ _ h) rfl rfl rfl
  · replace h := (if_pos h_2).symm.trans h
    refine a_iload_n X dX8_choose_5 rfl ?_
    refine a_iconst (v := -1) X dX8_choose_6 (by decide) ?_
    refine a_icmp_ne (tgt := 21) X dX8_choose_7 (by decide) (fun h_7 => ?_) (fun h_7 => ?_)
    · replace h := (if_neg h_7).symm.trans h
      exact Zw.to2 (J_21 _ _ _ _ _ _ _ _ _ h) rfl rfl rfl
    · replace h := (if_pos h_7).symm.trans h
      exact Zw.to2 (J_10 _ _ _ _ _ _ _ _ _ h) rfl rfl rfl
noncomputable def D_X8_law_27 (P : Nat) (y0_27 : Int32) (M_27 : zMt) : Option (Int32 × zMt) :=
  some (y0_27, M_27)
noncomputable def D_X8_law (P : Nat) (v0 : Int32) (M : zMt) : Option (Int32 × zMt) :=
  zB (D_X8_isFrom (Int32.toInt64 v0) (0 : Int64) (2 : Int64)) fun e_6 =>
  if e_6 = 0 then
    zB (D_X8_refuse P (1 : Int32) M) fun e_24 =>
    D_X8_law_27 P e_24.1 e_24.2
  else
    zB (D_X8_becomes P (67 : Int32) v0 M) fun e_16 =>
    D_X8_law_27 P e_16.1 e_16.2
set_option maxRecDepth 100000 in
set_option maxHeartbeats 4000000 in
theorem t_X8_law {l : Launch} {G : zG} {b : Nat} {L : List zC} {M : zMt} {N : zNt} {P : Nat} {v0 : Int32} (hP : LX8 L P) {r : Int32 × zMt} (h : D_X8_law P v0 M = some r) : zM l G b yX8_law cX8_law 2 (some .int) 2 0 0 [.ref P, .int v0] (L, M, N) (fun r2 z => r2 = some (.int r.1) ∧ z = (L, r.2, N)) := by
  refine zM.of miX8_law (Nat.le_of_ble_eq_true rfl) ?_
  intro p e s m args below meth c X hr hname
  generalize hF : ((fun r2 z => r2 = some (.int r.1) ∧ z = (L, r.2, N)) : Option Value → zS → Prop) = FQ
  change Zw p l e { frames := 2, cells := 0, slots := 0, locals := 80 * (2) } s m args below meth c G b 2 (MQ below (zQ G b FQ) args s 0 0 (fun q : Nat => b ≤ q)) 0 0 0 [some (.ref P), some (.int v0)] [] (L, M, N)
  have p_lt := hP.1
  have p_o := hP.2.1
  have J_27 : ∀ (x1_27 : Int32) (y0_27 : Int32) (M_27 : zMt), D_X8_law_27 P y0_27 M_27 = some r → Zw p l e { frames := 2, cells := 0, slots := 0, locals := 80 * (2) } s m args below meth c G b 2 (MQ below (zQ G b FQ) args s 0 0 (fun q : Nat => b ≤ q)) 0 0 27 [some (.ref (P)), some (.int x1_27)] [.int y0_27] (L, M_27, N) := by
    intro x1_27 y0_27 M_27 h
    unfold D_X8_law_27 at h
    refine a_iret X hr dX8_law_27 ⟨by decide, by decide⟩ ?_
    subst hF
    rw [← Option.some.inj h]
    exact ⟨rfl, rfl⟩
  unfold D_X8_law at h
  refine a_iload_n X dX8_law_0 rfl ?_
  refine a_i2l X dX8_law_1 ?_
  refine a_lconst (v := 0) X dX8_law_2 (by decide) ?_
  refine a_ldc2 X dX8_law_3 lk8_427 ?_
  obtain ⟨e_6, f_6, h⟩ := zBx h
  refine a_callSx X dX8_law_6 miX8_isFrom lm8_128 (t_X8_isFrom f_6) rfl rfl (Nat.le_of_ble_eq_true rfl) ⟨by decide, by decide, by decide, by decide⟩ (fun r_6 S_6 q_6 => ?_)
  obtain ⟨rfl, rfl, b_6⟩ := q_6
  refine a_if_eq (tgt := 22) X dX8_law_9 (by decide) (fun h_9 => ?_) (fun h_9 => ?_)
  · replace h := (if_pos h_9).symm.trans h
    refine a_aload_n X dX8_law_22 rfl ?_
    refine a_iconst (v := 1) X dX8_law_23 (by decide) ?_
    obtain ⟨e_24, f_24, h⟩ := zBx h
    refine a_callVv X dX8_law_24 miX8_refuse lm8_263 (t_X8_refuse (by first | exact hP | assumption) f_24) (by first | exact p_o | assumption) rfl rfl rfl (Nat.le_of_ble_eq_true rfl) ⟨by decide, by decide, by decide, by decide⟩ ?_
    exact Zw.to2 (J_27 _ _ _ h) rfl rfl rfl
  · replace h := (if_neg h_9).symm.trans h
    refine a_aload_n X dX8_law_12 rfl ?_
    refine a_bipush (v := 67) X dX8_law_13 (by decide) ?_
    refine a_iload_n X dX8_law_15 rfl ?_
    obtain ⟨e_16, f_16, h⟩ := zBx h
    refine a_callVv X dX8_law_16 miX8_becomes lm8_483 (t_X8_becomes (by first | exact hP | assumption) f_16) (by first | exact p_o | assumption) rfl rfl rfl (Nat.le_of_ble_eq_true rfl) ⟨by decide, by decide, by decide, by decide⟩ ?_
    refine a_goto (tgt := 27) X dX8_law_19 (by decide) ?_
    exact Zw.to2 (J_27 _ _ _ h) rfl rfl rfl
noncomputable def D_X8_prefer_27 (P : Nat) (y0_27 : Int32) (M_27 : zMt) : Option (Int32 × zMt) :=
  some (y0_27, M_27)
noncomputable def D_X8_prefer (P : Nat) (v0 : Int32) (M : zMt) : Option (Int32 × zMt) :=
  zB (D_X8_isFrom (Int32.toInt64 v0) (0 : Int64) (100 : Int64)) fun e_6 =>
  if e_6 = 0 then
    zB (D_X8_refuse P (1 : Int32) M) fun e_24 =>
    D_X8_prefer_27 P e_24.1 e_24.2
  else
    zB (D_X8_becomes P (68 : Int32) v0 M) fun e_16 =>
    D_X8_prefer_27 P e_16.1 e_16.2
set_option maxRecDepth 100000 in
set_option maxHeartbeats 4000000 in
theorem t_X8_prefer {l : Launch} {G : zG} {b : Nat} {L : List zC} {M : zMt} {N : zNt} {P : Nat} {v0 : Int32} (hP : LX8 L P) {r : Int32 × zMt} (h : D_X8_prefer P v0 M = some r) : zM l G b yX8_prefer cX8_prefer 2 (some .int) 2 0 0 [.ref P, .int v0] (L, M, N) (fun r2 z => r2 = some (.int r.1) ∧ z = (L, r.2, N)) := by
  refine zM.of miX8_prefer (Nat.le_of_ble_eq_true rfl) ?_
  intro p e s m args below meth c X hr hname
  generalize hF : ((fun r2 z => r2 = some (.int r.1) ∧ z = (L, r.2, N)) : Option Value → zS → Prop) = FQ
  change Zw p l e { frames := 2, cells := 0, slots := 0, locals := 80 * (2) } s m args below meth c G b 2 (MQ below (zQ G b FQ) args s 0 0 (fun q : Nat => b ≤ q)) 0 0 0 [some (.ref P), some (.int v0)] [] (L, M, N)
  have p_lt := hP.1
  have p_o := hP.2.1
  have J_27 : ∀ (x1_27 : Int32) (y0_27 : Int32) (M_27 : zMt), D_X8_prefer_27 P y0_27 M_27 = some r → Zw p l e { frames := 2, cells := 0, slots := 0, locals := 80 * (2) } s m args below meth c G b 2 (MQ below (zQ G b FQ) args s 0 0 (fun q : Nat => b ≤ q)) 0 0 27 [some (.ref (P)), some (.int x1_27)] [.int y0_27] (L, M_27, N) := by
    intro x1_27 y0_27 M_27 h
    unfold D_X8_prefer_27 at h
    refine a_iret X hr dX8_prefer_27 ⟨by decide, by decide⟩ ?_
    subst hF
    rw [← Option.some.inj h]
    exact ⟨rfl, rfl⟩
  unfold D_X8_prefer at h
  refine a_iload_n X dX8_prefer_0 rfl ?_
  refine a_i2l X dX8_prefer_1 ?_
  refine a_lconst (v := 0) X dX8_prefer_2 (by decide) ?_
  refine a_ldc2 X dX8_prefer_3 lk8_486 ?_
  obtain ⟨e_6, f_6, h⟩ := zBx h
  refine a_callSx X dX8_prefer_6 miX8_isFrom lm8_128 (t_X8_isFrom f_6) rfl rfl (Nat.le_of_ble_eq_true rfl) ⟨by decide, by decide, by decide, by decide⟩ (fun r_6 S_6 q_6 => ?_)
  obtain ⟨rfl, rfl, b_6⟩ := q_6
  refine a_if_eq (tgt := 22) X dX8_prefer_9 (by decide) (fun h_9 => ?_) (fun h_9 => ?_)
  · replace h := (if_pos h_9).symm.trans h
    refine a_aload_n X dX8_prefer_22 rfl ?_
    refine a_iconst (v := 1) X dX8_prefer_23 (by decide) ?_
    obtain ⟨e_24, f_24, h⟩ := zBx h
    refine a_callVv X dX8_prefer_24 miX8_refuse lm8_263 (t_X8_refuse (by first | exact hP | assumption) f_24) (by first | exact p_o | assumption) rfl rfl rfl (Nat.le_of_ble_eq_true rfl) ⟨by decide, by decide, by decide, by decide⟩ ?_
    exact Zw.to2 (J_27 _ _ _ h) rfl rfl rfl
  · replace h := (if_neg h_9).symm.trans h
    refine a_aload_n X dX8_prefer_12 rfl ?_
    refine a_bipush (v := 68) X dX8_prefer_13 (by decide) ?_
    refine a_iload_n X dX8_prefer_15 rfl ?_
    obtain ⟨e_16, f_16, h⟩ := zBx h
    refine a_callVv X dX8_prefer_16 miX8_becomes lm8_483 (t_X8_becomes (by first | exact hP | assumption) f_16) (by first | exact p_o | assumption) rfl rfl rfl (Nat.le_of_ble_eq_true rfl) ⟨by decide, by decide, by decide, by decide⟩ ?_
    refine a_goto (tgt := 27) X dX8_prefer_19 (by decide) ?_
    exact Zw.to2 (J_27 _ _ _ h) rfl rfl rfl
noncomputable def D_X8_guests_27 (P : Nat) (y0_27 : Int32) (M_27 : zMt) : Option (Int32 × zMt) :=
  some (y0_27, M_27)
noncomputable def D_X8_guests (P : Nat) (v0 : Int32) (M : zMt) : Option (Int32 × zMt) :=
  zB (D_X8_isFrom (Int32.toInt64 v0) (0 : Int64) (100 : Int64)) fun e_6 =>
  if e_6 = 0 then
    zB (D_X8_refuse P (1 : Int32) M) fun e_24 =>
    D_X8_guests_27 P e_24.1 e_24.2
  else
    zB (D_X8_becomes P (69 : Int32) v0 M) fun e_16 =>
    D_X8_guests_27 P e_16.1 e_16.2
set_option maxRecDepth 100000 in
set_option maxHeartbeats 4000000 in
theorem t_X8_guests {l : Launch} {G : zG} {b : Nat} {L : List zC} {M : zMt} {N : zNt} {P : Nat} {v0 : Int32} (hP : LX8 L P) {r : Int32 × zMt} (h : D_X8_guests P v0 M = some r) : zM l G b yX8_guests cX8_guests 2 (some .int) 2 0 0 [.ref P, .int v0] (L, M, N) (fun r2 z => r2 = some (.int r.1) ∧ z = (L, r.2, N)) := by
  refine zM.of miX8_guests (Nat.le_of_ble_eq_true rfl) ?_
  intro p e s m args below meth c X hr hname
  generalize hF : ((fun r2 z => r2 = some (.int r.1) ∧ z = (L, r.2, N)) : Option Value → zS → Prop) = FQ
  change Zw p l e { frames := 2, cells := 0, slots := 0, locals := 80 * (2) } s m args below meth c G b 2 (MQ below (zQ G b FQ) args s 0 0 (fun q : Nat => b ≤ q)) 0 0 0 [some (.ref P), some (.int v0)] [] (L, M, N)
  have p_lt := hP.1
  have p_o := hP.2.1
  have J_27 : ∀ (x1_27 : Int32) (y0_27 : Int32) (M_27 : zMt), D_X8_guests_27 P y0_27 M_27 = some r → Zw p l e { frames := 2, cells := 0, slots := 0, locals := 80 * (2) } s m args below meth c G b 2 (MQ below (zQ G b FQ) args s 0 0 (fun q : Nat => b ≤ q)) 0 0 27 [some (.ref (P)), some (.int x1_27)] [.int y0_27] (L, M_27, N) := by
    intro x1_27 y0_27 M_27 h
    unfold D_X8_guests_27 at h
    refine a_iret X hr dX8_guests_27 ⟨by decide, by decide⟩ ?_
    subst hF
    rw [← Option.some.inj h]
    exact ⟨rfl, rfl⟩
  unfold D_X8_guests at h
  refine a_iload_n X dX8_guests_0 rfl ?_
  refine a_i2l X dX8_guests_1 ?_
  refine a_lconst (v := 0) X dX8_guests_2 (by decide) ?_
  refine a_ldc2 X dX8_guests_3 lk8_486 ?_
  obtain ⟨e_6, f_6, h⟩ := zBx h
  refine a_callSx X dX8_guests_6 miX8_isFrom lm8_128 (t_X8_isFrom f_6) rfl rfl (Nat.le_of_ble_eq_true rfl) ⟨by decide, by decide, by decide, by decide⟩ (fun r_6 S_6 q_6 => ?_)
  obtain ⟨rfl, rfl, b_6⟩ := q_6
  refine a_if_eq (tgt := 22) X dX8_guests_9 (by decide) (fun h_9 => ?_) (fun h_9 => ?_)
  · replace h := (if_pos h_9).symm.trans h
    refine a_aload_n X dX8_guests_22 rfl ?_
    refine a_iconst (v := 1) X dX8_guests_23 (by decide) ?_
    obtain ⟨e_24, f_24, h⟩ := zBx h
    refine a_callVv X dX8_guests_24 miX8_refuse lm8_263 (t_X8_refuse (by first | exact hP | assumption) f_24) (by first | exact p_o | assumption) rfl rfl rfl (Nat.le_of_ble_eq_true rfl) ⟨by decide, by decide, by decide, by decide⟩ ?_
    exact Zw.to2 (J_27 _ _ _ h) rfl rfl rfl
  · replace h := (if_neg h_9).symm.trans h
    refine a_aload_n X dX8_guests_12 rfl ?_
    refine a_bipush (v := 69) X dX8_guests_13 (by decide) ?_
    refine a_iload_n X dX8_guests_15 rfl ?_
    obtain ⟨e_16, f_16, h⟩ := zBx h
    refine a_callVv X dX8_guests_16 miX8_becomes lm8_483 (t_X8_becomes (by first | exact hP | assumption) f_16) (by first | exact p_o | assumption) rfl rfl rfl (Nat.le_of_ble_eq_true rfl) ⟨by decide, by decide, by decide, by decide⟩ ?_
    refine a_goto (tgt := 27) X dX8_guests_19 (by decide) ?_
    exact Zw.to2 (J_27 _ _ _ h) rfl rfl rfl
noncomputable def D_X8_split (P : Nat) (v0 : Int32) (M : zMt) : Option (Int32 × zMt) :=
  zB (D_X8_isParty P M v0) fun e_2 =>
  if e_2 = 0 then
    zB (D_X8_refuse P (2 : Int32) M) fun e_10 =>
    some (e_10.1, e_10.2)
  else
    zB (D_X8_keeps P M) fun e_15 =>
    zB (D_X8_splits P v0 e_15) fun e_20 =>
    zB (D_X8_laysApplicants P e_20) fun e_24 =>
    zB (D_X8_gives P (e_24 P 33) e_24) fun e_32 =>
    some (e_32.1, e_32.2)
set_option maxRecDepth 100000 in
set_option maxHeartbeats 4000000 in
theorem t_X8_split {l : Launch} {G : zG} {b : Nat} {L : List zC} {M : zMt} {N : zNt} {P : Nat} {v0 : Int32} (hP : LX8 L P) {r : Int32 × zMt} (h : D_X8_split P v0 M = some r) : zM l G b yX8_split cX8_split 2 (some .int) 3 0 0 [.ref P, .int v0] (L, M, N) (fun r2 z => r2 = some (.int r.1) ∧ z = (L, r.2, N)) := by
  refine zM.of miX8_split (Nat.le_of_ble_eq_true rfl) ?_
  intro p e s m args below meth c X hr hname
  generalize hF : ((fun r2 z => r2 = some (.int r.1) ∧ z = (L, r.2, N)) : Option Value → zS → Prop) = FQ
  change Zw p l e { frames := 3, cells := 0, slots := 0, locals := 80 * (3) } s m args below meth c G b 2 (MQ below (zQ G b FQ) args s 0 0 (fun q : Nat => b ≤ q)) 0 0 0 [some (.ref P), some (.int v0)] [] (L, M, N)
  have p_lt := hP.1
  have p_o := hP.2.1
  unfold D_X8_split at h
  refine a_aload_n X dX8_split_0 rfl ?_
  refine a_iload_n X dX8_split_1 rfl ?_
  obtain ⟨e_2, f_2, h⟩ := zBx h
  refine a_callVx X dX8_split_2 miX8_isParty lm8_463 (t_X8_isParty (by first | exact hP | assumption) f_2) (by first | exact p_o | assumption) rfl rfl rfl (Nat.le_of_ble_eq_true rfl) ⟨by decide, by decide, by decide, by decide⟩ (fun r_2 S_2 q_2 => ?_)
  obtain ⟨rfl, rfl, b_2⟩ := q_2
  refine a_if_ne (tgt := 14) X dX8_split_5 (by decide) (fun h_5 => ?_) (fun h_5 => ?_)
  · replace h := (if_neg h_5).symm.trans h
    refine a_aload_n X dX8_split_14 rfl ?_
    obtain ⟨e_15, f_15, h⟩ := zBx h
    refine a_callVu X dX8_split_15 miX8_keeps lm8_480 (t_X8_keeps (by first | exact hP | assumption) f_15) (by first | exact p_o | assumption) rfl rfl rfl (Nat.le_of_ble_eq_true rfl) ⟨by decide, by decide, by decide, by decide⟩ ?_
    refine a_aload_n X dX8_split_18 rfl ?_
    refine a_iload_n X dX8_split_19 rfl ?_
    obtain ⟨e_20, f_20, h⟩ := zBx h
    refine a_callVu X dX8_split_20 miX8_splits lm8_466 (t_X8_splits (by first | exact hP | assumption) f_20) (by first | exact p_o | assumption) rfl rfl rfl (Nat.le_of_ble_eq_true rfl) ⟨by decide, by decide, by decide, by decide⟩ ?_
    refine a_aload_n X dX8_split_23 rfl ?_
    obtain ⟨e_24, f_24, h⟩ := zBx h
    refine a_callVu X dX8_split_24 miX8_laysApplicants lm8_281 (t_X8_laysApplicants (by first | exact hP | assumption) f_24) (by first | exact p_o | assumption) rfl rfl rfl (Nat.le_of_ble_eq_true rfl) ⟨by decide, by decide, by decide, by decide⟩ ?_
    refine a_aload_n X dX8_split_27 rfl ?_
    refine a_aload_n X dX8_split_28 rfl ?_
    refine a_geti X lf8_275 (by first | exact p_o | assumption) rfl dX8_split_29 ?_
    obtain ⟨e_32, f_32, h⟩ := zBx h
    refine a_callVv X dX8_split_32 miX8_gives lm8_272 (t_X8_gives (by first | exact hP | assumption) f_32) (by first | exact p_o | assumption) rfl rfl rfl (Nat.le_of_ble_eq_true rfl) ⟨by decide, by decide, by decide, by decide⟩ ?_
    refine a_iret X hr dX8_split_35 ⟨by decide, by decide⟩ ?_
    subst hF
    rw [← Option.some.inj h]
    exact ⟨rfl, rfl⟩
  · replace h := (if_pos h_5).symm.trans h
    refine a_aload_n X dX8_split_8 rfl ?_
    refine a_iconst (v := 2) X dX8_split_9 (by decide) ?_
    obtain ⟨e_10, f_10, h⟩ := zBx h
    refine a_callVv X dX8_split_10 miX8_refuse lm8_263 (t_X8_refuse (by first | exact hP | assumption) f_10) (by first | exact p_o | assumption) rfl rfl rfl (Nat.le_of_ble_eq_true rfl) ⟨by decide, by decide, by decide, by decide⟩ ?_
    refine a_iret X hr dX8_split_13 ⟨by decide, by decide⟩ ?_
    subst hF
    rw [← Option.some.inj h]
    exact ⟨rfl, rfl⟩
noncomputable def D_X8_prints (P : Nat) (v0 : Int32) (M : zMt) : Option (zMt) :=
  zI (M P 64) 64 <|
  zLt (zu M (P + 32) (M P 64).toNatClampNeg v0) fun M_9 =>
  zLt (zu M_9 P 64 ((M_9 P 64) + (1 : Int32))) fun M_17 =>
  some (M_17)
set_option maxRecDepth 100000 in
set_option maxHeartbeats 4000000 in
theorem t_X8_prints {l : Launch} {G : zG} {b : Nat} {L : List zC} {M : zMt} {N : zNt} {P : Nat} {v0 : Int32} (hP : LX8 L P) {r : zMt} (h : D_X8_prints P v0 M = some r) : zM l G b yX8_prints cX8_prints 2 none 0 0 0 [.ref P, .int v0] (L, M, N) (fun r2 z => r2 = none ∧ z = (L, r, N)) := by
  refine zM.of miX8_prints (Nat.le_of_ble_eq_true rfl) ?_
  intro p e s m args below meth c X hr hname
  generalize hF : ((fun r2 z => r2 = none ∧ z = (L, r, N)) : Option Value → zS → Prop) = FQ
  change Zw p l e { frames := 0, cells := 0, slots := 0, locals := 80 * (0) } s m args below meth c G b 2 (MQ below (zQ G b FQ) args s 0 0 (fun q : Nat => b ≤ q)) 0 0 0 [some (.ref P), some (.int v0)] [] (L, M, N)
  have p_lt := hP.1
  have p_o := hP.2.1
  have p_out := hP.2.2.2.2.2.2.2.2.2.2.2.2.2.2.2.2.2.2.2.2.2.2.2.2.2.2.2.2.2.2.2.2.2
  unfold D_X8_prints at h
  refine a_aload_n X dX8_prints_0 rfl ?_
  refine a_getr X lf8_112 (by first | exact p_o | assumption) rfl (by omega) dX8_prints_1 ?_
  refine a_aload_n X dX8_prints_4 rfl ?_
  refine a_geti X lf8_488 (by first | exact p_o | assumption) rfl dX8_prints_5 ?_
  refine a_iload_n X dX8_prints_8 rfl ?_
  obtain ⟨g_9, h⟩ := zIx h
  obtain ⟨M_9, f_9, h⟩ := zLtx h
  refine d_iastore X (by first | exact p_out | assumption) g_9 dX8_prints_9 f_9 ?_
  refine a_aload_n X dX8_prints_10 rfl ?_
  refine a_dup X dX8_prints_11 rfl ?_
  refine a_geti X lf8_488 (by first | exact p_o | assumption) rfl dX8_prints_12 ?_
  refine a_iconst (v := 1) X dX8_prints_15 (by decide) ?_
  refine a_iadd X dX8_prints_16 ?_
  obtain ⟨M_17, f_17, h⟩ := zLtx h
  refine d_puti X lf8_488 (by first | exact p_o | assumption) rfl dX8_prints_17 f_17 ?_
  refine a_vret X hr dX8_prints_20 ⟨by decide, by decide⟩ ?_
  subst hF
  rw [← Option.some.inj h]
  exact ⟨rfl, rfl⟩
noncomputable def D_X8_print_98 (P : Nat) (k25 : Int32 → zMt → zNt → Option (Int32 × zMt × zNt)) (x2_98 : Int32) (M_98 : zMt) (N_98 : zNt) : Option (Int32 × zMt × zNt) :=
  zB (D_X8_prints P (59 : Int32) M_98) fun e_101 =>
  k25 (x2_98 + 1) e_101 N_98
noncomputable def D_X8_print_79 (P : Nat) (k25 : Int32 → zMt → zNt → Option (Int32 × zMt × zNt)) (x2_79 : Int32) (x3_79 : Int32) (y1_79 : Int32) (M_79 : zMt) (N_79 : zNt) : Option (Int32 × zMt × zNt) :=
  zB (D_X8_prints P y1_79 M_79) fun e_79 =>
  zI x3_79 10 <|
  if (e_79 (P + 20) x3_79.toNatClampNeg) = (1 : Int32) then
    zB (D_X8_prints P (33 : Int32) e_79) fun e_95 =>
    D_X8_print_98 P k25 x2_79 e_95 N_79
  else
    D_X8_print_98 P k25 x2_79 e_79 N_79
noncomputable def D_X8_print_25 (P : Nat) : Nat → Int32 → zMt → zNt → Option (Int32 × zMt × zNt)
  | 0, _, _, _ => none
  | n + 1, x2_25, M_25, N_25 =>
    if (M_25 P 33) ≤ x2_25 then
      zB (D_X8_gives P (M_25 P 64) M_25) fun e_115 =>
      some (e_115.1, e_115.2, N_25)
    else
      zI x2_25 10 <|
      zB (D_X8_prints P ((48 : Int32) + (M_25 (P + 18) x2_25.toNatClampNeg)) M_25) fun e_45 =>
      zB (D_X8_prints P (61 : Int32) e_45) fun e_51 =>
      zI (M_25 (P + 18) x2_25.toNatClampNeg) 10 <|
      if (e_51 (P + 19) (M_25 (P + 18) x2_25.toNatClampNeg).toNatClampNeg) = (-1 : Int32) then
        D_X8_print_79 P (D_X8_print_25 P n) x2_25 (M_25 (P + 18) x2_25.toNatClampNeg) (45 : Int32) e_51 N_25
      else
        zI (M_25 (P + 18) x2_25.toNatClampNeg) 10 <|
        D_X8_print_79 P (D_X8_print_25 P n) x2_25 (M_25 (P + 18) x2_25.toNatClampNeg) ((48 : Int32) + (e_51 (P + 19) (M_25 (P + 18) x2_25.toNatClampNeg).toNatClampNeg)) e_51 N_25
noncomputable def D_X8_print (P : Nat) (v0 : Int32) (M : zMt) (N : zNt) : Option (Int32 × zMt × zNt) :=
  zB (D_X8_isSeed v0) fun e_1 =>
  if e_1 = 0 then
    zB (D_X8_refuse P (1 : Int32) M) fun e_9 =>
    some (e_9.1, e_9.2, N)
  else
    zB (D_X8_laysResult P v0 M N) fun e_15 =>
    zLt (zu e_15.1 P 64 (0 : Int32)) fun M_20 =>
    D_X8_print_25 P zFu (0 : Int32) M_20 e_15.2
set_option maxRecDepth 100000 in
set_option maxHeartbeats 4000000 in
theorem t_X8_print {l : Launch} {G : zG} {b : Nat} {L : List zC} {M : zMt} {N : zNt} {P : Nat} {v0 : Int32} (hP : LX8 L P) {r : Int32 × zMt × zNt} (h : D_X8_print P v0 M N = some r) : zM l G b yX8_print cX8_print 4 (some .int) 5 0 0 [.ref P, .int v0] (L, M, N) (fun r2 z => r2 = some (.int r.1) ∧ z = (L, r.2.1, r.2.2)) := by
  refine zM.of miX8_print (Nat.le_of_ble_eq_true rfl) ?_
  intro p e s m args below meth c X hr hname
  generalize hF : ((fun r2 z => r2 = some (.int r.1) ∧ z = (L, r.2.1, r.2.2)) : Option Value → zS → Prop) = FQ
  change Zw p l e { frames := 5, cells := 0, slots := 0, locals := 80 * (5) } s m args below meth c G b 4 (MQ below (zQ G b FQ) args s 0 0 (fun q : Nat => b ≤ q)) 0 0 0 [some (.ref P), some (.int v0), none, none] [] (L, M, N)
  have p_lt := hP.1
  have p_o := hP.2.1
  have p_ord := hP.2.2.2.2.2.2.2.2.2.2.2.2.2.2.2.2.2.2.2.1
  have p_given := hP.2.2.2.2.2.2.2.2.2.2.2.2.2.2.2.2.2.2.2.2.1
  have p_roundOf := hP.2.2.2.2.2.2.2.2.2.2.2.2.2.2.2.2.2.2.2.2.2.1
  have L_25 : ∀ u : Nat, ∀ (x1_25 : Int32) (x2_25 : Int32) (x3_25 : Option Value) (M_25 : zMt) (N_25 : zNt), D_X8_print_25 P u x2_25 M_25 N_25 = some r → Zw p l e { frames := 5, cells := 0, slots := 0, locals := 80 * (5) } s m args below meth c G b 4 (MQ below (zQ G b FQ) args s 0 0 (fun q : Nat => b ≤ q)) 0 0 25 [some (.ref (P)), some (.int x1_25), some (.int x2_25), x3_25] [] (L, M_25, N_25) := by
    intro u
    induction u with
    | zero => intro x1_25 x2_25 x3_25 M_25 N_25 h; cases (show none = some r from h)
    | succ u_25 ih_25 =>
      have J_98 : ∀ (x1_98 : Int32) (x2_98 : Int32) (x3_98 : Int32) (M_98 : zMt) (N_98 : zNt), D_X8_print_98 P (D_X8_print_25 P u_25) x2_98 M_98 N_98 = some r → Zw p l e { frames := 5, cells := 0, slots := 0, locals := 80 * (5) } s m args below meth c G b 4 (MQ below (zQ G b FQ) args s 0 0 (fun q : Nat => b ≤ q)) 0 0 98 [some (.ref (P)), some (.int x1_98), some (.int x2_98), some (.int x3_98)] [] (L, M_98, N_98) := by
        intro x1_98 x2_98 x3_98 M_98 N_98 h
        unfold D_X8_print_98 at h
        refine a_aload_n X dX8_print_98 rfl ?_
        refine a_bipush (v := 59) X dX8_print_99 (by decide) ?_
        obtain ⟨e_101, f_101, h⟩ := zBx h
        refine a_callVu X dX8_print_101 miX8_prints lm8_491 (t_X8_prints (by first | exact hP | assumption) f_101) (by first | exact p_o | assumption) rfl rfl rfl (Nat.le_of_ble_eq_true rfl) ⟨by decide, by decide, by decide, by decide⟩ ?_
        refine a_iinc (v := x2_98 + 1) X dX8_print_104 (by decide) rfl zi_1 ?_
        refine a_goto (tgt := 25) X dX8_print_107 (by decide) ?_
        exact Zw.to2 (ih_25 _ _ _ _ _ h) rfl rfl rfl
      have J_79 : ∀ (x1_79 : Int32) (x2_79 : Int32) (x3_79 : Int32) (y1_79 : Int32) (M_79 : zMt) (N_79 : zNt), D_X8_print_79 P (D_X8_print_25 P u_25) x2_79 x3_79 y1_79 M_79 N_79 = some r → Zw p l e { frames := 5, cells := 0, slots := 0, locals := 80 * (5) } s m args below meth c G b 4 (MQ below (zQ G b FQ) args s 0 0 (fun q : Nat => b ≤ q)) 0 0 79 [some (.ref (P)), some (.int x1_79), some (.int x2_79), some (.int x3_79)] [.int y1_79, .ref (P)] (L, M_79, N_79) := by
        intro x1_79 x2_79 x3_79 y1_79 M_79 N_79 h
        unfold D_X8_print_79 at h
        obtain ⟨e_79, f_79, h⟩ := zBx h
        refine a_callVu X dX8_print_79 miX8_prints lm8_491 (t_X8_prints (by first | exact hP | assumption) f_79) (by first | exact p_o | assumption) rfl rfl rfl (Nat.le_of_ble_eq_true rfl) ⟨by decide, by decide, by decide, by decide⟩ ?_
        refine a_aload_n X dX8_print_82 rfl ?_
        refine a_getr X lf8_76 (by first | exact p_o | assumption) rfl (by omega) dX8_print_83 ?_
        refine a_iload_n X dX8_print_86 rfl ?_
        obtain ⟨g_87, h⟩ := zIx h
        refine a_iaload X (by first | exact p_roundOf | assumption) g_87 dX8_print_87 ?_
        refine a_iconst (v := 1) X dX8_print_88 (by decide) ?_
        refine a_icmp_ne (tgt := 98) X dX8_print_89 (by decide) (fun h_89 => ?_) (fun h_89 => ?_)
        · replace h := (if_neg h_89).symm.trans h
          exact Zw.to2 (J_98 _ _ _ _ _ h) rfl rfl rfl
        · replace h := (if_pos h_89).symm.trans h
          refine a_aload_n X dX8_print_92 rfl ?_
          refine a_bipush (v := 33) X dX8_print_93 (by decide) ?_
          obtain ⟨e_95, f_95, h⟩ := zBx h
          refine a_callVu X dX8_print_95 miX8_prints lm8_491 (t_X8_prints (by first | exact hP | assumption) f_95) (by first | exact p_o | assumption) rfl rfl rfl (Nat.le_of_ble_eq_true rfl) ⟨by decide, by decide, by decide, by decide⟩ ?_
          exact Zw.to2 (J_98 _ _ _ _ _ h) rfl rfl rfl
      intro x1_25 x2_25 x3_25 M_25 N_25 h
      rw [D_X8_print_25] at h
      refine a_iload_n X dX8_print_25 rfl ?_
      refine a_aload_n X dX8_print_26 rfl ?_
      refine a_geti X lf8_275 (by first | exact p_o | assumption) rfl dX8_print_27 ?_
      refine a_icmp_ge (tgt := 110) X dX8_print_30 (by decide) (fun h_30 => ?_) (fun h_30 => ?_)
      · replace h := (if_pos h_30).symm.trans h
        refine a_aload_n X dX8_print_110 rfl ?_
        refine a_aload_n X dX8_print_111 rfl ?_
        refine a_geti X lf8_488 (by first | exact p_o | assumption) rfl dX8_print_112 ?_
        obtain ⟨e_115, f_115, h⟩ := zBx h
        refine a_callVv X dX8_print_115 miX8_gives lm8_272 (t_X8_gives (by first | exact hP | assumption) f_115) (by first | exact p_o | assumption) rfl rfl rfl (Nat.le_of_ble_eq_true rfl) ⟨by decide, by decide, by decide, by decide⟩ ?_
        refine a_iret X hr dX8_print_118 ⟨by decide, by decide⟩ ?_
        subst hF
        rw [← Option.some.inj h]
        exact ⟨rfl, rfl⟩
      · replace h := (if_neg h_30).symm.trans h
        refine a_aload_n X dX8_print_33 rfl ?_
        refine a_getr X lf8_70 (by first | exact p_o | assumption) rfl (by omega) dX8_print_34 ?_
        refine a_iload_n X dX8_print_37 rfl ?_
        obtain ⟨g_38, h⟩ := zIx h
        refine a_iaload X (by first | exact p_ord | assumption) g_38 dX8_print_38 ?_
        refine a_istore_n X dX8_print_39 (by decide) ?_
        refine a_aload_n X dX8_print_40 rfl ?_
        refine a_bipush (v := 48) X dX8_print_41 (by decide) ?_
        refine a_iload_n X dX8_print_43 rfl ?_
        refine a_iadd X dX8_print_44 ?_
        obtain ⟨e_45, f_45, h⟩ := zBx h
        refine a_callVu X dX8_print_45 miX8_prints lm8_491 (t_X8_prints (by first | exact hP | assumption) f_45) (by first | exact p_o | assumption) rfl rfl rfl (Nat.le_of_ble_eq_true rfl) ⟨by decide, by decide, by decide, by decide⟩ ?_
        refine a_aload_n X dX8_print_48 rfl ?_
        refine a_bipush (v := 61) X dX8_print_49 (by decide) ?_
        obtain ⟨e_51, f_51, h⟩ := zBx h
        refine a_callVu X dX8_print_51 miX8_prints lm8_491 (t_X8_prints (by first | exact hP | assumption) f_51) (by first | exact p_o | assumption) rfl rfl rfl (Nat.le_of_ble_eq_true rfl) ⟨by decide, by decide, by decide, by decide⟩ ?_
        refine a_aload_n X dX8_print_54 rfl ?_
        refine a_aload_n X dX8_print_55 rfl ?_
        refine a_getr X lf8_73 (by first | exact p_o | assumption) rfl (by omega) dX8_print_56 ?_
        refine a_iload_n X dX8_print_59 rfl ?_
        obtain ⟨g_60, h⟩ := zIx h
        refine a_iaload X (by first | exact p_given | assumption) g_60 dX8_print_60 ?_
        refine a_iconst (v := -1) X dX8_print_61 (by decide) ?_
        refine a_icmp_ne (tgt := 70) X dX8_print_62 (by decide) (fun h_62 => ?_) (fun h_62 => ?_)
        · replace h := (if_neg h_62).symm.trans h
          refine a_bipush (v := 48) X dX8_print_70 (by decide) ?_
          refine a_aload_n X dX8_print_72 rfl ?_
          refine a_getr X lf8_73 (by first | exact p_o | assumption) rfl (by omega) dX8_print_73 ?_
          refine a_iload_n X dX8_print_76 rfl ?_
          obtain ⟨g_77, h⟩ := zIx h
          refine a_iaload X (by first | exact p_given | assumption) g_77 dX8_print_77 ?_
          refine a_iadd X dX8_print_78 ?_
          exact Zw.to2 (J_79 _ _ _ _ _ _ h) rfl rfl rfl
        · replace h := (if_pos h_62).symm.trans h
          refine a_bipush (v := 45) X dX8_print_65 (by decide) ?_
          refine a_goto (tgt := 79) X dX8_print_67 (by decide) ?_
          exact Zw.to2 (J_79 _ _ _ _ _ _ h) rfl rfl rfl
  have H_25 : ∀ (x1_25 : Int32) (x2_25 : Int32) (x3_25 : Option Value) (M_25 : zMt) (N_25 : zNt), D_X8_print_25 P zFu x2_25 M_25 N_25 = some r → Zw p l e { frames := 5, cells := 0, slots := 0, locals := 80 * (5) } s m args below meth c G b 4 (MQ below (zQ G b FQ) args s 0 0 (fun q : Nat => b ≤ q)) 0 0 25 [some (.ref (P)), some (.int x1_25), some (.int x2_25), x3_25] [] (L, M_25, N_25) := L_25 zFu
  unfold D_X8_print at h
  refine a_iload_n X dX8_print_0 rfl ?_
  obtain ⟨e_1, f_1, h⟩ := zBx h
  refine a_callSx X dX8_print_1 miX8_isSeed lm8_358 (t_X8_isSeed f_1) rfl rfl (Nat.le_of_ble_eq_true rfl) ⟨by decide, by decide, by decide, by decide⟩ (fun r_1 S_1 q_1 => ?_)
  obtain ⟨rfl, rfl, b_1⟩ := q_1
  refine a_if_ne (tgt := 13) X dX8_print_4 (by decide) (fun h_4 => ?_) (fun h_4 => ?_)
  · replace h := (if_neg h_4).symm.trans h
    refine a_aload_n X dX8_print_13 rfl ?_
    refine a_iload_n X dX8_print_14 rfl ?_
    obtain ⟨e_15, f_15, h⟩ := zBx h
    refine a_callVu X dX8_print_15 miX8_laysResult lm8_361 (t_X8_laysResult (by first | exact hP | assumption) f_15) (by first | exact p_o | assumption) rfl rfl rfl (Nat.le_of_ble_eq_true rfl) ⟨by decide, by decide, by decide, by decide⟩ ?_
    refine a_aload_n X dX8_print_18 rfl ?_
    refine a_iconst (v := 0) X dX8_print_19 (by decide) ?_
    obtain ⟨M_20, f_20, h⟩ := zLtx h
    refine d_puti X lf8_488 (by first | exact p_o | assumption) rfl dX8_print_20 f_20 ?_
    refine a_iconst (v := 0) X dX8_print_23 (by decide) ?_
    refine a_istore_n X dX8_print_24 (by decide) ?_
    exact Zw.to2 (H_25 _ _ _ _ _ h) rfl rfl rfl
  · replace h := (if_pos h_4).symm.trans h
    refine a_aload_n X dX8_print_7 rfl ?_
    refine a_iconst (v := 1) X dX8_print_8 (by decide) ?_
    obtain ⟨e_9, f_9, h⟩ := zBx h
    refine a_callVv X dX8_print_9 miX8_refuse lm8_263 (t_X8_refuse (by first | exact hP | assumption) f_9) (by first | exact p_o | assumption) rfl rfl rfl (Nat.le_of_ble_eq_true rfl) ⟨by decide, by decide, by decide, by decide⟩ ?_
    refine a_iret X hr dX8_print_12 ⟨by decide, by decide⟩ ?_
    subst hF
    rw [← Option.some.inj h]
    exact ⟨rfl, rfl⟩
noncomputable def D_X8_out_36 (P : Nat) (y0_36 : Int32) (M_36 : zMt) : Option (Int32 × zMt) :=
  some (y0_36, M_36)
noncomputable def D_X8_out (P : Nat) (v0 : Int32) (M : zMt) : Option (Int32 × zMt) :=
  if 0 ≤ v0 then
    if (M P 64) ≤ v0 then
      zB (D_X8_refuse P (5 : Int32) M) fun e_33 =>
      D_X8_out_36 P e_33.1 e_33.2
    else
      zI v0 64 <|
      zB (D_X8_gives P (M (P + 32) v0.toNatClampNeg) M) fun e_25 =>
      D_X8_out_36 P e_25.1 e_25.2
  else
    zB (D_X8_refuse P (1 : Int32) M) fun e_6 =>
    some (e_6.1, e_6.2)
set_option maxRecDepth 100000 in
set_option maxHeartbeats 4000000 in
theorem t_X8_out {l : Launch} {G : zG} {b : Nat} {L : List zC} {M : zMt} {N : zNt} {P : Nat} {v0 : Int32} (hP : LX8 L P) {r : Int32 × zMt} (h : D_X8_out P v0 M = some r) : zM l G b yX8_out cX8_out 2 (some .int) 1 0 0 [.ref P, .int v0] (L, M, N) (fun r2 z => r2 = some (.int r.1) ∧ z = (L, r.2, N)) := by
  refine zM.of miX8_out (Nat.le_of_ble_eq_true rfl) ?_
  intro p e s m args below meth c X hr hname
  generalize hF : ((fun r2 z => r2 = some (.int r.1) ∧ z = (L, r.2, N)) : Option Value → zS → Prop) = FQ
  change Zw p l e { frames := 1, cells := 0, slots := 0, locals := 80 * (1) } s m args below meth c G b 2 (MQ below (zQ G b FQ) args s 0 0 (fun q : Nat => b ≤ q)) 0 0 0 [some (.ref P), some (.int v0)] [] (L, M, N)
  have p_lt := hP.1
  have p_o := hP.2.1
  have p_out := hP.2.2.2.2.2.2.2.2.2.2.2.2.2.2.2.2.2.2.2.2.2.2.2.2.2.2.2.2.2.2.2.2.2
  have J_36 : ∀ (x1_36 : Int32) (y0_36 : Int32) (M_36 : zMt), D_X8_out_36 P y0_36 M_36 = some r → Zw p l e { frames := 1, cells := 0, slots := 0, locals := 80 * (1) } s m args below meth c G b 2 (MQ below (zQ G b FQ) args s 0 0 (fun q : Nat => b ≤ q)) 0 0 36 [some (.ref (P)), some (.int x1_36)] [.int y0_36] (L, M_36, N) := by
    intro x1_36 y0_36 M_36 h
    unfold D_X8_out_36 at h
    refine a_iret X hr dX8_out_36 ⟨by decide, by decide⟩ ?_
    subst hF
    rw [← Option.some.inj h]
    exact ⟨rfl, rfl⟩
  unfold D_X8_out at h
  refine a_iload_n X dX8_out_0 rfl ?_
  refine a_if_ge (tgt := 10) X dX8_out_1 (by decide) (fun h_1 => ?_) (fun h_1 => ?_)
  · replace h := (if_pos h_1).symm.trans h
    refine a_iload_n X dX8_out_10 rfl ?_
    refine a_aload_n X dX8_out_11 rfl ?_
    refine a_geti X lf8_488 (by first | exact p_o | assumption) rfl dX8_out_12 ?_
    refine a_icmp_ge (tgt := 31) X dX8_out_15 (by decide) (fun h_15 => ?_) (fun h_15 => ?_)
    · replace h := (if_pos h_15).symm.trans h
      refine a_aload_n X dX8_out_31 rfl ?_
      refine a_iconst (v := 5) X dX8_out_32 (by decide) ?_
      obtain ⟨e_33, f_33, h⟩ := zBx h
      refine a_callVv X dX8_out_33 miX8_refuse lm8_263 (t_X8_refuse (by first | exact hP | assumption) f_33) (by first | exact p_o | assumption) rfl rfl rfl (Nat.le_of_ble_eq_true rfl) ⟨by decide, by decide, by decide, by decide⟩ ?_
      exact Zw.to2 (J_36 _ _ _ h) rfl rfl rfl
    · replace h := (if_neg h_15).symm.trans h
      refine a_aload_n X dX8_out_18 rfl ?_
      refine a_aload_n X dX8_out_19 rfl ?_
      refine a_getr X lf8_112 (by first | exact p_o | assumption) rfl (by omega) dX8_out_20 ?_
      refine a_iload_n X dX8_out_23 rfl ?_
      obtain ⟨g_24, h⟩ := zIx h
      refine a_iaload X (by first | exact p_out | assumption) g_24 dX8_out_24 ?_
      obtain ⟨e_25, f_25, h⟩ := zBx h
      refine a_callVv X dX8_out_25 miX8_gives lm8_272 (t_X8_gives (by first | exact hP | assumption) f_25) (by first | exact p_o | assumption) rfl rfl rfl (Nat.le_of_ble_eq_true rfl) ⟨by decide, by decide, by decide, by decide⟩ ?_
      refine a_goto (tgt := 36) X dX8_out_28 (by decide) ?_
      exact Zw.to2 (J_36 _ _ _ h) rfl rfl rfl
  · replace h := (if_neg h_1).symm.trans h
    refine a_aload_n X dX8_out_4 rfl ?_
    refine a_iconst (v := 1) X dX8_out_5 (by decide) ?_
    obtain ⟨e_6, f_6, h⟩ := zBx h
    refine a_callVv X dX8_out_6 miX8_refuse lm8_263 (t_X8_refuse (by first | exact hP | assumption) f_6) (by first | exact p_o | assumption) rfl rfl rfl (Nat.le_of_ble_eq_true rfl) ⟨by decide, by decide, by decide, by decide⟩ ?_
    refine a_iret X hr dX8_out_9 ⟨by decide, by decide⟩ ?_
    subst hF
    rw [← Option.some.inj h]
    exact ⟨rfl, rfl⟩
