noncomputable def D_X0_always_28 (Q : Nat) (M : zMt) (k5 : Int32 → Int32 → Option (Int32)) (x1_28 : Int32) (x2_28 : Int32) : Option (Int32) :=
  k5 x1_28 (x2_28 + 1)
noncomputable def D_X0_always_5 (Q : Nat) (M : zMt) : Nat → Int32 → Int32 → Option (Int32)
  | 0, _, _ => none
  | n + 1, x1_5, x2_5 =>
    if (128 : Int32) ≤ x2_5 then
      some (x1_5)
    else
      if (zrd 0 (M (Q + 2)) 128 x2_5) = (1 : Int32) then
        D_X0_always_28 Q M (D_X0_always_5 Q M n) (x1_5 &&& x2_5) x2_5
      else
        D_X0_always_28 Q M (D_X0_always_5 Q M n) x1_5 x2_5
noncomputable def D_X0_always (Q : Nat) (M : zMt)  : Option (Int32) :=
  D_X0_always_5 Q M zFu (127 : Int32) (0 : Int32)
set_option maxRecDepth 100000 in
set_option maxHeartbeats 4000000 in
theorem t_X0_always {l : Launch} {G : zG} {b : Nat} {L : List zC} {M : zMt} {N : zNt} {Q : Nat}  (hQ : LX0 L Q) {r : Int32} (h : D_X0_always Q M = some r) : zM l G b yX0_always cX0_always 3 (some .int) 1 0 0 [.ref Q] (L, M, N) (fun r2 z => r2 = some (.int r) ∧ z = (L, M, N)) := by
  refine zM.of miX0_always (Nat.le_of_ble_eq_true rfl) ?_
  intro p e s m args below meth c X hr hname
  generalize hF : ((fun r2 z => r2 = some (.int r) ∧ z = (L, M, N)) : Option Value → zS → Prop) = FQ
  change Zw p l e { frames := 1, cells := 0, slots := 0, locals := 80 * (1) } s m args below meth c G b 3 (MQ below (zQ G b FQ) args s 0 0 (fun q : Nat => b ≤ q)) 0 0 0 [some (.ref Q), none, none] [] (L, M, N)
  obtain ⟨q_lt, q_o, q_sets, q_seen, q_atUnit, q_early, q_result⟩ := id hQ
  obtain ⟨q_result_lt, q_result_o, q_result_line, q_result_unitOf, q_result_roundOf, q_result_leftTags, q_result_leftGuests, q_result_leftPreferred, q_result_ranked⟩ := id q_result
  have L_5 : ∀ u : Nat, ∀ (x1_5 : Int32) (x2_5 : Int32), D_X0_always_5 Q M u x1_5 x2_5 = some r → Zw p l e { frames := 1, cells := 0, slots := 0, locals := 80 * (1) } s m args below meth c G b 3 (MQ below (zQ G b FQ) args s 0 0 (fun q : Nat => b ≤ q)) 0 0 5 [some (.ref (Q)), some (.int x1_5), some (.int x2_5)] [] (L, M, N) := by
    intro u
    induction u with
    | zero => intro x1_5 x2_5 h; cases (show none = some r from h)
    | succ u_5 ih_5 =>
      have J_28 : ∀ (x1_28 : Int32) (x2_28 : Int32), D_X0_always_28 Q M (D_X0_always_5 Q M u_5) x1_28 x2_28 = some r → Zw p l e { frames := 1, cells := 0, slots := 0, locals := 80 * (1) } s m args below meth c G b 3 (MQ below (zQ G b FQ) args s 0 0 (fun q : Nat => b ≤ q)) 0 0 28 [some (.ref (Q)), some (.int x1_28), some (.int x2_28)] [] (L, M, N) := by
        intro x1_28 x2_28 h
        unfold D_X0_always_28 at h
        refine a_iinc (v := x2_28 + 1) X dX0_always_28 (by decide) rfl zi_1 ?_
        refine a_goto (tgt := 5) X dX0_always_31 (by decide) ?_
        exact Zw.to2 (ih_5 _ _ h) rfl rfl rfl
      intro x1_5 x2_5 h
      rw [D_X0_always_5] at h
      refine a_iload_n X dX0_always_5 rfl ?_
      refine a_sipush (v := 128) X dX0_always_6 (by decide) ?_
      refine a_icmp_ge (tgt := 34) X dX0_always_9 (by decide) (fun h_9 => ?_) (fun h_9 => ?_)
      · replace h := (if_pos h_9).symm.trans h
        refine a_iload_n X dX0_always_34 rfl ?_
        refine a_iret X hr dX0_always_35 ⟨by decide, by decide⟩ ?_
        subst hF
        rw [← Option.some.inj h]
        exact ⟨rfl, rfl⟩
      · replace h := (if_neg h_9).symm.trans h
        refine a_aload_n X dX0_always_12 rfl ?_
        refine a_getr X lf0_15 (by assumption) rfl (by omega) dX0_always_13 ?_
        refine a_iload_n X dX0_always_16 rfl ?_
        refine a_callSNv X dX0_always_17 miX7_cell lm0_66 (c_cell (by assumption) (by first | decide | assumption)) rfl rfl (Nat.le_of_ble_eq_true rfl) ⟨by decide, by decide, by decide, by decide⟩ ?_
        refine a_iconst (v := 1) X dX0_always_20 (by decide) ?_
        refine a_icmp_ne (tgt := 28) X dX0_always_21 (by decide) (fun h_21 => ?_) (fun h_21 => ?_)
        · replace h := (if_neg h_21).symm.trans h
          exact Zw.to2 (J_28 _ _ h) rfl rfl rfl
        · replace h := (if_pos h_21).symm.trans h
          refine a_iload_n X dX0_always_24 rfl ?_
          refine a_iload_n X dX0_always_25 rfl ?_
          refine a_iand X dX0_always_26 ?_
          refine a_istore_n X dX0_always_27 (by decide) ?_
          exact Zw.to2 (J_28 _ _ h) rfl rfl rfl
  have H_5 : ∀ (x1_5 : Int32) (x2_5 : Int32), D_X0_always_5 Q M zFu x1_5 x2_5 = some r → Zw p l e { frames := 1, cells := 0, slots := 0, locals := 80 * (1) } s m args below meth c G b 3 (MQ below (zQ G b FQ) args s 0 0 (fun q : Nat => b ≤ q)) 0 0 5 [some (.ref (Q)), some (.int x1_5), some (.int x2_5)] [] (L, M, N) := L_5 zFu
  unfold D_X0_always at h
  refine a_bipush (v := 127) X dX0_always_0 (by decide) ?_
  refine a_istore_n X dX0_always_2 (by decide) ?_
  refine a_iconst (v := 0) X dX0_always_3 (by decide) ?_
  refine a_istore_n X dX0_always_4 (by decide) ?_
  exact Zw.to2 (H_5 _ _ h) rfl rfl rfl
noncomputable def D_X0_ever_27 (Q : Nat) (M : zMt) (k4 : Int32 → Int32 → Option (Int32)) (x1_27 : Int32) (x2_27 : Int32) : Option (Int32) :=
  k4 x1_27 (x2_27 + 1)
noncomputable def D_X0_ever_4 (Q : Nat) (M : zMt) : Nat → Int32 → Int32 → Option (Int32)
  | 0, _, _ => none
  | n + 1, x1_4, x2_4 =>
    if (128 : Int32) ≤ x2_4 then
      some (x1_4)
    else
      if (zrd 0 (M (Q + 2)) 128 x2_4) = (1 : Int32) then
        D_X0_ever_27 Q M (D_X0_ever_4 Q M n) (x1_4 ||| x2_4) x2_4
      else
        D_X0_ever_27 Q M (D_X0_ever_4 Q M n) x1_4 x2_4
noncomputable def D_X0_ever (Q : Nat) (M : zMt)  : Option (Int32) :=
  D_X0_ever_4 Q M zFu (0 : Int32) (0 : Int32)
set_option maxRecDepth 100000 in
set_option maxHeartbeats 4000000 in
theorem t_X0_ever {l : Launch} {G : zG} {b : Nat} {L : List zC} {M : zMt} {N : zNt} {Q : Nat}  (hQ : LX0 L Q) {r : Int32} (h : D_X0_ever Q M = some r) : zM l G b yX0_ever cX0_ever 3 (some .int) 1 0 0 [.ref Q] (L, M, N) (fun r2 z => r2 = some (.int r) ∧ z = (L, M, N)) := by
  refine zM.of miX0_ever (Nat.le_of_ble_eq_true rfl) ?_
  intro p e s m args below meth c X hr hname
  generalize hF : ((fun r2 z => r2 = some (.int r) ∧ z = (L, M, N)) : Option Value → zS → Prop) = FQ
  change Zw p l e { frames := 1, cells := 0, slots := 0, locals := 80 * (1) } s m args below meth c G b 3 (MQ below (zQ G b FQ) args s 0 0 (fun q : Nat => b ≤ q)) 0 0 0 [some (.ref Q), none, none] [] (L, M, N)
  obtain ⟨q_lt, q_o, q_sets, q_seen, q_atUnit, q_early, q_result⟩ := id hQ
  obtain ⟨q_result_lt, q_result_o, q_result_line, q_result_unitOf, q_result_roundOf, q_result_leftTags, q_result_leftGuests, q_result_leftPreferred, q_result_ranked⟩ := id q_result
  have L_4 : ∀ u : Nat, ∀ (x1_4 : Int32) (x2_4 : Int32), D_X0_ever_4 Q M u x1_4 x2_4 = some r → Zw p l e { frames := 1, cells := 0, slots := 0, locals := 80 * (1) } s m args below meth c G b 3 (MQ below (zQ G b FQ) args s 0 0 (fun q : Nat => b ≤ q)) 0 0 4 [some (.ref (Q)), some (.int x1_4), some (.int x2_4)] [] (L, M, N) := by
    intro u
    induction u with
    | zero => intro x1_4 x2_4 h; cases (show none = some r from h)
    | succ u_4 ih_4 =>
      have J_27 : ∀ (x1_27 : Int32) (x2_27 : Int32), D_X0_ever_27 Q M (D_X0_ever_4 Q M u_4) x1_27 x2_27 = some r → Zw p l e { frames := 1, cells := 0, slots := 0, locals := 80 * (1) } s m args below meth c G b 3 (MQ below (zQ G b FQ) args s 0 0 (fun q : Nat => b ≤ q)) 0 0 27 [some (.ref (Q)), some (.int x1_27), some (.int x2_27)] [] (L, M, N) := by
        intro x1_27 x2_27 h
        unfold D_X0_ever_27 at h
        refine a_iinc (v := x2_27 + 1) X dX0_ever_27 (by decide) rfl zi_1 ?_
        refine a_goto (tgt := 4) X dX0_ever_30 (by decide) ?_
        exact Zw.to2 (ih_4 _ _ h) rfl rfl rfl
      intro x1_4 x2_4 h
      rw [D_X0_ever_4] at h
      refine a_iload_n X dX0_ever_4 rfl ?_
      refine a_sipush (v := 128) X dX0_ever_5 (by decide) ?_
      refine a_icmp_ge (tgt := 33) X dX0_ever_8 (by decide) (fun h_8 => ?_) (fun h_8 => ?_)
      · replace h := (if_pos h_8).symm.trans h
        refine a_iload_n X dX0_ever_33 rfl ?_
        refine a_iret X hr dX0_ever_34 ⟨by decide, by decide⟩ ?_
        subst hF
        rw [← Option.some.inj h]
        exact ⟨rfl, rfl⟩
      · replace h := (if_neg h_8).symm.trans h
        refine a_aload_n X dX0_ever_11 rfl ?_
        refine a_getr X lf0_15 (by assumption) rfl (by omega) dX0_ever_12 ?_
        refine a_iload_n X dX0_ever_15 rfl ?_
        refine a_callSNv X dX0_ever_16 miX7_cell lm0_66 (c_cell (by assumption) (by first | decide | assumption)) rfl rfl (Nat.le_of_ble_eq_true rfl) ⟨by decide, by decide, by decide, by decide⟩ ?_
        refine a_iconst (v := 1) X dX0_ever_19 (by decide) ?_
        refine a_icmp_ne (tgt := 27) X dX0_ever_20 (by decide) (fun h_20 => ?_) (fun h_20 => ?_)
        · replace h := (if_neg h_20).symm.trans h
          exact Zw.to2 (J_27 _ _ h) rfl rfl rfl
        · replace h := (if_pos h_20).symm.trans h
          refine a_iload_n X dX0_ever_23 rfl ?_
          refine a_iload_n X dX0_ever_24 rfl ?_
          refine a_ior X dX0_ever_25 ?_
          refine a_istore_n X dX0_ever_26 (by decide) ?_
          exact Zw.to2 (J_27 _ _ h) rfl rfl rfl
  have H_4 : ∀ (x1_4 : Int32) (x2_4 : Int32), D_X0_ever_4 Q M zFu x1_4 x2_4 = some r → Zw p l e { frames := 1, cells := 0, slots := 0, locals := 80 * (1) } s m args below meth c G b 3 (MQ below (zQ G b FQ) args s 0 0 (fun q : Nat => b ≤ q)) 0 0 4 [some (.ref (Q)), some (.int x1_4), some (.int x2_4)] [] (L, M, N) := L_4 zFu
  unfold D_X0_ever at h
  refine a_iconst (v := 0) X dX0_ever_0 (by decide) ?_
  refine a_istore_n X dX0_ever_1 (by decide) ?_
  refine a_iconst (v := 0) X dX0_ever_2 (by decide) ?_
  refine a_istore_n X dX0_ever_3 (by decide) ?_
  exact Zw.to2 (H_4 _ _ h) rfl rfl rfl
noncomputable def D_X0_tagsOf_34 (Q : Nat) (M : zMt) (k4 : Int32 → Int32 → Int32 → Option (Int32)) (x1_34 : Int32) (x3_34 : Int32) (y0_34 : Int32) (y1_34 : Int32) : Option (Int32) :=
  k4 x1_34 (y0_34 + y1_34) (x3_34 + 1)
noncomputable def D_X0_tagsOf_4 (Q : Nat) (M : zMt) : Nat → Int32 → Int32 → Int32 → Option (Int32)
  | 0, _, _, _ => none
  | n + 1, x1_4, x2_4, x3_4 =>
    if (M Q 1) ≤ x3_4 then
      some (x2_4)
    else
      if ((x1_4 >>> (x3_4 &&& 31)) &&& (1 : Int32)) = (1 : Int32) then
        D_X0_tagsOf_34 Q M (D_X0_tagsOf_4 Q M n) x1_4 x3_4 x2_4 (zrd 0 (M (Q + 5)) 10 x3_4)
      else
        D_X0_tagsOf_34 Q M (D_X0_tagsOf_4 Q M n) x1_4 x3_4 x2_4 (0 : Int32)
noncomputable def D_X0_tagsOf (Q : Nat) (M : zMt) (v0 : Int32) : Option (Int32) :=
  D_X0_tagsOf_4 Q M zFu v0 (0 : Int32) (0 : Int32)
set_option maxRecDepth 100000 in
set_option maxHeartbeats 4000000 in
theorem t_X0_tagsOf {l : Launch} {G : zG} {b : Nat} {L : List zC} {M : zMt} {N : zNt} {Q : Nat} {v0 : Int32} (hQ : LX2 L Q) {r : Int32} (h : D_X0_tagsOf Q M v0 = some r) : zM l G b yX0_tagsOf cX0_tagsOf 4 (some .int) 1 0 0 [.ref Q, .int v0] (L, M, N) (fun r2 z => r2 = some (.int r) ∧ z = (L, M, N)) := by
  refine zM.of miX0_tagsOf (Nat.le_of_ble_eq_true rfl) ?_
  intro p e s m args below meth c X hr hname
  generalize hF : ((fun r2 z => r2 = some (.int r) ∧ z = (L, M, N)) : Option Value → zS → Prop) = FQ
  change Zw p l e { frames := 1, cells := 0, slots := 0, locals := 80 * (1) } s m args below meth c G b 4 (MQ below (zQ G b FQ) args s 0 0 (fun q : Nat => b ≤ q)) 0 0 0 [some (.ref Q), some (.int v0), none, none] [] (L, M, N)
  obtain ⟨q_lt, q_o, q_quota, q_preferred, q_forGuests, q_applicantOf, q_size, q_guestCount, q_score, q_tickets, q_bits, q_party, q_wishCount, q_wishes⟩ := id hQ
  have L_4 : ∀ u : Nat, ∀ (x1_4 : Int32) (x2_4 : Int32) (x3_4 : Int32), D_X0_tagsOf_4 Q M u x1_4 x2_4 x3_4 = some r → Zw p l e { frames := 1, cells := 0, slots := 0, locals := 80 * (1) } s m args below meth c G b 4 (MQ below (zQ G b FQ) args s 0 0 (fun q : Nat => b ≤ q)) 0 0 4 [some (.ref (Q)), some (.int x1_4), some (.int x2_4), some (.int x3_4)] [] (L, M, N) := by
    intro u
    induction u with
    | zero => intro x1_4 x2_4 x3_4 h; cases (show none = some r from h)
    | succ u_4 ih_4 =>
      have J_34 : ∀ (x1_34 : Int32) (x2_34 : Int32) (x3_34 : Int32) (y0_34 : Int32) (y1_34 : Int32), D_X0_tagsOf_34 Q M (D_X0_tagsOf_4 Q M u_4) x1_34 x3_34 y0_34 y1_34 = some r → Zw p l e { frames := 1, cells := 0, slots := 0, locals := 80 * (1) } s m args below meth c G b 4 (MQ below (zQ G b FQ) args s 0 0 (fun q : Nat => b ≤ q)) 0 0 34 [some (.ref (Q)), some (.int x1_34), some (.int x2_34), some (.int x3_34)] [.int y1_34, .int y0_34] (L, M, N) := by
        intro x1_34 x2_34 x3_34 y0_34 y1_34 h
        unfold D_X0_tagsOf_34 at h
        refine a_iadd X dX0_tagsOf_34 ?_
        refine a_istore_n X dX0_tagsOf_35 (by decide) ?_
        refine a_iinc (v := x3_34 + 1) X dX0_tagsOf_36 (by decide) rfl zi_1 ?_
        refine a_goto (tgt := 4) X dX0_tagsOf_39 (by decide) ?_
        exact Zw.to2 (ih_4 _ _ _ h) rfl rfl rfl
      intro x1_4 x2_4 x3_4 h
      rw [D_X0_tagsOf_4] at h
      refine a_iload_n X dX0_tagsOf_4 rfl ?_
      refine a_aload_n X dX0_tagsOf_5 rfl ?_
      refine a_geti X lf0_40 (by assumption) rfl dX0_tagsOf_6 ?_
      refine a_icmp_ge (tgt := 42) X dX0_tagsOf_9 (by decide) (fun h_9 => ?_) (fun h_9 => ?_)
      · replace h := (if_pos h_9).symm.trans h
        refine a_iload_n X dX0_tagsOf_42 rfl ?_
        refine a_iret X hr dX0_tagsOf_43 ⟨by decide, by decide⟩ ?_
        subst hF
        rw [← Option.some.inj h]
        exact ⟨rfl, rfl⟩
      · replace h := (if_neg h_9).symm.trans h
        refine a_iload_n X dX0_tagsOf_12 rfl ?_
        refine a_iload_n X dX0_tagsOf_13 rfl ?_
        refine a_iload_n X dX0_tagsOf_14 rfl ?_
        refine a_ishr X dX0_tagsOf_15 ?_
        refine a_iconst (v := 1) X dX0_tagsOf_16 (by decide) ?_
        refine a_iand X dX0_tagsOf_17 ?_
        refine a_iconst (v := 1) X dX0_tagsOf_18 (by decide) ?_
        refine a_icmp_ne (tgt := 33) X dX0_tagsOf_19 (by decide) (fun h_19 => ?_) (fun h_19 => ?_)
        · replace h := (if_neg h_19).symm.trans h
          refine a_iconst (v := 0) X dX0_tagsOf_33 (by decide) ?_
          exact Zw.to2 (J_34 _ _ _ _ _ h) rfl rfl rfl
        · replace h := (if_pos h_19).symm.trans h
          refine a_aload_n X dX0_tagsOf_22 rfl ?_
          refine a_getr X lf0_108 (by assumption) rfl (by omega) dX0_tagsOf_23 ?_
          refine a_iload_n X dX0_tagsOf_26 rfl ?_
          refine a_callSNv X dX0_tagsOf_27 miX7_cell lm0_66 (c_cell (by assumption) (by first | decide | assumption)) rfl rfl (Nat.le_of_ble_eq_true rfl) ⟨by decide, by decide, by decide, by decide⟩ ?_
          refine a_goto (tgt := 34) X dX0_tagsOf_30 (by decide) ?_
          exact Zw.to2 (J_34 _ _ _ _ _ h) rfl rfl rfl
  have H_4 : ∀ (x1_4 : Int32) (x2_4 : Int32) (x3_4 : Int32), D_X0_tagsOf_4 Q M zFu x1_4 x2_4 x3_4 = some r → Zw p l e { frames := 1, cells := 0, slots := 0, locals := 80 * (1) } s m args below meth c G b 4 (MQ below (zQ G b FQ) args s 0 0 (fun q : Nat => b ≤ q)) 0 0 4 [some (.ref (Q)), some (.int x1_4), some (.int x2_4), some (.int x3_4)] [] (L, M, N) := L_4 zFu
  unfold D_X0_tagsOf at h
  refine a_iconst (v := 0) X dX0_tagsOf_0 (by decide) ?_
  refine a_istore_n X dX0_tagsOf_1 (by decide) ?_
  refine a_iconst (v := 0) X dX0_tagsOf_2 (by decide) ?_
  refine a_istore_n X dX0_tagsOf_3 (by decide) ?_
  exact Zw.to2 (H_4 _ _ _ h) rfl rfl rfl
noncomputable def D_X0_fewestTags_34 (Q : Nat) (A : Nat) (M : zMt) (k5 : Int32 → Int32 → Option (Int32)) (x2_34 : Int32) (x3_34 : Int32) : Option (Int32) :=
  k5 x2_34 (x3_34 + 1)
noncomputable def D_X0_fewestTags_5 (Q : Nat) (A : Nat) (M : zMt) : Nat → Int32 → Int32 → Option (Int32)
  | 0, _, _ => none
  | n + 1, x2_5, x3_5 =>
    if (128 : Int32) ≤ x3_5 then
      some (x2_5)
    else
      if (zrd 0 (M (Q + 2)) 128 x3_5) = (1 : Int32) then
        zB (D_X0_tagsOf A M x3_5) fun e_27 =>
        D_X0_fewestTags_34 Q A M (D_X0_fewestTags_5 Q A M n) (if e_27 < x2_5 then e_27 else x2_5) x3_5
      else
        D_X0_fewestTags_34 Q A M (D_X0_fewestTags_5 Q A M n) x2_5 x3_5
noncomputable def D_X0_fewestTags (Q : Nat) (A : Nat) (M : zMt)  : Option (Int32) :=
  D_X0_fewestTags_5 Q A M zFu (10 : Int32) (0 : Int32)
set_option maxRecDepth 100000 in
set_option maxHeartbeats 4000000 in
theorem t_X0_fewestTags {l : Launch} {G : zG} {b : Nat} {L : List zC} {M : zMt} {N : zNt} {Q : Nat} {A : Nat}  (hQ : LX0 L Q) (hA : LX2 L A) {r : Int32} (h : D_X0_fewestTags Q A M = some r) : zM l G b yX0_fewestTags cX0_fewestTags 4 (some .int) 2 0 0 [.ref Q, .ref A] (L, M, N) (fun r2 z => r2 = some (.int r) ∧ z = (L, M, N)) := by
  refine zM.of miX0_fewestTags (Nat.le_of_ble_eq_true rfl) ?_
  intro p e s m args below meth c X hr hname
  generalize hF : ((fun r2 z => r2 = some (.int r) ∧ z = (L, M, N)) : Option Value → zS → Prop) = FQ
  change Zw p l e { frames := 2, cells := 0, slots := 0, locals := 80 * (2) } s m args below meth c G b 4 (MQ below (zQ G b FQ) args s 0 0 (fun q : Nat => b ≤ q)) 0 0 0 [some (.ref Q), some (.ref A), none, none] [] (L, M, N)
  obtain ⟨q_lt, q_o, q_sets, q_seen, q_atUnit, q_early, q_result⟩ := id hQ
  obtain ⟨q_result_lt, q_result_o, q_result_line, q_result_unitOf, q_result_roundOf, q_result_leftTags, q_result_leftGuests, q_result_leftPreferred, q_result_ranked⟩ := id q_result
  obtain ⟨a_lt, a_o, a_quota, a_preferred, a_forGuests, a_applicantOf, a_size, a_guestCount, a_score, a_tickets, a_bits, a_party, a_wishCount, a_wishes⟩ := id hA
  have L_5 : ∀ u : Nat, ∀ (x2_5 : Int32) (x3_5 : Int32), D_X0_fewestTags_5 Q A M u x2_5 x3_5 = some r → Zw p l e { frames := 2, cells := 0, slots := 0, locals := 80 * (2) } s m args below meth c G b 4 (MQ below (zQ G b FQ) args s 0 0 (fun q : Nat => b ≤ q)) 0 0 5 [some (.ref (Q)), some (.ref (A)), some (.int x2_5), some (.int x3_5)] [] (L, M, N) := by
    intro u
    induction u with
    | zero => intro x2_5 x3_5 h; cases (show none = some r from h)
    | succ u_5 ih_5 =>
      have J_34 : ∀ (x2_34 : Int32) (x3_34 : Int32), D_X0_fewestTags_34 Q A M (D_X0_fewestTags_5 Q A M u_5) x2_34 x3_34 = some r → Zw p l e { frames := 2, cells := 0, slots := 0, locals := 80 * (2) } s m args below meth c G b 4 (MQ below (zQ G b FQ) args s 0 0 (fun q : Nat => b ≤ q)) 0 0 34 [some (.ref (Q)), some (.ref (A)), some (.int x2_34), some (.int x3_34)] [] (L, M, N) := by
        intro x2_34 x3_34 h
        unfold D_X0_fewestTags_34 at h
        refine a_iinc (v := x3_34 + 1) X dX0_fewestTags_34 (by decide) rfl zi_1 ?_
        refine a_goto (tgt := 5) X dX0_fewestTags_37 (by decide) ?_
        exact Zw.to2 (ih_5 _ _ h) rfl rfl rfl
      intro x2_5 x3_5 h
      rw [D_X0_fewestTags_5] at h
      refine a_iload_n X dX0_fewestTags_5 rfl ?_
      refine a_sipush (v := 128) X dX0_fewestTags_6 (by decide) ?_
      refine a_icmp_ge (tgt := 40) X dX0_fewestTags_9 (by decide) (fun h_9 => ?_) (fun h_9 => ?_)
      · replace h := (if_pos h_9).symm.trans h
        refine a_iload_n X dX0_fewestTags_40 rfl ?_
        refine a_iret X hr dX0_fewestTags_41 ⟨by decide, by decide⟩ ?_
        subst hF
        rw [← Option.some.inj h]
        exact ⟨rfl, rfl⟩
      · replace h := (if_neg h_9).symm.trans h
        refine a_aload_n X dX0_fewestTags_12 rfl ?_
        refine a_getr X lf0_15 (by assumption) rfl (by omega) dX0_fewestTags_13 ?_
        refine a_iload_n X dX0_fewestTags_16 rfl ?_
        refine a_callSNv X dX0_fewestTags_17 miX7_cell lm0_66 (c_cell (by assumption) (by first | decide | assumption)) rfl rfl (Nat.le_of_ble_eq_true rfl) ⟨by decide, by decide, by decide, by decide⟩ ?_
        refine a_iconst (v := 1) X dX0_fewestTags_20 (by decide) ?_
        refine a_icmp_ne (tgt := 34) X dX0_fewestTags_21 (by decide) (fun h_21 => ?_) (fun h_21 => ?_)
        · replace h := (if_neg h_21).symm.trans h
          exact Zw.to2 (J_34 _ _ h) rfl rfl rfl
        · replace h := (if_pos h_21).symm.trans h
          refine a_iload_n X dX0_fewestTags_24 rfl ?_
          refine a_aload_n X dX0_fewestTags_25 rfl ?_
          refine a_iload_n X dX0_fewestTags_26 rfl ?_
          obtain ⟨e_27, f_27, h⟩ := zBx h
          refine a_callSv X dX0_fewestTags_27 miX0_tagsOf lm0_95 (t_X0_tagsOf (by assumption) f_27) rfl rfl (Nat.le_of_ble_eq_true rfl) ⟨by decide, by decide, by decide, by decide⟩ ?_
          refine a_mmin X lm0_99 zmath2 zmath0 zmathc2 ⟨by decide, Nat.le_of_ble_eq_true rfl, by decide, by decide⟩ dX0_fewestTags_30 ?_
          refine a_istore_n X dX0_fewestTags_33 (by decide) ?_
          exact Zw.to2 (J_34 _ _ h) rfl rfl rfl
  have H_5 : ∀ (x2_5 : Int32) (x3_5 : Int32), D_X0_fewestTags_5 Q A M zFu x2_5 x3_5 = some r → Zw p l e { frames := 2, cells := 0, slots := 0, locals := 80 * (2) } s m args below meth c G b 4 (MQ below (zQ G b FQ) args s 0 0 (fun q : Nat => b ≤ q)) 0 0 5 [some (.ref (Q)), some (.ref (A)), some (.int x2_5), some (.int x3_5)] [] (L, M, N) := L_5 zFu
  unfold D_X0_fewestTags at h
  refine a_bipush (v := 10) X dX0_fewestTags_0 (by decide) ?_
  refine a_istore_n X dX0_fewestTags_2 (by decide) ?_
  refine a_iconst (v := 0) X dX0_fewestTags_3 (by decide) ?_
  refine a_istore_n X dX0_fewestTags_4 (by decide) ?_
  exact Zw.to2 (H_5 _ _ h) rfl rfl rfl
noncomputable def D_X0_mostTags_33 (Q : Nat) (A : Nat) (M : zMt) (k4 : Int32 → Int32 → Option (Int32)) (x2_33 : Int32) (x3_33 : Int32) : Option (Int32) :=
  k4 x2_33 (x3_33 + 1)
noncomputable def D_X0_mostTags_4 (Q : Nat) (A : Nat) (M : zMt) : Nat → Int32 → Int32 → Option (Int32)
  | 0, _, _ => none
  | n + 1, x2_4, x3_4 =>
    if (128 : Int32) ≤ x3_4 then
      some (x2_4)
    else
      if (zrd 0 (M (Q + 2)) 128 x3_4) = (1 : Int32) then
        zB (D_X0_tagsOf A M x3_4) fun e_26 =>
        D_X0_mostTags_33 Q A M (D_X0_mostTags_4 Q A M n) (if x2_4 < e_26 then e_26 else x2_4) x3_4
      else
        D_X0_mostTags_33 Q A M (D_X0_mostTags_4 Q A M n) x2_4 x3_4
noncomputable def D_X0_mostTags (Q : Nat) (A : Nat) (M : zMt)  : Option (Int32) :=
  D_X0_mostTags_4 Q A M zFu (0 : Int32) (0 : Int32)
set_option maxRecDepth 100000 in
set_option maxHeartbeats 4000000 in
theorem t_X0_mostTags {l : Launch} {G : zG} {b : Nat} {L : List zC} {M : zMt} {N : zNt} {Q : Nat} {A : Nat}  (hQ : LX0 L Q) (hA : LX2 L A) {r : Int32} (h : D_X0_mostTags Q A M = some r) : zM l G b yX0_mostTags cX0_mostTags 4 (some .int) 2 0 0 [.ref Q, .ref A] (L, M, N) (fun r2 z => r2 = some (.int r) ∧ z = (L, M, N)) := by
  refine zM.of miX0_mostTags (Nat.le_of_ble_eq_true rfl) ?_
  intro p e s m args below meth c X hr hname
  generalize hF : ((fun r2 z => r2 = some (.int r) ∧ z = (L, M, N)) : Option Value → zS → Prop) = FQ
  change Zw p l e { frames := 2, cells := 0, slots := 0, locals := 80 * (2) } s m args below meth c G b 4 (MQ below (zQ G b FQ) args s 0 0 (fun q : Nat => b ≤ q)) 0 0 0 [some (.ref Q), some (.ref A), none, none] [] (L, M, N)
  obtain ⟨q_lt, q_o, q_sets, q_seen, q_atUnit, q_early, q_result⟩ := id hQ
  obtain ⟨q_result_lt, q_result_o, q_result_line, q_result_unitOf, q_result_roundOf, q_result_leftTags, q_result_leftGuests, q_result_leftPreferred, q_result_ranked⟩ := id q_result
  obtain ⟨a_lt, a_o, a_quota, a_preferred, a_forGuests, a_applicantOf, a_size, a_guestCount, a_score, a_tickets, a_bits, a_party, a_wishCount, a_wishes⟩ := id hA
  have L_4 : ∀ u : Nat, ∀ (x2_4 : Int32) (x3_4 : Int32), D_X0_mostTags_4 Q A M u x2_4 x3_4 = some r → Zw p l e { frames := 2, cells := 0, slots := 0, locals := 80 * (2) } s m args below meth c G b 4 (MQ below (zQ G b FQ) args s 0 0 (fun q : Nat => b ≤ q)) 0 0 4 [some (.ref (Q)), some (.ref (A)), some (.int x2_4), some (.int x3_4)] [] (L, M, N) := by
    intro u
    induction u with
    | zero => intro x2_4 x3_4 h; cases (show none = some r from h)
    | succ u_4 ih_4 =>
      have J_33 : ∀ (x2_33 : Int32) (x3_33 : Int32), D_X0_mostTags_33 Q A M (D_X0_mostTags_4 Q A M u_4) x2_33 x3_33 = some r → Zw p l e { frames := 2, cells := 0, slots := 0, locals := 80 * (2) } s m args below meth c G b 4 (MQ below (zQ G b FQ) args s 0 0 (fun q : Nat => b ≤ q)) 0 0 33 [some (.ref (Q)), some (.ref (A)), some (.int x2_33), some (.int x3_33)] [] (L, M, N) := by
        intro x2_33 x3_33 h
        unfold D_X0_mostTags_33 at h
        refine a_iinc (v := x3_33 + 1) X dX0_mostTags_33 (by decide) rfl zi_1 ?_
        refine a_goto (tgt := 4) X dX0_mostTags_36 (by decide) ?_
        exact Zw.to2 (ih_4 _ _ h) rfl rfl rfl
      intro x2_4 x3_4 h
      rw [D_X0_mostTags_4] at h
      refine a_iload_n X dX0_mostTags_4 rfl ?_
      refine a_sipush (v := 128) X dX0_mostTags_5 (by decide) ?_
      refine a_icmp_ge (tgt := 39) X dX0_mostTags_8 (by decide) (fun h_8 => ?_) (fun h_8 => ?_)
      · replace h := (if_pos h_8).symm.trans h
        refine a_iload_n X dX0_mostTags_39 rfl ?_
        refine a_iret X hr dX0_mostTags_40 ⟨by decide, by decide⟩ ?_
        subst hF
        rw [← Option.some.inj h]
        exact ⟨rfl, rfl⟩
      · replace h := (if_neg h_8).symm.trans h
        refine a_aload_n X dX0_mostTags_11 rfl ?_
        refine a_getr X lf0_15 (by assumption) rfl (by omega) dX0_mostTags_12 ?_
        refine a_iload_n X dX0_mostTags_15 rfl ?_
        refine a_callSNv X dX0_mostTags_16 miX7_cell lm0_66 (c_cell (by assumption) (by first | decide | assumption)) rfl rfl (Nat.le_of_ble_eq_true rfl) ⟨by decide, by decide, by decide, by decide⟩ ?_
        refine a_iconst (v := 1) X dX0_mostTags_19 (by decide) ?_
        refine a_icmp_ne (tgt := 33) X dX0_mostTags_20 (by decide) (fun h_20 => ?_) (fun h_20 => ?_)
        · replace h := (if_neg h_20).symm.trans h
          exact Zw.to2 (J_33 _ _ h) rfl rfl rfl
        · replace h := (if_pos h_20).symm.trans h
          refine a_iload_n X dX0_mostTags_23 rfl ?_
          refine a_aload_n X dX0_mostTags_24 rfl ?_
          refine a_iload_n X dX0_mostTags_25 rfl ?_
          obtain ⟨e_26, f_26, h⟩ := zBx h
          refine a_callSv X dX0_mostTags_26 miX0_tagsOf lm0_95 (t_X0_tagsOf (by assumption) f_26) rfl rfl (Nat.le_of_ble_eq_true rfl) ⟨by decide, by decide, by decide, by decide⟩ ?_
          refine a_mmax X lm0_105 zmath1 zmath0 zmathc1 ⟨by decide, Nat.le_of_ble_eq_true rfl, by decide, by decide⟩ dX0_mostTags_29 ?_
          refine a_istore_n X dX0_mostTags_32 (by decide) ?_
          exact Zw.to2 (J_33 _ _ h) rfl rfl rfl
  have H_4 : ∀ (x2_4 : Int32) (x3_4 : Int32), D_X0_mostTags_4 Q A M zFu x2_4 x3_4 = some r → Zw p l e { frames := 2, cells := 0, slots := 0, locals := 80 * (2) } s m args below meth c G b 4 (MQ below (zQ G b FQ) args s 0 0 (fun q : Nat => b ≤ q)) 0 0 4 [some (.ref (Q)), some (.ref (A)), some (.int x2_4), some (.int x3_4)] [] (L, M, N) := L_4 zFu
  unfold D_X0_mostTags at h
  refine a_iconst (v := 0) X dX0_mostTags_0 (by decide) ?_
  refine a_istore_n X dX0_mostTags_1 (by decide) ?_
  refine a_iconst (v := 0) X dX0_mostTags_2 (by decide) ?_
  refine a_istore_n X dX0_mostTags_3 (by decide) ?_
  exact Zw.to2 (H_4 _ _ h) rfl rfl rfl
noncomputable def D_X1_forget (Q : Nat) (M : zMt) : Option (zMt) :=
  zLt (zu M Q 0 (0 : Int32)) fun M_2 =>
  some (M_2)
set_option maxRecDepth 100000 in
set_option maxHeartbeats 4000000 in
theorem t_X1_forget {l : Launch} {G : zG} {b : Nat} {L : List zC} {M : zMt} {N : zNt} {Q : Nat}  (hQ : LX1 L Q) {r : zMt} (h : D_X1_forget Q M = some r) : zM l G b yX1_forget cX1_forget 1 none 0 0 0 [.ref Q] (L, M, N) (fun r2 z => r2 = none ∧ z = (L, r, N)) := by
  refine zM.of miX1_forget (Nat.le_of_ble_eq_true rfl) ?_
  intro p e s m args below meth c X hr hname
  generalize hF : ((fun r2 z => r2 = none ∧ z = (L, r, N)) : Option Value → zS → Prop) = FQ
  change Zw p l e { frames := 0, cells := 0, slots := 0, locals := 80 * (0) } s m args below meth c G b 1 (MQ below (zQ G b FQ) args s 0 0 (fun q : Nat => b ≤ q)) 0 0 0 [some (.ref Q)] [] (L, M, N)
  obtain ⟨q_lt, q_o, q_stood, q_stood0, q_stood1, q_stood2, q_stood3, q_stood4, q_stood5, q_stood6, q_stood7⟩ := id hQ
  unfold D_X1_forget at h
  refine a_aload_n X dX1_forget_0 rfl ?_
  refine a_iconst (v := 0) X dX1_forget_1 (by decide) ?_
  obtain ⟨M_2, f_2, h⟩ := zLtx h
  refine d_puti X lf1_18 (by assumption) rfl dX1_forget_2 f_2 ?_
  refine a_vret X hr dX1_forget_5 ⟨by decide, by decide⟩ ?_
  subst hF
  rw [← Option.some.inj h]
  exact ⟨rfl, rfl⟩
noncomputable def D_X2_gatherUnits_96 (Q : Nat) (A : Nat) (k15 : Int32 → zMt → Option (zMt)) (x2_96 : Int32) (y1_96 : Int32) (y2_96 : Int32) (M_96 : zMt) : Option (zMt) :=
  zO (y1_96 ||| y2_96) <|
  zLt (zu M_96 Q 3 (y1_96 ||| y2_96)) fun M_97 =>
  k15 (x2_96 + 1) M_97
noncomputable def D_X2_gatherUnits_15 (Q : Nat) (A : Nat) : Nat → Int32 → zMt → Option (zMt)
  | 0, _, _ => none
  | n + 1, x2_15, M_15 =>
    if (M_15 Q 0) ≤ x2_15 then
      some (M_15)
    else
      zLt (zwr M_15 (Q + 1) 5 x2_15 (zrd 0 (M_15 (A + 1)) 5 x2_15)) fun M_38 =>
      zLt (zwr M_38 (Q + 2) 5 x2_15 (((zrd 0 (M_15 (A + 1)) 5 x2_15) * (M_38 A 4)) / (100 : Int32))) fun M_55 =>
      zLt (zwr M_55 (Q + 3) 5 x2_15 (((zrd 0 (M_15 (A + 1)) 5 x2_15) * (M_55 A 5)) / (100 : Int32))) fun M_72 =>
      if (zrd 0 (M_72 (Q + 2)) 5 x2_15) ≤ 0 then
        D_X2_gatherUnits_96 Q A (D_X2_gatherUnits_15 Q A n) x2_15 (M_72 Q 3) (0 : Int32) M_72
      else
        D_X2_gatherUnits_96 Q A (D_X2_gatherUnits_15 Q A n) x2_15 (M_72 Q 3) (1 : Int32) M_72
noncomputable def D_X2_gatherUnits (Q : Nat) (A : Nat) (M : zMt) : Option (zMt) :=
  zLt (zu M Q 0 (M A 0)) fun M_5 =>
  zLt (zu M_5 Q 3 (0 : Int32)) fun M_10 =>
  D_X2_gatherUnits_15 Q A zFu (0 : Int32) M_10
set_option maxRecDepth 100000 in
set_option maxHeartbeats 4000000 in
theorem t_X2_gatherUnits {l : Launch} {G : zG} {b : Nat} {L : List zC} {M : zMt} {N : zNt} {Q : Nat} {A : Nat}  (hQ : LX2 L Q) (hA : LX4 L A) {r : zMt} (h : D_X2_gatherUnits Q A M = some r) : zM l G b yX2_gatherUnits cX2_gatherUnits 4 none 1 0 0 [.ref Q, .ref A] (L, M, N) (fun r2 z => r2 = none ∧ z = (L, r, N)) := by
  refine zM.of miX2_gatherUnits (Nat.le_of_ble_eq_true rfl) ?_
  intro p e s m args below meth c X hr hname
  generalize hF : ((fun r2 z => r2 = none ∧ z = (L, r, N)) : Option Value → zS → Prop) = FQ
  change Zw p l e { frames := 1, cells := 0, slots := 0, locals := 80 * (1) } s m args below meth c G b 4 (MQ below (zQ G b FQ) args s 0 0 (fun q : Nat => b ≤ q)) 0 0 0 [some (.ref Q), some (.ref A), none, none] [] (L, M, N)
  obtain ⟨q_lt, q_o, q_quota, q_preferred, q_forGuests, q_applicantOf, q_size, q_guestCount, q_score, q_tickets, q_bits, q_party, q_wishCount, q_wishes⟩ := id hQ
  obtain ⟨a_lt, a_o, a_quota, a_score, a_guest, a_party, a_wishCount, a_wishes, a_has⟩ := id hA
  have L_15 : ∀ u : Nat, ∀ (x2_15 : Int32) (x3_15 : Option Value) (M_15 : zMt), D_X2_gatherUnits_15 Q A u x2_15 M_15 = some r → Zw p l e { frames := 1, cells := 0, slots := 0, locals := 80 * (1) } s m args below meth c G b 4 (MQ below (zQ G b FQ) args s 0 0 (fun q : Nat => b ≤ q)) 0 0 15 [some (.ref (Q)), some (.ref (A)), some (.int x2_15), x3_15] [] (L, M_15, N) := by
    intro u
    induction u with
    | zero => intro x2_15 x3_15 M_15 h; cases (show none = some r from h)
    | succ u_15 ih_15 =>
      have J_96 : ∀ (x2_96 : Int32) (x3_96 : Int32) (y1_96 : Int32) (y2_96 : Int32) (M_96 : zMt), (y2_96 = 0 ∨ y2_96 = 1) → D_X2_gatherUnits_96 Q A (D_X2_gatherUnits_15 Q A u_15) x2_96 y1_96 y2_96 M_96 = some r → Zw p l e { frames := 1, cells := 0, slots := 0, locals := 80 * (1) } s m args below meth c G b 4 (MQ below (zQ G b FQ) args s 0 0 (fun q : Nat => b ≤ q)) 0 0 96 [some (.ref (Q)), some (.ref (A)), some (.int x2_96), some (.int x3_96)] [.int y2_96, .int y1_96, .ref (Q)] (L, M_96, N) := by
        intro x2_96 x3_96 y1_96 y2_96 M_96 fb_y2_96 h
        unfold D_X2_gatherUnits_96 at h
        refine a_ior X dX2_gatherUnits_96 ?_
        obtain ⟨o_97, h⟩ := zOx h
        obtain ⟨M_97, f_97, h⟩ := zLtx h
        refine d_putz X (by first | exact Or.inl rfl | exact Or.inr rfl | assumption) lf2_91 (by assumption) rfl dX2_gatherUnits_97 f_97 ?_
        refine a_iinc (v := x2_96 + 1) X dX2_gatherUnits_100 (by decide) rfl zi_1 ?_
        refine a_goto (tgt := 15) X dX2_gatherUnits_103 (by decide) ?_
        exact Zw.to2 (ih_15 _ _ _ h) rfl rfl rfl
      intro x2_15 x3_15 M_15 h
      rw [D_X2_gatherUnits_15] at h
      refine a_iload_n X dX2_gatherUnits_15 rfl ?_
      refine a_aload_n X dX2_gatherUnits_16 rfl ?_
      refine a_geti X lf2_90 (by assumption) rfl dX2_gatherUnits_17 ?_
      refine a_icmp_ge (tgt := 106) X dX2_gatherUnits_20 (by decide) (fun h_20 => ?_) (fun h_20 => ?_)
      · replace h := (if_pos h_20).symm.trans h
        refine a_vret X hr dX2_gatherUnits_106 ⟨by decide, by decide⟩ ?_
        subst hF
        rw [← Option.some.inj h]
        exact ⟨rfl, rfl⟩
      · replace h := (if_neg h_20).symm.trans h
        refine a_aload_n X dX2_gatherUnits_23 rfl ?_
        refine a_getr X lf2_95 (by assumption) rfl (by omega) dX2_gatherUnits_24 ?_
        refine a_iload_n X dX2_gatherUnits_27 rfl ?_
        refine a_callSNv X dX2_gatherUnits_28 miX7_cell lm2_62 (c_cell (by assumption) (by first | decide | assumption)) rfl rfl (Nat.le_of_ble_eq_true rfl) ⟨by decide, by decide, by decide, by decide⟩ ?_
        refine a_istore_n X dX2_gatherUnits_31 (by decide) ?_
        refine a_aload_n X dX2_gatherUnits_32 rfl ?_
        refine a_getr X lf2_9 (by assumption) rfl (by omega) dX2_gatherUnits_33 ?_
        refine a_iload_n X dX2_gatherUnits_36 rfl ?_
        refine a_iload_n X dX2_gatherUnits_37 rfl ?_
        obtain ⟨M_38, f_38, h⟩ := zLtx h
        refine a_callSNu X dX2_gatherUnits_38 miX7_put lm2_96 (zMu (c_put (by assumption) (by first | decide | assumption)) f_38) rfl rfl (Nat.le_of_ble_eq_true rfl) ⟨by decide, by decide, by decide, by decide⟩ ?_
        refine a_aload_n X dX2_gatherUnits_41 rfl ?_
        refine a_getr X lf2_15 (by assumption) rfl (by omega) dX2_gatherUnits_42 ?_
        refine a_iload_n X dX2_gatherUnits_45 rfl ?_
        refine a_iload_n X dX2_gatherUnits_46 rfl ?_
        refine a_aload_n X dX2_gatherUnits_47 rfl ?_
        refine a_geti X lf2_100 (by assumption) rfl dX2_gatherUnits_48 ?_
        refine a_imul X dX2_gatherUnits_51 ?_
        refine a_bipush (v := 100) X dX2_gatherUnits_52 (by decide) ?_
        refine a_idiv X dX2_gatherUnits_54 (by decide) ?_
        obtain ⟨M_55, f_55, h⟩ := zLtx h
        refine a_callSNu X dX2_gatherUnits_55 miX7_put lm2_96 (zMu (c_put (by assumption) (by first | decide | assumption)) f_55) rfl rfl (Nat.le_of_ble_eq_true rfl) ⟨by decide, by decide, by decide, by decide⟩ ?_
        refine a_aload_n X dX2_gatherUnits_58 rfl ?_
        refine a_getr X lf2_18 (by assumption) rfl (by omega) dX2_gatherUnits_59 ?_
        refine a_iload_n X dX2_gatherUnits_62 rfl ?_
        refine a_iload_n X dX2_gatherUnits_63 rfl ?_
        refine a_aload_n X dX2_gatherUnits_64 rfl ?_
        refine a_geti X lf2_103 (by assumption) rfl dX2_gatherUnits_65 ?_
        refine a_imul X dX2_gatherUnits_68 ?_
        refine a_bipush (v := 100) X dX2_gatherUnits_69 (by decide) ?_
        refine a_idiv X dX2_gatherUnits_71 (by decide) ?_
        obtain ⟨M_72, f_72, h⟩ := zLtx h
        refine a_callSNu X dX2_gatherUnits_72 miX7_put lm2_96 (zMu (c_put (by assumption) (by first | decide | assumption)) f_72) rfl rfl (Nat.le_of_ble_eq_true rfl) ⟨by decide, by decide, by decide, by decide⟩ ?_
        refine a_aload_n X dX2_gatherUnits_75 rfl ?_
        refine a_dup X dX2_gatherUnits_76 rfl ?_
        refine a_geti X lf2_91 (by assumption) rfl dX2_gatherUnits_77 ?_
        refine a_aload_n X dX2_gatherUnits_80 rfl ?_
        refine a_getr X lf2_15 (by assumption) rfl (by omega) dX2_gatherUnits_81 ?_
        refine a_iload_n X dX2_gatherUnits_84 rfl ?_
        refine a_callSNv X dX2_gatherUnits_85 miX7_cell lm2_62 (c_cell (by assumption) (by first | decide | assumption)) rfl rfl (Nat.le_of_ble_eq_true rfl) ⟨by decide, by decide, by decide, by decide⟩ ?_
        refine a_if_le (tgt := 95) X dX2_gatherUnits_88 (by decide) (fun h_88 => ?_) (fun h_88 => ?_)
        · replace h := (if_pos h_88).symm.trans h
          refine a_iconst (v := 0) X dX2_gatherUnits_95 (by decide) ?_
          exact Zw.to2 (J_96 _ _ _ _ _ (by first | exact Or.inl rfl | exact Or.inr rfl | assumption) h) rfl rfl rfl
        · replace h := (if_neg h_88).symm.trans h
          refine a_iconst (v := 1) X dX2_gatherUnits_91 (by decide) ?_
          refine a_goto (tgt := 96) X dX2_gatherUnits_92 (by decide) ?_
          exact Zw.to2 (J_96 _ _ _ _ _ (by first | exact Or.inl rfl | exact Or.inr rfl | assumption) h) rfl rfl rfl
  have H_15 : ∀ (x2_15 : Int32) (x3_15 : Option Value) (M_15 : zMt), D_X2_gatherUnits_15 Q A zFu x2_15 M_15 = some r → Zw p l e { frames := 1, cells := 0, slots := 0, locals := 80 * (1) } s m args below meth c G b 4 (MQ below (zQ G b FQ) args s 0 0 (fun q : Nat => b ≤ q)) 0 0 15 [some (.ref (Q)), some (.ref (A)), some (.int x2_15), x3_15] [] (L, M_15, N) := L_15 zFu
  unfold D_X2_gatherUnits at h
  refine a_aload_n X dX2_gatherUnits_0 rfl ?_
  refine a_aload_n X dX2_gatherUnits_1 rfl ?_
  refine a_geti X lf2_87 (by assumption) rfl dX2_gatherUnits_2 ?_
  obtain ⟨M_5, f_5, h⟩ := zLtx h
  refine d_puti X lf2_90 (by assumption) rfl dX2_gatherUnits_5 f_5 ?_
  refine a_aload_n X dX2_gatherUnits_8 rfl ?_
  refine a_iconst (v := 0) X dX2_gatherUnits_9 (by decide) ?_
  obtain ⟨M_10, f_10, h⟩ := zLtx h
  refine d_putz X (by first | exact Or.inl rfl | exact Or.inr rfl | assumption) lf2_91 (by assumption) rfl dX2_gatherUnits_10 f_10 ?_
  refine a_iconst (v := 0) X dX2_gatherUnits_13 (by decide) ?_
  refine a_istore_n X dX2_gatherUnits_14 (by decide) ?_
  exact Zw.to2 (H_15 _ _ _ h) rfl rfl rfl
noncomputable def D_X2_open (Q : Nat) (v0 : Int32) (M : zMt) : Option (zMt) :=
  zLt (zwr M (Q + 5) 10 (M Q 1) (0 : Int32)) fun M_9 =>
  zLt (zwr M_9 (Q + 6) 10 (M_9 Q 1) (0 : Int32)) fun M_21 =>
  zLt (zwr M_21 (Q + 7) 10 (M_21 Q 1) (0 : Int32)) fun M_33 =>
  zLt (zwr M_33 (Q + 9) 10 (M_33 Q 1) (0 : Int32)) fun M_45 =>
  zLt (zwr M_45 (Q + 10) 10 (M_45 Q 1) v0) fun M_57 =>
  zLt (zu M_57 Q 1 ((M_57 Q 1) + (1 : Int32))) fun M_67 =>
  some (M_67)
set_option maxRecDepth 100000 in
set_option maxHeartbeats 4000000 in
theorem t_X2_open {l : Launch} {G : zG} {b : Nat} {L : List zC} {M : zMt} {N : zNt} {Q : Nat} {v0 : Int32} (hQ : LX2 L Q) {r : zMt} (h : D_X2_open Q v0 M = some r) : zM l G b yX2_open cX2_open 2 none 1 0 0 [.ref Q, .int v0] (L, M, N) (fun r2 z => r2 = none ∧ z = (L, r, N)) := by
  refine zM.of miX2_open (Nat.le_of_ble_eq_true rfl) ?_
  intro p e s m args below meth c X hr hname
  generalize hF : ((fun r2 z => r2 = none ∧ z = (L, r, N)) : Option Value → zS → Prop) = FQ
  change Zw p l e { frames := 1, cells := 0, slots := 0, locals := 80 * (1) } s m args below meth c G b 2 (MQ below (zQ G b FQ) args s 0 0 (fun q : Nat => b ≤ q)) 0 0 0 [some (.ref Q), some (.int v0)] [] (L, M, N)
  obtain ⟨q_lt, q_o, q_quota, q_preferred, q_forGuests, q_applicantOf, q_size, q_guestCount, q_score, q_tickets, q_bits, q_party, q_wishCount, q_wishes⟩ := id hQ
  unfold D_X2_open at h
  refine a_aload_n X dX2_open_0 rfl ?_
  refine a_getr X lf2_24 (by assumption) rfl (by omega) dX2_open_1 ?_
  refine a_aload_n X dX2_open_4 rfl ?_
  refine a_geti X lf2_52 (by assumption) rfl dX2_open_5 ?_
  refine a_iconst (v := 0) X dX2_open_8 (by decide) ?_
  obtain ⟨M_9, f_9, h⟩ := zLtx h
  refine a_callSNu X dX2_open_9 miX7_put lm2_96 (zMu (c_put (by assumption) (by first | decide | assumption)) f_9) rfl rfl (Nat.le_of_ble_eq_true rfl) ⟨by decide, by decide, by decide, by decide⟩ ?_
  refine a_aload_n X dX2_open_12 rfl ?_
  refine a_getr X lf2_27 (by assumption) rfl (by omega) dX2_open_13 ?_
  refine a_aload_n X dX2_open_16 rfl ?_
  refine a_geti X lf2_52 (by assumption) rfl dX2_open_17 ?_
  refine a_iconst (v := 0) X dX2_open_20 (by decide) ?_
  obtain ⟨M_21, f_21, h⟩ := zLtx h
  refine a_callSNu X dX2_open_21 miX7_put lm2_96 (zMu (c_put (by assumption) (by first | decide | assumption)) f_21) rfl rfl (Nat.le_of_ble_eq_true rfl) ⟨by decide, by decide, by decide, by decide⟩ ?_
  refine a_aload_n X dX2_open_24 rfl ?_
  refine a_getr X lf2_30 (by assumption) rfl (by omega) dX2_open_25 ?_
  refine a_aload_n X dX2_open_28 rfl ?_
  refine a_geti X lf2_52 (by assumption) rfl dX2_open_29 ?_
  refine a_iconst (v := 0) X dX2_open_32 (by decide) ?_
  obtain ⟨M_33, f_33, h⟩ := zLtx h
  refine a_callSNu X dX2_open_33 miX7_put lm2_96 (zMu (c_put (by assumption) (by first | decide | assumption)) f_33) rfl rfl (Nat.le_of_ble_eq_true rfl) ⟨by decide, by decide, by decide, by decide⟩ ?_
  refine a_aload_n X dX2_open_36 rfl ?_
  refine a_getr X lf2_36 (by assumption) rfl (by omega) dX2_open_37 ?_
  refine a_aload_n X dX2_open_40 rfl ?_
  refine a_geti X lf2_52 (by assumption) rfl dX2_open_41 ?_
  refine a_iconst (v := 0) X dX2_open_44 (by decide) ?_
  obtain ⟨M_45, f_45, h⟩ := zLtx h
  refine a_callSNu X dX2_open_45 miX7_put lm2_96 (zMu (c_put (by assumption) (by first | decide | assumption)) f_45) rfl rfl (Nat.le_of_ble_eq_true rfl) ⟨by decide, by decide, by decide, by decide⟩ ?_
  refine a_aload_n X dX2_open_48 rfl ?_
  refine a_getr X lf2_39 (by assumption) rfl (by omega) dX2_open_49 ?_
  refine a_aload_n X dX2_open_52 rfl ?_
  refine a_geti X lf2_52 (by assumption) rfl dX2_open_53 ?_
  refine a_iload_n X dX2_open_56 rfl ?_
  obtain ⟨M_57, f_57, h⟩ := zLtx h
  refine a_callSNu X dX2_open_57 miX7_put lm2_96 (zMu (c_put (by assumption) (by first | decide | assumption)) f_57) rfl rfl (Nat.le_of_ble_eq_true rfl) ⟨by decide, by decide, by decide, by decide⟩ ?_
  refine a_aload_n X dX2_open_60 rfl ?_
  refine a_dup X dX2_open_61 rfl ?_
  refine a_geti X lf2_52 (by assumption) rfl dX2_open_62 ?_
  refine a_iconst (v := 1) X dX2_open_65 (by decide) ?_
  refine a_iadd X dX2_open_66 ?_
  obtain ⟨M_67, f_67, h⟩ := zLtx h
  refine d_puti X lf2_52 (by assumption) rfl dX2_open_67 f_67 ?_
  refine a_vret X hr dX2_open_70 ⟨by decide, by decide⟩ ?_
  subst hF
  rw [← Option.some.inj h]
  exact ⟨rfl, rfl⟩
noncomputable def D_X2_join_87 (Q : Nat) (A : Nat) : Nat → Int32 → Int32 → Int32 → zMt → Option (zMt)
  | 0, _, _, _, _ => none
  | n + 1, x2_87, x3_87, x4_87, M_87 =>
    if (3 : Int32) ≤ x4_87 then
      some (M_87)
    else
      zLt (zwr M_87 (Q + 12) 30 ((x3_87 * (3 : Int32)) + x4_87) (zrd 0 (M_87 (A + 6)) 30 ((x2_87 * (3 : Int32)) + x4_87))) fun M_116 =>
      (D_X2_join_87 Q A n) x2_87 x3_87 (x4_87 + 1) M_116
noncomputable def D_X2_join (Q : Nat) (A : Nat) (v0 : Int32) (M : zMt) : Option (zMt) :=
  zLt (zwr M (Q + 4) 10 v0 ((M Q 1) - (1 : Int32))) fun M_13 =>
  zLt (zwr M_13 (Q + 5) 10 ((M Q 1) - (1 : Int32)) (zrd 0 (M_13 (Q + 5)) 10 ((M Q 1) - (1 : Int32)) + (1 : Int32))) fun M_22 =>
  zLt (zwr M_22 (Q + 6) 10 ((M Q 1) - (1 : Int32)) (zrd 0 (M_22 (Q + 6)) 10 ((M Q 1) - (1 : Int32)) + (zrd 0 (M_22 (A + 3)) 10 v0))) fun M_38 =>
  zLt (zwr M_38 (Q + 7) 10 ((M Q 1) - (1 : Int32)) (zrd 0 (M_38 (Q + 7)) 10 ((M Q 1) - (1 : Int32)) + (zrd 0 (M_38 (A + 2)) 10 v0))) fun M_54 =>
  zLt (zwr M_54 (Q + 9) 10 ((M Q 1) - (1 : Int32)) (zrd 0 (M_54 (Q + 9)) 10 ((M Q 1) - (1 : Int32)) + ((1 : Int32) <<< (v0 &&& 31)))) fun M_65 =>
  zLt (zwr M_65 (Q + 11) 10 ((M Q 1) - (1 : Int32)) (zrd 0 (M_65 (A + 5)) 10 v0)) fun M_81 =>
  D_X2_join_87 Q A zFu v0 ((M Q 1) - (1 : Int32)) (0 : Int32) M_81
set_option maxRecDepth 100000 in
set_option maxHeartbeats 4000000 in
theorem t_X2_join {l : Launch} {G : zG} {b : Nat} {L : List zC} {M : zMt} {N : zNt} {Q : Nat} {A : Nat} {v0 : Int32} (hQ : LX2 L Q) (hA : LX4 L A) {r : zMt} (h : D_X2_join Q A v0 M = some r) : zM l G b yX2_join cX2_join 5 none 1 0 0 [.ref Q, .ref A, .int v0] (L, M, N) (fun r2 z => r2 = none ∧ z = (L, r, N)) := by
  refine zM.of miX2_join (Nat.le_of_ble_eq_true rfl) ?_
  intro p e s m args below meth c X hr hname
  generalize hF : ((fun r2 z => r2 = none ∧ z = (L, r, N)) : Option Value → zS → Prop) = FQ
  change Zw p l e { frames := 1, cells := 0, slots := 0, locals := 80 * (1) } s m args below meth c G b 5 (MQ below (zQ G b FQ) args s 0 0 (fun q : Nat => b ≤ q)) 0 0 0 [some (.ref Q), some (.ref A), some (.int v0), none, none] [] (L, M, N)
  obtain ⟨q_lt, q_o, q_quota, q_preferred, q_forGuests, q_applicantOf, q_size, q_guestCount, q_score, q_tickets, q_bits, q_party, q_wishCount, q_wishes⟩ := id hQ
  obtain ⟨a_lt, a_o, a_quota, a_score, a_guest, a_party, a_wishCount, a_wishes, a_has⟩ := id hA
  have L_87 : ∀ u : Nat, ∀ (x2_87 : Int32) (x3_87 : Int32) (x4_87 : Int32) (M_87 : zMt), D_X2_join_87 Q A u x2_87 x3_87 x4_87 M_87 = some r → Zw p l e { frames := 1, cells := 0, slots := 0, locals := 80 * (1) } s m args below meth c G b 5 (MQ below (zQ G b FQ) args s 0 0 (fun q : Nat => b ≤ q)) 0 0 87 [some (.ref (Q)), some (.ref (A)), some (.int x2_87), some (.int x3_87), some (.int x4_87)] [] (L, M_87, N) := by
    intro u
    induction u with
    | zero => intro x2_87 x3_87 x4_87 M_87 h; cases (show none = some r from h)
    | succ u_87 ih_87 =>
      intro x2_87 x3_87 x4_87 M_87 h
      rw [D_X2_join_87] at h
      refine a_iload X dX2_join_87 rfl ?_
      refine a_iconst (v := 3) X dX2_join_89 (by decide) ?_
      refine a_icmp_ge (tgt := 125) X dX2_join_90 (by decide) (fun h_90 => ?_) (fun h_90 => ?_)
      · replace h := (if_pos h_90).symm.trans h
        refine a_vret X hr dX2_join_125 ⟨by decide, by decide⟩ ?_
        subst hF
        rw [← Option.some.inj h]
        exact ⟨rfl, rfl⟩
      · replace h := (if_neg h_90).symm.trans h
        refine a_aload_n X dX2_join_93 rfl ?_
        refine a_getr X lf2_45 (by assumption) rfl (by omega) dX2_join_94 ?_
        refine a_iload_n X dX2_join_97 rfl ?_
        refine a_iconst (v := 3) X dX2_join_98 (by decide) ?_
        refine a_imul X dX2_join_99 ?_
        refine a_iload X dX2_join_100 rfl ?_
        refine a_iadd X dX2_join_102 ?_
        refine a_aload_n X dX2_join_103 rfl ?_
        refine a_getr X lf2_114 (by assumption) rfl (by omega) dX2_join_104 ?_
        refine a_iload_n X dX2_join_107 rfl ?_
        refine a_iconst (v := 3) X dX2_join_108 (by decide) ?_
        refine a_imul X dX2_join_109 ?_
        refine a_iload X dX2_join_110 rfl ?_
        refine a_iadd X dX2_join_112 ?_
        refine a_callSNv X dX2_join_113 miX7_cell lm2_62 (c_cell (by assumption) (by first | decide | assumption)) rfl rfl (Nat.le_of_ble_eq_true rfl) ⟨by decide, by decide, by decide, by decide⟩ ?_
        obtain ⟨M_116, f_116, h⟩ := zLtx h
        refine a_callSNu X dX2_join_116 miX7_put lm2_96 (zMu (c_put (by assumption) (by first | decide | assumption)) f_116) rfl rfl (Nat.le_of_ble_eq_true rfl) ⟨by decide, by decide, by decide, by decide⟩ ?_
        refine a_iinc (v := x4_87 + 1) X dX2_join_119 (by decide) rfl zi_1 ?_
        refine a_goto (tgt := 87) X dX2_join_122 (by decide) ?_
        exact Zw.to2 (ih_87 _ _ _ _ h) rfl rfl rfl
  have H_87 : ∀ (x2_87 : Int32) (x3_87 : Int32) (x4_87 : Int32) (M_87 : zMt), D_X2_join_87 Q A zFu x2_87 x3_87 x4_87 M_87 = some r → Zw p l e { frames := 1, cells := 0, slots := 0, locals := 80 * (1) } s m args below meth c G b 5 (MQ below (zQ G b FQ) args s 0 0 (fun q : Nat => b ≤ q)) 0 0 87 [some (.ref (Q)), some (.ref (A)), some (.int x2_87), some (.int x3_87), some (.int x4_87)] [] (L, M_87, N) := L_87 zFu
  unfold D_X2_join at h
  refine a_aload_n X dX2_join_0 rfl ?_
  refine a_geti X lf2_52 (by assumption) rfl dX2_join_1 ?_
  refine a_iconst (v := 1) X dX2_join_4 (by decide) ?_
  refine a_isub X dX2_join_5 ?_
  refine a_istore_n X dX2_join_6 (by decide) ?_
  refine a_aload_n X dX2_join_7 rfl ?_
  refine a_getr X lf2_21 (by assumption) rfl (by omega) dX2_join_8 ?_
  refine a_iload_n X dX2_join_11 rfl ?_
  refine a_iload_n X dX2_join_12 rfl ?_
  obtain ⟨M_13, f_13, h⟩ := zLtx h
  refine a_callSNu X dX2_join_13 miX7_put lm2_96 (zMu (c_put (by assumption) (by first | decide | assumption)) f_13) rfl rfl (Nat.le_of_ble_eq_true rfl) ⟨by decide, by decide, by decide, by decide⟩ ?_
  refine a_aload_n X dX2_join_16 rfl ?_
  refine a_getr X lf2_24 (by assumption) rfl (by omega) dX2_join_17 ?_
  refine a_iload_n X dX2_join_20 rfl ?_
  refine a_iconst (v := 1) X dX2_join_21 (by decide) ?_
  obtain ⟨M_22, f_22, h⟩ := zLtx h
  refine a_callSNu X dX2_join_22 miX7_add lm2_106 (zMu (c_add (by assumption) (by first | decide | assumption)) f_22) rfl rfl (Nat.le_of_ble_eq_true rfl) ⟨by decide, by decide, by decide, by decide⟩ ?_
  refine a_aload_n X dX2_join_25 rfl ?_
  refine a_getr X lf2_27 (by assumption) rfl (by omega) dX2_join_26 ?_
  refine a_iload_n X dX2_join_29 rfl ?_
  refine a_aload_n X dX2_join_30 rfl ?_
  refine a_getr X lf2_109 (by assumption) rfl (by omega) dX2_join_31 ?_
  refine a_iload_n X dX2_join_34 rfl ?_
  refine a_callSNv X dX2_join_35 miX7_cell lm2_62 (c_cell (by assumption) (by first | decide | assumption)) rfl rfl (Nat.le_of_ble_eq_true rfl) ⟨by decide, by decide, by decide, by decide⟩ ?_
  obtain ⟨M_38, f_38, h⟩ := zLtx h
  refine a_callSNu X dX2_join_38 miX7_add lm2_106 (zMu (c_add (by assumption) (by first | decide | assumption)) f_38) rfl rfl (Nat.le_of_ble_eq_true rfl) ⟨by decide, by decide, by decide, by decide⟩ ?_
  refine a_aload_n X dX2_join_41 rfl ?_
  refine a_getr X lf2_30 (by assumption) rfl (by omega) dX2_join_42 ?_
  refine a_iload_n X dX2_join_45 rfl ?_
  refine a_aload_n X dX2_join_46 rfl ?_
  refine a_getr X lf2_112 (by assumption) rfl (by omega) dX2_join_47 ?_
  refine a_iload_n X dX2_join_50 rfl ?_
  refine a_callSNv X dX2_join_51 miX7_cell lm2_62 (c_cell (by assumption) (by first | decide | assumption)) rfl rfl (Nat.le_of_ble_eq_true rfl) ⟨by decide, by decide, by decide, by decide⟩ ?_
  obtain ⟨M_54, f_54, h⟩ := zLtx h
  refine a_callSNu X dX2_join_54 miX7_add lm2_106 (zMu (c_add (by assumption) (by first | decide | assumption)) f_54) rfl rfl (Nat.le_of_ble_eq_true rfl) ⟨by decide, by decide, by decide, by decide⟩ ?_
  refine a_aload_n X dX2_join_57 rfl ?_
  refine a_getr X lf2_36 (by assumption) rfl (by omega) dX2_join_58 ?_
  refine a_iload_n X dX2_join_61 rfl ?_
  refine a_iconst (v := 1) X dX2_join_62 (by decide) ?_
  refine a_iload_n X dX2_join_63 rfl ?_
  refine a_ishl X dX2_join_64 ?_
  obtain ⟨M_65, f_65, h⟩ := zLtx h
  refine a_callSNu X dX2_join_65 miX7_add lm2_106 (zMu (c_add (by assumption) (by first | decide | assumption)) f_65) rfl rfl (Nat.le_of_ble_eq_true rfl) ⟨by decide, by decide, by decide, by decide⟩ ?_
  refine a_aload_n X dX2_join_68 rfl ?_
  refine a_getr X lf2_42 (by assumption) rfl (by omega) dX2_join_69 ?_
  refine a_iload_n X dX2_join_72 rfl ?_
  refine a_aload_n X dX2_join_73 rfl ?_
  refine a_getr X lf2_113 (by assumption) rfl (by omega) dX2_join_74 ?_
  refine a_iload_n X dX2_join_77 rfl ?_
  refine a_callSNv X dX2_join_78 miX7_cell lm2_62 (c_cell (by assumption) (by first | decide | assumption)) rfl rfl (Nat.le_of_ble_eq_true rfl) ⟨by decide, by decide, by decide, by decide⟩ ?_
  obtain ⟨M_81, f_81, h⟩ := zLtx h
  refine a_callSNu X dX2_join_81 miX7_put lm2_96 (zMu (c_put (by assumption) (by first | decide | assumption)) f_81) rfl rfl (Nat.le_of_ble_eq_true rfl) ⟨by decide, by decide, by decide, by decide⟩ ?_
  refine a_iconst (v := 0) X dX2_join_84 (by decide) ?_
  refine a_istore X dX2_join_85 (by decide) ?_
  exact Zw.to2 (H_87 _ _ _ _ h) rfl rfl rfl
noncomputable def D_X2_close_72 (Q : Nat) (y1_72 : Int32) (y2_72 : Int32) (M_72 : zMt) : Option (zMt) :=
  zLt (zwr M_72 (Q + 8) 10 y1_72 y2_72) fun M_72 =>
  some (M_72)
noncomputable def D_X2_close_27 (Q : Nat) (x1_27 : Int32) (x2_27 : Int32) (y0_27 : Int32) (M_27 : zMt) : Option (zMt) :=
  zLt (zwr M_27 (Q + 7) 10 x1_27 y0_27) fun M_36 =>
  if x2_27 = (2 : Int32) then
    D_X2_close_72 Q x1_27 ((1 : Int32) + (y0_27 * y0_27)) M_36
  else
    if x2_27 = (1 : Int32) then
      D_X2_close_72 Q x1_27 ((1 : Int32) + y0_27) M_36
    else
      D_X2_close_72 Q x1_27 (1 : Int32) M_36
noncomputable def D_X2_close (Q : Nat) (v0 : Int32) (v1 : Int32) (M : zMt) : Option (zMt) :=
  if (zrd 0 (M (Q + 5)) 10 v0) = 0 then
    D_X2_close_27 Q v0 v1 (0 : Int32) M
  else
    zZ (zrd 0 (M (Q + 5)) 10 v0) <|
    D_X2_close_27 Q v0 v1 ((zrd 0 (M (Q + 7)) 10 v0) / (zrd 0 (M (Q + 5)) 10 v0)) M
set_option maxRecDepth 100000 in
set_option maxHeartbeats 4000000 in
theorem t_X2_close {l : Launch} {G : zG} {b : Nat} {L : List zC} {M : zMt} {N : zNt} {Q : Nat} {v0 : Int32} {v1 : Int32} (hQ : LX2 L Q) {r : zMt} (h : D_X2_close Q v0 v1 M = some r) : zM l G b yX2_close cX2_close 5 none 1 0 0 [.ref Q, .int v0, .int v1] (L, M, N) (fun r2 z => r2 = none ∧ z = (L, r, N)) := by
  refine zM.of miX2_close (Nat.le_of_ble_eq_true rfl) ?_
  intro p e s m args below meth c X hr hname
  generalize hF : ((fun r2 z => r2 = none ∧ z = (L, r, N)) : Option Value → zS → Prop) = FQ
  change Zw p l e { frames := 1, cells := 0, slots := 0, locals := 80 * (1) } s m args below meth c G b 5 (MQ below (zQ G b FQ) args s 0 0 (fun q : Nat => b ≤ q)) 0 0 0 [some (.ref Q), some (.int v0), some (.int v1), none, none] [] (L, M, N)
  obtain ⟨q_lt, q_o, q_quota, q_preferred, q_forGuests, q_applicantOf, q_size, q_guestCount, q_score, q_tickets, q_bits, q_party, q_wishCount, q_wishes⟩ := id hQ
  have J_72 : ∀ (x1_72 : Int32) (x2_72 : Int32) (x3_72 : Int32) (x4_72 : Int32) (y1_72 : Int32) (y2_72 : Int32) (M_72 : zMt), D_X2_close_72 Q y1_72 y2_72 M_72 = some r → Zw p l e { frames := 1, cells := 0, slots := 0, locals := 80 * (1) } s m args below meth c G b 5 (MQ below (zQ G b FQ) args s 0 0 (fun q : Nat => b ≤ q)) 0 0 72 [some (.ref (Q)), some (.int x1_72), some (.int x2_72), some (.int x3_72), some (.int x4_72)] [.int y2_72, .int y1_72, .ref (Q + 8)] (L, M_72, N) := by
    intro x1_72 x2_72 x3_72 x4_72 y1_72 y2_72 M_72 h
    unfold D_X2_close_72 at h
    obtain ⟨M_72, f_72, h⟩ := zLtx h
    refine a_callSNu X dX2_close_72 miX7_put lm2_96 (zMu (c_put (by assumption) (by first | decide | assumption)) f_72) rfl rfl (Nat.le_of_ble_eq_true rfl) ⟨by decide, by decide, by decide, by decide⟩ ?_
    refine a_vret X hr dX2_close_75 ⟨by decide, by decide⟩ ?_
    subst hF
    rw [← Option.some.inj h]
    exact ⟨rfl, rfl⟩
  have J_27 : ∀ (x1_27 : Int32) (x2_27 : Int32) (x3_27 : Int32) (x4_27 : Option Value) (y0_27 : Int32) (M_27 : zMt), D_X2_close_27 Q x1_27 x2_27 y0_27 M_27 = some r → Zw p l e { frames := 1, cells := 0, slots := 0, locals := 80 * (1) } s m args below meth c G b 5 (MQ below (zQ G b FQ) args s 0 0 (fun q : Nat => b ≤ q)) 0 0 27 [some (.ref (Q)), some (.int x1_27), some (.int x2_27), some (.int x3_27), x4_27] [.int y0_27] (L, M_27, N) := by
    intro x1_27 x2_27 x3_27 x4_27 y0_27 M_27 h
    unfold D_X2_close_27 at h
    refine a_istore X dX2_close_27 (by decide) ?_
    refine a_aload_n X dX2_close_29 rfl ?_
    refine a_getr X lf2_30 (by assumption) rfl (by omega) dX2_close_30 ?_
    refine a_iload_n X dX2_close_33 rfl ?_
    refine a_iload X dX2_close_34 rfl ?_
    obtain ⟨M_36, f_36, h⟩ := zLtx h
    refine a_callSNu X dX2_close_36 miX7_put lm2_96 (zMu (c_put (by assumption) (by first | decide | assumption)) f_36) rfl rfl (Nat.le_of_ble_eq_true rfl) ⟨by decide, by decide, by decide, by decide⟩ ?_
    refine a_aload_n X dX2_close_39 rfl ?_
    refine a_getr X lf2_33 (by assumption) rfl (by omega) dX2_close_40 ?_
    refine a_iload_n X dX2_close_43 rfl ?_
    refine a_iload_n X dX2_close_44 rfl ?_
    refine a_iconst (v := 2) X dX2_close_45 (by decide) ?_
    refine a_icmp_ne (tgt := 59) X dX2_close_46 (by decide) (fun h_46 => ?_) (fun h_46 => ?_)
    · replace h := (if_neg h_46).symm.trans h
      refine a_iload_n X dX2_close_59 rfl ?_
      refine a_iconst (v := 1) X dX2_close_60 (by decide) ?_
      refine a_icmp_ne (tgt := 71) X dX2_close_61 (by decide) (fun h_61 => ?_) (fun h_61 => ?_)
      · replace h := (if_neg h_61).symm.trans h
        refine a_iconst (v := 1) X dX2_close_71 (by decide) ?_
        exact Zw.to2 (J_72 _ _ _ _ _ _ _ h) rfl rfl rfl
      · replace h := (if_pos h_61).symm.trans h
        refine a_iconst (v := 1) X dX2_close_64 (by decide) ?_
        refine a_iload X dX2_close_65 rfl ?_
        refine a_iadd X dX2_close_67 ?_
        refine a_goto (tgt := 72) X dX2_close_68 (by decide) ?_
        exact Zw.to2 (J_72 _ _ _ _ _ _ _ h) rfl rfl rfl
    · replace h := (if_pos h_46).symm.trans h
      refine a_iconst (v := 1) X dX2_close_49 (by decide) ?_
      refine a_iload X dX2_close_50 rfl ?_
      refine a_iload X dX2_close_52 rfl ?_
      refine a_imul X dX2_close_54 ?_
      refine a_iadd X dX2_close_55 ?_
      refine a_goto (tgt := 72) X dX2_close_56 (by decide) ?_
      exact Zw.to2 (J_72 _ _ _ _ _ _ _ h) rfl rfl rfl
  unfold D_X2_close at h
  refine a_aload_n X dX2_close_0 rfl ?_
  refine a_getr X lf2_24 (by assumption) rfl (by omega) dX2_close_1 ?_
  refine a_iload_n X dX2_close_4 rfl ?_
  refine a_callSNv X dX2_close_5 miX7_cell lm2_62 (c_cell (by assumption) (by first | decide | assumption)) rfl rfl (Nat.le_of_ble_eq_true rfl) ⟨by decide, by decide, by decide, by decide⟩ ?_
  refine a_istore_n X dX2_close_8 (by decide) ?_
  refine a_iload_n X dX2_close_9 rfl ?_
  refine a_if_ne (tgt := 17) X dX2_close_10 (by decide) (fun h_10 => ?_) (fun h_10 => ?_)
  · replace h := (if_neg h_10).symm.trans h
    refine a_aload_n X dX2_close_17 rfl ?_
    refine a_getr X lf2_30 (by assumption) rfl (by omega) dX2_close_18 ?_
    refine a_iload_n X dX2_close_21 rfl ?_
    refine a_callSNv X dX2_close_22 miX7_cell lm2_62 (c_cell (by assumption) (by first | decide | assumption)) rfl rfl (Nat.le_of_ble_eq_true rfl) ⟨by decide, by decide, by decide, by decide⟩ ?_
    refine a_iload_n X dX2_close_25 rfl ?_
    obtain ⟨z_26, h⟩ := zZx h
    refine a_idiv X dX2_close_26 (z_26) ?_
    exact Zw.to2 (J_27 _ _ _ _ _ _ h) rfl rfl rfl
  · replace h := (if_pos h_10).symm.trans h
    refine a_iconst (v := 0) X dX2_close_13 (by decide) ?_
    refine a_goto (tgt := 27) X dX2_close_14 (by decide) ?_
    exact Zw.to2 (J_27 _ _ _ _ _ _ h) rfl rfl rfl
noncomputable def D_X2_gather_111 (Q : Nat) (A : Nat) : Nat → Int32 → zMt → Option (zMt)
  | 0, _, _ => none
  | n + 1, x2_111, M_111 =>
    if (M_111 Q 1) ≤ x2_111 then
      some (M_111)
    else
      zB (D_X2_close Q x2_111 (M_111 A 3) M_111) fun e_125 =>
      zLt (zu e_125 Q 2 ((e_125 Q 2) + (zrd 0 (e_125 (Q + 8)) 10 x2_111))) fun M_142 =>
      (D_X2_gather_111 Q A n) (x2_111 + 1) M_142
noncomputable def D_X2_gather_92 (Q : Nat) (A : Nat) (k51 : Int32 → zMt → Option (zMt)) (k66 : Int32 → Int32 → zMt → Option (zMt)) (x2_92 : Int32) (x3_92 : Int32) (M_92 : zMt) : Option (zMt) :=
  k66 x2_92 (x3_92 + 1) M_92
noncomputable def D_X2_gather_66 (Q : Nat) (A : Nat) (k51 : Int32 → zMt → Option (zMt)) : Nat → Int32 → Int32 → zMt → Option (zMt)
  | 0, _, _, _ => none
  | n + 1, x2_66, x3_66, M_66 =>
    if (M_66 A 1) ≤ x3_66 then
      k51 (x2_66 + 1) M_66
    else
      if (zrd 0 (M_66 (A + 4)) 10 x3_66) = x2_66 then
        zB (D_X2_join Q A x3_66 M_66) fun e_89 =>
        D_X2_gather_92 Q A k51 (D_X2_gather_66 Q A k51 n) x2_66 x3_66 e_89
      else
        D_X2_gather_92 Q A k51 (D_X2_gather_66 Q A k51 n) x2_66 x3_66 M_66
noncomputable def D_X2_gather_51 (Q : Nat) (A : Nat) : Nat → Int32 → zMt → Option (zMt)
  | 0, _, _ => none
  | n + 1, x2_51, M_51 =>
    if (M_51 A 2) ≤ x2_51 then
      zLt (zu M_51 Q 2 (0 : Int32)) fun M_106 =>
      D_X2_gather_111 Q A zFu (0 : Int32) M_106
    else
      zB (D_X2_open Q x2_51 M_51) fun e_61 =>
      D_X2_gather_66 Q A (D_X2_gather_51 Q A n) zFu x2_51 (0 : Int32) e_61
noncomputable def D_X2_gather_43 (Q : Nat) (A : Nat) (k12 : Int32 → zMt → Option (zMt)) (x2_43 : Int32) (M_43 : zMt) : Option (zMt) :=
  k12 (x2_43 + 1) M_43
noncomputable def D_X2_gather_12 (Q : Nat) (A : Nat) : Nat → Int32 → zMt → Option (zMt)
  | 0, _, _ => none
  | n + 1, x2_12, M_12 =>
    if (M_12 A 1) ≤ x2_12 then
      D_X2_gather_51 Q A zFu (0 : Int32) M_12
    else
      if (zrd 0 (M_12 (A + 4)) 10 x2_12) = (-1 : Int32) then
        zB (D_X2_open Q (-1 : Int32) M_12) fun e_34 =>
        zB (D_X2_join Q A x2_12 e_34) fun e_40 =>
        D_X2_gather_43 Q A (D_X2_gather_12 Q A n) x2_12 e_40
      else
        D_X2_gather_43 Q A (D_X2_gather_12 Q A n) x2_12 M_12
noncomputable def D_X2_gather (Q : Nat) (A : Nat) (M : zMt) : Option (zMt) :=
  zB (D_X2_gatherUnits Q A M) fun e_2 =>
  zLt (zu e_2 Q 1 (0 : Int32)) fun M_7 =>
  D_X2_gather_12 Q A zFu (0 : Int32) M_7
set_option maxRecDepth 100000 in
set_option maxHeartbeats 4000000 in
theorem t_X2_gather {l : Launch} {G : zG} {b : Nat} {L : List zC} {M : zMt} {N : zNt} {Q : Nat} {A : Nat}  (hQ : LX2 L Q) (hA : LX4 L A) {r : zMt} (h : D_X2_gather Q A M = some r) : zM l G b yX2_gather cX2_gather 4 none 2 0 0 [.ref Q, .ref A] (L, M, N) (fun r2 z => r2 = none ∧ z = (L, r, N)) := by
  refine zM.of miX2_gather (Nat.le_of_ble_eq_true rfl) ?_
  intro p e s m args below meth c X hr hname
  generalize hF : ((fun r2 z => r2 = none ∧ z = (L, r, N)) : Option Value → zS → Prop) = FQ
  change Zw p l e { frames := 2, cells := 0, slots := 0, locals := 80 * (2) } s m args below meth c G b 4 (MQ below (zQ G b FQ) args s 0 0 (fun q : Nat => b ≤ q)) 0 0 0 [some (.ref Q), some (.ref A), none, none] [] (L, M, N)
  obtain ⟨q_lt, q_o, q_quota, q_preferred, q_forGuests, q_applicantOf, q_size, q_guestCount, q_score, q_tickets, q_bits, q_party, q_wishCount, q_wishes⟩ := id hQ
  obtain ⟨a_lt, a_o, a_quota, a_score, a_guest, a_party, a_wishCount, a_wishes, a_has⟩ := id hA
  have L_111 : ∀ u : Nat, ∀ (x2_111 : Int32) (x3_111 : Option Value) (M_111 : zMt), D_X2_gather_111 Q A u x2_111 M_111 = some r → Zw p l e { frames := 2, cells := 0, slots := 0, locals := 80 * (2) } s m args below meth c G b 4 (MQ below (zQ G b FQ) args s 0 0 (fun q : Nat => b ≤ q)) 0 0 111 [some (.ref (Q)), some (.ref (A)), some (.int x2_111), x3_111] [] (L, M_111, N) := by
    intro u
    induction u with
    | zero => intro x2_111 x3_111 M_111 h; cases (show none = some r from h)
    | succ u_111 ih_111 =>
      intro x2_111 x3_111 M_111 h
      rw [D_X2_gather_111] at h
      refine a_iload_n X dX2_gather_111 rfl ?_
      refine a_aload_n X dX2_gather_112 rfl ?_
      refine a_geti X lf2_52 (by assumption) rfl dX2_gather_113 ?_
      refine a_icmp_ge (tgt := 151) X dX2_gather_116 (by decide) (fun h_116 => ?_) (fun h_116 => ?_)
      · replace h := (if_pos h_116).symm.trans h
        refine a_vret X hr dX2_gather_151 ⟨by decide, by decide⟩ ?_
        subst hF
        rw [← Option.some.inj h]
        exact ⟨rfl, rfl⟩
      · replace h := (if_neg h_116).symm.trans h
        refine a_aload_n X dX2_gather_119 rfl ?_
        refine a_iload_n X dX2_gather_120 rfl ?_
        refine a_aload_n X dX2_gather_121 rfl ?_
        refine a_geti X lf2_80 (by assumption) rfl dX2_gather_122 ?_
        obtain ⟨e_125, f_125, h⟩ := zBx h
        refine a_callVu X dX2_gather_125 miX2_close lm2_83 (t_X2_close (by assumption) f_125) (by assumption) rfl rfl rfl (Nat.le_of_ble_eq_true rfl) ⟨by decide, by decide, by decide, by decide⟩ ?_
        refine a_aload_n X dX2_gather_128 rfl ?_
        refine a_dup X dX2_gather_129 rfl ?_
        refine a_geti X lf2_77 (by assumption) rfl dX2_gather_130 ?_
        refine a_aload_n X dX2_gather_133 rfl ?_
        refine a_getr X lf2_33 (by assumption) rfl (by omega) dX2_gather_134 ?_
        refine a_iload_n X dX2_gather_137 rfl ?_
        refine a_callSNv X dX2_gather_138 miX7_cell lm2_62 (c_cell (by assumption) (by first | decide | assumption)) rfl rfl (Nat.le_of_ble_eq_true rfl) ⟨by decide, by decide, by decide, by decide⟩ ?_
        refine a_iadd X dX2_gather_141 ?_
        obtain ⟨M_142, f_142, h⟩ := zLtx h
        refine d_puti X lf2_77 (by assumption) rfl dX2_gather_142 f_142 ?_
        refine a_iinc (v := x2_111 + 1) X dX2_gather_145 (by decide) rfl zi_1 ?_
        refine a_goto (tgt := 111) X dX2_gather_148 (by decide) ?_
        exact Zw.to2 (ih_111 _ _ _ h) rfl rfl rfl
  have H_111 : ∀ (x2_111 : Int32) (x3_111 : Option Value) (M_111 : zMt), D_X2_gather_111 Q A zFu x2_111 M_111 = some r → Zw p l e { frames := 2, cells := 0, slots := 0, locals := 80 * (2) } s m args below meth c G b 4 (MQ below (zQ G b FQ) args s 0 0 (fun q : Nat => b ≤ q)) 0 0 111 [some (.ref (Q)), some (.ref (A)), some (.int x2_111), x3_111] [] (L, M_111, N) := L_111 zFu
  have L_51 : ∀ u : Nat, ∀ (x2_51 : Int32) (x3_51 : Option Value) (M_51 : zMt), D_X2_gather_51 Q A u x2_51 M_51 = some r → Zw p l e { frames := 2, cells := 0, slots := 0, locals := 80 * (2) } s m args below meth c G b 4 (MQ below (zQ G b FQ) args s 0 0 (fun q : Nat => b ≤ q)) 0 0 51 [some (.ref (Q)), some (.ref (A)), some (.int x2_51), x3_51] [] (L, M_51, N) := by
    intro u
    induction u with
    | zero => intro x2_51 x3_51 M_51 h; cases (show none = some r from h)
    | succ u_51 ih_51 =>
      have L_66 : ∀ u : Nat, ∀ (x2_66 : Int32) (x3_66 : Int32) (M_66 : zMt), D_X2_gather_66 Q A (D_X2_gather_51 Q A u_51) u x2_66 x3_66 M_66 = some r → Zw p l e { frames := 2, cells := 0, slots := 0, locals := 80 * (2) } s m args below meth c G b 4 (MQ below (zQ G b FQ) args s 0 0 (fun q : Nat => b ≤ q)) 0 0 66 [some (.ref (Q)), some (.ref (A)), some (.int x2_66), some (.int x3_66)] [] (L, M_66, N) := by
        intro u
        induction u with
        | zero => intro x2_66 x3_66 M_66 h; cases (show none = some r from h)
        | succ u_66 ih_66 =>
          have J_92 : ∀ (x2_92 : Int32) (x3_92 : Int32) (M_92 : zMt), D_X2_gather_92 Q A (D_X2_gather_51 Q A u_51) (D_X2_gather_66 Q A (D_X2_gather_51 Q A u_51) u_66) x2_92 x3_92 M_92 = some r → Zw p l e { frames := 2, cells := 0, slots := 0, locals := 80 * (2) } s m args below meth c G b 4 (MQ below (zQ G b FQ) args s 0 0 (fun q : Nat => b ≤ q)) 0 0 92 [some (.ref (Q)), some (.ref (A)), some (.int x2_92), some (.int x3_92)] [] (L, M_92, N) := by
            intro x2_92 x3_92 M_92 h
            unfold D_X2_gather_92 at h
            refine a_iinc (v := x3_92 + 1) X dX2_gather_92 (by decide) rfl zi_1 ?_
            refine a_goto (tgt := 66) X dX2_gather_95 (by decide) ?_
            exact Zw.to2 (ih_66 _ _ _ h) rfl rfl rfl
          intro x2_66 x3_66 M_66 h
          rw [D_X2_gather_66] at h
          refine a_iload_n X dX2_gather_66 rfl ?_
          refine a_aload_n X dX2_gather_67 rfl ?_
          refine a_geti X lf2_56 (by assumption) rfl dX2_gather_68 ?_
          refine a_icmp_ge (tgt := 98) X dX2_gather_71 (by decide) (fun h_71 => ?_) (fun h_71 => ?_)
          · replace h := (if_pos h_71).symm.trans h
            refine a_iinc (v := x2_66 + 1) X dX2_gather_98 (by decide) rfl zi_1 ?_
            refine a_goto (tgt := 51) X dX2_gather_101 (by decide) ?_
            exact Zw.to2 (ih_51 _ _ _ h) rfl rfl rfl
          · replace h := (if_neg h_71).symm.trans h
            refine a_aload_n X dX2_gather_74 rfl ?_
            refine a_getr X lf2_61 (by assumption) rfl (by omega) dX2_gather_75 ?_
            refine a_iload_n X dX2_gather_78 rfl ?_
            refine a_callSNv X dX2_gather_79 miX7_cell lm2_62 (c_cell (by assumption) (by first | decide | assumption)) rfl rfl (Nat.le_of_ble_eq_true rfl) ⟨by decide, by decide, by decide, by decide⟩ ?_
            refine a_iload_n X dX2_gather_82 rfl ?_
            refine a_icmp_ne (tgt := 92) X dX2_gather_83 (by decide) (fun h_83 => ?_) (fun h_83 => ?_)
            · replace h := (if_neg h_83).symm.trans h
              exact Zw.to2 (J_92 _ _ _ h) rfl rfl rfl
            · replace h := (if_pos h_83).symm.trans h
              refine a_aload_n X dX2_gather_86 rfl ?_
              refine a_aload_n X dX2_gather_87 rfl ?_
              refine a_iload_n X dX2_gather_88 rfl ?_
              obtain ⟨e_89, f_89, h⟩ := zBx h
              refine a_callVu X dX2_gather_89 miX2_join lm2_70 (t_X2_join (by assumption) (by assumption) f_89) (by assumption) rfl rfl rfl (Nat.le_of_ble_eq_true rfl) ⟨by decide, by decide, by decide, by decide⟩ ?_
              exact Zw.to2 (J_92 _ _ _ h) rfl rfl rfl
      have H_66 : ∀ (x2_66 : Int32) (x3_66 : Int32) (M_66 : zMt), D_X2_gather_66 Q A (D_X2_gather_51 Q A u_51) zFu x2_66 x3_66 M_66 = some r → Zw p l e { frames := 2, cells := 0, slots := 0, locals := 80 * (2) } s m args below meth c G b 4 (MQ below (zQ G b FQ) args s 0 0 (fun q : Nat => b ≤ q)) 0 0 66 [some (.ref (Q)), some (.ref (A)), some (.int x2_66), some (.int x3_66)] [] (L, M_66, N) := L_66 zFu
      intro x2_51 x3_51 M_51 h
      rw [D_X2_gather_51] at h
      refine a_iload_n X dX2_gather_51 rfl ?_
      refine a_aload_n X dX2_gather_52 rfl ?_
      refine a_geti X lf2_74 (by assumption) rfl dX2_gather_53 ?_
      refine a_icmp_ge (tgt := 104) X dX2_gather_56 (by decide) (fun h_56 => ?_) (fun h_56 => ?_)
      · replace h := (if_pos h_56).symm.trans h
        refine a_aload_n X dX2_gather_104 rfl ?_
        refine a_iconst (v := 0) X dX2_gather_105 (by decide) ?_
        obtain ⟨M_106, f_106, h⟩ := zLtx h
        refine d_puti X lf2_77 (by assumption) rfl dX2_gather_106 f_106 ?_
        refine a_iconst (v := 0) X dX2_gather_109 (by decide) ?_
        refine a_istore_n X dX2_gather_110 (by decide) ?_
        exact Zw.to2 (H_111 _ _ _ h) rfl rfl rfl
      · replace h := (if_neg h_56).symm.trans h
        refine a_aload_n X dX2_gather_59 rfl ?_
        refine a_iload_n X dX2_gather_60 rfl ?_
        obtain ⟨e_61, f_61, h⟩ := zBx h
        refine a_callVu X dX2_gather_61 miX2_open lm2_66 (t_X2_open (by assumption) f_61) (by assumption) rfl rfl rfl (Nat.le_of_ble_eq_true rfl) ⟨by decide, by decide, by decide, by decide⟩ ?_
        refine a_iconst (v := 0) X dX2_gather_64 (by decide) ?_
        refine a_istore_n X dX2_gather_65 (by decide) ?_
        exact Zw.to2 (H_66 _ _ _ h) rfl rfl rfl
  have H_51 : ∀ (x2_51 : Int32) (x3_51 : Option Value) (M_51 : zMt), D_X2_gather_51 Q A zFu x2_51 M_51 = some r → Zw p l e { frames := 2, cells := 0, slots := 0, locals := 80 * (2) } s m args below meth c G b 4 (MQ below (zQ G b FQ) args s 0 0 (fun q : Nat => b ≤ q)) 0 0 51 [some (.ref (Q)), some (.ref (A)), some (.int x2_51), x3_51] [] (L, M_51, N) := L_51 zFu
  have L_12 : ∀ u : Nat, ∀ (x2_12 : Int32) (x3_12 : Option Value) (M_12 : zMt), D_X2_gather_12 Q A u x2_12 M_12 = some r → Zw p l e { frames := 2, cells := 0, slots := 0, locals := 80 * (2) } s m args below meth c G b 4 (MQ below (zQ G b FQ) args s 0 0 (fun q : Nat => b ≤ q)) 0 0 12 [some (.ref (Q)), some (.ref (A)), some (.int x2_12), x3_12] [] (L, M_12, N) := by
    intro u
    induction u with
    | zero => intro x2_12 x3_12 M_12 h; cases (show none = some r from h)
    | succ u_12 ih_12 =>
      have J_43 : ∀ (x2_43 : Int32) (x3_43 : Option Value) (M_43 : zMt), D_X2_gather_43 Q A (D_X2_gather_12 Q A u_12) x2_43 M_43 = some r → Zw p l e { frames := 2, cells := 0, slots := 0, locals := 80 * (2) } s m args below meth c G b 4 (MQ below (zQ G b FQ) args s 0 0 (fun q : Nat => b ≤ q)) 0 0 43 [some (.ref (Q)), some (.ref (A)), some (.int x2_43), x3_43] [] (L, M_43, N) := by
        intro x2_43 x3_43 M_43 h
        unfold D_X2_gather_43 at h
        refine a_iinc (v := x2_43 + 1) X dX2_gather_43 (by decide) rfl zi_1 ?_
        refine a_goto (tgt := 12) X dX2_gather_46 (by decide) ?_
        exact Zw.to2 (ih_12 _ _ _ h) rfl rfl rfl
      intro x2_12 x3_12 M_12 h
      rw [D_X2_gather_12] at h
      refine a_iload_n X dX2_gather_12 rfl ?_
      refine a_aload_n X dX2_gather_13 rfl ?_
      refine a_geti X lf2_56 (by assumption) rfl dX2_gather_14 ?_
      refine a_icmp_ge (tgt := 49) X dX2_gather_17 (by decide) (fun h_17 => ?_) (fun h_17 => ?_)
      · replace h := (if_pos h_17).symm.trans h
        refine a_iconst (v := 0) X dX2_gather_49 (by decide) ?_
        refine a_istore_n X dX2_gather_50 (by decide) ?_
        exact Zw.to2 (H_51 _ _ _ h) rfl rfl rfl
      · replace h := (if_neg h_17).symm.trans h
        refine a_aload_n X dX2_gather_20 rfl ?_
        refine a_getr X lf2_61 (by assumption) rfl (by omega) dX2_gather_21 ?_
        refine a_iload_n X dX2_gather_24 rfl ?_
        refine a_callSNv X dX2_gather_25 miX7_cell lm2_62 (c_cell (by assumption) (by first | decide | assumption)) rfl rfl (Nat.le_of_ble_eq_true rfl) ⟨by decide, by decide, by decide, by decide⟩ ?_
        refine a_iconst (v := -1) X dX2_gather_28 (by decide) ?_
        refine a_icmp_ne (tgt := 43) X dX2_gather_29 (by decide) (fun h_29 => ?_) (fun h_29 => ?_)
        · replace h := (if_neg h_29).symm.trans h
          exact Zw.to2 (J_43 _ _ _ h) rfl rfl rfl
        · replace h := (if_pos h_29).symm.trans h
          refine a_aload_n X dX2_gather_32 rfl ?_
          refine a_iconst (v := -1) X dX2_gather_33 (by decide) ?_
          obtain ⟨e_34, f_34, h⟩ := zBx h
          refine a_callVu X dX2_gather_34 miX2_open lm2_66 (t_X2_open (by assumption) f_34) (by assumption) rfl rfl rfl (Nat.le_of_ble_eq_true rfl) ⟨by decide, by decide, by decide, by decide⟩ ?_
          refine a_aload_n X dX2_gather_37 rfl ?_
          refine a_aload_n X dX2_gather_38 rfl ?_
          refine a_iload_n X dX2_gather_39 rfl ?_
          obtain ⟨e_40, f_40, h⟩ := zBx h
          refine a_callVu X dX2_gather_40 miX2_join lm2_70 (t_X2_join (by assumption) (by assumption) f_40) (by assumption) rfl rfl rfl (Nat.le_of_ble_eq_true rfl) ⟨by decide, by decide, by decide, by decide⟩ ?_
          exact Zw.to2 (J_43 _ _ _ h) rfl rfl rfl
  have H_12 : ∀ (x2_12 : Int32) (x3_12 : Option Value) (M_12 : zMt), D_X2_gather_12 Q A zFu x2_12 M_12 = some r → Zw p l e { frames := 2, cells := 0, slots := 0, locals := 80 * (2) } s m args below meth c G b 4 (MQ below (zQ G b FQ) args s 0 0 (fun q : Nat => b ≤ q)) 0 0 12 [some (.ref (Q)), some (.ref (A)), some (.int x2_12), x3_12] [] (L, M_12, N) := L_12 zFu
  unfold D_X2_gather at h
  refine a_aload_n X dX2_gather_0 rfl ?_
  refine a_aload_n X dX2_gather_1 rfl ?_
  obtain ⟨e_2, f_2, h⟩ := zBx h
  refine a_callVu X dX2_gather_2 miX2_gatherUnits lm2_48 (t_X2_gatherUnits (by assumption) (by assumption) f_2) (by assumption) rfl rfl rfl (Nat.le_of_ble_eq_true rfl) ⟨by decide, by decide, by decide, by decide⟩ ?_
  refine a_aload_n X dX2_gather_5 rfl ?_
  refine a_iconst (v := 0) X dX2_gather_6 (by decide) ?_
  obtain ⟨M_7, f_7, h⟩ := zLtx h
  refine d_puti X lf2_52 (by assumption) rfl dX2_gather_7 f_7 ?_
  refine a_iconst (v := 0) X dX2_gather_10 (by decide) ?_
  refine a_istore_n X dX2_gather_11 (by decide) ?_
  exact Zw.to2 (H_12 _ _ _ h) rfl rfl rfl
noncomputable def D_X2_rankOf_2 (Q : Nat) (M : zMt) : Nat → Int32 → Int32 → Int32 → Option (Int32)
  | 0, _, _, _ => none
  | n + 1, x1_2, x2_2, x3_2 =>
    if (zrd 0 (M (Q + 11)) 10 x1_2) ≤ x3_2 then
      some ((-1 : Int32))
    else
      zB (D_X2_wish Q M x1_2 x3_2) fun e_17 =>
      if e_17 = x2_2 then
        some (x3_2)
      else
        (D_X2_rankOf_2 Q M n) x1_2 x2_2 (x3_2 + 1)
noncomputable def D_X2_rankOf (Q : Nat) (M : zMt) (v0 : Int32) (v1 : Int32) : Option (Int32) :=
  D_X2_rankOf_2 Q M zFu v0 v1 (0 : Int32)
set_option maxRecDepth 100000 in
set_option maxHeartbeats 4000000 in
theorem t_X2_rankOf {l : Launch} {G : zG} {b : Nat} {L : List zC} {M : zMt} {N : zNt} {Q : Nat} {v0 : Int32} {v1 : Int32} (hQ : LX2 L Q) {r : Int32} (h : D_X2_rankOf Q M v0 v1 = some r) : zM l G b yX2_rankOf cX2_rankOf 4 (some .int) 2 0 0 [.ref Q, .int v0, .int v1] (L, M, N) (fun r2 z => r2 = some (.int r) ∧ z = (L, M, N)) := by
  refine zM.of miX2_rankOf (Nat.le_of_ble_eq_true rfl) ?_
  intro p e s m args below meth c X hr hname
  generalize hF : ((fun r2 z => r2 = some (.int r) ∧ z = (L, M, N)) : Option Value → zS → Prop) = FQ
  change Zw p l e { frames := 2, cells := 0, slots := 0, locals := 80 * (2) } s m args below meth c G b 4 (MQ below (zQ G b FQ) args s 0 0 (fun q : Nat => b ≤ q)) 0 0 0 [some (.ref Q), some (.int v0), some (.int v1), none] [] (L, M, N)
  obtain ⟨q_lt, q_o, q_quota, q_preferred, q_forGuests, q_applicantOf, q_size, q_guestCount, q_score, q_tickets, q_bits, q_party, q_wishCount, q_wishes⟩ := id hQ
  have L_2 : ∀ u : Nat, ∀ (x1_2 : Int32) (x2_2 : Int32) (x3_2 : Int32), D_X2_rankOf_2 Q M u x1_2 x2_2 x3_2 = some r → Zw p l e { frames := 2, cells := 0, slots := 0, locals := 80 * (2) } s m args below meth c G b 4 (MQ below (zQ G b FQ) args s 0 0 (fun q : Nat => b ≤ q)) 0 0 2 [some (.ref (Q)), some (.int x1_2), some (.int x2_2), some (.int x3_2)] [] (L, M, N) := by
    intro u
    induction u with
    | zero => intro x1_2 x2_2 x3_2 h; cases (show none = some r from h)
    | succ u_2 ih_2 =>
      intro x1_2 x2_2 x3_2 h
      rw [D_X2_rankOf_2] at h
      refine a_iload_n X dX2_rankOf_2 rfl ?_
      refine a_aload_n X dX2_rankOf_3 rfl ?_
      refine a_getr X lf2_42 (by assumption) rfl (by omega) dX2_rankOf_4 ?_
      refine a_iload_n X dX2_rankOf_7 rfl ?_
      refine a_callSNv X dX2_rankOf_8 miX7_cell lm2_62 (c_cell (by assumption) (by first | decide | assumption)) rfl rfl (Nat.le_of_ble_eq_true rfl) ⟨by decide, by decide, by decide, by decide⟩ ?_
      refine a_icmp_ge (tgt := 32) X dX2_rankOf_11 (by decide) (fun h_11 => ?_) (fun h_11 => ?_)
      · replace h := (if_pos h_11).symm.trans h
        refine a_iconst (v := -1) X dX2_rankOf_32 (by decide) ?_
        refine a_iret X hr dX2_rankOf_33 ⟨by decide, by decide⟩ ?_
        subst hF
        rw [← Option.some.inj h]
        exact ⟨rfl, rfl⟩
      · replace h := (if_neg h_11).symm.trans h
        refine a_aload_n X dX2_rankOf_14 rfl ?_
        refine a_iload_n X dX2_rankOf_15 rfl ?_
        refine a_iload_n X dX2_rankOf_16 rfl ?_
        obtain ⟨e_17, f_17, h⟩ := zBx h
        refine a_callVv X dX2_rankOf_17 miX2_wish lm2_115 (t_X2_wish (by assumption) f_17) (by assumption) rfl rfl rfl (Nat.le_of_ble_eq_true rfl) ⟨by decide, by decide, by decide, by decide⟩ ?_
        refine a_iload_n X dX2_rankOf_20 rfl ?_
        refine a_icmp_ne (tgt := 26) X dX2_rankOf_21 (by decide) (fun h_21 => ?_) (fun h_21 => ?_)
        · replace h := (if_neg h_21).symm.trans h
          refine a_iinc (v := x3_2 + 1) X dX2_rankOf_26 (by decide) rfl zi_1 ?_
          refine a_goto (tgt := 2) X dX2_rankOf_29 (by decide) ?_
          exact Zw.to2 (ih_2 _ _ _ h) rfl rfl rfl
        · replace h := (if_pos h_21).symm.trans h
          refine a_iload_n X dX2_rankOf_24 rfl ?_
          refine a_iret X hr dX2_rankOf_25 ⟨by decide, by decide⟩ ?_
          subst hF
          rw [← Option.some.inj h]
          exact ⟨rfl, rfl⟩
  have H_2 : ∀ (x1_2 : Int32) (x2_2 : Int32) (x3_2 : Int32), D_X2_rankOf_2 Q M zFu x1_2 x2_2 x3_2 = some r → Zw p l e { frames := 2, cells := 0, slots := 0, locals := 80 * (2) } s m args below meth c G b 4 (MQ below (zQ G b FQ) args s 0 0 (fun q : Nat => b ≤ q)) 0 0 2 [some (.ref (Q)), some (.int x1_2), some (.int x2_2), some (.int x3_2)] [] (L, M, N) := L_2 zFu
  unfold D_X2_rankOf at h
  refine a_iconst (v := 0) X dX2_rankOf_0 (by decide) ?_
  refine a_istore_n X dX2_rankOf_1 (by decide) ?_
  exact Zw.to2 (H_2 _ _ _ h) rfl rfl rfl
noncomputable def D_X2_firstApplicants_27 (Q : Nat) (M : zMt) (k4 : Int32 → Int32 → Int32 → Option (Int32)) (x1_27 : Int32) (x3_27 : Int32) (y0_27 : Int32) (y1_27 : Int32) : Option (Int32) :=
  k4 x1_27 (y0_27 + y1_27) (x3_27 + 1)
noncomputable def D_X2_firstApplicants_4 (Q : Nat) (M : zMt) : Nat → Int32 → Int32 → Int32 → Option (Int32)
  | 0, _, _, _ => none
  | n + 1, x1_4, x2_4, x3_4 =>
    if (M Q 1) ≤ x3_4 then
      some (x2_4)
    else
      zB (D_X2_rankOf Q M x3_4 x1_4) fun e_16 =>
      if e_16 = 0 then
        D_X2_firstApplicants_27 Q M (D_X2_firstApplicants_4 Q M n) x1_4 x3_4 x2_4 (1 : Int32)
      else
        D_X2_firstApplicants_27 Q M (D_X2_firstApplicants_4 Q M n) x1_4 x3_4 x2_4 (0 : Int32)
noncomputable def D_X2_firstApplicants (Q : Nat) (M : zMt) (v0 : Int32) : Option (Int32) :=
  D_X2_firstApplicants_4 Q M zFu v0 (0 : Int32) (0 : Int32)
set_option maxRecDepth 100000 in
set_option maxHeartbeats 4000000 in
theorem t_X2_firstApplicants {l : Launch} {G : zG} {b : Nat} {L : List zC} {M : zMt} {N : zNt} {Q : Nat} {v0 : Int32} (hQ : LX2 L Q) {r : Int32} (h : D_X2_firstApplicants Q M v0 = some r) : zM l G b yX2_firstApplicants cX2_firstApplicants 4 (some .int) 3 0 0 [.ref Q, .int v0] (L, M, N) (fun r2 z => r2 = some (.int r) ∧ z = (L, M, N)) := by
  refine zM.of miX2_firstApplicants (Nat.le_of_ble_eq_true rfl) ?_
  intro p e s m args below meth c X hr hname
  generalize hF : ((fun r2 z => r2 = some (.int r) ∧ z = (L, M, N)) : Option Value → zS → Prop) = FQ
  change Zw p l e { frames := 3, cells := 0, slots := 0, locals := 80 * (3) } s m args below meth c G b 4 (MQ below (zQ G b FQ) args s 0 0 (fun q : Nat => b ≤ q)) 0 0 0 [some (.ref Q), some (.int v0), none, none] [] (L, M, N)
  obtain ⟨q_lt, q_o, q_quota, q_preferred, q_forGuests, q_applicantOf, q_size, q_guestCount, q_score, q_tickets, q_bits, q_party, q_wishCount, q_wishes⟩ := id hQ
  have L_4 : ∀ u : Nat, ∀ (x1_4 : Int32) (x2_4 : Int32) (x3_4 : Int32), D_X2_firstApplicants_4 Q M u x1_4 x2_4 x3_4 = some r → Zw p l e { frames := 3, cells := 0, slots := 0, locals := 80 * (3) } s m args below meth c G b 4 (MQ below (zQ G b FQ) args s 0 0 (fun q : Nat => b ≤ q)) 0 0 4 [some (.ref (Q)), some (.int x1_4), some (.int x2_4), some (.int x3_4)] [] (L, M, N) := by
    intro u
    induction u with
    | zero => intro x1_4 x2_4 x3_4 h; cases (show none = some r from h)
    | succ u_4 ih_4 =>
      have J_27 : ∀ (x1_27 : Int32) (x2_27 : Int32) (x3_27 : Int32) (y0_27 : Int32) (y1_27 : Int32), (y1_27 = 0 ∨ y1_27 = 1) → D_X2_firstApplicants_27 Q M (D_X2_firstApplicants_4 Q M u_4) x1_27 x3_27 y0_27 y1_27 = some r → Zw p l e { frames := 3, cells := 0, slots := 0, locals := 80 * (3) } s m args below meth c G b 4 (MQ below (zQ G b FQ) args s 0 0 (fun q : Nat => b ≤ q)) 0 0 27 [some (.ref (Q)), some (.int x1_27), some (.int x2_27), some (.int x3_27)] [.int y1_27, .int y0_27] (L, M, N) := by
        intro x1_27 x2_27 x3_27 y0_27 y1_27 fb_y1_27 h
        unfold D_X2_firstApplicants_27 at h
        refine a_iadd X dX2_firstApplicants_27 ?_
        refine a_istore_n X dX2_firstApplicants_28 (by decide) ?_
        refine a_iinc (v := x3_27 + 1) X dX2_firstApplicants_29 (by decide) rfl zi_1 ?_
        refine a_goto (tgt := 4) X dX2_firstApplicants_32 (by decide) ?_
        exact Zw.to2 (ih_4 _ _ _ h) rfl rfl rfl
      intro x1_4 x2_4 x3_4 h
      rw [D_X2_firstApplicants_4] at h
      refine a_iload_n X dX2_firstApplicants_4 rfl ?_
      refine a_aload_n X dX2_firstApplicants_5 rfl ?_
      refine a_geti X lf2_52 (by assumption) rfl dX2_firstApplicants_6 ?_
      refine a_icmp_ge (tgt := 35) X dX2_firstApplicants_9 (by decide) (fun h_9 => ?_) (fun h_9 => ?_)
      · replace h := (if_pos h_9).symm.trans h
        refine a_iload_n X dX2_firstApplicants_35 rfl ?_
        refine a_iret X hr dX2_firstApplicants_36 ⟨by decide, by decide⟩ ?_
        subst hF
        rw [← Option.some.inj h]
        exact ⟨rfl, rfl⟩
      · replace h := (if_neg h_9).symm.trans h
        refine a_iload_n X dX2_firstApplicants_12 rfl ?_
        refine a_aload_n X dX2_firstApplicants_13 rfl ?_
        refine a_iload_n X dX2_firstApplicants_14 rfl ?_
        refine a_iload_n X dX2_firstApplicants_15 rfl ?_
        obtain ⟨e_16, f_16, h⟩ := zBx h
        refine a_callVv X dX2_firstApplicants_16 miX2_rankOf lm2_119 (t_X2_rankOf (by assumption) f_16) (by assumption) rfl rfl rfl (Nat.le_of_ble_eq_true rfl) ⟨by decide, by decide, by decide, by decide⟩ ?_
        refine a_if_ne (tgt := 26) X dX2_firstApplicants_19 (by decide) (fun h_19 => ?_) (fun h_19 => ?_)
        · replace h := (if_neg h_19).symm.trans h
          refine a_iconst (v := 0) X dX2_firstApplicants_26 (by decide) ?_
          exact Zw.to2 (J_27 _ _ _ _ _ (by first | exact Or.inl rfl | exact Or.inr rfl | assumption) h) rfl rfl rfl
        · replace h := (if_pos h_19).symm.trans h
          refine a_iconst (v := 1) X dX2_firstApplicants_22 (by decide) ?_
          refine a_goto (tgt := 27) X dX2_firstApplicants_23 (by decide) ?_
          exact Zw.to2 (J_27 _ _ _ _ _ (by first | exact Or.inl rfl | exact Or.inr rfl | assumption) h) rfl rfl rfl
  have H_4 : ∀ (x1_4 : Int32) (x2_4 : Int32) (x3_4 : Int32), D_X2_firstApplicants_4 Q M zFu x1_4 x2_4 x3_4 = some r → Zw p l e { frames := 3, cells := 0, slots := 0, locals := 80 * (3) } s m args below meth c G b 4 (MQ below (zQ G b FQ) args s 0 0 (fun q : Nat => b ≤ q)) 0 0 4 [some (.ref (Q)), some (.int x1_4), some (.int x2_4), some (.int x3_4)] [] (L, M, N) := L_4 zFu
  unfold D_X2_firstApplicants at h
  refine a_iconst (v := 0) X dX2_firstApplicants_0 (by decide) ?_
  refine a_istore_n X dX2_firstApplicants_1 (by decide) ?_
  refine a_iconst (v := 0) X dX2_firstApplicants_2 (by decide) ?_
  refine a_istore_n X dX2_firstApplicants_3 (by decide) ?_
  exact Zw.to2 (H_4 _ _ _ h) rfl rfl rfl
noncomputable def D_X2_firstHunters_34 (Q : Nat) (M : zMt) (k4 : Int32 → Int32 → Int32 → Option (Int32)) (x1_34 : Int32) (x3_34 : Int32) (y0_34 : Int32) (y1_34 : Int32) : Option (Int32) :=
  k4 x1_34 (y0_34 + y1_34) (x3_34 + 1)
noncomputable def D_X2_firstHunters_4 (Q : Nat) (M : zMt) : Nat → Int32 → Int32 → Int32 → Option (Int32)
  | 0, _, _, _ => none
  | n + 1, x1_4, x2_4, x3_4 =>
    if (M Q 1) ≤ x3_4 then
      some (x2_4)
    else
      zB (D_X2_rankOf Q M x3_4 x1_4) fun e_16 =>
      if e_16 = 0 then
        D_X2_firstHunters_34 Q M (D_X2_firstHunters_4 Q M n) x1_4 x3_4 x2_4 (zrd 0 (M (Q + 5)) 10 x3_4)
      else
        D_X2_firstHunters_34 Q M (D_X2_firstHunters_4 Q M n) x1_4 x3_4 x2_4 (0 : Int32)
noncomputable def D_X2_firstHunters (Q : Nat) (M : zMt) (v0 : Int32) : Option (Int32) :=
  D_X2_firstHunters_4 Q M zFu v0 (0 : Int32) (0 : Int32)
set_option maxRecDepth 100000 in
set_option maxHeartbeats 4000000 in
theorem t_X2_firstHunters {l : Launch} {G : zG} {b : Nat} {L : List zC} {M : zMt} {N : zNt} {Q : Nat} {v0 : Int32} (hQ : LX2 L Q) {r : Int32} (h : D_X2_firstHunters Q M v0 = some r) : zM l G b yX2_firstHunters cX2_firstHunters 4 (some .int) 3 0 0 [.ref Q, .int v0] (L, M, N) (fun r2 z => r2 = some (.int r) ∧ z = (L, M, N)) := by
  refine zM.of miX2_firstHunters (Nat.le_of_ble_eq_true rfl) ?_
  intro p e s m args below meth c X hr hname
  generalize hF : ((fun r2 z => r2 = some (.int r) ∧ z = (L, M, N)) : Option Value → zS → Prop) = FQ
  change Zw p l e { frames := 3, cells := 0, slots := 0, locals := 80 * (3) } s m args below meth c G b 4 (MQ below (zQ G b FQ) args s 0 0 (fun q : Nat => b ≤ q)) 0 0 0 [some (.ref Q), some (.int v0), none, none] [] (L, M, N)
  obtain ⟨q_lt, q_o, q_quota, q_preferred, q_forGuests, q_applicantOf, q_size, q_guestCount, q_score, q_tickets, q_bits, q_party, q_wishCount, q_wishes⟩ := id hQ
  have L_4 : ∀ u : Nat, ∀ (x1_4 : Int32) (x2_4 : Int32) (x3_4 : Int32), D_X2_firstHunters_4 Q M u x1_4 x2_4 x3_4 = some r → Zw p l e { frames := 3, cells := 0, slots := 0, locals := 80 * (3) } s m args below meth c G b 4 (MQ below (zQ G b FQ) args s 0 0 (fun q : Nat => b ≤ q)) 0 0 4 [some (.ref (Q)), some (.int x1_4), some (.int x2_4), some (.int x3_4)] [] (L, M, N) := by
    intro u
    induction u with
    | zero => intro x1_4 x2_4 x3_4 h; cases (show none = some r from h)
    | succ u_4 ih_4 =>
      have J_34 : ∀ (x1_34 : Int32) (x2_34 : Int32) (x3_34 : Int32) (y0_34 : Int32) (y1_34 : Int32), D_X2_firstHunters_34 Q M (D_X2_firstHunters_4 Q M u_4) x1_34 x3_34 y0_34 y1_34 = some r → Zw p l e { frames := 3, cells := 0, slots := 0, locals := 80 * (3) } s m args below meth c G b 4 (MQ below (zQ G b FQ) args s 0 0 (fun q : Nat => b ≤ q)) 0 0 34 [some (.ref (Q)), some (.int x1_34), some (.int x2_34), some (.int x3_34)] [.int y1_34, .int y0_34] (L, M, N) := by
        intro x1_34 x2_34 x3_34 y0_34 y1_34 h
        unfold D_X2_firstHunters_34 at h
        refine a_iadd X dX2_firstHunters_34 ?_
        refine a_istore_n X dX2_firstHunters_35 (by decide) ?_
        refine a_iinc (v := x3_34 + 1) X dX2_firstHunters_36 (by decide) rfl zi_1 ?_
        refine a_goto (tgt := 4) X dX2_firstHunters_39 (by decide) ?_
        exact Zw.to2 (ih_4 _ _ _ h) rfl rfl rfl
      intro x1_4 x2_4 x3_4 h
      rw [D_X2_firstHunters_4] at h
      refine a_iload_n X dX2_firstHunters_4 rfl ?_
      refine a_aload_n X dX2_firstHunters_5 rfl ?_
      refine a_geti X lf2_52 (by assumption) rfl dX2_firstHunters_6 ?_
      refine a_icmp_ge (tgt := 42) X dX2_firstHunters_9 (by decide) (fun h_9 => ?_) (fun h_9 => ?_)
      · replace h := (if_pos h_9).symm.trans h
        refine a_iload_n X dX2_firstHunters_42 rfl ?_
        refine a_iret X hr dX2_firstHunters_43 ⟨by decide, by decide⟩ ?_
        subst hF
        rw [← Option.some.inj h]
        exact ⟨rfl, rfl⟩
      · replace h := (if_neg h_9).symm.trans h
        refine a_iload_n X dX2_firstHunters_12 rfl ?_
        refine a_aload_n X dX2_firstHunters_13 rfl ?_
        refine a_iload_n X dX2_firstHunters_14 rfl ?_
        refine a_iload_n X dX2_firstHunters_15 rfl ?_
        obtain ⟨e_16, f_16, h⟩ := zBx h
        refine a_callVv X dX2_firstHunters_16 miX2_rankOf lm2_119 (t_X2_rankOf (by assumption) f_16) (by assumption) rfl rfl rfl (Nat.le_of_ble_eq_true rfl) ⟨by decide, by decide, by decide, by decide⟩ ?_
        refine a_if_ne (tgt := 33) X dX2_firstHunters_19 (by decide) (fun h_19 => ?_) (fun h_19 => ?_)
        · replace h := (if_neg h_19).symm.trans h
          refine a_iconst (v := 0) X dX2_firstHunters_33 (by decide) ?_
          exact Zw.to2 (J_34 _ _ _ _ _ h) rfl rfl rfl
        · replace h := (if_pos h_19).symm.trans h
          refine a_aload_n X dX2_firstHunters_22 rfl ?_
          refine a_getr X lf2_24 (by assumption) rfl (by omega) dX2_firstHunters_23 ?_
          refine a_iload_n X dX2_firstHunters_26 rfl ?_
          refine a_callSNv X dX2_firstHunters_27 miX7_cell lm2_62 (c_cell (by assumption) (by first | decide | assumption)) rfl rfl (Nat.le_of_ble_eq_true rfl) ⟨by decide, by decide, by decide, by decide⟩ ?_
          refine a_goto (tgt := 34) X dX2_firstHunters_30 (by decide) ?_
          exact Zw.to2 (J_34 _ _ _ _ _ h) rfl rfl rfl
  have H_4 : ∀ (x1_4 : Int32) (x2_4 : Int32) (x3_4 : Int32), D_X2_firstHunters_4 Q M zFu x1_4 x2_4 x3_4 = some r → Zw p l e { frames := 3, cells := 0, slots := 0, locals := 80 * (3) } s m args below meth c G b 4 (MQ below (zQ G b FQ) args s 0 0 (fun q : Nat => b ≤ q)) 0 0 4 [some (.ref (Q)), some (.int x1_4), some (.int x2_4), some (.int x3_4)] [] (L, M, N) := L_4 zFu
  unfold D_X2_firstHunters at h
  refine a_iconst (v := 0) X dX2_firstHunters_0 (by decide) ?_
  refine a_istore_n X dX2_firstHunters_1 (by decide) ?_
  refine a_iconst (v := 0) X dX2_firstHunters_2 (by decide) ?_
  refine a_istore_n X dX2_firstHunters_3 (by decide) ?_
  exact Zw.to2 (H_4 _ _ _ h) rfl rfl rfl
noncomputable def D_X2_askers_28 (Q : Nat) (M : zMt) (k4 : Int32 → Int32 → Int32 → Option (Int32)) (x1_28 : Int32) (x3_28 : Int32) (y0_28 : Int32) (y1_28 : Int32) : Option (Int32) :=
  k4 x1_28 (y0_28 + y1_28) (x3_28 + 1)
noncomputable def D_X2_askers_4 (Q : Nat) (M : zMt) : Nat → Int32 → Int32 → Int32 → Option (Int32)
  | 0, _, _, _ => none
  | n + 1, x1_4, x2_4, x3_4 =>
    if (M Q 1) ≤ x3_4 then
      some (x2_4)
    else
      zB (D_X2_rankOf Q M x3_4 x1_4) fun e_16 =>
      if e_16 = (-1 : Int32) then
        D_X2_askers_28 Q M (D_X2_askers_4 Q M n) x1_4 x3_4 x2_4 (0 : Int32)
      else
        D_X2_askers_28 Q M (D_X2_askers_4 Q M n) x1_4 x3_4 x2_4 (1 : Int32)
noncomputable def D_X2_askers (Q : Nat) (M : zMt) (v0 : Int32) : Option (Int32) :=
  D_X2_askers_4 Q M zFu v0 (0 : Int32) (0 : Int32)
set_option maxRecDepth 100000 in
set_option maxHeartbeats 4000000 in
theorem t_X2_askers {l : Launch} {G : zG} {b : Nat} {L : List zC} {M : zMt} {N : zNt} {Q : Nat} {v0 : Int32} (hQ : LX2 L Q) {r : Int32} (h : D_X2_askers Q M v0 = some r) : zM l G b yX2_askers cX2_askers 4 (some .int) 3 0 0 [.ref Q, .int v0] (L, M, N) (fun r2 z => r2 = some (.int r) ∧ z = (L, M, N)) := by
  refine zM.of miX2_askers (Nat.le_of_ble_eq_true rfl) ?_
  intro p e s m args below meth c X hr hname
  generalize hF : ((fun r2 z => r2 = some (.int r) ∧ z = (L, M, N)) : Option Value → zS → Prop) = FQ
  change Zw p l e { frames := 3, cells := 0, slots := 0, locals := 80 * (3) } s m args below meth c G b 4 (MQ below (zQ G b FQ) args s 0 0 (fun q : Nat => b ≤ q)) 0 0 0 [some (.ref Q), some (.int v0), none, none] [] (L, M, N)
  obtain ⟨q_lt, q_o, q_quota, q_preferred, q_forGuests, q_applicantOf, q_size, q_guestCount, q_score, q_tickets, q_bits, q_party, q_wishCount, q_wishes⟩ := id hQ
  have L_4 : ∀ u : Nat, ∀ (x1_4 : Int32) (x2_4 : Int32) (x3_4 : Int32), D_X2_askers_4 Q M u x1_4 x2_4 x3_4 = some r → Zw p l e { frames := 3, cells := 0, slots := 0, locals := 80 * (3) } s m args below meth c G b 4 (MQ below (zQ G b FQ) args s 0 0 (fun q : Nat => b ≤ q)) 0 0 4 [some (.ref (Q)), some (.int x1_4), some (.int x2_4), some (.int x3_4)] [] (L, M, N) := by
    intro u
    induction u with
    | zero => intro x1_4 x2_4 x3_4 h; cases (show none = some r from h)
    | succ u_4 ih_4 =>
      have J_28 : ∀ (x1_28 : Int32) (x2_28 : Int32) (x3_28 : Int32) (y0_28 : Int32) (y1_28 : Int32), (y1_28 = 0 ∨ y1_28 = 1) → D_X2_askers_28 Q M (D_X2_askers_4 Q M u_4) x1_28 x3_28 y0_28 y1_28 = some r → Zw p l e { frames := 3, cells := 0, slots := 0, locals := 80 * (3) } s m args below meth c G b 4 (MQ below (zQ G b FQ) args s 0 0 (fun q : Nat => b ≤ q)) 0 0 28 [some (.ref (Q)), some (.int x1_28), some (.int x2_28), some (.int x3_28)] [.int y1_28, .int y0_28] (L, M, N) := by
        intro x1_28 x2_28 x3_28 y0_28 y1_28 fb_y1_28 h
        unfold D_X2_askers_28 at h
        refine a_iadd X dX2_askers_28 ?_
        refine a_istore_n X dX2_askers_29 (by decide) ?_
        refine a_iinc (v := x3_28 + 1) X dX2_askers_30 (by decide) rfl zi_1 ?_
        refine a_goto (tgt := 4) X dX2_askers_33 (by decide) ?_
        exact Zw.to2 (ih_4 _ _ _ h) rfl rfl rfl
      intro x1_4 x2_4 x3_4 h
      rw [D_X2_askers_4] at h
      refine a_iload_n X dX2_askers_4 rfl ?_
      refine a_aload_n X dX2_askers_5 rfl ?_
      refine a_geti X lf2_52 (by assumption) rfl dX2_askers_6 ?_
      refine a_icmp_ge (tgt := 36) X dX2_askers_9 (by decide) (fun h_9 => ?_) (fun h_9 => ?_)
      · replace h := (if_pos h_9).symm.trans h
        refine a_iload_n X dX2_askers_36 rfl ?_
        refine a_iret X hr dX2_askers_37 ⟨by decide, by decide⟩ ?_
        subst hF
        rw [← Option.some.inj h]
        exact ⟨rfl, rfl⟩
      · replace h := (if_neg h_9).symm.trans h
        refine a_iload_n X dX2_askers_12 rfl ?_
        refine a_aload_n X dX2_askers_13 rfl ?_
        refine a_iload_n X dX2_askers_14 rfl ?_
        refine a_iload_n X dX2_askers_15 rfl ?_
        obtain ⟨e_16, f_16, h⟩ := zBx h
        refine a_callVv X dX2_askers_16 miX2_rankOf lm2_119 (t_X2_rankOf (by assumption) f_16) (by assumption) rfl rfl rfl (Nat.le_of_ble_eq_true rfl) ⟨by decide, by decide, by decide, by decide⟩ ?_
        refine a_iconst (v := -1) X dX2_askers_19 (by decide) ?_
        refine a_icmp_ne (tgt := 27) X dX2_askers_20 (by decide) (fun h_20 => ?_) (fun h_20 => ?_)
        · replace h := (if_neg h_20).symm.trans h
          refine a_iconst (v := 1) X dX2_askers_27 (by decide) ?_
          exact Zw.to2 (J_28 _ _ _ _ _ (by first | exact Or.inl rfl | exact Or.inr rfl | assumption) h) rfl rfl rfl
        · replace h := (if_pos h_20).symm.trans h
          refine a_iconst (v := 0) X dX2_askers_23 (by decide) ?_
          refine a_goto (tgt := 28) X dX2_askers_24 (by decide) ?_
          exact Zw.to2 (J_28 _ _ _ _ _ (by first | exact Or.inl rfl | exact Or.inr rfl | assumption) h) rfl rfl rfl
  have H_4 : ∀ (x1_4 : Int32) (x2_4 : Int32) (x3_4 : Int32), D_X2_askers_4 Q M zFu x1_4 x2_4 x3_4 = some r → Zw p l e { frames := 3, cells := 0, slots := 0, locals := 80 * (3) } s m args below meth c G b 4 (MQ below (zQ G b FQ) args s 0 0 (fun q : Nat => b ≤ q)) 0 0 4 [some (.ref (Q)), some (.int x1_4), some (.int x2_4), some (.int x3_4)] [] (L, M, N) := L_4 zFu
  unfold D_X2_askers at h
  refine a_iconst (v := 0) X dX2_askers_0 (by decide) ?_
  refine a_istore_n X dX2_askers_1 (by decide) ?_
  refine a_iconst (v := 0) X dX2_askers_2 (by decide) ?_
  refine a_istore_n X dX2_askers_3 (by decide) ?_
  exact Zw.to2 (H_4 _ _ _ h) rfl rfl rfl
