noncomputable def D_X5_bySeed (Q : Nat) (A : Nat) (v0 : Int32) (M : zMt) : Option (zMt) :=
  zB (D_X5_lineUp Q A v0 M) fun e_3 =>
  zB (D_X5_settle Q A e_3) fun e_8 =>
  some (e_8)
set_option maxRecDepth 100000 in
set_option maxHeartbeats 4000000 in
theorem t_X5_bySeed {l : Launch} {G : zG} {b : Nat} {L : List zC} {M : zMt} {N : zNt} {Q : Nat} {A : Nat} {v0 : Int32} (hQ : LX5 L Q) (hA : LX2 L A) {r : zMt} (h : D_X5_bySeed Q A v0 M = some r) : zM l G b yX5_bySeed cX5_bySeed 3 none 4 0 0 [.ref Q, .ref A, .int v0] (L, M, N) (fun r2 z => r2 = none ∧ z = (L, r, N)) := by
  refine zM.of miX5_bySeed (Nat.le_of_ble_eq_true rfl) ?_
  intro p e s m args below meth c X hr hname
  generalize hF : ((fun r2 z => r2 = none ∧ z = (L, r, N)) : Option Value → zS → Prop) = FQ
  change Zw p l e { frames := 4, cells := 0, slots := 0, locals := 80 * (4) } s m args below meth c G b 3 (MQ below (zQ G b FQ) args s 0 0 (fun q : Nat => b ≤ q)) 0 0 0 [some (.ref Q), some (.ref A), some (.int v0)] [] (L, M, N)
  obtain ⟨q_lt, q_o, q_line, q_unitOf, q_roundOf, q_leftTags, q_leftGuests, q_leftPreferred, q_ranked⟩ := id hQ
  obtain ⟨a_lt, a_o, a_quota, a_preferred, a_forGuests, a_applicantOf, a_size, a_guestCount, a_score, a_tickets, a_bits, a_party, a_wishCount, a_wishes⟩ := id hA
  unfold D_X5_bySeed at h
  refine a_aload_n X dX5_bySeed_0 rfl ?_
  refine a_aload_n X dX5_bySeed_1 rfl ?_
  refine a_iload_n X dX5_bySeed_2 rfl ?_
  obtain ⟨e_3, f_3, h⟩ := zBx h
  refine a_callVu X dX5_bySeed_3 miX5_lineUp lm5_33 (t_X5_lineUp (by assumption) (by assumption) f_3) (by assumption) rfl rfl rfl (Nat.le_of_ble_eq_true rfl) ⟨by decide, by decide, by decide, by decide⟩ ?_
  refine a_aload_n X dX5_bySeed_6 rfl ?_
  refine a_aload_n X dX5_bySeed_7 rfl ?_
  obtain ⟨e_8, f_8, h⟩ := zBx h
  refine a_callVu X dX5_bySeed_8 miX5_settle lm5_37 (t_X5_settle (by assumption) (by assumption) f_8) (by assumption) rfl rfl rfl (Nat.le_of_ble_eq_true rfl) ⟨by decide, by decide, by decide, by decide⟩ ?_
  refine a_vret X hr dX5_bySeed_11 ⟨by decide, by decide⟩ ?_
  subst hF
  rw [← Option.some.inj h]
  exact ⟨rfl, rfl⟩
noncomputable def D_X5_rankHeld_24 (Q : Nat) (A : Nat) (M : zMt) (y0_24 : Int32) : Option (Int32) :=
  some (y0_24)
noncomputable def D_X5_rankHeld (Q : Nat) (A : Nat) (M : zMt) (v0 : Int32) : Option (Int32) :=
  zB (D_X2_rankOf A M v0 (zrd 0 (M (Q + 2)) 10 v0)) fun e_10 =>
  if e_10 = (-1 : Int32) then
    D_X5_rankHeld_24 Q A M (3 : Int32)
  else
    D_X5_rankHeld_24 Q A M e_10
set_option maxRecDepth 100000 in
set_option maxHeartbeats 4000000 in
theorem t_X5_rankHeld {l : Launch} {G : zG} {b : Nat} {L : List zC} {M : zMt} {N : zNt} {Q : Nat} {A : Nat} {v0 : Int32} (hQ : LX5 L Q) (hA : LX2 L A) {r : Int32} (h : D_X5_rankHeld Q A M v0 = some r) : zM l G b yX5_rankHeld cX5_rankHeld 4 (some .int) 3 0 0 [.ref Q, .ref A, .int v0] (L, M, N) (fun r2 z => r2 = some (.int r) ∧ z = (L, M, N)) := by
  refine zM.of miX5_rankHeld (Nat.le_of_ble_eq_true rfl) ?_
  intro p e s m args below meth c X hr hname
  generalize hF : ((fun r2 z => r2 = some (.int r) ∧ z = (L, M, N)) : Option Value → zS → Prop) = FQ
  change Zw p l e { frames := 3, cells := 0, slots := 0, locals := 80 * (3) } s m args below meth c G b 4 (MQ below (zQ G b FQ) args s 0 0 (fun q : Nat => b ≤ q)) 0 0 0 [some (.ref Q), some (.ref A), some (.int v0), none] [] (L, M, N)
  obtain ⟨q_lt, q_o, q_line, q_unitOf, q_roundOf, q_leftTags, q_leftGuests, q_leftPreferred, q_ranked⟩ := id hQ
  obtain ⟨a_lt, a_o, a_quota, a_preferred, a_forGuests, a_applicantOf, a_size, a_guestCount, a_score, a_tickets, a_bits, a_party, a_wishCount, a_wishes⟩ := id hA
  have J_24 : ∀ (x2_24 : Int32) (x3_24 : Int32) (y0_24 : Int32), D_X5_rankHeld_24 Q A M y0_24 = some r → Zw p l e { frames := 3, cells := 0, slots := 0, locals := 80 * (3) } s m args below meth c G b 4 (MQ below (zQ G b FQ) args s 0 0 (fun q : Nat => b ≤ q)) 0 0 24 [some (.ref (Q)), some (.ref (A)), some (.int x2_24), some (.int x3_24)] [.int y0_24] (L, M, N) := by
    intro x2_24 x3_24 y0_24 h
    unfold D_X5_rankHeld_24 at h
    refine a_iret X hr dX5_rankHeld_24 ⟨by decide, by decide⟩ ?_
    subst hF
    rw [← Option.some.inj h]
    exact ⟨rfl, rfl⟩
  unfold D_X5_rankHeld at h
  refine a_aload_n X dX5_rankHeld_0 rfl ?_
  refine a_iload_n X dX5_rankHeld_1 rfl ?_
  refine a_aload_n X dX5_rankHeld_2 rfl ?_
  refine a_getr X lf5_15 (by assumption) rfl (by omega) dX5_rankHeld_3 ?_
  refine a_iload_n X dX5_rankHeld_6 rfl ?_
  refine a_callSNv X dX5_rankHeld_7 miX7_cell lm5_69 (c_cell (by assumption) (by first | decide | assumption)) rfl rfl (Nat.le_of_ble_eq_true rfl) ⟨by decide, by decide, by decide, by decide⟩ ?_
  obtain ⟨e_10, f_10, h⟩ := zBx h
  refine a_callVv X dX5_rankHeld_10 miX2_rankOf lm5_125 (t_X2_rankOf (by assumption) f_10) (by assumption) rfl rfl rfl (Nat.le_of_ble_eq_true rfl) ⟨by decide, by decide, by decide, by decide⟩ ?_
  refine a_istore_n X dX5_rankHeld_13 (by decide) ?_
  refine a_iload_n X dX5_rankHeld_14 rfl ?_
  refine a_iconst (v := -1) X dX5_rankHeld_15 (by decide) ?_
  refine a_icmp_ne (tgt := 23) X dX5_rankHeld_16 (by decide) (fun h_16 => ?_) (fun h_16 => ?_)
  · replace h := (if_neg h_16).symm.trans h
    refine a_iload_n X dX5_rankHeld_23 rfl ?_
    exact Zw.to2 (J_24 _ _ _ h) rfl rfl rfl
  · replace h := (if_pos h_16).symm.trans h
    refine a_iconst (v := 3) X dX5_rankHeld_19 (by decide) ?_
    refine a_goto (tgt := 24) X dX5_rankHeld_20 (by decide) ?_
    exact Zw.to2 (J_24 _ _ _ h) rfl rfl rfl
noncomputable def D_X5_isWaiting_27 (Q : Nat) (A : Nat) (M : zMt) (y0_27 : Int32) : Option (Int32) :=
  some (y0_27)
noncomputable def D_X5_isWaiting_26 (Q : Nat) (A : Nat) (M : zMt)  : Option (Int32) :=
  D_X5_isWaiting_27 Q A M (0 : Int32)
noncomputable def D_X5_isWaiting (Q : Nat) (A : Nat) (M : zMt) (v0 : Int32) (v1 : Int32) : Option (Int32) :=
  if (zrd 0 (M (Q + 2)) 10 v0) = (-1 : Int32) then
    zB (D_X2_rankOf A M v0 v1) fun e_15 =>
    if e_15 = (-1 : Int32) then
      D_X5_isWaiting_26 Q A M
    else
      D_X5_isWaiting_27 Q A M (1 : Int32)
  else
    D_X5_isWaiting_26 Q A M
set_option maxRecDepth 100000 in
set_option maxHeartbeats 4000000 in
theorem t_X5_isWaiting {l : Launch} {G : zG} {b : Nat} {L : List zC} {M : zMt} {N : zNt} {Q : Nat} {A : Nat} {v0 : Int32} {v1 : Int32} (hQ : LX5 L Q) (hA : LX2 L A) {r : Int32} (h : D_X5_isWaiting Q A M v0 v1 = some r) : zM l G b yX5_isWaiting cX5_isWaiting 4 (some .boolean) 3 0 0 [.ref Q, .ref A, .int v0, .int v1] (L, M, N) (fun r2 z => r2 = some (.int r) ∧ z = (L, M, N) ∧ (r = 0 ∨ r = 1)) := by
  refine zM.of miX5_isWaiting (Nat.le_of_ble_eq_true rfl) ?_
  intro p e s m args below meth c X hr hname
  generalize hF : ((fun r2 z => r2 = some (.int r) ∧ z = (L, M, N) ∧ (r = 0 ∨ r = 1)) : Option Value → zS → Prop) = FQ
  change Zw p l e { frames := 3, cells := 0, slots := 0, locals := 80 * (3) } s m args below meth c G b 4 (MQ below (zQ G b FQ) args s 0 0 (fun q : Nat => b ≤ q)) 0 0 0 [some (.ref Q), some (.ref A), some (.int v0), some (.int v1)] [] (L, M, N)
  obtain ⟨q_lt, q_o, q_line, q_unitOf, q_roundOf, q_leftTags, q_leftGuests, q_leftPreferred, q_ranked⟩ := id hQ
  obtain ⟨a_lt, a_o, a_quota, a_preferred, a_forGuests, a_applicantOf, a_size, a_guestCount, a_score, a_tickets, a_bits, a_party, a_wishCount, a_wishes⟩ := id hA
  have J_27 : ∀ (x2_27 : Int32) (x3_27 : Int32) (y0_27 : Int32), (y0_27 = 0 ∨ y0_27 = 1) → D_X5_isWaiting_27 Q A M y0_27 = some r → Zw p l e { frames := 3, cells := 0, slots := 0, locals := 80 * (3) } s m args below meth c G b 4 (MQ below (zQ G b FQ) args s 0 0 (fun q : Nat => b ≤ q)) 0 0 27 [some (.ref (Q)), some (.ref (A)), some (.int x2_27), some (.int x3_27)] [.int y0_27] (L, M, N) := by
    intro x2_27 x3_27 y0_27 fb_y0_27 h
    unfold D_X5_isWaiting_27 at h
    refine a_zret X (by first | exact Or.inl rfl | exact Or.inr rfl | assumption) hr dX5_isWaiting_27 ⟨by decide, by decide⟩ ?_
    subst hF
    rw [← Option.some.inj h]
    exact ⟨rfl, rfl, (by first | exact Or.inl rfl | exact Or.inr rfl | assumption)⟩
  have J_26 : ∀ (x2_26 : Int32) (x3_26 : Int32), D_X5_isWaiting_26 Q A M = some r → Zw p l e { frames := 3, cells := 0, slots := 0, locals := 80 * (3) } s m args below meth c G b 4 (MQ below (zQ G b FQ) args s 0 0 (fun q : Nat => b ≤ q)) 0 0 26 [some (.ref (Q)), some (.ref (A)), some (.int x2_26), some (.int x3_26)] [] (L, M, N) := by
    intro x2_26 x3_26 h
    unfold D_X5_isWaiting_26 at h
    refine a_iconst (v := 0) X dX5_isWaiting_26 (by decide) ?_
    exact Zw.to2 (J_27 _ _ _ (by first | exact Or.inl rfl | exact Or.inr rfl | assumption) h) rfl rfl rfl
  unfold D_X5_isWaiting at h
  refine a_aload_n X dX5_isWaiting_0 rfl ?_
  refine a_getr X lf5_15 (by assumption) rfl (by omega) dX5_isWaiting_1 ?_
  refine a_iload_n X dX5_isWaiting_4 rfl ?_
  refine a_callSNv X dX5_isWaiting_5 miX7_cell lm5_69 (c_cell (by assumption) (by first | decide | assumption)) rfl rfl (Nat.le_of_ble_eq_true rfl) ⟨by decide, by decide, by decide, by decide⟩ ?_
  refine a_iconst (v := -1) X dX5_isWaiting_8 (by decide) ?_
  refine a_icmp_ne (tgt := 26) X dX5_isWaiting_9 (by decide) (fun h_9 => ?_) (fun h_9 => ?_)
  · replace h := (if_neg h_9).symm.trans h
    exact Zw.to2 (J_26 _ _ h) rfl rfl rfl
  · replace h := (if_pos h_9).symm.trans h
    refine a_aload_n X dX5_isWaiting_12 rfl ?_
    refine a_iload_n X dX5_isWaiting_13 rfl ?_
    refine a_iload_n X dX5_isWaiting_14 rfl ?_
    obtain ⟨e_15, f_15, h⟩ := zBx h
    refine a_callVv X dX5_isWaiting_15 miX2_rankOf lm5_125 (t_X2_rankOf (by assumption) f_15) (by assumption) rfl rfl rfl (Nat.le_of_ble_eq_true rfl) ⟨by decide, by decide, by decide, by decide⟩ ?_
    refine a_iconst (v := -1) X dX5_isWaiting_18 (by decide) ?_
    refine a_icmp_eq (tgt := 26) X dX5_isWaiting_19 (by decide) (fun h_19 => ?_) (fun h_19 => ?_)
    · replace h := (if_pos h_19).symm.trans h
      exact Zw.to2 (J_26 _ _ h) rfl rfl rfl
    · replace h := (if_neg h_19).symm.trans h
      refine a_iconst (v := 1) X dX5_isWaiting_22 (by decide) ?_
      refine a_goto (tgt := 27) X dX5_isWaiting_23 (by decide) ?_
      exact Zw.to2 (J_27 _ _ _ (by first | exact Or.inl rfl | exact Or.inr rfl | assumption) h) rfl rfl rfl
noncomputable def D_X5_holders_33 (Q : Nat) (A : Nat) (M : zMt) (k5 : Int32 → Int32 → Int32 → Option (Int32)) (x2_33 : Int32) (x4_33 : Int32) (y0_33 : Int32) (y1_33 : Int32) : Option (Int32) :=
  k5 x2_33 (y0_33 + y1_33) (x4_33 + 1)
noncomputable def D_X5_holders_5 (Q : Nat) (A : Nat) (M : zMt) : Nat → Int32 → Int32 → Int32 → Option (Int32)
  | 0, _, _, _ => none
  | n + 1, x2_5, x3_5, x4_5 =>
    if (M A 1) ≤ x4_5 then
      some (x3_5)
    else
      if (zrd 0 (M (Q + 2)) 10 x4_5) = x2_5 then
        D_X5_holders_33 Q A M (D_X5_holders_5 Q A M n) x2_5 x4_5 x3_5 (1 : Int32)
      else
        D_X5_holders_33 Q A M (D_X5_holders_5 Q A M n) x2_5 x4_5 x3_5 (0 : Int32)
noncomputable def D_X5_holders (Q : Nat) (A : Nat) (M : zMt) (v0 : Int32) : Option (Int32) :=
  D_X5_holders_5 Q A M zFu v0 (0 : Int32) (0 : Int32)
set_option maxRecDepth 100000 in
set_option maxHeartbeats 4000000 in
theorem t_X5_holders {l : Launch} {G : zG} {b : Nat} {L : List zC} {M : zMt} {N : zNt} {Q : Nat} {A : Nat} {v0 : Int32} (hQ : LX5 L Q) (hA : LX2 L A) {r : Int32} (h : D_X5_holders Q A M v0 = some r) : zM l G b yX5_holders cX5_holders 5 (some .int) 1 0 0 [.ref Q, .ref A, .int v0] (L, M, N) (fun r2 z => r2 = some (.int r) ∧ z = (L, M, N)) := by
  refine zM.of miX5_holders (Nat.le_of_ble_eq_true rfl) ?_
  intro p e s m args below meth c X hr hname
  generalize hF : ((fun r2 z => r2 = some (.int r) ∧ z = (L, M, N)) : Option Value → zS → Prop) = FQ
  change Zw p l e { frames := 1, cells := 0, slots := 0, locals := 80 * (1) } s m args below meth c G b 5 (MQ below (zQ G b FQ) args s 0 0 (fun q : Nat => b ≤ q)) 0 0 0 [some (.ref Q), some (.ref A), some (.int v0), none, none] [] (L, M, N)
  obtain ⟨q_lt, q_o, q_line, q_unitOf, q_roundOf, q_leftTags, q_leftGuests, q_leftPreferred, q_ranked⟩ := id hQ
  obtain ⟨a_lt, a_o, a_quota, a_preferred, a_forGuests, a_applicantOf, a_size, a_guestCount, a_score, a_tickets, a_bits, a_party, a_wishCount, a_wishes⟩ := id hA
  have L_5 : ∀ u : Nat, ∀ (x2_5 : Int32) (x3_5 : Int32) (x4_5 : Int32), D_X5_holders_5 Q A M u x2_5 x3_5 x4_5 = some r → Zw p l e { frames := 1, cells := 0, slots := 0, locals := 80 * (1) } s m args below meth c G b 5 (MQ below (zQ G b FQ) args s 0 0 (fun q : Nat => b ≤ q)) 0 0 5 [some (.ref (Q)), some (.ref (A)), some (.int x2_5), some (.int x3_5), some (.int x4_5)] [] (L, M, N) := by
    intro u
    induction u with
    | zero => intro x2_5 x3_5 x4_5 h; cases (show none = some r from h)
    | succ u_5 ih_5 =>
      have J_33 : ∀ (x2_33 : Int32) (x3_33 : Int32) (x4_33 : Int32) (y0_33 : Int32) (y1_33 : Int32), (y1_33 = 0 ∨ y1_33 = 1) → D_X5_holders_33 Q A M (D_X5_holders_5 Q A M u_5) x2_33 x4_33 y0_33 y1_33 = some r → Zw p l e { frames := 1, cells := 0, slots := 0, locals := 80 * (1) } s m args below meth c G b 5 (MQ below (zQ G b FQ) args s 0 0 (fun q : Nat => b ≤ q)) 0 0 33 [some (.ref (Q)), some (.ref (A)), some (.int x2_33), some (.int x3_33), some (.int x4_33)] [.int y1_33, .int y0_33] (L, M, N) := by
        intro x2_33 x3_33 x4_33 y0_33 y1_33 fb_y1_33 h
        unfold D_X5_holders_33 at h
        refine a_iadd X dX5_holders_33 ?_
        refine a_istore_n X dX5_holders_34 (by decide) ?_
        refine a_iinc (v := x4_33 + 1) X dX5_holders_35 (by decide) rfl zi_1 ?_
        refine a_goto (tgt := 5) X dX5_holders_38 (by decide) ?_
        exact Zw.to2 (ih_5 _ _ _ h) rfl rfl rfl
      intro x2_5 x3_5 x4_5 h
      rw [D_X5_holders_5] at h
      refine a_iload X dX5_holders_5 rfl ?_
      refine a_aload_n X dX5_holders_7 rfl ?_
      refine a_geti X lf5_47 (by assumption) rfl dX5_holders_8 ?_
      refine a_icmp_ge (tgt := 41) X dX5_holders_11 (by decide) (fun h_11 => ?_) (fun h_11 => ?_)
      · replace h := (if_pos h_11).symm.trans h
        refine a_iload_n X dX5_holders_41 rfl ?_
        refine a_iret X hr dX5_holders_42 ⟨by decide, by decide⟩ ?_
        subst hF
        rw [← Option.some.inj h]
        exact ⟨rfl, rfl⟩
      · replace h := (if_neg h_11).symm.trans h
        refine a_iload_n X dX5_holders_14 rfl ?_
        refine a_aload_n X dX5_holders_15 rfl ?_
        refine a_getr X lf5_15 (by assumption) rfl (by omega) dX5_holders_16 ?_
        refine a_iload X dX5_holders_19 rfl ?_
        refine a_callSNv X dX5_holders_21 miX7_cell lm5_69 (c_cell (by assumption) (by first | decide | assumption)) rfl rfl (Nat.le_of_ble_eq_true rfl) ⟨by decide, by decide, by decide, by decide⟩ ?_
        refine a_iload_n X dX5_holders_24 rfl ?_
        refine a_icmp_ne (tgt := 32) X dX5_holders_25 (by decide) (fun h_25 => ?_) (fun h_25 => ?_)
        · replace h := (if_neg h_25).symm.trans h
          refine a_iconst (v := 0) X dX5_holders_32 (by decide) ?_
          exact Zw.to2 (J_33 _ _ _ _ _ (by first | exact Or.inl rfl | exact Or.inr rfl | assumption) h) rfl rfl rfl
        · replace h := (if_pos h_25).symm.trans h
          refine a_iconst (v := 1) X dX5_holders_28 (by decide) ?_
          refine a_goto (tgt := 33) X dX5_holders_29 (by decide) ?_
          exact Zw.to2 (J_33 _ _ _ _ _ (by first | exact Or.inl rfl | exact Or.inr rfl | assumption) h) rfl rfl rfl
  have H_5 : ∀ (x2_5 : Int32) (x3_5 : Int32) (x4_5 : Int32), D_X5_holders_5 Q A M zFu x2_5 x3_5 x4_5 = some r → Zw p l e { frames := 1, cells := 0, slots := 0, locals := 80 * (1) } s m args below meth c G b 5 (MQ below (zQ G b FQ) args s 0 0 (fun q : Nat => b ≤ q)) 0 0 5 [some (.ref (Q)), some (.ref (A)), some (.int x2_5), some (.int x3_5), some (.int x4_5)] [] (L, M, N) := L_5 zFu
  unfold D_X5_holders at h
  refine a_iconst (v := 0) X dX5_holders_0 (by decide) ?_
  refine a_istore_n X dX5_holders_1 (by decide) ?_
  refine a_iconst (v := 0) X dX5_holders_2 (by decide) ?_
  refine a_istore X dX5_holders_3 (by decide) ?_
  exact Zw.to2 (H_5 _ _ _ h) rfl rfl rfl
noncomputable def D_X5_fewestPoints_55 (Q : Nat) (A : Nat) (M : zMt) (k5 : Int32 → Int32 → Int32 → Option (Int32)) (x2_55 : Int32) (x3_55 : Int32) (x4_55 : Int32) : Option (Int32) :=
  k5 x2_55 x3_55 (x4_55 + 1)
noncomputable def D_X5_fewestPoints_45 (Q : Nat) (A : Nat) (M : zMt) (k5 : Int32 → Int32 → Int32 → Option (Int32)) (x2_45 : Int32) (x4_45 : Int32) : Option (Int32) :=
  D_X5_fewestPoints_55 Q A M k5 x2_45 (zrd 0 (M (A + 7)) 10 x4_45) x4_45
noncomputable def D_X5_fewestPoints_5 (Q : Nat) (A : Nat) (M : zMt) : Nat → Int32 → Int32 → Int32 → Option (Int32)
  | 0, _, _, _ => none
  | n + 1, x2_5, x3_5, x4_5 =>
    if (M A 1) ≤ x4_5 then
      some (x3_5)
    else
      if (zrd 0 (M (Q + 2)) 10 x4_5) = x2_5 then
        if x3_5 = (-1 : Int32) then
          D_X5_fewestPoints_45 Q A M (D_X5_fewestPoints_5 Q A M n) x2_5 x4_5
        else
          if x3_5 ≤ (zrd 0 (M (A + 7)) 10 x4_5) then
            D_X5_fewestPoints_55 Q A M (D_X5_fewestPoints_5 Q A M n) x2_5 x3_5 x4_5
          else
            D_X5_fewestPoints_45 Q A M (D_X5_fewestPoints_5 Q A M n) x2_5 x4_5
      else
        D_X5_fewestPoints_55 Q A M (D_X5_fewestPoints_5 Q A M n) x2_5 x3_5 x4_5
noncomputable def D_X5_fewestPoints (Q : Nat) (A : Nat) (M : zMt) (v0 : Int32) : Option (Int32) :=
  D_X5_fewestPoints_5 Q A M zFu v0 (-1 : Int32) (0 : Int32)
set_option maxRecDepth 100000 in
set_option maxHeartbeats 4000000 in
theorem t_X5_fewestPoints {l : Launch} {G : zG} {b : Nat} {L : List zC} {M : zMt} {N : zNt} {Q : Nat} {A : Nat} {v0 : Int32} (hQ : LX5 L Q) (hA : LX2 L A) {r : Int32} (h : D_X5_fewestPoints Q A M v0 = some r) : zM l G b yX5_fewestPoints cX5_fewestPoints 5 (some .int) 1 0 0 [.ref Q, .ref A, .int v0] (L, M, N) (fun r2 z => r2 = some (.int r) ∧ z = (L, M, N)) := by
  refine zM.of miX5_fewestPoints (Nat.le_of_ble_eq_true rfl) ?_
  intro p e s m args below meth c X hr hname
  generalize hF : ((fun r2 z => r2 = some (.int r) ∧ z = (L, M, N)) : Option Value → zS → Prop) = FQ
  change Zw p l e { frames := 1, cells := 0, slots := 0, locals := 80 * (1) } s m args below meth c G b 5 (MQ below (zQ G b FQ) args s 0 0 (fun q : Nat => b ≤ q)) 0 0 0 [some (.ref Q), some (.ref A), some (.int v0), none, none] [] (L, M, N)
  obtain ⟨q_lt, q_o, q_line, q_unitOf, q_roundOf, q_leftTags, q_leftGuests, q_leftPreferred, q_ranked⟩ := id hQ
  obtain ⟨a_lt, a_o, a_quota, a_preferred, a_forGuests, a_applicantOf, a_size, a_guestCount, a_score, a_tickets, a_bits, a_party, a_wishCount, a_wishes⟩ := id hA
  have L_5 : ∀ u : Nat, ∀ (x2_5 : Int32) (x3_5 : Int32) (x4_5 : Int32), D_X5_fewestPoints_5 Q A M u x2_5 x3_5 x4_5 = some r → Zw p l e { frames := 1, cells := 0, slots := 0, locals := 80 * (1) } s m args below meth c G b 5 (MQ below (zQ G b FQ) args s 0 0 (fun q : Nat => b ≤ q)) 0 0 5 [some (.ref (Q)), some (.ref (A)), some (.int x2_5), some (.int x3_5), some (.int x4_5)] [] (L, M, N) := by
    intro u
    induction u with
    | zero => intro x2_5 x3_5 x4_5 h; cases (show none = some r from h)
    | succ u_5 ih_5 =>
      have J_55 : ∀ (x2_55 : Int32) (x3_55 : Int32) (x4_55 : Int32), D_X5_fewestPoints_55 Q A M (D_X5_fewestPoints_5 Q A M u_5) x2_55 x3_55 x4_55 = some r → Zw p l e { frames := 1, cells := 0, slots := 0, locals := 80 * (1) } s m args below meth c G b 5 (MQ below (zQ G b FQ) args s 0 0 (fun q : Nat => b ≤ q)) 0 0 55 [some (.ref (Q)), some (.ref (A)), some (.int x2_55), some (.int x3_55), some (.int x4_55)] [] (L, M, N) := by
        intro x2_55 x3_55 x4_55 h
        unfold D_X5_fewestPoints_55 at h
        refine a_iinc (v := x4_55 + 1) X dX5_fewestPoints_55 (by decide) rfl zi_1 ?_
        refine a_goto (tgt := 5) X dX5_fewestPoints_58 (by decide) ?_
        exact Zw.to2 (ih_5 _ _ _ h) rfl rfl rfl
      have J_45 : ∀ (x2_45 : Int32) (x3_45 : Int32) (x4_45 : Int32), D_X5_fewestPoints_45 Q A M (D_X5_fewestPoints_5 Q A M u_5) x2_45 x4_45 = some r → Zw p l e { frames := 1, cells := 0, slots := 0, locals := 80 * (1) } s m args below meth c G b 5 (MQ below (zQ G b FQ) args s 0 0 (fun q : Nat => b ≤ q)) 0 0 45 [some (.ref (Q)), some (.ref (A)), some (.int x2_45), some (.int x3_45), some (.int x4_45)] [] (L, M, N) := by
        intro x2_45 x3_45 x4_45 h
        unfold D_X5_fewestPoints_45 at h
        refine a_aload_n X dX5_fewestPoints_45 rfl ?_
        refine a_getr X lf5_116 (by assumption) rfl (by omega) dX5_fewestPoints_46 ?_
        refine a_iload X dX5_fewestPoints_49 rfl ?_
        refine a_callSNv X dX5_fewestPoints_51 miX7_cell lm5_69 (c_cell (by assumption) (by first | decide | assumption)) rfl rfl (Nat.le_of_ble_eq_true rfl) ⟨by decide, by decide, by decide, by decide⟩ ?_
        refine a_istore_n X dX5_fewestPoints_54 (by decide) ?_
        exact Zw.to2 (J_55 _ _ _ h) rfl rfl rfl
      intro x2_5 x3_5 x4_5 h
      rw [D_X5_fewestPoints_5] at h
      refine a_iload X dX5_fewestPoints_5 rfl ?_
      refine a_aload_n X dX5_fewestPoints_7 rfl ?_
      refine a_geti X lf5_47 (by assumption) rfl dX5_fewestPoints_8 ?_
      refine a_icmp_ge (tgt := 61) X dX5_fewestPoints_11 (by decide) (fun h_11 => ?_) (fun h_11 => ?_)
      · replace h := (if_pos h_11).symm.trans h
        refine a_iload_n X dX5_fewestPoints_61 rfl ?_
        refine a_iret X hr dX5_fewestPoints_62 ⟨by decide, by decide⟩ ?_
        subst hF
        rw [← Option.some.inj h]
        exact ⟨rfl, rfl⟩
      · replace h := (if_neg h_11).symm.trans h
        refine a_aload_n X dX5_fewestPoints_14 rfl ?_
        refine a_getr X lf5_15 (by assumption) rfl (by omega) dX5_fewestPoints_15 ?_
        refine a_iload X dX5_fewestPoints_18 rfl ?_
        refine a_callSNv X dX5_fewestPoints_20 miX7_cell lm5_69 (c_cell (by assumption) (by first | decide | assumption)) rfl rfl (Nat.le_of_ble_eq_true rfl) ⟨by decide, by decide, by decide, by decide⟩ ?_
        refine a_iload_n X dX5_fewestPoints_23 rfl ?_
        refine a_icmp_ne (tgt := 55) X dX5_fewestPoints_24 (by decide) (fun h_24 => ?_) (fun h_24 => ?_)
        · replace h := (if_neg h_24).symm.trans h
          exact Zw.to2 (J_55 _ _ _ h) rfl rfl rfl
        · replace h := (if_pos h_24).symm.trans h
          refine a_iload_n X dX5_fewestPoints_27 rfl ?_
          refine a_iconst (v := -1) X dX5_fewestPoints_28 (by decide) ?_
          refine a_icmp_eq (tgt := 45) X dX5_fewestPoints_29 (by decide) (fun h_29 => ?_) (fun h_29 => ?_)
          · replace h := (if_pos h_29).symm.trans h
            exact Zw.to2 (J_45 _ _ _ h) rfl rfl rfl
          · replace h := (if_neg h_29).symm.trans h
            refine a_aload_n X dX5_fewestPoints_32 rfl ?_
            refine a_getr X lf5_116 (by assumption) rfl (by omega) dX5_fewestPoints_33 ?_
            refine a_iload X dX5_fewestPoints_36 rfl ?_
            refine a_callSNv X dX5_fewestPoints_38 miX7_cell lm5_69 (c_cell (by assumption) (by first | decide | assumption)) rfl rfl (Nat.le_of_ble_eq_true rfl) ⟨by decide, by decide, by decide, by decide⟩ ?_
            refine a_iload_n X dX5_fewestPoints_41 rfl ?_
            refine a_icmp_ge (tgt := 55) X dX5_fewestPoints_42 (by decide) (fun h_42 => ?_) (fun h_42 => ?_)
            · replace h := (if_pos h_42).symm.trans h
              exact Zw.to2 (J_55 _ _ _ h) rfl rfl rfl
            · replace h := (if_neg h_42).symm.trans h
              exact Zw.to2 (J_45 _ _ _ h) rfl rfl rfl
  have H_5 : ∀ (x2_5 : Int32) (x3_5 : Int32) (x4_5 : Int32), D_X5_fewestPoints_5 Q A M zFu x2_5 x3_5 x4_5 = some r → Zw p l e { frames := 1, cells := 0, slots := 0, locals := 80 * (1) } s m args below meth c G b 5 (MQ below (zQ G b FQ) args s 0 0 (fun q : Nat => b ≤ q)) 0 0 5 [some (.ref (Q)), some (.ref (A)), some (.int x2_5), some (.int x3_5), some (.int x4_5)] [] (L, M, N) := L_5 zFu
  unfold D_X5_fewestPoints at h
  refine a_iconst (v := -1) X dX5_fewestPoints_0 (by decide) ?_
  refine a_istore_n X dX5_fewestPoints_1 (by decide) ?_
  refine a_iconst (v := 0) X dX5_fewestPoints_2 (by decide) ?_
  refine a_istore X dX5_fewestPoints_3 (by decide) ?_
  exact Zw.to2 (H_5 _ _ _ h) rfl rfl rfl
noncomputable def D_X5_tagsGiven_37 (Q : Nat) (A : Nat) (M : zMt) (k4 : Int32 → Int32 → Option (Int32)) (x3_37 : Int32) (y0_37 : Int32) (y1_37 : Int32) : Option (Int32) :=
  k4 (y0_37 + y1_37) (x3_37 + 1)
noncomputable def D_X5_tagsGiven_4 (Q : Nat) (A : Nat) (M : zMt) : Nat → Int32 → Int32 → Option (Int32)
  | 0, _, _ => none
  | n + 1, x2_4, x3_4 =>
    if (M A 1) ≤ x3_4 then
      some (x2_4)
    else
      if (zrd 0 (M (Q + 2)) 10 x3_4) = (-1 : Int32) then
        D_X5_tagsGiven_37 Q A M (D_X5_tagsGiven_4 Q A M n) x3_4 x2_4 (0 : Int32)
      else
        D_X5_tagsGiven_37 Q A M (D_X5_tagsGiven_4 Q A M n) x3_4 x2_4 (zrd 0 (M (A + 5)) 10 x3_4)
noncomputable def D_X5_tagsGiven (Q : Nat) (A : Nat) (M : zMt)  : Option (Int32) :=
  D_X5_tagsGiven_4 Q A M zFu (0 : Int32) (0 : Int32)
set_option maxRecDepth 100000 in
set_option maxHeartbeats 4000000 in
theorem t_X5_tagsGiven {l : Launch} {G : zG} {b : Nat} {L : List zC} {M : zMt} {N : zNt} {Q : Nat} {A : Nat}  (hQ : LX5 L Q) (hA : LX2 L A) {r : Int32} (h : D_X5_tagsGiven Q A M = some r) : zM l G b yX5_tagsGiven cX5_tagsGiven 4 (some .int) 1 0 0 [.ref Q, .ref A] (L, M, N) (fun r2 z => r2 = some (.int r) ∧ z = (L, M, N)) := by
  refine zM.of miX5_tagsGiven (Nat.le_of_ble_eq_true rfl) ?_
  intro p e s m args below meth c X hr hname
  generalize hF : ((fun r2 z => r2 = some (.int r) ∧ z = (L, M, N)) : Option Value → zS → Prop) = FQ
  change Zw p l e { frames := 1, cells := 0, slots := 0, locals := 80 * (1) } s m args below meth c G b 4 (MQ below (zQ G b FQ) args s 0 0 (fun q : Nat => b ≤ q)) 0 0 0 [some (.ref Q), some (.ref A), none, none] [] (L, M, N)
  obtain ⟨q_lt, q_o, q_line, q_unitOf, q_roundOf, q_leftTags, q_leftGuests, q_leftPreferred, q_ranked⟩ := id hQ
  obtain ⟨a_lt, a_o, a_quota, a_preferred, a_forGuests, a_applicantOf, a_size, a_guestCount, a_score, a_tickets, a_bits, a_party, a_wishCount, a_wishes⟩ := id hA
  have L_4 : ∀ u : Nat, ∀ (x2_4 : Int32) (x3_4 : Int32), D_X5_tagsGiven_4 Q A M u x2_4 x3_4 = some r → Zw p l e { frames := 1, cells := 0, slots := 0, locals := 80 * (1) } s m args below meth c G b 4 (MQ below (zQ G b FQ) args s 0 0 (fun q : Nat => b ≤ q)) 0 0 4 [some (.ref (Q)), some (.ref (A)), some (.int x2_4), some (.int x3_4)] [] (L, M, N) := by
    intro u
    induction u with
    | zero => intro x2_4 x3_4 h; cases (show none = some r from h)
    | succ u_4 ih_4 =>
      have J_37 : ∀ (x2_37 : Int32) (x3_37 : Int32) (y0_37 : Int32) (y1_37 : Int32), D_X5_tagsGiven_37 Q A M (D_X5_tagsGiven_4 Q A M u_4) x3_37 y0_37 y1_37 = some r → Zw p l e { frames := 1, cells := 0, slots := 0, locals := 80 * (1) } s m args below meth c G b 4 (MQ below (zQ G b FQ) args s 0 0 (fun q : Nat => b ≤ q)) 0 0 37 [some (.ref (Q)), some (.ref (A)), some (.int x2_37), some (.int x3_37)] [.int y1_37, .int y0_37] (L, M, N) := by
        intro x2_37 x3_37 y0_37 y1_37 h
        unfold D_X5_tagsGiven_37 at h
        refine a_iadd X dX5_tagsGiven_37 ?_
        refine a_istore_n X dX5_tagsGiven_38 (by decide) ?_
        refine a_iinc (v := x3_37 + 1) X dX5_tagsGiven_39 (by decide) rfl zi_1 ?_
        refine a_goto (tgt := 4) X dX5_tagsGiven_42 (by decide) ?_
        exact Zw.to2 (ih_4 _ _ h) rfl rfl rfl
      intro x2_4 x3_4 h
      rw [D_X5_tagsGiven_4] at h
      refine a_iload_n X dX5_tagsGiven_4 rfl ?_
      refine a_aload_n X dX5_tagsGiven_5 rfl ?_
      refine a_geti X lf5_47 (by assumption) rfl dX5_tagsGiven_6 ?_
      refine a_icmp_ge (tgt := 45) X dX5_tagsGiven_9 (by decide) (fun h_9 => ?_) (fun h_9 => ?_)
      · replace h := (if_pos h_9).symm.trans h
        refine a_iload_n X dX5_tagsGiven_45 rfl ?_
        refine a_iret X hr dX5_tagsGiven_46 ⟨by decide, by decide⟩ ?_
        subst hF
        rw [← Option.some.inj h]
        exact ⟨rfl, rfl⟩
      · replace h := (if_neg h_9).symm.trans h
        refine a_iload_n X dX5_tagsGiven_12 rfl ?_
        refine a_aload_n X dX5_tagsGiven_13 rfl ?_
        refine a_getr X lf5_15 (by assumption) rfl (by omega) dX5_tagsGiven_14 ?_
        refine a_iload_n X dX5_tagsGiven_17 rfl ?_
        refine a_callSNv X dX5_tagsGiven_18 miX7_cell lm5_69 (c_cell (by assumption) (by first | decide | assumption)) rfl rfl (Nat.le_of_ble_eq_true rfl) ⟨by decide, by decide, by decide, by decide⟩ ?_
        refine a_iconst (v := -1) X dX5_tagsGiven_21 (by decide) ?_
        refine a_icmp_ne (tgt := 29) X dX5_tagsGiven_22 (by decide) (fun h_22 => ?_) (fun h_22 => ?_)
        · replace h := (if_neg h_22).symm.trans h
          refine a_aload_n X dX5_tagsGiven_29 rfl ?_
          refine a_getr X lf5_106 (by assumption) rfl (by omega) dX5_tagsGiven_30 ?_
          refine a_iload_n X dX5_tagsGiven_33 rfl ?_
          refine a_callSNv X dX5_tagsGiven_34 miX7_cell lm5_69 (c_cell (by assumption) (by first | decide | assumption)) rfl rfl (Nat.le_of_ble_eq_true rfl) ⟨by decide, by decide, by decide, by decide⟩ ?_
          exact Zw.to2 (J_37 _ _ _ _ h) rfl rfl rfl
        · replace h := (if_pos h_22).symm.trans h
          refine a_iconst (v := 0) X dX5_tagsGiven_25 (by decide) ?_
          refine a_goto (tgt := 37) X dX5_tagsGiven_26 (by decide) ?_
          exact Zw.to2 (J_37 _ _ _ _ h) rfl rfl rfl
  have H_4 : ∀ (x2_4 : Int32) (x3_4 : Int32), D_X5_tagsGiven_4 Q A M zFu x2_4 x3_4 = some r → Zw p l e { frames := 1, cells := 0, slots := 0, locals := 80 * (1) } s m args below meth c G b 4 (MQ below (zQ G b FQ) args s 0 0 (fun q : Nat => b ≤ q)) 0 0 4 [some (.ref (Q)), some (.ref (A)), some (.int x2_4), some (.int x3_4)] [] (L, M, N) := L_4 zFu
  unfold D_X5_tagsGiven at h
  refine a_iconst (v := 0) X dX5_tagsGiven_0 (by decide) ?_
  refine a_istore_n X dX5_tagsGiven_1 (by decide) ?_
  refine a_iconst (v := 0) X dX5_tagsGiven_2 (by decide) ?_
  refine a_istore_n X dX5_tagsGiven_3 (by decide) ?_
  exact Zw.to2 (H_4 _ _ h) rfl rfl rfl
noncomputable def D_X6_note_109 (Q : Nat) (M_109 : zMt) : Option (zMt) :=
  some (M_109)
noncomputable def D_X6_note (Q : Nat) (v0 : Int32) (v1 : Int32) (M : zMt) : Option (zMt) :=
  if (zrd 0 (M (Q + 27)) 10 (zrd 0 (M (Q + 16)) 10 v0)) = (-1 : Int32) then
    zLt (zwr M (Q + 3) 10 v0 (zrd 0 (M (Q + 3)) 10 v0 + (1 : Int32))) fun M_33 =>
    zLt (zu M_33 Q 1 (if (M_33 Q 1) < (zrd 0 (M_33 (Q + 3)) 10 v0) then (zrd 0 (M_33 (Q + 3)) 10 v0) else (M_33 Q 1))) fun M_52 =>
    some (M_52)
  else
    zLt (zwr M (Q + 3) 10 v0 (0 : Int32)) fun M_62 =>
    zLt (zwr M_62 (Q + 1) 10 v0 (zrd 0 (M_62 (Q + 1)) 10 v0 + (1 : Int32))) fun M_71 =>
    zB (D_X5_hasFirst (Q + 25) (Q + 12) M_71 (zrd 0 (M (Q + 16)) 10 v0)) fun e_83 =>
    if e_83 = 0 then
      D_X6_note_109 Q M_71
    else
      if (zrd 0 (M_71 (Q + 2)) 10 v0) = 0 then
        zLt (zwr M_71 (Q + 2) 10 v0 v1) fun M_106 =>
        D_X6_note_109 Q M_106
      else
        D_X6_note_109 Q M_71
set_option maxRecDepth 100000 in
set_option maxHeartbeats 4000000 in
theorem t_X6_note {l : Launch} {G : zG} {b : Nat} {L : List zC} {M : zMt} {N : zNt} {Q : Nat} {v0 : Int32} {v1 : Int32} (hQ : LX6 L Q) {r : zMt} (h : D_X6_note Q v0 v1 M = some r) : zM l G b yX6_note cX6_note 4 none 3 0 0 [.ref Q, .int v0, .int v1] (L, M, N) (fun r2 z => r2 = none ∧ z = (L, r, N)) := by
  refine zM.of miX6_note (Nat.le_of_ble_eq_true rfl) ?_
  intro p e s m args below meth c X hr hname
  generalize hF : ((fun r2 z => r2 = none ∧ z = (L, r, N)) : Option Value → zS → Prop) = FQ
  change Zw p l e { frames := 3, cells := 0, slots := 0, locals := 80 * (3) } s m args below meth c G b 4 (MQ below (zQ G b FQ) args s 0 0 (fun q : Nat => b ≤ q)) 0 0 0 [some (.ref Q), some (.int v0), some (.int v1), none] [] (L, M, N)
  obtain ⟨q_lt, q_o, q_times, q_firstWish, q_dry, q_list, q_pool, q_result⟩ := id hQ
  obtain ⟨q_list_lt, q_list_o, q_list_quota, q_list_score, q_list_guest, q_list_party, q_list_wishCount, q_list_wishes, q_list_has⟩ := id q_list
  obtain ⟨q_pool_lt, q_pool_o, q_pool_quota, q_pool_preferred, q_pool_forGuests, q_pool_applicantOf, q_pool_size, q_pool_guestCount, q_pool_score, q_pool_tickets, q_pool_bits, q_pool_party, q_pool_wishCount, q_pool_wishes⟩ := id q_pool
  obtain ⟨q_result_lt, q_result_o, q_result_line, q_result_unitOf, q_result_roundOf, q_result_leftTags, q_result_leftGuests, q_result_leftPreferred, q_result_ranked⟩ := id q_result
  have J_109 : ∀ (x1_109 : Int32) (x2_109 : Int32) (x3_109 : Int32) (M_109 : zMt), D_X6_note_109 Q M_109 = some r → Zw p l e { frames := 3, cells := 0, slots := 0, locals := 80 * (3) } s m args below meth c G b 4 (MQ below (zQ G b FQ) args s 0 0 (fun q : Nat => b ≤ q)) 0 0 109 [some (.ref (Q)), some (.int x1_109), some (.int x2_109), some (.int x3_109)] [] (L, M_109, N) := by
    intro x1_109 x2_109 x3_109 M_109 h
    unfold D_X6_note_109 at h
    refine a_vret X hr dX6_note_109 ⟨by decide, by decide⟩ ?_
    subst hF
    rw [← Option.some.inj h]
    exact ⟨rfl, rfl⟩
  unfold D_X6_note at h
  refine a_aload_n X dX6_note_0 rfl ?_
  refine a_getr X lf6_31 (by assumption) rfl (by omega) dX6_note_1 ?_
  refine a_getr X lf6_79 (by assumption) rfl (by omega) dX6_note_4 ?_
  refine a_iload_n X dX6_note_7 rfl ?_
  refine a_callSNv X dX6_note_8 miX7_cell lm6_82 (c_cell (by assumption) (by first | decide | assumption)) rfl rfl (Nat.le_of_ble_eq_true rfl) ⟨by decide, by decide, by decide, by decide⟩ ?_
  refine a_istore_n X dX6_note_11 (by decide) ?_
  refine a_aload_n X dX6_note_12 rfl ?_
  refine a_getr X lf6_38 (by assumption) rfl (by omega) dX6_note_13 ?_
  refine a_getr X lf6_86 (by assumption) rfl (by omega) dX6_note_16 ?_
  refine a_iload_n X dX6_note_19 rfl ?_
  refine a_callSNv X dX6_note_20 miX7_cell lm6_82 (c_cell (by assumption) (by first | decide | assumption)) rfl rfl (Nat.le_of_ble_eq_true rfl) ⟨by decide, by decide, by decide, by decide⟩ ?_
  refine a_iconst (v := -1) X dX6_note_23 (by decide) ?_
  refine a_icmp_ne (tgt := 56) X dX6_note_24 (by decide) (fun h_24 => ?_) (fun h_24 => ?_)
  · replace h := (if_neg h_24).symm.trans h
    refine a_aload_n X dX6_note_56 rfl ?_
    refine a_getr X lf6_18 (by assumption) rfl (by omega) dX6_note_57 ?_
    refine a_iload_n X dX6_note_60 rfl ?_
    refine a_iconst (v := 0) X dX6_note_61 (by decide) ?_
    obtain ⟨M_62, f_62, h⟩ := zLtx h
    refine a_callSNu X dX6_note_62 miX7_put lm6_99 (zMu (c_put (by assumption) (by first | decide | assumption)) f_62) rfl rfl (Nat.le_of_ble_eq_true rfl) ⟨by decide, by decide, by decide, by decide⟩ ?_
    refine a_aload_n X dX6_note_65 rfl ?_
    refine a_getr X lf6_9 (by assumption) rfl (by omega) dX6_note_66 ?_
    refine a_iload_n X dX6_note_69 rfl ?_
    refine a_iconst (v := 1) X dX6_note_70 (by decide) ?_
    obtain ⟨M_71, f_71, h⟩ := zLtx h
    refine a_callSNu X dX6_note_71 miX7_add lm6_89 (zMu (c_add (by assumption) (by first | decide | assumption)) f_71) rfl rfl (Nat.le_of_ble_eq_true rfl) ⟨by decide, by decide, by decide, by decide⟩ ?_
    refine a_aload_n X dX6_note_74 rfl ?_
    refine a_getr X lf6_38 (by assumption) rfl (by omega) dX6_note_75 ?_
    refine a_aload_n X dX6_note_78 rfl ?_
    refine a_getr X lf6_31 (by assumption) rfl (by omega) dX6_note_79 ?_
    refine a_iload_n X dX6_note_82 rfl ?_
    obtain ⟨e_83, f_83, h⟩ := zBx h
    refine a_callVx X dX6_note_83 miX5_hasFirst lm6_102 (t_X5_hasFirst (by assumption) (by assumption) f_83) (by assumption) rfl rfl rfl (Nat.le_of_ble_eq_true rfl) ⟨by decide, by decide, by decide, by decide⟩ (fun r_83 S_83 q_83 => ?_)
    obtain ⟨rfl, rfl, b_83⟩ := q_83
    refine a_if_eq (tgt := 109) X dX6_note_86 (by decide) (fun h_86 => ?_) (fun h_86 => ?_)
    · replace h := (if_pos h_86).symm.trans h
      exact Zw.to2 (J_109 _ _ _ _ h) rfl rfl rfl
    · replace h := (if_neg h_86).symm.trans h
      refine a_aload_n X dX6_note_89 rfl ?_
      refine a_getr X lf6_15 (by assumption) rfl (by omega) dX6_note_90 ?_
      refine a_iload_n X dX6_note_93 rfl ?_
      refine a_callSNv X dX6_note_94 miX7_cell lm6_82 (c_cell (by assumption) (by first | decide | assumption)) rfl rfl (Nat.le_of_ble_eq_true rfl) ⟨by decide, by decide, by decide, by decide⟩ ?_
      refine a_if_ne (tgt := 109) X dX6_note_97 (by decide) (fun h_97 => ?_) (fun h_97 => ?_)
      · replace h := (if_neg h_97).symm.trans h
        exact Zw.to2 (J_109 _ _ _ _ h) rfl rfl rfl
      · replace h := (if_pos h_97).symm.trans h
        refine a_aload_n X dX6_note_100 rfl ?_
        refine a_getr X lf6_15 (by assumption) rfl (by omega) dX6_note_101 ?_
        refine a_iload_n X dX6_note_104 rfl ?_
        refine a_iload_n X dX6_note_105 rfl ?_
        obtain ⟨M_106, f_106, h⟩ := zLtx h
        refine a_callSNu X dX6_note_106 miX7_put lm6_99 (zMu (c_put (by assumption) (by first | decide | assumption)) f_106) rfl rfl (Nat.le_of_ble_eq_true rfl) ⟨by decide, by decide, by decide, by decide⟩ ?_
        exact Zw.to2 (J_109 _ _ _ _ h) rfl rfl rfl
  · replace h := (if_pos h_24).symm.trans h
    refine a_aload_n X dX6_note_27 rfl ?_
    refine a_getr X lf6_18 (by assumption) rfl (by omega) dX6_note_28 ?_
    refine a_iload_n X dX6_note_31 rfl ?_
    refine a_iconst (v := 1) X dX6_note_32 (by decide) ?_
    obtain ⟨M_33, f_33, h⟩ := zLtx h
    refine a_callSNu X dX6_note_33 miX7_add lm6_89 (zMu (c_add (by assumption) (by first | decide | assumption)) f_33) rfl rfl (Nat.le_of_ble_eq_true rfl) ⟨by decide, by decide, by decide, by decide⟩ ?_
    refine a_aload_n X dX6_note_36 rfl ?_
    refine a_aload_n X dX6_note_37 rfl ?_
    refine a_geti X lf6_46 (by assumption) rfl dX6_note_38 ?_
    refine a_aload_n X dX6_note_41 rfl ?_
    refine a_getr X lf6_18 (by assumption) rfl (by omega) dX6_note_42 ?_
    refine a_iload_n X dX6_note_45 rfl ?_
    refine a_callSNv X dX6_note_46 miX7_cell lm6_82 (c_cell (by assumption) (by first | decide | assumption)) rfl rfl (Nat.le_of_ble_eq_true rfl) ⟨by decide, by decide, by decide, by decide⟩ ?_
    refine a_mmax X lm6_93 zmath1 zmath0 zmathc1 ⟨by decide, Nat.le_of_ble_eq_true rfl, by decide, by decide⟩ dX6_note_49 ?_
    obtain ⟨M_52, f_52, h⟩ := zLtx h
    refine d_puti X lf6_46 (by assumption) rfl dX6_note_52 f_52 ?_
    refine a_vret X hr dX6_note_55 ⟨by decide, by decide⟩ ?_
    subst hF
    rw [← Option.some.inj h]
    exact ⟨rfl, rfl⟩
noncomputable def D_X6_pass_102 (Q : Nat) (A : Nat) (k45 : Int32 → Int32 → Int32 → zMt → Option (zMt)) : Nat → Int32 → Int32 → Int32 → Int32 → zMt → Option (zMt)
  | 0, _, _, _, _, _ => none
  | n + 1, x2_102, x3_102, x4_102, x5_102, M_102 =>
    if (M_102 (Q + 4) 1) ≤ x5_102 then
      zB (D_X4_live (Q + 4) (Q + 12) (Q + 25) M_102) fun e_140 =>
      k45 x2_102 x3_102 (x4_102 + 1) e_140
    else
      zB (D_X6_note Q x5_102 x4_102 M_102) fun e_119 =>
      (D_X6_pass_102 Q A k45 n) x2_102 x3_102 x4_102 (x5_102 + 1) e_119
noncomputable def D_X6_pass_45 (Q : Nat) (A : Nat) : Nat → Int32 → Int32 → Int32 → zMt → Option (zMt)
  | 0, _, _, _, _ => none
  | n + 1, x2_45, x3_45, x4_45, M_45 =>
    if x3_45 < x4_45 then
      some (M_45)
    else
      zB (D_X2_gather (Q + 12) (Q + 4) M_45) fun e_59 =>
      zB (D_X5_bySeed (Q + 25) (Q + 12) ((x2_45 + x4_45) - (1 : Int32)) e_59) fun e_76 =>
      zB (D_X5_tagsGiven (Q + 25) (Q + 12) e_76) fun e_92 =>
      zLt (zu e_76 Q 0 ((e_76 Q 0) + e_92)) fun M_96 =>
      D_X6_pass_102 Q A (D_X6_pass_45 Q A n) zFu x2_45 x3_45 x4_45 (0 : Int32) M_96
noncomputable def D_X6_pass (Q : Nat) (A : Nat) (v0 : Int32) (v1 : Int32) (M : zMt) : Option (zMt) :=
  zLt (zu M Q 0 (0 : Int32)) fun M_2 =>
  zLt (zu M_2 Q 1 (0 : Int32)) fun M_7 =>
  zLt (zfil M_7 (Q + 1) 10 (0 : Int32)) fun M_15 =>
  zLt (zfil M_15 (Q + 2) 10 (0 : Int32)) fun M_23 =>
  zLt (zfil M_23 (Q + 3) 10 (0 : Int32)) fun M_31 =>
  zB (D_X4_take (Q + 4) A M_31) fun e_39 =>
  D_X6_pass_45 Q A zFu v0 v1 (1 : Int32) e_39
set_option maxRecDepth 100000 in
set_option maxHeartbeats 4000000 in
theorem t_X6_pass {l : Launch} {G : zG} {b : Nat} {L : List zC} {M : zMt} {N : zNt} {Q : Nat} {A : Nat} {v0 : Int32} {v1 : Int32} (hQ : LX6 L Q) (hA : LX4 L A) (dQA : Q + 33 ≤ A ∨ A + 8 ≤ Q) {r : zMt} (h : D_X6_pass Q A v0 v1 M = some r) : zM l G b yX6_pass cX6_pass 6 none 5 0 0 [.ref Q, .ref A, .int v0, .int v1] (L, M, N) (fun r2 z => r2 = none ∧ z = (L, r, N)) := by
  refine zM.of miX6_pass (Nat.le_of_ble_eq_true rfl) ?_
  intro p e s m args below meth c X hr hname
  generalize hF : ((fun r2 z => r2 = none ∧ z = (L, r, N)) : Option Value → zS → Prop) = FQ
  change Zw p l e { frames := 5, cells := 0, slots := 0, locals := 80 * (5) } s m args below meth c G b 6 (MQ below (zQ G b FQ) args s 0 0 (fun q : Nat => b ≤ q)) 0 0 0 [some (.ref Q), some (.ref A), some (.int v0), some (.int v1), none, none] [] (L, M, N)
  obtain ⟨q_lt, q_o, q_times, q_firstWish, q_dry, q_list, q_pool, q_result⟩ := id hQ
  obtain ⟨q_list_lt, q_list_o, q_list_quota, q_list_score, q_list_guest, q_list_party, q_list_wishCount, q_list_wishes, q_list_has⟩ := id q_list
  obtain ⟨q_pool_lt, q_pool_o, q_pool_quota, q_pool_preferred, q_pool_forGuests, q_pool_applicantOf, q_pool_size, q_pool_guestCount, q_pool_score, q_pool_tickets, q_pool_bits, q_pool_party, q_pool_wishCount, q_pool_wishes⟩ := id q_pool
  obtain ⟨q_result_lt, q_result_o, q_result_line, q_result_unitOf, q_result_roundOf, q_result_leftTags, q_result_leftGuests, q_result_leftPreferred, q_result_ranked⟩ := id q_result
  obtain ⟨a_lt, a_o, a_quota, a_score, a_guest, a_party, a_wishCount, a_wishes, a_has⟩ := id hA
  have L_45 : ∀ u : Nat, ∀ (x2_45 : Int32) (x3_45 : Int32) (x4_45 : Int32) (x5_45 : Option Value) (M_45 : zMt), D_X6_pass_45 Q A u x2_45 x3_45 x4_45 M_45 = some r → Zw p l e { frames := 5, cells := 0, slots := 0, locals := 80 * (5) } s m args below meth c G b 6 (MQ below (zQ G b FQ) args s 0 0 (fun q : Nat => b ≤ q)) 0 0 45 [some (.ref (Q)), some (.ref (A)), some (.int x2_45), some (.int x3_45), some (.int x4_45), x5_45] [] (L, M_45, N) := by
    intro u
    induction u with
    | zero => intro x2_45 x3_45 x4_45 x5_45 M_45 h; cases (show none = some r from h)
    | succ u_45 ih_45 =>
      have L_102 : ∀ u : Nat, ∀ (x2_102 : Int32) (x3_102 : Int32) (x4_102 : Int32) (x5_102 : Int32) (M_102 : zMt), D_X6_pass_102 Q A (D_X6_pass_45 Q A u_45) u x2_102 x3_102 x4_102 x5_102 M_102 = some r → Zw p l e { frames := 5, cells := 0, slots := 0, locals := 80 * (5) } s m args below meth c G b 6 (MQ below (zQ G b FQ) args s 0 0 (fun q : Nat => b ≤ q)) 0 0 102 [some (.ref (Q)), some (.ref (A)), some (.int x2_102), some (.int x3_102), some (.int x4_102), some (.int x5_102)] [] (L, M_102, N) := by
        intro u
        induction u with
        | zero => intro x2_102 x3_102 x4_102 x5_102 M_102 h; cases (show none = some r from h)
        | succ u_102 ih_102 =>
          intro x2_102 x3_102 x4_102 x5_102 M_102 h
          rw [D_X6_pass_102] at h
          refine a_iload X dX6_pass_102 rfl ?_
          refine a_aload_n X dX6_pass_104 rfl ?_
          refine a_getr X lf6_24 (by assumption) rfl (by omega) dX6_pass_105 ?_
          refine a_geti X lf6_68 (by assumption) rfl dX6_pass_108 ?_
          refine a_icmp_ge (tgt := 128) X dX6_pass_111 (by decide) (fun h_111 => ?_) (fun h_111 => ?_)
          · replace h := (if_pos h_111).symm.trans h
            refine a_aload_n X dX6_pass_128 rfl ?_
            refine a_getr X lf6_24 (by assumption) rfl (by omega) dX6_pass_129 ?_
            refine a_aload_n X dX6_pass_132 rfl ?_
            refine a_getr X lf6_31 (by assumption) rfl (by omega) dX6_pass_133 ?_
            refine a_aload_n X dX6_pass_136 rfl ?_
            refine a_getr X lf6_38 (by assumption) rfl (by omega) dX6_pass_137 ?_
            obtain ⟨e_140, f_140, h⟩ := zBx h
            refine a_callVu X dX6_pass_140 miX4_live lm6_75 (t_X4_live (by assumption) (by assumption) (by assumption) f_140) (by assumption) rfl rfl rfl (Nat.le_of_ble_eq_true rfl) ⟨by decide, by decide, by decide, by decide⟩ ?_
            refine a_iinc (v := x4_102 + 1) X dX6_pass_143 (by decide) rfl zi_1 ?_
            refine a_goto (tgt := 45) X dX6_pass_146 (by decide) ?_
            exact Zw.to2 (ih_45 _ _ _ _ _ h) rfl rfl rfl
          · replace h := (if_neg h_111).symm.trans h
            refine a_aload_n X dX6_pass_114 rfl ?_
            refine a_iload X dX6_pass_115 rfl ?_
            refine a_iload X dX6_pass_117 rfl ?_
            obtain ⟨e_119, f_119, h⟩ := zBx h
            refine a_callVu X dX6_pass_119 miX6_note lm6_71 (t_X6_note (by assumption) f_119) (by assumption) rfl rfl rfl (Nat.le_of_ble_eq_true rfl) ⟨by decide, by decide, by decide, by decide⟩ ?_
            refine a_iinc (v := x5_102 + 1) X dX6_pass_122 (by decide) rfl zi_1 ?_
            refine a_goto (tgt := 102) X dX6_pass_125 (by decide) ?_
            exact Zw.to2 (ih_102 _ _ _ _ _ h) rfl rfl rfl
      have H_102 : ∀ (x2_102 : Int32) (x3_102 : Int32) (x4_102 : Int32) (x5_102 : Int32) (M_102 : zMt), D_X6_pass_102 Q A (D_X6_pass_45 Q A u_45) zFu x2_102 x3_102 x4_102 x5_102 M_102 = some r → Zw p l e { frames := 5, cells := 0, slots := 0, locals := 80 * (5) } s m args below meth c G b 6 (MQ below (zQ G b FQ) args s 0 0 (fun q : Nat => b ≤ q)) 0 0 102 [some (.ref (Q)), some (.ref (A)), some (.int x2_102), some (.int x3_102), some (.int x4_102), some (.int x5_102)] [] (L, M_102, N) := L_102 zFu
      intro x2_45 x3_45 x4_45 x5_45 M_45 h
      rw [D_X6_pass_45] at h
      refine a_iload X dX6_pass_45 rfl ?_
      refine a_iload_n X dX6_pass_47 rfl ?_
      refine a_icmp_gt (tgt := 149) X dX6_pass_48 (by decide) (fun h_48 => ?_) (fun h_48 => ?_)
      · replace h := (if_pos h_48).symm.trans h
        refine a_vret X hr dX6_pass_149 ⟨by decide, by decide⟩ ?_
        subst hF
        rw [← Option.some.inj h]
        exact ⟨rfl, rfl⟩
      · replace h := (if_neg h_48).symm.trans h
        refine a_aload_n X dX6_pass_51 rfl ?_
        refine a_getr X lf6_31 (by assumption) rfl (by omega) dX6_pass_52 ?_
        refine a_aload_n X dX6_pass_55 rfl ?_
        refine a_getr X lf6_24 (by assumption) rfl (by omega) dX6_pass_56 ?_
        obtain ⟨e_59, f_59, h⟩ := zBx h
        refine a_callVu X dX6_pass_59 miX2_gather lm6_57 (t_X2_gather (by assumption) (by assumption) f_59) (by assumption) rfl rfl rfl (Nat.le_of_ble_eq_true rfl) ⟨by decide, by decide, by decide, by decide⟩ ?_
        refine a_aload_n X dX6_pass_62 rfl ?_
        refine a_getr X lf6_38 (by assumption) rfl (by omega) dX6_pass_63 ?_
        refine a_aload_n X dX6_pass_66 rfl ?_
        refine a_getr X lf6_31 (by assumption) rfl (by omega) dX6_pass_67 ?_
        refine a_iload_n X dX6_pass_70 rfl ?_
        refine a_iload X dX6_pass_71 rfl ?_
        refine a_iadd X dX6_pass_73 ?_
        refine a_iconst (v := 1) X dX6_pass_74 (by decide) ?_
        refine a_isub X dX6_pass_75 ?_
        obtain ⟨e_76, f_76, h⟩ := zBx h
        refine a_callVu X dX6_pass_76 miX5_bySeed lm6_60 (t_X5_bySeed (by assumption) (by assumption) f_76) (by assumption) rfl rfl rfl (Nat.le_of_ble_eq_true rfl) ⟨by decide, by decide, by decide, by decide⟩ ?_
        refine a_aload_n X dX6_pass_79 rfl ?_
        refine a_dup X dX6_pass_80 rfl ?_
        refine a_geti X lf6_42 (by assumption) rfl dX6_pass_81 ?_
        refine a_aload_n X dX6_pass_84 rfl ?_
        refine a_getr X lf6_38 (by assumption) rfl (by omega) dX6_pass_85 ?_
        refine a_aload_n X dX6_pass_88 rfl ?_
        refine a_getr X lf6_31 (by assumption) rfl (by omega) dX6_pass_89 ?_
        obtain ⟨e_92, f_92, h⟩ := zBx h
        refine a_callVv X dX6_pass_92 miX5_tagsGiven lm6_64 (t_X5_tagsGiven (by assumption) (by assumption) f_92) (by assumption) rfl rfl rfl (Nat.le_of_ble_eq_true rfl) ⟨by decide, by decide, by decide, by decide⟩ ?_
        refine a_iadd X dX6_pass_95 ?_
        obtain ⟨M_96, f_96, h⟩ := zLtx h
        refine d_puti X lf6_42 (by assumption) rfl dX6_pass_96 f_96 ?_
        refine a_iconst (v := 0) X dX6_pass_99 (by decide) ?_
        refine a_istore X dX6_pass_100 (by decide) ?_
        exact Zw.to2 (H_102 _ _ _ _ _ h) rfl rfl rfl
  have H_45 : ∀ (x2_45 : Int32) (x3_45 : Int32) (x4_45 : Int32) (x5_45 : Option Value) (M_45 : zMt), D_X6_pass_45 Q A zFu x2_45 x3_45 x4_45 M_45 = some r → Zw p l e { frames := 5, cells := 0, slots := 0, locals := 80 * (5) } s m args below meth c G b 6 (MQ below (zQ G b FQ) args s 0 0 (fun q : Nat => b ≤ q)) 0 0 45 [some (.ref (Q)), some (.ref (A)), some (.int x2_45), some (.int x3_45), some (.int x4_45), x5_45] [] (L, M_45, N) := L_45 zFu
  unfold D_X6_pass at h
  refine a_aload_n X dX6_pass_0 rfl ?_
  refine a_iconst (v := 0) X dX6_pass_1 (by decide) ?_
  obtain ⟨M_2, f_2, h⟩ := zLtx h
  refine d_puti X lf6_42 (by assumption) rfl dX6_pass_2 f_2 ?_
  refine a_aload_n X dX6_pass_5 rfl ?_
  refine a_iconst (v := 0) X dX6_pass_6 (by decide) ?_
  obtain ⟨M_7, f_7, h⟩ := zLtx h
  refine d_puti X lf6_46 (by assumption) rfl dX6_pass_7 f_7 ?_
  refine a_aload_n X dX6_pass_10 rfl ?_
  refine a_getr X lf6_9 (by assumption) rfl (by omega) dX6_pass_11 ?_
  refine a_iconst (v := 0) X dX6_pass_14 (by decide) ?_
  obtain ⟨M_15, f_15, h⟩ := zLtx h
  refine a_callSNu X dX6_pass_15 miX7_fill lm6_49 (zMu (c_fill (by assumption) (by first | decide | assumption)) f_15) rfl rfl (Nat.le_of_ble_eq_true rfl) ⟨by decide, by decide, by decide, by decide⟩ ?_
  refine a_aload_n X dX6_pass_18 rfl ?_
  refine a_getr X lf6_15 (by assumption) rfl (by omega) dX6_pass_19 ?_
  refine a_iconst (v := 0) X dX6_pass_22 (by decide) ?_
  obtain ⟨M_23, f_23, h⟩ := zLtx h
  refine a_callSNu X dX6_pass_23 miX7_fill lm6_49 (zMu (c_fill (by assumption) (by first | decide | assumption)) f_23) rfl rfl (Nat.le_of_ble_eq_true rfl) ⟨by decide, by decide, by decide, by decide⟩ ?_
  refine a_aload_n X dX6_pass_26 rfl ?_
  refine a_getr X lf6_18 (by assumption) rfl (by omega) dX6_pass_27 ?_
  refine a_iconst (v := 0) X dX6_pass_30 (by decide) ?_
  obtain ⟨M_31, f_31, h⟩ := zLtx h
  refine a_callSNu X dX6_pass_31 miX7_fill lm6_49 (zMu (c_fill (by assumption) (by first | decide | assumption)) f_31) rfl rfl (Nat.le_of_ble_eq_true rfl) ⟨by decide, by decide, by decide, by decide⟩ ?_
  refine a_aload_n X dX6_pass_34 rfl ?_
  refine a_getr X lf6_24 (by assumption) rfl (by omega) dX6_pass_35 ?_
  refine a_aload_n X dX6_pass_38 rfl ?_
  obtain ⟨e_39, f_39, h⟩ := zBx h
  refine a_callVu X dX6_pass_39 miX4_take lm6_53 (t_X4_take (by assumption) (by assumption) (by omega) f_39) (by assumption) rfl rfl rfl (Nat.le_of_ble_eq_true rfl) ⟨by decide, by decide, by decide, by decide⟩ ?_
  refine a_iconst (v := 1) X dX6_pass_42 (by decide) ?_
  refine a_istore X dX6_pass_43 (by decide) ?_
  exact Zw.to2 (H_45 _ _ _ _ _ h) rfl rfl rfl
noncomputable def D_X6_unserved_28 (Q : Nat) (M : zMt) (k4 : Int32 → Int32 → Int32 → Option (Int32)) (x1_28 : Int32) (x3_28 : Int32) (y0_28 : Int32) (y1_28 : Int32) : Option (Int32) :=
  k4 x1_28 (y0_28 ||| y1_28) (x3_28 + 1)
noncomputable def D_X6_unserved_4 (Q : Nat) (M : zMt) : Nat → Int32 → Int32 → Int32 → Option (Int32)
  | 0, _, _, _ => none
  | n + 1, x1_4, x2_4, x3_4 =>
    if x1_4 ≤ x3_4 then
      some (x2_4)
    else
      if (zrd 0 (M (Q + 1)) 10 x3_4) = 0 then
        D_X6_unserved_28 Q M (D_X6_unserved_4 Q M n) x1_4 x3_4 x2_4 ((1 : Int32) <<< (x3_4 &&& 31))
      else
        D_X6_unserved_28 Q M (D_X6_unserved_4 Q M n) x1_4 x3_4 x2_4 (0 : Int32)
noncomputable def D_X6_unserved (Q : Nat) (M : zMt) (v0 : Int32) : Option (Int32) :=
  D_X6_unserved_4 Q M zFu v0 (0 : Int32) (0 : Int32)
set_option maxRecDepth 100000 in
set_option maxHeartbeats 4000000 in
theorem t_X6_unserved {l : Launch} {G : zG} {b : Nat} {L : List zC} {M : zMt} {N : zNt} {Q : Nat} {v0 : Int32} (hQ : LX6 L Q) {r : Int32} (h : D_X6_unserved Q M v0 = some r) : zM l G b yX6_unserved cX6_unserved 4 (some .int) 1 0 0 [.ref Q, .int v0] (L, M, N) (fun r2 z => r2 = some (.int r) ∧ z = (L, M, N)) := by
  refine zM.of miX6_unserved (Nat.le_of_ble_eq_true rfl) ?_
  intro p e s m args below meth c X hr hname
  generalize hF : ((fun r2 z => r2 = some (.int r) ∧ z = (L, M, N)) : Option Value → zS → Prop) = FQ
  change Zw p l e { frames := 1, cells := 0, slots := 0, locals := 80 * (1) } s m args below meth c G b 4 (MQ below (zQ G b FQ) args s 0 0 (fun q : Nat => b ≤ q)) 0 0 0 [some (.ref Q), some (.int v0), none, none] [] (L, M, N)
  obtain ⟨q_lt, q_o, q_times, q_firstWish, q_dry, q_list, q_pool, q_result⟩ := id hQ
  obtain ⟨q_list_lt, q_list_o, q_list_quota, q_list_score, q_list_guest, q_list_party, q_list_wishCount, q_list_wishes, q_list_has⟩ := id q_list
  obtain ⟨q_pool_lt, q_pool_o, q_pool_quota, q_pool_preferred, q_pool_forGuests, q_pool_applicantOf, q_pool_size, q_pool_guestCount, q_pool_score, q_pool_tickets, q_pool_bits, q_pool_party, q_pool_wishCount, q_pool_wishes⟩ := id q_pool
  obtain ⟨q_result_lt, q_result_o, q_result_line, q_result_unitOf, q_result_roundOf, q_result_leftTags, q_result_leftGuests, q_result_leftPreferred, q_result_ranked⟩ := id q_result
  have L_4 : ∀ u : Nat, ∀ (x1_4 : Int32) (x2_4 : Int32) (x3_4 : Int32), D_X6_unserved_4 Q M u x1_4 x2_4 x3_4 = some r → Zw p l e { frames := 1, cells := 0, slots := 0, locals := 80 * (1) } s m args below meth c G b 4 (MQ below (zQ G b FQ) args s 0 0 (fun q : Nat => b ≤ q)) 0 0 4 [some (.ref (Q)), some (.int x1_4), some (.int x2_4), some (.int x3_4)] [] (L, M, N) := by
    intro u
    induction u with
    | zero => intro x1_4 x2_4 x3_4 h; cases (show none = some r from h)
    | succ u_4 ih_4 =>
      have J_28 : ∀ (x1_28 : Int32) (x2_28 : Int32) (x3_28 : Int32) (y0_28 : Int32) (y1_28 : Int32), D_X6_unserved_28 Q M (D_X6_unserved_4 Q M u_4) x1_28 x3_28 y0_28 y1_28 = some r → Zw p l e { frames := 1, cells := 0, slots := 0, locals := 80 * (1) } s m args below meth c G b 4 (MQ below (zQ G b FQ) args s 0 0 (fun q : Nat => b ≤ q)) 0 0 28 [some (.ref (Q)), some (.int x1_28), some (.int x2_28), some (.int x3_28)] [.int y1_28, .int y0_28] (L, M, N) := by
        intro x1_28 x2_28 x3_28 y0_28 y1_28 h
        unfold D_X6_unserved_28 at h
        refine a_ior X dX6_unserved_28 ?_
        refine a_istore_n X dX6_unserved_29 (by decide) ?_
        refine a_iinc (v := x3_28 + 1) X dX6_unserved_30 (by decide) rfl zi_1 ?_
        refine a_goto (tgt := 4) X dX6_unserved_33 (by decide) ?_
        exact Zw.to2 (ih_4 _ _ _ h) rfl rfl rfl
      intro x1_4 x2_4 x3_4 h
      rw [D_X6_unserved_4] at h
      refine a_iload_n X dX6_unserved_4 rfl ?_
      refine a_iload_n X dX6_unserved_5 rfl ?_
      refine a_icmp_ge (tgt := 36) X dX6_unserved_6 (by decide) (fun h_6 => ?_) (fun h_6 => ?_)
      · replace h := (if_pos h_6).symm.trans h
        refine a_iload_n X dX6_unserved_36 rfl ?_
        refine a_iret X hr dX6_unserved_37 ⟨by decide, by decide⟩ ?_
        subst hF
        rw [← Option.some.inj h]
        exact ⟨rfl, rfl⟩
      · replace h := (if_neg h_6).symm.trans h
        refine a_iload_n X dX6_unserved_9 rfl ?_
        refine a_aload_n X dX6_unserved_10 rfl ?_
        refine a_getr X lf6_9 (by assumption) rfl (by omega) dX6_unserved_11 ?_
        refine a_iload_n X dX6_unserved_14 rfl ?_
        refine a_callSNv X dX6_unserved_15 miX7_cell lm6_82 (c_cell (by assumption) (by first | decide | assumption)) rfl rfl (Nat.le_of_ble_eq_true rfl) ⟨by decide, by decide, by decide, by decide⟩ ?_
        refine a_if_ne (tgt := 27) X dX6_unserved_18 (by decide) (fun h_18 => ?_) (fun h_18 => ?_)
        · replace h := (if_neg h_18).symm.trans h
          refine a_iconst (v := 0) X dX6_unserved_27 (by decide) ?_
          exact Zw.to2 (J_28 _ _ _ _ _ h) rfl rfl rfl
        · replace h := (if_pos h_18).symm.trans h
          refine a_iconst (v := 1) X dX6_unserved_21 (by decide) ?_
          refine a_iload_n X dX6_unserved_22 rfl ?_
          refine a_ishl X dX6_unserved_23 ?_
          refine a_goto (tgt := 28) X dX6_unserved_24 (by decide) ?_
          exact Zw.to2 (J_28 _ _ _ _ _ h) rfl rfl rfl
  have H_4 : ∀ (x1_4 : Int32) (x2_4 : Int32) (x3_4 : Int32), D_X6_unserved_4 Q M zFu x1_4 x2_4 x3_4 = some r → Zw p l e { frames := 1, cells := 0, slots := 0, locals := 80 * (1) } s m args below meth c G b 4 (MQ below (zQ G b FQ) args s 0 0 (fun q : Nat => b ≤ q)) 0 0 4 [some (.ref (Q)), some (.int x1_4), some (.int x2_4), some (.int x3_4)] [] (L, M, N) := L_4 zFu
  unfold D_X6_unserved at h
  refine a_iconst (v := 0) X dX6_unserved_0 (by decide) ?_
  refine a_istore_n X dX6_unserved_1 (by decide) ?_
  refine a_iconst (v := 0) X dX6_unserved_2 (by decide) ?_
  refine a_istore_n X dX6_unserved_3 (by decide) ?_
  exact Zw.to2 (H_4 _ _ _ h) rfl rfl rfl
noncomputable def D_X7_status (P : Nat) (M : zMt)  : Option (Int32) :=
  some ((M P 0))
set_option maxRecDepth 100000 in
set_option maxHeartbeats 4000000 in
theorem t_X7_status {l : Launch} {G : zG} {b : Nat} {L : List zC} {M : zMt} {N : zNt} {P : Nat}  (hP : LX7 L P) {r : Int32} (h : D_X7_status P M = some r) : zM l G b yX7_status cX7_status 1 (some .int) 0 0 0 [.ref P] (L, M, N) (fun r2 z => r2 = some (.int r) ∧ z = (L, M, N)) := by
  refine zM.of miX7_status (Nat.le_of_ble_eq_true rfl) ?_
  intro p e s m args below meth c X hr hname
  generalize hF : ((fun r2 z => r2 = some (.int r) ∧ z = (L, M, N)) : Option Value → zS → Prop) = FQ
  change Zw p l e { frames := 0, cells := 0, slots := 0, locals := 80 * (0) } s m args below meth c G b 1 (MQ below (zQ G b FQ) args s 0 0 (fun q : Nat => b ≤ q)) 0 0 0 [some (.ref P)] [] (L, M, N)
  obtain ⟨p_lt, p_o, p_tape, p_out, p_reader, p_list, p_past, p_pool, p_result, p_odds, p_paper, p_trial, p_trialPool, p_trialResult, p_trialOdds⟩ := id hP
  obtain ⟨p_reader_lt, p_reader_o, p_reader_draft, p_reader_text, p_reader_unitNames, p_reader_hunterNames, p_reader_partyNames, p_reader_asked⟩ := id p_reader
  obtain ⟨p_list_lt, p_list_o, p_list_quota, p_list_score, p_list_guest, p_list_party, p_list_wishCount, p_list_wishes, p_list_has⟩ := id p_list
  obtain ⟨p_past_lt, p_past_o, p_past_stood, p_past_stood0, p_past_stood1, p_past_stood2, p_past_stood3, p_past_stood4, p_past_stood5, p_past_stood6, p_past_stood7⟩ := id p_past
  obtain ⟨p_pool_lt, p_pool_o, p_pool_quota, p_pool_preferred, p_pool_forGuests, p_pool_applicantOf, p_pool_size, p_pool_guestCount, p_pool_score, p_pool_tickets, p_pool_bits, p_pool_party, p_pool_wishCount, p_pool_wishes⟩ := id p_pool
  obtain ⟨p_result_lt, p_result_o, p_result_line, p_result_unitOf, p_result_roundOf, p_result_leftTags, p_result_leftGuests, p_result_leftPreferred, p_result_ranked⟩ := id p_result
  obtain ⟨p_odds_lt, p_odds_o, p_odds_sets, p_odds_seen, p_odds_atUnit, p_odds_early, p_odds_result⟩ := id p_odds
  obtain ⟨p_paper_lt, p_paper_o, p_paper_times, p_paper_firstWish, p_paper_dry, p_paper_list, p_paper_pool, p_paper_result⟩ := id p_paper
  obtain ⟨p_trial_lt, p_trial_o, p_trial_quota, p_trial_score, p_trial_guest, p_trial_party, p_trial_wishCount, p_trial_wishes, p_trial_has⟩ := id p_trial
  obtain ⟨p_trialPool_lt, p_trialPool_o, p_trialPool_quota, p_trialPool_preferred, p_trialPool_forGuests, p_trialPool_applicantOf, p_trialPool_size, p_trialPool_guestCount, p_trialPool_score, p_trialPool_tickets, p_trialPool_bits, p_trialPool_party, p_trialPool_wishCount, p_trialPool_wishes⟩ := id p_trialPool
  obtain ⟨p_trialResult_lt, p_trialResult_o, p_trialResult_line, p_trialResult_unitOf, p_trialResult_roundOf, p_trialResult_leftTags, p_trialResult_leftGuests, p_trialResult_leftPreferred, p_trialResult_ranked⟩ := id p_trialResult
  obtain ⟨p_trialOdds_lt, p_trialOdds_o, p_trialOdds_sets, p_trialOdds_seen, p_trialOdds_atUnit, p_trialOdds_early, p_trialOdds_result⟩ := id p_trialOdds
  unfold D_X7_status at h
  refine a_aload_n X dX7_status_0 rfl ?_
  refine a_geti X lf7_88 (by assumption) rfl dX7_status_1 ?_
  refine a_iret X hr dX7_status_4 ⟨by decide, by decide⟩ ?_
  subst hF
  rw [← Option.some.inj h]
  exact ⟨rfl, rfl⟩
noncomputable def D_X7_append_3 (P : Nat) : Nat → Int32 → Int32 → zMt → Option (zMt)
  | 0, _, _, _ => none
  | n + 1, x1_3, x2_3, M_3 =>
    if x2_3 < 0 then
      some (M_3)
    else
      zLt (zwr M_3 (P + 1) 700 (M_3 P 1) (((Int32.toUInt32 x1_3 >>> (Int32.toUInt32 x2_3 &&& Int32.toUInt32 31)).toInt32) &&& (255 : Int32))) fun M_22 =>
      zLt (zu M_22 P 1 ((M_22 P 1) + (1 : Int32))) fun M_32 =>
      (D_X7_append_3 P n) x1_3 (x2_3 + (-8)) M_32
noncomputable def D_X7_append (P : Nat) (v0 : Int32) (M : zMt) : Option (zMt) :=
  D_X7_append_3 P zFu v0 (24 : Int32) M
set_option maxRecDepth 100000 in
set_option maxHeartbeats 4000000 in
theorem t_X7_append {l : Launch} {G : zG} {b : Nat} {L : List zC} {M : zMt} {N : zNt} {P : Nat} {v0 : Int32} (hP : LX7 L P) {r : zMt} (h : D_X7_append P v0 M = some r) : zM l G b yX7_append cX7_append 3 none 1 0 0 [.ref P, .int v0] (L, M, N) (fun r2 z => r2 = none ∧ z = (L, r, N)) := by
  refine zM.of miX7_append (Nat.le_of_ble_eq_true rfl) ?_
  intro p e s m args below meth c X hr hname
  generalize hF : ((fun r2 z => r2 = none ∧ z = (L, r, N)) : Option Value → zS → Prop) = FQ
  change Zw p l e { frames := 1, cells := 0, slots := 0, locals := 80 * (1) } s m args below meth c G b 3 (MQ below (zQ G b FQ) args s 0 0 (fun q : Nat => b ≤ q)) 0 0 0 [some (.ref P), some (.int v0), none] [] (L, M, N)
  obtain ⟨p_lt, p_o, p_tape, p_out, p_reader, p_list, p_past, p_pool, p_result, p_odds, p_paper, p_trial, p_trialPool, p_trialResult, p_trialOdds⟩ := id hP
  obtain ⟨p_reader_lt, p_reader_o, p_reader_draft, p_reader_text, p_reader_unitNames, p_reader_hunterNames, p_reader_partyNames, p_reader_asked⟩ := id p_reader
  obtain ⟨p_list_lt, p_list_o, p_list_quota, p_list_score, p_list_guest, p_list_party, p_list_wishCount, p_list_wishes, p_list_has⟩ := id p_list
  obtain ⟨p_past_lt, p_past_o, p_past_stood, p_past_stood0, p_past_stood1, p_past_stood2, p_past_stood3, p_past_stood4, p_past_stood5, p_past_stood6, p_past_stood7⟩ := id p_past
  obtain ⟨p_pool_lt, p_pool_o, p_pool_quota, p_pool_preferred, p_pool_forGuests, p_pool_applicantOf, p_pool_size, p_pool_guestCount, p_pool_score, p_pool_tickets, p_pool_bits, p_pool_party, p_pool_wishCount, p_pool_wishes⟩ := id p_pool
  obtain ⟨p_result_lt, p_result_o, p_result_line, p_result_unitOf, p_result_roundOf, p_result_leftTags, p_result_leftGuests, p_result_leftPreferred, p_result_ranked⟩ := id p_result
  obtain ⟨p_odds_lt, p_odds_o, p_odds_sets, p_odds_seen, p_odds_atUnit, p_odds_early, p_odds_result⟩ := id p_odds
  obtain ⟨p_paper_lt, p_paper_o, p_paper_times, p_paper_firstWish, p_paper_dry, p_paper_list, p_paper_pool, p_paper_result⟩ := id p_paper
  obtain ⟨p_trial_lt, p_trial_o, p_trial_quota, p_trial_score, p_trial_guest, p_trial_party, p_trial_wishCount, p_trial_wishes, p_trial_has⟩ := id p_trial
  obtain ⟨p_trialPool_lt, p_trialPool_o, p_trialPool_quota, p_trialPool_preferred, p_trialPool_forGuests, p_trialPool_applicantOf, p_trialPool_size, p_trialPool_guestCount, p_trialPool_score, p_trialPool_tickets, p_trialPool_bits, p_trialPool_party, p_trialPool_wishCount, p_trialPool_wishes⟩ := id p_trialPool
  obtain ⟨p_trialResult_lt, p_trialResult_o, p_trialResult_line, p_trialResult_unitOf, p_trialResult_roundOf, p_trialResult_leftTags, p_trialResult_leftGuests, p_trialResult_leftPreferred, p_trialResult_ranked⟩ := id p_trialResult
  obtain ⟨p_trialOdds_lt, p_trialOdds_o, p_trialOdds_sets, p_trialOdds_seen, p_trialOdds_atUnit, p_trialOdds_early, p_trialOdds_result⟩ := id p_trialOdds
  have L_3 : ∀ u : Nat, ∀ (x1_3 : Int32) (x2_3 : Int32) (M_3 : zMt), D_X7_append_3 P u x1_3 x2_3 M_3 = some r → Zw p l e { frames := 1, cells := 0, slots := 0, locals := 80 * (1) } s m args below meth c G b 3 (MQ below (zQ G b FQ) args s 0 0 (fun q : Nat => b ≤ q)) 0 0 3 [some (.ref (P)), some (.int x1_3), some (.int x2_3)] [] (L, M_3, N) := by
    intro u
    induction u with
    | zero => intro x1_3 x2_3 M_3 h; cases (show none = some r from h)
    | succ u_3 ih_3 =>
      intro x1_3 x2_3 M_3 h
      rw [D_X7_append_3] at h
      refine a_iload_n X dX7_append_3 rfl ?_
      refine a_if_lt (tgt := 41) X dX7_append_4 (by decide) (fun h_4 => ?_) (fun h_4 => ?_)
      · replace h := (if_pos h_4).symm.trans h
        refine a_vret X hr dX7_append_41 ⟨by decide, by decide⟩ ?_
        subst hF
        rw [← Option.some.inj h]
        exact ⟨rfl, rfl⟩
      · replace h := (if_neg h_4).symm.trans h
        refine a_aload_n X dX7_append_7 rfl ?_
        refine a_getr X lf7_9 (by assumption) rfl (by omega) dX7_append_8 ?_
        refine a_aload_n X dX7_append_11 rfl ?_
        refine a_geti X lf7_91 (by assumption) rfl dX7_append_12 ?_
        refine a_iload_n X dX7_append_15 rfl ?_
        refine a_iload_n X dX7_append_16 rfl ?_
        refine a_iushr X dX7_append_17 ?_
        refine a_sipush (v := 255) X dX7_append_18 (by decide) ?_
        refine a_iand X dX7_append_21 ?_
        obtain ⟨M_22, f_22, h⟩ := zLtx h
        refine a_callSu X dX7_append_22 miX7_put lm7_98 (zMu (c_put (by assumption) (by first | decide | assumption)) f_22) rfl rfl (Nat.le_of_ble_eq_true rfl) ⟨by decide, by decide, by decide, by decide⟩ ?_
        refine a_aload_n X dX7_append_25 rfl ?_
        refine a_dup X dX7_append_26 rfl ?_
        refine a_geti X lf7_91 (by assumption) rfl dX7_append_27 ?_
        refine a_iconst (v := 1) X dX7_append_30 (by decide) ?_
        refine a_iadd X dX7_append_31 ?_
        obtain ⟨M_32, f_32, h⟩ := zLtx h
        refine d_puti X lf7_91 (by assumption) rfl dX7_append_32 f_32 ?_
        refine a_iinc (v := x2_3 + (-8)) X dX7_append_35 (by decide) rfl (by rw [show Int32.ofInt (-8) = (-8 : Int32) by decide]) ?_
        refine a_goto (tgt := 3) X dX7_append_38 (by decide) ?_
        exact Zw.to2 (ih_3 _ _ _ h) rfl rfl rfl
  have H_3 : ∀ (x1_3 : Int32) (x2_3 : Int32) (M_3 : zMt), D_X7_append_3 P zFu x1_3 x2_3 M_3 = some r → Zw p l e { frames := 1, cells := 0, slots := 0, locals := 80 * (1) } s m args below meth c G b 3 (MQ below (zQ G b FQ) args s 0 0 (fun q : Nat => b ≤ q)) 0 0 3 [some (.ref (P)), some (.int x1_3), some (.int x2_3)] [] (L, M_3, N) := L_3 zFu
  unfold D_X7_append at h
  refine a_bipush (v := 24) X dX7_append_0 (by decide) ?_
  refine a_istore_n X dX7_append_2 (by decide) ?_
  exact Zw.to2 (H_3 _ _ _ h) rfl rfl rfl
noncomputable def D_X7_feed (P : Nat) (v0 : Int32) (v1 : Int32) (v2 : Int32) (v3 : Int32) (v4 : Int32) (M : zMt) : Option (Int32 × zMt) :=
  if ((M P 1) + (20 : Int32)) ≤ (700 : Int32) then
    zB (D_X7_append P v0 M) fun e_17 =>
    zB (D_X7_append P v1 e_17) fun e_22 =>
    zB (D_X7_append P v2 e_22) fun e_27 =>
    zB (D_X7_append P v3 e_27) fun e_33 =>
    zB (D_X7_append P v4 e_33) fun e_39 =>
    some ((e_39 P 1), e_39)
  else
    some ((-1 : Int32), M)
set_option maxRecDepth 100000 in
set_option maxHeartbeats 4000000 in
theorem t_X7_feed {l : Launch} {G : zG} {b : Nat} {L : List zC} {M : zMt} {N : zNt} {P : Nat} {v0 : Int32} {v1 : Int32} {v2 : Int32} {v3 : Int32} {v4 : Int32} (hP : LX7 L P) {r : Int32 × zMt} (h : D_X7_feed P v0 v1 v2 v3 v4 M = some r) : zM l G b yX7_feed cX7_feed 6 (some .int) 2 0 0 [.ref P, .int v0, .int v1, .int v2, .int v3, .int v4] (L, M, N) (fun r2 z => r2 = some (.int r.1) ∧ z = (L, r.2, N)) := by
  refine zM.of miX7_feed (Nat.le_of_ble_eq_true rfl) ?_
  intro p e s m args below meth c X hr hname
  generalize hF : ((fun r2 z => r2 = some (.int r.1) ∧ z = (L, r.2, N)) : Option Value → zS → Prop) = FQ
  change Zw p l e { frames := 2, cells := 0, slots := 0, locals := 80 * (2) } s m args below meth c G b 6 (MQ below (zQ G b FQ) args s 0 0 (fun q : Nat => b ≤ q)) 0 0 0 [some (.ref P), some (.int v0), some (.int v1), some (.int v2), some (.int v3), some (.int v4)] [] (L, M, N)
  obtain ⟨p_lt, p_o, p_tape, p_out, p_reader, p_list, p_past, p_pool, p_result, p_odds, p_paper, p_trial, p_trialPool, p_trialResult, p_trialOdds⟩ := id hP
  obtain ⟨p_reader_lt, p_reader_o, p_reader_draft, p_reader_text, p_reader_unitNames, p_reader_hunterNames, p_reader_partyNames, p_reader_asked⟩ := id p_reader
  obtain ⟨p_list_lt, p_list_o, p_list_quota, p_list_score, p_list_guest, p_list_party, p_list_wishCount, p_list_wishes, p_list_has⟩ := id p_list
  obtain ⟨p_past_lt, p_past_o, p_past_stood, p_past_stood0, p_past_stood1, p_past_stood2, p_past_stood3, p_past_stood4, p_past_stood5, p_past_stood6, p_past_stood7⟩ := id p_past
  obtain ⟨p_pool_lt, p_pool_o, p_pool_quota, p_pool_preferred, p_pool_forGuests, p_pool_applicantOf, p_pool_size, p_pool_guestCount, p_pool_score, p_pool_tickets, p_pool_bits, p_pool_party, p_pool_wishCount, p_pool_wishes⟩ := id p_pool
  obtain ⟨p_result_lt, p_result_o, p_result_line, p_result_unitOf, p_result_roundOf, p_result_leftTags, p_result_leftGuests, p_result_leftPreferred, p_result_ranked⟩ := id p_result
  obtain ⟨p_odds_lt, p_odds_o, p_odds_sets, p_odds_seen, p_odds_atUnit, p_odds_early, p_odds_result⟩ := id p_odds
  obtain ⟨p_paper_lt, p_paper_o, p_paper_times, p_paper_firstWish, p_paper_dry, p_paper_list, p_paper_pool, p_paper_result⟩ := id p_paper
  obtain ⟨p_trial_lt, p_trial_o, p_trial_quota, p_trial_score, p_trial_guest, p_trial_party, p_trial_wishCount, p_trial_wishes, p_trial_has⟩ := id p_trial
  obtain ⟨p_trialPool_lt, p_trialPool_o, p_trialPool_quota, p_trialPool_preferred, p_trialPool_forGuests, p_trialPool_applicantOf, p_trialPool_size, p_trialPool_guestCount, p_trialPool_score, p_trialPool_tickets, p_trialPool_bits, p_trialPool_party, p_trialPool_wishCount, p_trialPool_wishes⟩ := id p_trialPool
  obtain ⟨p_trialResult_lt, p_trialResult_o, p_trialResult_line, p_trialResult_unitOf, p_trialResult_roundOf, p_trialResult_leftTags, p_trialResult_leftGuests, p_trialResult_leftPreferred, p_trialResult_ranked⟩ := id p_trialResult
  obtain ⟨p_trialOdds_lt, p_trialOdds_o, p_trialOdds_sets, p_trialOdds_seen, p_trialOdds_atUnit, p_trialOdds_early, p_trialOdds_result⟩ := id p_trialOdds
  unfold D_X7_feed at h
  refine a_aload_n X dX7_feed_0 rfl ?_
  refine a_geti X lf7_91 (by assumption) rfl dX7_feed_1 ?_
  refine a_bipush (v := 20) X dX7_feed_4 (by decide) ?_
  refine a_iadd X dX7_feed_6 ?_
  refine a_sipush (v := 700) X dX7_feed_7 (by decide) ?_
  refine a_icmp_le (tgt := 15) X dX7_feed_10 (by decide) (fun h_10 => ?_) (fun h_10 => ?_)
  · replace h := (if_pos h_10).symm.trans h
    refine a_aload_n X dX7_feed_15 rfl ?_
    refine a_iload_n X dX7_feed_16 rfl ?_
    obtain ⟨e_17, f_17, h⟩ := zBx h
    refine a_callVu X dX7_feed_17 miX7_append lm7_94 (t_X7_append (by assumption) f_17) (by assumption) rfl rfl rfl (Nat.le_of_ble_eq_true rfl) ⟨by decide, by decide, by decide, by decide⟩ ?_
    refine a_aload_n X dX7_feed_20 rfl ?_
    refine a_iload_n X dX7_feed_21 rfl ?_
    obtain ⟨e_22, f_22, h⟩ := zBx h
    refine a_callVu X dX7_feed_22 miX7_append lm7_94 (t_X7_append (by assumption) f_22) (by assumption) rfl rfl rfl (Nat.le_of_ble_eq_true rfl) ⟨by decide, by decide, by decide, by decide⟩ ?_
    refine a_aload_n X dX7_feed_25 rfl ?_
    refine a_iload_n X dX7_feed_26 rfl ?_
    obtain ⟨e_27, f_27, h⟩ := zBx h
    refine a_callVu X dX7_feed_27 miX7_append lm7_94 (t_X7_append (by assumption) f_27) (by assumption) rfl rfl rfl (Nat.le_of_ble_eq_true rfl) ⟨by decide, by decide, by decide, by decide⟩ ?_
    refine a_aload_n X dX7_feed_30 rfl ?_
    refine a_iload X dX7_feed_31 rfl ?_
    obtain ⟨e_33, f_33, h⟩ := zBx h
    refine a_callVu X dX7_feed_33 miX7_append lm7_94 (t_X7_append (by assumption) f_33) (by assumption) rfl rfl rfl (Nat.le_of_ble_eq_true rfl) ⟨by decide, by decide, by decide, by decide⟩ ?_
    refine a_aload_n X dX7_feed_36 rfl ?_
    refine a_iload X dX7_feed_37 rfl ?_
    obtain ⟨e_39, f_39, h⟩ := zBx h
    refine a_callVu X dX7_feed_39 miX7_append lm7_94 (t_X7_append (by assumption) f_39) (by assumption) rfl rfl rfl (Nat.le_of_ble_eq_true rfl) ⟨by decide, by decide, by decide, by decide⟩ ?_
    refine a_aload_n X dX7_feed_42 rfl ?_
    refine a_geti X lf7_91 (by assumption) rfl dX7_feed_43 ?_
    refine a_iret X hr dX7_feed_46 ⟨by decide, by decide⟩ ?_
    subst hF
    rw [← Option.some.inj h]
    exact ⟨rfl, rfl⟩
  · replace h := (if_neg h_10).symm.trans h
    refine a_iconst (v := -1) X dX7_feed_13 (by decide) ?_
    refine a_iret X hr dX7_feed_14 ⟨by decide, by decide⟩ ?_
    subst hF
    rw [← Option.some.inj h]
    exact ⟨rfl, rfl⟩
noncomputable def D_X7_refuse (P : Nat) (v0 : Int32) (M : zMt) : Option (Int32 × zMt) :=
  zLt (zu M P 0 v0) fun M_2 =>
  some ((-1 : Int32), M_2)
set_option maxRecDepth 100000 in
set_option maxHeartbeats 4000000 in
theorem t_X7_refuse {l : Launch} {G : zG} {b : Nat} {L : List zC} {M : zMt} {N : zNt} {P : Nat} {v0 : Int32} (hP : LX7 L P) {r : Int32 × zMt} (h : D_X7_refuse P v0 M = some r) : zM l G b yX7_refuse cX7_refuse 2 (some .int) 0 0 0 [.ref P, .int v0] (L, M, N) (fun r2 z => r2 = some (.int r.1) ∧ z = (L, r.2, N)) := by
  refine zM.of miX7_refuse (Nat.le_of_ble_eq_true rfl) ?_
  intro p e s m args below meth c X hr hname
  generalize hF : ((fun r2 z => r2 = some (.int r.1) ∧ z = (L, r.2, N)) : Option Value → zS → Prop) = FQ
  change Zw p l e { frames := 0, cells := 0, slots := 0, locals := 80 * (0) } s m args below meth c G b 2 (MQ below (zQ G b FQ) args s 0 0 (fun q : Nat => b ≤ q)) 0 0 0 [some (.ref P), some (.int v0)] [] (L, M, N)
  obtain ⟨p_lt, p_o, p_tape, p_out, p_reader, p_list, p_past, p_pool, p_result, p_odds, p_paper, p_trial, p_trialPool, p_trialResult, p_trialOdds⟩ := id hP
  obtain ⟨p_reader_lt, p_reader_o, p_reader_draft, p_reader_text, p_reader_unitNames, p_reader_hunterNames, p_reader_partyNames, p_reader_asked⟩ := id p_reader
  obtain ⟨p_list_lt, p_list_o, p_list_quota, p_list_score, p_list_guest, p_list_party, p_list_wishCount, p_list_wishes, p_list_has⟩ := id p_list
  obtain ⟨p_past_lt, p_past_o, p_past_stood, p_past_stood0, p_past_stood1, p_past_stood2, p_past_stood3, p_past_stood4, p_past_stood5, p_past_stood6, p_past_stood7⟩ := id p_past
  obtain ⟨p_pool_lt, p_pool_o, p_pool_quota, p_pool_preferred, p_pool_forGuests, p_pool_applicantOf, p_pool_size, p_pool_guestCount, p_pool_score, p_pool_tickets, p_pool_bits, p_pool_party, p_pool_wishCount, p_pool_wishes⟩ := id p_pool
  obtain ⟨p_result_lt, p_result_o, p_result_line, p_result_unitOf, p_result_roundOf, p_result_leftTags, p_result_leftGuests, p_result_leftPreferred, p_result_ranked⟩ := id p_result
  obtain ⟨p_odds_lt, p_odds_o, p_odds_sets, p_odds_seen, p_odds_atUnit, p_odds_early, p_odds_result⟩ := id p_odds
  obtain ⟨p_paper_lt, p_paper_o, p_paper_times, p_paper_firstWish, p_paper_dry, p_paper_list, p_paper_pool, p_paper_result⟩ := id p_paper
  obtain ⟨p_trial_lt, p_trial_o, p_trial_quota, p_trial_score, p_trial_guest, p_trial_party, p_trial_wishCount, p_trial_wishes, p_trial_has⟩ := id p_trial
  obtain ⟨p_trialPool_lt, p_trialPool_o, p_trialPool_quota, p_trialPool_preferred, p_trialPool_forGuests, p_trialPool_applicantOf, p_trialPool_size, p_trialPool_guestCount, p_trialPool_score, p_trialPool_tickets, p_trialPool_bits, p_trialPool_party, p_trialPool_wishCount, p_trialPool_wishes⟩ := id p_trialPool
  obtain ⟨p_trialResult_lt, p_trialResult_o, p_trialResult_line, p_trialResult_unitOf, p_trialResult_roundOf, p_trialResult_leftTags, p_trialResult_leftGuests, p_trialResult_leftPreferred, p_trialResult_ranked⟩ := id p_trialResult
  obtain ⟨p_trialOdds_lt, p_trialOdds_o, p_trialOdds_sets, p_trialOdds_seen, p_trialOdds_atUnit, p_trialOdds_early, p_trialOdds_result⟩ := id p_trialOdds
  unfold D_X7_refuse at h
  refine a_aload_n X dX7_refuse_0 rfl ?_
  refine a_iload_n X dX7_refuse_1 rfl ?_
  obtain ⟨M_2, f_2, h⟩ := zLtx h
  refine d_puti X lf7_88 (by assumption) rfl dX7_refuse_2 f_2 ?_
  refine a_iconst (v := -1) X dX7_refuse_5 (by decide) ?_
  refine a_iret X hr dX7_refuse_6 ⟨by decide, by decide⟩ ?_
  subst hF
  rw [← Option.some.inj h]
  exact ⟨rfl, rfl⟩
noncomputable def D_X7_answer (P : Nat) (v0 : Int32) (M : zMt) : Option (Int32 × zMt) :=
  zLt (zu M P 0 (0 : Int32)) fun M_2 =>
  some (v0, M_2)
set_option maxRecDepth 100000 in
set_option maxHeartbeats 4000000 in
theorem t_X7_answer {l : Launch} {G : zG} {b : Nat} {L : List zC} {M : zMt} {N : zNt} {P : Nat} {v0 : Int32} (hP : LX7 L P) {r : Int32 × zMt} (h : D_X7_answer P v0 M = some r) : zM l G b yX7_answer cX7_answer 2 (some .int) 0 0 0 [.ref P, .int v0] (L, M, N) (fun r2 z => r2 = some (.int r.1) ∧ z = (L, r.2, N)) := by
  refine zM.of miX7_answer (Nat.le_of_ble_eq_true rfl) ?_
  intro p e s m args below meth c X hr hname
  generalize hF : ((fun r2 z => r2 = some (.int r.1) ∧ z = (L, r.2, N)) : Option Value → zS → Prop) = FQ
  change Zw p l e { frames := 0, cells := 0, slots := 0, locals := 80 * (0) } s m args below meth c G b 2 (MQ below (zQ G b FQ) args s 0 0 (fun q : Nat => b ≤ q)) 0 0 0 [some (.ref P), some (.int v0)] [] (L, M, N)
  obtain ⟨p_lt, p_o, p_tape, p_out, p_reader, p_list, p_past, p_pool, p_result, p_odds, p_paper, p_trial, p_trialPool, p_trialResult, p_trialOdds⟩ := id hP
  obtain ⟨p_reader_lt, p_reader_o, p_reader_draft, p_reader_text, p_reader_unitNames, p_reader_hunterNames, p_reader_partyNames, p_reader_asked⟩ := id p_reader
  obtain ⟨p_list_lt, p_list_o, p_list_quota, p_list_score, p_list_guest, p_list_party, p_list_wishCount, p_list_wishes, p_list_has⟩ := id p_list
  obtain ⟨p_past_lt, p_past_o, p_past_stood, p_past_stood0, p_past_stood1, p_past_stood2, p_past_stood3, p_past_stood4, p_past_stood5, p_past_stood6, p_past_stood7⟩ := id p_past
  obtain ⟨p_pool_lt, p_pool_o, p_pool_quota, p_pool_preferred, p_pool_forGuests, p_pool_applicantOf, p_pool_size, p_pool_guestCount, p_pool_score, p_pool_tickets, p_pool_bits, p_pool_party, p_pool_wishCount, p_pool_wishes⟩ := id p_pool
  obtain ⟨p_result_lt, p_result_o, p_result_line, p_result_unitOf, p_result_roundOf, p_result_leftTags, p_result_leftGuests, p_result_leftPreferred, p_result_ranked⟩ := id p_result
  obtain ⟨p_odds_lt, p_odds_o, p_odds_sets, p_odds_seen, p_odds_atUnit, p_odds_early, p_odds_result⟩ := id p_odds
  obtain ⟨p_paper_lt, p_paper_o, p_paper_times, p_paper_firstWish, p_paper_dry, p_paper_list, p_paper_pool, p_paper_result⟩ := id p_paper
  obtain ⟨p_trial_lt, p_trial_o, p_trial_quota, p_trial_score, p_trial_guest, p_trial_party, p_trial_wishCount, p_trial_wishes, p_trial_has⟩ := id p_trial
  obtain ⟨p_trialPool_lt, p_trialPool_o, p_trialPool_quota, p_trialPool_preferred, p_trialPool_forGuests, p_trialPool_applicantOf, p_trialPool_size, p_trialPool_guestCount, p_trialPool_score, p_trialPool_tickets, p_trialPool_bits, p_trialPool_party, p_trialPool_wishCount, p_trialPool_wishes⟩ := id p_trialPool
  obtain ⟨p_trialResult_lt, p_trialResult_o, p_trialResult_line, p_trialResult_unitOf, p_trialResult_roundOf, p_trialResult_leftTags, p_trialResult_leftGuests, p_trialResult_leftPreferred, p_trialResult_ranked⟩ := id p_trialResult
  obtain ⟨p_trialOdds_lt, p_trialOdds_o, p_trialOdds_sets, p_trialOdds_seen, p_trialOdds_atUnit, p_trialOdds_early, p_trialOdds_result⟩ := id p_trialOdds
  unfold D_X7_answer at h
  refine a_aload_n X dX7_answer_0 rfl ?_
  refine a_iconst (v := 0) X dX7_answer_1 (by decide) ?_
  obtain ⟨M_2, f_2, h⟩ := zLtx h
  refine d_puti X lf7_88 (by assumption) rfl dX7_answer_2 f_2 ?_
  refine a_iload_n X dX7_answer_5 rfl ?_
  refine a_iret X hr dX7_answer_6 ⟨by decide, by decide⟩ ?_
  subst hF
  rw [← Option.some.inj h]
  exact ⟨rfl, rfl⟩
noncomputable def D_X7_changed (P : Nat) (v0 : Int32) (M : zMt) : Option (Int32 × zMt) :=
  zB (D_X2_gather (P + 91) (P + 17) M) fun e_8 =>
  zLt (zu e_8 P 3 (0 : Int32)) fun M_13 =>
  zB (D_X7_answer P v0 M_13) fun e_18 =>
  some (e_18.1, e_18.2)
set_option maxRecDepth 100000 in
set_option maxHeartbeats 4000000 in
theorem t_X7_changed {l : Launch} {G : zG} {b : Nat} {L : List zC} {M : zMt} {N : zNt} {P : Nat} {v0 : Int32} (hP : LX7 L P) {r : Int32 × zMt} (h : D_X7_changed P v0 M = some r) : zM l G b yX7_changed cX7_changed 2 (some .int) 3 0 0 [.ref P, .int v0] (L, M, N) (fun r2 z => r2 = some (.int r.1) ∧ z = (L, r.2, N)) := by
  refine zM.of miX7_changed (Nat.le_of_ble_eq_true rfl) ?_
  intro p e s m args below meth c X hr hname
  generalize hF : ((fun r2 z => r2 = some (.int r.1) ∧ z = (L, r.2, N)) : Option Value → zS → Prop) = FQ
  change Zw p l e { frames := 3, cells := 0, slots := 0, locals := 80 * (3) } s m args below meth c G b 2 (MQ below (zQ G b FQ) args s 0 0 (fun q : Nat => b ≤ q)) 0 0 0 [some (.ref P), some (.int v0)] [] (L, M, N)
  obtain ⟨p_lt, p_o, p_tape, p_out, p_reader, p_list, p_past, p_pool, p_result, p_odds, p_paper, p_trial, p_trialPool, p_trialResult, p_trialOdds⟩ := id hP
  obtain ⟨p_reader_lt, p_reader_o, p_reader_draft, p_reader_text, p_reader_unitNames, p_reader_hunterNames, p_reader_partyNames, p_reader_asked⟩ := id p_reader
  obtain ⟨p_list_lt, p_list_o, p_list_quota, p_list_score, p_list_guest, p_list_party, p_list_wishCount, p_list_wishes, p_list_has⟩ := id p_list
  obtain ⟨p_past_lt, p_past_o, p_past_stood, p_past_stood0, p_past_stood1, p_past_stood2, p_past_stood3, p_past_stood4, p_past_stood5, p_past_stood6, p_past_stood7⟩ := id p_past
  obtain ⟨p_pool_lt, p_pool_o, p_pool_quota, p_pool_preferred, p_pool_forGuests, p_pool_applicantOf, p_pool_size, p_pool_guestCount, p_pool_score, p_pool_tickets, p_pool_bits, p_pool_party, p_pool_wishCount, p_pool_wishes⟩ := id p_pool
  obtain ⟨p_result_lt, p_result_o, p_result_line, p_result_unitOf, p_result_roundOf, p_result_leftTags, p_result_leftGuests, p_result_leftPreferred, p_result_ranked⟩ := id p_result
  obtain ⟨p_odds_lt, p_odds_o, p_odds_sets, p_odds_seen, p_odds_atUnit, p_odds_early, p_odds_result⟩ := id p_odds
  obtain ⟨p_paper_lt, p_paper_o, p_paper_times, p_paper_firstWish, p_paper_dry, p_paper_list, p_paper_pool, p_paper_result⟩ := id p_paper
  obtain ⟨p_trial_lt, p_trial_o, p_trial_quota, p_trial_score, p_trial_guest, p_trial_party, p_trial_wishCount, p_trial_wishes, p_trial_has⟩ := id p_trial
  obtain ⟨p_trialPool_lt, p_trialPool_o, p_trialPool_quota, p_trialPool_preferred, p_trialPool_forGuests, p_trialPool_applicantOf, p_trialPool_size, p_trialPool_guestCount, p_trialPool_score, p_trialPool_tickets, p_trialPool_bits, p_trialPool_party, p_trialPool_wishCount, p_trialPool_wishes⟩ := id p_trialPool
  obtain ⟨p_trialResult_lt, p_trialResult_o, p_trialResult_line, p_trialResult_unitOf, p_trialResult_roundOf, p_trialResult_leftTags, p_trialResult_leftGuests, p_trialResult_leftPreferred, p_trialResult_ranked⟩ := id p_trialResult
  obtain ⟨p_trialOdds_lt, p_trialOdds_o, p_trialOdds_sets, p_trialOdds_seen, p_trialOdds_atUnit, p_trialOdds_early, p_trialOdds_result⟩ := id p_trialOdds
  unfold D_X7_changed at h
  refine a_aload_n X dX7_changed_0 rfl ?_
  refine a_getr X lf7_40 (by assumption) rfl (by omega) dX7_changed_1 ?_
  refine a_aload_n X dX7_changed_4 rfl ?_
  refine a_getr X lf7_26 (by assumption) rfl (by omega) dX7_changed_5 ?_
  obtain ⟨e_8, f_8, h⟩ := zBx h
  refine a_callVu X dX7_changed_8 miX2_gather lm7_80 (t_X2_gather (by assumption) (by assumption) f_8) (by assumption) rfl rfl rfl (Nat.le_of_ble_eq_true rfl) ⟨by decide, by decide, by decide, by decide⟩ ?_
  refine a_aload_n X dX7_changed_11 rfl ?_
  refine a_iconst (v := 0) X dX7_changed_12 (by decide) ?_
  obtain ⟨M_13, f_13, h⟩ := zLtx h
  refine d_putz X (by first | exact Or.inl rfl | exact Or.inr rfl | assumption) lf7_368 (by assumption) rfl dX7_changed_13 f_13 ?_
  refine a_aload_n X dX7_changed_16 rfl ?_
  refine a_iload_n X dX7_changed_17 rfl ?_
  obtain ⟨e_18, f_18, h⟩ := zBx h
  refine a_callVv X dX7_changed_18 miX7_answer lm7_134 (t_X7_answer (by assumption) f_18) (by assumption) rfl rfl rfl (Nat.le_of_ble_eq_true rfl) ⟨by decide, by decide, by decide, by decide⟩ ?_
  refine a_iret X hr dX7_changed_21 ⟨by decide, by decide⟩ ?_
  subst hF
  rw [← Option.some.inj h]
  exact ⟨rfl, rfl⟩
noncomputable def D_X7_load_12 (P : Nat) (M_12 : zMt) (N_12 : zNt) : Option (Int32 × zMt × zNt) :=
  zB (D_X7_refuse P (1 : Int32) M_12) fun e_14 =>
  some (e_14.1, e_14.2, N_12)
noncomputable def D_X7_load (P : Nat) (v0 : Int32) (M : zMt) (N : zNt) : Option (Int32 × zMt × zNt) :=
  if v0 < 0 then
    D_X7_load_12 P M N
  else
    if v0 ≤ (M P 1) then
      zB (D_X3_read (P + 3) (P + 1) 700 v0 M N) fun e_27 =>
      zLt (zu e_27.2.1 P 1 (0 : Int32)) fun M_33 =>
      if e_27.1 = 0 then
        zB (D_X7_refuse P (9 : Int32) M_33) fun e_43 =>
        some (e_43.1, e_43.2, e_27.2.2)
      else
        zB (D_X4_take (P + 17) (P + 4) M_33) fun e_58 =>
        zB (D_X1_forget (P + 25) e_58) fun e_65 =>
        zB (D_X7_changed P (e_65 (P + 17) 1) e_65) fun e_76 =>
        some (e_76.1, e_76.2, e_27.2.2)
    else
      D_X7_load_12 P M N
set_option maxRecDepth 100000 in
set_option maxHeartbeats 4000000 in
theorem t_X7_load {l : Launch} {G : zG} {b : Nat} {L : List zC} {M : zMt} {N : zNt} {P : Nat} {v0 : Int32} (hP : LX7 L P) {r : Int32 × zMt × zNt} (h : D_X7_load P v0 M N = some r) : zM l G b yX7_load cX7_load 3 (some .int) 10 0 0 [.ref P, .int v0] (L, M, N) (fun r2 z => r2 = some (.int r.1) ∧ z = (L, r.2.1, r.2.2)) := by
  refine zM.of miX7_load (Nat.le_of_ble_eq_true rfl) ?_
  intro p e s m args below meth c X hr hname
  generalize hF : ((fun r2 z => r2 = some (.int r.1) ∧ z = (L, r.2.1, r.2.2)) : Option Value → zS → Prop) = FQ
  change Zw p l e { frames := 10, cells := 0, slots := 0, locals := 80 * (10) } s m args below meth c G b 3 (MQ below (zQ G b FQ) args s 0 0 (fun q : Nat => b ≤ q)) 0 0 0 [some (.ref P), some (.int v0), none] [] (L, M, N)
  obtain ⟨p_lt, p_o, p_tape, p_out, p_reader, p_list, p_past, p_pool, p_result, p_odds, p_paper, p_trial, p_trialPool, p_trialResult, p_trialOdds⟩ := id hP
  obtain ⟨p_reader_lt, p_reader_o, p_reader_draft, p_reader_text, p_reader_unitNames, p_reader_hunterNames, p_reader_partyNames, p_reader_asked⟩ := id p_reader
  obtain ⟨p_list_lt, p_list_o, p_list_quota, p_list_score, p_list_guest, p_list_party, p_list_wishCount, p_list_wishes, p_list_has⟩ := id p_list
  obtain ⟨p_past_lt, p_past_o, p_past_stood, p_past_stood0, p_past_stood1, p_past_stood2, p_past_stood3, p_past_stood4, p_past_stood5, p_past_stood6, p_past_stood7⟩ := id p_past
  obtain ⟨p_pool_lt, p_pool_o, p_pool_quota, p_pool_preferred, p_pool_forGuests, p_pool_applicantOf, p_pool_size, p_pool_guestCount, p_pool_score, p_pool_tickets, p_pool_bits, p_pool_party, p_pool_wishCount, p_pool_wishes⟩ := id p_pool
  obtain ⟨p_result_lt, p_result_o, p_result_line, p_result_unitOf, p_result_roundOf, p_result_leftTags, p_result_leftGuests, p_result_leftPreferred, p_result_ranked⟩ := id p_result
  obtain ⟨p_odds_lt, p_odds_o, p_odds_sets, p_odds_seen, p_odds_atUnit, p_odds_early, p_odds_result⟩ := id p_odds
  obtain ⟨p_paper_lt, p_paper_o, p_paper_times, p_paper_firstWish, p_paper_dry, p_paper_list, p_paper_pool, p_paper_result⟩ := id p_paper
  obtain ⟨p_trial_lt, p_trial_o, p_trial_quota, p_trial_score, p_trial_guest, p_trial_party, p_trial_wishCount, p_trial_wishes, p_trial_has⟩ := id p_trial
  obtain ⟨p_trialPool_lt, p_trialPool_o, p_trialPool_quota, p_trialPool_preferred, p_trialPool_forGuests, p_trialPool_applicantOf, p_trialPool_size, p_trialPool_guestCount, p_trialPool_score, p_trialPool_tickets, p_trialPool_bits, p_trialPool_party, p_trialPool_wishCount, p_trialPool_wishes⟩ := id p_trialPool
  obtain ⟨p_trialResult_lt, p_trialResult_o, p_trialResult_line, p_trialResult_unitOf, p_trialResult_roundOf, p_trialResult_leftTags, p_trialResult_leftGuests, p_trialResult_leftPreferred, p_trialResult_ranked⟩ := id p_trialResult
  obtain ⟨p_trialOdds_lt, p_trialOdds_o, p_trialOdds_sets, p_trialOdds_seen, p_trialOdds_atUnit, p_trialOdds_early, p_trialOdds_result⟩ := id p_trialOdds
  have J_12 : ∀ (x1_12 : Int32) (x2_12 : Option Value) (M_12 : zMt) (N_12 : zNt), D_X7_load_12 P M_12 N_12 = some r → Zw p l e { frames := 10, cells := 0, slots := 0, locals := 80 * (10) } s m args below meth c G b 3 (MQ below (zQ G b FQ) args s 0 0 (fun q : Nat => b ≤ q)) 0 0 12 [some (.ref (P)), some (.int x1_12), x2_12] [] (L, M_12, N_12) := by
    intro x1_12 x2_12 M_12 N_12 h
    unfold D_X7_load_12 at h
    refine a_aload_n X dX7_load_12 rfl ?_
    refine a_iconst (v := 1) X dX7_load_13 (by decide) ?_
    obtain ⟨e_14, f_14, h⟩ := zBx h
    refine a_callVv X dX7_load_14 miX7_refuse lm7_102 (t_X7_refuse (by assumption) f_14) (by assumption) rfl rfl rfl (Nat.le_of_ble_eq_true rfl) ⟨by decide, by decide, by decide, by decide⟩ ?_
    refine a_iret X hr dX7_load_17 ⟨by decide, by decide⟩ ?_
    subst hF
    rw [← Option.some.inj h]
    exact ⟨rfl, rfl⟩
  unfold D_X7_load at h
  refine a_iload_n X dX7_load_0 rfl ?_
  refine a_if_lt (tgt := 12) X dX7_load_1 (by decide) (fun h_1 => ?_) (fun h_1 => ?_)
  · replace h := (if_pos h_1).symm.trans h
    exact Zw.to2 (J_12 _ _ _ _ h) rfl rfl rfl
  · replace h := (if_neg h_1).symm.trans h
    refine a_iload_n X dX7_load_4 rfl ?_
    refine a_aload_n X dX7_load_5 rfl ?_
    refine a_geti X lf7_91 (by assumption) rfl dX7_load_6 ?_
    refine a_icmp_le (tgt := 18) X dX7_load_9 (by decide) (fun h_9 => ?_) (fun h_9 => ?_)
    · replace h := (if_pos h_9).symm.trans h
      refine a_aload_n X dX7_load_18 rfl ?_
      refine a_getr X lf7_19 (by assumption) rfl (by omega) dX7_load_19 ?_
      refine a_aload_n X dX7_load_22 rfl ?_
      refine a_getr X lf7_9 (by assumption) rfl (by omega) dX7_load_23 ?_
      refine a_iload_n X dX7_load_26 rfl ?_
      obtain ⟨e_27, f_27, h⟩ := zBx h
      refine a_callVx X dX7_load_27 miX3_read lm7_106 (t_X3_read (by assumption) (by assumption) (by first | decide | assumption) (by omega) f_27) (by assumption) rfl rfl rfl (Nat.le_of_ble_eq_true rfl) ⟨by decide, by decide, by decide, by decide⟩ (fun r_27 S_27 q_27 => ?_)
      obtain ⟨rfl, rfl, b_27⟩ := q_27
      refine a_istore_n X dX7_load_30 (by decide) ?_
      refine a_aload_n X dX7_load_31 rfl ?_
      refine a_iconst (v := 0) X dX7_load_32 (by decide) ?_
      obtain ⟨M_33, f_33, h⟩ := zLtx h
      refine d_puti X lf7_91 (by assumption) rfl dX7_load_33 f_33 ?_
      refine a_iload_n X dX7_load_36 rfl ?_
      refine a_if_ne (tgt := 47) X dX7_load_37 (by decide) (fun h_37 => ?_) (fun h_37 => ?_)
      · replace h := (if_neg h_37).symm.trans h
        refine a_aload_n X dX7_load_47 rfl ?_
        refine a_getr X lf7_26 (by assumption) rfl (by omega) dX7_load_48 ?_
        refine a_aload_n X dX7_load_51 rfl ?_
        refine a_getr X lf7_19 (by assumption) rfl (by omega) dX7_load_52 ?_
        refine a_getr X lf7_110 (by assumption) rfl (by omega) dX7_load_55 ?_
        obtain ⟨e_58, f_58, h⟩ := zBx h
        refine a_callVu X dX7_load_58 miX4_take lm7_113 (t_X4_take (by assumption) (by assumption) (by omega) f_58) (by assumption) rfl rfl rfl (Nat.le_of_ble_eq_true rfl) ⟨by decide, by decide, by decide, by decide⟩ ?_
        refine a_aload_n X dX7_load_61 rfl ?_
        refine a_getr X lf7_33 (by assumption) rfl (by omega) dX7_load_62 ?_
        obtain ⟨e_65, f_65, h⟩ := zBx h
        refine a_callVu X dX7_load_65 miX1_forget lm7_116 (t_X1_forget (by assumption) f_65) (by assumption) rfl rfl rfl (Nat.le_of_ble_eq_true rfl) ⟨by decide, by decide, by decide, by decide⟩ ?_
        refine a_aload_n X dX7_load_68 rfl ?_
        refine a_aload_n X dX7_load_69 rfl ?_
        refine a_getr X lf7_26 (by assumption) rfl (by omega) dX7_load_70 ?_
        refine a_geti X lf7_119 (by assumption) rfl dX7_load_73 ?_
        obtain ⟨e_76, f_76, h⟩ := zBx h
        refine a_callVv X dX7_load_76 miX7_changed lm7_122 (t_X7_changed (by assumption) f_76) (by assumption) rfl rfl rfl (Nat.le_of_ble_eq_true rfl) ⟨by decide, by decide, by decide, by decide⟩ ?_
        refine a_iret X hr dX7_load_79 ⟨by decide, by decide⟩ ?_
        subst hF
        rw [← Option.some.inj h]
        exact ⟨rfl, rfl⟩
      · replace h := (if_pos h_37).symm.trans h
        refine a_aload_n X dX7_load_40 rfl ?_
        refine a_bipush (v := 9) X dX7_load_41 (by decide) ?_
        obtain ⟨e_43, f_43, h⟩ := zBx h
        refine a_callVv X dX7_load_43 miX7_refuse lm7_102 (t_X7_refuse (by assumption) f_43) (by assumption) rfl rfl rfl (Nat.le_of_ble_eq_true rfl) ⟨by decide, by decide, by decide, by decide⟩ ?_
        refine a_iret X hr dX7_load_46 ⟨by decide, by decide⟩ ?_
        subst hF
        rw [← Option.some.inj h]
        exact ⟨rfl, rfl⟩
    · replace h := (if_neg h_9).symm.trans h
      exact Zw.to2 (J_12 _ _ _ _ h) rfl rfl rfl
