noncomputable def D_X3_asker_116 (Q : Nat) (M : zMt) (N : zNt) (x3_116 : Int32) : Option (Int32) :=
  some (x3_116)
noncomputable def D_X3_asker_110 (Q : Nat) (M : zMt) (N : zNt) (k55 : Int32 → Int32 → Int32 → Option (Int32)) (x2_110 : Int32) (x3_110 : Int32) (x4_110 : Int32) : Option (Int32) :=
  k55 x2_110 x3_110 (x4_110 + 1)
noncomputable def D_X3_asker_55 (Q : Nat) (M : zMt) (N : zNt) : Nat → Int32 → Int32 → Int32 → Option (Int32)
  | 0, _, _, _ => none
  | n + 1, x2_55, x3_55, x4_55 =>
    if x2_55 = (-1 : Int32) then
      D_X3_asker_116 Q M N x3_55
    else
      if (M (Q + 1) 1) ≤ x4_55 then
        D_X3_asker_116 Q M N x3_55
      else
        if (zrd 0 (M (Q + 5)) 10 x4_55) = x2_55 then
          if (zrd 0 (M (Q + 6)) 10 x4_55) = 0 then
            D_X3_asker_110 Q M N (D_X3_asker_55 Q M N n) x2_55 (x3_55 ||| ((1 : Int32) <<< (x4_55 &&& 31))) x4_55
          else
            D_X3_asker_110 Q M N (D_X3_asker_55 Q M N n) x2_55 x3_55 x4_55
        else
          D_X3_asker_110 Q M N (D_X3_asker_55 Q M N n) x2_55 x3_55 x4_55
noncomputable def D_X3_asker (Q : Nat) (M : zMt) (N : zNt)  : Option (Int32) :=
  zB (D_X3_find (Q + 11) 10 N (M (Q + 1) 1) (N Q 8)) fun e_15 =>
  zB (D_X3_isFree Q M e_15) fun e_21 =>
  if e_21 = 0 then
    zB (D_X3_find (Q + 12) 4 N (M (Q + 1) 2) (N Q 8)) fun e_46 =>
    D_X3_asker_55 Q M N zFu e_46 (0 : Int32) (0 : Int32)
  else
    some (((1 : Int32) <<< (e_15 &&& 31)))
set_option maxRecDepth 100000 in
set_option maxHeartbeats 4000000 in
theorem t_X3_asker {l : Launch} {G : zG} {b : Nat} {L : List zC} {M : zMt} {N : zNt} {Q : Nat} (hQ : LX3 L Q)  {r : Int32} (h : D_X3_asker Q M N = some r) : zM l G b yX3_asker cX3_asker 5 (some .int) 2 0 0 [.ref Q] (L, M, N) (fun r2 z => r2 = some (.int r) ∧ z = (L, M, N)) := by
  refine zM.of miX3_asker (Nat.le_of_ble_eq_true rfl) ?_
  intro p e s m args below meth c X hr hname
  generalize hF : ((fun r2 z => r2 = some (.int r) ∧ z = (L, M, N)) : Option Value → zS → Prop) = FQ
  change Zw p l e { frames := 2, cells := 0, slots := 0, locals := 80 * (2) } s m args below meth c G b 5 (MQ below (zQ G b FQ) args s 0 0 (fun q : Nat => b ≤ q)) 0 0 0 [some (.ref Q), none, none, none, none] [] (L, M, N)
  obtain ⟨q_lt, q_o, q_draft, q_text, q_unitNames, q_hunterNames, q_partyNames, q_asked⟩ := id hQ
  obtain ⟨q_draft_lt, q_draft_o, q_draft_quota, q_draft_score, q_draft_guest, q_draft_party, q_draft_wishCount, q_draft_wishes, q_draft_has⟩ := id q_draft
  have J_116 : ∀ (x1_116 : Int32) (x2_116 : Int32) (x3_116 : Int32) (x4_116 : Int32), D_X3_asker_116 Q M N x3_116 = some r → Zw p l e { frames := 2, cells := 0, slots := 0, locals := 80 * (2) } s m args below meth c G b 5 (MQ below (zQ G b FQ) args s 0 0 (fun q : Nat => b ≤ q)) 0 0 116 [some (.ref (Q)), some (.int x1_116), some (.int x2_116), some (.int x3_116), some (.int x4_116)] [] (L, M, N) := by
    intro x1_116 x2_116 x3_116 x4_116 h
    unfold D_X3_asker_116 at h
    refine a_iload_n X dX3_asker_116 rfl ?_
    refine a_iret X hr dX3_asker_117 ⟨by decide, by decide⟩ ?_
    subst hF
    rw [← Option.some.inj h]
    exact ⟨rfl, rfl⟩
  have L_55 : ∀ u : Nat, ∀ (x1_55 : Int32) (x2_55 : Int32) (x3_55 : Int32) (x4_55 : Int32), D_X3_asker_55 Q M N u x2_55 x3_55 x4_55 = some r → Zw p l e { frames := 2, cells := 0, slots := 0, locals := 80 * (2) } s m args below meth c G b 5 (MQ below (zQ G b FQ) args s 0 0 (fun q : Nat => b ≤ q)) 0 0 55 [some (.ref (Q)), some (.int x1_55), some (.int x2_55), some (.int x3_55), some (.int x4_55)] [] (L, M, N) := by
    intro u
    induction u with
    | zero => intro x1_55 x2_55 x3_55 x4_55 h; cases (show none = some r from h)
    | succ u_55 ih_55 =>
      have J_110 : ∀ (x1_110 : Int32) (x2_110 : Int32) (x3_110 : Int32) (x4_110 : Int32), D_X3_asker_110 Q M N (D_X3_asker_55 Q M N u_55) x2_110 x3_110 x4_110 = some r → Zw p l e { frames := 2, cells := 0, slots := 0, locals := 80 * (2) } s m args below meth c G b 5 (MQ below (zQ G b FQ) args s 0 0 (fun q : Nat => b ≤ q)) 0 0 110 [some (.ref (Q)), some (.int x1_110), some (.int x2_110), some (.int x3_110), some (.int x4_110)] [] (L, M, N) := by
        intro x1_110 x2_110 x3_110 x4_110 h
        unfold D_X3_asker_110 at h
        refine a_iinc (v := x4_110 + 1) X dX3_asker_110 (by decide) rfl zi_1 ?_
        refine a_goto (tgt := 55) X dX3_asker_113 (by decide) ?_
        exact Zw.to2 (ih_55 _ _ _ _ h) rfl rfl rfl
      intro x1_55 x2_55 x3_55 x4_55 h
      rw [D_X3_asker_55] at h
      refine a_iload_n X dX3_asker_55 rfl ?_
      refine a_iconst (v := -1) X dX3_asker_56 (by decide) ?_
      refine a_icmp_eq (tgt := 116) X dX3_asker_57 (by decide) (fun h_57 => ?_) (fun h_57 => ?_)
      · replace h := (if_pos h_57).symm.trans h
        exact Zw.to2 (J_116 _ _ _ _ h) rfl rfl rfl
      · replace h := (if_neg h_57).symm.trans h
        refine a_iload X dX3_asker_60 rfl ?_
        refine a_aload_n X dX3_asker_62 rfl ?_
        refine a_getr X lf3_12 (by assumption) rfl (by omega) dX3_asker_63 ?_
        refine a_geti X lf3_151 (by assumption) rfl dX3_asker_66 ?_
        refine a_icmp_ge (tgt := 116) X dX3_asker_69 (by decide) (fun h_69 => ?_) (fun h_69 => ?_)
        · replace h := (if_pos h_69).symm.trans h
          exact Zw.to2 (J_116 _ _ _ _ h) rfl rfl rfl
        · replace h := (if_neg h_69).symm.trans h
          refine a_aload_n X dX3_asker_72 rfl ?_
          refine a_getr X lf3_12 (by assumption) rfl (by omega) dX3_asker_73 ?_
          refine a_getr X lf3_250 (by assumption) rfl (by omega) dX3_asker_76 ?_
          refine a_iload X dX3_asker_79 rfl ?_
          refine a_callSNv X dX3_asker_81 miX7_cell lm3_81 (c_cell (by assumption) (by first | decide | assumption)) rfl rfl (Nat.le_of_ble_eq_true rfl) ⟨by decide, by decide, by decide, by decide⟩ ?_
          refine a_iload_n X dX3_asker_84 rfl ?_
          refine a_icmp_ne (tgt := 110) X dX3_asker_85 (by decide) (fun h_85 => ?_) (fun h_85 => ?_)
          · replace h := (if_neg h_85).symm.trans h
            exact Zw.to2 (J_110 _ _ _ _ h) rfl rfl rfl
          · replace h := (if_pos h_85).symm.trans h
            refine a_aload_n X dX3_asker_88 rfl ?_
            refine a_getr X lf3_12 (by assumption) rfl (by omega) dX3_asker_89 ?_
            refine a_getr X lf3_252 (by assumption) rfl (by omega) dX3_asker_92 ?_
            refine a_iload X dX3_asker_95 rfl ?_
            refine a_callSNv X dX3_asker_97 miX7_cell lm3_81 (c_cell (by assumption) (by first | decide | assumption)) rfl rfl (Nat.le_of_ble_eq_true rfl) ⟨by decide, by decide, by decide, by decide⟩ ?_
            refine a_if_ne (tgt := 110) X dX3_asker_100 (by decide) (fun h_100 => ?_) (fun h_100 => ?_)
            · replace h := (if_neg h_100).symm.trans h
              exact Zw.to2 (J_110 _ _ _ _ h) rfl rfl rfl
            · replace h := (if_pos h_100).symm.trans h
              refine a_iload_n X dX3_asker_103 rfl ?_
              refine a_iconst (v := 1) X dX3_asker_104 (by decide) ?_
              refine a_iload X dX3_asker_105 rfl ?_
              refine a_ishl X dX3_asker_107 ?_
              refine a_ior X dX3_asker_108 ?_
              refine a_istore_n X dX3_asker_109 (by decide) ?_
              exact Zw.to2 (J_110 _ _ _ _ h) rfl rfl rfl
  have H_55 : ∀ (x1_55 : Int32) (x2_55 : Int32) (x3_55 : Int32) (x4_55 : Int32), D_X3_asker_55 Q M N zFu x2_55 x3_55 x4_55 = some r → Zw p l e { frames := 2, cells := 0, slots := 0, locals := 80 * (2) } s m args below meth c G b 5 (MQ below (zQ G b FQ) args s 0 0 (fun q : Nat => b ≤ q)) 0 0 55 [some (.ref (Q)), some (.int x1_55), some (.int x2_55), some (.int x3_55), some (.int x4_55)] [] (L, M, N) := L_55 zFu
  unfold D_X3_asker at h
  refine a_aload_n X dX3_asker_0 rfl ?_
  refine a_getr X lf3_33 (by assumption) rfl (by omega) dX3_asker_1 ?_
  refine a_aload_n X dX3_asker_4 rfl ?_
  refine a_getr X lf3_12 (by assumption) rfl (by omega) dX3_asker_5 ?_
  refine a_geti X lf3_151 (by assumption) rfl dX3_asker_8 ?_
  refine a_aload_n X dX3_asker_11 rfl ?_
  refine a_getl X lf3_104 (by assumption) rfl dX3_asker_12 ?_
  obtain ⟨e_15, f_15, h⟩ := zBx h
  refine a_callSv X dX3_asker_15 miX3_find lm3_202 (t_X3_find (by assumption) (by first | decide | assumption) f_15) rfl rfl (Nat.le_of_ble_eq_true rfl) ⟨by decide, by decide, by decide, by decide⟩ ?_
  refine a_istore_n X dX3_asker_18 (by decide) ?_
  refine a_aload_n X dX3_asker_19 rfl ?_
  refine a_iload_n X dX3_asker_20 rfl ?_
  obtain ⟨e_21, f_21, h⟩ := zBx h
  refine a_callVx X dX3_asker_21 miX3_isFree lm3_206 (t_X3_isFree (by assumption) f_21) (by assumption) rfl rfl rfl (Nat.le_of_ble_eq_true rfl) ⟨by decide, by decide, by decide, by decide⟩ (fun r_21 S_21 q_21 => ?_)
  obtain ⟨rfl, rfl, b_21⟩ := q_21
  refine a_if_eq (tgt := 31) X dX3_asker_24 (by decide) (fun h_24 => ?_) (fun h_24 => ?_)
  · replace h := (if_pos h_24).symm.trans h
    refine a_aload_n X dX3_asker_31 rfl ?_
    refine a_getr X lf3_36 (by assumption) rfl (by omega) dX3_asker_32 ?_
    refine a_aload_n X dX3_asker_35 rfl ?_
    refine a_getr X lf3_12 (by assumption) rfl (by omega) dX3_asker_36 ?_
    refine a_geti X lf3_157 (by assumption) rfl dX3_asker_39 ?_
    refine a_aload_n X dX3_asker_42 rfl ?_
    refine a_getl X lf3_104 (by assumption) rfl dX3_asker_43 ?_
    obtain ⟨e_46, f_46, h⟩ := zBx h
    refine a_callSv X dX3_asker_46 miX3_find lm3_202 (t_X3_find (by assumption) (by first | decide | assumption) f_46) rfl rfl (Nat.le_of_ble_eq_true rfl) ⟨by decide, by decide, by decide, by decide⟩ ?_
    refine a_istore_n X dX3_asker_49 (by decide) ?_
    refine a_iconst (v := 0) X dX3_asker_50 (by decide) ?_
    refine a_istore_n X dX3_asker_51 (by decide) ?_
    refine a_iconst (v := 0) X dX3_asker_52 (by decide) ?_
    refine a_istore X dX3_asker_53 (by decide) ?_
    exact Zw.to2 (H_55 _ _ _ _ h) rfl rfl rfl
  · replace h := (if_neg h_24).symm.trans h
    refine a_iconst (v := 1) X dX3_asker_27 (by decide) ?_
    refine a_iload_n X dX3_asker_28 rfl ?_
    refine a_ishl X dX3_asker_29 ?_
    refine a_iret X hr dX3_asker_30 ⟨by decide, by decide⟩ ?_
    subst hF
    rw [← Option.some.inj h]
    exact ⟨rfl, rfl⟩
noncomputable def D_X4_wishFor_109 (Q : Nat) (k38 : Int32 → Int32 → Int32 → Int32 → Int32 → Int32 → zMt → Option (zMt)) (x1_109 : Int32) (x2_109 : Int32) (x3_109 : Int32) (x4_109 : Int32) (x5_109 : Int32) (x6_109 : Int32) (M_109 : zMt) : Option (zMt) :=
  k38 x1_109 x2_109 x3_109 x4_109 x5_109 (x6_109 + 1) M_109
noncomputable def D_X4_wishFor_38 (Q : Nat) : Nat → Int32 → Int32 → Int32 → Int32 → Int32 → Int32 → zMt → Option (zMt)
  | 0, _, _, _, _, _, _, _ => none
  | n + 1, x1_38, x2_38, x3_38, x4_38, x5_38, x6_38, M_38 =>
    if (M_38 Q 1) ≤ x6_38 then
      some (M_38)
    else
      if ((x1_38 >>> (x6_38 &&& 31)) &&& (1 : Int32)) = (1 : Int32) then
        zLt (zwr M_38 (Q + 5) 10 x6_38 x5_38) fun M_65 =>
        zLt (zwr M_65 (Q + 6) 30 (x6_38 * (3 : Int32)) x2_38) fun M_77 =>
        zLt (zwr M_77 (Q + 6) 30 ((x6_38 * (3 : Int32)) + (1 : Int32)) x3_38) fun M_91 =>
        zLt (zwr M_91 (Q + 6) 30 ((x6_38 * (3 : Int32)) + (2 : Int32)) x4_38) fun M_106 =>
        D_X4_wishFor_109 Q (D_X4_wishFor_38 Q n) x1_38 x2_38 x3_38 x4_38 x5_38 x6_38 M_106
      else
        D_X4_wishFor_109 Q (D_X4_wishFor_38 Q n) x1_38 x2_38 x3_38 x4_38 x5_38 x6_38 M_38
noncomputable def D_X4_wishFor_32 (Q : Nat) (x1_32 : Int32) (x2_32 : Int32) (x3_32 : Int32) (x4_32 : Int32) (y0_32 : Int32) (y1_32 : Int32) (M_32 : zMt) : Option (zMt) :=
  D_X4_wishFor_38 Q zFu x1_32 x2_32 x3_32 x4_32 (y0_32 + y1_32) (0 : Int32) M_32
noncomputable def D_X4_wishFor_20 (Q : Nat) (x1_20 : Int32) (x2_20 : Int32) (x3_20 : Int32) (x4_20 : Int32) (y0_20 : Int32) (y1_20 : Int32) (M_20 : zMt) : Option (zMt) :=
  if x4_20 = (-1 : Int32) then
    D_X4_wishFor_32 Q x1_20 x2_20 x3_20 x4_20 (y0_20 + y1_20) (0 : Int32) M_20
  else
    D_X4_wishFor_32 Q x1_20 x2_20 x3_20 x4_20 (y0_20 + y1_20) (1 : Int32) M_20
noncomputable def D_X4_wishFor_10 (Q : Nat) (x1_10 : Int32) (x2_10 : Int32) (x3_10 : Int32) (x4_10 : Int32) (y0_10 : Int32) (M_10 : zMt) : Option (zMt) :=
  if x3_10 = (-1 : Int32) then
    D_X4_wishFor_20 Q x1_10 x2_10 x3_10 x4_10 y0_10 (0 : Int32) M_10
  else
    D_X4_wishFor_20 Q x1_10 x2_10 x3_10 x4_10 y0_10 (1 : Int32) M_10
noncomputable def D_X4_wishFor (Q : Nat) (v0 : Int32) (v1 : Int32) (v2 : Int32) (v3 : Int32) (M : zMt) : Option (zMt) :=
  if v1 = (-1 : Int32) then
    D_X4_wishFor_10 Q v0 v1 v2 v3 (0 : Int32) M
  else
    D_X4_wishFor_10 Q v0 v1 v2 v3 (1 : Int32) M
set_option maxRecDepth 100000 in
set_option maxHeartbeats 4000000 in
theorem t_X4_wishFor {l : Launch} {G : zG} {b : Nat} {L : List zC} {M : zMt} {N : zNt} {Q : Nat} (hQ : LX4 L Q) {v0 : Int32} {v1 : Int32} {v2 : Int32} {v3 : Int32} {r : zMt} (h : D_X4_wishFor Q v0 v1 v2 v3 M = some r) : zM l G b yX4_wishFor cX4_wishFor 7 none 1 0 0 [.ref Q, .int v0, .int v1, .int v2, .int v3] (L, M, N) (fun r2 z => r2 = none ∧ z = (L, r, N)) := by
  refine zM.of miX4_wishFor (Nat.le_of_ble_eq_true rfl) ?_
  intro p e s m args below meth c X hr hname
  generalize hF : ((fun r2 z => r2 = none ∧ z = (L, r, N)) : Option Value → zS → Prop) = FQ
  change Zw p l e { frames := 1, cells := 0, slots := 0, locals := 80 * (1) } s m args below meth c G b 7 (MQ below (zQ G b FQ) args s 0 0 (fun q : Nat => b ≤ q)) 0 0 0 [some (.ref Q), some (.int v0), some (.int v1), some (.int v2), some (.int v3), none, none] [] (L, M, N)
  obtain ⟨q_lt, q_o, q_quota, q_score, q_guest, q_party, q_wishCount, q_wishes, q_has⟩ := id hQ
  have L_38 : ∀ u : Nat, ∀ (x1_38 : Int32) (x2_38 : Int32) (x3_38 : Int32) (x4_38 : Int32) (x5_38 : Int32) (x6_38 : Int32) (M_38 : zMt), D_X4_wishFor_38 Q u x1_38 x2_38 x3_38 x4_38 x5_38 x6_38 M_38 = some r → Zw p l e { frames := 1, cells := 0, slots := 0, locals := 80 * (1) } s m args below meth c G b 7 (MQ below (zQ G b FQ) args s 0 0 (fun q : Nat => b ≤ q)) 0 0 38 [some (.ref (Q)), some (.int x1_38), some (.int x2_38), some (.int x3_38), some (.int x4_38), some (.int x5_38), some (.int x6_38)] [] (L, M_38, N) := by
    intro u
    induction u with
    | zero => intro x1_38 x2_38 x3_38 x4_38 x5_38 x6_38 M_38 h; cases (show none = some r from h)
    | succ u_38 ih_38 =>
      have J_109 : ∀ (x1_109 : Int32) (x2_109 : Int32) (x3_109 : Int32) (x4_109 : Int32) (x5_109 : Int32) (x6_109 : Int32) (M_109 : zMt), D_X4_wishFor_109 Q (D_X4_wishFor_38 Q u_38) x1_109 x2_109 x3_109 x4_109 x5_109 x6_109 M_109 = some r → Zw p l e { frames := 1, cells := 0, slots := 0, locals := 80 * (1) } s m args below meth c G b 7 (MQ below (zQ G b FQ) args s 0 0 (fun q : Nat => b ≤ q)) 0 0 109 [some (.ref (Q)), some (.int x1_109), some (.int x2_109), some (.int x3_109), some (.int x4_109), some (.int x5_109), some (.int x6_109)] [] (L, M_109, N) := by
        intro x1_109 x2_109 x3_109 x4_109 x5_109 x6_109 M_109 h
        unfold D_X4_wishFor_109 at h
        refine a_iinc (v := x6_109 + 1) X dX4_wishFor_109 (by decide) rfl zi_1 ?_
        refine a_goto (tgt := 38) X dX4_wishFor_112 (by decide) ?_
        exact Zw.to2 (ih_38 _ _ _ _ _ _ _ h) rfl rfl rfl
      intro x1_38 x2_38 x3_38 x4_38 x5_38 x6_38 M_38 h
      rw [D_X4_wishFor_38] at h
      refine a_iload X dX4_wishFor_38 rfl ?_
      refine a_aload_n X dX4_wishFor_40 rfl ?_
      refine a_geti X lf4_37 (by assumption) rfl dX4_wishFor_41 ?_
      refine a_icmp_ge (tgt := 115) X dX4_wishFor_44 (by decide) (fun h_44 => ?_) (fun h_44 => ?_)
      · replace h := (if_pos h_44).symm.trans h
        refine a_vret X hr dX4_wishFor_115 ⟨by decide, by decide⟩ ?_
        subst hF
        rw [← Option.some.inj h]
        exact ⟨rfl, rfl⟩
      · replace h := (if_neg h_44).symm.trans h
        refine a_iload_n X dX4_wishFor_47 rfl ?_
        refine a_iload X dX4_wishFor_48 rfl ?_
        refine a_ishr X dX4_wishFor_50 ?_
        refine a_iconst (v := 1) X dX4_wishFor_51 (by decide) ?_
        refine a_iand X dX4_wishFor_52 ?_
        refine a_iconst (v := 1) X dX4_wishFor_53 (by decide) ?_
        refine a_icmp_ne (tgt := 109) X dX4_wishFor_54 (by decide) (fun h_54 => ?_) (fun h_54 => ?_)
        · replace h := (if_neg h_54).symm.trans h
          exact Zw.to2 (J_109 _ _ _ _ _ _ _ h) rfl rfl rfl
        · replace h := (if_pos h_54).symm.trans h
          refine a_aload_n X dX4_wishFor_57 rfl ?_
          refine a_getr X lf4_24 (by assumption) rfl (by omega) dX4_wishFor_58 ?_
          refine a_iload X dX4_wishFor_61 rfl ?_
          refine a_iload X dX4_wishFor_63 rfl ?_
          obtain ⟨M_65, f_65, h⟩ := zLtx h
          refine a_callSNu X dX4_wishFor_65 miX7_put lm4_63 (zMu (c_put (by assumption) (by first | decide | assumption)) f_65) rfl rfl (Nat.le_of_ble_eq_true rfl) ⟨by decide, by decide, by decide, by decide⟩ ?_
          refine a_aload_n X dX4_wishFor_68 rfl ?_
          refine a_getr X lf4_27 (by assumption) rfl (by omega) dX4_wishFor_69 ?_
          refine a_iload X dX4_wishFor_72 rfl ?_
          refine a_iconst (v := 3) X dX4_wishFor_74 (by decide) ?_
          refine a_imul X dX4_wishFor_75 ?_
          refine a_iload_n X dX4_wishFor_76 rfl ?_
          obtain ⟨M_77, f_77, h⟩ := zLtx h
          refine a_callSNu X dX4_wishFor_77 miX7_put lm4_63 (zMu (c_put (by assumption) (by first | decide | assumption)) f_77) rfl rfl (Nat.le_of_ble_eq_true rfl) ⟨by decide, by decide, by decide, by decide⟩ ?_
          refine a_aload_n X dX4_wishFor_80 rfl ?_
          refine a_getr X lf4_27 (by assumption) rfl (by omega) dX4_wishFor_81 ?_
          refine a_iload X dX4_wishFor_84 rfl ?_
          refine a_iconst (v := 3) X dX4_wishFor_86 (by decide) ?_
          refine a_imul X dX4_wishFor_87 ?_
          refine a_iconst (v := 1) X dX4_wishFor_88 (by decide) ?_
          refine a_iadd X dX4_wishFor_89 ?_
          refine a_iload_n X dX4_wishFor_90 rfl ?_
          obtain ⟨M_91, f_91, h⟩ := zLtx h
          refine a_callSNu X dX4_wishFor_91 miX7_put lm4_63 (zMu (c_put (by assumption) (by first | decide | assumption)) f_91) rfl rfl (Nat.le_of_ble_eq_true rfl) ⟨by decide, by decide, by decide, by decide⟩ ?_
          refine a_aload_n X dX4_wishFor_94 rfl ?_
          refine a_getr X lf4_27 (by assumption) rfl (by omega) dX4_wishFor_95 ?_
          refine a_iload X dX4_wishFor_98 rfl ?_
          refine a_iconst (v := 3) X dX4_wishFor_100 (by decide) ?_
          refine a_imul X dX4_wishFor_101 ?_
          refine a_iconst (v := 2) X dX4_wishFor_102 (by decide) ?_
          refine a_iadd X dX4_wishFor_103 ?_
          refine a_iload X dX4_wishFor_104 rfl ?_
          obtain ⟨M_106, f_106, h⟩ := zLtx h
          refine a_callSNu X dX4_wishFor_106 miX7_put lm4_63 (zMu (c_put (by assumption) (by first | decide | assumption)) f_106) rfl rfl (Nat.le_of_ble_eq_true rfl) ⟨by decide, by decide, by decide, by decide⟩ ?_
          exact Zw.to2 (J_109 _ _ _ _ _ _ _ h) rfl rfl rfl
  have H_38 : ∀ (x1_38 : Int32) (x2_38 : Int32) (x3_38 : Int32) (x4_38 : Int32) (x5_38 : Int32) (x6_38 : Int32) (M_38 : zMt), D_X4_wishFor_38 Q zFu x1_38 x2_38 x3_38 x4_38 x5_38 x6_38 M_38 = some r → Zw p l e { frames := 1, cells := 0, slots := 0, locals := 80 * (1) } s m args below meth c G b 7 (MQ below (zQ G b FQ) args s 0 0 (fun q : Nat => b ≤ q)) 0 0 38 [some (.ref (Q)), some (.int x1_38), some (.int x2_38), some (.int x3_38), some (.int x4_38), some (.int x5_38), some (.int x6_38)] [] (L, M_38, N) := L_38 zFu
  have J_32 : ∀ (x1_32 : Int32) (x2_32 : Int32) (x3_32 : Int32) (x4_32 : Int32) (x5_32 : Option Value) (x6_32 : Option Value) (y0_32 : Int32) (y1_32 : Int32) (M_32 : zMt), (y1_32 = 0 ∨ y1_32 = 1) → D_X4_wishFor_32 Q x1_32 x2_32 x3_32 x4_32 y0_32 y1_32 M_32 = some r → Zw p l e { frames := 1, cells := 0, slots := 0, locals := 80 * (1) } s m args below meth c G b 7 (MQ below (zQ G b FQ) args s 0 0 (fun q : Nat => b ≤ q)) 0 0 32 [some (.ref (Q)), some (.int x1_32), some (.int x2_32), some (.int x3_32), some (.int x4_32), x5_32, x6_32] [.int y1_32, .int y0_32] (L, M_32, N) := by
    intro x1_32 x2_32 x3_32 x4_32 x5_32 x6_32 y0_32 y1_32 M_32 fb_y1_32 h
    unfold D_X4_wishFor_32 at h
    refine a_iadd X dX4_wishFor_32 ?_
    refine a_istore X dX4_wishFor_33 (by decide) ?_
    refine a_iconst (v := 0) X dX4_wishFor_35 (by decide) ?_
    refine a_istore X dX4_wishFor_36 (by decide) ?_
    exact Zw.to2 (H_38 _ _ _ _ _ _ _ h) rfl rfl rfl
  have J_20 : ∀ (x1_20 : Int32) (x2_20 : Int32) (x3_20 : Int32) (x4_20 : Int32) (x5_20 : Option Value) (x6_20 : Option Value) (y0_20 : Int32) (y1_20 : Int32) (M_20 : zMt), (y0_20 = 0 ∨ y0_20 = 1) → (y1_20 = 0 ∨ y1_20 = 1) → D_X4_wishFor_20 Q x1_20 x2_20 x3_20 x4_20 y0_20 y1_20 M_20 = some r → Zw p l e { frames := 1, cells := 0, slots := 0, locals := 80 * (1) } s m args below meth c G b 7 (MQ below (zQ G b FQ) args s 0 0 (fun q : Nat => b ≤ q)) 0 0 20 [some (.ref (Q)), some (.int x1_20), some (.int x2_20), some (.int x3_20), some (.int x4_20), x5_20, x6_20] [.int y1_20, .int y0_20] (L, M_20, N) := by
    intro x1_20 x2_20 x3_20 x4_20 x5_20 x6_20 y0_20 y1_20 M_20 fb_y0_20 fb_y1_20 h
    unfold D_X4_wishFor_20 at h
    refine a_iadd X dX4_wishFor_20 ?_
    refine a_iload X dX4_wishFor_21 rfl ?_
    refine a_iconst (v := -1) X dX4_wishFor_23 (by decide) ?_
    refine a_icmp_ne (tgt := 31) X dX4_wishFor_24 (by decide) (fun h_24 => ?_) (fun h_24 => ?_)
    · replace h := (if_neg h_24).symm.trans h
      refine a_iconst (v := 1) X dX4_wishFor_31 (by decide) ?_
      exact Zw.to2 (J_32 _ _ _ _ _ _ _ _ _ (by first | exact Or.inl rfl | exact Or.inr rfl | assumption) h) rfl rfl rfl
    · replace h := (if_pos h_24).symm.trans h
      refine a_iconst (v := 0) X dX4_wishFor_27 (by decide) ?_
      refine a_goto (tgt := 32) X dX4_wishFor_28 (by decide) ?_
      exact Zw.to2 (J_32 _ _ _ _ _ _ _ _ _ (by first | exact Or.inl rfl | exact Or.inr rfl | assumption) h) rfl rfl rfl
  have J_10 : ∀ (x1_10 : Int32) (x2_10 : Int32) (x3_10 : Int32) (x4_10 : Int32) (x5_10 : Option Value) (x6_10 : Option Value) (y0_10 : Int32) (M_10 : zMt), (y0_10 = 0 ∨ y0_10 = 1) → D_X4_wishFor_10 Q x1_10 x2_10 x3_10 x4_10 y0_10 M_10 = some r → Zw p l e { frames := 1, cells := 0, slots := 0, locals := 80 * (1) } s m args below meth c G b 7 (MQ below (zQ G b FQ) args s 0 0 (fun q : Nat => b ≤ q)) 0 0 10 [some (.ref (Q)), some (.int x1_10), some (.int x2_10), some (.int x3_10), some (.int x4_10), x5_10, x6_10] [.int y0_10] (L, M_10, N) := by
    intro x1_10 x2_10 x3_10 x4_10 x5_10 x6_10 y0_10 M_10 fb_y0_10 h
    unfold D_X4_wishFor_10 at h
    refine a_iload_n X dX4_wishFor_10 rfl ?_
    refine a_iconst (v := -1) X dX4_wishFor_11 (by decide) ?_
    refine a_icmp_ne (tgt := 19) X dX4_wishFor_12 (by decide) (fun h_12 => ?_) (fun h_12 => ?_)
    · replace h := (if_neg h_12).symm.trans h
      refine a_iconst (v := 1) X dX4_wishFor_19 (by decide) ?_
      exact Zw.to2 (J_20 _ _ _ _ _ _ _ _ _ (by first | exact Or.inl rfl | exact Or.inr rfl | assumption) (by first | exact Or.inl rfl | exact Or.inr rfl | assumption) h) rfl rfl rfl
    · replace h := (if_pos h_12).symm.trans h
      refine a_iconst (v := 0) X dX4_wishFor_15 (by decide) ?_
      refine a_goto (tgt := 20) X dX4_wishFor_16 (by decide) ?_
      exact Zw.to2 (J_20 _ _ _ _ _ _ _ _ _ (by first | exact Or.inl rfl | exact Or.inr rfl | assumption) (by first | exact Or.inl rfl | exact Or.inr rfl | assumption) h) rfl rfl rfl
  unfold D_X4_wishFor at h
  refine a_iload_n X dX4_wishFor_0 rfl ?_
  refine a_iconst (v := -1) X dX4_wishFor_1 (by decide) ?_
  refine a_icmp_ne (tgt := 9) X dX4_wishFor_2 (by decide) (fun h_2 => ?_) (fun h_2 => ?_)
  · replace h := (if_neg h_2).symm.trans h
    refine a_iconst (v := 1) X dX4_wishFor_9 (by decide) ?_
    exact Zw.to2 (J_10 _ _ _ _ _ _ _ _ (by first | exact Or.inl rfl | exact Or.inr rfl | assumption) h) rfl rfl rfl
  · replace h := (if_pos h_2).symm.trans h
    refine a_iconst (v := 0) X dX4_wishFor_5 (by decide) ?_
    refine a_goto (tgt := 10) X dX4_wishFor_6 (by decide) ?_
    exact Zw.to2 (J_10 _ _ _ _ _ _ _ _ (by first | exact Or.inl rfl | exact Or.inr rfl | assumption) h) rfl rfl rfl
noncomputable def D_X3_readAsks_150 (Q : Nat) (x1_150 : Int32) (M_150 : zMt) (N_150 : zNt) : Option (Int32 × zMt × zNt) :=
  zB (D_X3_endOfLine Q M_150 N_150) fun e_151 =>
  if e_151.1 = 0 then
    some ((0 : Int32), e_151.2.1, e_151.2.2)
  else
    zB (D_X4_wishFor (Q + 1) x1_150 (zrd 0 (e_151.2.1 (Q + 13)) 3 (0 : Int32)) (zrd 0 (e_151.2.1 (Q + 13)) 3 (1 : Int32)) (zrd 0 (e_151.2.1 (Q + 13)) 3 (2 : Int32)) e_151.2.1) fun e_188 =>
    some ((1 : Int32), e_188, e_151.2.2)
noncomputable def D_X3_readAsks_125 (Q : Nat) (M_125 : zMt) (N_125 : zNt) : Option (Int32 × zMt × zNt) :=
  zB (D_X3_fail Q (4 : Int32) M_125) fun e_127 =>
  some (e_127.1, e_127.2, N_125)
noncomputable def D_X3_readAsks_64 (Q : Nat) (k46 : Int32 → Int32 → zMt → zNt → Option (Int32 × zMt × zNt)) (x1_64 : Int32) (x2_64 : Int32) (M_64 : zMt) (N_64 : zNt) : Option (Int32 × zMt × zNt) :=
  zB (D_X3_isName Q M_64) fun e_65 =>
  if e_65 = 0 then
    zB (D_X3_fail Q (2 : Int32) M_64) fun e_73 =>
    some (e_73.1, e_73.2, N_64)
  else
    zB (D_X3_find (Q + 10) 5 N_64 (M_64 (Q + 1) 0) (N_64 Q 8)) fun e_92 =>
    if e_92 = (-1 : Int32) then
      D_X3_readAsks_125 Q M_64 N_64
    else
      if (zrd 0 (M_64 (Q + 13)) 3 (0 : Int32)) = e_92 then
        D_X3_readAsks_125 Q M_64 N_64
      else
        if (zrd 0 (M_64 (Q + 13)) 3 (1 : Int32)) = e_92 then
          D_X3_readAsks_125 Q M_64 N_64
        else
          zLt (zwr M_64 (Q + 13) 3 x2_64 e_92) fun M_137 =>
          zB (D_X3_step Q M_137 N_64) fun e_141 =>
          k46 x1_64 (x2_64 + 1) e_141.1 e_141.2
noncomputable def D_X3_readAsks_46 (Q : Nat) : Nat → Int32 → Int32 → zMt → zNt → Option (Int32 × zMt × zNt)
  | 0, _, _, _, _ => none
  | n + 1, x1_46, x2_46, M_46, N_46 =>
    if (3 : Int32) ≤ x2_46 then
      D_X3_readAsks_150 Q x1_46 M_46 N_46
    else
      if x2_46 < (1 : Int32) then
        D_X3_readAsks_64 Q (D_X3_readAsks_46 Q n) x1_46 x2_46 M_46 N_46
      else
        if (M_46 Q 6) = (3 : Int32) then
          D_X3_readAsks_150 Q x1_46 M_46 N_46
        else
          D_X3_readAsks_64 Q (D_X3_readAsks_46 Q n) x1_46 x2_46 M_46 N_46
noncomputable def D_X3_readAsks (Q : Nat) (M : zMt) (N : zNt) : Option (Int32 × zMt × zNt) :=
  zB (D_X3_step Q M N) fun e_1 =>
  zB (D_X3_isName Q e_1.1) fun e_5 =>
  if e_5 = 0 then
    zB (D_X3_fail Q (2 : Int32) e_1.1) fun e_13 =>
    some (e_13.1, e_13.2, e_1.2)
  else
    zB (D_X3_asker Q e_1.1 e_1.2) fun e_18 =>
    if e_18 = 0 then
      zB (D_X3_fail Q (4 : Int32) e_1.1) fun e_28 =>
      some (e_28.1, e_28.2, e_1.2)
    else
      zB (D_X3_step Q e_1.1 e_1.2) fun e_33 =>
      zLt (zfil e_33.1 (Q + 13) 3 (-1 : Int32)) fun M_41 =>
      D_X3_readAsks_46 Q zFu e_18 (0 : Int32) M_41 e_33.2
set_option maxRecDepth 100000 in
set_option maxHeartbeats 4000000 in
theorem t_X3_readAsks {l : Launch} {G : zG} {b : Nat} {L : List zC} {M : zMt} {N : zNt} {Q : Nat} (hQ : LX3 L Q)  {r : Int32 × zMt × zNt} (h : D_X3_readAsks Q M N = some r) : zM l G b yX3_readAsks cX3_readAsks 4 (some .boolean) 6 0 0 [.ref Q] (L, M, N) (fun r2 z => r2 = some (.int r.1) ∧ z = (L, r.2.1, r.2.2) ∧ (r.1 = 0 ∨ r.1 = 1)) := by
  refine zM.of miX3_readAsks (Nat.le_of_ble_eq_true rfl) ?_
  intro p e s m args below meth c X hr hname
  generalize hF : ((fun r2 z => r2 = some (.int r.1) ∧ z = (L, r.2.1, r.2.2) ∧ (r.1 = 0 ∨ r.1 = 1)) : Option Value → zS → Prop) = FQ
  change Zw p l e { frames := 6, cells := 0, slots := 0, locals := 80 * (6) } s m args below meth c G b 4 (MQ below (zQ G b FQ) args s 0 0 (fun q : Nat => b ≤ q)) 0 0 0 [some (.ref Q), none, none, none] [] (L, M, N)
  obtain ⟨q_lt, q_o, q_draft, q_text, q_unitNames, q_hunterNames, q_partyNames, q_asked⟩ := id hQ
  obtain ⟨q_draft_lt, q_draft_o, q_draft_quota, q_draft_score, q_draft_guest, q_draft_party, q_draft_wishCount, q_draft_wishes, q_draft_has⟩ := id q_draft
  have J_150 : ∀ (x1_150 : Int32) (x2_150 : Int32) (x3_150 : Option Value) (M_150 : zMt) (N_150 : zNt), D_X3_readAsks_150 Q x1_150 M_150 N_150 = some r → Zw p l e { frames := 6, cells := 0, slots := 0, locals := 80 * (6) } s m args below meth c G b 4 (MQ below (zQ G b FQ) args s 0 0 (fun q : Nat => b ≤ q)) 0 0 150 [some (.ref (Q)), some (.int x1_150), some (.int x2_150), x3_150] [] (L, M_150, N_150) := by
    intro x1_150 x2_150 x3_150 M_150 N_150 h
    unfold D_X3_readAsks_150 at h
    refine a_aload_n X dX3_readAsks_150 rfl ?_
    obtain ⟨e_151, f_151, h⟩ := zBx h
    refine a_callVx X dX3_readAsks_151 miX3_endOfLine lm3_181 (t_X3_endOfLine (by assumption) f_151) (by assumption) rfl rfl rfl (Nat.le_of_ble_eq_true rfl) ⟨by decide, by decide, by decide, by decide⟩ (fun r_151 S_151 q_151 => ?_)
    obtain ⟨rfl, rfl, b_151⟩ := q_151
    refine a_if_ne (tgt := 159) X dX3_readAsks_154 (by decide) (fun h_154 => ?_) (fun h_154 => ?_)
    · replace h := (if_neg h_154).symm.trans h
      refine a_aload_n X dX3_readAsks_159 rfl ?_
      refine a_getr X lf3_12 (by assumption) rfl (by omega) dX3_readAsks_160 ?_
      refine a_iload_n X dX3_readAsks_163 rfl ?_
      refine a_aload_n X dX3_readAsks_164 rfl ?_
      refine a_getr X lf3_39 (by assumption) rfl (by omega) dX3_readAsks_165 ?_
      refine a_iconst (v := 0) X dX3_readAsks_168 (by decide) ?_
      refine a_callSNv X dX3_readAsks_169 miX7_cell lm3_81 (c_cell (by assumption) (by first | decide | assumption)) rfl rfl (Nat.le_of_ble_eq_true rfl) ⟨by decide, by decide, by decide, by decide⟩ ?_
      refine a_aload_n X dX3_readAsks_172 rfl ?_
      refine a_getr X lf3_39 (by assumption) rfl (by omega) dX3_readAsks_173 ?_
      refine a_iconst (v := 1) X dX3_readAsks_176 (by decide) ?_
      refine a_callSNv X dX3_readAsks_177 miX7_cell lm3_81 (c_cell (by assumption) (by first | decide | assumption)) rfl rfl (Nat.le_of_ble_eq_true rfl) ⟨by decide, by decide, by decide, by decide⟩ ?_
      refine a_aload_n X dX3_readAsks_180 rfl ?_
      refine a_getr X lf3_39 (by assumption) rfl (by omega) dX3_readAsks_181 ?_
      refine a_iconst (v := 2) X dX3_readAsks_184 (by decide) ?_
      refine a_callSNv X dX3_readAsks_185 miX7_cell lm3_81 (c_cell (by assumption) (by first | decide | assumption)) rfl rfl (Nat.le_of_ble_eq_true rfl) ⟨by decide, by decide, by decide, by decide⟩ ?_
      obtain ⟨e_188, f_188, h⟩ := zBx h
      refine a_callVu X dX3_readAsks_188 miX4_wishFor lm3_223 (t_X4_wishFor (by assumption) f_188) (by assumption) rfl rfl rfl (Nat.le_of_ble_eq_true rfl) ⟨by decide, by decide, by decide, by decide⟩ ?_
      refine a_iconst (v := 1) X dX3_readAsks_191 (by decide) ?_
      refine a_zret X (by first | exact Or.inl rfl | exact Or.inr rfl | assumption) hr dX3_readAsks_192 ⟨by decide, by decide⟩ ?_
      subst hF
      rw [← Option.some.inj h]
      exact ⟨rfl, rfl, (by first | exact Or.inl rfl | exact Or.inr rfl | assumption)⟩
    · replace h := (if_pos h_154).symm.trans h
      refine a_iconst (v := 0) X dX3_readAsks_157 (by decide) ?_
      refine a_zret X (by first | exact Or.inl rfl | exact Or.inr rfl | assumption) hr dX3_readAsks_158 ⟨by decide, by decide⟩ ?_
      subst hF
      rw [← Option.some.inj h]
      exact ⟨rfl, rfl, (by first | exact Or.inl rfl | exact Or.inr rfl | assumption)⟩
  have J_125 : ∀ (x1_125 : Int32) (x2_125 : Int32) (x3_125 : Int32) (M_125 : zMt) (N_125 : zNt), D_X3_readAsks_125 Q M_125 N_125 = some r → Zw p l e { frames := 6, cells := 0, slots := 0, locals := 80 * (6) } s m args below meth c G b 4 (MQ below (zQ G b FQ) args s 0 0 (fun q : Nat => b ≤ q)) 0 0 125 [some (.ref (Q)), some (.int x1_125), some (.int x2_125), some (.int x3_125)] [] (L, M_125, N_125) := by
    intro x1_125 x2_125 x3_125 M_125 N_125 h
    unfold D_X3_readAsks_125 at h
    refine a_aload_n X dX3_readAsks_125 rfl ?_
    refine a_iconst (v := 4) X dX3_readAsks_126 (by decide) ?_
    obtain ⟨e_127, f_127, h⟩ := zBx h
    refine a_callVx X dX3_readAsks_127 miX3_fail lm3_148 (t_X3_fail (by assumption) f_127) (by assumption) rfl rfl rfl (Nat.le_of_ble_eq_true rfl) ⟨by decide, by decide, by decide, by decide⟩ (fun r_127 S_127 q_127 => ?_)
    obtain ⟨rfl, rfl, b_127⟩ := q_127
    refine a_zret X (by first | exact Or.inl rfl | exact Or.inr rfl | assumption) hr dX3_readAsks_130 ⟨by decide, by decide⟩ ?_
    subst hF
    rw [← Option.some.inj h]
    exact ⟨rfl, rfl, (by first | exact Or.inl rfl | exact Or.inr rfl | assumption)⟩
  have L_46 : ∀ u : Nat, ∀ (x1_46 : Int32) (x2_46 : Int32) (x3_46 : Option Value) (M_46 : zMt) (N_46 : zNt), D_X3_readAsks_46 Q u x1_46 x2_46 M_46 N_46 = some r → Zw p l e { frames := 6, cells := 0, slots := 0, locals := 80 * (6) } s m args below meth c G b 4 (MQ below (zQ G b FQ) args s 0 0 (fun q : Nat => b ≤ q)) 0 0 46 [some (.ref (Q)), some (.int x1_46), some (.int x2_46), x3_46] [] (L, M_46, N_46) := by
    intro u
    induction u with
    | zero => intro x1_46 x2_46 x3_46 M_46 N_46 h; cases (show none = some r from h)
    | succ u_46 ih_46 =>
      have J_64 : ∀ (x1_64 : Int32) (x2_64 : Int32) (x3_64 : Option Value) (M_64 : zMt) (N_64 : zNt), D_X3_readAsks_64 Q (D_X3_readAsks_46 Q u_46) x1_64 x2_64 M_64 N_64 = some r → Zw p l e { frames := 6, cells := 0, slots := 0, locals := 80 * (6) } s m args below meth c G b 4 (MQ below (zQ G b FQ) args s 0 0 (fun q : Nat => b ≤ q)) 0 0 64 [some (.ref (Q)), some (.int x1_64), some (.int x2_64), x3_64] [] (L, M_64, N_64) := by
        intro x1_64 x2_64 x3_64 M_64 N_64 h
        unfold D_X3_readAsks_64 at h
        refine a_aload_n X dX3_readAsks_64 rfl ?_
        obtain ⟨e_65, f_65, h⟩ := zBx h
        refine a_callVx X dX3_readAsks_65 miX3_isName lm3_199 (t_X3_isName (by assumption) f_65) (by assumption) rfl rfl rfl (Nat.le_of_ble_eq_true rfl) ⟨by decide, by decide, by decide, by decide⟩ (fun r_65 S_65 q_65 => ?_)
        obtain ⟨rfl, rfl, b_65⟩ := q_65
        refine a_if_ne (tgt := 77) X dX3_readAsks_68 (by decide) (fun h_68 => ?_) (fun h_68 => ?_)
        · replace h := (if_neg h_68).symm.trans h
          refine a_aload_n X dX3_readAsks_77 rfl ?_
          refine a_getr X lf3_29 (by assumption) rfl (by omega) dX3_readAsks_78 ?_
          refine a_aload_n X dX3_readAsks_81 rfl ?_
          refine a_getr X lf3_12 (by assumption) rfl (by omega) dX3_readAsks_82 ?_
          refine a_geti X lf3_142 (by assumption) rfl dX3_readAsks_85 ?_
          refine a_aload_n X dX3_readAsks_88 rfl ?_
          refine a_getl X lf3_104 (by assumption) rfl dX3_readAsks_89 ?_
          obtain ⟨e_92, f_92, h⟩ := zBx h
          refine a_callSv X dX3_readAsks_92 miX3_find lm3_202 (t_X3_find (by assumption) (by first | decide | assumption) f_92) rfl rfl (Nat.le_of_ble_eq_true rfl) ⟨by decide, by decide, by decide, by decide⟩ ?_
          refine a_istore_n X dX3_readAsks_95 (by decide) ?_
          refine a_iload_n X dX3_readAsks_96 rfl ?_
          refine a_iconst (v := -1) X dX3_readAsks_97 (by decide) ?_
          refine a_icmp_eq (tgt := 125) X dX3_readAsks_98 (by decide) (fun h_98 => ?_) (fun h_98 => ?_)
          · replace h := (if_pos h_98).symm.trans h
            exact Zw.to2 (J_125 _ _ _ _ _ h) rfl rfl rfl
          · replace h := (if_neg h_98).symm.trans h
            refine a_aload_n X dX3_readAsks_101 rfl ?_
            refine a_getr X lf3_39 (by assumption) rfl (by omega) dX3_readAsks_102 ?_
            refine a_iconst (v := 0) X dX3_readAsks_105 (by decide) ?_
            refine a_callSNv X dX3_readAsks_106 miX7_cell lm3_81 (c_cell (by assumption) (by first | decide | assumption)) rfl rfl (Nat.le_of_ble_eq_true rfl) ⟨by decide, by decide, by decide, by decide⟩ ?_
            refine a_iload_n X dX3_readAsks_109 rfl ?_
            refine a_icmp_eq (tgt := 125) X dX3_readAsks_110 (by decide) (fun h_110 => ?_) (fun h_110 => ?_)
            · replace h := (if_pos h_110).symm.trans h
              exact Zw.to2 (J_125 _ _ _ _ _ h) rfl rfl rfl
            · replace h := (if_neg h_110).symm.trans h
              refine a_aload_n X dX3_readAsks_113 rfl ?_
              refine a_getr X lf3_39 (by assumption) rfl (by omega) dX3_readAsks_114 ?_
              refine a_iconst (v := 1) X dX3_readAsks_117 (by decide) ?_
              refine a_callSNv X dX3_readAsks_118 miX7_cell lm3_81 (c_cell (by assumption) (by first | decide | assumption)) rfl rfl (Nat.le_of_ble_eq_true rfl) ⟨by decide, by decide, by decide, by decide⟩ ?_
              refine a_iload_n X dX3_readAsks_121 rfl ?_
              refine a_icmp_ne (tgt := 131) X dX3_readAsks_122 (by decide) (fun h_122 => ?_) (fun h_122 => ?_)
              · replace h := (if_neg h_122).symm.trans h
                refine a_aload_n X dX3_readAsks_131 rfl ?_
                refine a_getr X lf3_39 (by assumption) rfl (by omega) dX3_readAsks_132 ?_
                refine a_iload_n X dX3_readAsks_135 rfl ?_
                refine a_iload_n X dX3_readAsks_136 rfl ?_
                obtain ⟨M_137, f_137, h⟩ := zLtx h
                refine a_callSNu X dX3_readAsks_137 miX7_put lm3_219 (zMu (c_put (by assumption) (by first | decide | assumption)) f_137) rfl rfl (Nat.le_of_ble_eq_true rfl) ⟨by decide, by decide, by decide, by decide⟩ ?_
                refine a_aload_n X dX3_readAsks_140 rfl ?_
                obtain ⟨e_141, f_141, h⟩ := zBx h
                refine a_callVu X dX3_readAsks_141 miX3_step lm3_71 (t_X3_step (by assumption) f_141) (by assumption) rfl rfl rfl (Nat.le_of_ble_eq_true rfl) ⟨by decide, by decide, by decide, by decide⟩ ?_
                refine a_iinc (v := x2_64 + 1) X dX3_readAsks_144 (by decide) rfl zi_1 ?_
                refine a_goto (tgt := 46) X dX3_readAsks_147 (by decide) ?_
                exact Zw.to2 (ih_46 _ _ _ _ _ h) rfl rfl rfl
              · replace h := (if_pos h_122).symm.trans h
                exact Zw.to2 (J_125 _ _ _ _ _ h) rfl rfl rfl
        · replace h := (if_pos h_68).symm.trans h
          refine a_aload_n X dX3_readAsks_71 rfl ?_
          refine a_iconst (v := 2) X dX3_readAsks_72 (by decide) ?_
          obtain ⟨e_73, f_73, h⟩ := zBx h
          refine a_callVx X dX3_readAsks_73 miX3_fail lm3_148 (t_X3_fail (by assumption) f_73) (by assumption) rfl rfl rfl (Nat.le_of_ble_eq_true rfl) ⟨by decide, by decide, by decide, by decide⟩ (fun r_73 S_73 q_73 => ?_)
          obtain ⟨rfl, rfl, b_73⟩ := q_73
          refine a_zret X (by first | exact Or.inl rfl | exact Or.inr rfl | assumption) hr dX3_readAsks_76 ⟨by decide, by decide⟩ ?_
          subst hF
          rw [← Option.some.inj h]
          exact ⟨rfl, rfl, (by first | exact Or.inl rfl | exact Or.inr rfl | assumption)⟩
      intro x1_46 x2_46 x3_46 M_46 N_46 h
      rw [D_X3_readAsks_46] at h
      refine a_iload_n X dX3_readAsks_46 rfl ?_
      refine a_iconst (v := 3) X dX3_readAsks_47 (by decide) ?_
      refine a_icmp_ge (tgt := 150) X dX3_readAsks_48 (by decide) (fun h_48 => ?_) (fun h_48 => ?_)
      · replace h := (if_pos h_48).symm.trans h
        exact Zw.to2 (J_150 _ _ _ _ _ h) rfl rfl rfl
      · replace h := (if_neg h_48).symm.trans h
        refine a_iload_n X dX3_readAsks_51 rfl ?_
        refine a_iconst (v := 1) X dX3_readAsks_52 (by decide) ?_
        refine a_icmp_lt (tgt := 64) X dX3_readAsks_53 (by decide) (fun h_53 => ?_) (fun h_53 => ?_)
        · replace h := (if_pos h_53).symm.trans h
          exact Zw.to2 (J_64 _ _ _ _ _ h) rfl rfl rfl
        · replace h := (if_neg h_53).symm.trans h
          refine a_aload_n X dX3_readAsks_56 rfl ?_
          refine a_geti X lf3_74 (by assumption) rfl dX3_readAsks_57 ?_
          refine a_iconst (v := 3) X dX3_readAsks_60 (by decide) ?_
          refine a_icmp_eq (tgt := 150) X dX3_readAsks_61 (by decide) (fun h_61 => ?_) (fun h_61 => ?_)
          · replace h := (if_pos h_61).symm.trans h
            exact Zw.to2 (J_150 _ _ _ _ _ h) rfl rfl rfl
          · replace h := (if_neg h_61).symm.trans h
            exact Zw.to2 (J_64 _ _ _ _ _ h) rfl rfl rfl
  have H_46 : ∀ (x1_46 : Int32) (x2_46 : Int32) (x3_46 : Option Value) (M_46 : zMt) (N_46 : zNt), D_X3_readAsks_46 Q zFu x1_46 x2_46 M_46 N_46 = some r → Zw p l e { frames := 6, cells := 0, slots := 0, locals := 80 * (6) } s m args below meth c G b 4 (MQ below (zQ G b FQ) args s 0 0 (fun q : Nat => b ≤ q)) 0 0 46 [some (.ref (Q)), some (.int x1_46), some (.int x2_46), x3_46] [] (L, M_46, N_46) := L_46 zFu
  unfold D_X3_readAsks at h
  refine a_aload_n X dX3_readAsks_0 rfl ?_
  obtain ⟨e_1, f_1, h⟩ := zBx h
  refine a_callVu X dX3_readAsks_1 miX3_step lm3_71 (t_X3_step (by assumption) f_1) (by assumption) rfl rfl rfl (Nat.le_of_ble_eq_true rfl) ⟨by decide, by decide, by decide, by decide⟩ ?_
  refine a_aload_n X dX3_readAsks_4 rfl ?_
  obtain ⟨e_5, f_5, h⟩ := zBx h
  refine a_callVx X dX3_readAsks_5 miX3_isName lm3_199 (t_X3_isName (by assumption) f_5) (by assumption) rfl rfl rfl (Nat.le_of_ble_eq_true rfl) ⟨by decide, by decide, by decide, by decide⟩ (fun r_5 S_5 q_5 => ?_)
  obtain ⟨rfl, rfl, b_5⟩ := q_5
  refine a_if_ne (tgt := 17) X dX3_readAsks_8 (by decide) (fun h_8 => ?_) (fun h_8 => ?_)
  · replace h := (if_neg h_8).symm.trans h
    refine a_aload_n X dX3_readAsks_17 rfl ?_
    obtain ⟨e_18, f_18, h⟩ := zBx h
    refine a_callVv X dX3_readAsks_18 miX3_asker lm3_212 (t_X3_asker (by assumption) f_18) (by assumption) rfl rfl rfl (Nat.le_of_ble_eq_true rfl) ⟨by decide, by decide, by decide, by decide⟩ ?_
    refine a_istore_n X dX3_readAsks_21 (by decide) ?_
    refine a_iload_n X dX3_readAsks_22 rfl ?_
    refine a_if_ne (tgt := 32) X dX3_readAsks_23 (by decide) (fun h_23 => ?_) (fun h_23 => ?_)
    · replace h := (if_neg h_23).symm.trans h
      refine a_aload_n X dX3_readAsks_32 rfl ?_
      obtain ⟨e_33, f_33, h⟩ := zBx h
      refine a_callVu X dX3_readAsks_33 miX3_step lm3_71 (t_X3_step (by assumption) f_33) (by assumption) rfl rfl rfl (Nat.le_of_ble_eq_true rfl) ⟨by decide, by decide, by decide, by decide⟩ ?_
      refine a_aload_n X dX3_readAsks_36 rfl ?_
      refine a_getr X lf3_39 (by assumption) rfl (by omega) dX3_readAsks_37 ?_
      refine a_iconst (v := -1) X dX3_readAsks_40 (by decide) ?_
      obtain ⟨M_41, f_41, h⟩ := zLtx h
      refine a_callSNu X dX3_readAsks_41 miX7_fill lm3_215 (zMu (c_fill (by assumption) (by first | decide | assumption)) f_41) rfl rfl (Nat.le_of_ble_eq_true rfl) ⟨by decide, by decide, by decide, by decide⟩ ?_
      refine a_iconst (v := 0) X dX3_readAsks_44 (by decide) ?_
      refine a_istore_n X dX3_readAsks_45 (by decide) ?_
      exact Zw.to2 (H_46 _ _ _ _ _ h) rfl rfl rfl
    · replace h := (if_pos h_23).symm.trans h
      refine a_aload_n X dX3_readAsks_26 rfl ?_
      refine a_iconst (v := 4) X dX3_readAsks_27 (by decide) ?_
      obtain ⟨e_28, f_28, h⟩ := zBx h
      refine a_callVx X dX3_readAsks_28 miX3_fail lm3_148 (t_X3_fail (by assumption) f_28) (by assumption) rfl rfl rfl (Nat.le_of_ble_eq_true rfl) ⟨by decide, by decide, by decide, by decide⟩ (fun r_28 S_28 q_28 => ?_)
      obtain ⟨rfl, rfl, b_28⟩ := q_28
      refine a_zret X (by first | exact Or.inl rfl | exact Or.inr rfl | assumption) hr dX3_readAsks_31 ⟨by decide, by decide⟩ ?_
      subst hF
      rw [← Option.some.inj h]
      exact ⟨rfl, rfl, (by first | exact Or.inl rfl | exact Or.inr rfl | assumption)⟩
  · replace h := (if_pos h_8).symm.trans h
    refine a_aload_n X dX3_readAsks_11 rfl ?_
    refine a_iconst (v := 2) X dX3_readAsks_12 (by decide) ?_
    obtain ⟨e_13, f_13, h⟩ := zBx h
    refine a_callVx X dX3_readAsks_13 miX3_fail lm3_148 (t_X3_fail (by assumption) f_13) (by assumption) rfl rfl rfl (Nat.le_of_ble_eq_true rfl) ⟨by decide, by decide, by decide, by decide⟩ (fun r_13 S_13 q_13 => ?_)
    obtain ⟨rfl, rfl, b_13⟩ := q_13
    refine a_zret X (by first | exact Or.inl rfl | exact Or.inr rfl | assumption) hr dX3_readAsks_16 ⟨by decide, by decide⟩ ?_
    subst hF
    rw [← Option.some.inj h]
    exact ⟨rfl, rfl, (by first | exact Or.inl rfl | exact Or.inr rfl | assumption)⟩
noncomputable def D_X3_readLaw_59 (Q : Nat) (M_59 : zMt) (N_59 : zNt) : Option (Int32 × zMt × zNt) :=
  zLt (zu M_59 Q 11 (1 : Int32)) fun M_61 =>
  zB (D_X3_step Q M_61 N_59) fun e_65 =>
  zB (D_X3_endOfLine Q e_65.1 e_65.2) fun e_69 =>
  some (e_69.1, e_69.2.1, e_69.2.2)
noncomputable def D_X3_readLaw (Q : Nat) (M : zMt) (N : zNt) : Option (Int32 × zMt × zNt) :=
  zB (D_X3_step Q M N) fun e_1 =>
  zB (D_X3_says Q 8 e_1.1) fun e_7 =>
  if e_7 = 0 then
    zB (D_X3_says Q 9 e_1.1) fun e_27 =>
    if e_27 = 0 then
      zB (D_X3_says Q 10 e_1.1) fun e_47 =>
      if e_47 = 0 then
        zB (D_X3_fail Q (2 : Int32) e_1.1) fun e_55 =>
        some (e_55.1, e_55.2, e_1.2)
      else
        D_X3_readLaw_59 Q e_1.1 e_1.2
    else
      zLt (zu e_1.1 (Q + 1) 3 (2 : Int32)) fun M_38 =>
      D_X3_readLaw_59 Q M_38 e_1.2
  else
    zLt (zu e_1.1 (Q + 1) 3 (1 : Int32)) fun M_18 =>
    D_X3_readLaw_59 Q M_18 e_1.2
set_option maxRecDepth 100000 in
set_option maxHeartbeats 4000000 in
theorem t_X3_readLaw {l : Launch} {G : zG} {b : Nat} {L : List zC} {M : zMt} {N : zNt} {Q : Nat} (hQ : LX3 L Q)  {r : Int32 × zMt × zNt} (h : D_X3_readLaw Q M N = some r) : zM l G b yX3_readLaw cX3_readLaw 1 (some .boolean) 5 0 0 [.ref Q] (L, M, N) (fun r2 z => r2 = some (.int r.1) ∧ z = (L, r.2.1, r.2.2) ∧ (r.1 = 0 ∨ r.1 = 1)) := by
  refine zM.of miX3_readLaw (Nat.le_of_ble_eq_true rfl) ?_
  intro p e s m args below meth c X hr hname
  generalize hF : ((fun r2 z => r2 = some (.int r.1) ∧ z = (L, r.2.1, r.2.2) ∧ (r.1 = 0 ∨ r.1 = 1)) : Option Value → zS → Prop) = FQ
  change Zw p l e { frames := 5, cells := 0, slots := 0, locals := 80 * (5) } s m args below meth c G b 1 (MQ below (zQ G b FQ) args s 0 0 (fun q : Nat => b ≤ q)) 0 0 0 [some (.ref Q)] [] (L, M, N)
  obtain ⟨q_lt, q_o, q_draft, q_text, q_unitNames, q_hunterNames, q_partyNames, q_asked⟩ := id hQ
  obtain ⟨q_draft_lt, q_draft_o, q_draft_quota, q_draft_score, q_draft_guest, q_draft_party, q_draft_wishCount, q_draft_wishes, q_draft_has⟩ := id q_draft
  have J_59 : ∀ (M_59 : zMt) (N_59 : zNt), D_X3_readLaw_59 Q M_59 N_59 = some r → Zw p l e { frames := 5, cells := 0, slots := 0, locals := 80 * (5) } s m args below meth c G b 1 (MQ below (zQ G b FQ) args s 0 0 (fun q : Nat => b ≤ q)) 0 0 59 [some (.ref (Q))] [] (L, M_59, N_59) := by
    intro M_59 N_59 h
    unfold D_X3_readLaw_59 at h
    refine a_aload_n X dX3_readLaw_59 rfl ?_
    refine a_iconst (v := 1) X dX3_readLaw_60 (by decide) ?_
    obtain ⟨M_61, f_61, h⟩ := zLtx h
    refine d_putz X (by first | exact Or.inl rfl | exact Or.inr rfl | assumption) lf3_58 (by assumption) rfl dX3_readLaw_61 f_61 ?_
    refine a_aload_n X dX3_readLaw_64 rfl ?_
    obtain ⟨e_65, f_65, h⟩ := zBx h
    refine a_callVu X dX3_readLaw_65 miX3_step lm3_71 (t_X3_step (by assumption) f_65) (by assumption) rfl rfl rfl (Nat.le_of_ble_eq_true rfl) ⟨by decide, by decide, by decide, by decide⟩ ?_
    refine a_aload_n X dX3_readLaw_68 rfl ?_
    obtain ⟨e_69, f_69, h⟩ := zBx h
    refine a_callVx X dX3_readLaw_69 miX3_endOfLine lm3_181 (t_X3_endOfLine (by assumption) f_69) (by assumption) rfl rfl rfl (Nat.le_of_ble_eq_true rfl) ⟨by decide, by decide, by decide, by decide⟩ (fun r_69 S_69 q_69 => ?_)
    obtain ⟨rfl, rfl, b_69⟩ := q_69
    refine a_zret X (by first | exact Or.inl rfl | exact Or.inr rfl | assumption) hr dX3_readLaw_72 ⟨by decide, by decide⟩ ?_
    subst hF
    rw [← Option.some.inj h]
    exact ⟨rfl, rfl, (by first | exact Or.inl rfl | exact Or.inr rfl | assumption)⟩
  unfold D_X3_readLaw at h
  refine a_aload_n X dX3_readLaw_0 rfl ?_
  obtain ⟨e_1, f_1, h⟩ := zBx h
  refine a_callVu X dX3_readLaw_1 miX3_step lm3_71 (t_X3_step (by assumption) f_1) (by assumption) rfl rfl rfl (Nat.le_of_ble_eq_true rfl) ⟨by decide, by decide, by decide, by decide⟩ ?_
  refine a_aload_n X dX3_readLaw_4 rfl ?_
  refine a_ldcS (i := 8) (q := ("TagDraw$Reader", 227, "line")) X rfl rfl rfl dX3_readLaw_5 ?_
  obtain ⟨e_7, f_7, h⟩ := zBx h
  refine a_callVx X dX3_readLaw_7 miX3_says lm3_124 (t_X3_says (by assumption) (by first | assumption | decide) f_7) (by assumption) rfl rfl rfl (Nat.le_of_ble_eq_true rfl) ⟨by decide, by decide, by decide, by decide⟩ (fun r_7 S_7 q_7 => ?_)
  obtain ⟨rfl, rfl, b_7⟩ := q_7
  refine a_if_eq (tgt := 24) X dX3_readLaw_10 (by decide) (fun h_10 => ?_) (fun h_10 => ?_)
  · replace h := (if_pos h_10).symm.trans h
    refine a_aload_n X dX3_readLaw_24 rfl ?_
    refine a_ldcS (i := 9) (q := ("TagDraw$Reader", 232, "square")) X rfl rfl rfl dX3_readLaw_25 ?_
    obtain ⟨e_27, f_27, h⟩ := zBx h
    refine a_callVx X dX3_readLaw_27 miX3_says lm3_124 (t_X3_says (by assumption) (by first | assumption | decide) f_27) (by assumption) rfl rfl rfl (Nat.le_of_ble_eq_true rfl) ⟨by decide, by decide, by decide, by decide⟩ (fun r_27 S_27 q_27 => ?_)
    obtain ⟨rfl, rfl, b_27⟩ := q_27
    refine a_if_eq (tgt := 44) X dX3_readLaw_30 (by decide) (fun h_30 => ?_) (fun h_30 => ?_)
    · replace h := (if_pos h_30).symm.trans h
      refine a_aload_n X dX3_readLaw_44 rfl ?_
      refine a_ldcS (i := 10) (q := ("TagDraw$Reader", 234, "plain")) X rfl rfl rfl dX3_readLaw_45 ?_
      obtain ⟨e_47, f_47, h⟩ := zBx h
      refine a_callVx X dX3_readLaw_47 miX3_says lm3_124 (t_X3_says (by assumption) (by first | assumption | decide) f_47) (by assumption) rfl rfl rfl (Nat.le_of_ble_eq_true rfl) ⟨by decide, by decide, by decide, by decide⟩ (fun r_47 S_47 q_47 => ?_)
      obtain ⟨rfl, rfl, b_47⟩ := q_47
      refine a_if_ne (tgt := 59) X dX3_readLaw_50 (by decide) (fun h_50 => ?_) (fun h_50 => ?_)
      · replace h := (if_neg h_50).symm.trans h
        exact Zw.to2 (J_59 _ _ h) rfl rfl rfl
      · replace h := (if_pos h_50).symm.trans h
        refine a_aload_n X dX3_readLaw_53 rfl ?_
        refine a_iconst (v := 2) X dX3_readLaw_54 (by decide) ?_
        obtain ⟨e_55, f_55, h⟩ := zBx h
        refine a_callVx X dX3_readLaw_55 miX3_fail lm3_148 (t_X3_fail (by assumption) f_55) (by assumption) rfl rfl rfl (Nat.le_of_ble_eq_true rfl) ⟨by decide, by decide, by decide, by decide⟩ (fun r_55 S_55 q_55 => ?_)
        obtain ⟨rfl, rfl, b_55⟩ := q_55
        refine a_zret X (by first | exact Or.inl rfl | exact Or.inr rfl | assumption) hr dX3_readLaw_58 ⟨by decide, by decide⟩ ?_
        subst hF
        rw [← Option.some.inj h]
        exact ⟨rfl, rfl, (by first | exact Or.inl rfl | exact Or.inr rfl | assumption)⟩
    · replace h := (if_neg h_30).symm.trans h
      refine a_aload_n X dX3_readLaw_33 rfl ?_
      refine a_getr X lf3_12 (by assumption) rfl (by omega) dX3_readLaw_34 ?_
      refine a_iconst (v := 2) X dX3_readLaw_37 (by decide) ?_
      obtain ⟨M_38, f_38, h⟩ := zLtx h
      refine d_puti X lf3_229 (by assumption) rfl dX3_readLaw_38 f_38 ?_
      refine a_goto (tgt := 59) X dX3_readLaw_41 (by decide) ?_
      exact Zw.to2 (J_59 _ _ h) rfl rfl rfl
  · replace h := (if_neg h_10).symm.trans h
    refine a_aload_n X dX3_readLaw_13 rfl ?_
    refine a_getr X lf3_12 (by assumption) rfl (by omega) dX3_readLaw_14 ?_
    refine a_iconst (v := 1) X dX3_readLaw_17 (by decide) ?_
    obtain ⟨M_18, f_18, h⟩ := zLtx h
    refine d_puti X lf3_229 (by assumption) rfl dX3_readLaw_18 f_18 ?_
    refine a_goto (tgt := 59) X dX3_readLaw_21 (by decide) ?_
    exact Zw.to2 (J_59 _ _ h) rfl rfl rfl
noncomputable def D_X3_readPrefer (Q : Nat) (M : zMt) (N : zNt) : Option (Int32 × zMt × zNt) :=
  zB (D_X3_step Q M N) fun e_1 =>
  zB (D_X3_numberUpTo Q (100 : Int32) e_1.1 e_1.2) fun e_7 =>
  if e_7.1 = 0 then
    some ((0 : Int32), e_7.2.1, e_7.2.2)
  else
    zLt (zu e_7.2.1 Q 12 (1 : Int32)) fun M_17 =>
    zLt (zu M_17 (Q + 1) 4 (M_17 Q 9)) fun M_28 =>
    zB (D_X3_endOfLine Q M_28 e_7.2.2) fun e_32 =>
    some (e_32.1, e_32.2.1, e_32.2.2)
set_option maxRecDepth 100000 in
set_option maxHeartbeats 4000000 in
theorem t_X3_readPrefer {l : Launch} {G : zG} {b : Nat} {L : List zC} {M : zMt} {N : zNt} {Q : Nat} (hQ : LX3 L Q)  {r : Int32 × zMt × zNt} (h : D_X3_readPrefer Q M N = some r) : zM l G b yX3_readPrefer cX3_readPrefer 1 (some .boolean) 4 0 0 [.ref Q] (L, M, N) (fun r2 z => r2 = some (.int r.1) ∧ z = (L, r.2.1, r.2.2) ∧ (r.1 = 0 ∨ r.1 = 1)) := by
  refine zM.of miX3_readPrefer (Nat.le_of_ble_eq_true rfl) ?_
  intro p e s m args below meth c X hr hname
  generalize hF : ((fun r2 z => r2 = some (.int r.1) ∧ z = (L, r.2.1, r.2.2) ∧ (r.1 = 0 ∨ r.1 = 1)) : Option Value → zS → Prop) = FQ
  change Zw p l e { frames := 4, cells := 0, slots := 0, locals := 80 * (4) } s m args below meth c G b 1 (MQ below (zQ G b FQ) args s 0 0 (fun q : Nat => b ≤ q)) 0 0 0 [some (.ref Q)] [] (L, M, N)
  obtain ⟨q_lt, q_o, q_draft, q_text, q_unitNames, q_hunterNames, q_partyNames, q_asked⟩ := id hQ
  obtain ⟨q_draft_lt, q_draft_o, q_draft_quota, q_draft_score, q_draft_guest, q_draft_party, q_draft_wishCount, q_draft_wishes, q_draft_has⟩ := id q_draft
  unfold D_X3_readPrefer at h
  refine a_aload_n X dX3_readPrefer_0 rfl ?_
  obtain ⟨e_1, f_1, h⟩ := zBx h
  refine a_callVu X dX3_readPrefer_1 miX3_step lm3_71 (t_X3_step (by assumption) f_1) (by assumption) rfl rfl rfl (Nat.le_of_ble_eq_true rfl) ⟨by decide, by decide, by decide, by decide⟩ ?_
  refine a_aload_n X dX3_readPrefer_4 rfl ?_
  refine a_bipush (v := 100) X dX3_readPrefer_5 (by decide) ?_
  obtain ⟨e_7, f_7, h⟩ := zBx h
  refine a_callVx X dX3_readPrefer_7 miX3_numberUpTo lm3_178 (t_X3_numberUpTo (by assumption) f_7) (by assumption) rfl rfl rfl (Nat.le_of_ble_eq_true rfl) ⟨by decide, by decide, by decide, by decide⟩ (fun r_7 S_7 q_7 => ?_)
  obtain ⟨rfl, rfl, b_7⟩ := q_7
  refine a_if_ne (tgt := 15) X dX3_readPrefer_10 (by decide) (fun h_10 => ?_) (fun h_10 => ?_)
  · replace h := (if_neg h_10).symm.trans h
    refine a_aload_n X dX3_readPrefer_15 rfl ?_
    refine a_iconst (v := 1) X dX3_readPrefer_16 (by decide) ?_
    obtain ⟨M_17, f_17, h⟩ := zLtx h
    refine d_putz X (by first | exact Or.inl rfl | exact Or.inr rfl | assumption) lf3_62 (by assumption) rfl dX3_readPrefer_17 f_17 ?_
    refine a_aload_n X dX3_readPrefer_20 rfl ?_
    refine a_getr X lf3_12 (by assumption) rfl (by omega) dX3_readPrefer_21 ?_
    refine a_aload_n X dX3_readPrefer_24 rfl ?_
    refine a_geti X lf3_110 (by assumption) rfl dX3_readPrefer_25 ?_
    obtain ⟨M_28, f_28, h⟩ := zLtx h
    refine d_puti X lf3_236 (by assumption) rfl dX3_readPrefer_28 f_28 ?_
    refine a_aload_n X dX3_readPrefer_31 rfl ?_
    obtain ⟨e_32, f_32, h⟩ := zBx h
    refine a_callVx X dX3_readPrefer_32 miX3_endOfLine lm3_181 (t_X3_endOfLine (by assumption) f_32) (by assumption) rfl rfl rfl (Nat.le_of_ble_eq_true rfl) ⟨by decide, by decide, by decide, by decide⟩ (fun r_32 S_32 q_32 => ?_)
    obtain ⟨rfl, rfl, b_32⟩ := q_32
    refine a_zret X (by first | exact Or.inl rfl | exact Or.inr rfl | assumption) hr dX3_readPrefer_35 ⟨by decide, by decide⟩ ?_
    subst hF
    rw [← Option.some.inj h]
    exact ⟨rfl, rfl, (by first | exact Or.inl rfl | exact Or.inr rfl | assumption)⟩
  · replace h := (if_pos h_10).symm.trans h
    refine a_iconst (v := 0) X dX3_readPrefer_13 (by decide) ?_
    refine a_zret X (by first | exact Or.inl rfl | exact Or.inr rfl | assumption) hr dX3_readPrefer_14 ⟨by decide, by decide⟩ ?_
    subst hF
    rw [← Option.some.inj h]
    exact ⟨rfl, rfl, (by first | exact Or.inl rfl | exact Or.inr rfl | assumption)⟩
noncomputable def D_X3_readGuests (Q : Nat) (M : zMt) (N : zNt) : Option (Int32 × zMt × zNt) :=
  zB (D_X3_step Q M N) fun e_1 =>
  zB (D_X3_numberUpTo Q (100 : Int32) e_1.1 e_1.2) fun e_7 =>
  if e_7.1 = 0 then
    some ((0 : Int32), e_7.2.1, e_7.2.2)
  else
    zLt (zu e_7.2.1 Q 13 (1 : Int32)) fun M_17 =>
    zLt (zu M_17 (Q + 1) 5 (M_17 Q 9)) fun M_28 =>
    zB (D_X3_endOfLine Q M_28 e_7.2.2) fun e_32 =>
    some (e_32.1, e_32.2.1, e_32.2.2)
set_option maxRecDepth 100000 in
set_option maxHeartbeats 4000000 in
theorem t_X3_readGuests {l : Launch} {G : zG} {b : Nat} {L : List zC} {M : zMt} {N : zNt} {Q : Nat} (hQ : LX3 L Q)  {r : Int32 × zMt × zNt} (h : D_X3_readGuests Q M N = some r) : zM l G b yX3_readGuests cX3_readGuests 1 (some .boolean) 4 0 0 [.ref Q] (L, M, N) (fun r2 z => r2 = some (.int r.1) ∧ z = (L, r.2.1, r.2.2) ∧ (r.1 = 0 ∨ r.1 = 1)) := by
  refine zM.of miX3_readGuests (Nat.le_of_ble_eq_true rfl) ?_
  intro p e s m args below meth c X hr hname
  generalize hF : ((fun r2 z => r2 = some (.int r.1) ∧ z = (L, r.2.1, r.2.2) ∧ (r.1 = 0 ∨ r.1 = 1)) : Option Value → zS → Prop) = FQ
  change Zw p l e { frames := 4, cells := 0, slots := 0, locals := 80 * (4) } s m args below meth c G b 1 (MQ below (zQ G b FQ) args s 0 0 (fun q : Nat => b ≤ q)) 0 0 0 [some (.ref Q)] [] (L, M, N)
  obtain ⟨q_lt, q_o, q_draft, q_text, q_unitNames, q_hunterNames, q_partyNames, q_asked⟩ := id hQ
  obtain ⟨q_draft_lt, q_draft_o, q_draft_quota, q_draft_score, q_draft_guest, q_draft_party, q_draft_wishCount, q_draft_wishes, q_draft_has⟩ := id q_draft
  unfold D_X3_readGuests at h
  refine a_aload_n X dX3_readGuests_0 rfl ?_
  obtain ⟨e_1, f_1, h⟩ := zBx h
  refine a_callVu X dX3_readGuests_1 miX3_step lm3_71 (t_X3_step (by assumption) f_1) (by assumption) rfl rfl rfl (Nat.le_of_ble_eq_true rfl) ⟨by decide, by decide, by decide, by decide⟩ ?_
  refine a_aload_n X dX3_readGuests_4 rfl ?_
  refine a_bipush (v := 100) X dX3_readGuests_5 (by decide) ?_
  obtain ⟨e_7, f_7, h⟩ := zBx h
  refine a_callVx X dX3_readGuests_7 miX3_numberUpTo lm3_178 (t_X3_numberUpTo (by assumption) f_7) (by assumption) rfl rfl rfl (Nat.le_of_ble_eq_true rfl) ⟨by decide, by decide, by decide, by decide⟩ (fun r_7 S_7 q_7 => ?_)
  obtain ⟨rfl, rfl, b_7⟩ := q_7
  refine a_if_ne (tgt := 15) X dX3_readGuests_10 (by decide) (fun h_10 => ?_) (fun h_10 => ?_)
  · replace h := (if_neg h_10).symm.trans h
    refine a_aload_n X dX3_readGuests_15 rfl ?_
    refine a_iconst (v := 1) X dX3_readGuests_16 (by decide) ?_
    obtain ⟨M_17, f_17, h⟩ := zLtx h
    refine d_putz X (by first | exact Or.inl rfl | exact Or.inr rfl | assumption) lf3_65 (by assumption) rfl dX3_readGuests_17 f_17 ?_
    refine a_aload_n X dX3_readGuests_20 rfl ?_
    refine a_getr X lf3_12 (by assumption) rfl (by omega) dX3_readGuests_21 ?_
    refine a_aload_n X dX3_readGuests_24 rfl ?_
    refine a_geti X lf3_110 (by assumption) rfl dX3_readGuests_25 ?_
    obtain ⟨M_28, f_28, h⟩ := zLtx h
    refine d_puti X lf3_239 (by assumption) rfl dX3_readGuests_28 f_28 ?_
    refine a_aload_n X dX3_readGuests_31 rfl ?_
    obtain ⟨e_32, f_32, h⟩ := zBx h
    refine a_callVx X dX3_readGuests_32 miX3_endOfLine lm3_181 (t_X3_endOfLine (by assumption) f_32) (by assumption) rfl rfl rfl (Nat.le_of_ble_eq_true rfl) ⟨by decide, by decide, by decide, by decide⟩ (fun r_32 S_32 q_32 => ?_)
    obtain ⟨rfl, rfl, b_32⟩ := q_32
    refine a_zret X (by first | exact Or.inl rfl | exact Or.inr rfl | assumption) hr dX3_readGuests_35 ⟨by decide, by decide⟩ ?_
    subst hF
    rw [← Option.some.inj h]
    exact ⟨rfl, rfl, (by first | exact Or.inl rfl | exact Or.inr rfl | assumption)⟩
  · replace h := (if_pos h_10).symm.trans h
    refine a_iconst (v := 0) X dX3_readGuests_13 (by decide) ?_
    refine a_zret X (by first | exact Or.inl rfl | exact Or.inr rfl | assumption) hr dX3_readGuests_14 ⟨by decide, by decide⟩ ?_
    subst hF
    rw [← Option.some.inj h]
    exact ⟨rfl, rfl, (by first | exact Or.inl rfl | exact Or.inr rfl | assumption)⟩
noncomputable def D_X3_readLine_200 (Q : Nat) (y0_200 : Int32) (M_200 : zMt) (N_200 : zNt) : Option (Int32 × zMt × zNt) :=
  some (y0_200, M_200, N_200)
noncomputable def D_X3_readLine_171 (Q : Nat) (y0_171 : Int32) (M_171 : zMt) (N_171 : zNt) : Option (Int32 × zMt × zNt) :=
  some (y0_171, M_171, N_171)
noncomputable def D_X3_readLine_142 (Q : Nat) (y0_142 : Int32) (M_142 : zMt) (N_142 : zNt) : Option (Int32 × zMt × zNt) :=
  some (y0_142, M_142, N_142)
noncomputable def D_X3_readLine_99 (Q : Nat) (y0_99 : Int32) (M_99 : zMt) (N_99 : zNt) : Option (Int32 × zMt × zNt) :=
  some (y0_99, M_99, N_99)
noncomputable def D_X3_readLine_66 (Q : Nat) (y0_66 : Int32) (M_66 : zMt) (N_66 : zNt) : Option (Int32 × zMt × zNt) :=
  some (y0_66, M_66, N_66)
noncomputable def D_X3_readLine_32 (Q : Nat) (y0_32 : Int32) (M_32 : zMt) (N_32 : zNt) : Option (Int32 × zMt × zNt) :=
  some (y0_32, M_32, N_32)
noncomputable def D_X3_readLine (Q : Nat) (M : zMt) (N : zNt) : Option (Int32 × zMt × zNt) :=
  zB (D_X3_says Q 0 M) fun e_3 =>
  if e_3 = 0 then
    zB (D_X3_says Q 1 M) fun e_36 =>
    if e_36 = 0 then
      zB (D_X3_says Q 3 M) fun e_70 =>
      if e_70 = 0 then
        zB (D_X3_says Q 4 M) fun e_103 =>
        if e_103 = 0 then
          zB (D_X3_says Q 5 M) fun e_117 =>
          if e_117 = 0 then
            zB (D_X3_says Q 6 M) fun e_146 =>
            if e_146 = 0 then
              zB (D_X3_says Q 7 M) fun e_175 =>
              if e_175 = 0 then
                zB (D_X3_fail Q (2 : Int32) M) fun e_203 =>
                some (e_203.1, e_203.2, N)
              else
                if (M Q 13) = 0 then
                  zB (D_X3_readGuests Q M N) fun e_197 =>
                  D_X3_readLine_200 Q e_197.1 e_197.2.1 e_197.2.2
                else
                  zB (D_X3_fail Q (2 : Int32) M) fun e_190 =>
                  D_X3_readLine_200 Q e_190.1 e_190.2 N
            else
              if (M Q 12) = 0 then
                zB (D_X3_readPrefer Q M N) fun e_168 =>
                D_X3_readLine_171 Q e_168.1 e_168.2.1 e_168.2.2
              else
                zB (D_X3_fail Q (2 : Int32) M) fun e_161 =>
                D_X3_readLine_171 Q e_161.1 e_161.2 N
          else
            if (M Q 11) = 0 then
              zB (D_X3_readLaw Q M N) fun e_139 =>
              D_X3_readLine_142 Q e_139.1 e_139.2.1 e_139.2.2
            else
              zB (D_X3_fail Q (2 : Int32) M) fun e_132 =>
              D_X3_readLine_142 Q e_132.1 e_132.2 N
        else
          zB (D_X3_readAsks Q M N) fun e_110 =>
          some (e_110.1, e_110.2.1, e_110.2.2)
      else
        if (4 : Int32) ≤ (M (Q + 1) 2) then
          zB (D_X3_fail Q (2 : Int32) M) fun e_96 =>
          D_X3_readLine_99 Q e_96.1 e_96.2 N
        else
          zB (D_X3_readParty Q M N) fun e_88 =>
          D_X3_readLine_99 Q e_88.1 e_88.2.1 e_88.2.2
    else
      if (10 : Int32) ≤ (M (Q + 1) 1) then
        zB (D_X3_fail Q (2 : Int32) M) fun e_63 =>
        D_X3_readLine_66 Q e_63.1 e_63.2 N
      else
        zB (D_X3_readHunter Q M N) fun e_55 =>
        D_X3_readLine_66 Q e_55.1 e_55.2.1 e_55.2.2
  else
    if (5 : Int32) ≤ (M (Q + 1) 0) then
      zB (D_X3_fail Q (2 : Int32) M) fun e_29 =>
      D_X3_readLine_32 Q e_29.1 e_29.2 N
    else
      zB (D_X3_readUnit Q M N) fun e_21 =>
      D_X3_readLine_32 Q e_21.1 e_21.2.1 e_21.2.2
set_option maxRecDepth 100000 in
set_option maxHeartbeats 4000000 in
theorem t_X3_readLine {l : Launch} {G : zG} {b : Nat} {L : List zC} {M : zMt} {N : zNt} {Q : Nat} (hQ : LX3 L Q)  {r : Int32 × zMt × zNt} (h : D_X3_readLine Q M N = some r) : zM l G b yX3_readLine cX3_readLine 1 (some .boolean) 8 0 0 [.ref Q] (L, M, N) (fun r2 z => r2 = some (.int r.1) ∧ z = (L, r.2.1, r.2.2) ∧ (r.1 = 0 ∨ r.1 = 1)) := by
  refine zM.of miX3_readLine (Nat.le_of_ble_eq_true rfl) ?_
  intro p e s m args below meth c X hr hname
  generalize hF : ((fun r2 z => r2 = some (.int r.1) ∧ z = (L, r.2.1, r.2.2) ∧ (r.1 = 0 ∨ r.1 = 1)) : Option Value → zS → Prop) = FQ
  change Zw p l e { frames := 8, cells := 0, slots := 0, locals := 80 * (8) } s m args below meth c G b 1 (MQ below (zQ G b FQ) args s 0 0 (fun q : Nat => b ≤ q)) 0 0 0 [some (.ref Q)] [] (L, M, N)
  obtain ⟨q_lt, q_o, q_draft, q_text, q_unitNames, q_hunterNames, q_partyNames, q_asked⟩ := id hQ
  obtain ⟨q_draft_lt, q_draft_o, q_draft_quota, q_draft_score, q_draft_guest, q_draft_party, q_draft_wishCount, q_draft_wishes, q_draft_has⟩ := id q_draft
  have J_200 : ∀ (y0_200 : Int32) (M_200 : zMt) (N_200 : zNt), (y0_200 = 0 ∨ y0_200 = 1) → D_X3_readLine_200 Q y0_200 M_200 N_200 = some r → Zw p l e { frames := 8, cells := 0, slots := 0, locals := 80 * (8) } s m args below meth c G b 1 (MQ below (zQ G b FQ) args s 0 0 (fun q : Nat => b ≤ q)) 0 0 200 [some (.ref (Q))] [.int y0_200] (L, M_200, N_200) := by
    intro y0_200 M_200 N_200 fb_y0_200 h
    unfold D_X3_readLine_200 at h
    refine a_zret X (by first | exact Or.inl rfl | exact Or.inr rfl | assumption) hr dX3_readLine_200 ⟨by decide, by decide⟩ ?_
    subst hF
    rw [← Option.some.inj h]
    exact ⟨rfl, rfl, (by first | exact Or.inl rfl | exact Or.inr rfl | assumption)⟩
  have J_171 : ∀ (y0_171 : Int32) (M_171 : zMt) (N_171 : zNt), (y0_171 = 0 ∨ y0_171 = 1) → D_X3_readLine_171 Q y0_171 M_171 N_171 = some r → Zw p l e { frames := 8, cells := 0, slots := 0, locals := 80 * (8) } s m args below meth c G b 1 (MQ below (zQ G b FQ) args s 0 0 (fun q : Nat => b ≤ q)) 0 0 171 [some (.ref (Q))] [.int y0_171] (L, M_171, N_171) := by
    intro y0_171 M_171 N_171 fb_y0_171 h
    unfold D_X3_readLine_171 at h
    refine a_zret X (by first | exact Or.inl rfl | exact Or.inr rfl | assumption) hr dX3_readLine_171 ⟨by decide, by decide⟩ ?_
    subst hF
    rw [← Option.some.inj h]
    exact ⟨rfl, rfl, (by first | exact Or.inl rfl | exact Or.inr rfl | assumption)⟩
  have J_142 : ∀ (y0_142 : Int32) (M_142 : zMt) (N_142 : zNt), (y0_142 = 0 ∨ y0_142 = 1) → D_X3_readLine_142 Q y0_142 M_142 N_142 = some r → Zw p l e { frames := 8, cells := 0, slots := 0, locals := 80 * (8) } s m args below meth c G b 1 (MQ below (zQ G b FQ) args s 0 0 (fun q : Nat => b ≤ q)) 0 0 142 [some (.ref (Q))] [.int y0_142] (L, M_142, N_142) := by
    intro y0_142 M_142 N_142 fb_y0_142 h
    unfold D_X3_readLine_142 at h
    refine a_zret X (by first | exact Or.inl rfl | exact Or.inr rfl | assumption) hr dX3_readLine_142 ⟨by decide, by decide⟩ ?_
    subst hF
    rw [← Option.some.inj h]
    exact ⟨rfl, rfl, (by first | exact Or.inl rfl | exact Or.inr rfl | assumption)⟩
  have J_99 : ∀ (y0_99 : Int32) (M_99 : zMt) (N_99 : zNt), (y0_99 = 0 ∨ y0_99 = 1) → D_X3_readLine_99 Q y0_99 M_99 N_99 = some r → Zw p l e { frames := 8, cells := 0, slots := 0, locals := 80 * (8) } s m args below meth c G b 1 (MQ below (zQ G b FQ) args s 0 0 (fun q : Nat => b ≤ q)) 0 0 99 [some (.ref (Q))] [.int y0_99] (L, M_99, N_99) := by
    intro y0_99 M_99 N_99 fb_y0_99 h
    unfold D_X3_readLine_99 at h
    refine a_zret X (by first | exact Or.inl rfl | exact Or.inr rfl | assumption) hr dX3_readLine_99 ⟨by decide, by decide⟩ ?_
    subst hF
    rw [← Option.some.inj h]
    exact ⟨rfl, rfl, (by first | exact Or.inl rfl | exact Or.inr rfl | assumption)⟩
  have J_66 : ∀ (y0_66 : Int32) (M_66 : zMt) (N_66 : zNt), (y0_66 = 0 ∨ y0_66 = 1) → D_X3_readLine_66 Q y0_66 M_66 N_66 = some r → Zw p l e { frames := 8, cells := 0, slots := 0, locals := 80 * (8) } s m args below meth c G b 1 (MQ below (zQ G b FQ) args s 0 0 (fun q : Nat => b ≤ q)) 0 0 66 [some (.ref (Q))] [.int y0_66] (L, M_66, N_66) := by
    intro y0_66 M_66 N_66 fb_y0_66 h
    unfold D_X3_readLine_66 at h
    refine a_zret X (by first | exact Or.inl rfl | exact Or.inr rfl | assumption) hr dX3_readLine_66 ⟨by decide, by decide⟩ ?_
    subst hF
    rw [← Option.some.inj h]
    exact ⟨rfl, rfl, (by first | exact Or.inl rfl | exact Or.inr rfl | assumption)⟩
  have J_32 : ∀ (y0_32 : Int32) (M_32 : zMt) (N_32 : zNt), (y0_32 = 0 ∨ y0_32 = 1) → D_X3_readLine_32 Q y0_32 M_32 N_32 = some r → Zw p l e { frames := 8, cells := 0, slots := 0, locals := 80 * (8) } s m args below meth c G b 1 (MQ below (zQ G b FQ) args s 0 0 (fun q : Nat => b ≤ q)) 0 0 32 [some (.ref (Q))] [.int y0_32] (L, M_32, N_32) := by
    intro y0_32 M_32 N_32 fb_y0_32 h
    unfold D_X3_readLine_32 at h
    refine a_zret X (by first | exact Or.inl rfl | exact Or.inr rfl | assumption) hr dX3_readLine_32 ⟨by decide, by decide⟩ ?_
    subst hF
    rw [← Option.some.inj h]
    exact ⟨rfl, rfl, (by first | exact Or.inl rfl | exact Or.inr rfl | assumption)⟩
  unfold D_X3_readLine at h
  refine a_aload_n X dX3_readLine_0 rfl ?_
  refine a_ldcS (i := 0) (q := ("TagDraw$Reader", 122, "unit")) X rfl rfl rfl dX3_readLine_1 ?_
  obtain ⟨e_3, f_3, h⟩ := zBx h
  refine a_callVx X dX3_readLine_3 miX3_says lm3_124 (t_X3_says (by assumption) (by first | assumption | decide) f_3) (by assumption) rfl rfl rfl (Nat.le_of_ble_eq_true rfl) ⟨by decide, by decide, by decide, by decide⟩ (fun r_3 S_3 q_3 => ?_)
  obtain ⟨rfl, rfl, b_3⟩ := q_3
  refine a_if_eq (tgt := 33) X dX3_readLine_6 (by decide) (fun h_6 => ?_) (fun h_6 => ?_)
  · replace h := (if_pos h_6).symm.trans h
    refine a_aload_n X dX3_readLine_33 rfl ?_
    refine a_ldcS (i := 1) (q := ("TagDraw$Reader", 128, "hunter")) X rfl rfl rfl dX3_readLine_34 ?_
    obtain ⟨e_36, f_36, h⟩ := zBx h
    refine a_callVx X dX3_readLine_36 miX3_says lm3_124 (t_X3_says (by assumption) (by first | assumption | decide) f_36) (by assumption) rfl rfl rfl (Nat.le_of_ble_eq_true rfl) ⟨by decide, by decide, by decide, by decide⟩ (fun r_36 S_36 q_36 => ?_)
    obtain ⟨rfl, rfl, b_36⟩ := q_36
    refine a_if_eq (tgt := 67) X dX3_readLine_39 (by decide) (fun h_39 => ?_) (fun h_39 => ?_)
    · replace h := (if_pos h_39).symm.trans h
      refine a_aload_n X dX3_readLine_67 rfl ?_
      refine a_ldcS (i := 3) (q := ("TagDraw$Reader", 132, "party")) X rfl rfl rfl dX3_readLine_68 ?_
      obtain ⟨e_70, f_70, h⟩ := zBx h
      refine a_callVx X dX3_readLine_70 miX3_says lm3_124 (t_X3_says (by assumption) (by first | assumption | decide) f_70) (by assumption) rfl rfl rfl (Nat.le_of_ble_eq_true rfl) ⟨by decide, by decide, by decide, by decide⟩ (fun r_70 S_70 q_70 => ?_)
      obtain ⟨rfl, rfl, b_70⟩ := q_70
      refine a_if_eq (tgt := 100) X dX3_readLine_73 (by decide) (fun h_73 => ?_) (fun h_73 => ?_)
      · replace h := (if_pos h_73).symm.trans h
        refine a_aload_n X dX3_readLine_100 rfl ?_
        refine a_ldcS (i := 4) (q := ("TagDraw$Reader", 134, "asks")) X rfl rfl rfl dX3_readLine_101 ?_
        obtain ⟨e_103, f_103, h⟩ := zBx h
        refine a_callVx X dX3_readLine_103 miX3_says lm3_124 (t_X3_says (by assumption) (by first | assumption | decide) f_103) (by assumption) rfl rfl rfl (Nat.le_of_ble_eq_true rfl) ⟨by decide, by decide, by decide, by decide⟩ (fun r_103 S_103 q_103 => ?_)
        obtain ⟨rfl, rfl, b_103⟩ := q_103
        refine a_if_eq (tgt := 114) X dX3_readLine_106 (by decide) (fun h_106 => ?_) (fun h_106 => ?_)
        · replace h := (if_pos h_106).symm.trans h
          refine a_aload_n X dX3_readLine_114 rfl ?_
          refine a_ldcS (i := 5) (q := ("TagDraw$Reader", 136, "law")) X rfl rfl rfl dX3_readLine_115 ?_
          obtain ⟨e_117, f_117, h⟩ := zBx h
          refine a_callVx X dX3_readLine_117 miX3_says lm3_124 (t_X3_says (by assumption) (by first | assumption | decide) f_117) (by assumption) rfl rfl rfl (Nat.le_of_ble_eq_true rfl) ⟨by decide, by decide, by decide, by decide⟩ (fun r_117 S_117 q_117 => ?_)
          obtain ⟨rfl, rfl, b_117⟩ := q_117
          refine a_if_eq (tgt := 143) X dX3_readLine_120 (by decide) (fun h_120 => ?_) (fun h_120 => ?_)
          · replace h := (if_pos h_120).symm.trans h
            refine a_aload_n X dX3_readLine_143 rfl ?_
            refine a_ldcS (i := 6) (q := ("TagDraw$Reader", 138, "prefer")) X rfl rfl rfl dX3_readLine_144 ?_
            obtain ⟨e_146, f_146, h⟩ := zBx h
            refine a_callVx X dX3_readLine_146 miX3_says lm3_124 (t_X3_says (by assumption) (by first | assumption | decide) f_146) (by assumption) rfl rfl rfl (Nat.le_of_ble_eq_true rfl) ⟨by decide, by decide, by decide, by decide⟩ (fun r_146 S_146 q_146 => ?_)
            obtain ⟨rfl, rfl, b_146⟩ := q_146
            refine a_if_eq (tgt := 172) X dX3_readLine_149 (by decide) (fun h_149 => ?_) (fun h_149 => ?_)
            · replace h := (if_pos h_149).symm.trans h
              refine a_aload_n X dX3_readLine_172 rfl ?_
              refine a_ldcS (i := 7) (q := ("TagDraw$Reader", 140, "guests")) X rfl rfl rfl dX3_readLine_173 ?_
              obtain ⟨e_175, f_175, h⟩ := zBx h
              refine a_callVx X dX3_readLine_175 miX3_says lm3_124 (t_X3_says (by assumption) (by first | assumption | decide) f_175) (by assumption) rfl rfl rfl (Nat.le_of_ble_eq_true rfl) ⟨by decide, by decide, by decide, by decide⟩ (fun r_175 S_175 q_175 => ?_)
              obtain ⟨rfl, rfl, b_175⟩ := q_175
              refine a_if_eq (tgt := 201) X dX3_readLine_178 (by decide) (fun h_178 => ?_) (fun h_178 => ?_)
              · replace h := (if_pos h_178).symm.trans h
                refine a_aload_n X dX3_readLine_201 rfl ?_
                refine a_iconst (v := 2) X dX3_readLine_202 (by decide) ?_
                obtain ⟨e_203, f_203, h⟩ := zBx h
                refine a_callVx X dX3_readLine_203 miX3_fail lm3_148 (t_X3_fail (by assumption) f_203) (by assumption) rfl rfl rfl (Nat.le_of_ble_eq_true rfl) ⟨by decide, by decide, by decide, by decide⟩ (fun r_203 S_203 q_203 => ?_)
                obtain ⟨rfl, rfl, b_203⟩ := q_203
                refine a_zret X (by first | exact Or.inl rfl | exact Or.inr rfl | assumption) hr dX3_readLine_206 ⟨by decide, by decide⟩ ?_
                subst hF
                rw [← Option.some.inj h]
                exact ⟨rfl, rfl, (by first | exact Or.inl rfl | exact Or.inr rfl | assumption)⟩
              · replace h := (if_neg h_178).symm.trans h
                refine a_aload_n X dX3_readLine_181 rfl ?_
                refine a_geti X lf3_65 (by assumption) rfl dX3_readLine_182 ?_
                refine a_if_eq (tgt := 196) X dX3_readLine_185 (by decide) (fun h_185 => ?_) (fun h_185 => ?_)
                · replace h := (if_pos h_185).symm.trans h
                  refine a_aload_n X dX3_readLine_196 rfl ?_
                  obtain ⟨e_197, f_197, h⟩ := zBx h
                  refine a_callVx X dX3_readLine_197 miX3_readGuests lm3_172 (t_X3_readGuests (by assumption) f_197) (by assumption) rfl rfl rfl (Nat.le_of_ble_eq_true rfl) ⟨by decide, by decide, by decide, by decide⟩ (fun r_197 S_197 q_197 => ?_)
                  obtain ⟨rfl, rfl, b_197⟩ := q_197
                  exact Zw.to2 (J_200 _ _ _ (by first | exact Or.inl rfl | exact Or.inr rfl | assumption) h) rfl rfl rfl
                · replace h := (if_neg h_185).symm.trans h
                  refine a_aload_n X dX3_readLine_188 rfl ?_
                  refine a_iconst (v := 2) X dX3_readLine_189 (by decide) ?_
                  obtain ⟨e_190, f_190, h⟩ := zBx h
                  refine a_callVx X dX3_readLine_190 miX3_fail lm3_148 (t_X3_fail (by assumption) f_190) (by assumption) rfl rfl rfl (Nat.le_of_ble_eq_true rfl) ⟨by decide, by decide, by decide, by decide⟩ (fun r_190 S_190 q_190 => ?_)
                  obtain ⟨rfl, rfl, b_190⟩ := q_190
                  refine a_goto (tgt := 200) X dX3_readLine_193 (by decide) ?_
                  exact Zw.to2 (J_200 _ _ _ (by first | exact Or.inl rfl | exact Or.inr rfl | assumption) h) rfl rfl rfl
            · replace h := (if_neg h_149).symm.trans h
              refine a_aload_n X dX3_readLine_152 rfl ?_
              refine a_geti X lf3_62 (by assumption) rfl dX3_readLine_153 ?_
              refine a_if_eq (tgt := 167) X dX3_readLine_156 (by decide) (fun h_156 => ?_) (fun h_156 => ?_)
              · replace h := (if_pos h_156).symm.trans h
                refine a_aload_n X dX3_readLine_167 rfl ?_
                obtain ⟨e_168, f_168, h⟩ := zBx h
                refine a_callVx X dX3_readLine_168 miX3_readPrefer lm3_169 (t_X3_readPrefer (by assumption) f_168) (by assumption) rfl rfl rfl (Nat.le_of_ble_eq_true rfl) ⟨by decide, by decide, by decide, by decide⟩ (fun r_168 S_168 q_168 => ?_)
                obtain ⟨rfl, rfl, b_168⟩ := q_168
                exact Zw.to2 (J_171 _ _ _ (by first | exact Or.inl rfl | exact Or.inr rfl | assumption) h) rfl rfl rfl
              · replace h := (if_neg h_156).symm.trans h
                refine a_aload_n X dX3_readLine_159 rfl ?_
                refine a_iconst (v := 2) X dX3_readLine_160 (by decide) ?_
                obtain ⟨e_161, f_161, h⟩ := zBx h
                refine a_callVx X dX3_readLine_161 miX3_fail lm3_148 (t_X3_fail (by assumption) f_161) (by assumption) rfl rfl rfl (Nat.le_of_ble_eq_true rfl) ⟨by decide, by decide, by decide, by decide⟩ (fun r_161 S_161 q_161 => ?_)
                obtain ⟨rfl, rfl, b_161⟩ := q_161
                refine a_goto (tgt := 171) X dX3_readLine_164 (by decide) ?_
                exact Zw.to2 (J_171 _ _ _ (by first | exact Or.inl rfl | exact Or.inr rfl | assumption) h) rfl rfl rfl
          · replace h := (if_neg h_120).symm.trans h
            refine a_aload_n X dX3_readLine_123 rfl ?_
            refine a_geti X lf3_58 (by assumption) rfl dX3_readLine_124 ?_
            refine a_if_eq (tgt := 138) X dX3_readLine_127 (by decide) (fun h_127 => ?_) (fun h_127 => ?_)
            · replace h := (if_pos h_127).symm.trans h
              refine a_aload_n X dX3_readLine_138 rfl ?_
              obtain ⟨e_139, f_139, h⟩ := zBx h
              refine a_callVx X dX3_readLine_139 miX3_readLaw lm3_166 (t_X3_readLaw (by assumption) f_139) (by assumption) rfl rfl rfl (Nat.le_of_ble_eq_true rfl) ⟨by decide, by decide, by decide, by decide⟩ (fun r_139 S_139 q_139 => ?_)
              obtain ⟨rfl, rfl, b_139⟩ := q_139
              exact Zw.to2 (J_142 _ _ _ (by first | exact Or.inl rfl | exact Or.inr rfl | assumption) h) rfl rfl rfl
            · replace h := (if_neg h_127).symm.trans h
              refine a_aload_n X dX3_readLine_130 rfl ?_
              refine a_iconst (v := 2) X dX3_readLine_131 (by decide) ?_
              obtain ⟨e_132, f_132, h⟩ := zBx h
              refine a_callVx X dX3_readLine_132 miX3_fail lm3_148 (t_X3_fail (by assumption) f_132) (by assumption) rfl rfl rfl (Nat.le_of_ble_eq_true rfl) ⟨by decide, by decide, by decide, by decide⟩ (fun r_132 S_132 q_132 => ?_)
              obtain ⟨rfl, rfl, b_132⟩ := q_132
              refine a_goto (tgt := 142) X dX3_readLine_135 (by decide) ?_
              exact Zw.to2 (J_142 _ _ _ (by first | exact Or.inl rfl | exact Or.inr rfl | assumption) h) rfl rfl rfl
        · replace h := (if_neg h_106).symm.trans h
          refine a_aload_n X dX3_readLine_109 rfl ?_
          obtain ⟨e_110, f_110, h⟩ := zBx h
          refine a_callVx X dX3_readLine_110 miX3_readAsks lm3_163 (t_X3_readAsks (by assumption) f_110) (by assumption) rfl rfl rfl (Nat.le_of_ble_eq_true rfl) ⟨by decide, by decide, by decide, by decide⟩ (fun r_110 S_110 q_110 => ?_)
          obtain ⟨rfl, rfl, b_110⟩ := q_110
          refine a_zret X (by first | exact Or.inl rfl | exact Or.inr rfl | assumption) hr dX3_readLine_113 ⟨by decide, by decide⟩ ?_
          subst hF
          rw [← Option.some.inj h]
          exact ⟨rfl, rfl, (by first | exact Or.inl rfl | exact Or.inr rfl | assumption)⟩
      · replace h := (if_neg h_73).symm.trans h
        refine a_aload_n X dX3_readLine_76 rfl ?_
        refine a_getr X lf3_12 (by assumption) rfl (by omega) dX3_readLine_77 ?_
        refine a_geti X lf3_157 (by assumption) rfl dX3_readLine_80 ?_
        refine a_iconst (v := 4) X dX3_readLine_83 (by decide) ?_
        refine a_icmp_ge (tgt := 94) X dX3_readLine_84 (by decide) (fun h_84 => ?_) (fun h_84 => ?_)
        · replace h := (if_pos h_84).symm.trans h
          refine a_aload_n X dX3_readLine_94 rfl ?_
          refine a_iconst (v := 2) X dX3_readLine_95 (by decide) ?_
          obtain ⟨e_96, f_96, h⟩ := zBx h
          refine a_callVx X dX3_readLine_96 miX3_fail lm3_148 (t_X3_fail (by assumption) f_96) (by assumption) rfl rfl rfl (Nat.le_of_ble_eq_true rfl) ⟨by decide, by decide, by decide, by decide⟩ (fun r_96 S_96 q_96 => ?_)
          obtain ⟨rfl, rfl, b_96⟩ := q_96
          exact Zw.to2 (J_99 _ _ _ (by first | exact Or.inl rfl | exact Or.inr rfl | assumption) h) rfl rfl rfl
        · replace h := (if_neg h_84).symm.trans h
          refine a_aload_n X dX3_readLine_87 rfl ?_
          obtain ⟨e_88, f_88, h⟩ := zBx h
          refine a_callVx X dX3_readLine_88 miX3_readParty lm3_160 (t_X3_readParty (by assumption) f_88) (by assumption) rfl rfl rfl (Nat.le_of_ble_eq_true rfl) ⟨by decide, by decide, by decide, by decide⟩ (fun r_88 S_88 q_88 => ?_)
          obtain ⟨rfl, rfl, b_88⟩ := q_88
          refine a_goto (tgt := 99) X dX3_readLine_91 (by decide) ?_
          exact Zw.to2 (J_99 _ _ _ (by first | exact Or.inl rfl | exact Or.inr rfl | assumption) h) rfl rfl rfl
    · replace h := (if_neg h_39).symm.trans h
      refine a_aload_n X dX3_readLine_42 rfl ?_
      refine a_getr X lf3_12 (by assumption) rfl (by omega) dX3_readLine_43 ?_
      refine a_geti X lf3_151 (by assumption) rfl dX3_readLine_46 ?_
      refine a_bipush (v := 10) X dX3_readLine_49 (by decide) ?_
      refine a_icmp_ge (tgt := 61) X dX3_readLine_51 (by decide) (fun h_51 => ?_) (fun h_51 => ?_)
      · replace h := (if_pos h_51).symm.trans h
        refine a_aload_n X dX3_readLine_61 rfl ?_
        refine a_iconst (v := 2) X dX3_readLine_62 (by decide) ?_
        obtain ⟨e_63, f_63, h⟩ := zBx h
        refine a_callVx X dX3_readLine_63 miX3_fail lm3_148 (t_X3_fail (by assumption) f_63) (by assumption) rfl rfl rfl (Nat.le_of_ble_eq_true rfl) ⟨by decide, by decide, by decide, by decide⟩ (fun r_63 S_63 q_63 => ?_)
        obtain ⟨rfl, rfl, b_63⟩ := q_63
        exact Zw.to2 (J_66 _ _ _ (by first | exact Or.inl rfl | exact Or.inr rfl | assumption) h) rfl rfl rfl
      · replace h := (if_neg h_51).symm.trans h
        refine a_aload_n X dX3_readLine_54 rfl ?_
        obtain ⟨e_55, f_55, h⟩ := zBx h
        refine a_callVx X dX3_readLine_55 miX3_readHunter lm3_154 (t_X3_readHunter (by assumption) f_55) (by assumption) rfl rfl rfl (Nat.le_of_ble_eq_true rfl) ⟨by decide, by decide, by decide, by decide⟩ (fun r_55 S_55 q_55 => ?_)
        obtain ⟨rfl, rfl, b_55⟩ := q_55
        refine a_goto (tgt := 66) X dX3_readLine_58 (by decide) ?_
        exact Zw.to2 (J_66 _ _ _ (by first | exact Or.inl rfl | exact Or.inr rfl | assumption) h) rfl rfl rfl
  · replace h := (if_neg h_6).symm.trans h
    refine a_aload_n X dX3_readLine_9 rfl ?_
    refine a_getr X lf3_12 (by assumption) rfl (by omega) dX3_readLine_10 ?_
    refine a_geti X lf3_142 (by assumption) rfl dX3_readLine_13 ?_
    refine a_iconst (v := 5) X dX3_readLine_16 (by decide) ?_
    refine a_icmp_ge (tgt := 27) X dX3_readLine_17 (by decide) (fun h_17 => ?_) (fun h_17 => ?_)
    · replace h := (if_pos h_17).symm.trans h
      refine a_aload_n X dX3_readLine_27 rfl ?_
      refine a_iconst (v := 2) X dX3_readLine_28 (by decide) ?_
      obtain ⟨e_29, f_29, h⟩ := zBx h
      refine a_callVx X dX3_readLine_29 miX3_fail lm3_148 (t_X3_fail (by assumption) f_29) (by assumption) rfl rfl rfl (Nat.le_of_ble_eq_true rfl) ⟨by decide, by decide, by decide, by decide⟩ (fun r_29 S_29 q_29 => ?_)
      obtain ⟨rfl, rfl, b_29⟩ := q_29
      exact Zw.to2 (J_32 _ _ _ (by first | exact Or.inl rfl | exact Or.inr rfl | assumption) h) rfl rfl rfl
    · replace h := (if_neg h_17).symm.trans h
      refine a_aload_n X dX3_readLine_20 rfl ?_
      obtain ⟨e_21, f_21, h⟩ := zBx h
      refine a_callVx X dX3_readLine_21 miX3_readUnit lm3_145 (t_X3_readUnit (by assumption) f_21) (by assumption) rfl rfl rfl (Nat.le_of_ble_eq_true rfl) ⟨by decide, by decide, by decide, by decide⟩ (fun r_21 S_21 q_21 => ?_)
      obtain ⟨rfl, rfl, b_21⟩ := q_21
      refine a_goto (tgt := 32) X dX3_readLine_24 (by decide) ?_
      exact Zw.to2 (J_32 _ _ _ (by first | exact Or.inl rfl | exact Or.inr rfl | assumption) h) rfl rfl rfl
