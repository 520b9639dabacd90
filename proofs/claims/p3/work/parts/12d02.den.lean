noncomputable def D_X2_open (Q : Nat) (v0 : Int32) (M : zMt) : Option (zMt) :=
  zLt (zwr M (Q + 5) 10 (M Q 1) (0 : Int32)) fun M_9 =>
  zLt (zwr M_9 (Q + 6) 10 (M_9 Q 1) (0 : Int32)) fun M_21 =>
  zLt (zwr M_21 (Q + 7) 10 (M_21 Q 1) (0 : Int32)) fun M_33 =>
  zLt (zwr M_33 (Q + 9) 10 (M_33 Q 1) (0 : Int32)) fun M_45 =>
  zLt (zwr M_45 (Q + 10) 10 (M_45 Q 1) v0) fun M_57 =>
  zLt (zu M_57 Q 1 ((M_57 Q 1) + (1 : Int32))) fun M_67 =>
  some (M_67)
set_option maxRecDepth 100000 in
set_option maxHeartbeats 4000000 in
theorem t_X2_open {l : Launch} {G : zG} {b : Nat} {L : List zC} {M : zMt} {N : zNt} {Q : Nat} (hQ : LX2 L Q) {v0 : Int32} {r : zMt} (h : D_X2_open Q v0 M = some r) : zM l G b yX2_open cX2_open 2 none 1 0 0 [.ref Q, .int v0] (L, M, N) (fun r2 z => r2 = none ∧ z = (L, r, N)) := by
  refine zM.of miX2_open (Nat.le_of_ble_eq_true rfl) ?_
  intro p e s m args below meth c X hr hname
  generalize hF : ((fun r2 z => r2 = none ∧ z = (L, r, N)) : Option Value → zS → Prop) = FQ
  change Zw p l e { frames := 1, cells := 0, slots := 0, locals := 80 * (1) } s m args below meth c G b 2 (MQ below (zQ G b FQ) args s 0 0 (fun q : Nat => b ≤ q)) 0 0 0 [some (.ref Q), some (.int v0)] [] (L, M, N)
  obtain ⟨q_lt, q_o, q_quota, q_preferred, q_forGuests, q_applicantOf, q_size, q_guestCount, q_score, q_tickets, q_bits, q_party, q_wishCount, q_wishes⟩ := id hQ
  unfold D_X2_open at h
  refine a_aload_n X dX2_open_0 rfl ?_
  refine a_getr X lf2_24 (by assumption) rfl (by omega) dX2_open_1 ?_
  refine a_aload_n X dX2_open_4 rfl ?_
  refine a_geti X lf2_52 (by assumption) rfl dX2_open_5 ?_
  refine a_iconst (v := 0) X dX2_open_8 (by decide) ?_
  obtain ⟨M_9, f_9, h⟩ := zLtx h
  refine a_callSNu X dX2_open_9 miX7_put lm2_96 (zMu (c_put (by assumption) (by first | decide | assumption)) f_9) rfl rfl (Nat.le_of_ble_eq_true rfl) ⟨by decide, by decide, by decide, by decide⟩ ?_
  refine a_aload_n X dX2_open_12 rfl ?_
  refine a_getr X lf2_27 (by assumption) rfl (by omega) dX2_open_13 ?_
  refine a_aload_n X dX2_open_16 rfl ?_
  refine a_geti X lf2_52 (by assumption) rfl dX2_open_17 ?_
  refine a_iconst (v := 0) X dX2_open_20 (by decide) ?_
  obtain ⟨M_21, f_21, h⟩ := zLtx h
  refine a_callSNu X dX2_open_21 miX7_put lm2_96 (zMu (c_put (by assumption) (by first | decide | assumption)) f_21) rfl rfl (Nat.le_of_ble_eq_true rfl) ⟨by decide, by decide, by decide, by decide⟩ ?_
  refine a_aload_n X dX2_open_24 rfl ?_
  refine a_getr X lf2_30 (by assumption) rfl (by omega) dX2_open_25 ?_
  refine a_aload_n X dX2_open_28 rfl ?_
  refine a_geti X lf2_52 (by assumption) rfl dX2_open_29 ?_
  refine a_iconst (v := 0) X dX2_open_32 (by decide) ?_
  obtain ⟨M_33, f_33, h⟩ := zLtx h
  refine a_callSNu X dX2_open_33 miX7_put lm2_96 (zMu (c_put (by assumption) (by first | decide | assumption)) f_33) rfl rfl (Nat.le_of_ble_eq_true rfl) ⟨by decide, by decide, by decide, by decide⟩ ?_
  refine a_aload_n X dX2_open_36 rfl ?_
  refine a_getr X lf2_36 (by assumption) rfl (by omega) dX2_open_37 ?_
  refine a_aload_n X dX2_open_40 rfl ?_
  refine a_geti X lf2_52 (by assumption) rfl dX2_open_41 ?_
  refine a_iconst (v := 0) X dX2_open_44 (by decide) ?_
  obtain ⟨M_45, f_45, h⟩ := zLtx h
  refine a_callSNu X dX2_open_45 miX7_put lm2_96 (zMu (c_put (by assumption) (by first | decide | assumption)) f_45) rfl rfl (Nat.le_of_ble_eq_true rfl) ⟨by decide, by decide, by decide, by decide⟩ ?_
  refine a_aload_n X dX2_open_48 rfl ?_
  refine a_getr X lf2_39 (by assumption) rfl (by omega) dX2_open_49 ?_
  refine a_aload_n X dX2_open_52 rfl ?_
  refine a_geti X lf2_52 (by assumption) rfl dX2_open_53 ?_
  refine a_iload_n X dX2_open_56 rfl ?_
  obtain ⟨M_57, f_57, h⟩ := zLtx h
  refine a_callSNu X dX2_open_57 miX7_put lm2_96 (zMu (c_put (by assumption) (by first | decide | assumption)) f_57) rfl rfl (Nat.le_of_ble_eq_true rfl) ⟨by decide, by decide, by decide, by decide⟩ ?_
  refine a_aload_n X dX2_open_60 rfl ?_
  refine a_dup X dX2_open_61 rfl ?_
  refine a_geti X lf2_52 (by assumption) rfl dX2_open_62 ?_
  refine a_iconst (v := 1) X dX2_open_65 (by decide) ?_
  refine a_iadd X dX2_open_66 ?_
  obtain ⟨M_67, f_67, h⟩ := zLtx h
  refine d_puti X lf2_52 (by assumption) rfl dX2_open_67 f_67 ?_
  refine a_vret X hr dX2_open_70 ⟨by decide, by decide⟩ ?_
  subst hF
  rw [← Option.some.inj h]
  exact ⟨rfl, rfl⟩
noncomputable def D_X2_join_87 (Q : Nat) (A : Nat) : Nat → Int32 → Int32 → Int32 → zMt → Option (zMt)
  | 0, _, _, _, _ => none
  | n + 1, x2_87, x3_87, x4_87, M_87 =>
    if (3 : Int32) ≤ x4_87 then
      some (M_87)
    else
      zLt (zwr M_87 (Q + 12) 30 ((x3_87 * (3 : Int32)) + x4_87) (zrd 0 (M_87 (A + 6)) 30 ((x2_87 * (3 : Int32)) + x4_87))) fun M_116 =>
      (D_X2_join_87 Q A n) x2_87 x3_87 (x4_87 + 1) M_116
noncomputable def D_X2_join (Q : Nat) (A : Nat) (v0 : Int32) (M : zMt) : Option (zMt) :=
  zLt (zwr M (Q + 4) 10 v0 ((M Q 1) - (1 : Int32))) fun M_13 =>
  zLt (zwr M_13 (Q + 5) 10 ((M Q 1) - (1 : Int32)) (zrd 0 (M_13 (Q + 5)) 10 ((M Q 1) - (1 : Int32)) + (1 : Int32))) fun M_22 =>
  zLt (zwr M_22 (Q + 6) 10 ((M Q 1) - (1 : Int32)) (zrd 0 (M_22 (Q + 6)) 10 ((M Q 1) - (1 : Int32)) + (zrd 0 (M_22 (A + 3)) 10 v0))) fun M_38 =>
  zLt (zwr M_38 (Q + 7) 10 ((M Q 1) - (1 : Int32)) (zrd 0 (M_38 (Q + 7)) 10 ((M Q 1) - (1 : Int32)) + (zrd 0 (M_38 (A + 2)) 10 v0))) fun M_54 =>
  zLt (zwr M_54 (Q + 9) 10 ((M Q 1) - (1 : Int32)) (zrd 0 (M_54 (Q + 9)) 10 ((M Q 1) - (1 : Int32)) + ((1 : Int32) <<< (v0 &&& 31)))) fun M_65 =>
  zLt (zwr M_65 (Q + 11) 10 ((M Q 1) - (1 : Int32)) (zrd 0 (M_65 (A + 5)) 10 v0)) fun M_81 =>
  D_X2_join_87 Q A zFu v0 ((M Q 1) - (1 : Int32)) (0 : Int32) M_81
set_option maxRecDepth 100000 in
set_option maxHeartbeats 4000000 in
theorem t_X2_join {l : Launch} {G : zG} {b : Nat} {L : List zC} {M : zMt} {N : zNt} {Q : Nat} {A : Nat} (hQ : LX2 L Q) (hA : LX4 L A) {v0 : Int32} {r : zMt} (h : D_X2_join Q A v0 M = some r) : zM l G b yX2_join cX2_join 5 none 1 0 0 [.ref Q, .ref A, .int v0] (L, M, N) (fun r2 z => r2 = none ∧ z = (L, r, N)) := by
  refine zM.of miX2_join (Nat.le_of_ble_eq_true rfl) ?_
  intro p e s m args below meth c X hr hname
  generalize hF : ((fun r2 z => r2 = none ∧ z = (L, r, N)) : Option Value → zS → Prop) = FQ
  change Zw p l e { frames := 1, cells := 0, slots := 0, locals := 80 * (1) } s m args below meth c G b 5 (MQ below (zQ G b FQ) args s 0 0 (fun q : Nat => b ≤ q)) 0 0 0 [some (.ref Q), some (.ref A), some (.int v0), none, none] [] (L, M, N)
  obtain ⟨q_lt, q_o, q_quota, q_preferred, q_forGuests, q_applicantOf, q_size, q_guestCount, q_score, q_tickets, q_bits, q_party, q_wishCount, q_wishes⟩ := id hQ
  obtain ⟨a_lt, a_o, a_quota, a_score, a_guest, a_party, a_wishCount, a_wishes, a_has⟩ := id hA
  have L_87 : ∀ u : Nat, ∀ (x2_87 : Int32) (x3_87 : Int32) (x4_87 : Int32) (M_87 : zMt), D_X2_join_87 Q A u x2_87 x3_87 x4_87 M_87 = some r → Zw p l e { frames := 1, cells := 0, slots := 0, locals := 80 * (1) } s m args below meth c G b 5 (MQ below (zQ G b FQ) args s 0 0 (fun q : Nat => b ≤ q)) 0 0 87 [some (.ref (Q)), some (.ref (A)), some (.int x2_87), some (.int x3_87), some (.int x4_87)] [] (L, M_87, N) := by
    intro u
    induction u with
    | zero => intro x2_87 x3_87 x4_87 M_87 h; cases (show none = some r from h)
    | succ u_87 ih_87 =>
      intro x2_87 x3_87 x4_87 M_87 h
      rw [D_X2_join_87] at h
      refine a_iload X dX2_join_87 rfl ?_
      refine a_iconst (v := 3) X dX2_join_89 (by decide) ?_
      refine a_icmp_ge (tgt := 125) X dX2_join_90 (by decide) (fun h_90 => ?_) (fun h_90 => ?_)
      · replace h := (if_pos h_90).symm.trans h
        refine a_vret X hr dX2_join_125 ⟨by decide, by decide⟩ ?_
        subst hF
        rw [← Option.some.inj h]
        exact ⟨rfl, rfl⟩
      · replace h := (if_neg h_90).symm.trans h
        refine a_aload_n X dX2_join_93 rfl ?_
        refine a_getr X lf2_45 (by assumption) rfl (by omega) dX2_join_94 ?_
        refine a_iload_n X dX2_join_97 rfl ?_
        refine a_iconst (v := 3) X dX2_join_98 (by decide) ?_
        refine a_imul X dX2_join_99 ?_
        refine a_iload X dX2_join_100 rfl ?_
        refine a_iadd X dX2_join_102 ?_
        refine a_aload_n X dX2_join_103 rfl ?_
        refine a_getr X lf2_114 (by assumption) rfl (by omega) dX2_join_104 ?_
        refine a_iload_n X dX2_join_107 rfl ?_
        refine a_iconst (v := 3) X dX2_join_108 (by decide) ?_
        refine a_imul X dX2_join_109 ?_
        refine a_iload X dX2_join_110 rfl ?_
        refine a_iadd X dX2_join_112 ?_
        refine a_callSNv X dX2_join_113 miX7_cell lm2_62 (c_cell (by assumption) (by first | decide | assumption)) rfl rfl (Nat.le_of_ble_eq_true rfl) ⟨by decide, by decide, by decide, by decide⟩ ?_
        obtain ⟨M_116, f_116, h⟩ := zLtx h
        refine a_callSNu X dX2_join_116 miX7_put lm2_96 (zMu (c_put (by assumption) (by first | decide | assumption)) f_116) rfl rfl (Nat.le_of_ble_eq_true rfl) ⟨by decide, by decide, by decide, by decide⟩ ?_
        refine a_iinc (v := x4_87 + 1) X dX2_join_119 (by decide) rfl zi_1 ?_
        refine a_goto (tgt := 87) X dX2_join_122 (by decide) ?_
        exact Zw.to2 (ih_87 _ _ _ _ h) rfl rfl rfl
  have H_87 : ∀ (x2_87 : Int32) (x3_87 : Int32) (x4_87 : Int32) (M_87 : zMt), D_X2_join_87 Q A zFu x2_87 x3_87 x4_87 M_87 = some r → Zw p l e { frames := 1, cells := 0, slots := 0, locals := 80 * (1) } s m args below meth c G b 5 (MQ below (zQ G b FQ) args s 0 0 (fun q : Nat => b ≤ q)) 0 0 87 [some (.ref (Q)), some (.ref (A)), some (.int x2_87), some (.int x3_87), some (.int x4_87)] [] (L, M_87, N) := L_87 zFu
  unfold D_X2_join at h
  refine a_aload_n X dX2_join_0 rfl ?_
  refine a_geti X lf2_52 (by assumption) rfl dX2_join_1 ?_
  refine a_iconst (v := 1) X dX2_join_4 (by decide) ?_
  refine a_isub X dX2_join_5 ?_
  refine a_istore_n X dX2_join_6 (by decide) ?_
  refine a_aload_n X dX2_join_7 rfl ?_
  refine a_getr X lf2_21 (by assumption) rfl (by omega) dX2_join_8 ?_
  refine a_iload_n X dX2_join_11 rfl ?_
  refine a_iload_n X dX2_join_12 rfl ?_
  obtain ⟨M_13, f_13, h⟩ := zLtx h
  refine a_callSNu X dX2_join_13 miX7_put lm2_96 (zMu (c_put (by assumption) (by first | decide | assumption)) f_13) rfl rfl (Nat.le_of_ble_eq_true rfl) ⟨by decide, by decide, by decide, by decide⟩ ?_
  refine a_aload_n X dX2_join_16 rfl ?_
  refine a_getr X lf2_24 (by assumption) rfl (by omega) dX2_join_17 ?_
  refine a_iload_n X dX2_join_20 rfl ?_
  refine a_iconst (v := 1) X dX2_join_21 (by decide) ?_
  obtain ⟨M_22, f_22, h⟩ := zLtx h
  refine a_callSNu X dX2_join_22 miX7_add lm2_106 (zMu (c_add (by assumption) (by first | decide | assumption)) f_22) rfl rfl (Nat.le_of_ble_eq_true rfl) ⟨by decide, by decide, by decide, by decide⟩ ?_
  refine a_aload_n X dX2_join_25 rfl ?_
  refine a_getr X lf2_27 (by assumption) rfl (by omega) dX2_join_26 ?_
  refine a_iload_n X dX2_join_29 rfl ?_
  refine a_aload_n X dX2_join_30 rfl ?_
  refine a_getr X lf2_109 (by assumption) rfl (by omega) dX2_join_31 ?_
  refine a_iload_n X dX2_join_34 rfl ?_
  refine a_callSNv X dX2_join_35 miX7_cell lm2_62 (c_cell (by assumption) (by first | decide | assumption)) rfl rfl (Nat.le_of_ble_eq_true rfl) ⟨by decide, by decide, by decide, by decide⟩ ?_
  obtain ⟨M_38, f_38, h⟩ := zLtx h
  refine a_callSNu X dX2_join_38 miX7_add lm2_106 (zMu (c_add (by assumption) (by first | decide | assumption)) f_38) rfl rfl (Nat.le_of_ble_eq_true rfl) ⟨by decide, by decide, by decide, by decide⟩ ?_
  refine a_aload_n X dX2_join_41 rfl ?_
  refine a_getr X lf2_30 (by assumption) rfl (by omega) dX2_join_42 ?_
  refine a_iload_n X dX2_join_45 rfl ?_
  refine a_aload_n X dX2_join_46 rfl ?_
  refine a_getr X lf2_112 (by assumption) rfl (by omega) dX2_join_47 ?_
  refine a_iload_n X dX2_join_50 rfl ?_
  refine a_callSNv X dX2_join_51 miX7_cell lm2_62 (c_cell (by assumption) (by first | decide | assumption)) rfl rfl (Nat.le_of_ble_eq_true rfl) ⟨by decide, by decide, by decide, by decide⟩ ?_
  obtain ⟨M_54, f_54, h⟩ := zLtx h
  refine a_callSNu X dX2_join_54 miX7_add lm2_106 (zMu (c_add (by assumption) (by first | decide | assumption)) f_54) rfl rfl (Nat.le_of_ble_eq_true rfl) ⟨by decide, by decide, by decide, by decide⟩ ?_
  refine a_aload_n X dX2_join_57 rfl ?_
  refine a_getr X lf2_36 (by assumption) rfl (by omega) dX2_join_58 ?_
  refine a_iload_n X dX2_join_61 rfl ?_
  refine a_iconst (v := 1) X dX2_join_62 (by decide) ?_
  refine a_iload_n X dX2_join_63 rfl ?_
  refine a_ishl X dX2_join_64 ?_
  obtain ⟨M_65, f_65, h⟩ := zLtx h
  refine a_callSNu X dX2_join_65 miX7_add lm2_106 (zMu (c_add (by assumption) (by first | decide | assumption)) f_65) rfl rfl (Nat.le_of_ble_eq_true rfl) ⟨by decide, by decide, by decide, by decide⟩ ?_
  refine a_aload_n X dX2_join_68 rfl ?_
  refine a_getr X lf2_42 (by assumption) rfl (by omega) dX2_join_69 ?_
  refine a_iload_n X dX2_join_72 rfl ?_
  refine a_aload_n X dX2_join_73 rfl ?_
  refine a_getr X lf2_113 (by assumption) rfl (by omega) dX2_join_74 ?_
  refine a_iload_n X dX2_join_77 rfl ?_
  refine a_callSNv X dX2_join_78 miX7_cell lm2_62 (c_cell (by assumption) (by first | decide | assumption)) rfl rfl (Nat.le_of_ble_eq_true rfl) ⟨by decide, by decide, by decide, by decide⟩ ?_
  obtain ⟨M_81, f_81, h⟩ := zLtx h
  refine a_callSNu X dX2_join_81 miX7_put lm2_96 (zMu (c_put (by assumption) (by first | decide | assumption)) f_81) rfl rfl (Nat.le_of_ble_eq_true rfl) ⟨by decide, by decide, by decide, by decide⟩ ?_
  refine a_iconst (v := 0) X dX2_join_84 (by decide) ?_
  refine a_istore X dX2_join_85 (by decide) ?_
  exact Zw.to2 (H_87 _ _ _ _ h) rfl rfl rfl
noncomputable def D_X2_close_72 (Q : Nat) (y1_72 : Int32) (y2_72 : Int32) (M_72 : zMt) : Option (zMt) :=
  zLt (zwr M_72 (Q + 8) 10 y1_72 y2_72) fun M_72 =>
  some (M_72)
noncomputable def D_X2_close_27 (Q : Nat) (x1_27 : Int32) (x2_27 : Int32) (y0_27 : Int32) (M_27 : zMt) : Option (zMt) :=
  zLt (zwr M_27 (Q + 7) 10 x1_27 y0_27) fun M_36 =>
  if x2_27 = (2 : Int32) then
    D_X2_close_72 Q x1_27 ((1 : Int32) + (y0_27 * y0_27)) M_36
  else
    if x2_27 = (1 : Int32) then
      D_X2_close_72 Q x1_27 ((1 : Int32) + y0_27) M_36
    else
      D_X2_close_72 Q x1_27 (1 : Int32) M_36
noncomputable def D_X2_close (Q : Nat) (v0 : Int32) (v1 : Int32) (M : zMt) : Option (zMt) :=
  if (zrd 0 (M (Q + 5)) 10 v0) = 0 then
    D_X2_close_27 Q v0 v1 (0 : Int32) M
  else
    zZ (zrd 0 (M (Q + 5)) 10 v0) <|
    D_X2_close_27 Q v0 v1 ((zrd 0 (M (Q + 7)) 10 v0) / (zrd 0 (M (Q + 5)) 10 v0)) M
set_option maxRecDepth 100000 in
set_option maxHeartbeats 4000000 in
theorem t_X2_close {l : Launch} {G : zG} {b : Nat} {L : List zC} {M : zMt} {N : zNt} {Q : Nat} (hQ : LX2 L Q) {v0 : Int32} {v1 : Int32} {r : zMt} (h : D_X2_close Q v0 v1 M = some r) : zM l G b yX2_close cX2_close 5 none 1 0 0 [.ref Q, .int v0, .int v1] (L, M, N) (fun r2 z => r2 = none ∧ z = (L, r, N)) := by
  refine zM.of miX2_close (Nat.le_of_ble_eq_true rfl) ?_
  intro p e s m args below meth c X hr hname
  generalize hF : ((fun r2 z => r2 = none ∧ z = (L, r, N)) : Option Value → zS → Prop) = FQ
  change Zw p l e { frames := 1, cells := 0, slots := 0, locals := 80 * (1) } s m args below meth c G b 5 (MQ below (zQ G b FQ) args s 0 0 (fun q : Nat => b ≤ q)) 0 0 0 [some (.ref Q), some (.int v0), some (.int v1), none, none] [] (L, M, N)
  obtain ⟨q_lt, q_o, q_quota, q_preferred, q_forGuests, q_applicantOf, q_size, q_guestCount, q_score, q_tickets, q_bits, q_party, q_wishCount, q_wishes⟩ := id hQ
  have J_72 : ∀ (x1_72 : Int32) (x2_72 : Int32) (x3_72 : Int32) (x4_72 : Int32) (y1_72 : Int32) (y2_72 : Int32) (M_72 : zMt), D_X2_close_72 Q y1_72 y2_72 M_72 = some r → Zw p l e { frames := 1, cells := 0, slots := 0, locals := 80 * (1) } s m args below meth c G b 5 (MQ below (zQ G b FQ) args s 0 0 (fun q : Nat => b ≤ q)) 0 0 72 [some (.ref (Q)), some (.int x1_72), some (.int x2_72), some (.int x3_72), some (.int x4_72)] [.int y2_72, .int y1_72, .ref (Q + 8)] (L, M_72, N) := by
    intro x1_72 x2_72 x3_72 x4_72 y1_72 y2_72 M_72 h
    unfold D_X2_close_72 at h
    obtain ⟨M_72, f_72, h⟩ := zLtx h
    refine a_callSNu X dX2_close_72 miX7_put lm2_96 (zMu (c_put (by assumption) (by first | decide | assumption)) f_72) rfl rfl (Nat.le_of_ble_eq_true rfl) ⟨by decide, by decide, by decide, by decide⟩ ?_
    refine a_vret X hr dX2_close_75 ⟨by decide, by decide⟩ ?_
    subst hF
    rw [← Option.some.inj h]
    exact ⟨rfl, rfl⟩
  have J_27 : ∀ (x1_27 : Int32) (x2_27 : Int32) (x3_27 : Int32) (x4_27 : Option Value) (y0_27 : Int32) (M_27 : zMt), D_X2_close_27 Q x1_27 x2_27 y0_27 M_27 = some r → Zw p l e { frames := 1, cells := 0, slots := 0, locals := 80 * (1) } s m args below meth c G b 5 (MQ below (zQ G b FQ) args s 0 0 (fun q : Nat => b ≤ q)) 0 0 27 [some (.ref (Q)), some (.int x1_27), some (.int x2_27), some (.int x3_27), x4_27] [.int y0_27] (L, M_27, N) := by
    intro x1_27 x2_27 x3_27 x4_27 y0_27 M_27 h
    unfold D_X2_close_27 at h
    refine a_istore X dX2_close_27 (by decide) ?_
    refine a_aload_n X dX2_close_29 rfl ?_
    refine a_getr X lf2_30 (by assumption) rfl (by omega) dX2_close_30 ?_
    refine a_iload_n X dX2_close_33 rfl ?_
    refine a_iload X dX2_close_34 rfl ?_
    obtain ⟨M_36, f_36, h⟩ := zLtx h
    refine a_callSNu X dX2_close_36 miX7_put lm2_96 (zMu (c_put (by assumption) (by first | decide | assumption)) f_36) rfl rfl (Nat.le_of_ble_eq_true rfl) ⟨by decide, by decide, by decide, by decide⟩ ?_
    refine a_aload_n X dX2_close_39 rfl ?_
    refine a_getr X lf2_33 (by assumption) rfl (by omega) dX2_close_40 ?_
    refine a_iload_n X dX2_close_43 rfl ?_
    refine a_iload_n X dX2_close_44 rfl ?_
    refine a_iconst (v := 2) X dX2_close_45 (by decide) ?_
    refine a_icmp_ne (tgt := 59) X dX2_close_46 (by decide) (fun h_46 => ?_) (fun h_46 => ?_)
    · replace h := (if_neg h_46).symm.trans h
      refine a_iload_n X dX2_close_59 rfl ?_
      refine a_iconst (v := 1) X dX2_close_60 (by decide) ?_
      refine a_icmp_ne (tgt := 71) X dX2_close_61 (by decide) (fun h_61 => ?_) (fun h_61 => ?_)
      · replace h := (if_neg h_61).symm.trans h
        refine a_iconst (v := 1) X dX2_close_71 (by decide) ?_
        exact Zw.to2 (J_72 _ _ _ _ _ _ _ h) rfl rfl rfl
      · replace h := (if_pos h_61).symm.trans h
        refine a_iconst (v := 1) X dX2_close_64 (by decide) ?_
        refine a_iload X dX2_close_65 rfl ?_
        refine a_iadd X dX2_close_67 ?_
        refine a_goto (tgt := 72) X dX2_close_68 (by decide) ?_
        exact Zw.to2 (J_72 _ _ _ _ _ _ _ h) rfl rfl rfl
    · replace h := (if_pos h_46).symm.trans h
      refine a_iconst (v := 1) X dX2_close_49 (by decide) ?_
      refine a_iload X dX2_close_50 rfl ?_
      refine a_iload X dX2_close_52 rfl ?_
      refine a_imul X dX2_close_54 ?_
      refine a_iadd X dX2_close_55 ?_
      refine a_goto (tgt := 72) X dX2_close_56 (by decide) ?_
      exact Zw.to2 (J_72 _ _ _ _ _ _ _ h) rfl rfl rfl
  unfold D_X2_close at h
  refine a_aload_n X dX2_close_0 rfl ?_
  refine a_getr X lf2_24 (by assumption) rfl (by omega) dX2_close_1 ?_
  refine a_iload_n X dX2_close_4 rfl ?_
  refine a_callSNv X dX2_close_5 miX7_cell lm2_62 (c_cell (by assumption) (by first | decide | assumption)) rfl rfl (Nat.le_of_ble_eq_true rfl) ⟨by decide, by decide, by decide, by decide⟩ ?_
  refine a_istore_n X dX2_close_8 (by decide) ?_
  refine a_iload_n X dX2_close_9 rfl ?_
  refine a_if_ne (tgt := 17) X dX2_close_10 (by decide) (fun h_10 => ?_) (fun h_10 => ?_)
  · replace h := (if_neg h_10).symm.trans h
    refine a_aload_n X dX2_close_17 rfl ?_
    refine a_getr X lf2_30 (by assumption) rfl (by omega) dX2_close_18 ?_
    refine a_iload_n X dX2_close_21 rfl ?_
    refine a_callSNv X dX2_close_22 miX7_cell lm2_62 (c_cell (by assumption) (by first | decide | assumption)) rfl rfl (Nat.le_of_ble_eq_true rfl) ⟨by decide, by decide, by decide, by decide⟩ ?_
    refine a_iload_n X dX2_close_25 rfl ?_
    obtain ⟨z_26, h⟩ := zZx h
    refine a_idiv X dX2_close_26 (z_26) ?_
    exact Zw.to2 (J_27 _ _ _ _ _ _ h) rfl rfl rfl
  · replace h := (if_pos h_10).symm.trans h
    refine a_iconst (v := 0) X dX2_close_13 (by decide) ?_
    refine a_goto (tgt := 27) X dX2_close_14 (by decide) ?_
    exact Zw.to2 (J_27 _ _ _ _ _ _ h) rfl rfl rfl
noncomputable def D_X2_gather_111 (Q : Nat) (A : Nat) : Nat → Int32 → zMt → Option (zMt)
  | 0, _, _ => none
  | n + 1, x2_111, M_111 =>
    if (M_111 Q 1) ≤ x2_111 then
      some (M_111)
    else
      zB (D_X2_close Q x2_111 (M_111 A 3) M_111) fun e_125 =>
      zLt (zu e_125 Q 2 ((e_125 Q 2) + (zrd 0 (e_125 (Q + 8)) 10 x2_111))) fun M_142 =>
      (D_X2_gather_111 Q A n) (x2_111 + 1) M_142
noncomputable def D_X2_gather_92 (Q : Nat) (A : Nat) (k51 : Int32 → zMt → Option (zMt)) (k66 : Int32 → Int32 → zMt → Option (zMt)) (x2_92 : Int32) (x3_92 : Int32) (M_92 : zMt) : Option (zMt) :=
  k66 x2_92 (x3_92 + 1) M_92
noncomputable def D_X2_gather_66 (Q : Nat) (A : Nat) (k51 : Int32 → zMt → Option (zMt)) : Nat → Int32 → Int32 → zMt → Option (zMt)
  | 0, _, _, _ => none
  | n + 1, x2_66, x3_66, M_66 =>
    if (M_66 A 1) ≤ x3_66 then
      k51 (x2_66 + 1) M_66
    else
      if (zrd 0 (M_66 (A + 4)) 10 x3_66) = x2_66 then
        zB (D_X2_join Q A x3_66 M_66) fun e_89 =>
        D_X2_gather_92 Q A k51 (D_X2_gather_66 Q A k51 n) x2_66 x3_66 e_89
      else
        D_X2_gather_92 Q A k51 (D_X2_gather_66 Q A k51 n) x2_66 x3_66 M_66
noncomputable def D_X2_gather_51 (Q : Nat) (A : Nat) : Nat → Int32 → zMt → Option (zMt)
  | 0, _, _ => none
  | n + 1, x2_51, M_51 =>
    if (M_51 A 2) ≤ x2_51 then
      zLt (zu M_51 Q 2 (0 : Int32)) fun M_106 =>
      D_X2_gather_111 Q A zFu (0 : Int32) M_106
    else
      zB (D_X2_open Q x2_51 M_51) fun e_61 =>
      D_X2_gather_66 Q A (D_X2_gather_51 Q A n) zFu x2_51 (0 : Int32) e_61
noncomputable def D_X2_gather_43 (Q : Nat) (A : Nat) (k12 : Int32 → zMt → Option (zMt)) (x2_43 : Int32) (M_43 : zMt) : Option (zMt) :=
  k12 (x2_43 + 1) M_43
noncomputable def D_X2_gather_12 (Q : Nat) (A : Nat) : Nat → Int32 → zMt → Option (zMt)
  | 0, _, _ => none
  | n + 1, x2_12, M_12 =>
    if (M_12 A 1) ≤ x2_12 then
      D_X2_gather_51 Q A zFu (0 : Int32) M_12
    else
      if (zrd 0 (M_12 (A + 4)) 10 x2_12) = (-1 : Int32) then
        zB (D_X2_open Q (-1 : Int32) M_12) fun e_34 =>
        zB (D_X2_join Q A x2_12 e_34) fun e_40 =>
        D_X2_gather_43 Q A (D_X2_gather_12 Q A n) x2_12 e_40
      else
        D_X2_gather_43 Q A (D_X2_gather_12 Q A n) x2_12 M_12
noncomputable def D_X2_gather (Q : Nat) (A : Nat) (M : zMt) : Option (zMt) :=
  zB (D_X2_gatherUnits Q A M) fun e_2 =>
  zLt (zu e_2 Q 1 (0 : Int32)) fun M_7 =>
  D_X2_gather_12 Q A zFu (0 : Int32) M_7
set_option maxRecDepth 100000 in
set_option maxHeartbeats 4000000 in
theorem t_X2_gather {l : Launch} {G : zG} {b : Nat} {L : List zC} {M : zMt} {N : zNt} {Q : Nat} {A : Nat} (hQ : LX2 L Q) (hA : LX4 L A)  {r : zMt} (h : D_X2_gather Q A M = some r) : zM l G b yX2_gather cX2_gather 4 none 2 0 0 [.ref Q, .ref A] (L, M, N) (fun r2 z => r2 = none ∧ z = (L, r, N)) := by
  refine zM.of miX2_gather (Nat.le_of_ble_eq_true rfl) ?_
  intro p e s m args below meth c X hr hname
  generalize hF : ((fun r2 z => r2 = none ∧ z = (L, r, N)) : Option Value → zS → Prop) = FQ
  change Zw p l e { frames := 2, cells := 0, slots := 0, locals := 80 * (2) } s m args below meth c G b 4 (MQ below (zQ G b FQ) args s 0 0 (fun q : Nat => b ≤ q)) 0 0 0 [some (.ref Q), some (.ref A), none, none] [] (L, M, N)
  obtain ⟨q_lt, q_o, q_quota, q_preferred, q_forGuests, q_applicantOf, q_size, q_guestCount, q_score, q_tickets, q_bits, q_party, q_wishCount, q_wishes⟩ := id hQ
  obtain ⟨a_lt, a_o, a_quota, a_score, a_guest, a_party, a_wishCount, a_wishes, a_has⟩ := id hA
  have L_111 : ∀ u : Nat, ∀ (x2_111 : Int32) (x3_111 : Option Value) (M_111 : zMt), D_X2_gather_111 Q A u x2_111 M_111 = some r → Zw p l e { frames := 2, cells := 0, slots := 0, locals := 80 * (2) } s m args below meth c G b 4 (MQ below (zQ G b FQ) args s 0 0 (fun q : Nat => b ≤ q)) 0 0 111 [some (.ref (Q)), some (.ref (A)), some (.int x2_111), x3_111] [] (L, M_111, N) := by
    intro u
    induction u with
    | zero => intro x2_111 x3_111 M_111 h; cases (show none = some r from h)
    | succ u_111 ih_111 =>
      intro x2_111 x3_111 M_111 h
      rw [D_X2_gather_111] at h
      refine a_iload_n X dX2_gather_111 rfl ?_
      refine a_aload_n X dX2_gather_112 rfl ?_
      refine a_geti X lf2_52 (by assumption) rfl dX2_gather_113 ?_
      refine a_icmp_ge (tgt := 151) X dX2_gather_116 (by decide) (fun h_116 => ?_) (fun h_116 => ?_)
      · replace h := (if_pos h_116).symm.trans h
        refine a_vret X hr dX2_gather_151 ⟨by decide, by decide⟩ ?_
        subst hF
        rw [← Option.some.inj h]
        exact ⟨rfl, rfl⟩
      · replace h := (if_neg h_116).symm.trans h
        refine a_aload_n X dX2_gather_119 rfl ?_
        refine a_iload_n X dX2_gather_120 rfl ?_
        refine a_aload_n X dX2_gather_121 rfl ?_
        refine a_geti X lf2_80 (by assumption) rfl dX2_gather_122 ?_
        obtain ⟨e_125, f_125, h⟩ := zBx h
        refine a_callVu X dX2_gather_125 miX2_close lm2_83 (t_X2_close (by assumption) f_125) (by assumption) rfl rfl rfl (Nat.le_of_ble_eq_true rfl) ⟨by decide, by decide, by decide, by decide⟩ ?_
        refine a_aload_n X dX2_gather_128 rfl ?_
        refine a_dup X dX2_gather_129 rfl ?_
        refine a_geti X lf2_77 (by assumption) rfl dX2_gather_130 ?_
        refine a_aload_n X dX2_gather_133 rfl ?_
        refine a_getr X lf2_33 (by assumption) rfl (by omega) dX2_gather_134 ?_
        refine a_iload_n X dX2_gather_137 rfl ?_
        refine a_callSNv X dX2_gather_138 miX7_cell lm2_62 (c_cell (by assumption) (by first | decide | assumption)) rfl rfl (Nat.le_of_ble_eq_true rfl) ⟨by decide, by decide, by decide, by decide⟩ ?_
        refine a_iadd X dX2_gather_141 ?_
        obtain ⟨M_142, f_142, h⟩ := zLtx h
        refine d_puti X lf2_77 (by assumption) rfl dX2_gather_142 f_142 ?_
        refine a_iinc (v := x2_111 + 1) X dX2_gather_145 (by decide) rfl zi_1 ?_
        refine a_goto (tgt := 111) X dX2_gather_148 (by decide) ?_
        exact Zw.to2 (ih_111 _ _ _ h) rfl rfl rfl
  have H_111 : ∀ (x2_111 : Int32) (x3_111 : Option Value) (M_111 : zMt), D_X2_gather_111 Q A zFu x2_111 M_111 = some r → Zw p l e { frames := 2, cells := 0, slots := 0, locals := 80 * (2) } s m args below meth c G b 4 (MQ below (zQ G b FQ) args s 0 0 (fun q : Nat => b ≤ q)) 0 0 111 [some (.ref (Q)), some (.ref (A)), some (.int x2_111), x3_111] [] (L, M_111, N) := L_111 zFu
  have L_51 : ∀ u : Nat, ∀ (x2_51 : Int32) (x3_51 : Option Value) (M_51 : zMt), D_X2_gather_51 Q A u x2_51 M_51 = some r → Zw p l e { frames := 2, cells := 0, slots := 0, locals := 80 * (2) } s m args below meth c G b 4 (MQ below (zQ G b FQ) args s 0 0 (fun q : Nat => b ≤ q)) 0 0 51 [some (.ref (Q)), some (.ref (A)), some (.int x2_51), x3_51] [] (L, M_51, N) := by
    intro u
    induction u with
    | zero => intro x2_51 x3_51 M_51 h; cases (show none = some r from h)
    | succ u_51 ih_51 =>
      have L_66 : ∀ u : Nat, ∀ (x2_66 : Int32) (x3_66 : Int32) (M_66 : zMt), D_X2_gather_66 Q A (D_X2_gather_51 Q A u_51) u x2_66 x3_66 M_66 = some r → Zw p l e { frames := 2, cells := 0, slots := 0, locals := 80 * (2) } s m args below meth c G b 4 (MQ below (zQ G b FQ) args s 0 0 (fun q : Nat => b ≤ q)) 0 0 66 [some (.ref (Q)), some (.ref (A)), some (.int x2_66), some (.int x3_66)] [] (L, M_66, N) := by
        intro u
        induction u with
        | zero => intro x2_66 x3_66 M_66 h; cases (show none = some r from h)
        | succ u_66 ih_66 =>
          have J_92 : ∀ (x2_92 : Int32) (x3_92 : Int32) (M_92 : zMt), D_X2_gather_92 Q A (D_X2_gather_51 Q A u_51) (D_X2_gather_66 Q A (D_X2_gather_51 Q A u_51) u_66) x2_92 x3_92 M_92 = some r → Zw p l e { frames := 2, cells := 0, slots := 0, locals := 80 * (2) } s m args below meth c G b 4 (MQ below (zQ G b FQ) args s 0 0 (fun q : Nat => b ≤ q)) 0 0 92 [some (.ref (Q)), some (.ref (A)), some (.int x2_92), some (.int x3_92)] [] (L, M_92, N) := by
            intro x2_92 x3_92 M_92 h
            unfold D_X2_gather_92 at h
            refine a_iinc (v := x3_92 + 1) X dX2_gather_92 (by decide) rfl zi_1 ?_
            refine a_goto (tgt := 66) X dX2_gather_95 (by decide) ?_
            exact Zw.to2 (ih_66 _ _ _ h) rfl rfl rfl
          intro x2_66 x3_66 M_66 h
          rw [D_X2_gather_66] at h
          refine a_iload_n X dX2_gather_66 rfl ?_
          refine a_aload_n X dX2_gather_67 rfl ?_
          refine a_geti X lf2_56 (by assumption) rfl dX2_gather_68 ?_
          refine a_icmp_ge (tgt := 98) X dX2_gather_71 (by decide) (fun h_71 => ?_) (fun h_71 => ?_)
          · replace h := (if_pos h_71).symm.trans h
            refine a_iinc (v := x2_66 + 1) X dX2_gather_98 (by decide) rfl zi_1 ?_
            refine a_goto (tgt := 51) X dX2_gather_101 (by decide) ?_
            exact Zw.to2 (ih_51 _ _ _ h) rfl rfl rfl
          · replace h := (if_neg h_71).symm.trans h
            refine a_aload_n X dX2_gather_74 rfl ?_
            refine a_getr X lf2_61 (by assumption) rfl (by omega) dX2_gather_75 ?_
            refine a_iload_n X dX2_gather_78 rfl ?_
            refine a_callSNv X dX2_gather_79 miX7_cell lm2_62 (c_cell (by assumption) (by first | decide | assumption)) rfl rfl (Nat.le_of_ble_eq_true rfl) ⟨by decide, by decide, by decide, by decide⟩ ?_
            refine a_iload_n X dX2_gather_82 rfl ?_
            refine a_icmp_ne (tgt := 92) X dX2_gather_83 (by decide) (fun h_83 => ?_) (fun h_83 => ?_)
            · replace h := (if_neg h_83).symm.trans h
              exact Zw.to2 (J_92 _ _ _ h) rfl rfl rfl
            · replace h := (if_pos h_83).symm.trans h
              refine a_aload_n X dX2_gather_86 rfl ?_
              refine a_aload_n X dX2_gather_87 rfl ?_
              refine a_iload_n X dX2_gather_88 rfl ?_
              obtain ⟨e_89, f_89, h⟩ := zBx h
              refine a_callVu X dX2_gather_89 miX2_join lm2_70 (t_X2_join (by assumption) (by assumption) f_89) (by assumption) rfl rfl rfl (Nat.le_of_ble_eq_true rfl) ⟨by decide, by decide, by decide, by decide⟩ ?_
              exact Zw.to2 (J_92 _ _ _ h) rfl rfl rfl
      have H_66 : ∀ (x2_66 : Int32) (x3_66 : Int32) (M_66 : zMt), D_X2_gather_66 Q A (D_X2_gather_51 Q A u_51) zFu x2_66 x3_66 M_66 = some r → Zw p l e { frames := 2, cells := 0, slots := 0, locals := 80 * (2) } s m args below meth c G b 4 (MQ below (zQ G b FQ) args s 0 0 (fun q : Nat => b ≤ q)) 0 0 66 [some (.ref (Q)), some (.ref (A)), some (.int x2_66), some (.int x3_66)] [] (L, M_66, N) := L_66 zFu
      intro x2_51 x3_51 M_51 h
      rw [D_X2_gather_51] at h
      refine a_iload_n X dX2_gather_51 rfl ?_
      refine a_aload_n X dX2_gather_52 rfl ?_
      refine a_geti X lf2_74 (by assumption) rfl dX2_gather_53 ?_
      refine a_icmp_ge (tgt := 104) X dX2_gather_56 (by decide) (fun h_56 => ?_) (fun h_56 => ?_)
      · replace h := (if_pos h_56).symm.trans h
        refine a_aload_n X dX2_gather_104 rfl ?_
        refine a_iconst (v := 0) X dX2_gather_105 (by decide) ?_
        obtain ⟨M_106, f_106, h⟩ := zLtx h
        refine d_puti X lf2_77 (by assumption) rfl dX2_gather_106 f_106 ?_
        refine a_iconst (v := 0) X dX2_gather_109 (by decide) ?_
        refine a_istore_n X dX2_gather_110 (by decide) ?_
        exact Zw.to2 (H_111 _ _ _ h) rfl rfl rfl
      · replace h := (if_neg h_56).symm.trans h
        refine a_aload_n X dX2_gather_59 rfl ?_
        refine a_iload_n X dX2_gather_60 rfl ?_
        obtain ⟨e_61, f_61, h⟩ := zBx h
        refine a_callVu X dX2_gather_61 miX2_open lm2_66 (t_X2_open (by assumption) f_61) (by assumption) rfl rfl rfl (Nat.le_of_ble_eq_true rfl) ⟨by decide, by decide, by decide, by decide⟩ ?_
        refine a_iconst (v := 0) X dX2_gather_64 (by decide) ?_
        refine a_istore_n X dX2_gather_65 (by decide) ?_
        exact Zw.to2 (H_66 _ _ _ h) rfl rfl rfl
  have H_51 : ∀ (x2_51 : Int32) (x3_51 : Option Value) (M_51 : zMt), D_X2_gather_51 Q A zFu x2_51 M_51 = some r → Zw p l e { frames := 2, cells := 0, slots := 0, locals := 80 * (2) } s m args below meth c G b 4 (MQ below (zQ G b FQ) args s 0 0 (fun q : Nat => b ≤ q)) 0 0 51 [some (.ref (Q)), some (.ref (A)), some (.int x2_51), x3_51] [] (L, M_51, N) := L_51 zFu
  have L_12 : ∀ u : Nat, ∀ (x2_12 : Int32) (x3_12 : Option Value) (M_12 : zMt), D_X2_gather_12 Q A u x2_12 M_12 = some r → Zw p l e { frames := 2, cells := 0, slots := 0, locals := 80 * (2) } s m args below meth c G b 4 (MQ below (zQ G b FQ) args s 0 0 (fun q : Nat => b ≤ q)) 0 0 12 [some (.ref (Q)), some (.ref (A)), some (.int x2_12), x3_12] [] (L, M_12, N) := by
    intro u
    induction u with
    | zero => intro x2_12 x3_12 M_12 h; cases (show none = some r from h)
    | succ u_12 ih_12 =>
      have J_43 : ∀ (x2_43 : Int32) (x3_43 : Option Value) (M_43 : zMt), D_X2_gather_43 Q A (D_X2_gather_12 Q A u_12) x2_43 M_43 = some r → Zw p l e { frames := 2, cells := 0, slots := 0, locals := 80 * (2) } s m args below meth c G b 4 (MQ below (zQ G b FQ) args s 0 0 (fun q : Nat => b ≤ q)) 0 0 43 [some (.ref (Q)), some (.ref (A)), some (.int x2_43), x3_43] [] (L, M_43, N) := by
        intro x2_43 x3_43 M_43 h
        unfold D_X2_gather_43 at h
        refine a_iinc (v := x2_43 + 1) X dX2_gather_43 (by decide) rfl zi_1 ?_
        refine a_goto (tgt := 12) X dX2_gather_46 (by decide) ?_
        exact Zw.to2 (ih_12 _ _ _ h) rfl rfl rfl
      intro x2_12 x3_12 M_12 h
      rw [D_X2_gather_12] at h
      refine a_iload_n X dX2_gather_12 rfl ?_
      refine a_aload_n X dX2_gather_13 rfl ?_
      refine a_geti X lf2_56 (by assumption) rfl dX2_gather_14 ?_
      refine a_icmp_ge (tgt := 49) X dX2_gather_17 (by decide) (fun h_17 => ?_) (fun h_17 => ?_)
      · replace h := (if_pos h_17).symm.trans h
        refine a_iconst (v := 0) X dX2_gather_49 (by decide) ?_
        refine a_istore_n X dX2_gather_50 (by decide) ?_
        exact Zw.to2 (H_51 _ _ _ h) rfl rfl rfl
      · replace h := (if_neg h_17).symm.trans h
        refine a_aload_n X dX2_gather_20 rfl ?_
        refine a_getr X lf2_61 (by assumption) rfl (by omega) dX2_gather_21 ?_
        refine a_iload_n X dX2_gather_24 rfl ?_
        refine a_callSNv X dX2_gather_25 miX7_cell lm2_62 (c_cell (by assumption) (by first | decide | assumption)) rfl rfl (Nat.le_of_ble_eq_true rfl) ⟨by decide, by decide, by decide, by decide⟩ ?_
        refine a_iconst (v := -1) X dX2_gather_28 (by decide) ?_
        refine a_icmp_ne (tgt := 43) X dX2_gather_29 (by decide) (fun h_29 => ?_) (fun h_29 => ?_)
        · replace h := (if_neg h_29).symm.trans h
          exact Zw.to2 (J_43 _ _ _ h) rfl rfl rfl
        · replace h := (if_pos h_29).symm.trans h
          refine a_aload_n X dX2_gather_32 rfl ?_
          refine a_iconst (v := -1) X dX2_gather_33 (by decide) ?_
          obtain ⟨e_34, f_34, h⟩ := zBx h
          refine a_callVu X dX2_gather_34 miX2_open lm2_66 (t_X2_open (by assumption) f_34) (by assumption) rfl rfl rfl (Nat.le_of_ble_eq_true rfl) ⟨by decide, by decide, by decide, by decide⟩ ?_
          refine a_aload_n X dX2_gather_37 rfl ?_
          refine a_aload_n X dX2_gather_38 rfl ?_
          refine a_iload_n X dX2_gather_39 rfl ?_
          obtain ⟨e_40, f_40, h⟩ := zBx h
          refine a_callVu X dX2_gather_40 miX2_join lm2_70 (t_X2_join (by assumption) (by assumption) f_40) (by assumption) rfl rfl rfl (Nat.le_of_ble_eq_true rfl) ⟨by decide, by decide, by decide, by decide⟩ ?_
          exact Zw.to2 (J_43 _ _ _ h) rfl rfl rfl
  have H_12 : ∀ (x2_12 : Int32) (x3_12 : Option Value) (M_12 : zMt), D_X2_gather_12 Q A zFu x2_12 M_12 = some r → Zw p l e { frames := 2, cells := 0, slots := 0, locals := 80 * (2) } s m args below meth c G b 4 (MQ below (zQ G b FQ) args s 0 0 (fun q : Nat => b ≤ q)) 0 0 12 [some (.ref (Q)), some (.ref (A)), some (.int x2_12), x3_12] [] (L, M_12, N) := L_12 zFu
  unfold D_X2_gather at h
  refine a_aload_n X dX2_gather_0 rfl ?_
  refine a_aload_n X dX2_gather_1 rfl ?_
  obtain ⟨e_2, f_2, h⟩ := zBx h
  refine a_callVu X dX2_gather_2 miX2_gatherUnits lm2_48 (t_X2_gatherUnits (by assumption) (by assumption) f_2) (by assumption) rfl rfl rfl (Nat.le_of_ble_eq_true rfl) ⟨by decide, by decide, by decide, by decide⟩ ?_
  refine a_aload_n X dX2_gather_5 rfl ?_
  refine a_iconst (v := 0) X dX2_gather_6 (by decide) ?_
  obtain ⟨M_7, f_7, h⟩ := zLtx h
  refine d_puti X lf2_52 (by assumption) rfl dX2_gather_7 f_7 ?_
  refine a_iconst (v := 0) X dX2_gather_10 (by decide) ?_
  refine a_istore_n X dX2_gather_11 (by decide) ?_
  exact Zw.to2 (H_12 _ _ _ h) rfl rfl rfl
noncomputable def D_X2_rankOf_2 (Q : Nat) (M : zMt) : Nat → Int32 → Int32 → Int32 → Option (Int32)
  | 0, _, _, _ => none
  | n + 1, x1_2, x2_2, x3_2 =>
    if (zrd 0 (M (Q + 11)) 10 x1_2) ≤ x3_2 then
      some ((-1 : Int32))
    else
      zB (D_X2_wish Q M x1_2 x3_2) fun e_17 =>
      if e_17 = x2_2 then
        some (x3_2)
      else
        (D_X2_rankOf_2 Q M n) x1_2 x2_2 (x3_2 + 1)
noncomputable def D_X2_rankOf (Q : Nat) (M : zMt) (v0 : Int32) (v1 : Int32) : Option (Int32) :=
  D_X2_rankOf_2 Q M zFu v0 v1 (0 : Int32)
set_option maxRecDepth 100000 in
set_option maxHeartbeats 4000000 in
theorem t_X2_rankOf {l : Launch} {G : zG} {b : Nat} {L : List zC} {M : zMt} {N : zNt} {Q : Nat} (hQ : LX2 L Q) {v0 : Int32} {v1 : Int32} {r : Int32} (h : D_X2_rankOf Q M v0 v1 = some r) : zM l G b yX2_rankOf cX2_rankOf 4 (some .int) 2 0 0 [.ref Q, .int v0, .int v1] (L, M, N) (fun r2 z => r2 = some (.int r) ∧ z = (L, M, N)) := by
  refine zM.of miX2_rankOf (Nat.le_of_ble_eq_true rfl) ?_
  intro p e s m args below meth c X hr hname
  generalize hF : ((fun r2 z => r2 = some (.int r) ∧ z = (L, M, N)) : Option Value → zS → Prop) = FQ
  change Zw p l e { frames := 2, cells := 0, slots := 0, locals := 80 * (2) } s m args below meth c G b 4 (MQ below (zQ G b FQ) args s 0 0 (fun q : Nat => b ≤ q)) 0 0 0 [some (.ref Q), some (.int v0), some (.int v1), none] [] (L, M, N)
  obtain ⟨q_lt, q_o, q_quota, q_preferred, q_forGuests, q_applicantOf, q_size, q_guestCount, q_score, q_tickets, q_bits, q_party, q_wishCount, q_wishes⟩ := id hQ
  have L_2 : ∀ u : Nat, ∀ (x1_2 : Int32) (x2_2 : Int32) (x3_2 : Int32), D_X2_rankOf_2 Q M u x1_2 x2_2 x3_2 = some r → Zw p l e { frames := 2, cells := 0, slots := 0, locals := 80 * (2) } s m args below meth c G b 4 (MQ below (zQ G b FQ) args s 0 0 (fun q : Nat => b ≤ q)) 0 0 2 [some (.ref (Q)), some (.int x1_2), some (.int x2_2), some (.int x3_2)] [] (L, M, N) := by
    intro u
    induction u with
    | zero => intro x1_2 x2_2 x3_2 h; cases (show none = some r from h)
    | succ u_2 ih_2 =>
      intro x1_2 x2_2 x3_2 h
      rw [D_X2_rankOf_2] at h
      refine a_iload_n X dX2_rankOf_2 rfl ?_
      refine a_aload_n X dX2_rankOf_3 rfl ?_
      refine a_getr X lf2_42 (by assumption) rfl (by omega) dX2_rankOf_4 ?_
      refine a_iload_n X dX2_rankOf_7 rfl ?_
      refine a_callSNv X dX2_rankOf_8 miX7_cell lm2_62 (c_cell (by assumption) (by first | decide | assumption)) rfl rfl (Nat.le_of_ble_eq_true rfl) ⟨by decide, by decide, by decide, by decide⟩ ?_
      refine a_icmp_ge (tgt := 32) X dX2_rankOf_11 (by decide) (fun h_11 => ?_) (fun h_11 => ?_)
      · replace h := (if_pos h_11).symm.trans h
        refine a_iconst (v := -1) X dX2_rankOf_32 (by decide) ?_
        refine a_iret X hr dX2_rankOf_33 ⟨by decide, by decide⟩ ?_
        subst hF
        rw [← Option.some.inj h]
        exact ⟨rfl, rfl⟩
      · replace h := (if_neg h_11).symm.trans h
        refine a_aload_n X dX2_rankOf_14 rfl ?_
        refine a_iload_n X dX2_rankOf_15 rfl ?_
        refine a_iload_n X dX2_rankOf_16 rfl ?_
        obtain ⟨e_17, f_17, h⟩ := zBx h
        refine a_callVv X dX2_rankOf_17 miX2_wish lm2_115 (t_X2_wish (by assumption) f_17) (by assumption) rfl rfl rfl (Nat.le_of_ble_eq_true rfl) ⟨by decide, by decide, by decide, by decide⟩ ?_
        refine a_iload_n X dX2_rankOf_20 rfl ?_
        refine a_icmp_ne (tgt := 26) X dX2_rankOf_21 (by decide) (fun h_21 => ?_) (fun h_21 => ?_)
        · replace h := (if_neg h_21).symm.trans h
          refine a_iinc (v := x3_2 + 1) X dX2_rankOf_26 (by decide) rfl zi_1 ?_
          refine a_goto (tgt := 2) X dX2_rankOf_29 (by decide) ?_
          exact Zw.to2 (ih_2 _ _ _ h) rfl rfl rfl
        · replace h := (if_pos h_21).symm.trans h
          refine a_iload_n X dX2_rankOf_24 rfl ?_
          refine a_iret X hr dX2_rankOf_25 ⟨by decide, by decide⟩ ?_
          subst hF
          rw [← Option.some.inj h]
          exact ⟨rfl, rfl⟩
  have H_2 : ∀ (x1_2 : Int32) (x2_2 : Int32) (x3_2 : Int32), D_X2_rankOf_2 Q M zFu x1_2 x2_2 x3_2 = some r → Zw p l e { frames := 2, cells := 0, slots := 0, locals := 80 * (2) } s m args below meth c G b 4 (MQ below (zQ G b FQ) args s 0 0 (fun q : Nat => b ≤ q)) 0 0 2 [some (.ref (Q)), some (.int x1_2), some (.int x2_2), some (.int x3_2)] [] (L, M, N) := L_2 zFu
  unfold D_X2_rankOf at h
  refine a_iconst (v := 0) X dX2_rankOf_0 (by decide) ?_
  refine a_istore_n X dX2_rankOf_1 (by decide) ?_
  exact Zw.to2 (H_2 _ _ _ h) rfl rfl rfl
noncomputable def D_X2_firstApplicants_27 (Q : Nat) (M : zMt) (k4 : Int32 → Int32 → Int32 → Option (Int32)) (x1_27 : Int32) (x3_27 : Int32) (y0_27 : Int32) (y1_27 : Int32) : Option (Int32) :=
  k4 x1_27 (y0_27 + y1_27) (x3_27 + 1)
noncomputable def D_X2_firstApplicants_4 (Q : Nat) (M : zMt) : Nat → Int32 → Int32 → Int32 → Option (Int32)
  | 0, _, _, _ => none
  | n + 1, x1_4, x2_4, x3_4 =>
    if (M Q 1) ≤ x3_4 then
      some (x2_4)
    else
      zB (D_X2_rankOf Q M x3_4 x1_4) fun e_16 =>
      if e_16 = 0 then
        D_X2_firstApplicants_27 Q M (D_X2_firstApplicants_4 Q M n) x1_4 x3_4 x2_4 (1 : Int32)
      else
        D_X2_firstApplicants_27 Q M (D_X2_firstApplicants_4 Q M n) x1_4 x3_4 x2_4 (0 : Int32)
noncomputable def D_X2_firstApplicants (Q : Nat) (M : zMt) (v0 : Int32) : Option (Int32) :=
  D_X2_firstApplicants_4 Q M zFu v0 (0 : Int32) (0 : Int32)
set_option maxRecDepth 100000 in
set_option maxHeartbeats 4000000 in
theorem t_X2_firstApplicants {l : Launch} {G : zG} {b : Nat} {L : List zC} {M : zMt} {N : zNt} {Q : Nat} (hQ : LX2 L Q) {v0 : Int32} {r : Int32} (h : D_X2_firstApplicants Q M v0 = some r) : zM l G b yX2_firstApplicants cX2_firstApplicants 4 (some .int) 3 0 0 [.ref Q, .int v0] (L, M, N) (fun r2 z => r2 = some (.int r) ∧ z = (L, M, N)) := by
  refine zM.of miX2_firstApplicants (Nat.le_of_ble_eq_true rfl) ?_
  intro p e s m args below meth c X hr hname
  generalize hF : ((fun r2 z => r2 = some (.int r) ∧ z = (L, M, N)) : Option Value → zS → Prop) = FQ
  change Zw p l e { frames := 3, cells := 0, slots := 0, locals := 80 * (3) } s m args below meth c G b 4 (MQ below (zQ G b FQ) args s 0 0 (fun q : Nat => b ≤ q)) 0 0 0 [some (.ref Q), some (.int v0), none, none] [] (L, M, N)
  obtain ⟨q_lt, q_o, q_quota, q_preferred, q_forGuests, q_applicantOf, q_size, q_guestCount, q_score, q_tickets, q_bits, q_party, q_wishCount, q_wishes⟩ := id hQ
  have L_4 : ∀ u : Nat, ∀ (x1_4 : Int32) (x2_4 : Int32) (x3_4 : Int32), D_X2_firstApplicants_4 Q M u x1_4 x2_4 x3_4 = some r → Zw p l e { frames := 3, cells := 0, slots := 0, locals := 80 * (3) } s m args below meth c G b 4 (MQ below (zQ G b FQ) args s 0 0 (fun q : Nat => b ≤ q)) 0 0 4 [some (.ref (Q)), some (.int x1_4), some (.int x2_4), some (.int x3_4)] [] (L, M, N) := by
    intro u
    induction u with
    | zero => intro x1_4 x2_4 x3_4 h; cases (show none = some r from h)
    | succ u_4 ih_4 =>
      have J_27 : ∀ (x1_27 : Int32) (x2_27 : Int32) (x3_27 : Int32) (y0_27 : Int32) (y1_27 : Int32), (y1_27 = 0 ∨ y1_27 = 1) → D_X2_firstApplicants_27 Q M (D_X2_firstApplicants_4 Q M u_4) x1_27 x3_27 y0_27 y1_27 = some r → Zw p l e { frames := 3, cells := 0, slots := 0, locals := 80 * (3) } s m args below meth c G b 4 (MQ below (zQ G b FQ) args s 0 0 (fun q : Nat => b ≤ q)) 0 0 27 [some (.ref (Q)), some (.int x1_27), some (.int x2_27), some (.int x3_27)] [.int y1_27, .int y0_27] (L, M, N) := by
        intro x1_27 x2_27 x3_27 y0_27 y1_27 fb_y1_27 h
        unfold D_X2_firstApplicants_27 at h
        refine a_iadd X dX2_firstApplicants_27 ?_
        refine a_istore_n X dX2_firstApplicants_28 (by decide) ?_
        refine a_iinc (v := x3_27 + 1) X dX2_firstApplicants_29 (by decide) rfl zi_1 ?_
        refine a_goto (tgt := 4) X dX2_firstApplicants_32 (by decide) ?_
        exact Zw.to2 (ih_4 _ _ _ h) rfl rfl rfl
      intro x1_4 x2_4 x3_4 h
      rw [D_X2_firstApplicants_4] at h
      refine a_iload_n X dX2_firstApplicants_4 rfl ?_
      refine a_aload_n X dX2_firstApplicants_5 rfl ?_
      refine a_geti X lf2_52 (by assumption) rfl dX2_firstApplicants_6 ?_
      refine a_icmp_ge (tgt := 35) X dX2_firstApplicants_9 (by decide) (fun h_9 => ?_) (fun h_9 => ?_)
      · replace h := (if_pos h_9).symm.trans h
        refine a_iload_n X dX2_firstApplicants_35 rfl ?_
        refine a_iret X hr dX2_firstApplicants_36 ⟨by decide, by decide⟩ ?_
        subst hF
        rw [← Option.some.inj h]
        exact ⟨rfl, rfl⟩
      · replace h := (if_neg h_9).symm.trans h
        refine a_iload_n X dX2_firstApplicants_12 rfl ?_
        refine a_aload_n X dX2_firstApplicants_13 rfl ?_
        refine a_iload_n X dX2_firstApplicants_14 rfl ?_
        refine a_iload_n X dX2_firstApplicants_15 rfl ?_
        obtain ⟨e_16, f_16, h⟩ := zBx h
        refine a_callVv X dX2_firstApplicants_16 miX2_rankOf lm2_119 (t_X2_rankOf (by assumption) f_16) (by assumption) rfl rfl rfl (Nat.le_of_ble_eq_true rfl) ⟨by decide, by decide, by decide, by decide⟩ ?_
        refine a_if_ne (tgt := 26) X dX2_firstApplicants_19 (by decide) (fun h_19 => ?_) (fun h_19 => ?_)
        · replace h := (if_neg h_19).symm.trans h
          refine a_iconst (v := 0) X dX2_firstApplicants_26 (by decide) ?_
          exact Zw.to2 (J_27 _ _ _ _ _ (by first | exact Or.inl rfl | exact Or.inr rfl | assumption) h) rfl rfl rfl
        · replace h := (if_pos h_19).symm.trans h
          refine a_iconst (v := 1) X dX2_firstApplicants_22 (by decide) ?_
          refine a_goto (tgt := 27) X dX2_firstApplicants_23 (by decide) ?_
          exact Zw.to2 (J_27 _ _ _ _ _ (by first | exact Or.inl rfl | exact Or.inr rfl | assumption) h) rfl rfl rfl
  have H_4 : ∀ (x1_4 : Int32) (x2_4 : Int32) (x3_4 : Int32), D_X2_firstApplicants_4 Q M zFu x1_4 x2_4 x3_4 = some r → Zw p l e { frames := 3, cells := 0, slots := 0, locals := 80 * (3) } s m args below meth c G b 4 (MQ below (zQ G b FQ) args s 0 0 (fun q : Nat => b ≤ q)) 0 0 4 [some (.ref (Q)), some (.int x1_4), some (.int x2_4), some (.int x3_4)] [] (L, M, N) := L_4 zFu
  unfold D_X2_firstApplicants at h
  refine a_iconst (v := 0) X dX2_firstApplicants_0 (by decide) ?_
  refine a_istore_n X dX2_firstApplicants_1 (by decide) ?_
  refine a_iconst (v := 0) X dX2_firstApplicants_2 (by decide) ?_
  refine a_istore_n X dX2_firstApplicants_3 (by decide) ?_
  exact Zw.to2 (H_4 _ _ _ h) rfl rfl rfl
noncomputable def D_X2_firstHunters_34 (Q : Nat) (M : zMt) (k4 : Int32 → Int32 → Int32 → Option (Int32)) (x1_34 : Int32) (x3_34 : Int32) (y0_34 : Int32) (y1_34 : Int32) : Option (Int32) :=
  k4 x1_34 (y0_34 + y1_34) (x3_34 + 1)
noncomputable def D_X2_firstHunters_4 (Q : Nat) (M : zMt) : Nat → Int32 → Int32 → Int32 → Option (Int32)
  | 0, _, _, _ => none
  | n + 1, x1_4, x2_4, x3_4 =>
    if (M Q 1) ≤ x3_4 then
      some (x2_4)
    else
      zB (D_X2_rankOf Q M x3_4 x1_4) fun e_16 =>
      if e_16 = 0 then
        D_X2_firstHunters_34 Q M (D_X2_firstHunters_4 Q M n) x1_4 x3_4 x2_4 (zrd 0 (M (Q + 5)) 10 x3_4)
      else
        D_X2_firstHunters_34 Q M (D_X2_firstHunters_4 Q M n) x1_4 x3_4 x2_4 (0 : Int32)
noncomputable def D_X2_firstHunters (Q : Nat) (M : zMt) (v0 : Int32) : Option (Int32) :=
  D_X2_firstHunters_4 Q M zFu v0 (0 : Int32) (0 : Int32)
set_option maxRecDepth 100000 in
set_option maxHeartbeats 4000000 in
theorem t_X2_firstHunters {l : Launch} {G : zG} {b : Nat} {L : List zC} {M : zMt} {N : zNt} {Q : Nat} (hQ : LX2 L Q) {v0 : Int32} {r : Int32} (h : D_X2_firstHunters Q M v0 = some r) : zM l G b yX2_firstHunters cX2_firstHunters 4 (some .int) 3 0 0 [.ref Q, .int v0] (L, M, N) (fun r2 z => r2 = some (.int r) ∧ z = (L, M, N)) := by
  refine zM.of miX2_firstHunters (Nat.le_of_ble_eq_true rfl) ?_
  intro p e s m args below meth c X hr hname
  generalize hF : ((fun r2 z => r2 = some (.int r) ∧ z = (L, M, N)) : Option Value → zS → Prop) = FQ
  change Zw p l e { frames := 3, cells := 0, slots := 0, locals := 80 * (3) } s m args below meth c G b 4 (MQ below (zQ G b FQ) args s 0 0 (fun q : Nat => b ≤ q)) 0 0 0 [some (.ref Q), some (.int v0), none, none] [] (L, M, N)
  obtain ⟨q_lt, q_o, q_quota, q_preferred, q_forGuests, q_applicantOf, q_size, q_guestCount, q_score, q_tickets, q_bits, q_party, q_wishCount, q_wishes⟩ := id hQ
  have L_4 : ∀ u : Nat, ∀ (x1_4 : Int32) (x2_4 : Int32) (x3_4 : Int32), D_X2_firstHunters_4 Q M u x1_4 x2_4 x3_4 = some r → Zw p l e { frames := 3, cells := 0, slots := 0, locals := 80 * (3) } s m args below meth c G b 4 (MQ below (zQ G b FQ) args s 0 0 (fun q : Nat => b ≤ q)) 0 0 4 [some (.ref (Q)), some (.int x1_4), some (.int x2_4), some (.int x3_4)] [] (L, M, N) := by
    intro u
    induction u with
    | zero => intro x1_4 x2_4 x3_4 h; cases (show none = some r from h)
    | succ u_4 ih_4 =>
      have J_34 : ∀ (x1_34 : Int32) (x2_34 : Int32) (x3_34 : Int32) (y0_34 : Int32) (y1_34 : Int32), D_X2_firstHunters_34 Q M (D_X2_firstHunters_4 Q M u_4) x1_34 x3_34 y0_34 y1_34 = some r → Zw p l e { frames := 3, cells := 0, slots := 0, locals := 80 * (3) } s m args below meth c G b 4 (MQ below (zQ G b FQ) args s 0 0 (fun q : Nat => b ≤ q)) 0 0 34 [some (.ref (Q)), some (.int x1_34), some (.int x2_34), some (.int x3_34)] [.int y1_34, .int y0_34] (L, M, N) := by
        intro x1_34 x2_34 x3_34 y0_34 y1_34 h
        unfold D_X2_firstHunters_34 at h
        refine a_iadd X dX2_firstHunters_34 ?_
        refine a_istore_n X dX2_firstHunters_35 (by decide) ?_
        refine a_iinc (v := x3_34 + 1) X dX2_firstHunters_36 (by decide) rfl zi_1 ?_
        refine a_goto (tgt := 4) X dX2_firstHunters_39 (by decide) ?_
        exact Zw.to2 (ih_4 _ _ _ h) rfl rfl rfl
      intro x1_4 x2_4 x3_4 h
      rw [D_X2_firstHunters_4] at h
      refine a_iload_n X dX2_firstHunters_4 rfl ?_
      refine a_aload_n X dX2_firstHunters_5 rfl ?_
      refine a_geti X lf2_52 (by assumption) rfl dX2_firstHunters_6 ?_
      refine a_icmp_ge (tgt := 42) X dX2_firstHunters_9 (by decide) (fun h_9 => ?_) (fun h_9 => ?_)
      · replace h := (if_pos h_9).symm.trans h
        refine a_iload_n X dX2_firstHunters_42 rfl ?_
        refine a_iret X hr dX2_firstHunters_43 ⟨by decide, by decide⟩ ?_
        subst hF
        rw [← Option.some.inj h]
        exact ⟨rfl, rfl⟩
      · replace h := (if_neg h_9).symm.trans h
        refine a_iload_n X dX2_firstHunters_12 rfl ?_
        refine a_aload_n X dX2_firstHunters_13 rfl ?_
        refine a_iload_n X dX2_firstHunters_14 rfl ?_
        refine a_iload_n X dX2_firstHunters_15 rfl ?_
        obtain ⟨e_16, f_16, h⟩ := zBx h
        refine a_callVv X dX2_firstHunters_16 miX2_rankOf lm2_119 (t_X2_rankOf (by assumption) f_16) (by assumption) rfl rfl rfl (Nat.le_of_ble_eq_true rfl) ⟨by decide, by decide, by decide, by decide⟩ ?_
        refine a_if_ne (tgt := 33) X dX2_firstHunters_19 (by decide) (fun h_19 => ?_) (fun h_19 => ?_)
        · replace h := (if_neg h_19).symm.trans h
          refine a_iconst (v := 0) X dX2_firstHunters_33 (by decide) ?_
          exact Zw.to2 (J_34 _ _ _ _ _ h) rfl rfl rfl
        · replace h := (if_pos h_19).symm.trans h
          refine a_aload_n X dX2_firstHunters_22 rfl ?_
          refine a_getr X lf2_24 (by assumption) rfl (by omega) dX2_firstHunters_23 ?_
          refine a_iload_n X dX2_firstHunters_26 rfl ?_
          refine a_callSNv X dX2_firstHunters_27 miX7_cell lm2_62 (c_cell (by assumption) (by first | decide | assumption)) rfl rfl (Nat.le_of_ble_eq_true rfl) ⟨by decide, by decide, by decide, by decide⟩ ?_
          refine a_goto (tgt := 34) X dX2_firstHunters_30 (by decide) ?_
          exact Zw.to2 (J_34 _ _ _ _ _ h) rfl rfl rfl
  have H_4 : ∀ (x1_4 : Int32) (x2_4 : Int32) (x3_4 : Int32), D_X2_firstHunters_4 Q M zFu x1_4 x2_4 x3_4 = some r → Zw p l e { frames := 3, cells := 0, slots := 0, locals := 80 * (3) } s m args below meth c G b 4 (MQ below (zQ G b FQ) args s 0 0 (fun q : Nat => b ≤ q)) 0 0 4 [some (.ref (Q)), some (.int x1_4), some (.int x2_4), some (.int x3_4)] [] (L, M, N) := L_4 zFu
  unfold D_X2_firstHunters at h
  refine a_iconst (v := 0) X dX2_firstHunters_0 (by decide) ?_
  refine a_istore_n X dX2_firstHunters_1 (by decide) ?_
  refine a_iconst (v := 0) X dX2_firstHunters_2 (by decide) ?_
  refine a_istore_n X dX2_firstHunters_3 (by decide) ?_
  exact Zw.to2 (H_4 _ _ _ h) rfl rfl rfl
noncomputable def D_X2_askers_28 (Q : Nat) (M : zMt) (k4 : Int32 → Int32 → Int32 → Option (Int32)) (x1_28 : Int32) (x3_28 : Int32) (y0_28 : Int32) (y1_28 : Int32) : Option (Int32) :=
  k4 x1_28 (y0_28 + y1_28) (x3_28 + 1)
noncomputable def D_X2_askers_4 (Q : Nat) (M : zMt) : Nat → Int32 → Int32 → Int32 → Option (Int32)
  | 0, _, _, _ => none
  | n + 1, x1_4, x2_4, x3_4 =>
    if (M Q 1) ≤ x3_4 then
      some (x2_4)
    else
      zB (D_X2_rankOf Q M x3_4 x1_4) fun e_16 =>
      if e_16 = (-1 : Int32) then
        D_X2_askers_28 Q M (D_X2_askers_4 Q M n) x1_4 x3_4 x2_4 (0 : Int32)
      else
        D_X2_askers_28 Q M (D_X2_askers_4 Q M n) x1_4 x3_4 x2_4 (1 : Int32)
noncomputable def D_X2_askers (Q : Nat) (M : zMt) (v0 : Int32) : Option (Int32) :=
  D_X2_askers_4 Q M zFu v0 (0 : Int32) (0 : Int32)
set_option maxRecDepth 100000 in
set_option maxHeartbeats 4000000 in
theorem t_X2_askers {l : Launch} {G : zG} {b : Nat} {L : List zC} {M : zMt} {N : zNt} {Q : Nat} (hQ : LX2 L Q) {v0 : Int32} {r : Int32} (h : D_X2_askers Q M v0 = some r) : zM l G b yX2_askers cX2_askers 4 (some .int) 3 0 0 [.ref Q, .int v0] (L, M, N) (fun r2 z => r2 = some (.int r) ∧ z = (L, M, N)) := by
  refine zM.of miX2_askers (Nat.le_of_ble_eq_true rfl) ?_
  intro p e s m args below meth c X hr hname
  generalize hF : ((fun r2 z => r2 = some (.int r) ∧ z = (L, M, N)) : Option Value → zS → Prop) = FQ
  change Zw p l e { frames := 3, cells := 0, slots := 0, locals := 80 * (3) } s m args below meth c G b 4 (MQ below (zQ G b FQ) args s 0 0 (fun q : Nat => b ≤ q)) 0 0 0 [some (.ref Q), some (.int v0), none, none] [] (L, M, N)
  obtain ⟨q_lt, q_o, q_quota, q_preferred, q_forGuests, q_applicantOf, q_size, q_guestCount, q_score, q_tickets, q_bits, q_party, q_wishCount, q_wishes⟩ := id hQ
  have L_4 : ∀ u : Nat, ∀ (x1_4 : Int32) (x2_4 : Int32) (x3_4 : Int32), D_X2_askers_4 Q M u x1_4 x2_4 x3_4 = some r → Zw p l e { frames := 3, cells := 0, slots := 0, locals := 80 * (3) } s m args below meth c G b 4 (MQ below (zQ G b FQ) args s 0 0 (fun q : Nat => b ≤ q)) 0 0 4 [some (.ref (Q)), some (.int x1_4), some (.int x2_4), some (.int x3_4)] [] (L, M, N) := by
    intro u
    induction u with
    | zero => intro x1_4 x2_4 x3_4 h; cases (show none = some r from h)
    | succ u_4 ih_4 =>
      have J_28 : ∀ (x1_28 : Int32) (x2_28 : Int32) (x3_28 : Int32) (y0_28 : Int32) (y1_28 : Int32), (y1_28 = 0 ∨ y1_28 = 1) → D_X2_askers_28 Q M (D_X2_askers_4 Q M u_4) x1_28 x3_28 y0_28 y1_28 = some r → Zw p l e { frames := 3, cells := 0, slots := 0, locals := 80 * (3) } s m args below meth c G b 4 (MQ below (zQ G b FQ) args s 0 0 (fun q : Nat => b ≤ q)) 0 0 28 [some (.ref (Q)), some (.int x1_28), some (.int x2_28), some (.int x3_28)] [.int y1_28, .int y0_28] (L, M, N) := by
        intro x1_28 x2_28 x3_28 y0_28 y1_28 fb_y1_28 h
        unfold D_X2_askers_28 at h
        refine a_iadd X dX2_askers_28 ?_
        refine a_istore_n X dX2_askers_29 (by decide) ?_
        refine a_iinc (v := x3_28 + 1) X dX2_askers_30 (by decide) rfl zi_1 ?_
        refine a_goto (tgt := 4) X dX2_askers_33 (by decide) ?_
        exact Zw.to2 (ih_4 _ _ _ h) rfl rfl rfl
      intro x1_4 x2_4 x3_4 h
      rw [D_X2_askers_4] at h
      refine a_iload_n X dX2_askers_4 rfl ?_
      refine a_aload_n X dX2_askers_5 rfl ?_
      refine a_geti X lf2_52 (by assumption) rfl dX2_askers_6 ?_
      refine a_icmp_ge (tgt := 36) X dX2_askers_9 (by decide) (fun h_9 => ?_) (fun h_9 => ?_)
      · replace h := (if_pos h_9).symm.trans h
        refine a_iload_n X dX2_askers_36 rfl ?_
        refine a_iret X hr dX2_askers_37 ⟨by decide, by decide⟩ ?_
        subst hF
        rw [← Option.some.inj h]
        exact ⟨rfl, rfl⟩
      · replace h := (if_neg h_9).symm.trans h
        refine a_iload_n X dX2_askers_12 rfl ?_
        refine a_aload_n X dX2_askers_13 rfl ?_
        refine a_iload_n X dX2_askers_14 rfl ?_
        refine a_iload_n X dX2_askers_15 rfl ?_
        obtain ⟨e_16, f_16, h⟩ := zBx h
        refine a_callVv X dX2_askers_16 miX2_rankOf lm2_119 (t_X2_rankOf (by assumption) f_16) (by assumption) rfl rfl rfl (Nat.le_of_ble_eq_true rfl) ⟨by decide, by decide, by decide, by decide⟩ ?_
        refine a_iconst (v := -1) X dX2_askers_19 (by decide) ?_
        refine a_icmp_ne (tgt := 27) X dX2_askers_20 (by decide) (fun h_20 => ?_) (fun h_20 => ?_)
        · replace h := (if_neg h_20).symm.trans h
          refine a_iconst (v := 1) X dX2_askers_27 (by decide) ?_
          exact Zw.to2 (J_28 _ _ _ _ _ (by first | exact Or.inl rfl | exact Or.inr rfl | assumption) h) rfl rfl rfl
        · replace h := (if_pos h_20).symm.trans h
          refine a_iconst (v := 0) X dX2_askers_23 (by decide) ?_
          refine a_goto (tgt := 28) X dX2_askers_24 (by decide) ?_
          exact Zw.to2 (J_28 _ _ _ _ _ (by first | exact Or.inl rfl | exact Or.inr rfl | assumption) h) rfl rfl rfl
  have H_4 : ∀ (x1_4 : Int32) (x2_4 : Int32) (x3_4 : Int32), D_X2_askers_4 Q M zFu x1_4 x2_4 x3_4 = some r → Zw p l e { frames := 3, cells := 0, slots := 0, locals := 80 * (3) } s m args below meth c G b 4 (MQ below (zQ G b FQ) args s 0 0 (fun q : Nat => b ≤ q)) 0 0 4 [some (.ref (Q)), some (.int x1_4), some (.int x2_4), some (.int x3_4)] [] (L, M, N) := L_4 zFu
  unfold D_X2_askers at h
  refine a_iconst (v := 0) X dX2_askers_0 (by decide) ?_
  refine a_istore_n X dX2_askers_1 (by decide) ?_
  refine a_iconst (v := 0) X dX2_askers_2 (by decide) ?_
  refine a_istore_n X dX2_askers_3 (by decide) ?_
  exact Zw.to2 (H_4 _ _ _ h) rfl rfl rfl
noncomputable def D_X4_clear (Q : Nat) (M : zMt) : Option (zMt) :=
  zLt (zu M Q 0 (0 : Int32)) fun M_2 =>
  zLt (zu M_2 Q 1 (0 : Int32)) fun M_7 =>
  zLt (zu M_7 Q 2 (0 : Int32)) fun M_12 =>
  zLt (zu M_12 Q 3 (0 : Int32)) fun M_17 =>
  zLt (zu M_17 Q 4 (0 : Int32)) fun M_22 =>
  zLt (zu M_22 Q 5 (100 : Int32)) fun M_28 =>
  zLt (zu M_28 Q 6 (0 : Int32)) fun M_33 =>
  zLt (zfil M_33 (Q + 1) 5 (0 : Int32)) fun M_41 =>
  zLt (zfil M_41 (Q + 2) 10 (0 : Int32)) fun M_49 =>
  zLt (zfil M_49 (Q + 3) 10 (0 : Int32)) fun M_57 =>
  zLt (zfil M_57 (Q + 4) 10 (-1 : Int32)) fun M_65 =>
  zLt (zfil M_65 (Q + 5) 10 (0 : Int32)) fun M_73 =>
  zLt (zfil M_73 (Q + 6) 30 (-1 : Int32)) fun M_81 =>
  zLt (zfil M_81 (Q + 7) 10 (-1 : Int32)) fun M_89 =>
  some (M_89)
set_option maxRecDepth 100000 in
set_option maxHeartbeats 4000000 in
theorem t_X4_clear {l : Launch} {G : zG} {b : Nat} {L : List zC} {M : zMt} {N : zNt} {Q : Nat} (hQ : LX4 L Q)  {r : zMt} (h : D_X4_clear Q M = some r) : zM l G b yX4_clear cX4_clear 1 none 1 0 0 [.ref Q] (L, M, N) (fun r2 z => r2 = none ∧ z = (L, r, N)) := by
  refine zM.of miX4_clear (Nat.le_of_ble_eq_true rfl) ?_
  intro p e s m args below meth c X hr hname
  generalize hF : ((fun r2 z => r2 = none ∧ z = (L, r, N)) : Option Value → zS → Prop) = FQ
  change Zw p l e { frames := 1, cells := 0, slots := 0, locals := 80 * (1) } s m args below meth c G b 1 (MQ below (zQ G b FQ) args s 0 0 (fun q : Nat => b ≤ q)) 0 0 0 [some (.ref Q)] [] (L, M, N)
  obtain ⟨q_lt, q_o, q_quota, q_score, q_guest, q_party, q_wishCount, q_wishes, q_has⟩ := id hQ
  unfold D_X4_clear at h
  refine a_aload_n X dX4_clear_0 rfl ?_
  refine a_iconst (v := 0) X dX4_clear_1 (by decide) ?_
  obtain ⟨M_2, f_2, h⟩ := zLtx h
  refine d_puti X lf4_33 (by assumption) rfl dX4_clear_2 f_2 ?_
  refine a_aload_n X dX4_clear_5 rfl ?_
  refine a_iconst (v := 0) X dX4_clear_6 (by decide) ?_
  obtain ⟨M_7, f_7, h⟩ := zLtx h
  refine d_puti X lf4_37 (by assumption) rfl dX4_clear_7 f_7 ?_
  refine a_aload_n X dX4_clear_10 rfl ?_
  refine a_iconst (v := 0) X dX4_clear_11 (by decide) ?_
  obtain ⟨M_12, f_12, h⟩ := zLtx h
  refine d_puti X lf4_40 (by assumption) rfl dX4_clear_12 f_12 ?_
  refine a_aload_n X dX4_clear_15 rfl ?_
  refine a_iconst (v := 0) X dX4_clear_16 (by decide) ?_
  obtain ⟨M_17, f_17, h⟩ := zLtx h
  refine d_puti X lf4_43 (by assumption) rfl dX4_clear_17 f_17 ?_
  refine a_aload_n X dX4_clear_20 rfl ?_
  refine a_iconst (v := 0) X dX4_clear_21 (by decide) ?_
  obtain ⟨M_22, f_22, h⟩ := zLtx h
  refine d_puti X lf4_46 (by assumption) rfl dX4_clear_22 f_22 ?_
  refine a_aload_n X dX4_clear_25 rfl ?_
  refine a_bipush (v := 100) X dX4_clear_26 (by decide) ?_
  obtain ⟨M_28, f_28, h⟩ := zLtx h
  refine d_puti X lf4_49 (by assumption) rfl dX4_clear_28 f_28 ?_
  refine a_aload_n X dX4_clear_31 rfl ?_
  refine a_iconst (v := 0) X dX4_clear_32 (by decide) ?_
  obtain ⟨M_33, f_33, h⟩ := zLtx h
  refine d_puti X lf4_52 (by assumption) rfl dX4_clear_33 f_33 ?_
  refine a_aload_n X dX4_clear_36 rfl ?_
  refine a_getr X lf4_9 (by assumption) rfl (by omega) dX4_clear_37 ?_
  refine a_iconst (v := 0) X dX4_clear_40 (by decide) ?_
  obtain ⟨M_41, f_41, h⟩ := zLtx h
  refine a_callSNu X dX4_clear_41 miX7_fill lm4_55 (zMu (c_fill (by assumption) (by first | decide | assumption)) f_41) rfl rfl (Nat.le_of_ble_eq_true rfl) ⟨by decide, by decide, by decide, by decide⟩ ?_
  refine a_aload_n X dX4_clear_44 rfl ?_
  refine a_getr X lf4_15 (by assumption) rfl (by omega) dX4_clear_45 ?_
  refine a_iconst (v := 0) X dX4_clear_48 (by decide) ?_
  obtain ⟨M_49, f_49, h⟩ := zLtx h
  refine a_callSNu X dX4_clear_49 miX7_fill lm4_55 (zMu (c_fill (by assumption) (by first | decide | assumption)) f_49) rfl rfl (Nat.le_of_ble_eq_true rfl) ⟨by decide, by decide, by decide, by decide⟩ ?_
  refine a_aload_n X dX4_clear_52 rfl ?_
  refine a_getr X lf4_18 (by assumption) rfl (by omega) dX4_clear_53 ?_
  refine a_iconst (v := 0) X dX4_clear_56 (by decide) ?_
  obtain ⟨M_57, f_57, h⟩ := zLtx h
  refine a_callSNu X dX4_clear_57 miX7_fill lm4_55 (zMu (c_fill (by assumption) (by first | decide | assumption)) f_57) rfl rfl (Nat.le_of_ble_eq_true rfl) ⟨by decide, by decide, by decide, by decide⟩ ?_
  refine a_aload_n X dX4_clear_60 rfl ?_
  refine a_getr X lf4_21 (by assumption) rfl (by omega) dX4_clear_61 ?_
  refine a_iconst (v := -1) X dX4_clear_64 (by decide) ?_
  obtain ⟨M_65, f_65, h⟩ := zLtx h
  refine a_callSNu X dX4_clear_65 miX7_fill lm4_55 (zMu (c_fill (by assumption) (by first | decide | assumption)) f_65) rfl rfl (Nat.le_of_ble_eq_true rfl) ⟨by decide, by decide, by decide, by decide⟩ ?_
  refine a_aload_n X dX4_clear_68 rfl ?_
  refine a_getr X lf4_24 (by assumption) rfl (by omega) dX4_clear_69 ?_
  refine a_iconst (v := 0) X dX4_clear_72 (by decide) ?_
  obtain ⟨M_73, f_73, h⟩ := zLtx h
  refine a_callSNu X dX4_clear_73 miX7_fill lm4_55 (zMu (c_fill (by assumption) (by first | decide | assumption)) f_73) rfl rfl (Nat.le_of_ble_eq_true rfl) ⟨by decide, by decide, by decide, by decide⟩ ?_
  refine a_aload_n X dX4_clear_76 rfl ?_
  refine a_getr X lf4_27 (by assumption) rfl (by omega) dX4_clear_77 ?_
  refine a_iconst (v := -1) X dX4_clear_80 (by decide) ?_
  obtain ⟨M_81, f_81, h⟩ := zLtx h
  refine a_callSNu X dX4_clear_81 miX7_fill lm4_55 (zMu (c_fill (by assumption) (by first | decide | assumption)) f_81) rfl rfl (Nat.le_of_ble_eq_true rfl) ⟨by decide, by decide, by decide, by decide⟩ ?_
  refine a_aload_n X dX4_clear_84 rfl ?_
  refine a_getr X lf4_30 (by assumption) rfl (by omega) dX4_clear_85 ?_
  refine a_iconst (v := -1) X dX4_clear_88 (by decide) ?_
  obtain ⟨M_89, f_89, h⟩ := zLtx h
  refine a_callSNu X dX4_clear_89 miX7_fill lm4_55 (zMu (c_fill (by assumption) (by first | decide | assumption)) f_89) rfl rfl (Nat.le_of_ble_eq_true rfl) ⟨by decide, by decide, by decide, by decide⟩ ?_
  refine a_vret X hr dX4_clear_92 ⟨by decide, by decide⟩ ?_
  subst hF
  rw [← Option.some.inj h]
  exact ⟨rfl, rfl⟩
