noncomputable def D_X0_walk_109 (Q : Nat) (A : Nat) (rec : Int32 → Int32 → Int32 → Int64 → zMt → zNt → Option (zMt × zNt)) (k35 : Int32 → Int32 → Int32 → Int64 → Int32 → zMt → zNt → Option (zMt × zNt)) (x2_109 : Int32) (x3_109 : Int32) (x4_109 : Int32) (x5_109 : Int64) (x7_109 : Int32) (M_109 : zMt) (N_109 : zNt) : Option (zMt × zNt) :=
  k35 x2_109 x3_109 x4_109 x5_109 (x7_109 + 1) M_109 N_109
noncomputable def D_X0_walk_35 (Q : Nat) (A : Nat) (rec : Int32 → Int32 → Int32 → Int64 → zMt → zNt → Option (zMt × zNt)) : Nat → Int32 → Int32 → Int32 → Int64 → Int32 → zMt → zNt → Option (zMt × zNt)
  | 0, _, _, _, _, _, _, _ => none
  | n + 1, x2_35, x3_35, x4_35, x5_35, x7_35, M_35, N_35 =>
    if (M_35 A 1) ≤ x7_35 then
      some (M_35, N_35)
    else
      if ((x3_35 >>> (x7_35 &&& 31)) &&& (1 : Int32)) = (1 : Int32) then
        zLt (zwr M_35 (Q + 6) 10 x2_35 x7_35) fun M_75 =>
        zZl (Int32.toInt64 x4_35) <|
        zB (rec (x2_35 + (1 : Int32)) (x3_35 &&& (((1 : Int32) <<< (x7_35 &&& 31)) ^^^ (-1 : Int32))) (x4_35 - (zrd 0 (M_35 (A + 8)) 10 x7_35)) ((x5_35 * (Int32.toInt64 (zrd 0 (M_35 (A + 8)) 10 x7_35))) / (Int32.toInt64 x4_35)) M_75 N_35) fun e_106 =>
        D_X0_walk_109 Q A rec (D_X0_walk_35 Q A rec n) x2_35 x3_35 x4_35 x5_35 x7_35 e_106.1 e_106.2
      else
        D_X0_walk_109 Q A rec (D_X0_walk_35 Q A rec n) x2_35 x3_35 x4_35 x5_35 x7_35 M_35 N_35
noncomputable def D_X0_walk_31 (Q : Nat) (A : Nat) (rec : Int32 → Int32 → Int32 → Int64 → zMt → zNt → Option (zMt × zNt)) (M_31 : zMt) (N_31 : zNt) : Option (zMt × zNt) :=
  some (M_31, N_31)
noncomputable def D_X0_walk (Q : Nat) (A : Nat) : Nat → Int32 → Int32 → Int32 → Int64 → zMt → zNt → Option (zMt × zNt)
  | 0, _, _, _, _, _, _ => none
  | w + 1, v0, v1, v2, v3, M, N =>
    if v1 = 0 then
      zB (D_X5_settle (Q + 5) A M) fun e_9 =>
      zB (D_X0_record Q A v3 e_9 N) fun e_16 =>
      some (e_16.1, e_16.2)
    else
      if (7 : Int32) ≤ v0 then
        D_X0_walk_31 Q A (D_X0_walk Q A w) M N
      else
        if 0 < v2 then
          D_X0_walk_35 Q A (D_X0_walk Q A w) zFu v0 v1 v2 v3 (0 : Int32) M N
        else
          D_X0_walk_31 Q A (D_X0_walk Q A w) M N
set_option maxRecDepth 100000 in
set_option maxHeartbeats 4000000 in
theorem t_X0_walk_w {l : Launch} {G : zG} {b : Nat} {L : List zC} {Q : Nat} {A : Nat} (hQ : LX0 L Q) (hA : LX2 L A) : ∀ (w : Nat) {v0 : Int32} {v1 : Int32} {v2 : Int32} {v3 : Int64} {M : zMt} {N : zNt} {r : zMt × zNt}, D_X0_walk Q A w v0 v1 v2 v3 M N = some r → zM l G b yX0_walk cX0_walk 9 none (3 + w) 0 0 [.ref Q, .ref A, .int v0, .int v1, .int v2, .long v3] (L, M, N) (fun r2 z => r2 = none ∧ z = (L, r.1, r.2)) := by
  intro w
  induction w with
  | zero => intro v0 v1 v2 v3 M N r h; cases (show none = some r from h)
  | succ w ihw =>
    intro v0 v1 v2 v3 M N r h
    refine zM.of miX0_walk (Nat.le_of_ble_eq_true rfl) ?_
    intro p e s m args below meth c X hr hname
    generalize hF : ((fun r2 z => r2 = none ∧ z = (L, r.1, r.2)) : Option Value → zS → Prop) = FQ
    rw [show 3 + (w + 1) = 4 + w by omega]
    change Zw p l e { frames := 4 + w, cells := 0, slots := 0, locals := 80 * (4 + w) } s m args below meth c G b 9 (MQ below (zQ G b FQ) args s 0 0 (fun q : Nat => b ≤ q)) 0 0 0 [some (.ref Q), some (.ref A), some (.int v0), some (.int v1), some (.int v2), some (.long v3), none, none, none] [] (L, M, N)
    obtain ⟨q_lt, q_o, q_sets, q_seen, q_atUnit, q_early, q_result⟩ := id hQ
    obtain ⟨q_result_lt, q_result_o, q_result_line, q_result_unitOf, q_result_roundOf, q_result_leftTags, q_result_leftGuests, q_result_leftPreferred, q_result_ranked⟩ := id q_result
    obtain ⟨a_lt, a_o, a_quota, a_preferred, a_forGuests, a_applicantOf, a_size, a_guestCount, a_score, a_tickets, a_bits, a_party, a_wishCount, a_wishes⟩ := id hA
    have L_35 : ∀ u : Nat, ∀ (x2_35 : Int32) (x3_35 : Int32) (x4_35 : Int32) (x5_35 : Int64) (x7_35 : Int32) (x8_35 : Option Value) (M_35 : zMt) (N_35 : zNt), D_X0_walk_35 Q A (D_X0_walk Q A w) u x2_35 x3_35 x4_35 x5_35 x7_35 M_35 N_35 = some r → Zw p l e { frames := 4 + w, cells := 0, slots := 0, locals := 80 * (4 + w) } s m args below meth c G b 9 (MQ below (zQ G b FQ) args s 0 0 (fun q : Nat => b ≤ q)) 0 0 35 [some (.ref (Q)), some (.ref (A)), some (.int x2_35), some (.int x3_35), some (.int x4_35), some (.long x5_35), none, some (.int x7_35), x8_35] [] (L, M_35, N_35) := by
      intro u
      induction u with
      | zero => intro x2_35 x3_35 x4_35 x5_35 x7_35 x8_35 M_35 N_35 h; cases (show none = some r from h)
      | succ u_35 ih_35 =>
        have J_109 : ∀ (x2_109 : Int32) (x3_109 : Int32) (x4_109 : Int32) (x5_109 : Int64) (x7_109 : Int32) (x8_109 : Option Value) (M_109 : zMt) (N_109 : zNt), D_X0_walk_109 Q A (D_X0_walk Q A w) (D_X0_walk_35 Q A (D_X0_walk Q A w) u_35) x2_109 x3_109 x4_109 x5_109 x7_109 M_109 N_109 = some r → Zw p l e { frames := 4 + w, cells := 0, slots := 0, locals := 80 * (4 + w) } s m args below meth c G b 9 (MQ below (zQ G b FQ) args s 0 0 (fun q : Nat => b ≤ q)) 0 0 109 [some (.ref (Q)), some (.ref (A)), some (.int x2_109), some (.int x3_109), some (.int x4_109), some (.long x5_109), none, some (.int x7_109), x8_109] [] (L, M_109, N_109) := by
          intro x2_109 x3_109 x4_109 x5_109 x7_109 x8_109 M_109 N_109 h
          unfold D_X0_walk_109 at h
          refine a_iinc (v := x7_109 + 1) X dX0_walk_109 (by decide) rfl zi_1 ?_
          refine a_goto (tgt := 35) X dX0_walk_112 (by decide) ?_
          exact Zw.to2 (ih_35 _ _ _ _ _ _ _ _ h) rfl rfl rfl
        intro x2_35 x3_35 x4_35 x5_35 x7_35 x8_35 M_35 N_35 h
        rw [D_X0_walk_35] at h
        refine a_iload X dX0_walk_35 rfl ?_
        refine a_aload_n X dX0_walk_37 rfl ?_
        refine a_geti X lf0_40 (by assumption) rfl dX0_walk_38 ?_
        refine a_icmp_ge (tgt := 115) X dX0_walk_41 (by decide) (fun h_41 => ?_) (fun h_41 => ?_)
        · replace h := (if_pos h_41).symm.trans h
          refine a_vret X hr dX0_walk_115 ⟨by decide, by decide⟩ ?_
          subst hF
          rw [← Option.some.inj h]
          exact ⟨rfl, rfl⟩
        · replace h := (if_neg h_41).symm.trans h
          refine a_iload_n X dX0_walk_44 rfl ?_
          refine a_iload X dX0_walk_45 rfl ?_
          refine a_ishr X dX0_walk_47 ?_
          refine a_iconst (v := 1) X dX0_walk_48 (by decide) ?_
          refine a_iand X dX0_walk_49 ?_
          refine a_iconst (v := 1) X dX0_walk_50 (by decide) ?_
          refine a_icmp_ne (tgt := 109) X dX0_walk_51 (by decide) (fun h_51 => ?_) (fun h_51 => ?_)
          · replace h := (if_neg h_51).symm.trans h
            exact Zw.to2 (J_109 _ _ _ _ _ _ _ _ h) rfl rfl rfl
          · replace h := (if_pos h_51).symm.trans h
            refine a_aload_n X dX0_walk_54 rfl ?_
            refine a_getr X lf0_63 (by assumption) rfl (by omega) dX0_walk_55 ?_
            refine a_iload X dX0_walk_58 rfl ?_
            refine a_callSNv X dX0_walk_60 miX7_cell lm0_66 (c_cell (by assumption) (by first | decide | assumption)) rfl rfl (Nat.le_of_ble_eq_true rfl) ⟨by first | decide | (show _ ≤ _; dsimp only; omega), by first | decide | (show _ ≤ _; dsimp only; omega), by first | decide | exact Nat.le_refl 0, by first | decide | exact Nat.le_refl 0⟩ ?_
            refine a_istore X dX0_walk_63 (by decide) ?_
            refine a_aload_n X dX0_walk_65 rfl ?_
            refine a_getr X lf0_28 (by assumption) rfl (by omega) dX0_walk_66 ?_
            refine a_getr X lf0_70 (by assumption) rfl (by omega) dX0_walk_69 ?_
            refine a_iload_n X dX0_walk_72 rfl ?_
            refine a_iload X dX0_walk_73 rfl ?_
            obtain ⟨M_75, f_75, h⟩ := zLtx h
            refine a_callSNu X dX0_walk_75 miX7_put lm0_73 (zMu (c_put (by assumption) (by first | decide | assumption)) f_75) rfl rfl (Nat.le_of_ble_eq_true rfl) ⟨by first | decide | (show _ ≤ _; dsimp only; omega), by first | decide | (show _ ≤ _; dsimp only; omega), by first | decide | exact Nat.le_refl 0, by first | decide | exact Nat.le_refl 0⟩ ?_
            refine a_aload_n X dX0_walk_78 rfl ?_
            refine a_aload_n X dX0_walk_79 rfl ?_
            refine a_iload_n X dX0_walk_80 rfl ?_
            refine a_iconst (v := 1) X dX0_walk_81 (by decide) ?_
            refine a_iadd X dX0_walk_82 ?_
            refine a_iload_n X dX0_walk_83 rfl ?_
            refine a_iconst (v := 1) X dX0_walk_84 (by decide) ?_
            refine a_iload X dX0_walk_85 rfl ?_
            refine a_ishl X dX0_walk_87 ?_
            refine a_iconst (v := -1) X dX0_walk_88 (by decide) ?_
            refine a_ixor X dX0_walk_89 ?_
            refine a_iand X dX0_walk_90 ?_
            refine a_iload X dX0_walk_91 rfl ?_
            refine a_iload X dX0_walk_93 rfl ?_
            refine a_isub X dX0_walk_95 ?_
            refine a_lload X dX0_walk_96 rfl ?_
            refine a_iload X dX0_walk_98 rfl ?_
            refine a_i2l X dX0_walk_100 ?_
            refine a_lmul X dX0_walk_101 ?_
            refine a_iload X dX0_walk_102 rfl ?_
            refine a_i2l X dX0_walk_104 ?_
            obtain ⟨z_105, h⟩ := zZlx h
            refine a_ldiv X dX0_walk_105 (z_105) ?_
            obtain ⟨e_106, f_106, h⟩ := zBx h
            refine a_callSu X dX0_walk_106 miX0_walk lm0_51 (ihw f_106) rfl rfl (Nat.le_of_ble_eq_true rfl) ⟨by first | decide | (show _ ≤ _; dsimp only; omega), by first | decide | (show _ ≤ _; dsimp only; omega), by first | decide | exact Nat.le_refl 0, by first | decide | exact Nat.le_refl 0⟩ ?_
            exact Zw.to2 (J_109 _ _ _ _ _ _ _ _ h) rfl rfl rfl
    have H_35 : ∀ (x2_35 : Int32) (x3_35 : Int32) (x4_35 : Int32) (x5_35 : Int64) (x7_35 : Int32) (x8_35 : Option Value) (M_35 : zMt) (N_35 : zNt), D_X0_walk_35 Q A (D_X0_walk Q A w) zFu x2_35 x3_35 x4_35 x5_35 x7_35 M_35 N_35 = some r → Zw p l e { frames := 4 + w, cells := 0, slots := 0, locals := 80 * (4 + w) } s m args below meth c G b 9 (MQ below (zQ G b FQ) args s 0 0 (fun q : Nat => b ≤ q)) 0 0 35 [some (.ref (Q)), some (.ref (A)), some (.int x2_35), some (.int x3_35), some (.int x4_35), some (.long x5_35), none, some (.int x7_35), x8_35] [] (L, M_35, N_35) := L_35 zFu
    have J_31 : ∀ (x2_31 : Int32) (x3_31 : Int32) (x4_31 : Int32) (x5_31 : Int64) (x7_31 : Option Value) (x8_31 : Option Value) (M_31 : zMt) (N_31 : zNt), D_X0_walk_31 Q A (D_X0_walk Q A w) M_31 N_31 = some r → Zw p l e { frames := 4 + w, cells := 0, slots := 0, locals := 80 * (4 + w) } s m args below meth c G b 9 (MQ below (zQ G b FQ) args s 0 0 (fun q : Nat => b ≤ q)) 0 0 31 [some (.ref (Q)), some (.ref (A)), some (.int x2_31), some (.int x3_31), some (.int x4_31), some (.long x5_31), none, x7_31, x8_31] [] (L, M_31, N_31) := by
      intro x2_31 x3_31 x4_31 x5_31 x7_31 x8_31 M_31 N_31 h
      unfold D_X0_walk_31 at h
      refine a_vret X hr dX0_walk_31 ⟨by decide, by decide⟩ ?_
      subst hF
      rw [← Option.some.inj h]
      exact ⟨rfl, rfl⟩
    rw [D_X0_walk] at h
    refine a_iload_n X dX0_walk_0 rfl ?_
    refine a_if_ne (tgt := 20) X dX0_walk_1 (by decide) (fun h_1 => ?_) (fun h_1 => ?_)
    · replace h := (if_neg h_1).symm.trans h
      refine a_iload_n X dX0_walk_20 rfl ?_
      refine a_bipush (v := 7) X dX0_walk_21 (by decide) ?_
      refine a_icmp_ge (tgt := 31) X dX0_walk_23 (by decide) (fun h_23 => ?_) (fun h_23 => ?_)
      · replace h := (if_pos h_23).symm.trans h
        exact Zw.to2 (J_31 _ _ _ _ _ _ _ _ h) rfl rfl rfl
      · replace h := (if_neg h_23).symm.trans h
        refine a_iload X dX0_walk_26 rfl ?_
        refine a_if_gt (tgt := 32) X dX0_walk_28 (by decide) (fun h_28 => ?_) (fun h_28 => ?_)
        · replace h := (if_pos h_28).symm.trans h
          refine a_iconst (v := 0) X dX0_walk_32 (by decide) ?_
          refine a_istore X dX0_walk_33 (by decide) ?_
          exact Zw.to2 (H_35 _ _ _ _ _ _ _ _ h) rfl rfl rfl
        · replace h := (if_neg h_28).symm.trans h
          exact Zw.to2 (J_31 _ _ _ _ _ _ _ _ h) rfl rfl rfl
    · replace h := (if_pos h_1).symm.trans h
      refine a_aload_n X dX0_walk_4 rfl ?_
      refine a_getr X lf0_28 (by assumption) rfl (by omega) dX0_walk_5 ?_
      refine a_aload_n X dX0_walk_8 rfl ?_
      obtain ⟨e_9, f_9, h⟩ := zBx h
      refine a_callVu X dX0_walk_9 miX5_settle lm0_55 (t_X5_settle (by assumption) (by assumption) f_9) (by assumption) rfl rfl rfl (Nat.le_of_ble_eq_true rfl) ⟨by first | decide | (show _ ≤ _; dsimp only; omega), by first | decide | (show _ ≤ _; dsimp only; omega), by first | decide | exact Nat.le_refl 0, by first | decide | exact Nat.le_refl 0⟩ ?_
      refine a_aload_n X dX0_walk_12 rfl ?_
      refine a_aload_n X dX0_walk_13 rfl ?_
      refine a_lload X dX0_walk_14 rfl ?_
      obtain ⟨e_16, f_16, h⟩ := zBx h
      refine a_callVu X dX0_walk_16 miX0_record lm0_59 (t_X0_record (by assumption) (by assumption) f_16) (by assumption) rfl rfl rfl (Nat.le_of_ble_eq_true rfl) ⟨by first | decide | (show _ ≤ _; dsimp only; omega), by first | decide | (show _ ≤ _; dsimp only; omega), by first | decide | exact Nat.le_refl 0, by first | decide | exact Nat.le_refl 0⟩ ?_
      refine a_vret X hr dX0_walk_19 ⟨by decide, by decide⟩ ?_
      subst hF
      rw [← Option.some.inj h]
      exact ⟨rfl, rfl⟩
theorem t_X0_walk {l : Launch} {G : zG} {b : Nat} {L : List zC} {M : zMt} {N : zNt} {Q : Nat} {A : Nat} (hQ : LX0 L Q) (hA : LX2 L A) {v0 : Int32} {v1 : Int32} {v2 : Int32} {v3 : Int64} {r : zMt × zNt} (h : D_X0_walk Q A zRec v0 v1 v2 v3 M N = some r) : zM l G b yX0_walk cX0_walk 9 none 12 0 0 [.ref Q, .ref A, .int v0, .int v1, .int v2, .long v3] (L, M, N) (fun r2 z => r2 = none ∧ z = (L, r.1, r.2)) := t_X0_walk_w hQ hA zRec h
noncomputable def D_X0_reckon_62 (Q : Nat) (A : Nat) (M_62 : zMt) (N_62 : zNt) : Option (zMt × zNt) :=
  some (M_62, N_62)
noncomputable def D_X0_reckon (Q : Nat) (A : Nat) (M : zMt) (N : zNt) : Option (zMt × zNt) :=
  zLt (zfil N (Q + 1) 128 (0 : Int64)) fun N_5 =>
  zLt (zfil M (Q + 2) 128 (0 : Int32)) fun M_13 =>
  zLt (zfil N_5 (Q + 3) 35 (0 : Int64)) fun N_21 =>
  zLt (zfil N_21 (Q + 4) 7 (0 : Int64)) fun N_29 =>
  if (7 : Int32) < (M_13 A 1) then
    D_X0_reckon_62 Q A M_13 N_29
  else
    zB (D_X0_walk Q A zRec (0 : Int32) (((1 : Int32) <<< ((M_13 A 1) &&& 31)) - (1 : Int32)) (M_13 A 2) (1000000000000 : Int64) M_13 N_29) fun e_59 =>
    D_X0_reckon_62 Q A e_59.1 e_59.2
set_option maxRecDepth 100000 in
set_option maxHeartbeats 4000000 in
theorem t_X0_reckon {l : Launch} {G : zG} {b : Nat} {L : List zC} {M : zMt} {N : zNt} {Q : Nat} {A : Nat} (hQ : LX0 L Q) (hA : LX2 L A)  {r : zMt × zNt} (h : D_X0_reckon Q A M N = some r) : zM l G b yX0_reckon cX0_reckon 2 none 13 0 0 [.ref Q, .ref A] (L, M, N) (fun r2 z => r2 = none ∧ z = (L, r.1, r.2)) := by
  refine zM.of miX0_reckon (Nat.le_of_ble_eq_true rfl) ?_
  intro p e s m args below meth c X hr hname
  generalize hF : ((fun r2 z => r2 = none ∧ z = (L, r.1, r.2)) : Option Value → zS → Prop) = FQ
  change Zw p l e { frames := 13, cells := 0, slots := 0, locals := 80 * (13) } s m args below meth c G b 2 (MQ below (zQ G b FQ) args s 0 0 (fun q : Nat => b ≤ q)) 0 0 0 [some (.ref Q), some (.ref A)] [] (L, M, N)
  obtain ⟨q_lt, q_o, q_sets, q_seen, q_atUnit, q_early, q_result⟩ := id hQ
  obtain ⟨q_result_lt, q_result_o, q_result_line, q_result_unitOf, q_result_roundOf, q_result_leftTags, q_result_leftGuests, q_result_leftPreferred, q_result_ranked⟩ := id q_result
  obtain ⟨a_lt, a_o, a_quota, a_preferred, a_forGuests, a_applicantOf, a_size, a_guestCount, a_score, a_tickets, a_bits, a_party, a_wishCount, a_wishes⟩ := id hA
  have J_62 : ∀ (M_62 : zMt) (N_62 : zNt), D_X0_reckon_62 Q A M_62 N_62 = some r → Zw p l e { frames := 13, cells := 0, slots := 0, locals := 80 * (13) } s m args below meth c G b 2 (MQ below (zQ G b FQ) args s 0 0 (fun q : Nat => b ≤ q)) 0 0 62 [some (.ref (Q)), some (.ref (A))] [] (L, M_62, N_62) := by
    intro M_62 N_62 h
    unfold D_X0_reckon_62 at h
    refine a_vret X hr dX0_reckon_62 ⟨by decide, by decide⟩ ?_
    subst hF
    rw [← Option.some.inj h]
    exact ⟨rfl, rfl⟩
  unfold D_X0_reckon at h
  refine a_aload_n X dX0_reckon_0 rfl ?_
  refine a_getr X lf0_9 (by assumption) rfl (by omega) dX0_reckon_1 ?_
  refine a_lconst (v := 0) X dX0_reckon_4 (by decide) ?_
  obtain ⟨N_5, f_5, h⟩ := zLtx h
  refine a_callSNu X dX0_reckon_5 miX7_bigFill lm0_32 (zMuN (c_bigFill (by assumption) (by first | decide | assumption)) f_5) rfl rfl (Nat.le_of_ble_eq_true rfl) ⟨by decide, by decide, by decide, by decide⟩ ?_
  refine a_aload_n X dX0_reckon_8 rfl ?_
  refine a_getr X lf0_15 (by assumption) rfl (by omega) dX0_reckon_9 ?_
  refine a_iconst (v := 0) X dX0_reckon_12 (by decide) ?_
  obtain ⟨M_13, f_13, h⟩ := zLtx h
  refine a_callSNu X dX0_reckon_13 miX7_fill lm0_36 (zMu (c_fill (by assumption) (by first | decide | assumption)) f_13) rfl rfl (Nat.le_of_ble_eq_true rfl) ⟨by decide, by decide, by decide, by decide⟩ ?_
  refine a_aload_n X dX0_reckon_16 rfl ?_
  refine a_getr X lf0_19 (by assumption) rfl (by omega) dX0_reckon_17 ?_
  refine a_lconst (v := 0) X dX0_reckon_20 (by decide) ?_
  obtain ⟨N_21, f_21, h⟩ := zLtx h
  refine a_callSNu X dX0_reckon_21 miX7_bigFill lm0_32 (zMuN (c_bigFill (by assumption) (by first | decide | assumption)) f_21) rfl rfl (Nat.le_of_ble_eq_true rfl) ⟨by decide, by decide, by decide, by decide⟩ ?_
  refine a_aload_n X dX0_reckon_24 rfl ?_
  refine a_getr X lf0_22 (by assumption) rfl (by omega) dX0_reckon_25 ?_
  refine a_lconst (v := 0) X dX0_reckon_28 (by decide) ?_
  obtain ⟨N_29, f_29, h⟩ := zLtx h
  refine a_callSNu X dX0_reckon_29 miX7_bigFill lm0_32 (zMuN (c_bigFill (by assumption) (by first | decide | assumption)) f_29) rfl rfl (Nat.le_of_ble_eq_true rfl) ⟨by decide, by decide, by decide, by decide⟩ ?_
  refine a_aload_n X dX0_reckon_32 rfl ?_
  refine a_geti X lf0_40 (by assumption) rfl dX0_reckon_33 ?_
  refine a_bipush (v := 7) X dX0_reckon_36 (by decide) ?_
  refine a_icmp_gt (tgt := 62) X dX0_reckon_38 (by decide) (fun h_38 => ?_) (fun h_38 => ?_)
  · replace h := (if_pos h_38).symm.trans h
    exact Zw.to2 (J_62 _ _ h) rfl rfl rfl
  · replace h := (if_neg h_38).symm.trans h
    refine a_aload_n X dX0_reckon_41 rfl ?_
    refine a_aload_n X dX0_reckon_42 rfl ?_
    refine a_iconst (v := 0) X dX0_reckon_43 (by decide) ?_
    refine a_iconst (v := 1) X dX0_reckon_44 (by decide) ?_
    refine a_aload_n X dX0_reckon_45 rfl ?_
    refine a_geti X lf0_40 (by assumption) rfl dX0_reckon_46 ?_
    refine a_ishl X dX0_reckon_49 ?_
    refine a_iconst (v := 1) X dX0_reckon_50 (by decide) ?_
    refine a_isub X dX0_reckon_51 ?_
    refine a_aload_n X dX0_reckon_52 rfl ?_
    refine a_geti X lf0_46 (by assumption) rfl dX0_reckon_53 ?_
    refine a_ldc2 X dX0_reckon_56 lk0_49 ?_
    obtain ⟨e_59, f_59, h⟩ := zBx h
    refine a_callSu X dX0_reckon_59 miX0_walk lm0_51 (t_X0_walk (by assumption) (by assumption) f_59) rfl rfl (Nat.le_of_ble_eq_true rfl) ⟨by decide, by decide, by decide, by decide⟩ ?_
    exact Zw.to2 (J_62 _ _ h) rfl rfl rfl
noncomputable def D_X0_certainUnit (Q : Nat) (N : zNt) (v0 : Int32) (v1 : Int32) : Option (Int64) :=
  some ((zrd 0 (N (Q + 3)) 35 ((v0 * (5 : Int32)) + v1)))
set_option maxRecDepth 100000 in
set_option maxHeartbeats 4000000 in
theorem t_X0_certainUnit {l : Launch} {G : zG} {b : Nat} {L : List zC} {M : zMt} {N : zNt} {Q : Nat} (hQ : LX0 L Q) {v0 : Int32} {v1 : Int32} {r : Int64} (h : D_X0_certainUnit Q N v0 v1 = some r) : zM l G b yX0_certainUnit cX0_certainUnit 3 (some .long) 1 0 0 [.ref Q, .int v0, .int v1] (L, M, N) (fun r2 z => r2 = some (.long r) ∧ z = (L, M, N)) := by
  refine zM.of miX0_certainUnit (Nat.le_of_ble_eq_true rfl) ?_
  intro p e s m args below meth c X hr hname
  generalize hF : ((fun r2 z => r2 = some (.long r) ∧ z = (L, M, N)) : Option Value → zS → Prop) = FQ
  change Zw p l e { frames := 1, cells := 0, slots := 0, locals := 80 * (1) } s m args below meth c G b 3 (MQ below (zQ G b FQ) args s 0 0 (fun q : Nat => b ≤ q)) 0 0 0 [some (.ref Q), some (.int v0), some (.int v1)] [] (L, M, N)
  obtain ⟨q_lt, q_o, q_sets, q_seen, q_atUnit, q_early, q_result⟩ := id hQ
  obtain ⟨q_result_lt, q_result_o, q_result_line, q_result_unitOf, q_result_roundOf, q_result_leftTags, q_result_leftGuests, q_result_leftPreferred, q_result_ranked⟩ := id q_result
  unfold D_X0_certainUnit at h
  refine a_aload_n X dX0_certainUnit_0 rfl ?_
  refine a_getr X lf0_19 (by assumption) rfl (by omega) dX0_certainUnit_1 ?_
  refine a_iload_n X dX0_certainUnit_4 rfl ?_
  refine a_iconst (v := 5) X dX0_certainUnit_5 (by decide) ?_
  refine a_imul X dX0_certainUnit_6 ?_
  refine a_iload_n X dX0_certainUnit_7 rfl ?_
  refine a_iadd X dX0_certainUnit_8 ?_
  refine a_callSNv X dX0_certainUnit_9 miX7_bigCell lm0_87 (c_bigCell (by assumption) (by first | decide | assumption)) rfl rfl (Nat.le_of_ble_eq_true rfl) ⟨by decide, by decide, by decide, by decide⟩ ?_
  refine a_lret X hr dX0_certainUnit_12 ⟨by decide, by decide⟩ ?_
  subst hF
  rw [← Option.some.inj h]
  exact ⟨rfl, rfl⟩
noncomputable def D_X0_allOf_33 (Q : Nat) (N : zNt) (k5 : Int32 → Int64 → Int32 → Option (Int64)) (x1_33 : Int32) (x2_33 : Int64) (x4_33 : Int32) : Option (Int64) :=
  k5 x1_33 x2_33 (x4_33 + 1)
noncomputable def D_X0_allOf_5 (Q : Nat) (N : zNt) : Nat → Int32 → Int64 → Int32 → Option (Int64)
  | 0, _, _, _ => none
  | n + 1, x1_5, x2_5, x4_5 =>
    if (128 : Int32) ≤ x4_5 then
      some (x2_5)
    else
      if (x4_5 &&& x1_5) = x1_5 then
        D_X0_allOf_33 Q N (D_X0_allOf_5 Q N n) x1_5 (x2_5 + (zrd 0 (N (Q + 1)) 128 x4_5)) x4_5
      else
        D_X0_allOf_33 Q N (D_X0_allOf_5 Q N n) x1_5 x2_5 x4_5
noncomputable def D_X0_allOf (Q : Nat) (N : zNt) (v0 : Int32) : Option (Int64) :=
  D_X0_allOf_5 Q N zFu v0 (0 : Int64) (0 : Int32)
set_option maxRecDepth 100000 in
set_option maxHeartbeats 4000000 in
theorem t_X0_allOf {l : Launch} {G : zG} {b : Nat} {L : List zC} {M : zMt} {N : zNt} {Q : Nat} (hQ : LX0 L Q) {v0 : Int32} {r : Int64} (h : D_X0_allOf Q N v0 = some r) : zM l G b yX0_allOf cX0_allOf 5 (some .long) 1 0 0 [.ref Q, .int v0] (L, M, N) (fun r2 z => r2 = some (.long r) ∧ z = (L, M, N)) := by
  refine zM.of miX0_allOf (Nat.le_of_ble_eq_true rfl) ?_
  intro p e s m args below meth c X hr hname
  generalize hF : ((fun r2 z => r2 = some (.long r) ∧ z = (L, M, N)) : Option Value → zS → Prop) = FQ
  change Zw p l e { frames := 1, cells := 0, slots := 0, locals := 80 * (1) } s m args below meth c G b 5 (MQ below (zQ G b FQ) args s 0 0 (fun q : Nat => b ≤ q)) 0 0 0 [some (.ref Q), some (.int v0), none, none, none] [] (L, M, N)
  obtain ⟨q_lt, q_o, q_sets, q_seen, q_atUnit, q_early, q_result⟩ := id hQ
  obtain ⟨q_result_lt, q_result_o, q_result_line, q_result_unitOf, q_result_roundOf, q_result_leftTags, q_result_leftGuests, q_result_leftPreferred, q_result_ranked⟩ := id q_result
  have L_5 : ∀ u : Nat, ∀ (x1_5 : Int32) (x2_5 : Int64) (x4_5 : Int32), D_X0_allOf_5 Q N u x1_5 x2_5 x4_5 = some r → Zw p l e { frames := 1, cells := 0, slots := 0, locals := 80 * (1) } s m args below meth c G b 5 (MQ below (zQ G b FQ) args s 0 0 (fun q : Nat => b ≤ q)) 0 0 5 [some (.ref (Q)), some (.int x1_5), some (.long x2_5), none, some (.int x4_5)] [] (L, M, N) := by
    intro u
    induction u with
    | zero => intro x1_5 x2_5 x4_5 h; cases (show none = some r from h)
    | succ u_5 ih_5 =>
      have J_33 : ∀ (x1_33 : Int32) (x2_33 : Int64) (x4_33 : Int32), D_X0_allOf_33 Q N (D_X0_allOf_5 Q N u_5) x1_33 x2_33 x4_33 = some r → Zw p l e { frames := 1, cells := 0, slots := 0, locals := 80 * (1) } s m args below meth c G b 5 (MQ below (zQ G b FQ) args s 0 0 (fun q : Nat => b ≤ q)) 0 0 33 [some (.ref (Q)), some (.int x1_33), some (.long x2_33), none, some (.int x4_33)] [] (L, M, N) := by
        intro x1_33 x2_33 x4_33 h
        unfold D_X0_allOf_33 at h
        refine a_iinc (v := x4_33 + 1) X dX0_allOf_33 (by decide) rfl zi_1 ?_
        refine a_goto (tgt := 5) X dX0_allOf_36 (by decide) ?_
        exact Zw.to2 (ih_5 _ _ _ h) rfl rfl rfl
      intro x1_5 x2_5 x4_5 h
      rw [D_X0_allOf_5] at h
      refine a_iload X dX0_allOf_5 rfl ?_
      refine a_sipush (v := 128) X dX0_allOf_7 (by decide) ?_
      refine a_icmp_ge (tgt := 39) X dX0_allOf_10 (by decide) (fun h_10 => ?_) (fun h_10 => ?_)
      · replace h := (if_pos h_10).symm.trans h
        refine a_lload_n X dX0_allOf_39 rfl ?_
        refine a_lret X hr dX0_allOf_40 ⟨by decide, by decide⟩ ?_
        subst hF
        rw [← Option.some.inj h]
        exact ⟨rfl, rfl⟩
      · replace h := (if_neg h_10).symm.trans h
        refine a_iload X dX0_allOf_13 rfl ?_
        refine a_iload_n X dX0_allOf_15 rfl ?_
        refine a_iand X dX0_allOf_16 ?_
        refine a_iload_n X dX0_allOf_17 rfl ?_
        refine a_icmp_ne (tgt := 33) X dX0_allOf_18 (by decide) (fun h_18 => ?_) (fun h_18 => ?_)
        · replace h := (if_neg h_18).symm.trans h
          exact Zw.to2 (J_33 _ _ _ h) rfl rfl rfl
        · replace h := (if_pos h_18).symm.trans h
          refine a_lload_n X dX0_allOf_21 rfl ?_
          refine a_aload_n X dX0_allOf_22 rfl ?_
          refine a_getr X lf0_9 (by assumption) rfl (by omega) dX0_allOf_23 ?_
          refine a_iload X dX0_allOf_26 rfl ?_
          refine a_callSNv X dX0_allOf_28 miX7_bigCell lm0_87 (c_bigCell (by assumption) (by first | decide | assumption)) rfl rfl (Nat.le_of_ble_eq_true rfl) ⟨by decide, by decide, by decide, by decide⟩ ?_
          refine a_ladd X dX0_allOf_31 ?_
          refine a_lstore_n X dX0_allOf_32 (by decide) ?_
          exact Zw.to2 (J_33 _ _ _ h) rfl rfl rfl
  have H_5 : ∀ (x1_5 : Int32) (x2_5 : Int64) (x4_5 : Int32), D_X0_allOf_5 Q N zFu x1_5 x2_5 x4_5 = some r → Zw p l e { frames := 1, cells := 0, slots := 0, locals := 80 * (1) } s m args below meth c G b 5 (MQ below (zQ G b FQ) args s 0 0 (fun q : Nat => b ≤ q)) 0 0 5 [some (.ref (Q)), some (.int x1_5), some (.long x2_5), none, some (.int x4_5)] [] (L, M, N) := L_5 zFu
  unfold D_X0_allOf at h
  refine a_lconst (v := 0) X dX0_allOf_0 (by decide) ?_
  refine a_lstore_n X dX0_allOf_1 (by decide) ?_
  refine a_iconst (v := 0) X dX0_allOf_2 (by decide) ?_
  refine a_istore X dX0_allOf_3 (by decide) ?_
  exact Zw.to2 (H_5 _ _ _ h) rfl rfl rfl
noncomputable def D_X0_anyUnit (Q : Nat) (N : zNt) (v0 : Int32) : Option (Int64) :=
  zB (D_X0_allOf Q N ((1 : Int32) <<< (v0 &&& 31))) fun e_4 =>
  some (e_4)
set_option maxRecDepth 100000 in
set_option maxHeartbeats 4000000 in
theorem t_X0_anyUnit {l : Launch} {G : zG} {b : Nat} {L : List zC} {M : zMt} {N : zNt} {Q : Nat} (hQ : LX0 L Q) {v0 : Int32} {r : Int64} (h : D_X0_anyUnit Q N v0 = some r) : zM l G b yX0_anyUnit cX0_anyUnit 2 (some .long) 2 0 0 [.ref Q, .int v0] (L, M, N) (fun r2 z => r2 = some (.long r) ∧ z = (L, M, N)) := by
  refine zM.of miX0_anyUnit (Nat.le_of_ble_eq_true rfl) ?_
  intro p e s m args below meth c X hr hname
  generalize hF : ((fun r2 z => r2 = some (.long r) ∧ z = (L, M, N)) : Option Value → zS → Prop) = FQ
  change Zw p l e { frames := 2, cells := 0, slots := 0, locals := 80 * (2) } s m args below meth c G b 2 (MQ below (zQ G b FQ) args s 0 0 (fun q : Nat => b ≤ q)) 0 0 0 [some (.ref Q), some (.int v0)] [] (L, M, N)
  obtain ⟨q_lt, q_o, q_sets, q_seen, q_atUnit, q_early, q_result⟩ := id hQ
  obtain ⟨q_result_lt, q_result_o, q_result_line, q_result_unitOf, q_result_roundOf, q_result_leftTags, q_result_leftGuests, q_result_leftPreferred, q_result_ranked⟩ := id q_result
  unfold D_X0_anyUnit at h
  refine a_aload_n X dX0_anyUnit_0 rfl ?_
  refine a_iconst (v := 1) X dX0_anyUnit_1 (by decide) ?_
  refine a_iload_n X dX0_anyUnit_2 rfl ?_
  refine a_ishl X dX0_anyUnit_3 ?_
  obtain ⟨e_4, f_4, h⟩ := zBx h
  refine a_callVv X dX0_anyUnit_4 miX0_allOf lm0_91 (t_X0_allOf (by assumption) f_4) (by assumption) rfl rfl rfl (Nat.le_of_ble_eq_true rfl) ⟨by decide, by decide, by decide, by decide⟩ ?_
  refine a_lret X hr dX0_anyUnit_7 ⟨by decide, by decide⟩ ?_
  subst hF
  rw [← Option.some.inj h]
  exact ⟨rfl, rfl⟩
noncomputable def D_X0_always_28 (Q : Nat) (M : zMt) (k5 : Int32 → Int32 → Option (Int32)) (x1_28 : Int32) (x2_28 : Int32) : Option (Int32) :=
  k5 x1_28 (x2_28 + 1)
noncomputable def D_X0_always_5 (Q : Nat) (M : zMt) : Nat → Int32 → Int32 → Option (Int32)
  | 0, _, _ => none
  | n + 1, x1_5, x2_5 =>
    if (128 : Int32) ≤ x2_5 then
      some (x1_5)
    else
      if (zrd 0 (M (Q + 2)) 128 x2_5) = (1 : Int32) then
        D_X0_always_28 Q M (D_X0_always_5 Q M n) (x1_5 &&& x2_5) x2_5
      else
        D_X0_always_28 Q M (D_X0_always_5 Q M n) x1_5 x2_5
noncomputable def D_X0_always (Q : Nat) (M : zMt)  : Option (Int32) :=
  D_X0_always_5 Q M zFu (127 : Int32) (0 : Int32)
set_option maxRecDepth 100000 in
set_option maxHeartbeats 4000000 in
theorem t_X0_always {l : Launch} {G : zG} {b : Nat} {L : List zC} {M : zMt} {N : zNt} {Q : Nat} (hQ : LX0 L Q)  {r : Int32} (h : D_X0_always Q M = some r) : zM l G b yX0_always cX0_always 3 (some .int) 1 0 0 [.ref Q] (L, M, N) (fun r2 z => r2 = some (.int r) ∧ z = (L, M, N)) := by
  refine zM.of miX0_always (Nat.le_of_ble_eq_true rfl) ?_
  intro p e s m args below meth c X hr hname
  generalize hF : ((fun r2 z => r2 = some (.int r) ∧ z = (L, M, N)) : Option Value → zS → Prop) = FQ
  change Zw p l e { frames := 1, cells := 0, slots := 0, locals := 80 * (1) } s m args below meth c G b 3 (MQ below (zQ G b FQ) args s 0 0 (fun q : Nat => b ≤ q)) 0 0 0 [some (.ref Q), none, none] [] (L, M, N)
  obtain ⟨q_lt, q_o, q_sets, q_seen, q_atUnit, q_early, q_result⟩ := id hQ
  obtain ⟨q_result_lt, q_result_o, q_result_line, q_result_unitOf, q_result_roundOf, q_result_leftTags, q_result_leftGuests, q_result_leftPreferred, q_result_ranked⟩ := id q_result
  have L_5 : ∀ u : Nat, ∀ (x1_5 : Int32) (x2_5 : Int32), D_X0_always_5 Q M u x1_5 x2_5 = some r → Zw p l e { frames := 1, cells := 0, slots := 0, locals := 80 * (1) } s m args below meth c G b 3 (MQ below (zQ G b FQ) args s 0 0 (fun q : Nat => b ≤ q)) 0 0 5 [some (.ref (Q)), some (.int x1_5), some (.int x2_5)] [] (L, M, N) := by
    intro u
    induction u with
    | zero => intro x1_5 x2_5 h; cases (show none = some r from h)
    | succ u_5 ih_5 =>
      have J_28 : ∀ (x1_28 : Int32) (x2_28 : Int32), D_X0_always_28 Q M (D_X0_always_5 Q M u_5) x1_28 x2_28 = some r → Zw p l e { frames := 1, cells := 0, slots := 0, locals := 80 * (1) } s m args below meth c G b 3 (MQ below (zQ G b FQ) args s 0 0 (fun q : Nat => b ≤ q)) 0 0 28 [some (.ref (Q)), some (.int x1_28), some (.int x2_28)] [] (L, M, N) := by
        intro x1_28 x2_28 h
        unfold D_X0_always_28 at h
        refine a_iinc (v := x2_28 + 1) X dX0_always_28 (by decide) rfl zi_1 ?_
        refine a_goto (tgt := 5) X dX0_always_31 (by decide) ?_
        exact Zw.to2 (ih_5 _ _ h) rfl rfl rfl
      intro x1_5 x2_5 h
      rw [D_X0_always_5] at h
      refine a_iload_n X dX0_always_5 rfl ?_
      refine a_sipush (v := 128) X dX0_always_6 (by decide) ?_
      refine a_icmp_ge (tgt := 34) X dX0_always_9 (by decide) (fun h_9 => ?_) (fun h_9 => ?_)
      · replace h := (if_pos h_9).symm.trans h
        refine a_iload_n X dX0_always_34 rfl ?_
        refine a_iret X hr dX0_always_35 ⟨by decide, by decide⟩ ?_
        subst hF
        rw [← Option.some.inj h]
        exact ⟨rfl, rfl⟩
      · replace h := (if_neg h_9).symm.trans h
        refine a_aload_n X dX0_always_12 rfl ?_
        refine a_getr X lf0_15 (by assumption) rfl (by omega) dX0_always_13 ?_
        refine a_iload_n X dX0_always_16 rfl ?_
        refine a_callSNv X dX0_always_17 miX7_cell lm0_66 (c_cell (by assumption) (by first | decide | assumption)) rfl rfl (Nat.le_of_ble_eq_true rfl) ⟨by decide, by decide, by decide, by decide⟩ ?_
        refine a_iconst (v := 1) X dX0_always_20 (by decide) ?_
        refine a_icmp_ne (tgt := 28) X dX0_always_21 (by decide) (fun h_21 => ?_) (fun h_21 => ?_)
        · replace h := (if_neg h_21).symm.trans h
          exact Zw.to2 (J_28 _ _ h) rfl rfl rfl
        · replace h := (if_pos h_21).symm.trans h
          refine a_iload_n X dX0_always_24 rfl ?_
          refine a_iload_n X dX0_always_25 rfl ?_
          refine a_iand X dX0_always_26 ?_
          refine a_istore_n X dX0_always_27 (by decide) ?_
          exact Zw.to2 (J_28 _ _ h) rfl rfl rfl
  have H_5 : ∀ (x1_5 : Int32) (x2_5 : Int32), D_X0_always_5 Q M zFu x1_5 x2_5 = some r → Zw p l e { frames := 1, cells := 0, slots := 0, locals := 80 * (1) } s m args below meth c G b 3 (MQ below (zQ G b FQ) args s 0 0 (fun q : Nat => b ≤ q)) 0 0 5 [some (.ref (Q)), some (.int x1_5), some (.int x2_5)] [] (L, M, N) := L_5 zFu
  unfold D_X0_always at h
  refine a_bipush (v := 127) X dX0_always_0 (by decide) ?_
  refine a_istore_n X dX0_always_2 (by decide) ?_
  refine a_iconst (v := 0) X dX0_always_3 (by decide) ?_
  refine a_istore_n X dX0_always_4 (by decide) ?_
  exact Zw.to2 (H_5 _ _ h) rfl rfl rfl
noncomputable def D_X0_ever_27 (Q : Nat) (M : zMt) (k4 : Int32 → Int32 → Option (Int32)) (x1_27 : Int32) (x2_27 : Int32) : Option (Int32) :=
  k4 x1_27 (x2_27 + 1)
noncomputable def D_X0_ever_4 (Q : Nat) (M : zMt) : Nat → Int32 → Int32 → Option (Int32)
  | 0, _, _ => none
  | n + 1, x1_4, x2_4 =>
    if (128 : Int32) ≤ x2_4 then
      some (x1_4)
    else
      if (zrd 0 (M (Q + 2)) 128 x2_4) = (1 : Int32) then
        D_X0_ever_27 Q M (D_X0_ever_4 Q M n) (x1_4 ||| x2_4) x2_4
      else
        D_X0_ever_27 Q M (D_X0_ever_4 Q M n) x1_4 x2_4
noncomputable def D_X0_ever (Q : Nat) (M : zMt)  : Option (Int32) :=
  D_X0_ever_4 Q M zFu (0 : Int32) (0 : Int32)
set_option maxRecDepth 100000 in
set_option maxHeartbeats 4000000 in
theorem t_X0_ever {l : Launch} {G : zG} {b : Nat} {L : List zC} {M : zMt} {N : zNt} {Q : Nat} (hQ : LX0 L Q)  {r : Int32} (h : D_X0_ever Q M = some r) : zM l G b yX0_ever cX0_ever 3 (some .int) 1 0 0 [.ref Q] (L, M, N) (fun r2 z => r2 = some (.int r) ∧ z = (L, M, N)) := by
  refine zM.of miX0_ever (Nat.le_of_ble_eq_true rfl) ?_
  intro p e s m args below meth c X hr hname
  generalize hF : ((fun r2 z => r2 = some (.int r) ∧ z = (L, M, N)) : Option Value → zS → Prop) = FQ
  change Zw p l e { frames := 1, cells := 0, slots := 0, locals := 80 * (1) } s m args below meth c G b 3 (MQ below (zQ G b FQ) args s 0 0 (fun q : Nat => b ≤ q)) 0 0 0 [some (.ref Q), none, none] [] (L, M, N)
  obtain ⟨q_lt, q_o, q_sets, q_seen, q_atUnit, q_early, q_result⟩ := id hQ
  obtain ⟨q_result_lt, q_result_o, q_result_line, q_result_unitOf, q_result_roundOf, q_result_leftTags, q_result_leftGuests, q_result_leftPreferred, q_result_ranked⟩ := id q_result
  have L_4 : ∀ u : Nat, ∀ (x1_4 : Int32) (x2_4 : Int32), D_X0_ever_4 Q M u x1_4 x2_4 = some r → Zw p l e { frames := 1, cells := 0, slots := 0, locals := 80 * (1) } s m args below meth c G b 3 (MQ below (zQ G b FQ) args s 0 0 (fun q : Nat => b ≤ q)) 0 0 4 [some (.ref (Q)), some (.int x1_4), some (.int x2_4)] [] (L, M, N) := by
    intro u
    induction u with
    | zero => intro x1_4 x2_4 h; cases (show none = some r from h)
    | succ u_4 ih_4 =>
      have J_27 : ∀ (x1_27 : Int32) (x2_27 : Int32), D_X0_ever_27 Q M (D_X0_ever_4 Q M u_4) x1_27 x2_27 = some r → Zw p l e { frames := 1, cells := 0, slots := 0, locals := 80 * (1) } s m args below meth c G b 3 (MQ below (zQ G b FQ) args s 0 0 (fun q : Nat => b ≤ q)) 0 0 27 [some (.ref (Q)), some (.int x1_27), some (.int x2_27)] [] (L, M, N) := by
        intro x1_27 x2_27 h
        unfold D_X0_ever_27 at h
        refine a_iinc (v := x2_27 + 1) X dX0_ever_27 (by decide) rfl zi_1 ?_
        refine a_goto (tgt := 4) X dX0_ever_30 (by decide) ?_
        exact Zw.to2 (ih_4 _ _ h) rfl rfl rfl
      intro x1_4 x2_4 h
      rw [D_X0_ever_4] at h
      refine a_iload_n X dX0_ever_4 rfl ?_
      refine a_sipush (v := 128) X dX0_ever_5 (by decide) ?_
      refine a_icmp_ge (tgt := 33) X dX0_ever_8 (by decide) (fun h_8 => ?_) (fun h_8 => ?_)
      · replace h := (if_pos h_8).symm.trans h
        refine a_iload_n X dX0_ever_33 rfl ?_
        refine a_iret X hr dX0_ever_34 ⟨by decide, by decide⟩ ?_
        subst hF
        rw [← Option.some.inj h]
        exact ⟨rfl, rfl⟩
      · replace h := (if_neg h_8).symm.trans h
        refine a_aload_n X dX0_ever_11 rfl ?_
        refine a_getr X lf0_15 (by assumption) rfl (by omega) dX0_ever_12 ?_
        refine a_iload_n X dX0_ever_15 rfl ?_
        refine a_callSNv X dX0_ever_16 miX7_cell lm0_66 (c_cell (by assumption) (by first | decide | assumption)) rfl rfl (Nat.le_of_ble_eq_true rfl) ⟨by decide, by decide, by decide, by decide⟩ ?_
        refine a_iconst (v := 1) X dX0_ever_19 (by decide) ?_
        refine a_icmp_ne (tgt := 27) X dX0_ever_20 (by decide) (fun h_20 => ?_) (fun h_20 => ?_)
        · replace h := (if_neg h_20).symm.trans h
          exact Zw.to2 (J_27 _ _ h) rfl rfl rfl
        · replace h := (if_pos h_20).symm.trans h
          refine a_iload_n X dX0_ever_23 rfl ?_
          refine a_iload_n X dX0_ever_24 rfl ?_
          refine a_ior X dX0_ever_25 ?_
          refine a_istore_n X dX0_ever_26 (by decide) ?_
          exact Zw.to2 (J_27 _ _ h) rfl rfl rfl
  have H_4 : ∀ (x1_4 : Int32) (x2_4 : Int32), D_X0_ever_4 Q M zFu x1_4 x2_4 = some r → Zw p l e { frames := 1, cells := 0, slots := 0, locals := 80 * (1) } s m args below meth c G b 3 (MQ below (zQ G b FQ) args s 0 0 (fun q : Nat => b ≤ q)) 0 0 4 [some (.ref (Q)), some (.int x1_4), some (.int x2_4)] [] (L, M, N) := L_4 zFu
  unfold D_X0_ever at h
  refine a_iconst (v := 0) X dX0_ever_0 (by decide) ?_
  refine a_istore_n X dX0_ever_1 (by decide) ?_
  refine a_iconst (v := 0) X dX0_ever_2 (by decide) ?_
  refine a_istore_n X dX0_ever_3 (by decide) ?_
  exact Zw.to2 (H_4 _ _ h) rfl rfl rfl
noncomputable def D_X0_tagsOf_34 (Q : Nat) (M : zMt) (k4 : Int32 → Int32 → Int32 → Option (Int32)) (x1_34 : Int32) (x3_34 : Int32) (y0_34 : Int32) (y1_34 : Int32) : Option (Int32) :=
  k4 x1_34 (y0_34 + y1_34) (x3_34 + 1)
noncomputable def D_X0_tagsOf_4 (Q : Nat) (M : zMt) : Nat → Int32 → Int32 → Int32 → Option (Int32)
  | 0, _, _, _ => none
  | n + 1, x1_4, x2_4, x3_4 =>
    if (M Q 1) ≤ x3_4 then
      some (x2_4)
    else
      if ((x1_4 >>> (x3_4 &&& 31)) &&& (1 : Int32)) = (1 : Int32) then
        D_X0_tagsOf_34 Q M (D_X0_tagsOf_4 Q M n) x1_4 x3_4 x2_4 (zrd 0 (M (Q + 5)) 10 x3_4)
      else
        D_X0_tagsOf_34 Q M (D_X0_tagsOf_4 Q M n) x1_4 x3_4 x2_4 (0 : Int32)
noncomputable def D_X0_tagsOf (Q : Nat) (M : zMt) (v0 : Int32) : Option (Int32) :=
  D_X0_tagsOf_4 Q M zFu v0 (0 : Int32) (0 : Int32)
set_option maxRecDepth 100000 in
set_option maxHeartbeats 4000000 in
theorem t_X0_tagsOf {l : Launch} {G : zG} {b : Nat} {L : List zC} {M : zMt} {N : zNt} {Q : Nat} (hQ : LX2 L Q) {v0 : Int32} {r : Int32} (h : D_X0_tagsOf Q M v0 = some r) : zM l G b yX0_tagsOf cX0_tagsOf 4 (some .int) 1 0 0 [.ref Q, .int v0] (L, M, N) (fun r2 z => r2 = some (.int r) ∧ z = (L, M, N)) := by
  refine zM.of miX0_tagsOf (Nat.le_of_ble_eq_true rfl) ?_
  intro p e s m args below meth c X hr hname
  generalize hF : ((fun r2 z => r2 = some (.int r) ∧ z = (L, M, N)) : Option Value → zS → Prop) = FQ
  change Zw p l e { frames := 1, cells := 0, slots := 0, locals := 80 * (1) } s m args below meth c G b 4 (MQ below (zQ G b FQ) args s 0 0 (fun q : Nat => b ≤ q)) 0 0 0 [some (.ref Q), some (.int v0), none, none] [] (L, M, N)
  obtain ⟨q_lt, q_o, q_quota, q_preferred, q_forGuests, q_applicantOf, q_size, q_guestCount, q_score, q_tickets, q_bits, q_party, q_wishCount, q_wishes⟩ := id hQ
  have L_4 : ∀ u : Nat, ∀ (x1_4 : Int32) (x2_4 : Int32) (x3_4 : Int32), D_X0_tagsOf_4 Q M u x1_4 x2_4 x3_4 = some r → Zw p l e { frames := 1, cells := 0, slots := 0, locals := 80 * (1) } s m args below meth c G b 4 (MQ below (zQ G b FQ) args s 0 0 (fun q : Nat => b ≤ q)) 0 0 4 [some (.ref (Q)), some (.int x1_4), some (.int x2_4), some (.int x3_4)] [] (L, M, N) := by
    intro u
    induction u with
    | zero => intro x1_4 x2_4 x3_4 h; cases (show none = some r from h)
    | succ u_4 ih_4 =>
      have J_34 : ∀ (x1_34 : Int32) (x2_34 : Int32) (x3_34 : Int32) (y0_34 : Int32) (y1_34 : Int32), D_X0_tagsOf_34 Q M (D_X0_tagsOf_4 Q M u_4) x1_34 x3_34 y0_34 y1_34 = some r → Zw p l e { frames := 1, cells := 0, slots := 0, locals := 80 * (1) } s m args below meth c G b 4 (MQ below (zQ G b FQ) args s 0 0 (fun q : Nat => b ≤ q)) 0 0 34 [some (.ref (Q)), some (.int x1_34), some (.int x2_34), some (.int x3_34)] [.int y1_34, .int y0_34] (L, M, N) := by
        intro x1_34 x2_34 x3_34 y0_34 y1_34 h
        unfold D_X0_tagsOf_34 at h
        refine a_iadd X dX0_tagsOf_34 ?_
        refine a_istore_n X dX0_tagsOf_35 (by decide) ?_
        refine a_iinc (v := x3_34 + 1) X dX0_tagsOf_36 (by decide) rfl zi_1 ?_
        refine a_goto (tgt := 4) X dX0_tagsOf_39 (by decide) ?_
        exact Zw.to2 (ih_4 _ _ _ h) rfl rfl rfl
      intro x1_4 x2_4 x3_4 h
      rw [D_X0_tagsOf_4] at h
      refine a_iload_n X dX0_tagsOf_4 rfl ?_
      refine a_aload_n X dX0_tagsOf_5 rfl ?_
      refine a_geti X lf0_40 (by assumption) rfl dX0_tagsOf_6 ?_
      refine a_icmp_ge (tgt := 42) X dX0_tagsOf_9 (by decide) (fun h_9 => ?_) (fun h_9 => ?_)
      · replace h := (if_pos h_9).symm.trans h
        refine a_iload_n X dX0_tagsOf_42 rfl ?_
        refine a_iret X hr dX0_tagsOf_43 ⟨by decide, by decide⟩ ?_
        subst hF
        rw [← Option.some.inj h]
        exact ⟨rfl, rfl⟩
      · replace h := (if_neg h_9).symm.trans h
        refine a_iload_n X dX0_tagsOf_12 rfl ?_
        refine a_iload_n X dX0_tagsOf_13 rfl ?_
        refine a_iload_n X dX0_tagsOf_14 rfl ?_
        refine a_ishr X dX0_tagsOf_15 ?_
        refine a_iconst (v := 1) X dX0_tagsOf_16 (by decide) ?_
        refine a_iand X dX0_tagsOf_17 ?_
        refine a_iconst (v := 1) X dX0_tagsOf_18 (by decide) ?_
        refine a_icmp_ne (tgt := 33) X dX0_tagsOf_19 (by decide) (fun h_19 => ?_) (fun h_19 => ?_)
        · replace h := (if_neg h_19).symm.trans h
          refine a_iconst (v := 0) X dX0_tagsOf_33 (by decide) ?_
          exact Zw.to2 (J_34 _ _ _ _ _ h) rfl rfl rfl
        · replace h := (if_pos h_19).symm.trans h
          refine a_aload_n X dX0_tagsOf_22 rfl ?_
          refine a_getr X lf0_108 (by assumption) rfl (by omega) dX0_tagsOf_23 ?_
          refine a_iload_n X dX0_tagsOf_26 rfl ?_
          refine a_callSNv X dX0_tagsOf_27 miX7_cell lm0_66 (c_cell (by assumption) (by first | decide | assumption)) rfl rfl (Nat.le_of_ble_eq_true rfl) ⟨by decide, by decide, by decide, by decide⟩ ?_
          refine a_goto (tgt := 34) X dX0_tagsOf_30 (by decide) ?_
          exact Zw.to2 (J_34 _ _ _ _ _ h) rfl rfl rfl
  have H_4 : ∀ (x1_4 : Int32) (x2_4 : Int32) (x3_4 : Int32), D_X0_tagsOf_4 Q M zFu x1_4 x2_4 x3_4 = some r → Zw p l e { frames := 1, cells := 0, slots := 0, locals := 80 * (1) } s m args below meth c G b 4 (MQ below (zQ G b FQ) args s 0 0 (fun q : Nat => b ≤ q)) 0 0 4 [some (.ref (Q)), some (.int x1_4), some (.int x2_4), some (.int x3_4)] [] (L, M, N) := L_4 zFu
  unfold D_X0_tagsOf at h
  refine a_iconst (v := 0) X dX0_tagsOf_0 (by decide) ?_
  refine a_istore_n X dX0_tagsOf_1 (by decide) ?_
  refine a_iconst (v := 0) X dX0_tagsOf_2 (by decide) ?_
  refine a_istore_n X dX0_tagsOf_3 (by decide) ?_
  exact Zw.to2 (H_4 _ _ _ h) rfl rfl rfl
noncomputable def D_X0_fewestTags_34 (Q : Nat) (A : Nat) (M : zMt) (k5 : Int32 → Int32 → Option (Int32)) (x2_34 : Int32) (x3_34 : Int32) : Option (Int32) :=
  k5 x2_34 (x3_34 + 1)
noncomputable def D_X0_fewestTags_5 (Q : Nat) (A : Nat) (M : zMt) : Nat → Int32 → Int32 → Option (Int32)
  | 0, _, _ => none
  | n + 1, x2_5, x3_5 =>
    if (128 : Int32) ≤ x3_5 then
      some (x2_5)
    else
      if (zrd 0 (M (Q + 2)) 128 x3_5) = (1 : Int32) then
        zB (D_X0_tagsOf A M x3_5) fun e_27 =>
        D_X0_fewestTags_34 Q A M (D_X0_fewestTags_5 Q A M n) (if e_27 < x2_5 then e_27 else x2_5) x3_5
      else
        D_X0_fewestTags_34 Q A M (D_X0_fewestTags_5 Q A M n) x2_5 x3_5
noncomputable def D_X0_fewestTags (Q : Nat) (A : Nat) (M : zMt)  : Option (Int32) :=
  D_X0_fewestTags_5 Q A M zFu (10 : Int32) (0 : Int32)
set_option maxRecDepth 100000 in
set_option maxHeartbeats 4000000 in
theorem t_X0_fewestTags {l : Launch} {G : zG} {b : Nat} {L : List zC} {M : zMt} {N : zNt} {Q : Nat} {A : Nat} (hQ : LX0 L Q) (hA : LX2 L A)  {r : Int32} (h : D_X0_fewestTags Q A M = some r) : zM l G b yX0_fewestTags cX0_fewestTags 4 (some .int) 2 0 0 [.ref Q, .ref A] (L, M, N) (fun r2 z => r2 = some (.int r) ∧ z = (L, M, N)) := by
  refine zM.of miX0_fewestTags (Nat.le_of_ble_eq_true rfl) ?_
  intro p e s m args below meth c X hr hname
  generalize hF : ((fun r2 z => r2 = some (.int r) ∧ z = (L, M, N)) : Option Value → zS → Prop) = FQ
  change Zw p l e { frames := 2, cells := 0, slots := 0, locals := 80 * (2) } s m args below meth c G b 4 (MQ below (zQ G b FQ) args s 0 0 (fun q : Nat => b ≤ q)) 0 0 0 [some (.ref Q), some (.ref A), none, none] [] (L, M, N)
  obtain ⟨q_lt, q_o, q_sets, q_seen, q_atUnit, q_early, q_result⟩ := id hQ
  obtain ⟨q_result_lt, q_result_o, q_result_line, q_result_unitOf, q_result_roundOf, q_result_leftTags, q_result_leftGuests, q_result_leftPreferred, q_result_ranked⟩ := id q_result
  obtain ⟨a_lt, a_o, a_quota, a_preferred, a_forGuests, a_applicantOf, a_size, a_guestCount, a_score, a_tickets, a_bits, a_party, a_wishCount, a_wishes⟩ := id hA
  have L_5 : ∀ u : Nat, ∀ (x2_5 : Int32) (x3_5 : Int32), D_X0_fewestTags_5 Q A M u x2_5 x3_5 = some r → Zw p l e { frames := 2, cells := 0, slots := 0, locals := 80 * (2) } s m args below meth c G b 4 (MQ below (zQ G b FQ) args s 0 0 (fun q : Nat => b ≤ q)) 0 0 5 [some (.ref (Q)), some (.ref (A)), some (.int x2_5), some (.int x3_5)] [] (L, M, N) := by
    intro u
    induction u with
    | zero => intro x2_5 x3_5 h; cases (show none = some r from h)
    | succ u_5 ih_5 =>
      have J_34 : ∀ (x2_34 : Int32) (x3_34 : Int32), D_X0_fewestTags_34 Q A M (D_X0_fewestTags_5 Q A M u_5) x2_34 x3_34 = some r → Zw p l e { frames := 2, cells := 0, slots := 0, locals := 80 * (2) } s m args below meth c G b 4 (MQ below (zQ G b FQ) args s 0 0 (fun q : Nat => b ≤ q)) 0 0 34 [some (.ref (Q)), some (.ref (A)), some (.int x2_34), some (.int x3_34)] [] (L, M, N) := by
        intro x2_34 x3_34 h
        unfold D_X0_fewestTags_34 at h
        refine a_iinc (v := x3_34 + 1) X dX0_fewestTags_34 (by decide) rfl zi_1 ?_
        refine a_goto (tgt := 5) X dX0_fewestTags_37 (by decide) ?_
        exact Zw.to2 (ih_5 _ _ h) rfl rfl rfl
      intro x2_5 x3_5 h
      rw [D_X0_fewestTags_5] at h
      refine a_iload_n X dX0_fewestTags_5 rfl ?_
      refine a_sipush (v := 128) X dX0_fewestTags_6 (by decide) ?_
      refine a_icmp_ge (tgt := 40) X dX0_fewestTags_9 (by decide) (fun h_9 => ?_) (fun h_9 => ?_)
      · replace h := (if_pos h_9).symm.trans h
        refine a_iload_n X dX0_fewestTags_40 rfl ?_
        refine a_iret X hr dX0_fewestTags_41 ⟨by decide, by decide⟩ ?_
        subst hF
        rw [← Option.some.inj h]
        exact ⟨rfl, rfl⟩
      · replace h := (if_neg h_9).symm.trans h
        refine a_aload_n X dX0_fewestTags_12 rfl ?_
        refine a_getr X lf0_15 (by assumption) rfl (by omega) dX0_fewestTags_13 ?_
        refine a_iload_n X dX0_fewestTags_16 rfl ?_
        refine a_callSNv X dX0_fewestTags_17 miX7_cell lm0_66 (c_cell (by assumption) (by first | decide | assumption)) rfl rfl (Nat.le_of_ble_eq_true rfl) ⟨by decide, by decide, by decide, by decide⟩ ?_
        refine a_iconst (v := 1) X dX0_fewestTags_20 (by decide) ?_
        refine a_icmp_ne (tgt := 34) X dX0_fewestTags_21 (by decide) (fun h_21 => ?_) (fun h_21 => ?_)
        · replace h := (if_neg h_21).symm.trans h
          exact Zw.to2 (J_34 _ _ h) rfl rfl rfl
        · replace h := (if_pos h_21).symm.trans h
          refine a_iload_n X dX0_fewestTags_24 rfl ?_
          refine a_aload_n X dX0_fewestTags_25 rfl ?_
          refine a_iload_n X dX0_fewestTags_26 rfl ?_
          obtain ⟨e_27, f_27, h⟩ := zBx h
          refine a_callSv X dX0_fewestTags_27 miX0_tagsOf lm0_95 (t_X0_tagsOf (by assumption) f_27) rfl rfl (Nat.le_of_ble_eq_true rfl) ⟨by decide, by decide, by decide, by decide⟩ ?_
          refine a_mmin X lm0_99 zmath2 zmath0 zmathc2 ⟨by decide, Nat.le_of_ble_eq_true rfl, by decide, by decide⟩ dX0_fewestTags_30 ?_
          refine a_istore_n X dX0_fewestTags_33 (by decide) ?_
          exact Zw.to2 (J_34 _ _ h) rfl rfl rfl
  have H_5 : ∀ (x2_5 : Int32) (x3_5 : Int32), D_X0_fewestTags_5 Q A M zFu x2_5 x3_5 = some r → Zw p l e { frames := 2, cells := 0, slots := 0, locals := 80 * (2) } s m args below meth c G b 4 (MQ below (zQ G b FQ) args s 0 0 (fun q : Nat => b ≤ q)) 0 0 5 [some (.ref (Q)), some (.ref (A)), some (.int x2_5), some (.int x3_5)] [] (L, M, N) := L_5 zFu
  unfold D_X0_fewestTags at h
  refine a_bipush (v := 10) X dX0_fewestTags_0 (by decide) ?_
  refine a_istore_n X dX0_fewestTags_2 (by decide) ?_
  refine a_iconst (v := 0) X dX0_fewestTags_3 (by decide) ?_
  refine a_istore_n X dX0_fewestTags_4 (by decide) ?_
  exact Zw.to2 (H_5 _ _ h) rfl rfl rfl
noncomputable def D_X0_mostTags_33 (Q : Nat) (A : Nat) (M : zMt) (k4 : Int32 → Int32 → Option (Int32)) (x2_33 : Int32) (x3_33 : Int32) : Option (Int32) :=
  k4 x2_33 (x3_33 + 1)
noncomputable def D_X0_mostTags_4 (Q : Nat) (A : Nat) (M : zMt) : Nat → Int32 → Int32 → Option (Int32)
  | 0, _, _ => none
  | n + 1, x2_4, x3_4 =>
    if (128 : Int32) ≤ x3_4 then
      some (x2_4)
    else
      if (zrd 0 (M (Q + 2)) 128 x3_4) = (1 : Int32) then
        zB (D_X0_tagsOf A M x3_4) fun e_26 =>
        D_X0_mostTags_33 Q A M (D_X0_mostTags_4 Q A M n) (if x2_4 < e_26 then e_26 else x2_4) x3_4
      else
        D_X0_mostTags_33 Q A M (D_X0_mostTags_4 Q A M n) x2_4 x3_4
noncomputable def D_X0_mostTags (Q : Nat) (A : Nat) (M : zMt)  : Option (Int32) :=
  D_X0_mostTags_4 Q A M zFu (0 : Int32) (0 : Int32)
set_option maxRecDepth 100000 in
set_option maxHeartbeats 4000000 in
theorem t_X0_mostTags {l : Launch} {G : zG} {b : Nat} {L : List zC} {M : zMt} {N : zNt} {Q : Nat} {A : Nat} (hQ : LX0 L Q) (hA : LX2 L A)  {r : Int32} (h : D_X0_mostTags Q A M = some r) : zM l G b yX0_mostTags cX0_mostTags 4 (some .int) 2 0 0 [.ref Q, .ref A] (L, M, N) (fun r2 z => r2 = some (.int r) ∧ z = (L, M, N)) := by
  refine zM.of miX0_mostTags (Nat.le_of_ble_eq_true rfl) ?_
  intro p e s m args below meth c X hr hname
  generalize hF : ((fun r2 z => r2 = some (.int r) ∧ z = (L, M, N)) : Option Value → zS → Prop) = FQ
  change Zw p l e { frames := 2, cells := 0, slots := 0, locals := 80 * (2) } s m args below meth c G b 4 (MQ below (zQ G b FQ) args s 0 0 (fun q : Nat => b ≤ q)) 0 0 0 [some (.ref Q), some (.ref A), none, none] [] (L, M, N)
  obtain ⟨q_lt, q_o, q_sets, q_seen, q_atUnit, q_early, q_result⟩ := id hQ
  obtain ⟨q_result_lt, q_result_o, q_result_line, q_result_unitOf, q_result_roundOf, q_result_leftTags, q_result_leftGuests, q_result_leftPreferred, q_result_ranked⟩ := id q_result
  obtain ⟨a_lt, a_o, a_quota, a_preferred, a_forGuests, a_applicantOf, a_size, a_guestCount, a_score, a_tickets, a_bits, a_party, a_wishCount, a_wishes⟩ := id hA
  have L_4 : ∀ u : Nat, ∀ (x2_4 : Int32) (x3_4 : Int32), D_X0_mostTags_4 Q A M u x2_4 x3_4 = some r → Zw p l e { frames := 2, cells := 0, slots := 0, locals := 80 * (2) } s m args below meth c G b 4 (MQ below (zQ G b FQ) args s 0 0 (fun q : Nat => b ≤ q)) 0 0 4 [some (.ref (Q)), some (.ref (A)), some (.int x2_4), some (.int x3_4)] [] (L, M, N) := by
    intro u
    induction u with
    | zero => intro x2_4 x3_4 h; cases (show none = some r from h)
    | succ u_4 ih_4 =>
      have J_33 : ∀ (x2_33 : Int32) (x3_33 : Int32), D_X0_mostTags_33 Q A M (D_X0_mostTags_4 Q A M u_4) x2_33 x3_33 = some r → Zw p l e { frames := 2, cells := 0, slots := 0, locals := 80 * (2) } s m args below meth c G b 4 (MQ below (zQ G b FQ) args s 0 0 (fun q : Nat => b ≤ q)) 0 0 33 [some (.ref (Q)), some (.ref (A)), some (.int x2_33), some (.int x3_33)] [] (L, M, N) := by
        intro x2_33 x3_33 h
        unfold D_X0_mostTags_33 at h
        refine a_iinc (v := x3_33 + 1) X dX0_mostTags_33 (by decide) rfl zi_1 ?_
        refine a_goto (tgt := 4) X dX0_mostTags_36 (by decide) ?_
        exact Zw.to2 (ih_4 _ _ h) rfl rfl rfl
      intro x2_4 x3_4 h
      rw [D_X0_mostTags_4] at h
      refine a_iload_n X dX0_mostTags_4 rfl ?_
      refine a_sipush (v := 128) X dX0_mostTags_5 (by decide) ?_
      refine a_icmp_ge (tgt := 39) X dX0_mostTags_8 (by decide) (fun h_8 => ?_) (fun h_8 => ?_)
      · replace h := (if_pos h_8).symm.trans h
        refine a_iload_n X dX0_mostTags_39 rfl ?_
        refine a_iret X hr dX0_mostTags_40 ⟨by decide, by decide⟩ ?_
        subst hF
        rw [← Option.some.inj h]
        exact ⟨rfl, rfl⟩
      · replace h := (if_neg h_8).symm.trans h
        refine a_aload_n X dX0_mostTags_11 rfl ?_
        refine a_getr X lf0_15 (by assumption) rfl (by omega) dX0_mostTags_12 ?_
        refine a_iload_n X dX0_mostTags_15 rfl ?_
        refine a_callSNv X dX0_mostTags_16 miX7_cell lm0_66 (c_cell (by assumption) (by first | decide | assumption)) rfl rfl (Nat.le_of_ble_eq_true rfl) ⟨by decide, by decide, by decide, by decide⟩ ?_
        refine a_iconst (v := 1) X dX0_mostTags_19 (by decide) ?_
        refine a_icmp_ne (tgt := 33) X dX0_mostTags_20 (by decide) (fun h_20 => ?_) (fun h_20 => ?_)
        · replace h := (if_neg h_20).symm.trans h
          exact Zw.to2 (J_33 _ _ h) rfl rfl rfl
        · replace h := (if_pos h_20).symm.trans h
          refine a_iload_n X dX0_mostTags_23 rfl ?_
          refine a_aload_n X dX0_mostTags_24 rfl ?_
          refine a_iload_n X dX0_mostTags_25 rfl ?_
          obtain ⟨e_26, f_26, h⟩ := zBx h
          refine a_callSv X dX0_mostTags_26 miX0_tagsOf lm0_95 (t_X0_tagsOf (by assumption) f_26) rfl rfl (Nat.le_of_ble_eq_true rfl) ⟨by decide, by decide, by decide, by decide⟩ ?_
          refine a_mmax X lm0_105 zmath1 zmath0 zmathc1 ⟨by decide, Nat.le_of_ble_eq_true rfl, by decide, by decide⟩ dX0_mostTags_29 ?_
          refine a_istore_n X dX0_mostTags_32 (by decide) ?_
          exact Zw.to2 (J_33 _ _ h) rfl rfl rfl
  have H_4 : ∀ (x2_4 : Int32) (x3_4 : Int32), D_X0_mostTags_4 Q A M zFu x2_4 x3_4 = some r → Zw p l e { frames := 2, cells := 0, slots := 0, locals := 80 * (2) } s m args below meth c G b 4 (MQ below (zQ G b FQ) args s 0 0 (fun q : Nat => b ≤ q)) 0 0 4 [some (.ref (Q)), some (.ref (A)), some (.int x2_4), some (.int x3_4)] [] (L, M, N) := L_4 zFu
  unfold D_X0_mostTags at h
  refine a_iconst (v := 0) X dX0_mostTags_0 (by decide) ?_
  refine a_istore_n X dX0_mostTags_1 (by decide) ?_
  refine a_iconst (v := 0) X dX0_mostTags_2 (by decide) ?_
  refine a_istore_n X dX0_mostTags_3 (by decide) ?_
  exact Zw.to2 (H_4 _ _ h) rfl rfl rfl
noncomputable def D_X1_forget (Q : Nat) (M : zMt) : Option (zMt) :=
  zLt (zu M Q 0 (0 : Int32)) fun M_2 =>
  some (M_2)
set_option maxRecDepth 100000 in
set_option maxHeartbeats 4000000 in
theorem t_X1_forget {l : Launch} {G : zG} {b : Nat} {L : List zC} {M : zMt} {N : zNt} {Q : Nat} (hQ : LX1 L Q)  {r : zMt} (h : D_X1_forget Q M = some r) : zM l G b yX1_forget cX1_forget 1 none 0 0 0 [.ref Q] (L, M, N) (fun r2 z => r2 = none ∧ z = (L, r, N)) := by
  refine zM.of miX1_forget (Nat.le_of_ble_eq_true rfl) ?_
  intro p e s m args below meth c X hr hname
  generalize hF : ((fun r2 z => r2 = none ∧ z = (L, r, N)) : Option Value → zS → Prop) = FQ
  change Zw p l e { frames := 0, cells := 0, slots := 0, locals := 80 * (0) } s m args below meth c G b 1 (MQ below (zQ G b FQ) args s 0 0 (fun q : Nat => b ≤ q)) 0 0 0 [some (.ref Q)] [] (L, M, N)
  obtain ⟨q_lt, q_o, q_stood, q_stood0, q_stood1, q_stood2, q_stood3, q_stood4, q_stood5, q_stood6, q_stood7⟩ := id hQ
  unfold D_X1_forget at h
  refine a_aload_n X dX1_forget_0 rfl ?_
  refine a_iconst (v := 0) X dX1_forget_1 (by decide) ?_
  obtain ⟨M_2, f_2, h⟩ := zLtx h
  refine d_puti X lf1_18 (by assumption) rfl dX1_forget_2 f_2 ?_
  refine a_vret X hr dX1_forget_5 ⟨by decide, by decide⟩ ?_
  subst hF
  rw [← Option.some.inj h]
  exact ⟨rfl, rfl⟩
noncomputable def D_X2_gatherUnits_96 (Q : Nat) (A : Nat) (k15 : Int32 → zMt → Option (zMt)) (x2_96 : Int32) (y1_96 : Int32) (y2_96 : Int32) (M_96 : zMt) : Option (zMt) :=
  zO (y1_96 ||| y2_96) <|
  zLt (zu M_96 Q 3 (y1_96 ||| y2_96)) fun M_97 =>
  k15 (x2_96 + 1) M_97
noncomputable def D_X2_gatherUnits_15 (Q : Nat) (A : Nat) : Nat → Int32 → zMt → Option (zMt)
  | 0, _, _ => none
  | n + 1, x2_15, M_15 =>
    if (M_15 Q 0) ≤ x2_15 then
      some (M_15)
    else
      zLt (zwr M_15 (Q + 1) 5 x2_15 (zrd 0 (M_15 (A + 1)) 5 x2_15)) fun M_38 =>
      zLt (zwr M_38 (Q + 2) 5 x2_15 (((zrd 0 (M_15 (A + 1)) 5 x2_15) * (M_38 A 4)) / (100 : Int32))) fun M_55 =>
      zLt (zwr M_55 (Q + 3) 5 x2_15 (((zrd 0 (M_15 (A + 1)) 5 x2_15) * (M_55 A 5)) / (100 : Int32))) fun M_72 =>
      if (zrd 0 (M_72 (Q + 2)) 5 x2_15) ≤ 0 then
        D_X2_gatherUnits_96 Q A (D_X2_gatherUnits_15 Q A n) x2_15 (M_72 Q 3) (0 : Int32) M_72
      else
        D_X2_gatherUnits_96 Q A (D_X2_gatherUnits_15 Q A n) x2_15 (M_72 Q 3) (1 : Int32) M_72
noncomputable def D_X2_gatherUnits (Q : Nat) (A : Nat) (M : zMt) : Option (zMt) :=
  zLt (zu M Q 0 (M A 0)) fun M_5 =>
  zLt (zu M_5 Q 3 (0 : Int32)) fun M_10 =>
  D_X2_gatherUnits_15 Q A zFu (0 : Int32) M_10
set_option maxRecDepth 100000 in
set_option maxHeartbeats 4000000 in
theorem t_X2_gatherUnits {l : Launch} {G : zG} {b : Nat} {L : List zC} {M : zMt} {N : zNt} {Q : Nat} {A : Nat} (hQ : LX2 L Q) (hA : LX4 L A)  {r : zMt} (h : D_X2_gatherUnits Q A M = some r) : zM l G b yX2_gatherUnits cX2_gatherUnits 4 none 1 0 0 [.ref Q, .ref A] (L, M, N) (fun r2 z => r2 = none ∧ z = (L, r, N)) := by
  refine zM.of miX2_gatherUnits (Nat.le_of_ble_eq_true rfl) ?_
  intro p e s m args below meth c X hr hname
  generalize hF : ((fun r2 z => r2 = none ∧ z = (L, r, N)) : Option Value → zS → Prop) = FQ
  change Zw p l e { frames := 1, cells := 0, slots := 0, locals := 80 * (1) } s m args below meth c G b 4 (MQ below (zQ G b FQ) args s 0 0 (fun q : Nat => b ≤ q)) 0 0 0 [some (.ref Q), some (.ref A), none, none] [] (L, M, N)
  obtain ⟨q_lt, q_o, q_quota, q_preferred, q_forGuests, q_applicantOf, q_size, q_guestCount, q_score, q_tickets, q_bits, q_party, q_wishCount, q_wishes⟩ := id hQ
  obtain ⟨a_lt, a_o, a_quota, a_score, a_guest, a_party, a_wishCount, a_wishes, a_has⟩ := id hA
  have L_15 : ∀ u : Nat, ∀ (x2_15 : Int32) (x3_15 : Option Value) (M_15 : zMt), D_X2_gatherUnits_15 Q A u x2_15 M_15 = some r → Zw p l e { frames := 1, cells := 0, slots := 0, locals := 80 * (1) } s m args below meth c G b 4 (MQ below (zQ G b FQ) args s 0 0 (fun q : Nat => b ≤ q)) 0 0 15 [some (.ref (Q)), some (.ref (A)), some (.int x2_15), x3_15] [] (L, M_15, N) := by
    intro u
    induction u with
    | zero => intro x2_15 x3_15 M_15 h; cases (show none = some r from h)
    | succ u_15 ih_15 =>
      have J_96 : ∀ (x2_96 : Int32) (x3_96 : Int32) (y1_96 : Int32) (y2_96 : Int32) (M_96 : zMt), (y2_96 = 0 ∨ y2_96 = 1) → D_X2_gatherUnits_96 Q A (D_X2_gatherUnits_15 Q A u_15) x2_96 y1_96 y2_96 M_96 = some r → Zw p l e { frames := 1, cells := 0, slots := 0, locals := 80 * (1) } s m args below meth c G b 4 (MQ below (zQ G b FQ) args s 0 0 (fun q : Nat => b ≤ q)) 0 0 96 [some (.ref (Q)), some (.ref (A)), some (.int x2_96), some (.int x3_96)] [.int y2_96, .int y1_96, .ref (Q)] (L, M_96, N) := by
        intro x2_96 x3_96 y1_96 y2_96 M_96 fb_y2_96 h
        unfold D_X2_gatherUnits_96 at h
        refine a_ior X dX2_gatherUnits_96 ?_
        obtain ⟨o_97, h⟩ := zOx h
        obtain ⟨M_97, f_97, h⟩ := zLtx h
        refine d_putz X (by first | exact Or.inl rfl | exact Or.inr rfl | assumption) lf2_91 (by assumption) rfl dX2_gatherUnits_97 f_97 ?_
        refine a_iinc (v := x2_96 + 1) X dX2_gatherUnits_100 (by decide) rfl zi_1 ?_
        refine a_goto (tgt := 15) X dX2_gatherUnits_103 (by decide) ?_
        exact Zw.to2 (ih_15 _ _ _ h) rfl rfl rfl
      intro x2_15 x3_15 M_15 h
      rw [D_X2_gatherUnits_15] at h
      refine a_iload_n X dX2_gatherUnits_15 rfl ?_
      refine a_aload_n X dX2_gatherUnits_16 rfl ?_
      refine a_geti X lf2_90 (by assumption) rfl dX2_gatherUnits_17 ?_
      refine a_icmp_ge (tgt := 106) X dX2_gatherUnits_20 (by decide) (fun h_20 => ?_) (fun h_20 => ?_)
      · replace h := (if_pos h_20).symm.trans h
        refine a_vret X hr dX2_gatherUnits_106 ⟨by decide, by decide⟩ ?_
        subst hF
        rw [← Option.some.inj h]
        exact ⟨rfl, rfl⟩
      · replace h := (if_neg h_20).symm.trans h
        refine a_aload_n X dX2_gatherUnits_23 rfl ?_
        refine a_getr X lf2_95 (by assumption) rfl (by omega) dX2_gatherUnits_24 ?_
        refine a_iload_n X dX2_gatherUnits_27 rfl ?_
        refine a_callSNv X dX2_gatherUnits_28 miX7_cell lm2_62 (c_cell (by assumption) (by first | decide | assumption)) rfl rfl (Nat.le_of_ble_eq_true rfl) ⟨by decide, by decide, by decide, by decide⟩ ?_
        refine a_istore_n X dX2_gatherUnits_31 (by decide) ?_
        refine a_aload_n X dX2_gatherUnits_32 rfl ?_
        refine a_getr X lf2_9 (by assumption) rfl (by omega) dX2_gatherUnits_33 ?_
        refine a_iload_n X dX2_gatherUnits_36 rfl ?_
        refine a_iload_n X dX2_gatherUnits_37 rfl ?_
        obtain ⟨M_38, f_38, h⟩ := zLtx h
        refine a_callSNu X dX2_gatherUnits_38 miX7_put lm2_96 (zMu (c_put (by assumption) (by first | decide | assumption)) f_38) rfl rfl (Nat.le_of_ble_eq_true rfl) ⟨by decide, by decide, by decide, by decide⟩ ?_
        refine a_aload_n X dX2_gatherUnits_41 rfl ?_
        refine a_getr X lf2_15 (by assumption) rfl (by omega) dX2_gatherUnits_42 ?_
        refine a_iload_n X dX2_gatherUnits_45 rfl ?_
        refine a_iload_n X dX2_gatherUnits_46 rfl ?_
        refine a_aload_n X dX2_gatherUnits_47 rfl ?_
        refine a_geti X lf2_100 (by assumption) rfl dX2_gatherUnits_48 ?_
        refine a_imul X dX2_gatherUnits_51 ?_
        refine a_bipush (v := 100) X dX2_gatherUnits_52 (by decide) ?_
        refine a_idiv X dX2_gatherUnits_54 (by decide) ?_
        obtain ⟨M_55, f_55, h⟩ := zLtx h
        refine a_callSNu X dX2_gatherUnits_55 miX7_put lm2_96 (zMu (c_put (by assumption) (by first | decide | assumption)) f_55) rfl rfl (Nat.le_of_ble_eq_true rfl) ⟨by decide, by decide, by decide, by decide⟩ ?_
        refine a_aload_n X dX2_gatherUnits_58 rfl ?_
        refine a_getr X lf2_18 (by assumption) rfl (by omega) dX2_gatherUnits_59 ?_
        refine a_iload_n X dX2_gatherUnits_62 rfl ?_
        refine a_iload_n X dX2_gatherUnits_63 rfl ?_
        refine a_aload_n X dX2_gatherUnits_64 rfl ?_
        refine a_geti X lf2_103 (by assumption) rfl dX2_gatherUnits_65 ?_
        refine a_imul X dX2_gatherUnits_68 ?_
        refine a_bipush (v := 100) X dX2_gatherUnits_69 (by decide) ?_
        refine a_idiv X dX2_gatherUnits_71 (by decide) ?_
        obtain ⟨M_72, f_72, h⟩ := zLtx h
        refine a_callSNu X dX2_gatherUnits_72 miX7_put lm2_96 (zMu (c_put (by assumption) (by first | decide | assumption)) f_72) rfl rfl (Nat.le_of_ble_eq_true rfl) ⟨by decide, by decide, by decide, by decide⟩ ?_
        refine a_aload_n X dX2_gatherUnits_75 rfl ?_
        refine a_dup X dX2_gatherUnits_76 rfl ?_
        refine a_geti X lf2_91 (by assumption) rfl dX2_gatherUnits_77 ?_
        refine a_aload_n X dX2_gatherUnits_80 rfl ?_
        refine a_getr X lf2_15 (by assumption) rfl (by omega) dX2_gatherUnits_81 ?_
        refine a_iload_n X dX2_gatherUnits_84 rfl ?_
        refine a_callSNv X dX2_gatherUnits_85 miX7_cell lm2_62 (c_cell (by assumption) (by first | decide | assumption)) rfl rfl (Nat.le_of_ble_eq_true rfl) ⟨by decide, by decide, by decide, by decide⟩ ?_
        refine a_if_le (tgt := 95) X dX2_gatherUnits_88 (by decide) (fun h_88 => ?_) (fun h_88 => ?_)
        · replace h := (if_pos h_88).symm.trans h
          refine a_iconst (v := 0) X dX2_gatherUnits_95 (by decide) ?_
          exact Zw.to2 (J_96 _ _ _ _ _ (by first | exact Or.inl rfl | exact Or.inr rfl | assumption) h) rfl rfl rfl
        · replace h := (if_neg h_88).symm.trans h
          refine a_iconst (v := 1) X dX2_gatherUnits_91 (by decide) ?_
          refine a_goto (tgt := 96) X dX2_gatherUnits_92 (by decide) ?_
          exact Zw.to2 (J_96 _ _ _ _ _ (by first | exact Or.inl rfl | exact Or.inr rfl | assumption) h) rfl rfl rfl
  have H_15 : ∀ (x2_15 : Int32) (x3_15 : Option Value) (M_15 : zMt), D_X2_gatherUnits_15 Q A zFu x2_15 M_15 = some r → Zw p l e { frames := 1, cells := 0, slots := 0, locals := 80 * (1) } s m args below meth c G b 4 (MQ below (zQ G b FQ) args s 0 0 (fun q : Nat => b ≤ q)) 0 0 15 [some (.ref (Q)), some (.ref (A)), some (.int x2_15), x3_15] [] (L, M_15, N) := L_15 zFu
  unfold D_X2_gatherUnits at h
  refine a_aload_n X dX2_gatherUnits_0 rfl ?_
  refine a_aload_n X dX2_gatherUnits_1 rfl ?_
  refine a_geti X lf2_87 (by assumption) rfl dX2_gatherUnits_2 ?_
  obtain ⟨M_5, f_5, h⟩ := zLtx h
  refine d_puti X lf2_90 (by assumption) rfl dX2_gatherUnits_5 f_5 ?_
  refine a_aload_n X dX2_gatherUnits_8 rfl ?_
  refine a_iconst (v := 0) X dX2_gatherUnits_9 (by decide) ?_
  obtain ⟨M_10, f_10, h⟩ := zLtx h
  refine d_putz X (by first | exact Or.inl rfl | exact Or.inr rfl | assumption) lf2_91 (by assumption) rfl dX2_gatherUnits_10 f_10 ?_
  refine a_iconst (v := 0) X dX2_gatherUnits_13 (by decide) ?_
  refine a_istore_n X dX2_gatherUnits_14 (by decide) ?_
  exact Zw.to2 (H_15 _ _ _ h) rfl rfl rfl
