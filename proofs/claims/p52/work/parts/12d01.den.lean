noncomputable def D_X5_secondRound_108 (Q : Nat) (A : Nat) (k2 : Int32 → zMt → Option (zMt)) (x2_108 : Int32) (M_108 : zMt) : Option (zMt) :=
  k2 (x2_108 + 1) M_108
noncomputable def D_X5_secondRound_48 (Q : Nat) (A : Nat) (k2 : Int32 → zMt → Option (zMt)) : Nat → Int32 → Int32 → Int32 → Int32 → zMt → Option (zMt)
  | 0, _, _, _, _, _ => none
  | n + 1, x2_48, x3_48, x4_48, x5_48, M_48 =>
    if x4_48 ≤ x5_48 then
      D_X5_secondRound_108 Q A k2 x2_48 M_48
    else
      zB (D_X2_wish A M_48 x3_48 x5_48) fun e_59 =>
      zB (D_X2_fits A M_48 x3_48 (zrd 0 (M_48 (Q + 4)) 5 e_59) (zrd 0 (M_48 (Q + 5)) 5 e_59)) fun e_84 =>
      if e_84 = 0 then
        (D_X5_secondRound_48 Q A k2 n) x2_48 x3_48 x4_48 (x5_48 + 1) M_48
      else
        zB (D_X5_hold Q A x3_48 e_59 (2 : Int32) M_48) fun e_96 =>
        D_X5_secondRound_108 Q A k2 x2_48 e_96
noncomputable def D_X5_secondRound_43 (Q : Nat) (A : Nat) (k2 : Int32 → zMt → Option (zMt)) (x2_43 : Int32) (x3_43 : Int32) (y0_43 : Int32) (M_43 : zMt) : Option (zMt) :=
  D_X5_secondRound_48 Q A k2 zFu x2_43 x3_43 y0_43 (0 : Int32) M_43
noncomputable def D_X5_secondRound_2 (Q : Nat) (A : Nat) : Nat → Int32 → zMt → Option (zMt)
  | 0, _, _ => none
  | n + 1, x2_2, M_2 =>
    if (M_2 A 1) ≤ x2_2 then
      some (M_2)
    else
      if (zrd 0 (M_2 (Q + 2)) 10 (zrd 0 (M_2 (Q + 1)) 10 x2_2)) = (-1 : Int32) then
        D_X5_secondRound_43 Q A (D_X5_secondRound_2 Q A n) x2_2 (zrd 0 (M_2 (Q + 1)) 10 x2_2) (zrd 0 (M_2 (A + 11)) 10 (zrd 0 (M_2 (Q + 1)) 10 x2_2)) M_2
      else
        D_X5_secondRound_43 Q A (D_X5_secondRound_2 Q A n) x2_2 (zrd 0 (M_2 (Q + 1)) 10 x2_2) (0 : Int32) M_2
noncomputable def D_X5_secondRound (Q : Nat) (A : Nat) (M : zMt) : Option (zMt) :=
  D_X5_secondRound_2 Q A zFu (0 : Int32) M
set_option maxRecDepth 100000 in
set_option maxHeartbeats 4000000 in
theorem t_X5_secondRound {l : Launch} {G : zG} {b : Nat} {L : List zC} {M : zMt} {N : zNt} {Q : Nat} {A : Nat}  (hQ : LX5 L Q) (hA : LX2 L A) {r : zMt} (h : D_X5_secondRound Q A M = some r) : zM l G b yX5_secondRound cX5_secondRound 7 none 2 0 0 [.ref Q, .ref A] (L, M, N) (fun r2 z => r2 = none ∧ z = (L, r, N)) := by
  refine zM.of miX5_secondRound (Nat.le_of_ble_eq_true rfl) ?_
  intro p e s m args below meth c X hr hname
  generalize hF : ((fun r2 z => r2 = none ∧ z = (L, r, N)) : Option Value → zS → Prop) = FQ
  change Zw p l e { frames := 2, cells := 0, slots := 0, locals := 36 * (2) } s m args below meth c G b 7 (MQ below (zQ G b FQ) args s 0 0 (fun q : Nat => b ≤ q)) 0 0 0 [some (.ref Q), some (.ref A), none, none, none, none, none] [] (L, M, N)
  have q_lt := hQ.1
  have q_o := hQ.2.1
  have q_line := hQ.2.2.1
  have q_unitOf := hQ.2.2.2.1
  have q_leftTags := hQ.2.2.2.2.2.1
  have q_leftGuests := hQ.2.2.2.2.2.2.1
  have a_lt := hA.1
  have a_o := hA.2.1
  have a_wishCount := hA.2.2.2.2.2.2.2.2.2.2.2.2.1
  have L_2 : ∀ u : Nat, ∀ (x2_2 : Int32) (x3_2 : Option Value) (x4_2 : Option Value) (x5_2 : Option Value) (x6_2 : Option Value) (M_2 : zMt), D_X5_secondRound_2 Q A u x2_2 M_2 = some r → Zw p l e { frames := 2, cells := 0, slots := 0, locals := 36 * (2) } s m args below meth c G b 7 (MQ below (zQ G b FQ) args s 0 0 (fun q : Nat => b ≤ q)) 0 0 2 [some (.ref (Q)), some (.ref (A)), some (.int x2_2), x3_2, x4_2, x5_2, x6_2] [] (L, M_2, N) := by
    intro u
    induction u with
    | zero => intro x2_2 x3_2 x4_2 x5_2 x6_2 M_2 h; cases (show none = some r from h)
    | succ u_2 ih_2 =>
      have J_108 : ∀ (x2_108 : Int32) (x3_108 : Int32) (x4_108 : Int32) (x5_108 : Int32) (x6_108 : Option Value) (M_108 : zMt), D_X5_secondRound_108 Q A (D_X5_secondRound_2 Q A u_2) x2_108 M_108 = some r → Zw p l e { frames := 2, cells := 0, slots := 0, locals := 36 * (2) } s m args below meth c G b 7 (MQ below (zQ G b FQ) args s 0 0 (fun q : Nat => b ≤ q)) 0 0 108 [some (.ref (Q)), some (.ref (A)), some (.int x2_108), some (.int x3_108), some (.int x4_108), some (.int x5_108), x6_108] [] (L, M_108, N) := by
        intro x2_108 x3_108 x4_108 x5_108 x6_108 M_108 h
        unfold D_X5_secondRound_108 at h
        refine a_iinc (v := x2_108 + 1) X dX5_secondRound_108 (by decide) rfl zi_1 ?_
        refine a_goto (tgt := 2) X dX5_secondRound_111 (by decide) ?_
        exact Zw.to2 (ih_2 _ _ _ _ _ _ h) rfl rfl rfl
      have L_48 : ∀ u : Nat, ∀ (x2_48 : Int32) (x3_48 : Int32) (x4_48 : Int32) (x5_48 : Int32) (x6_48 : Option Value) (M_48 : zMt), D_X5_secondRound_48 Q A (D_X5_secondRound_2 Q A u_2) u x2_48 x3_48 x4_48 x5_48 M_48 = some r → Zw p l e { frames := 2, cells := 0, slots := 0, locals := 36 * (2) } s m args below meth c G b 7 (MQ below (zQ G b FQ) args s 0 0 (fun q : Nat => b ≤ q)) 0 0 48 [some (.ref (Q)), some (.ref (A)), some (.int x2_48), some (.int x3_48), some (.int x4_48), some (.int x5_48), x6_48] [] (L, M_48, N) := by
        intro u
        induction u with
        | zero => intro x2_48 x3_48 x4_48 x5_48 x6_48 M_48 h; cases (show none = some r from h)
        | succ u_48 ih_48 =>
          intro x2_48 x3_48 x4_48 x5_48 x6_48 M_48 h
          rw [D_X5_secondRound_48] at h
          refine a_iload X dX5_secondRound_48 rfl ?_
          refine a_iload X dX5_secondRound_50 rfl ?_
          refine a_icmp_ge (tgt := 108) X dX5_secondRound_52 (by decide) (fun h_52 => ?_) (fun h_52 => ?_)
          · replace h := (if_pos h_52).symm.trans h
            exact Zw.to2 (J_108 _ _ _ _ _ _ h) rfl rfl rfl
          · replace h := (if_neg h_52).symm.trans h
            refine a_aload_n X dX5_secondRound_55 rfl ?_
            refine a_iload_n X dX5_secondRound_56 rfl ?_
            refine a_iload X dX5_secondRound_57 rfl ?_
            obtain ⟨e_59, f_59, h⟩ := zBx h
            refine a_callVv X dX5_secondRound_59 miX2_wish lm5_98 (t_X2_wish (by first | exact hA | assumption) f_59) (by first | exact a_o | assumption) rfl rfl rfl (Nat.le_of_ble_eq_true rfl) ⟨by decide, by decide, by decide, by decide⟩ ?_
            refine a_istore X dX5_secondRound_62 (by decide) ?_
            refine a_aload_n X dX5_secondRound_64 rfl ?_
            refine a_iload_n X dX5_secondRound_65 rfl ?_
            refine a_aload_n X dX5_secondRound_66 rfl ?_
            refine a_getr X lf5_21 (by first | exact q_o | assumption) rfl (by omega) dX5_secondRound_67 ?_
            refine a_iload X dX5_secondRound_70 rfl ?_
            refine a_callSNv X dX5_secondRound_72 miX7_cell lm5_69 (c_cell (by first | exact q_leftTags | assumption) (by decide)) rfl rfl (Nat.le_of_ble_eq_true rfl) ⟨by decide, by decide, by decide, by decide⟩ ?_
            refine a_aload_n X dX5_secondRound_75 rfl ?_
            refine a_getr X lf5_24 (by first | exact q_o | assumption) rfl (by omega) dX5_secondRound_76 ?_
            refine a_iload X dX5_secondRound_79 rfl ?_
            refine a_callSNv X dX5_secondRound_81 miX7_cell lm5_69 (c_cell (by first | exact q_leftGuests | assumption) (by decide)) rfl rfl (Nat.le_of_ble_eq_true rfl) ⟨by decide, by decide, by decide, by decide⟩ ?_
            obtain ⟨e_84, f_84, h⟩ := zBx h
            refine a_callVx X dX5_secondRound_84 miX2_fits lm5_102 (t_X2_fits (by first | exact hA | assumption) f_84) (by first | exact a_o | assumption) rfl rfl rfl (Nat.le_of_ble_eq_true rfl) ⟨by decide, by decide, by decide, by decide⟩ (fun r_84 S_84 q_84 => ?_)
            obtain ⟨rfl, rfl, b_84⟩ := q_84
            refine a_if_eq (tgt := 102) X dX5_secondRound_87 (by decide) (fun h_87 => ?_) (fun h_87 => ?_)
            · replace h := (if_pos h_87).symm.trans h
              refine a_iinc (v := x5_48 + 1) X dX5_secondRound_102 (by decide) rfl zi_1 ?_
              refine a_goto (tgt := 48) X dX5_secondRound_105 (by decide) ?_
              exact Zw.to2 (ih_48 _ _ _ _ _ _ h) rfl rfl rfl
            · replace h := (if_neg h_87).symm.trans h
              refine a_aload_n X dX5_secondRound_90 rfl ?_
              refine a_aload_n X dX5_secondRound_91 rfl ?_
              refine a_iload_n X dX5_secondRound_92 rfl ?_
              refine a_iload X dX5_secondRound_93 rfl ?_
              refine a_iconst (v := 2) X dX5_secondRound_95 (by decide) ?_
              obtain ⟨e_96, f_96, h⟩ := zBx h
              refine a_callVu X dX5_secondRound_96 miX5_hold lm5_112 (t_X5_hold (by first | exact hQ | assumption) (by first | exact hA | assumption) f_96) (by first | exact q_o | assumption) rfl rfl rfl (Nat.le_of_ble_eq_true rfl) ⟨by decide, by decide, by decide, by decide⟩ ?_
              refine a_goto (tgt := 108) X dX5_secondRound_99 (by decide) ?_
              exact Zw.to2 (J_108 _ _ _ _ _ _ h) rfl rfl rfl
      have H_48 : ∀ (x2_48 : Int32) (x3_48 : Int32) (x4_48 : Int32) (x5_48 : Int32) (x6_48 : Option Value) (M_48 : zMt), D_X5_secondRound_48 Q A (D_X5_secondRound_2 Q A u_2) zFu x2_48 x3_48 x4_48 x5_48 M_48 = some r → Zw p l e { frames := 2, cells := 0, slots := 0, locals := 36 * (2) } s m args below meth c G b 7 (MQ below (zQ G b FQ) args s 0 0 (fun q : Nat => b ≤ q)) 0 0 48 [some (.ref (Q)), some (.ref (A)), some (.int x2_48), some (.int x3_48), some (.int x4_48), some (.int x5_48), x6_48] [] (L, M_48, N) := L_48 zFu
      have J_43 : ∀ (x2_43 : Int32) (x3_43 : Int32) (x4_43 : Option Value) (x5_43 : Option Value) (x6_43 : Option Value) (y0_43 : Int32) (M_43 : zMt), D_X5_secondRound_43 Q A (D_X5_secondRound_2 Q A u_2) x2_43 x3_43 y0_43 M_43 = some r → Zw p l e { frames := 2, cells := 0, slots := 0, locals := 36 * (2) } s m args below meth c G b 7 (MQ below (zQ G b FQ) args s 0 0 (fun q : Nat => b ≤ q)) 0 0 43 [some (.ref (Q)), some (.ref (A)), some (.int x2_43), some (.int x3_43), x4_43, x5_43, x6_43] [.int y0_43] (L, M_43, N) := by
        intro x2_43 x3_43 x4_43 x5_43 x6_43 y0_43 M_43 h
        unfold D_X5_secondRound_43 at h
        refine a_istore X dX5_secondRound_43 (by decide) ?_
        refine a_iconst (v := 0) X dX5_secondRound_45 (by decide) ?_
        refine a_istore X dX5_secondRound_46 (by decide) ?_
        exact Zw.to2 (H_48 _ _ _ _ _ _ h) rfl rfl rfl
      intro x2_2 x3_2 x4_2 x5_2 x6_2 M_2 h
      rw [D_X5_secondRound_2] at h
      refine a_iload_n X dX5_secondRound_2 rfl ?_
      refine a_aload_n X dX5_secondRound_3 rfl ?_
      refine a_geti X lf5_47 (by first | exact a_o | assumption) rfl dX5_secondRound_4 ?_
      refine a_icmp_ge (tgt := 114) X dX5_secondRound_7 (by decide) (fun h_7 => ?_) (fun h_7 => ?_)
      · replace h := (if_pos h_7).symm.trans h
        refine a_vret X hr dX5_secondRound_114 ⟨by decide, by decide⟩ ?_
        subst hF
        rw [← Option.some.inj h]
        exact ⟨rfl, rfl⟩
      · replace h := (if_neg h_7).symm.trans h
        refine a_aload_n X dX5_secondRound_10 rfl ?_
        refine a_getr X lf5_9 (by first | exact q_o | assumption) rfl (by omega) dX5_secondRound_11 ?_
        refine a_iload_n X dX5_secondRound_14 rfl ?_
        refine a_callSNv X dX5_secondRound_15 miX7_cell lm5_69 (c_cell (by first | exact q_line | assumption) (by decide)) rfl rfl (Nat.le_of_ble_eq_true rfl) ⟨by decide, by decide, by decide, by decide⟩ ?_
        refine a_istore_n X dX5_secondRound_18 (by decide) ?_
        refine a_aload_n X dX5_secondRound_19 rfl ?_
        refine a_getr X lf5_15 (by first | exact q_o | assumption) rfl (by omega) dX5_secondRound_20 ?_
        refine a_iload_n X dX5_secondRound_23 rfl ?_
        refine a_callSNv X dX5_secondRound_24 miX7_cell lm5_69 (c_cell (by first | exact q_unitOf | assumption) (by decide)) rfl rfl (Nat.le_of_ble_eq_true rfl) ⟨by decide, by decide, by decide, by decide⟩ ?_
        refine a_iconst (v := -1) X dX5_secondRound_27 (by decide) ?_
        refine a_icmp_ne (tgt := 42) X dX5_secondRound_28 (by decide) (fun h_28 => ?_) (fun h_28 => ?_)
        · replace h := (if_neg h_28).symm.trans h
          refine a_iconst (v := 0) X dX5_secondRound_42 (by decide) ?_
          exact Zw.to2 (J_43 _ _ _ _ _ _ _ h) rfl rfl rfl
        · replace h := (if_pos h_28).symm.trans h
          refine a_aload_n X dX5_secondRound_31 rfl ?_
          refine a_getr X lf5_119 (by first | exact a_o | assumption) rfl (by omega) dX5_secondRound_32 ?_
          refine a_iload_n X dX5_secondRound_35 rfl ?_
          refine a_callSNv X dX5_secondRound_36 miX7_cell lm5_69 (c_cell (by first | exact a_wishCount | assumption) (by decide)) rfl rfl (Nat.le_of_ble_eq_true rfl) ⟨by decide, by decide, by decide, by decide⟩ ?_
          refine a_goto (tgt := 43) X dX5_secondRound_39 (by decide) ?_
          exact Zw.to2 (J_43 _ _ _ _ _ _ _ h) rfl rfl rfl
  have H_2 : ∀ (x2_2 : Int32) (x3_2 : Option Value) (x4_2 : Option Value) (x5_2 : Option Value) (x6_2 : Option Value) (M_2 : zMt), D_X5_secondRound_2 Q A zFu x2_2 M_2 = some r → Zw p l e { frames := 2, cells := 0, slots := 0, locals := 36 * (2) } s m args below meth c G b 7 (MQ below (zQ G b FQ) args s 0 0 (fun q : Nat => b ≤ q)) 0 0 2 [some (.ref (Q)), some (.ref (A)), some (.int x2_2), x3_2, x4_2, x5_2, x6_2] [] (L, M_2, N) := L_2 zFu
  unfold D_X5_secondRound at h
  refine a_iconst (v := 0) X dX5_secondRound_0 (by decide) ?_
  refine a_istore_n X dX5_secondRound_1 (by decide) ?_
  exact Zw.to2 (H_2 _ _ _ _ _ _ h) rfl rfl rfl
noncomputable def D_X5_settle_110 (Q : Nat) (A : Nat) (M_110 : zMt) : Option (zMt) :=
  zB (D_X5_secondRound Q A M_110) fun e_112 =>
  some (e_112)
noncomputable def D_X5_settle_36 (Q : Nat) (A : Nat) : Nat → Int32 → zMt → Option (zMt)
  | 0, _, _ => none
  | n + 1, x2_36, M_36 =>
    if (M_36 A 0) ≤ x2_36 then
      if (M_36 A 3) = 0 then
        D_X5_settle_110 Q A M_36
      else
        zB (D_X5_firstRound Q A M_36) fun e_107 =>
        D_X5_settle_110 Q A e_107
    else
      zLt (zwr M_36 (Q + 4) 5 x2_36 (zrd 0 (M_36 (A + 1)) 5 x2_36)) fun M_57 =>
      zLt (zwr M_57 (Q + 6) 5 x2_36 (zrd 0 (M_57 (A + 2)) 5 x2_36)) fun M_73 =>
      zLt (zwr M_73 (Q + 5) 5 x2_36 (zrd 0 (M_73 (A + 3)) 5 x2_36)) fun M_89 =>
      (D_X5_settle_36 Q A n) (x2_36 + 1) M_89
noncomputable def D_X5_settle_2 (Q : Nat) (A : Nat) : Nat → Int32 → zMt → Option (zMt)
  | 0, _, _ => none
  | n + 1, x2_2, M_2 =>
    if (M_2 A 1) ≤ x2_2 then
      D_X5_settle_36 Q A zFu (0 : Int32) M_2
    else
      zLt (zwr M_2 (Q + 2) 10 x2_2 (-1 : Int32)) fun M_16 =>
      zLt (zwr M_16 (Q + 3) 10 x2_2 (0 : Int32)) fun M_25 =>
      (D_X5_settle_2 Q A n) (x2_2 + 1) M_25
noncomputable def D_X5_settle (Q : Nat) (A : Nat) (M : zMt) : Option (zMt) :=
  D_X5_settle_2 Q A zFu (0 : Int32) M
set_option maxRecDepth 100000 in
set_option maxHeartbeats 4000000 in
theorem t_X5_settle {l : Launch} {G : zG} {b : Nat} {L : List zC} {M : zMt} {N : zNt} {Q : Nat} {A : Nat}  (hQ : LX5 L Q) (hA : LX2 L A) {r : zMt} (h : D_X5_settle Q A M = some r) : zM l G b yX5_settle cX5_settle 3 none 3 0 0 [.ref Q, .ref A] (L, M, N) (fun r2 z => r2 = none ∧ z = (L, r, N)) := by
  refine zM.of miX5_settle (Nat.le_of_ble_eq_true rfl) ?_
  intro p e s m args below meth c X hr hname
  generalize hF : ((fun r2 z => r2 = none ∧ z = (L, r, N)) : Option Value → zS → Prop) = FQ
  change Zw p l e { frames := 3, cells := 0, slots := 0, locals := 36 * (3) } s m args below meth c G b 3 (MQ below (zQ G b FQ) args s 0 0 (fun q : Nat => b ≤ q)) 0 0 0 [some (.ref Q), some (.ref A), none] [] (L, M, N)
  have q_lt := hQ.1
  have q_o := hQ.2.1
  have q_unitOf := hQ.2.2.2.1
  have q_roundOf := hQ.2.2.2.2.1
  have q_leftTags := hQ.2.2.2.2.2.1
  have q_leftGuests := hQ.2.2.2.2.2.2.1
  have q_leftPreferred := hQ.2.2.2.2.2.2.2.1
  have a_lt := hA.1
  have a_o := hA.2.1
  have a_quota := hA.2.2.1
  have a_preferred := hA.2.2.2.1
  have a_forGuests := hA.2.2.2.2.1
  have J_110 : ∀ (x2_110 : Int32) (M_110 : zMt), D_X5_settle_110 Q A M_110 = some r → Zw p l e { frames := 3, cells := 0, slots := 0, locals := 36 * (3) } s m args below meth c G b 3 (MQ below (zQ G b FQ) args s 0 0 (fun q : Nat => b ≤ q)) 0 0 110 [some (.ref (Q)), some (.ref (A)), some (.int x2_110)] [] (L, M_110, N) := by
    intro x2_110 M_110 h
    unfold D_X5_settle_110 at h
    refine a_aload_n X dX5_settle_110 rfl ?_
    refine a_aload_n X dX5_settle_111 rfl ?_
    obtain ⟨e_112, f_112, h⟩ := zBx h
    refine a_callVu X dX5_settle_112 miX5_secondRound lm5_92 (t_X5_secondRound (by first | exact hQ | assumption) (by first | exact hA | assumption) f_112) (by first | exact q_o | assumption) rfl rfl rfl (Nat.le_of_ble_eq_true rfl) ⟨by decide, by decide, by decide, by decide⟩ ?_
    refine a_vret X hr dX5_settle_115 ⟨by decide, by decide⟩ ?_
    subst hF
    rw [← Option.some.inj h]
    exact ⟨rfl, rfl⟩
  have L_36 : ∀ u : Nat, ∀ (x2_36 : Int32) (M_36 : zMt), D_X5_settle_36 Q A u x2_36 M_36 = some r → Zw p l e { frames := 3, cells := 0, slots := 0, locals := 36 * (3) } s m args below meth c G b 3 (MQ below (zQ G b FQ) args s 0 0 (fun q : Nat => b ≤ q)) 0 0 36 [some (.ref (Q)), some (.ref (A)), some (.int x2_36)] [] (L, M_36, N) := by
    intro u
    induction u with
    | zero => intro x2_36 M_36 h; cases (show none = some r from h)
    | succ u_36 ih_36 =>
      intro x2_36 M_36 h
      rw [D_X5_settle_36] at h
      refine a_iload_n X dX5_settle_36 rfl ?_
      refine a_aload_n X dX5_settle_37 rfl ?_
      refine a_geti X lf5_73 (by first | exact a_o | assumption) rfl dX5_settle_38 ?_
      refine a_icmp_ge (tgt := 98) X dX5_settle_41 (by decide) (fun h_41 => ?_) (fun h_41 => ?_)
      · replace h := (if_pos h_41).symm.trans h
        refine a_aload_n X dX5_settle_98 rfl ?_
        refine a_geti X lf5_85 (by first | exact a_o | assumption) rfl dX5_settle_99 ?_
        refine a_if_eq (tgt := 110) X dX5_settle_102 (by decide) (fun h_102 => ?_) (fun h_102 => ?_)
        · replace h := (if_pos h_102).symm.trans h
          exact Zw.to2 (J_110 _ _ h) rfl rfl rfl
        · replace h := (if_neg h_102).symm.trans h
          refine a_aload_n X dX5_settle_105 rfl ?_
          refine a_aload_n X dX5_settle_106 rfl ?_
          obtain ⟨e_107, f_107, h⟩ := zBx h
          refine a_callVu X dX5_settle_107 miX5_firstRound lm5_89 (t_X5_firstRound (by first | exact hQ | assumption) (by first | exact hA | assumption) f_107) (by first | exact q_o | assumption) rfl rfl rfl (Nat.le_of_ble_eq_true rfl) ⟨by decide, by decide, by decide, by decide⟩ ?_
          exact Zw.to2 (J_110 _ _ h) rfl rfl rfl
      · replace h := (if_neg h_41).symm.trans h
        refine a_aload_n X dX5_settle_44 rfl ?_
        refine a_getr X lf5_21 (by first | exact q_o | assumption) rfl (by omega) dX5_settle_45 ?_
        refine a_iload_n X dX5_settle_48 rfl ?_
        refine a_aload_n X dX5_settle_49 rfl ?_
        refine a_getr X lf5_76 (by first | exact a_o | assumption) rfl (by omega) dX5_settle_50 ?_
        refine a_iload_n X dX5_settle_53 rfl ?_
        refine a_callSNv X dX5_settle_54 miX7_cell lm5_69 (c_cell (by first | exact a_quota | assumption) (by decide)) rfl rfl (Nat.le_of_ble_eq_true rfl) ⟨by decide, by decide, by decide, by decide⟩ ?_
        obtain ⟨M_57, f_57, h⟩ := zLtx h
        refine a_callSNu X dX5_settle_57 miX7_put lm5_62 (zMu (c_put (by first | exact q_leftTags | assumption) (by decide)) f_57) rfl rfl (Nat.le_of_ble_eq_true rfl) ⟨by decide, by decide, by decide, by decide⟩ ?_
        refine a_aload_n X dX5_settle_60 rfl ?_
        refine a_getr X lf5_27 (by first | exact q_o | assumption) rfl (by omega) dX5_settle_61 ?_
        refine a_iload_n X dX5_settle_64 rfl ?_
        refine a_aload_n X dX5_settle_65 rfl ?_
        refine a_getr X lf5_79 (by first | exact a_o | assumption) rfl (by omega) dX5_settle_66 ?_
        refine a_iload_n X dX5_settle_69 rfl ?_
        refine a_callSNv X dX5_settle_70 miX7_cell lm5_69 (c_cell (by first | exact a_preferred | assumption) (by decide)) rfl rfl (Nat.le_of_ble_eq_true rfl) ⟨by decide, by decide, by decide, by decide⟩ ?_
        obtain ⟨M_73, f_73, h⟩ := zLtx h
        refine a_callSNu X dX5_settle_73 miX7_put lm5_62 (zMu (c_put (by first | exact q_leftPreferred | assumption) (by decide)) f_73) rfl rfl (Nat.le_of_ble_eq_true rfl) ⟨by decide, by decide, by decide, by decide⟩ ?_
        refine a_aload_n X dX5_settle_76 rfl ?_
        refine a_getr X lf5_24 (by first | exact q_o | assumption) rfl (by omega) dX5_settle_77 ?_
        refine a_iload_n X dX5_settle_80 rfl ?_
        refine a_aload_n X dX5_settle_81 rfl ?_
        refine a_getr X lf5_82 (by first | exact a_o | assumption) rfl (by omega) dX5_settle_82 ?_
        refine a_iload_n X dX5_settle_85 rfl ?_
        refine a_callSNv X dX5_settle_86 miX7_cell lm5_69 (c_cell (by first | exact a_forGuests | assumption) (by decide)) rfl rfl (Nat.le_of_ble_eq_true rfl) ⟨by decide, by decide, by decide, by decide⟩ ?_
        obtain ⟨M_89, f_89, h⟩ := zLtx h
        refine a_callSNu X dX5_settle_89 miX7_put lm5_62 (zMu (c_put (by first | exact q_leftGuests | assumption) (by decide)) f_89) rfl rfl (Nat.le_of_ble_eq_true rfl) ⟨by decide, by decide, by decide, by decide⟩ ?_
        refine a_iinc (v := x2_36 + 1) X dX5_settle_92 (by decide) rfl zi_1 ?_
        refine a_goto (tgt := 36) X dX5_settle_95 (by decide) ?_
        exact Zw.to2 (ih_36 _ _ h) rfl rfl rfl
  have H_36 : ∀ (x2_36 : Int32) (M_36 : zMt), D_X5_settle_36 Q A zFu x2_36 M_36 = some r → Zw p l e { frames := 3, cells := 0, slots := 0, locals := 36 * (3) } s m args below meth c G b 3 (MQ below (zQ G b FQ) args s 0 0 (fun q : Nat => b ≤ q)) 0 0 36 [some (.ref (Q)), some (.ref (A)), some (.int x2_36)] [] (L, M_36, N) := L_36 zFu
  have L_2 : ∀ u : Nat, ∀ (x2_2 : Int32) (M_2 : zMt), D_X5_settle_2 Q A u x2_2 M_2 = some r → Zw p l e { frames := 3, cells := 0, slots := 0, locals := 36 * (3) } s m args below meth c G b 3 (MQ below (zQ G b FQ) args s 0 0 (fun q : Nat => b ≤ q)) 0 0 2 [some (.ref (Q)), some (.ref (A)), some (.int x2_2)] [] (L, M_2, N) := by
    intro u
    induction u with
    | zero => intro x2_2 M_2 h; cases (show none = some r from h)
    | succ u_2 ih_2 =>
      intro x2_2 M_2 h
      rw [D_X5_settle_2] at h
      refine a_iload_n X dX5_settle_2 rfl ?_
      refine a_aload_n X dX5_settle_3 rfl ?_
      refine a_geti X lf5_47 (by first | exact a_o | assumption) rfl dX5_settle_4 ?_
      refine a_icmp_ge (tgt := 34) X dX5_settle_7 (by decide) (fun h_7 => ?_) (fun h_7 => ?_)
      · replace h := (if_pos h_7).symm.trans h
        refine a_iconst (v := 0) X dX5_settle_34 (by decide) ?_
        refine a_istore_n X dX5_settle_35 (by decide) ?_
        exact Zw.to2 (H_36 _ _ h) rfl rfl rfl
      · replace h := (if_neg h_7).symm.trans h
        refine a_aload_n X dX5_settle_10 rfl ?_
        refine a_getr X lf5_15 (by first | exact q_o | assumption) rfl (by omega) dX5_settle_11 ?_
        refine a_iload_n X dX5_settle_14 rfl ?_
        refine a_iconst (v := -1) X dX5_settle_15 (by decide) ?_
        obtain ⟨M_16, f_16, h⟩ := zLtx h
        refine a_callSNu X dX5_settle_16 miX7_put lm5_62 (zMu (c_put (by first | exact q_unitOf | assumption) (by decide)) f_16) rfl rfl (Nat.le_of_ble_eq_true rfl) ⟨by decide, by decide, by decide, by decide⟩ ?_
        refine a_aload_n X dX5_settle_19 rfl ?_
        refine a_getr X lf5_18 (by first | exact q_o | assumption) rfl (by omega) dX5_settle_20 ?_
        refine a_iload_n X dX5_settle_23 rfl ?_
        refine a_iconst (v := 0) X dX5_settle_24 (by decide) ?_
        obtain ⟨M_25, f_25, h⟩ := zLtx h
        refine a_callSNu X dX5_settle_25 miX7_put lm5_62 (zMu (c_put (by first | exact q_roundOf | assumption) (by decide)) f_25) rfl rfl (Nat.le_of_ble_eq_true rfl) ⟨by decide, by decide, by decide, by decide⟩ ?_
        refine a_iinc (v := x2_2 + 1) X dX5_settle_28 (by decide) rfl zi_1 ?_
        refine a_goto (tgt := 2) X dX5_settle_31 (by decide) ?_
        exact Zw.to2 (ih_2 _ _ h) rfl rfl rfl
  have H_2 : ∀ (x2_2 : Int32) (M_2 : zMt), D_X5_settle_2 Q A zFu x2_2 M_2 = some r → Zw p l e { frames := 3, cells := 0, slots := 0, locals := 36 * (3) } s m args below meth c G b 3 (MQ below (zQ G b FQ) args s 0 0 (fun q : Nat => b ≤ q)) 0 0 2 [some (.ref (Q)), some (.ref (A)), some (.int x2_2)] [] (L, M_2, N) := L_2 zFu
  unfold D_X5_settle at h
  refine a_iconst (v := 0) X dX5_settle_0 (by decide) ?_
  refine a_istore_n X dX5_settle_1 (by decide) ?_
  exact Zw.to2 (H_2 _ _ h) rfl rfl rfl
noncomputable def D_X5_bySeed (Q : Nat) (A : Nat) (v0 : Int32) (M : zMt) : Option (zMt) :=
  zB (D_X5_lineUp Q A v0 M) fun e_3 =>
  zB (D_X5_settle Q A e_3) fun e_8 =>
  some (e_8)
set_option maxRecDepth 100000 in
set_option maxHeartbeats 4000000 in
theorem t_X5_bySeed {l : Launch} {G : zG} {b : Nat} {L : List zC} {M : zMt} {N : zNt} {Q : Nat} {A : Nat} {v0 : Int32} (hQ : LX5 L Q) (hA : LX2 L A) {r : zMt} (h : D_X5_bySeed Q A v0 M = some r) : zM l G b yX5_bySeed cX5_bySeed 3 none 4 0 0 [.ref Q, .ref A, .int v0] (L, M, N) (fun r2 z => r2 = none ∧ z = (L, r, N)) := by
  refine zM.of miX5_bySeed (Nat.le_of_ble_eq_true rfl) ?_
  intro p e s m args below meth c X hr hname
  generalize hF : ((fun r2 z => r2 = none ∧ z = (L, r, N)) : Option Value → zS → Prop) = FQ
  change Zw p l e { frames := 4, cells := 0, slots := 0, locals := 36 * (4) } s m args below meth c G b 3 (MQ below (zQ G b FQ) args s 0 0 (fun q : Nat => b ≤ q)) 0 0 0 [some (.ref Q), some (.ref A), some (.int v0)] [] (L, M, N)
  have q_lt := hQ.1
  have q_o := hQ.2.1
  have a_lt := hA.1
  have a_o := hA.2.1
  unfold D_X5_bySeed at h
  refine a_aload_n X dX5_bySeed_0 rfl ?_
  refine a_aload_n X dX5_bySeed_1 rfl ?_
  refine a_iload_n X dX5_bySeed_2 rfl ?_
  obtain ⟨e_3, f_3, h⟩ := zBx h
  refine a_callVu X dX5_bySeed_3 miX5_lineUp lm5_33 (t_X5_lineUp (by first | exact hQ | assumption) (by first | exact hA | assumption) f_3) (by first | exact q_o | assumption) rfl rfl rfl (Nat.le_of_ble_eq_true rfl) ⟨by decide, by decide, by decide, by decide⟩ ?_
  refine a_aload_n X dX5_bySeed_6 rfl ?_
  refine a_aload_n X dX5_bySeed_7 rfl ?_
  obtain ⟨e_8, f_8, h⟩ := zBx h
  refine a_callVu X dX5_bySeed_8 miX5_settle lm5_37 (t_X5_settle (by first | exact hQ | assumption) (by first | exact hA | assumption) f_8) (by first | exact q_o | assumption) rfl rfl rfl (Nat.le_of_ble_eq_true rfl) ⟨by decide, by decide, by decide, by decide⟩ ?_
  refine a_vret X hr dX5_bySeed_11 ⟨by decide, by decide⟩ ?_
  subst hF
  rw [← Option.some.inj h]
  exact ⟨rfl, rfl⟩
noncomputable def D_X5_hasFirst_34 (Q : Nat) (A : Nat) (M : zMt) (y0_34 : Int32) : Option (Int32) :=
  some (y0_34)
noncomputable def D_X5_hasFirst_33 (Q : Nat) (A : Nat) (M : zMt)  : Option (Int32) :=
  D_X5_hasFirst_34 Q A M (0 : Int32)
noncomputable def D_X5_hasFirst (Q : Nat) (A : Nat) (M : zMt) (v0 : Int32) : Option (Int32) :=
  if (zrd 0 (M (Q + 2)) 10 v0) = (-1 : Int32) then
    D_X5_hasFirst_33 Q A M
  else
    zB (D_X2_wish A M v0 (0 : Int32)) fun e_23 =>
    if (zrd 0 (M (Q + 2)) 10 v0) = e_23 then
      D_X5_hasFirst_34 Q A M (1 : Int32)
    else
      D_X5_hasFirst_33 Q A M
set_option maxRecDepth 100000 in
set_option maxHeartbeats 4000000 in
theorem t_X5_hasFirst {l : Launch} {G : zG} {b : Nat} {L : List zC} {M : zMt} {N : zNt} {Q : Nat} {A : Nat} {v0 : Int32} (hQ : LX5 L Q) (hA : LX2 L A) {r : Int32} (h : D_X5_hasFirst Q A M v0 = some r) : zM l G b yX5_hasFirst cX5_hasFirst 3 (some .boolean) 2 0 0 [.ref Q, .ref A, .int v0] (L, M, N) (fun r2 z => r2 = some (.int r) ∧ z = (L, M, N) ∧ (r = 0 ∨ r = 1)) := by
  refine zM.of miX5_hasFirst (Nat.le_of_ble_eq_true rfl) ?_
  intro p e s m args below meth c X hr hname
  generalize hF : ((fun r2 z => r2 = some (.int r) ∧ z = (L, M, N) ∧ (r = 0 ∨ r = 1)) : Option Value → zS → Prop) = FQ
  change Zw p l e { frames := 2, cells := 0, slots := 0, locals := 36 * (2) } s m args below meth c G b 3 (MQ below (zQ G b FQ) args s 0 0 (fun q : Nat => b ≤ q)) 0 0 0 [some (.ref Q), some (.ref A), some (.int v0)] [] (L, M, N)
  have q_lt := hQ.1
  have q_o := hQ.2.1
  have q_unitOf := hQ.2.2.2.1
  have a_lt := hA.1
  have a_o := hA.2.1
  have J_34 : ∀ (x2_34 : Int32) (y0_34 : Int32), (y0_34 = 0 ∨ y0_34 = 1) → D_X5_hasFirst_34 Q A M y0_34 = some r → Zw p l e { frames := 2, cells := 0, slots := 0, locals := 36 * (2) } s m args below meth c G b 3 (MQ below (zQ G b FQ) args s 0 0 (fun q : Nat => b ≤ q)) 0 0 34 [some (.ref (Q)), some (.ref (A)), some (.int x2_34)] [.int y0_34] (L, M, N) := by
    intro x2_34 y0_34 fb_y0_34 h
    unfold D_X5_hasFirst_34 at h
    refine a_zret X (by first | exact Or.inl rfl | exact Or.inr rfl | assumption) hr dX5_hasFirst_34 ⟨by decide, by decide⟩ ?_
    subst hF
    rw [← Option.some.inj h]
    exact ⟨rfl, rfl, (by first | exact Or.inl rfl | exact Or.inr rfl | assumption)⟩
  have J_33 : ∀ (x2_33 : Int32), D_X5_hasFirst_33 Q A M = some r → Zw p l e { frames := 2, cells := 0, slots := 0, locals := 36 * (2) } s m args below meth c G b 3 (MQ below (zQ G b FQ) args s 0 0 (fun q : Nat => b ≤ q)) 0 0 33 [some (.ref (Q)), some (.ref (A)), some (.int x2_33)] [] (L, M, N) := by
    intro x2_33 h
    unfold D_X5_hasFirst_33 at h
    refine a_iconst (v := 0) X dX5_hasFirst_33 (by decide) ?_
    exact Zw.to2 (J_34 _ _ (by first | exact Or.inl rfl | exact Or.inr rfl | assumption) h) rfl rfl rfl
  unfold D_X5_hasFirst at h
  refine a_aload_n X dX5_hasFirst_0 rfl ?_
  refine a_getr X lf5_15 (by first | exact q_o | assumption) rfl (by omega) dX5_hasFirst_1 ?_
  refine a_iload_n X dX5_hasFirst_4 rfl ?_
  refine a_callSNv X dX5_hasFirst_5 miX7_cell lm5_69 (c_cell (by first | exact q_unitOf | assumption) (by decide)) rfl rfl (Nat.le_of_ble_eq_true rfl) ⟨by decide, by decide, by decide, by decide⟩ ?_
  refine a_iconst (v := -1) X dX5_hasFirst_8 (by decide) ?_
  refine a_icmp_eq (tgt := 33) X dX5_hasFirst_9 (by decide) (fun h_9 => ?_) (fun h_9 => ?_)
  · replace h := (if_pos h_9).symm.trans h
    exact Zw.to2 (J_33 _ h) rfl rfl rfl
  · replace h := (if_neg h_9).symm.trans h
    refine a_aload_n X dX5_hasFirst_12 rfl ?_
    refine a_getr X lf5_15 (by first | exact q_o | assumption) rfl (by omega) dX5_hasFirst_13 ?_
    refine a_iload_n X dX5_hasFirst_16 rfl ?_
    refine a_callSNv X dX5_hasFirst_17 miX7_cell lm5_69 (c_cell (by first | exact q_unitOf | assumption) (by decide)) rfl rfl (Nat.le_of_ble_eq_true rfl) ⟨by decide, by decide, by decide, by decide⟩ ?_
    refine a_aload_n X dX5_hasFirst_20 rfl ?_
    refine a_iload_n X dX5_hasFirst_21 rfl ?_
    refine a_iconst (v := 0) X dX5_hasFirst_22 (by decide) ?_
    obtain ⟨e_23, f_23, h⟩ := zBx h
    refine a_callVv X dX5_hasFirst_23 miX2_wish lm5_98 (t_X2_wish (by first | exact hA | assumption) f_23) (by first | exact a_o | assumption) rfl rfl rfl (Nat.le_of_ble_eq_true rfl) ⟨by decide, by decide, by decide, by decide⟩ ?_
    refine a_icmp_ne (tgt := 33) X dX5_hasFirst_26 (by decide) (fun h_26 => ?_) (fun h_26 => ?_)
    · replace h := (if_neg h_26).symm.trans h
      exact Zw.to2 (J_33 _ h) rfl rfl rfl
    · replace h := (if_pos h_26).symm.trans h
      refine a_iconst (v := 1) X dX5_hasFirst_29 (by decide) ?_
      refine a_goto (tgt := 34) X dX5_hasFirst_30 (by decide) ?_
      exact Zw.to2 (J_34 _ _ (by first | exact Or.inl rfl | exact Or.inr rfl | assumption) h) rfl rfl rfl
noncomputable def D_X5_holders_33 (Q : Nat) (A : Nat) (M : zMt) (k5 : Int32 → Int32 → Int32 → Option (Int32)) (x2_33 : Int32) (x4_33 : Int32) (y0_33 : Int32) (y1_33 : Int32) : Option (Int32) :=
  k5 x2_33 (y0_33 + y1_33) (x4_33 + 1)
noncomputable def D_X5_holders_5 (Q : Nat) (A : Nat) (M : zMt) : Nat → Int32 → Int32 → Int32 → Option (Int32)
  | 0, _, _, _ => none
  | n + 1, x2_5, x3_5, x4_5 =>
    if (M A 1) ≤ x4_5 then
      some (x3_5)
    else
      if (zrd 0 (M (Q + 2)) 10 x4_5) = x2_5 then
        D_X5_holders_33 Q A M (D_X5_holders_5 Q A M n) x2_5 x4_5 x3_5 (1 : Int32)
      else
        D_X5_holders_33 Q A M (D_X5_holders_5 Q A M n) x2_5 x4_5 x3_5 (0 : Int32)
noncomputable def D_X5_holders (Q : Nat) (A : Nat) (M : zMt) (v0 : Int32) : Option (Int32) :=
  D_X5_holders_5 Q A M zFu v0 (0 : Int32) (0 : Int32)
set_option maxRecDepth 100000 in
set_option maxHeartbeats 4000000 in
theorem t_X5_holders {l : Launch} {G : zG} {b : Nat} {L : List zC} {M : zMt} {N : zNt} {Q : Nat} {A : Nat} {v0 : Int32} (hQ : LX5 L Q) (hA : LX2 L A) {r : Int32} (h : D_X5_holders Q A M v0 = some r) : zM l G b yX5_holders cX5_holders 5 (some .int) 1 0 0 [.ref Q, .ref A, .int v0] (L, M, N) (fun r2 z => r2 = some (.int r) ∧ z = (L, M, N)) := by
  refine zM.of miX5_holders (Nat.le_of_ble_eq_true rfl) ?_
  intro p e s m args below meth c X hr hname
  generalize hF : ((fun r2 z => r2 = some (.int r) ∧ z = (L, M, N)) : Option Value → zS → Prop) = FQ
  change Zw p l e { frames := 1, cells := 0, slots := 0, locals := 36 * (1) } s m args below meth c G b 5 (MQ below (zQ G b FQ) args s 0 0 (fun q : Nat => b ≤ q)) 0 0 0 [some (.ref Q), some (.ref A), some (.int v0), none, none] [] (L, M, N)
  have q_lt := hQ.1
  have q_o := hQ.2.1
  have q_unitOf := hQ.2.2.2.1
  have a_lt := hA.1
  have a_o := hA.2.1
  have L_5 : ∀ u : Nat, ∀ (x2_5 : Int32) (x3_5 : Int32) (x4_5 : Int32), D_X5_holders_5 Q A M u x2_5 x3_5 x4_5 = some r → Zw p l e { frames := 1, cells := 0, slots := 0, locals := 36 * (1) } s m args below meth c G b 5 (MQ below (zQ G b FQ) args s 0 0 (fun q : Nat => b ≤ q)) 0 0 5 [some (.ref (Q)), some (.ref (A)), some (.int x2_5), some (.int x3_5), some (.int x4_5)] [] (L, M, N) := by
    intro u
    induction u with
    | zero => intro x2_5 x3_5 x4_5 h; cases (show none = some r from h)
    | succ u_5 ih_5 =>
      have J_33 : ∀ (x2_33 : Int32) (x3_33 : Int32) (x4_33 : Int32) (y0_33 : Int32) (y1_33 : Int32), (y1_33 = 0 ∨ y1_33 = 1) → D_X5_holders_33 Q A M (D_X5_holders_5 Q A M u_5) x2_33 x4_33 y0_33 y1_33 = some r → Zw p l e { frames := 1, cells := 0, slots := 0, locals := 36 * (1) } s m args below meth c G b 5 (MQ below (zQ G b FQ) args s 0 0 (fun q : Nat => b ≤ q)) 0 0 33 [some (.ref (Q)), some (.ref (A)), some (.int x2_33), some (.int x3_33), some (.int x4_33)] [.int y1_33, .int y0_33] (L, M, N) := by
        intro x2_33 x3_33 x4_33 y0_33 y1_33 fb_y1_33 h
        unfold D_X5_holders_33 at h
        refine a_iadd X dX5_holders_33 ?_
        refine a_istore_n X dX5_holders_34 (by decide) ?_
        refine a_iinc (v := x4_33 + 1) X dX5_holders_35 (by decide) rfl zi_1 ?_
        refine a_goto (tgt := 5) X dX5_holders_38 (by decide) ?_
        exact Zw.to2 (ih_5 _ _ _ h) rfl rfl rfl
      intro x2_5 x3_5 x4_5 h
      rw [D_X5_holders_5] at h
      refine a_iload X dX5_holders_5 rfl ?_
      refine a_aload_n X dX5_holders_7 rfl ?_
      refine a_geti X lf5_47 (by first | exact a_o | assumption) rfl dX5_holders_8 ?_
      refine a_icmp_ge (tgt := 41) X dX5_holders_11 (by decide) (fun h_11 => ?_) (fun h_11 => ?_)
      · replace h := (if_pos h_11).symm.trans h
        refine a_iload_n X dX5_holders_41 rfl ?_
        refine a_iret X hr dX5_holders_42 ⟨by decide, by decide⟩ ?_
        subst hF
        rw [← Option.some.inj h]
        exact ⟨rfl, rfl⟩
      · replace h := (if_neg h_11).symm.trans h
        refine a_iload_n X dX5_holders_14 rfl ?_
        refine a_aload_n X dX5_holders_15 rfl ?_
        refine a_getr X lf5_15 (by first | exact q_o | assumption) rfl (by omega) dX5_holders_16 ?_
        refine a_iload X dX5_holders_19 rfl ?_
        refine a_callSNv X dX5_holders_21 miX7_cell lm5_69 (c_cell (by first | exact q_unitOf | assumption) (by decide)) rfl rfl (Nat.le_of_ble_eq_true rfl) ⟨by decide, by decide, by decide, by decide⟩ ?_
        refine a_iload_n X dX5_holders_24 rfl ?_
        refine a_icmp_ne (tgt := 32) X dX5_holders_25 (by decide) (fun h_25 => ?_) (fun h_25 => ?_)
        · replace h := (if_neg h_25).symm.trans h
          refine a_iconst (v := 0) X dX5_holders_32 (by decide) ?_
          exact Zw.to2 (J_33 _ _ _ _ _ (by first | exact Or.inl rfl | exact Or.inr rfl | assumption) h) rfl rfl rfl
        · replace h := (if_pos h_25).symm.trans h
          refine a_iconst (v := 1) X dX5_holders_28 (by decide) ?_
          refine a_goto (tgt := 33) X dX5_holders_29 (by decide) ?_
          exact Zw.to2 (J_33 _ _ _ _ _ (by first | exact Or.inl rfl | exact Or.inr rfl | assumption) h) rfl rfl rfl
  have H_5 : ∀ (x2_5 : Int32) (x3_5 : Int32) (x4_5 : Int32), D_X5_holders_5 Q A M zFu x2_5 x3_5 x4_5 = some r → Zw p l e { frames := 1, cells := 0, slots := 0, locals := 36 * (1) } s m args below meth c G b 5 (MQ below (zQ G b FQ) args s 0 0 (fun q : Nat => b ≤ q)) 0 0 5 [some (.ref (Q)), some (.ref (A)), some (.int x2_5), some (.int x3_5), some (.int x4_5)] [] (L, M, N) := L_5 zFu
  unfold D_X5_holders at h
  refine a_iconst (v := 0) X dX5_holders_0 (by decide) ?_
  refine a_istore_n X dX5_holders_1 (by decide) ?_
  refine a_iconst (v := 0) X dX5_holders_2 (by decide) ?_
  refine a_istore X dX5_holders_3 (by decide) ?_
  exact Zw.to2 (H_5 _ _ _ h) rfl rfl rfl
noncomputable def D_X5_fewestPoints_55 (Q : Nat) (A : Nat) (M : zMt) (k5 : Int32 → Int32 → Int32 → Option (Int32)) (x2_55 : Int32) (x3_55 : Int32) (x4_55 : Int32) : Option (Int32) :=
  k5 x2_55 x3_55 (x4_55 + 1)
noncomputable def D_X5_fewestPoints_45 (Q : Nat) (A : Nat) (M : zMt) (k5 : Int32 → Int32 → Int32 → Option (Int32)) (x2_45 : Int32) (x4_45 : Int32) : Option (Int32) :=
  D_X5_fewestPoints_55 Q A M k5 x2_45 (zrd 0 (M (A + 7)) 10 x4_45) x4_45
noncomputable def D_X5_fewestPoints_5 (Q : Nat) (A : Nat) (M : zMt) : Nat → Int32 → Int32 → Int32 → Option (Int32)
  | 0, _, _, _ => none
  | n + 1, x2_5, x3_5, x4_5 =>
    if (M A 1) ≤ x4_5 then
      some (x3_5)
    else
      if (zrd 0 (M (Q + 2)) 10 x4_5) = x2_5 then
        if x3_5 = (-1 : Int32) then
          D_X5_fewestPoints_45 Q A M (D_X5_fewestPoints_5 Q A M n) x2_5 x4_5
        else
          if x3_5 ≤ (zrd 0 (M (A + 7)) 10 x4_5) then
            D_X5_fewestPoints_55 Q A M (D_X5_fewestPoints_5 Q A M n) x2_5 x3_5 x4_5
          else
            D_X5_fewestPoints_45 Q A M (D_X5_fewestPoints_5 Q A M n) x2_5 x4_5
      else
        D_X5_fewestPoints_55 Q A M (D_X5_fewestPoints_5 Q A M n) x2_5 x3_5 x4_5
noncomputable def D_X5_fewestPoints (Q : Nat) (A : Nat) (M : zMt) (v0 : Int32) : Option (Int32) :=
  D_X5_fewestPoints_5 Q A M zFu v0 (-1 : Int32) (0 : Int32)
set_option maxRecDepth 100000 in
set_option maxHeartbeats 4000000 in
theorem t_X5_fewestPoints {l : Launch} {G : zG} {b : Nat} {L : List zC} {M : zMt} {N : zNt} {Q : Nat} {A : Nat} {v0 : Int32} (hQ : LX5 L Q) (hA : LX2 L A) {r : Int32} (h : D_X5_fewestPoints Q A M v0 = some r) : zM l G b yX5_fewestPoints cX5_fewestPoints 5 (some .int) 1 0 0 [.ref Q, .ref A, .int v0] (L, M, N) (fun r2 z => r2 = some (.int r) ∧ z = (L, M, N)) := by
  refine zM.of miX5_fewestPoints (Nat.le_of_ble_eq_true rfl) ?_
  intro p e s m args below meth c X hr hname
  generalize hF : ((fun r2 z => r2 = some (.int r) ∧ z = (L, M, N)) : Option Value → zS → Prop) = FQ
  change Zw p l e { frames := 1, cells := 0, slots := 0, locals := 36 * (1) } s m args below meth c G b 5 (MQ below (zQ G b FQ) args s 0 0 (fun q : Nat => b ≤ q)) 0 0 0 [some (.ref Q), some (.ref A), some (.int v0), none, none] [] (L, M, N)
  have q_lt := hQ.1
  have q_o := hQ.2.1
  have q_unitOf := hQ.2.2.2.1
  have a_lt := hA.1
  have a_o := hA.2.1
  have a_score := hA.2.2.2.2.2.2.2.2.1
  have L_5 : ∀ u : Nat, ∀ (x2_5 : Int32) (x3_5 : Int32) (x4_5 : Int32), D_X5_fewestPoints_5 Q A M u x2_5 x3_5 x4_5 = some r → Zw p l e { frames := 1, cells := 0, slots := 0, locals := 36 * (1) } s m args below meth c G b 5 (MQ below (zQ G b FQ) args s 0 0 (fun q : Nat => b ≤ q)) 0 0 5 [some (.ref (Q)), some (.ref (A)), some (.int x2_5), some (.int x3_5), some (.int x4_5)] [] (L, M, N) := by
    intro u
    induction u with
    | zero => intro x2_5 x3_5 x4_5 h; cases (show none = some r from h)
    | succ u_5 ih_5 =>
      have J_55 : ∀ (x2_55 : Int32) (x3_55 : Int32) (x4_55 : Int32), D_X5_fewestPoints_55 Q A M (D_X5_fewestPoints_5 Q A M u_5) x2_55 x3_55 x4_55 = some r → Zw p l e { frames := 1, cells := 0, slots := 0, locals := 36 * (1) } s m args below meth c G b 5 (MQ below (zQ G b FQ) args s 0 0 (fun q : Nat => b ≤ q)) 0 0 55 [some (.ref (Q)), some (.ref (A)), some (.int x2_55), some (.int x3_55), some (.int x4_55)] [] (L, M, N) := by
        intro x2_55 x3_55 x4_55 h
        unfold D_X5_fewestPoints_55 at h
        refine a_iinc (v := x4_55 + 1) X dX5_fewestPoints_55 (by decide) rfl zi_1 ?_
        refine a_goto (tgt := 5) X dX5_fewestPoints_58 (by decide) ?_
        exact Zw.to2 (ih_5 _ _ _ h) rfl rfl rfl
      have J_45 : ∀ (x2_45 : Int32) (x3_45 : Int32) (x4_45 : Int32), D_X5_fewestPoints_45 Q A M (D_X5_fewestPoints_5 Q A M u_5) x2_45 x4_45 = some r → Zw p l e { frames := 1, cells := 0, slots := 0, locals := 36 * (1) } s m args below meth c G b 5 (MQ below (zQ G b FQ) args s 0 0 (fun q : Nat => b ≤ q)) 0 0 45 [some (.ref (Q)), some (.ref (A)), some (.int x2_45), some (.int x3_45), some (.int x4_45)] [] (L, M, N) := by
        intro x2_45 x3_45 x4_45 h
        unfold D_X5_fewestPoints_45 at h
        refine a_aload_n X dX5_fewestPoints_45 rfl ?_
        refine a_getr X lf5_116 (by first | exact a_o | assumption) rfl (by omega) dX5_fewestPoints_46 ?_
        refine a_iload X dX5_fewestPoints_49 rfl ?_
        refine a_callSNv X dX5_fewestPoints_51 miX7_cell lm5_69 (c_cell (by first | exact a_score | assumption) (by decide)) rfl rfl (Nat.le_of_ble_eq_true rfl) ⟨by decide, by decide, by decide, by decide⟩ ?_
        refine a_istore_n X dX5_fewestPoints_54 (by decide) ?_
        exact Zw.to2 (J_55 _ _ _ h) rfl rfl rfl
      intro x2_5 x3_5 x4_5 h
      rw [D_X5_fewestPoints_5] at h
      refine a_iload X dX5_fewestPoints_5 rfl ?_
      refine a_aload_n X dX5_fewestPoints_7 rfl ?_
      refine a_geti X lf5_47 (by first | exact a_o | assumption) rfl dX5_fewestPoints_8 ?_
      refine a_icmp_ge (tgt := 61) X dX5_fewestPoints_11 (by decide) (fun h_11 => ?_) (fun h_11 => ?_)
      · replace h := (if_pos h_11).symm.trans h
        refine a_iload_n X dX5_fewestPoints_61 rfl ?_
        refine a_iret X hr dX5_fewestPoints_62 ⟨by decide, by decide⟩ ?_
        subst hF
        rw [← Option.some.inj h]
        exact ⟨rfl, rfl⟩
      · replace h := (if_neg h_11).symm.trans h
        refine a_aload_n X dX5_fewestPoints_14 rfl ?_
        refine a_getr X lf5_15 (by first | exact q_o | assumption) rfl (by omega) dX5_fewestPoints_15 ?_
        refine a_iload X dX5_fewestPoints_18 rfl ?_
        refine a_callSNv X dX5_fewestPoints_20 miX7_cell lm5_69 (c_cell (by first | exact q_unitOf | assumption) (by decide)) rfl rfl (Nat.le_of_ble_eq_true rfl) ⟨by decide, by decide, by decide, by decide⟩ ?_
        refine a_iload_n X dX5_fewestPoints_23 rfl ?_
        refine a_icmp_ne (tgt := 55) X dX5_fewestPoints_24 (by decide) (fun h_24 => ?_) (fun h_24 => ?_)
        · replace h := (if_neg h_24).symm.trans h
          exact Zw.to2 (J_55 _ _ _ h) rfl rfl rfl
        · replace h := (if_pos h_24).symm.trans h
          refine a_iload_n X dX5_fewestPoints_27 rfl ?_
          refine a_iconst (v := -1) X dX5_fewestPoints_28 (by decide) ?_
          refine a_icmp_eq (tgt := 45) X dX5_fewestPoints_29 (by decide) (fun h_29 => ?_) (fun h_29 => ?_)
          · replace h := (if_pos h_29).symm.trans h
            exact Zw.to2 (J_45 _ _ _ h) rfl rfl rfl
          · replace h := (if_neg h_29).symm.trans h
            refine a_aload_n X dX5_fewestPoints_32 rfl ?_
            refine a_getr X lf5_116 (by first | exact a_o | assumption) rfl (by omega) dX5_fewestPoints_33 ?_
            refine a_iload X dX5_fewestPoints_36 rfl ?_
            refine a_callSNv X dX5_fewestPoints_38 miX7_cell lm5_69 (c_cell (by first | exact a_score | assumption) (by decide)) rfl rfl (Nat.le_of_ble_eq_true rfl) ⟨by decide, by decide, by decide, by decide⟩ ?_
            refine a_iload_n X dX5_fewestPoints_41 rfl ?_
            refine a_icmp_ge (tgt := 55) X dX5_fewestPoints_42 (by decide) (fun h_42 => ?_) (fun h_42 => ?_)
            · replace h := (if_pos h_42).symm.trans h
              exact Zw.to2 (J_55 _ _ _ h) rfl rfl rfl
            · replace h := (if_neg h_42).symm.trans h
              exact Zw.to2 (J_45 _ _ _ h) rfl rfl rfl
  have H_5 : ∀ (x2_5 : Int32) (x3_5 : Int32) (x4_5 : Int32), D_X5_fewestPoints_5 Q A M zFu x2_5 x3_5 x4_5 = some r → Zw p l e { frames := 1, cells := 0, slots := 0, locals := 36 * (1) } s m args below meth c G b 5 (MQ below (zQ G b FQ) args s 0 0 (fun q : Nat => b ≤ q)) 0 0 5 [some (.ref (Q)), some (.ref (A)), some (.int x2_5), some (.int x3_5), some (.int x4_5)] [] (L, M, N) := L_5 zFu
  unfold D_X5_fewestPoints at h
  refine a_iconst (v := -1) X dX5_fewestPoints_0 (by decide) ?_
  refine a_istore_n X dX5_fewestPoints_1 (by decide) ?_
  refine a_iconst (v := 0) X dX5_fewestPoints_2 (by decide) ?_
  refine a_istore X dX5_fewestPoints_3 (by decide) ?_
  exact Zw.to2 (H_5 _ _ _ h) rfl rfl rfl
noncomputable def D_X5_scoreBehind_48 (Q : Nat) (A : Nat) (M : zMt) (y0_48 : Int32) : Option (Int32) :=
  some (y0_48)
noncomputable def D_X5_scoreBehind (Q : Nat) (A : Nat) (M : zMt) (v0 : Int32) (v1 : Int32) : Option (Int32) :=
  if (zrd 0 (M (A + 11)) 10 v0) = 0 then
    some (v1)
  else
    if (zrd 0 (M (Q + 2)) 10 v0) = (-1 : Int32) then
      some ((if (20 : Int32) < (v1 + (1 : Int32)) then (20 : Int32) else (v1 + (1 : Int32))))
    else
      zB (D_X5_hasFirst Q A M v0) fun e_37 =>
      if e_37 = 0 then
        D_X5_scoreBehind_48 Q A M v1
      else
        D_X5_scoreBehind_48 Q A M (0 : Int32)
set_option maxRecDepth 100000 in
set_option maxHeartbeats 4000000 in
theorem t_X5_scoreBehind {l : Launch} {G : zG} {b : Nat} {L : List zC} {M : zMt} {N : zNt} {Q : Nat} {A : Nat} {v0 : Int32} {v1 : Int32} (hQ : LX5 L Q) (hA : LX2 L A) {r : Int32} (h : D_X5_scoreBehind Q A M v0 v1 = some r) : zM l G b yX5_scoreBehind cX5_scoreBehind 4 (some .int) 3 0 0 [.ref Q, .ref A, .int v0, .int v1] (L, M, N) (fun r2 z => r2 = some (.int r) ∧ z = (L, M, N)) := by
  refine zM.of miX5_scoreBehind (Nat.le_of_ble_eq_true rfl) ?_
  intro p e s m args below meth c X hr hname
  generalize hF : ((fun r2 z => r2 = some (.int r) ∧ z = (L, M, N)) : Option Value → zS → Prop) = FQ
  change Zw p l e { frames := 3, cells := 0, slots := 0, locals := 36 * (3) } s m args below meth c G b 4 (MQ below (zQ G b FQ) args s 0 0 (fun q : Nat => b ≤ q)) 0 0 0 [some (.ref Q), some (.ref A), some (.int v0), some (.int v1)] [] (L, M, N)
  have q_lt := hQ.1
  have q_o := hQ.2.1
  have q_unitOf := hQ.2.2.2.1
  have a_lt := hA.1
  have a_o := hA.2.1
  have a_wishCount := hA.2.2.2.2.2.2.2.2.2.2.2.2.1
  have J_48 : ∀ (x2_48 : Int32) (x3_48 : Int32) (y0_48 : Int32), D_X5_scoreBehind_48 Q A M y0_48 = some r → Zw p l e { frames := 3, cells := 0, slots := 0, locals := 36 * (3) } s m args below meth c G b 4 (MQ below (zQ G b FQ) args s 0 0 (fun q : Nat => b ≤ q)) 0 0 48 [some (.ref (Q)), some (.ref (A)), some (.int x2_48), some (.int x3_48)] [.int y0_48] (L, M, N) := by
    intro x2_48 x3_48 y0_48 h
    unfold D_X5_scoreBehind_48 at h
    refine a_iret X hr dX5_scoreBehind_48 ⟨by decide, by decide⟩ ?_
    subst hF
    rw [← Option.some.inj h]
    exact ⟨rfl, rfl⟩
  unfold D_X5_scoreBehind at h
  refine a_aload_n X dX5_scoreBehind_0 rfl ?_
  refine a_getr X lf5_119 (by first | exact a_o | assumption) rfl (by omega) dX5_scoreBehind_1 ?_
  refine a_iload_n X dX5_scoreBehind_4 rfl ?_
  refine a_callSNv X dX5_scoreBehind_5 miX7_cell lm5_69 (c_cell (by first | exact a_wishCount | assumption) (by decide)) rfl rfl (Nat.le_of_ble_eq_true rfl) ⟨by decide, by decide, by decide, by decide⟩ ?_
  refine a_if_ne (tgt := 13) X dX5_scoreBehind_8 (by decide) (fun h_8 => ?_) (fun h_8 => ?_)
  · replace h := (if_neg h_8).symm.trans h
    refine a_aload_n X dX5_scoreBehind_13 rfl ?_
    refine a_getr X lf5_15 (by first | exact q_o | assumption) rfl (by omega) dX5_scoreBehind_14 ?_
    refine a_iload_n X dX5_scoreBehind_17 rfl ?_
    refine a_callSNv X dX5_scoreBehind_18 miX7_cell lm5_69 (c_cell (by first | exact q_unitOf | assumption) (by decide)) rfl rfl (Nat.le_of_ble_eq_true rfl) ⟨by decide, by decide, by decide, by decide⟩ ?_
    refine a_iconst (v := -1) X dX5_scoreBehind_21 (by decide) ?_
    refine a_icmp_ne (tgt := 34) X dX5_scoreBehind_22 (by decide) (fun h_22 => ?_) (fun h_22 => ?_)
    · replace h := (if_neg h_22).symm.trans h
      refine a_aload_n X dX5_scoreBehind_34 rfl ?_
      refine a_aload_n X dX5_scoreBehind_35 rfl ?_
      refine a_iload_n X dX5_scoreBehind_36 rfl ?_
      obtain ⟨e_37, f_37, h⟩ := zBx h
      refine a_callVx X dX5_scoreBehind_37 miX5_hasFirst lm5_133 (t_X5_hasFirst (by first | exact hQ | assumption) (by first | exact hA | assumption) f_37) (by first | exact q_o | assumption) rfl rfl rfl (Nat.le_of_ble_eq_true rfl) ⟨by decide, by decide, by decide, by decide⟩ (fun r_37 S_37 q_37 => ?_)
      obtain ⟨rfl, rfl, b_37⟩ := q_37
      refine a_if_eq (tgt := 47) X dX5_scoreBehind_40 (by decide) (fun h_40 => ?_) (fun h_40 => ?_)
      · replace h := (if_pos h_40).symm.trans h
        refine a_iload_n X dX5_scoreBehind_47 rfl ?_
        exact Zw.to2 (J_48 _ _ _ h) rfl rfl rfl
      · replace h := (if_neg h_40).symm.trans h
        refine a_iconst (v := 0) X dX5_scoreBehind_43 (by decide) ?_
        refine a_goto (tgt := 48) X dX5_scoreBehind_44 (by decide) ?_
        exact Zw.to2 (J_48 _ _ _ h) rfl rfl rfl
    · replace h := (if_pos h_22).symm.trans h
      refine a_iload_n X dX5_scoreBehind_25 rfl ?_
      refine a_iconst (v := 1) X dX5_scoreBehind_26 (by decide) ?_
      refine a_iadd X dX5_scoreBehind_27 ?_
      refine a_bipush (v := 20) X dX5_scoreBehind_28 (by decide) ?_
      refine a_mmin X lm5_128 zmath2 zmath0 zmathc2 ⟨by decide, Nat.le_of_ble_eq_true rfl, by decide, by decide⟩ dX5_scoreBehind_30 ?_
      refine a_iret X hr dX5_scoreBehind_33 ⟨by decide, by decide⟩ ?_
      subst hF
      rw [← Option.some.inj h]
      exact ⟨rfl, rfl⟩
  · replace h := (if_pos h_8).symm.trans h
    refine a_iload_n X dX5_scoreBehind_11 rfl ?_
    refine a_iret X hr dX5_scoreBehind_12 ⟨by decide, by decide⟩ ?_
    subst hF
    rw [← Option.some.inj h]
    exact ⟨rfl, rfl⟩
noncomputable def D_X7_status (P : Nat) (M : zMt)  : Option (Int32) :=
  some ((M P 0))
set_option maxRecDepth 100000 in
set_option maxHeartbeats 4000000 in
theorem t_X7_status {l : Launch} {G : zG} {b : Nat} {L : List zC} {M : zMt} {N : zNt} {P : Nat}  (hP : LX7 L P) {r : Int32} (h : D_X7_status P M = some r) : zM l G b yX7_status cX7_status 1 (some .int) 0 0 0 [.ref P] (L, M, N) (fun r2 z => r2 = some (.int r) ∧ z = (L, M, N)) := by
  refine zM.of miX7_status (Nat.le_of_ble_eq_true rfl) ?_
  intro p e s m args below meth c X hr hname
  generalize hF : ((fun r2 z => r2 = some (.int r) ∧ z = (L, M, N)) : Option Value → zS → Prop) = FQ
  change Zw p l e { frames := 0, cells := 0, slots := 0, locals := 36 * (0) } s m args below meth c G b 1 (MQ below (zQ G b FQ) args s 0 0 (fun q : Nat => b ≤ q)) 0 0 0 [some (.ref P)] [] (L, M, N)
  have p_lt := hP.1
  have p_o := hP.2.1
  unfold D_X7_status at h
  refine a_aload_n X dX7_status_0 rfl ?_
  refine a_geti X lf7_88 (by first | exact p_o | assumption) rfl dX7_status_1 ?_
  refine a_iret X hr dX7_status_4 ⟨by decide, by decide⟩ ?_
  subst hF
  rw [← Option.some.inj h]
  exact ⟨rfl, rfl⟩
noncomputable def D_X7_append_3 (P : Nat) : Nat → Int32 → Int32 → zMt → Option (zMt)
  | 0, _, _, _ => none
  | n + 1, x1_3, x2_3, M_3 =>
    if x2_3 < 0 then
      some (M_3)
    else
      zLt (zwr M_3 (P + 1) 700 (M_3 P 1) (((Int32.toUInt32 x1_3 >>> (Int32.toUInt32 x2_3 &&& Int32.toUInt32 31)).toInt32) &&& (255 : Int32))) fun M_22 =>
      zLt (zu M_22 P 1 ((M_22 P 1) + (1 : Int32))) fun M_32 =>
      (D_X7_append_3 P n) x1_3 (x2_3 + (-8)) M_32
noncomputable def D_X7_append (P : Nat) (v0 : Int32) (M : zMt) : Option (zMt) :=
  D_X7_append_3 P zFu v0 (24 : Int32) M
set_option maxRecDepth 100000 in
set_option maxHeartbeats 4000000 in
theorem t_X7_append {l : Launch} {G : zG} {b : Nat} {L : List zC} {M : zMt} {N : zNt} {P : Nat} {v0 : Int32} (hP : LX7 L P) {r : zMt} (h : D_X7_append P v0 M = some r) : zM l G b yX7_append cX7_append 3 none 1 0 0 [.ref P, .int v0] (L, M, N) (fun r2 z => r2 = none ∧ z = (L, r, N)) := by
  refine zM.of miX7_append (Nat.le_of_ble_eq_true rfl) ?_
  intro p e s m args below meth c X hr hname
  generalize hF : ((fun r2 z => r2 = none ∧ z = (L, r, N)) : Option Value → zS → Prop) = FQ
  change Zw p l e { frames := 1, cells := 0, slots := 0, locals := 36 * (1) } s m args below meth c G b 3 (MQ below (zQ G b FQ) args s 0 0 (fun q : Nat => b ≤ q)) 0 0 0 [some (.ref P), some (.int v0), none] [] (L, M, N)
  have p_lt := hP.1
  have p_o := hP.2.1
  have p_tape := hP.2.2.1
  have L_3 : ∀ u : Nat, ∀ (x1_3 : Int32) (x2_3 : Int32) (M_3 : zMt), D_X7_append_3 P u x1_3 x2_3 M_3 = some r → Zw p l e { frames := 1, cells := 0, slots := 0, locals := 36 * (1) } s m args below meth c G b 3 (MQ below (zQ G b FQ) args s 0 0 (fun q : Nat => b ≤ q)) 0 0 3 [some (.ref (P)), some (.int x1_3), some (.int x2_3)] [] (L, M_3, N) := by
    intro u
    induction u with
    | zero => intro x1_3 x2_3 M_3 h; cases (show none = some r from h)
    | succ u_3 ih_3 =>
      intro x1_3 x2_3 M_3 h
      rw [D_X7_append_3] at h
      refine a_iload_n X dX7_append_3 rfl ?_
      refine a_if_lt (tgt := 41) X dX7_append_4 (by decide) (fun h_4 => ?_) (fun h_4 => ?_)
      · replace h := (if_pos h_4).symm.trans h
        refine a_vret X hr dX7_append_41 ⟨by decide, by decide⟩ ?_
        subst hF
        rw [← Option.some.inj h]
        exact ⟨rfl, rfl⟩
      · replace h := (if_neg h_4).symm.trans h
        refine a_aload_n X dX7_append_7 rfl ?_
        refine a_getr X lf7_9 (by first | exact p_o | assumption) rfl (by omega) dX7_append_8 ?_
        refine a_aload_n X dX7_append_11 rfl ?_
        refine a_geti X lf7_91 (by first | exact p_o | assumption) rfl dX7_append_12 ?_
        refine a_iload_n X dX7_append_15 rfl ?_
        refine a_iload_n X dX7_append_16 rfl ?_
        refine a_iushr X dX7_append_17 ?_
        refine a_sipush (v := 255) X dX7_append_18 (by decide) ?_
        refine a_iand X dX7_append_21 ?_
        obtain ⟨M_22, f_22, h⟩ := zLtx h
        refine a_callSu X dX7_append_22 miX7_put lm7_98 (zMu (c_put (by first | exact p_tape | assumption) (by decide)) f_22) rfl rfl (Nat.le_of_ble_eq_true rfl) ⟨by decide, by decide, by decide, by decide⟩ ?_
        refine a_aload_n X dX7_append_25 rfl ?_
        refine a_dup X dX7_append_26 rfl ?_
        refine a_geti X lf7_91 (by first | exact p_o | assumption) rfl dX7_append_27 ?_
        refine a_iconst (v := 1) X dX7_append_30 (by decide) ?_
        refine a_iadd X dX7_append_31 ?_
        obtain ⟨M_32, f_32, h⟩ := zLtx h
        refine d_puti X lf7_91 (by first | exact p_o | assumption) rfl dX7_append_32 f_32 ?_
        refine a_iinc (v := x2_3 + (-8)) X dX7_append_35 (by decide) rfl (by rw [show Int32.ofInt (-8) = (-8 : Int32) by decide]) ?_
        refine a_goto (tgt := 3) X dX7_append_38 (by decide) ?_
        exact Zw.to2 (ih_3 _ _ _ h) rfl rfl rfl
  have H_3 : ∀ (x1_3 : Int32) (x2_3 : Int32) (M_3 : zMt), D_X7_append_3 P zFu x1_3 x2_3 M_3 = some r → Zw p l e { frames := 1, cells := 0, slots := 0, locals := 36 * (1) } s m args below meth c G b 3 (MQ below (zQ G b FQ) args s 0 0 (fun q : Nat => b ≤ q)) 0 0 3 [some (.ref (P)), some (.int x1_3), some (.int x2_3)] [] (L, M_3, N) := L_3 zFu
  unfold D_X7_append at h
  refine a_bipush (v := 24) X dX7_append_0 (by decide) ?_
  refine a_istore_n X dX7_append_2 (by decide) ?_
  exact Zw.to2 (H_3 _ _ _ h) rfl rfl rfl
noncomputable def D_X7_feed (P : Nat) (v0 : Int32) (v1 : Int32) (v2 : Int32) (v3 : Int32) (v4 : Int32) (M : zMt) : Option (Int32 × zMt) :=
  if ((M P 1) + (20 : Int32)) ≤ (700 : Int32) then
    zB (D_X7_append P v0 M) fun e_17 =>
    zB (D_X7_append P v1 e_17) fun e_22 =>
    zB (D_X7_append P v2 e_22) fun e_27 =>
    zB (D_X7_append P v3 e_27) fun e_33 =>
    zB (D_X7_append P v4 e_33) fun e_39 =>
    some ((e_39 P 1), e_39)
  else
    some ((-1 : Int32), M)
set_option maxRecDepth 100000 in
set_option maxHeartbeats 4000000 in
theorem t_X7_feed {l : Launch} {G : zG} {b : Nat} {L : List zC} {M : zMt} {N : zNt} {P : Nat} {v0 : Int32} {v1 : Int32} {v2 : Int32} {v3 : Int32} {v4 : Int32} (hP : LX7 L P) {r : Int32 × zMt} (h : D_X7_feed P v0 v1 v2 v3 v4 M = some r) : zM l G b yX7_feed cX7_feed 6 (some .int) 2 0 0 [.ref P, .int v0, .int v1, .int v2, .int v3, .int v4] (L, M, N) (fun r2 z => r2 = some (.int r.1) ∧ z = (L, r.2, N)) := by
  refine zM.of miX7_feed (Nat.le_of_ble_eq_true rfl) ?_
  intro p e s m args below meth c X hr hname
  generalize hF : ((fun r2 z => r2 = some (.int r.1) ∧ z = (L, r.2, N)) : Option Value → zS → Prop) = FQ
  change Zw p l e { frames := 2, cells := 0, slots := 0, locals := 36 * (2) } s m args below meth c G b 6 (MQ below (zQ G b FQ) args s 0 0 (fun q : Nat => b ≤ q)) 0 0 0 [some (.ref P), some (.int v0), some (.int v1), some (.int v2), some (.int v3), some (.int v4)] [] (L, M, N)
  have p_lt := hP.1
  have p_o := hP.2.1
  unfold D_X7_feed at h
  refine a_aload_n X dX7_feed_0 rfl ?_
  refine a_geti X lf7_91 (by first | exact p_o | assumption) rfl dX7_feed_1 ?_
  refine a_bipush (v := 20) X dX7_feed_4 (by decide) ?_
  refine a_iadd X dX7_feed_6 ?_
  refine a_sipush (v := 700) X dX7_feed_7 (by decide) ?_
  refine a_icmp_le (tgt := 15) X dX7_feed_10 (by decide) (fun h_10 => ?_) (fun h_10 => ?_)
  · replace h := (if_pos h_10).symm.trans h
    refine a_aload_n X dX7_feed_15 rfl ?_
    refine a_iload_n X dX7_feed_16 rfl ?_
    obtain ⟨e_17, f_17, h⟩ := zBx h
    refine a_callVu X dX7_feed_17 miX7_append lm7_94 (t_X7_append (by first | exact hP | assumption) f_17) (by first | exact p_o | assumption) rfl rfl rfl (Nat.le_of_ble_eq_true rfl) ⟨by decide, by decide, by decide, by decide⟩ ?_
    refine a_aload_n X dX7_feed_20 rfl ?_
    refine a_iload_n X dX7_feed_21 rfl ?_
    obtain ⟨e_22, f_22, h⟩ := zBx h
    refine a_callVu X dX7_feed_22 miX7_append lm7_94 (t_X7_append (by first | exact hP | assumption) f_22) (by first | exact p_o | assumption) rfl rfl rfl (Nat.le_of_ble_eq_true rfl) ⟨by decide, by decide, by decide, by decide⟩ ?_
    refine a_aload_n X dX7_feed_25 rfl ?_
    refine a_iload_n X dX7_feed_26 rfl ?_
    obtain ⟨e_27, f_27, h⟩ := zBx h
    refine a_callVu X dX7_feed_27 miX7_append lm7_94 (t_X7_append (by first | exact hP | assumption) f_27) (by first | exact p_o | assumption) rfl rfl rfl (Nat.le_of_ble_eq_true rfl) ⟨by decide, by decide, by decide, by decide⟩ ?_
    refine a_aload_n X dX7_feed_30 rfl ?_
    refine a_iload X dX7_feed_31 rfl ?_
    obtain ⟨e_33, f_33, h⟩ := zBx h
    refine a_callVu X dX7_feed_33 miX7_append lm7_94 (t_X7_append (by first | exact hP | assumption) f_33) (by first | exact p_o | assumption) rfl rfl rfl (Nat.le_of_ble_eq_true rfl) ⟨by decide, by decide, by decide, by decide⟩ ?_
    refine a_aload_n X dX7_feed_36 rfl ?_
    refine a_iload X dX7_feed_37 rfl ?_
    obtain ⟨e_39, f_39, h⟩ := zBx h
    refine a_callVu X dX7_feed_39 miX7_append lm7_94 (t_X7_append (by first | exact hP | assumption) f_39) (by first | exact p_o | assumption) rfl rfl rfl (Nat.le_of_ble_eq_true rfl) ⟨by decide, by decide, by decide, by decide⟩ ?_
    refine a_aload_n X dX7_feed_42 rfl ?_
    refine a_geti X lf7_91 (by first | exact p_o | assumption) rfl dX7_feed_43 ?_
    refine a_iret X hr dX7_feed_46 ⟨by decide, by decide⟩ ?_
    subst hF
    rw [← Option.some.inj h]
    exact ⟨rfl, rfl⟩
  · replace h := (if_neg h_10).symm.trans h
    refine a_iconst (v := -1) X dX7_feed_13 (by decide) ?_
    refine a_iret X hr dX7_feed_14 ⟨by decide, by decide⟩ ?_
    subst hF
    rw [← Option.some.inj h]
    exact ⟨rfl, rfl⟩
noncomputable def D_X7_refuse (P : Nat) (v0 : Int32) (M : zMt) : Option (Int32 × zMt) :=
  zLt (zu M P 0 v0) fun M_2 =>
  some ((-1 : Int32), M_2)
set_option maxRecDepth 100000 in
set_option maxHeartbeats 4000000 in
theorem t_X7_refuse {l : Launch} {G : zG} {b : Nat} {L : List zC} {M : zMt} {N : zNt} {P : Nat} {v0 : Int32} (hP : LX7 L P) {r : Int32 × zMt} (h : D_X7_refuse P v0 M = some r) : zM l G b yX7_refuse cX7_refuse 2 (some .int) 0 0 0 [.ref P, .int v0] (L, M, N) (fun r2 z => r2 = some (.int r.1) ∧ z = (L, r.2, N)) := by
  refine zM.of miX7_refuse (Nat.le_of_ble_eq_true rfl) ?_
  intro p e s m args below meth c X hr hname
  generalize hF : ((fun r2 z => r2 = some (.int r.1) ∧ z = (L, r.2, N)) : Option Value → zS → Prop) = FQ
  change Zw p l e { frames := 0, cells := 0, slots := 0, locals := 36 * (0) } s m args below meth c G b 2 (MQ below (zQ G b FQ) args s 0 0 (fun q : Nat => b ≤ q)) 0 0 0 [some (.ref P), some (.int v0)] [] (L, M, N)
  have p_lt := hP.1
  have p_o := hP.2.1
  unfold D_X7_refuse at h
  refine a_aload_n X dX7_refuse_0 rfl ?_
  refine a_iload_n X dX7_refuse_1 rfl ?_
  obtain ⟨M_2, f_2, h⟩ := zLtx h
  refine d_puti X lf7_88 (by first | exact p_o | assumption) rfl dX7_refuse_2 f_2 ?_
  refine a_iconst (v := -1) X dX7_refuse_5 (by decide) ?_
  refine a_iret X hr dX7_refuse_6 ⟨by decide, by decide⟩ ?_
  subst hF
  rw [← Option.some.inj h]
  exact ⟨rfl, rfl⟩
noncomputable def D_X7_answer (P : Nat) (v0 : Int32) (M : zMt) : Option (Int32 × zMt) :=
  zLt (zu M P 0 (0 : Int32)) fun M_2 =>
  some (v0, M_2)
set_option maxRecDepth 100000 in
set_option maxHeartbeats 4000000 in
theorem t_X7_answer {l : Launch} {G : zG} {b : Nat} {L : List zC} {M : zMt} {N : zNt} {P : Nat} {v0 : Int32} (hP : LX7 L P) {r : Int32 × zMt} (h : D_X7_answer P v0 M = some r) : zM l G b yX7_answer cX7_answer 2 (some .int) 0 0 0 [.ref P, .int v0] (L, M, N) (fun r2 z => r2 = some (.int r.1) ∧ z = (L, r.2, N)) := by
  refine zM.of miX7_answer (Nat.le_of_ble_eq_true rfl) ?_
  intro p e s m args below meth c X hr hname
  generalize hF : ((fun r2 z => r2 = some (.int r.1) ∧ z = (L, r.2, N)) : Option Value → zS → Prop) = FQ
  change Zw p l e { frames := 0, cells := 0, slots := 0, locals := 36 * (0) } s m args below meth c G b 2 (MQ below (zQ G b FQ) args s 0 0 (fun q : Nat => b ≤ q)) 0 0 0 [some (.ref P), some (.int v0)] [] (L, M, N)
  have p_lt := hP.1
  have p_o := hP.2.1
  unfold D_X7_answer at h
  refine a_aload_n X dX7_answer_0 rfl ?_
  refine a_iconst (v := 0) X dX7_answer_1 (by decide) ?_
  obtain ⟨M_2, f_2, h⟩ := zLtx h
  refine d_puti X lf7_88 (by first | exact p_o | assumption) rfl dX7_answer_2 f_2 ?_
  refine a_iload_n X dX7_answer_5 rfl ?_
  refine a_iret X hr dX7_answer_6 ⟨by decide, by decide⟩ ?_
  subst hF
  rw [← Option.some.inj h]
  exact ⟨rfl, rfl⟩
noncomputable def D_X7_changed (P : Nat) (v0 : Int32) (M : zMt) : Option (Int32 × zMt) :=
  zB (D_X2_gather (P + 91) (P + 17) M) fun e_8 =>
  zLt (zu e_8 P 3 (0 : Int32)) fun M_13 =>
  zB (D_X7_answer P v0 M_13) fun e_18 =>
  some (e_18.1, e_18.2)
set_option maxRecDepth 100000 in
set_option maxHeartbeats 4000000 in
theorem t_X7_changed {l : Launch} {G : zG} {b : Nat} {L : List zC} {M : zMt} {N : zNt} {P : Nat} {v0 : Int32} (hP : LX7 L P) {r : Int32 × zMt} (h : D_X7_changed P v0 M = some r) : zM l G b yX7_changed cX7_changed 2 (some .int) 3 0 0 [.ref P, .int v0] (L, M, N) (fun r2 z => r2 = some (.int r.1) ∧ z = (L, r.2, N)) := by
  refine zM.of miX7_changed (Nat.le_of_ble_eq_true rfl) ?_
  intro p e s m args below meth c X hr hname
  generalize hF : ((fun r2 z => r2 = some (.int r.1) ∧ z = (L, r.2, N)) : Option Value → zS → Prop) = FQ
  change Zw p l e { frames := 3, cells := 0, slots := 0, locals := 36 * (3) } s m args below meth c G b 2 (MQ below (zQ G b FQ) args s 0 0 (fun q : Nat => b ≤ q)) 0 0 0 [some (.ref P), some (.int v0)] [] (L, M, N)
  have p_lt := hP.1
  have p_o := hP.2.1
  have p_list := hP.2.2.2.2.2.1
  have p_list_lt := p_list.1
  have p_list_o := p_list.2.1
  have p_pool := hP.2.2.2.2.2.2.2.1
  have p_pool_lt := p_pool.1
  have p_pool_o := p_pool.2.1
  unfold D_X7_changed at h
  refine a_aload_n X dX7_changed_0 rfl ?_
  refine a_getr X lf7_40 (by first | exact p_o | assumption) rfl (by omega) dX7_changed_1 ?_
  refine a_aload_n X dX7_changed_4 rfl ?_
  refine a_getr X lf7_26 (by first | exact p_o | assumption) rfl (by omega) dX7_changed_5 ?_
  obtain ⟨e_8, f_8, h⟩ := zBx h
  refine a_callVu X dX7_changed_8 miX2_gather lm7_80 (t_X2_gather (by first | exact p_pool | assumption) (by first | exact p_list | assumption) f_8) (by first | exact p_pool_o | assumption) rfl rfl rfl (Nat.le_of_ble_eq_true rfl) ⟨by decide, by decide, by decide, by decide⟩ ?_
  refine a_aload_n X dX7_changed_11 rfl ?_
  refine a_iconst (v := 0) X dX7_changed_12 (by decide) ?_
  obtain ⟨M_13, f_13, h⟩ := zLtx h
  refine d_putz X (by first | exact Or.inl rfl | exact Or.inr rfl | assumption) lf7_368 (by first | exact p_o | assumption) rfl dX7_changed_13 f_13 ?_
  refine a_aload_n X dX7_changed_16 rfl ?_
  refine a_iload_n X dX7_changed_17 rfl ?_
  obtain ⟨e_18, f_18, h⟩ := zBx h
  refine a_callVv X dX7_changed_18 miX7_answer lm7_134 (t_X7_answer (by first | exact hP | assumption) f_18) (by first | exact p_o | assumption) rfl rfl rfl (Nat.le_of_ble_eq_true rfl) ⟨by decide, by decide, by decide, by decide⟩ ?_
  refine a_iret X hr dX7_changed_21 ⟨by decide, by decide⟩ ?_
  subst hF
  rw [← Option.some.inj h]
  exact ⟨rfl, rfl⟩
noncomputable def D_X7_load_12 (P : Nat) (M_12 : zMt) (N_12 : zNt) : Option (Int32 × zMt × zNt) :=
  zB (D_X7_refuse P (1 : Int32) M_12) fun e_14 =>
  some (e_14.1, e_14.2, N_12)
noncomputable def D_X7_load (P : Nat) (v0 : Int32) (M : zMt) (N : zNt) : Option (Int32 × zMt × zNt) :=
  if v0 < 0 then
    D_X7_load_12 P M N
  else
    if v0 ≤ (M P 1) then
      zB (D_X3_read (P + 3) (P + 1) 700 v0 M N) fun e_27 =>
      zLt (zu e_27.2.1 P 1 (0 : Int32)) fun M_33 =>
      if e_27.1 = 0 then
        zB (D_X7_refuse P (9 : Int32) M_33) fun e_43 =>
        some (e_43.1, e_43.2, e_27.2.2)
      else
        zB (D_X4_take (P + 17) (P + 4) M_33) fun e_58 =>
        zB (D_X1_forget (P + 25) e_58) fun e_65 =>
        zB (D_X7_changed P (e_65 (P + 17) 1) e_65) fun e_76 =>
        some (e_76.1, e_76.2, e_27.2.2)
    else
      D_X7_load_12 P M N
set_option maxRecDepth 100000 in
set_option maxHeartbeats 4000000 in
theorem t_X7_load {l : Launch} {G : zG} {b : Nat} {L : List zC} {M : zMt} {N : zNt} {P : Nat} {v0 : Int32} (hP : LX7 L P) {r : Int32 × zMt × zNt} (h : D_X7_load P v0 M N = some r) : zM l G b yX7_load cX7_load 3 (some .int) 10 0 0 [.ref P, .int v0] (L, M, N) (fun r2 z => r2 = some (.int r.1) ∧ z = (L, r.2.1, r.2.2)) := by
  refine zM.of miX7_load (Nat.le_of_ble_eq_true rfl) ?_
  intro p e s m args below meth c X hr hname
  generalize hF : ((fun r2 z => r2 = some (.int r.1) ∧ z = (L, r.2.1, r.2.2)) : Option Value → zS → Prop) = FQ
  change Zw p l e { frames := 10, cells := 0, slots := 0, locals := 36 * (10) } s m args below meth c G b 3 (MQ below (zQ G b FQ) args s 0 0 (fun q : Nat => b ≤ q)) 0 0 0 [some (.ref P), some (.int v0), none] [] (L, M, N)
  have p_lt := hP.1
  have p_o := hP.2.1
  have p_tape := hP.2.2.1
  have p_reader := hP.2.2.2.2.1
  have p_reader_lt := p_reader.1
  have p_reader_o := p_reader.2.1
  have p_reader_draft := p_reader.2.2.1
  have p_list := hP.2.2.2.2.2.1
  have p_list_lt := p_list.1
  have p_list_o := p_list.2.1
  have p_past := hP.2.2.2.2.2.2.1
  have p_past_lt := p_past.1
  have p_past_o := p_past.2.1
  have J_12 : ∀ (x1_12 : Int32) (x2_12 : Option Value) (M_12 : zMt) (N_12 : zNt), D_X7_load_12 P M_12 N_12 = some r → Zw p l e { frames := 10, cells := 0, slots := 0, locals := 36 * (10) } s m args below meth c G b 3 (MQ below (zQ G b FQ) args s 0 0 (fun q : Nat => b ≤ q)) 0 0 12 [some (.ref (P)), some (.int x1_12), x2_12] [] (L, M_12, N_12) := by
    intro x1_12 x2_12 M_12 N_12 h
    unfold D_X7_load_12 at h
    refine a_aload_n X dX7_load_12 rfl ?_
    refine a_iconst (v := 1) X dX7_load_13 (by decide) ?_
    obtain ⟨e_14, f_14, h⟩ := zBx h
    refine a_callVv X dX7_load_14 miX7_refuse lm7_102 (t_X7_refuse (by first | exact hP | assumption) f_14) (by first | exact p_o | assumption) rfl rfl rfl (Nat.le_of_ble_eq_true rfl) ⟨by decide, by decide, by decide, by decide⟩ ?_
    refine a_iret X hr dX7_load_17 ⟨by decide, by decide⟩ ?_
    subst hF
    rw [← Option.some.inj h]
    exact ⟨rfl, rfl⟩
  unfold D_X7_load at h
  refine a_iload_n X dX7_load_0 rfl ?_
  refine a_if_lt (tgt := 12) X dX7_load_1 (by decide) (fun h_1 => ?_) (fun h_1 => ?_)
  · replace h := (if_pos h_1).symm.trans h
    exact Zw.to2 (J_12 _ _ _ _ h) rfl rfl rfl
  · replace h := (if_neg h_1).symm.trans h
    refine a_iload_n X dX7_load_4 rfl ?_
    refine a_aload_n X dX7_load_5 rfl ?_
    refine a_geti X lf7_91 (by first | exact p_o | assumption) rfl dX7_load_6 ?_
    refine a_icmp_le (tgt := 18) X dX7_load_9 (by decide) (fun h_9 => ?_) (fun h_9 => ?_)
    · replace h := (if_pos h_9).symm.trans h
      refine a_aload_n X dX7_load_18 rfl ?_
      refine a_getr X lf7_19 (by first | exact p_o | assumption) rfl (by omega) dX7_load_19 ?_
      refine a_aload_n X dX7_load_22 rfl ?_
      refine a_getr X lf7_9 (by first | exact p_o | assumption) rfl (by omega) dX7_load_23 ?_
      refine a_iload_n X dX7_load_26 rfl ?_
      obtain ⟨e_27, f_27, h⟩ := zBx h
      refine a_callVx X dX7_load_27 miX3_read lm7_106 (t_X3_read (by first | exact p_reader | assumption) (by first | exact p_tape | assumption) (by decide) (by omega) f_27) (by first | exact p_reader_o | assumption) rfl rfl rfl (Nat.le_of_ble_eq_true rfl) ⟨by decide, by decide, by decide, by decide⟩ (fun r_27 S_27 q_27 => ?_)
      obtain ⟨rfl, rfl, b_27⟩ := q_27
      refine a_istore_n X dX7_load_30 (by decide) ?_
      refine a_aload_n X dX7_load_31 rfl ?_
      refine a_iconst (v := 0) X dX7_load_32 (by decide) ?_
      obtain ⟨M_33, f_33, h⟩ := zLtx h
      refine d_puti X lf7_91 (by first | exact p_o | assumption) rfl dX7_load_33 f_33 ?_
      refine a_iload_n X dX7_load_36 rfl ?_
      refine a_if_ne (tgt := 47) X dX7_load_37 (by decide) (fun h_37 => ?_) (fun h_37 => ?_)
      · replace h := (if_neg h_37).symm.trans h
        refine a_aload_n X dX7_load_47 rfl ?_
        refine a_getr X lf7_26 (by first | exact p_o | assumption) rfl (by omega) dX7_load_48 ?_
        refine a_aload_n X dX7_load_51 rfl ?_
        refine a_getr X lf7_19 (by first | exact p_o | assumption) rfl (by omega) dX7_load_52 ?_
        refine a_getr X lf7_110 (by first | exact p_reader_o | assumption) rfl (by omega) dX7_load_55 ?_
        obtain ⟨e_58, f_58, h⟩ := zBx h
        refine a_callVu X dX7_load_58 miX4_take lm7_113 (t_X4_take (by first | exact p_list | assumption) (by first | exact p_reader_draft | assumption) (by omega) f_58) (by first | exact p_list_o | assumption) rfl rfl rfl (Nat.le_of_ble_eq_true rfl) ⟨by decide, by decide, by decide, by decide⟩ ?_
        refine a_aload_n X dX7_load_61 rfl ?_
        refine a_getr X lf7_33 (by first | exact p_o | assumption) rfl (by omega) dX7_load_62 ?_
        obtain ⟨e_65, f_65, h⟩ := zBx h
        refine a_callVu X dX7_load_65 miX1_forget lm7_116 (t_X1_forget (by first | exact p_past | assumption) f_65) (by first | exact p_past_o | assumption) rfl rfl rfl (Nat.le_of_ble_eq_true rfl) ⟨by decide, by decide, by decide, by decide⟩ ?_
        refine a_aload_n X dX7_load_68 rfl ?_
        refine a_aload_n X dX7_load_69 rfl ?_
        refine a_getr X lf7_26 (by first | exact p_o | assumption) rfl (by omega) dX7_load_70 ?_
        refine a_geti X lf7_119 (by first | exact p_list_o | assumption) rfl dX7_load_73 ?_
        obtain ⟨e_76, f_76, h⟩ := zBx h
        refine a_callVv X dX7_load_76 miX7_changed lm7_122 (t_X7_changed (by first | exact hP | assumption) f_76) (by first | exact p_o | assumption) rfl rfl rfl (Nat.le_of_ble_eq_true rfl) ⟨by decide, by decide, by decide, by decide⟩ ?_
        refine a_iret X hr dX7_load_79 ⟨by decide, by decide⟩ ?_
        subst hF
        rw [← Option.some.inj h]
        exact ⟨rfl, rfl⟩
      · replace h := (if_pos h_37).symm.trans h
        refine a_aload_n X dX7_load_40 rfl ?_
        refine a_bipush (v := 9) X dX7_load_41 (by decide) ?_
        obtain ⟨e_43, f_43, h⟩ := zBx h
        refine a_callVv X dX7_load_43 miX7_refuse lm7_102 (t_X7_refuse (by first | exact hP | assumption) f_43) (by first | exact p_o | assumption) rfl rfl rfl (Nat.le_of_ble_eq_true rfl) ⟨by decide, by decide, by decide, by decide⟩ ?_
        refine a_iret X hr dX7_load_46 ⟨by decide, by decide⟩ ?_
        subst hF
        rw [← Option.some.inj h]
        exact ⟨rfl, rfl⟩
    · replace h := (if_neg h_9).symm.trans h
      exact Zw.to2 (J_12 _ _ _ _ h) rfl rfl rfl
noncomputable def D_X7_many (P : Nat) (v0 : Int32) (M : zMt) : Option (Int32 × zMt) :=
  if Int32.toInt v0 = 0 then
    zB (D_X7_answer P (M (P + 17) 0) M) fun e_68 =>
    some (e_68.1, e_68.2)
  else
  if Int32.toInt v0 = 1 then
    zB (D_X7_answer P (M (P + 17) 1) M) fun e_80 =>
    some (e_80.1, e_80.2)
  else
  if Int32.toInt v0 = 2 then
    zB (D_X7_answer P (M (P + 17) 2) M) fun e_92 =>
    some (e_92.1, e_92.2)
  else
  if Int32.toInt v0 = 3 then
    zB (D_X7_answer P (M (P + 91) 1) M) fun e_104 =>
    some (e_104.1, e_104.2)
  else
  if Int32.toInt v0 = 4 then
    zB (D_X7_answer P (M (P + 17) 3) M) fun e_116 =>
    some (e_116.1, e_116.2)
  else
  if Int32.toInt v0 = 5 then
    zB (D_X7_answer P (M (P + 17) 4) M) fun e_128 =>
    some (e_128.1, e_128.2)
  else
  if Int32.toInt v0 = 6 then
    zB (D_X7_answer P (M (P + 17) 5) M) fun e_140 =>
    some (e_140.1, e_140.2)
  else
  if Int32.toInt v0 = 7 then
    zB (D_X7_answer P (M (P + 17) 6) M) fun e_152 =>
    some (e_152.1, e_152.2)
  else
  if Int32.toInt v0 = 8 then
    zB (D_X7_answer P (M (P + 25) 0) M) fun e_164 =>
    some (e_164.1, e_164.2)
  else
  if Int32.toInt v0 = 9 then
    zB (D_X7_answer P (zsum (M (P + 18)) 5) M) fun e_179 =>
    some (e_179.1, e_179.2)
  else
  if Int32.toInt v0 = 10 then
    zB (D_X7_answer P (zsum (M (P + 20)) 10) M) fun e_194 =>
    some (e_194.1, e_194.2)
  else
    zB (D_X7_refuse P (1 : Int32) M) fun e_200 =>
    some (e_200.1, e_200.2)
set_option maxRecDepth 100000 in
set_option maxHeartbeats 4000000 in
theorem t_X7_many {l : Launch} {G : zG} {b : Nat} {L : List zC} {M : zMt} {N : zNt} {P : Nat} {v0 : Int32} (hP : LX7 L P) {r : Int32 × zMt} (h : D_X7_many P v0 M = some r) : zM l G b yX7_many cX7_many 2 (some .int) 1 0 0 [.ref P, .int v0] (L, M, N) (fun r2 z => r2 = some (.int r.1) ∧ z = (L, r.2, N)) := by
  refine zM.of miX7_many (Nat.le_of_ble_eq_true rfl) ?_
  intro p e s m args below meth c X hr hname
  generalize hF : ((fun r2 z => r2 = some (.int r.1) ∧ z = (L, r.2, N)) : Option Value → zS → Prop) = FQ
  change Zw p l e { frames := 1, cells := 0, slots := 0, locals := 36 * (1) } s m args below meth c G b 2 (MQ below (zQ G b FQ) args s 0 0 (fun q : Nat => b ≤ q)) 0 0 0 [some (.ref P), some (.int v0)] [] (L, M, N)
  have p_lt := hP.1
  have p_o := hP.2.1
  have p_list := hP.2.2.2.2.2.1
  have p_list_lt := p_list.1
  have p_list_o := p_list.2.1
  have p_list_quota := p_list.2.2.1
  have p_list_guest := p_list.2.2.2.2.1
  have p_past := hP.2.2.2.2.2.2.1
  have p_past_lt := p_past.1
  have p_past_o := p_past.2.1
  have p_pool := hP.2.2.2.2.2.2.2.1
  have p_pool_lt := p_pool.1
  have p_pool_o := p_pool.2.1
  unfold D_X7_many at h
  refine a_iload_n X dX7_many_0 rfl ?_
  refine a_tsw (tg := [60, 72, 84, 96, 108, 120, 132, 144, 156, 168, 183]) (td := 198) X dX7_many_1 (by decide +kernel) (by decide) (by decide) (fun k_1 t_1 ht_1 hx_1 => ?_) (fun hx_1 => ?_)
  · match k_1, ht_1, hx_1 with
    | 0, ht_1, hx_1 =>
      cases ht_1
      replace h := (if_pos (by omega)).symm.trans h
      refine a_aload_n X dX7_many_60 rfl ?_
      refine a_aload_n X dX7_many_61 rfl ?_
      refine a_getr X lf7_26 (by first | exact p_o | assumption) rfl (by omega) dX7_many_62 ?_
      refine a_geti X lf7_131 (by first | exact p_list_o | assumption) rfl dX7_many_65 ?_
      obtain ⟨e_68, f_68, h⟩ := zBx h
      refine a_callVv X dX7_many_68 miX7_answer lm7_134 (t_X7_answer (by first | exact hP | assumption) f_68) (by first | exact p_o | assumption) rfl rfl rfl (Nat.le_of_ble_eq_true rfl) ⟨by decide, by decide, by decide, by decide⟩ ?_
      refine a_iret X hr dX7_many_71 ⟨by decide, by decide⟩ ?_
      subst hF
      rw [← Option.some.inj h]
      exact ⟨rfl, rfl⟩
    | 1, ht_1, hx_1 =>
      cases ht_1
      replace h := (if_neg (by omega)).symm.trans h
      replace h := (if_pos (by omega)).symm.trans h
      refine a_aload_n X dX7_many_72 rfl ?_
      refine a_aload_n X dX7_many_73 rfl ?_
      refine a_getr X lf7_26 (by first | exact p_o | assumption) rfl (by omega) dX7_many_74 ?_
      refine a_geti X lf7_119 (by first | exact p_list_o | assumption) rfl dX7_many_77 ?_
      obtain ⟨e_80, f_80, h⟩ := zBx h
      refine a_callVv X dX7_many_80 miX7_answer lm7_134 (t_X7_answer (by first | exact hP | assumption) f_80) (by first | exact p_o | assumption) rfl rfl rfl (Nat.le_of_ble_eq_true rfl) ⟨by decide, by decide, by decide, by decide⟩ ?_
      refine a_iret X hr dX7_many_83 ⟨by decide, by decide⟩ ?_
      subst hF
      rw [← Option.some.inj h]
      exact ⟨rfl, rfl⟩
    | 2, ht_1, hx_1 =>
      cases ht_1
      replace h := (if_neg (by omega)).symm.trans h
      replace h := (if_neg (by omega)).symm.trans h
      replace h := (if_pos (by omega)).symm.trans h
      refine a_aload_n X dX7_many_84 rfl ?_
      refine a_aload_n X dX7_many_85 rfl ?_
      refine a_getr X lf7_26 (by first | exact p_o | assumption) rfl (by omega) dX7_many_86 ?_
      refine a_geti X lf7_137 (by first | exact p_list_o | assumption) rfl dX7_many_89 ?_
      obtain ⟨e_92, f_92, h⟩ := zBx h
      refine a_callVv X dX7_many_92 miX7_answer lm7_134 (t_X7_answer (by first | exact hP | assumption) f_92) (by first | exact p_o | assumption) rfl rfl rfl (Nat.le_of_ble_eq_true rfl) ⟨by decide, by decide, by decide, by decide⟩ ?_
      refine a_iret X hr dX7_many_95 ⟨by decide, by decide⟩ ?_
      subst hF
      rw [← Option.some.inj h]
      exact ⟨rfl, rfl⟩
    | 3, ht_1, hx_1 =>
      cases ht_1
      replace h := (if_neg (by omega)).symm.trans h
      replace h := (if_neg (by omega)).symm.trans h
      replace h := (if_neg (by omega)).symm.trans h
      replace h := (if_pos (by omega)).symm.trans h
      refine a_aload_n X dX7_many_96 rfl ?_
      refine a_aload_n X dX7_many_97 rfl ?_
      refine a_getr X lf7_40 (by first | exact p_o | assumption) rfl (by omega) dX7_many_98 ?_
      refine a_geti X lf7_140 (by first | exact p_pool_o | assumption) rfl dX7_many_101 ?_
      obtain ⟨e_104, f_104, h⟩ := zBx h
      refine a_callVv X dX7_many_104 miX7_answer lm7_134 (t_X7_answer (by first | exact hP | assumption) f_104) (by first | exact p_o | assumption) rfl rfl rfl (Nat.le_of_ble_eq_true rfl) ⟨by decide, by decide, by decide, by decide⟩ ?_
      refine a_iret X hr dX7_many_107 ⟨by decide, by decide⟩ ?_
      subst hF
      rw [← Option.some.inj h]
      exact ⟨rfl, rfl⟩
    | 4, ht_1, hx_1 =>
      cases ht_1
      replace h := (if_neg (by omega)).symm.trans h
      replace h := (if_neg (by omega)).symm.trans h
      replace h := (if_neg (by omega)).symm.trans h
      replace h := (if_neg (by omega)).symm.trans h
      replace h := (if_pos (by omega)).symm.trans h
      refine a_aload_n X dX7_many_108 rfl ?_
      refine a_aload_n X dX7_many_109 rfl ?_
      refine a_getr X lf7_26 (by first | exact p_o | assumption) rfl (by omega) dX7_many_110 ?_
      refine a_geti X lf7_143 (by first | exact p_list_o | assumption) rfl dX7_many_113 ?_
      obtain ⟨e_116, f_116, h⟩ := zBx h
      refine a_callVv X dX7_many_116 miX7_answer lm7_134 (t_X7_answer (by first | exact hP | assumption) f_116) (by first | exact p_o | assumption) rfl rfl rfl (Nat.le_of_ble_eq_true rfl) ⟨by decide, by decide, by decide, by decide⟩ ?_
      refine a_iret X hr dX7_many_119 ⟨by decide, by decide⟩ ?_
      subst hF
      rw [← Option.some.inj h]
      exact ⟨rfl, rfl⟩
    | 5, ht_1, hx_1 =>
      cases ht_1
      replace h := (if_neg (by omega)).symm.trans h
      replace h := (if_neg (by omega)).symm.trans h
      replace h := (if_neg (by omega)).symm.trans h
      replace h := (if_neg (by omega)).symm.trans h
      replace h := (if_neg (by omega)).symm.trans h
      replace h := (if_pos (by omega)).symm.trans h
      refine a_aload_n X dX7_many_120 rfl ?_
      refine a_aload_n X dX7_many_121 rfl ?_
      refine a_getr X lf7_26 (by first | exact p_o | assumption) rfl (by omega) dX7_many_122 ?_
      refine a_geti X lf7_146 (by first | exact p_list_o | assumption) rfl dX7_many_125 ?_
      obtain ⟨e_128, f_128, h⟩ := zBx h
      refine a_callVv X dX7_many_128 miX7_answer lm7_134 (t_X7_answer (by first | exact hP | assumption) f_128) (by first | exact p_o | assumption) rfl rfl rfl (Nat.le_of_ble_eq_true rfl) ⟨by decide, by decide, by decide, by decide⟩ ?_
      refine a_iret X hr dX7_many_131 ⟨by decide, by decide⟩ ?_
      subst hF
      rw [← Option.some.inj h]
      exact ⟨rfl, rfl⟩
    | 6, ht_1, hx_1 =>
      cases ht_1
      replace h := (if_neg (by omega)).symm.trans h
      replace h := (if_neg (by omega)).symm.trans h
      replace h := (if_neg (by omega)).symm.trans h
      replace h := (if_neg (by omega)).symm.trans h
      replace h := (if_neg (by omega)).symm.trans h
      replace h := (if_neg (by omega)).symm.trans h
      replace h := (if_pos (by omega)).symm.trans h
      refine a_aload_n X dX7_many_132 rfl ?_
      refine a_aload_n X dX7_many_133 rfl ?_
      refine a_getr X lf7_26 (by first | exact p_o | assumption) rfl (by omega) dX7_many_134 ?_
      refine a_geti X lf7_149 (by first | exact p_list_o | assumption) rfl dX7_many_137 ?_
      obtain ⟨e_140, f_140, h⟩ := zBx h
      refine a_callVv X dX7_many_140 miX7_answer lm7_134 (t_X7_answer (by first | exact hP | assumption) f_140) (by first | exact p_o | assumption) rfl rfl rfl (Nat.le_of_ble_eq_true rfl) ⟨by decide, by decide, by decide, by decide⟩ ?_
      refine a_iret X hr dX7_many_143 ⟨by decide, by decide⟩ ?_
      subst hF
      rw [← Option.some.inj h]
      exact ⟨rfl, rfl⟩
    | 7, ht_1, hx_1 =>
      cases ht_1
      replace h := (if_neg (by omega)).symm.trans h
      replace h := (if_neg (by omega)).symm.trans h
      replace h := (if_neg (by omega)).symm.trans h
      replace h := (if_neg (by omega)).symm.trans h
      replace h := (if_neg (by omega)).symm.trans h
      replace h := (if_neg (by omega)).symm.trans h
      replace h := (if_neg (by omega)).symm.trans h
      replace h := (if_pos (by omega)).symm.trans h
      refine a_aload_n X dX7_many_144 rfl ?_
      refine a_aload_n X dX7_many_145 rfl ?_
      refine a_getr X lf7_26 (by first | exact p_o | assumption) rfl (by omega) dX7_many_146 ?_
      refine a_geti X lf7_152 (by first | exact p_list_o | assumption) rfl dX7_many_149 ?_
      obtain ⟨e_152, f_152, h⟩ := zBx h
      refine a_callVv X dX7_many_152 miX7_answer lm7_134 (t_X7_answer (by first | exact hP | assumption) f_152) (by first | exact p_o | assumption) rfl rfl rfl (Nat.le_of_ble_eq_true rfl) ⟨by decide, by decide, by decide, by decide⟩ ?_
      refine a_iret X hr dX7_many_155 ⟨by decide, by decide⟩ ?_
      subst hF
      rw [← Option.some.inj h]
      exact ⟨rfl, rfl⟩
    | 8, ht_1, hx_1 =>
      cases ht_1
      replace h := (if_neg (by omega)).symm.trans h
      replace h := (if_neg (by omega)).symm.trans h
      replace h := (if_neg (by omega)).symm.trans h
      replace h := (if_neg (by omega)).symm.trans h
      replace h := (if_neg (by omega)).symm.trans h
      replace h := (if_neg (by omega)).symm.trans h
      replace h := (if_neg (by omega)).symm.trans h
      replace h := (if_neg (by omega)).symm.trans h
      replace h := (if_pos (by omega)).symm.trans h
      refine a_aload_n X dX7_many_156 rfl ?_
      refine a_aload_n X dX7_many_157 rfl ?_
      refine a_getr X lf7_33 (by first | exact p_o | assumption) rfl (by omega) dX7_many_158 ?_
      refine a_geti X lf7_155 (by first | exact p_past_o | assumption) rfl dX7_many_161 ?_
      obtain ⟨e_164, f_164, h⟩ := zBx h
      refine a_callVv X dX7_many_164 miX7_answer lm7_134 (t_X7_answer (by first | exact hP | assumption) f_164) (by first | exact p_o | assumption) rfl rfl rfl (Nat.le_of_ble_eq_true rfl) ⟨by decide, by decide, by decide, by decide⟩ ?_
      refine a_iret X hr dX7_many_167 ⟨by decide, by decide⟩ ?_
      subst hF
      rw [← Option.some.inj h]
      exact ⟨rfl, rfl⟩
    | 9, ht_1, hx_1 =>
      cases ht_1
      replace h := (if_neg (by omega)).symm.trans h
      replace h := (if_neg (by omega)).symm.trans h
      replace h := (if_neg (by omega)).symm.trans h
      replace h := (if_neg (by omega)).symm.trans h
      replace h := (if_neg (by omega)).symm.trans h
      replace h := (if_neg (by omega)).symm.trans h
      replace h := (if_neg (by omega)).symm.trans h
      replace h := (if_neg (by omega)).symm.trans h
      replace h := (if_neg (by omega)).symm.trans h
      replace h := (if_pos (by omega)).symm.trans h
      refine a_aload_n X dX7_many_168 rfl ?_
      refine a_aload_n X dX7_many_169 rfl ?_
      refine a_getr X lf7_26 (by first | exact p_o | assumption) rfl (by omega) dX7_many_170 ?_
      refine a_getr X lf7_158 (by first | exact p_list_o | assumption) rfl (by omega) dX7_many_173 ?_
      refine a_callSv X dX7_many_176 miX7_sum lm7_161 (c_sum (by first | exact p_list_quota | assumption) (by decide)) rfl rfl (Nat.le_of_ble_eq_true rfl) ⟨by decide, by decide, by decide, by decide⟩ ?_
      obtain ⟨e_179, f_179, h⟩ := zBx h
      refine a_callVv X dX7_many_179 miX7_answer lm7_134 (t_X7_answer (by first | exact hP | assumption) f_179) (by first | exact p_o | assumption) rfl rfl rfl (Nat.le_of_ble_eq_true rfl) ⟨by decide, by decide, by decide, by decide⟩ ?_
      refine a_iret X hr dX7_many_182 ⟨by decide, by decide⟩ ?_
      subst hF
      rw [← Option.some.inj h]
      exact ⟨rfl, rfl⟩
    | 10, ht_1, hx_1 =>
      cases ht_1
      replace h := (if_neg (by omega)).symm.trans h
      replace h := (if_neg (by omega)).symm.trans h
      replace h := (if_neg (by omega)).symm.trans h
      replace h := (if_neg (by omega)).symm.trans h
      replace h := (if_neg (by omega)).symm.trans h
      replace h := (if_neg (by omega)).symm.trans h
      replace h := (if_neg (by omega)).symm.trans h
      replace h := (if_neg (by omega)).symm.trans h
      replace h := (if_neg (by omega)).symm.trans h
      replace h := (if_neg (by omega)).symm.trans h
      replace h := (if_pos (by omega)).symm.trans h
      refine a_aload_n X dX7_many_183 rfl ?_
      refine a_aload_n X dX7_many_184 rfl ?_
      refine a_getr X lf7_26 (by first | exact p_o | assumption) rfl (by omega) dX7_many_185 ?_
      refine a_getr X lf7_165 (by first | exact p_list_o | assumption) rfl (by omega) dX7_many_188 ?_
      refine a_callSv X dX7_many_191 miX7_sum lm7_161 (c_sum (by first | exact p_list_guest | assumption) (by decide)) rfl rfl (Nat.le_of_ble_eq_true rfl) ⟨by decide, by decide, by decide, by decide⟩ ?_
      obtain ⟨e_194, f_194, h⟩ := zBx h
      refine a_callVv X dX7_many_194 miX7_answer lm7_134 (t_X7_answer (by first | exact hP | assumption) f_194) (by first | exact p_o | assumption) rfl rfl rfl (Nat.le_of_ble_eq_true rfl) ⟨by decide, by decide, by decide, by decide⟩ ?_
      refine a_iret X hr dX7_many_197 ⟨by decide, by decide⟩ ?_
      subst hF
      rw [← Option.some.inj h]
      exact ⟨rfl, rfl⟩
  · skip
    replace h := (if_neg (by omega)).symm.trans h
    replace h := (if_neg (by omega)).symm.trans h
    replace h := (if_neg (by omega)).symm.trans h
    replace h := (if_neg (by omega)).symm.trans h
    replace h := (if_neg (by omega)).symm.trans h
    replace h := (if_neg (by omega)).symm.trans h
    replace h := (if_neg (by omega)).symm.trans h
    replace h := (if_neg (by omega)).symm.trans h
    replace h := (if_neg (by omega)).symm.trans h
    replace h := (if_neg (by omega)).symm.trans h
    replace h := (if_neg (by omega)).symm.trans h
    refine a_aload_n X dX7_many_198 rfl ?_
    refine a_iconst (v := 1) X dX7_many_199 (by decide) ?_
    obtain ⟨e_200, f_200, h⟩ := zBx h
    refine a_callVv X dX7_many_200 miX7_refuse lm7_102 (t_X7_refuse (by first | exact hP | assumption) f_200) (by first | exact p_o | assumption) rfl rfl rfl (Nat.le_of_ble_eq_true rfl) ⟨by decide, by decide, by decide, by decide⟩ ?_
    refine a_iret X hr dX7_many_203 ⟨by decide, by decide⟩ ?_
    subst hF
    rw [← Option.some.inj h]
    exact ⟨rfl, rfl⟩
noncomputable def D_X7_isHunter_20 (P : Nat) (M : zMt) (y0_20 : Int32) : Option (Int32) :=
  some (y0_20)
noncomputable def D_X7_isHunter_19 (P : Nat) (M : zMt)  : Option (Int32) :=
  D_X7_isHunter_20 P M (0 : Int32)
noncomputable def D_X7_isHunter (P : Nat) (M : zMt) (v0 : Int32) : Option (Int32) :=
  if v0 < 0 then
    D_X7_isHunter_19 P M
  else
    if (M (P + 17) 1) ≤ v0 then
      D_X7_isHunter_19 P M
    else
      D_X7_isHunter_20 P M (1 : Int32)
set_option maxRecDepth 100000 in
set_option maxHeartbeats 4000000 in
theorem t_X7_isHunter {l : Launch} {G : zG} {b : Nat} {L : List zC} {M : zMt} {N : zNt} {P : Nat} {v0 : Int32} (hP : LX7 L P) {r : Int32} (h : D_X7_isHunter P M v0 = some r) : zM l G b yX7_isHunter cX7_isHunter 2 (some .boolean) 0 0 0 [.ref P, .int v0] (L, M, N) (fun r2 z => r2 = some (.int r) ∧ z = (L, M, N) ∧ (r = 0 ∨ r = 1)) := by
  refine zM.of miX7_isHunter (Nat.le_of_ble_eq_true rfl) ?_
  intro p e s m args below meth c X hr hname
  generalize hF : ((fun r2 z => r2 = some (.int r) ∧ z = (L, M, N) ∧ (r = 0 ∨ r = 1)) : Option Value → zS → Prop) = FQ
  change Zw p l e { frames := 0, cells := 0, slots := 0, locals := 36 * (0) } s m args below meth c G b 2 (MQ below (zQ G b FQ) args s 0 0 (fun q : Nat => b ≤ q)) 0 0 0 [some (.ref P), some (.int v0)] [] (L, M, N)
  have p_lt := hP.1
  have p_o := hP.2.1
  have p_list := hP.2.2.2.2.2.1
  have p_list_lt := p_list.1
  have p_list_o := p_list.2.1
  have J_20 : ∀ (x1_20 : Int32) (y0_20 : Int32), (y0_20 = 0 ∨ y0_20 = 1) → D_X7_isHunter_20 P M y0_20 = some r → Zw p l e { frames := 0, cells := 0, slots := 0, locals := 36 * (0) } s m args below meth c G b 2 (MQ below (zQ G b FQ) args s 0 0 (fun q : Nat => b ≤ q)) 0 0 20 [some (.ref (P)), some (.int x1_20)] [.int y0_20] (L, M, N) := by
    intro x1_20 y0_20 fb_y0_20 h
    unfold D_X7_isHunter_20 at h
    refine a_zret X (by first | exact Or.inl rfl | exact Or.inr rfl | assumption) hr dX7_isHunter_20 ⟨by decide, by decide⟩ ?_
    subst hF
    rw [← Option.some.inj h]
    exact ⟨rfl, rfl, (by first | exact Or.inl rfl | exact Or.inr rfl | assumption)⟩
  have J_19 : ∀ (x1_19 : Int32), D_X7_isHunter_19 P M = some r → Zw p l e { frames := 0, cells := 0, slots := 0, locals := 36 * (0) } s m args below meth c G b 2 (MQ below (zQ G b FQ) args s 0 0 (fun q : Nat => b ≤ q)) 0 0 19 [some (.ref (P)), some (.int x1_19)] [] (L, M, N) := by
    intro x1_19 h
    unfold D_X7_isHunter_19 at h
    refine a_iconst (v := 0) X dX7_isHunter_19 (by decide) ?_
    exact Zw.to2 (J_20 _ _ (by first | exact Or.inl rfl | exact Or.inr rfl | assumption) h) rfl rfl rfl
  unfold D_X7_isHunter at h
  refine a_iload_n X dX7_isHunter_0 rfl ?_
  refine a_if_lt (tgt := 19) X dX7_isHunter_1 (by decide) (fun h_1 => ?_) (fun h_1 => ?_)
  · replace h := (if_pos h_1).symm.trans h
    exact Zw.to2 (J_19 _ h) rfl rfl rfl
  · replace h := (if_neg h_1).symm.trans h
    refine a_iload_n X dX7_isHunter_4 rfl ?_
    refine a_aload_n X dX7_isHunter_5 rfl ?_
    refine a_getr X lf7_26 (by first | exact p_o | assumption) rfl (by omega) dX7_isHunter_6 ?_
    refine a_geti X lf7_119 (by first | exact p_list_o | assumption) rfl dX7_isHunter_9 ?_
    refine a_icmp_ge (tgt := 19) X dX7_isHunter_12 (by decide) (fun h_12 => ?_) (fun h_12 => ?_)
    · replace h := (if_pos h_12).symm.trans h
      exact Zw.to2 (J_19 _ h) rfl rfl rfl
    · replace h := (if_neg h_12).symm.trans h
      refine a_iconst (v := 1) X dX7_isHunter_15 (by decide) ?_
      refine a_goto (tgt := 20) X dX7_isHunter_16 (by decide) ?_
      exact Zw.to2 (J_20 _ _ (by first | exact Or.inl rfl | exact Or.inr rfl | assumption) h) rfl rfl rfl
noncomputable def D_X7_hunter_9 (P : Nat) (M_9 : zMt) : Option (Int32 × zMt) :=
  zB (D_X7_refuse P (1 : Int32) M_9) fun e_11 =>
  some (e_11.1, e_11.2)
noncomputable def D_X7_hunter (P : Nat) (v0 : Int32) (v1 : Int32) (M : zMt) : Option (Int32 × zMt) :=
  if v1 < 0 then
    D_X7_hunter_9 P M
  else
    if v1 ≤ (4 : Int32) then
      zB (D_X7_isHunter P M v0) fun e_17 =>
      if e_17 = 0 then
        zB (D_X7_refuse P (2 : Int32) M) fun e_25 =>
        some (e_25.1, e_25.2)
      else
        if Int32.toInt v1 = 0 then
          zB (D_X7_answer P (zrd 0 (M (P + 19)) 10 v0) M) fun e_72 =>
          some (e_72.1, e_72.2)
        else
        if Int32.toInt v1 = 1 then
          zB (D_X7_answer P (zrd 0 (M (P + 20)) 10 v0) M) fun e_88 =>
          some (e_88.1, e_88.2)
        else
        if Int32.toInt v1 = 2 then
          zB (D_X7_answer P (zrd 0 (M (P + 21)) 10 v0) M) fun e_104 =>
          some (e_104.1, e_104.2)
        else
        if Int32.toInt v1 = 3 then
          zB (D_X7_answer P (zrd 0 (M (P + 95)) 10 v0) M) fun e_120 =>
          some (e_120.1, e_120.2)
        else
          zB (D_X7_answer P (zrd 0 (M (P + 24)) 10 v0) M) fun e_136 =>
          some (e_136.1, e_136.2)
    else
      D_X7_hunter_9 P M
set_option maxRecDepth 100000 in
set_option maxHeartbeats 4000000 in
theorem t_X7_hunter {l : Launch} {G : zG} {b : Nat} {L : List zC} {M : zMt} {N : zNt} {P : Nat} {v0 : Int32} {v1 : Int32} (hP : LX7 L P) {r : Int32 × zMt} (h : D_X7_hunter P v0 v1 M = some r) : zM l G b yX7_hunter cX7_hunter 3 (some .int) 1 0 0 [.ref P, .int v0, .int v1] (L, M, N) (fun r2 z => r2 = some (.int r.1) ∧ z = (L, r.2, N)) := by
  refine zM.of miX7_hunter (Nat.le_of_ble_eq_true rfl) ?_
  intro p e s m args below meth c X hr hname
  generalize hF : ((fun r2 z => r2 = some (.int r.1) ∧ z = (L, r.2, N)) : Option Value → zS → Prop) = FQ
  change Zw p l e { frames := 1, cells := 0, slots := 0, locals := 36 * (1) } s m args below meth c G b 3 (MQ below (zQ G b FQ) args s 0 0 (fun q : Nat => b ≤ q)) 0 0 0 [some (.ref P), some (.int v0), some (.int v1)] [] (L, M, N)
  have p_lt := hP.1
  have p_o := hP.2.1
  have p_list := hP.2.2.2.2.2.1
  have p_list_lt := p_list.1
  have p_list_o := p_list.2.1
  have p_list_score := p_list.2.2.2.1
  have p_list_guest := p_list.2.2.2.2.1
  have p_list_party := p_list.2.2.2.2.2.1
  have p_list_has := p_list.2.2.2.2.2.2.2.2
  have p_pool := hP.2.2.2.2.2.2.2.1
  have p_pool_lt := p_pool.1
  have p_pool_o := p_pool.2.1
  have p_pool_applicantOf := p_pool.2.2.2.2.2.1
  have J_9 : ∀ (x1_9 : Int32) (x2_9 : Int32) (M_9 : zMt), D_X7_hunter_9 P M_9 = some r → Zw p l e { frames := 1, cells := 0, slots := 0, locals := 36 * (1) } s m args below meth c G b 3 (MQ below (zQ G b FQ) args s 0 0 (fun q : Nat => b ≤ q)) 0 0 9 [some (.ref (P)), some (.int x1_9), some (.int x2_9)] [] (L, M_9, N) := by
    intro x1_9 x2_9 M_9 h
    unfold D_X7_hunter_9 at h
    refine a_aload_n X dX7_hunter_9 rfl ?_
    refine a_iconst (v := 1) X dX7_hunter_10 (by decide) ?_
    obtain ⟨e_11, f_11, h⟩ := zBx h
    refine a_callVv X dX7_hunter_11 miX7_refuse lm7_102 (t_X7_refuse (by first | exact hP | assumption) f_11) (by first | exact p_o | assumption) rfl rfl rfl (Nat.le_of_ble_eq_true rfl) ⟨by decide, by decide, by decide, by decide⟩ ?_
    refine a_iret X hr dX7_hunter_14 ⟨by decide, by decide⟩ ?_
    subst hF
    rw [← Option.some.inj h]
    exact ⟨rfl, rfl⟩
  unfold D_X7_hunter at h
  refine a_iload_n X dX7_hunter_0 rfl ?_
  refine a_if_lt (tgt := 9) X dX7_hunter_1 (by decide) (fun h_1 => ?_) (fun h_1 => ?_)
  · replace h := (if_pos h_1).symm.trans h
    exact Zw.to2 (J_9 _ _ _ h) rfl rfl rfl
  · replace h := (if_neg h_1).symm.trans h
    refine a_iload_n X dX7_hunter_4 rfl ?_
    refine a_iconst (v := 4) X dX7_hunter_5 (by decide) ?_
    refine a_icmp_le (tgt := 15) X dX7_hunter_6 (by decide) (fun h_6 => ?_) (fun h_6 => ?_)
    · replace h := (if_pos h_6).symm.trans h
      refine a_aload_n X dX7_hunter_15 rfl ?_
      refine a_iload_n X dX7_hunter_16 rfl ?_
      obtain ⟨e_17, f_17, h⟩ := zBx h
      refine a_callVx X dX7_hunter_17 miX7_isHunter lm7_168 (t_X7_isHunter (by first | exact hP | assumption) f_17) (by first | exact p_o | assumption) rfl rfl rfl (Nat.le_of_ble_eq_true rfl) ⟨by decide, by decide, by decide, by decide⟩ (fun r_17 S_17 q_17 => ?_)
      obtain ⟨rfl, rfl, b_17⟩ := q_17
      refine a_if_ne (tgt := 29) X dX7_hunter_20 (by decide) (fun h_20 => ?_) (fun h_20 => ?_)
      · replace h := (if_neg h_20).symm.trans h
        refine a_iload_n X dX7_hunter_29 rfl ?_
        refine a_tsw (tg := [60, 76, 92, 108]) (td := 124) X dX7_hunter_30 (by decide +kernel) (by decide) (by decide) (fun k_30 t_30 ht_30 hx_30 => ?_) (fun hx_30 => ?_)
        · match k_30, ht_30, hx_30 with
          | 0, ht_30, hx_30 =>
            cases ht_30
            replace h := (if_pos (by omega)).symm.trans h
            refine a_aload_n X dX7_hunter_60 rfl ?_
            refine a_aload_n X dX7_hunter_61 rfl ?_
            refine a_getr X lf7_26 (by first | exact p_o | assumption) rfl (by omega) dX7_hunter_62 ?_
            refine a_getr X lf7_172 (by first | exact p_list_o | assumption) rfl (by omega) dX7_hunter_65 ?_
            refine a_iload_n X dX7_hunter_68 rfl ?_
            refine a_callSv X dX7_hunter_69 miX7_cell lm7_175 (c_cell (by first | exact p_list_score | assumption) (by decide)) rfl rfl (Nat.le_of_ble_eq_true rfl) ⟨by decide, by decide, by decide, by decide⟩ ?_
            obtain ⟨e_72, f_72, h⟩ := zBx h
            refine a_callVv X dX7_hunter_72 miX7_answer lm7_134 (t_X7_answer (by first | exact hP | assumption) f_72) (by first | exact p_o | assumption) rfl rfl rfl (Nat.le_of_ble_eq_true rfl) ⟨by decide, by decide, by decide, by decide⟩ ?_
            refine a_iret X hr dX7_hunter_75 ⟨by decide, by decide⟩ ?_
            subst hF
            rw [← Option.some.inj h]
            exact ⟨rfl, rfl⟩
          | 1, ht_30, hx_30 =>
            cases ht_30
            replace h := (if_neg (by omega)).symm.trans h
            replace h := (if_pos (by omega)).symm.trans h
            refine a_aload_n X dX7_hunter_76 rfl ?_
            refine a_aload_n X dX7_hunter_77 rfl ?_
            refine a_getr X lf7_26 (by first | exact p_o | assumption) rfl (by omega) dX7_hunter_78 ?_
            refine a_getr X lf7_165 (by first | exact p_list_o | assumption) rfl (by omega) dX7_hunter_81 ?_
            refine a_iload_n X dX7_hunter_84 rfl ?_
            refine a_callSv X dX7_hunter_85 miX7_cell lm7_175 (c_cell (by first | exact p_list_guest | assumption) (by decide)) rfl rfl (Nat.le_of_ble_eq_true rfl) ⟨by decide, by decide, by decide, by decide⟩ ?_
            obtain ⟨e_88, f_88, h⟩ := zBx h
            refine a_callVv X dX7_hunter_88 miX7_answer lm7_134 (t_X7_answer (by first | exact hP | assumption) f_88) (by first | exact p_o | assumption) rfl rfl rfl (Nat.le_of_ble_eq_true rfl) ⟨by decide, by decide, by decide, by decide⟩ ?_
            refine a_iret X hr dX7_hunter_91 ⟨by decide, by decide⟩ ?_
            subst hF
            rw [← Option.some.inj h]
            exact ⟨rfl, rfl⟩
          | 2, ht_30, hx_30 =>
            cases ht_30
            replace h := (if_neg (by omega)).symm.trans h
            replace h := (if_neg (by omega)).symm.trans h
            replace h := (if_pos (by omega)).symm.trans h
            refine a_aload_n X dX7_hunter_92 rfl ?_
            refine a_aload_n X dX7_hunter_93 rfl ?_
            refine a_getr X lf7_26 (by first | exact p_o | assumption) rfl (by omega) dX7_hunter_94 ?_
            refine a_getr X lf7_179 (by first | exact p_list_o | assumption) rfl (by omega) dX7_hunter_97 ?_
            refine a_iload_n X dX7_hunter_100 rfl ?_
            refine a_callSv X dX7_hunter_101 miX7_cell lm7_175 (c_cell (by first | exact p_list_party | assumption) (by decide)) rfl rfl (Nat.le_of_ble_eq_true rfl) ⟨by decide, by decide, by decide, by decide⟩ ?_
            obtain ⟨e_104, f_104, h⟩ := zBx h
            refine a_callVv X dX7_hunter_104 miX7_answer lm7_134 (t_X7_answer (by first | exact hP | assumption) f_104) (by first | exact p_o | assumption) rfl rfl rfl (Nat.le_of_ble_eq_true rfl) ⟨by decide, by decide, by decide, by decide⟩ ?_
            refine a_iret X hr dX7_hunter_107 ⟨by decide, by decide⟩ ?_
            subst hF
            rw [← Option.some.inj h]
            exact ⟨rfl, rfl⟩
          | 3, ht_30, hx_30 =>
            cases ht_30
            replace h := (if_neg (by omega)).symm.trans h
            replace h := (if_neg (by omega)).symm.trans h
            replace h := (if_neg (by omega)).symm.trans h
            replace h := (if_pos (by omega)).symm.trans h
            refine a_aload_n X dX7_hunter_108 rfl ?_
            refine a_aload_n X dX7_hunter_109 rfl ?_
            refine a_getr X lf7_40 (by first | exact p_o | assumption) rfl (by omega) dX7_hunter_110 ?_
            refine a_getr X lf7_182 (by first | exact p_pool_o | assumption) rfl (by omega) dX7_hunter_113 ?_
            refine a_iload_n X dX7_hunter_116 rfl ?_
            refine a_callSv X dX7_hunter_117 miX7_cell lm7_175 (c_cell (by first | exact p_pool_applicantOf | assumption) (by decide)) rfl rfl (Nat.le_of_ble_eq_true rfl) ⟨by decide, by decide, by decide, by decide⟩ ?_
            obtain ⟨e_120, f_120, h⟩ := zBx h
            refine a_callVv X dX7_hunter_120 miX7_answer lm7_134 (t_X7_answer (by first | exact hP | assumption) f_120) (by first | exact p_o | assumption) rfl rfl rfl (Nat.le_of_ble_eq_true rfl) ⟨by decide, by decide, by decide, by decide⟩ ?_
            refine a_iret X hr dX7_hunter_123 ⟨by decide, by decide⟩ ?_
            subst hF
            rw [← Option.some.inj h]
            exact ⟨rfl, rfl⟩
        · skip
          replace h := (if_neg (by omega)).symm.trans h
          replace h := (if_neg (by omega)).symm.trans h
          replace h := (if_neg (by omega)).symm.trans h
          replace h := (if_neg (by omega)).symm.trans h
          refine a_aload_n X dX7_hunter_124 rfl ?_
          refine a_aload_n X dX7_hunter_125 rfl ?_
          refine a_getr X lf7_26 (by first | exact p_o | assumption) rfl (by omega) dX7_hunter_126 ?_
          refine a_getr X lf7_185 (by first | exact p_list_o | assumption) rfl (by omega) dX7_hunter_129 ?_
          refine a_iload_n X dX7_hunter_132 rfl ?_
          refine a_callSv X dX7_hunter_133 miX7_cell lm7_175 (c_cell (by first | exact p_list_has | assumption) (by decide)) rfl rfl (Nat.le_of_ble_eq_true rfl) ⟨by decide, by decide, by decide, by decide⟩ ?_
          obtain ⟨e_136, f_136, h⟩ := zBx h
          refine a_callVv X dX7_hunter_136 miX7_answer lm7_134 (t_X7_answer (by first | exact hP | assumption) f_136) (by first | exact p_o | assumption) rfl rfl rfl (Nat.le_of_ble_eq_true rfl) ⟨by decide, by decide, by decide, by decide⟩ ?_
          refine a_iret X hr dX7_hunter_139 ⟨by decide, by decide⟩ ?_
          subst hF
          rw [← Option.some.inj h]
          exact ⟨rfl, rfl⟩
      · replace h := (if_pos h_20).symm.trans h
        refine a_aload_n X dX7_hunter_23 rfl ?_
        refine a_iconst (v := 2) X dX7_hunter_24 (by decide) ?_
        obtain ⟨e_25, f_25, h⟩ := zBx h
        refine a_callVv X dX7_hunter_25 miX7_refuse lm7_102 (t_X7_refuse (by first | exact hP | assumption) f_25) (by first | exact p_o | assumption) rfl rfl rfl (Nat.le_of_ble_eq_true rfl) ⟨by decide, by decide, by decide, by decide⟩ ?_
        refine a_iret X hr dX7_hunter_28 ⟨by decide, by decide⟩ ?_
        subst hF
        rw [← Option.some.inj h]
        exact ⟨rfl, rfl⟩
    · replace h := (if_neg h_6).symm.trans h
      exact Zw.to2 (J_9 _ _ _ h) rfl rfl rfl
noncomputable def D_X7_isUnit_20 (P : Nat) (M : zMt) (y0_20 : Int32) : Option (Int32) :=
  some (y0_20)
noncomputable def D_X7_isUnit_19 (P : Nat) (M : zMt)  : Option (Int32) :=
  D_X7_isUnit_20 P M (0 : Int32)
noncomputable def D_X7_isUnit (P : Nat) (M : zMt) (v0 : Int32) : Option (Int32) :=
  if v0 < 0 then
    D_X7_isUnit_19 P M
  else
    if (M (P + 17) 0) ≤ v0 then
      D_X7_isUnit_19 P M
    else
      D_X7_isUnit_20 P M (1 : Int32)
set_option maxRecDepth 100000 in
set_option maxHeartbeats 4000000 in
theorem t_X7_isUnit {l : Launch} {G : zG} {b : Nat} {L : List zC} {M : zMt} {N : zNt} {P : Nat} {v0 : Int32} (hP : LX7 L P) {r : Int32} (h : D_X7_isUnit P M v0 = some r) : zM l G b yX7_isUnit cX7_isUnit 2 (some .boolean) 0 0 0 [.ref P, .int v0] (L, M, N) (fun r2 z => r2 = some (.int r) ∧ z = (L, M, N) ∧ (r = 0 ∨ r = 1)) := by
  refine zM.of miX7_isUnit (Nat.le_of_ble_eq_true rfl) ?_
  intro p e s m args below meth c X hr hname
  generalize hF : ((fun r2 z => r2 = some (.int r) ∧ z = (L, M, N) ∧ (r = 0 ∨ r = 1)) : Option Value → zS → Prop) = FQ
  change Zw p l e { frames := 0, cells := 0, slots := 0, locals := 36 * (0) } s m args below meth c G b 2 (MQ below (zQ G b FQ) args s 0 0 (fun q : Nat => b ≤ q)) 0 0 0 [some (.ref P), some (.int v0)] [] (L, M, N)
  have p_lt := hP.1
  have p_o := hP.2.1
  have p_list := hP.2.2.2.2.2.1
  have p_list_lt := p_list.1
  have p_list_o := p_list.2.1
  have J_20 : ∀ (x1_20 : Int32) (y0_20 : Int32), (y0_20 = 0 ∨ y0_20 = 1) → D_X7_isUnit_20 P M y0_20 = some r → Zw p l e { frames := 0, cells := 0, slots := 0, locals := 36 * (0) } s m args below meth c G b 2 (MQ below (zQ G b FQ) args s 0 0 (fun q : Nat => b ≤ q)) 0 0 20 [some (.ref (P)), some (.int x1_20)] [.int y0_20] (L, M, N) := by
    intro x1_20 y0_20 fb_y0_20 h
    unfold D_X7_isUnit_20 at h
    refine a_zret X (by first | exact Or.inl rfl | exact Or.inr rfl | assumption) hr dX7_isUnit_20 ⟨by decide, by decide⟩ ?_
    subst hF
    rw [← Option.some.inj h]
    exact ⟨rfl, rfl, (by first | exact Or.inl rfl | exact Or.inr rfl | assumption)⟩
  have J_19 : ∀ (x1_19 : Int32), D_X7_isUnit_19 P M = some r → Zw p l e { frames := 0, cells := 0, slots := 0, locals := 36 * (0) } s m args below meth c G b 2 (MQ below (zQ G b FQ) args s 0 0 (fun q : Nat => b ≤ q)) 0 0 19 [some (.ref (P)), some (.int x1_19)] [] (L, M, N) := by
    intro x1_19 h
    unfold D_X7_isUnit_19 at h
    refine a_iconst (v := 0) X dX7_isUnit_19 (by decide) ?_
    exact Zw.to2 (J_20 _ _ (by first | exact Or.inl rfl | exact Or.inr rfl | assumption) h) rfl rfl rfl
  unfold D_X7_isUnit at h
  refine a_iload_n X dX7_isUnit_0 rfl ?_
  refine a_if_lt (tgt := 19) X dX7_isUnit_1 (by decide) (fun h_1 => ?_) (fun h_1 => ?_)
  · replace h := (if_pos h_1).symm.trans h
    exact Zw.to2 (J_19 _ h) rfl rfl rfl
  · replace h := (if_neg h_1).symm.trans h
    refine a_iload_n X dX7_isUnit_4 rfl ?_
    refine a_aload_n X dX7_isUnit_5 rfl ?_
    refine a_getr X lf7_26 (by first | exact p_o | assumption) rfl (by omega) dX7_isUnit_6 ?_
    refine a_geti X lf7_131 (by first | exact p_list_o | assumption) rfl dX7_isUnit_9 ?_
    refine a_icmp_ge (tgt := 19) X dX7_isUnit_12 (by decide) (fun h_12 => ?_) (fun h_12 => ?_)
    · replace h := (if_pos h_12).symm.trans h
      exact Zw.to2 (J_19 _ h) rfl rfl rfl
    · replace h := (if_neg h_12).symm.trans h
      refine a_iconst (v := 1) X dX7_isUnit_15 (by decide) ?_
      refine a_goto (tgt := 20) X dX7_isUnit_16 (by decide) ?_
      exact Zw.to2 (J_20 _ _ (by first | exact Or.inl rfl | exact Or.inr rfl | assumption) h) rfl rfl rfl
noncomputable def D_X7_unit_9 (P : Nat) (M_9 : zMt) : Option (Int32 × zMt) :=
  zB (D_X7_refuse P (1 : Int32) M_9) fun e_11 =>
  some (e_11.1, e_11.2)
noncomputable def D_X7_unit (P : Nat) (v0 : Int32) (v1 : Int32) (M : zMt) : Option (Int32 × zMt) :=
  if v1 < 0 then
    D_X7_unit_9 P M
  else
    if v1 ≤ (5 : Int32) then
      zB (D_X7_isUnit P M v0) fun e_17 =>
      if e_17 = 0 then
        zB (D_X7_refuse P (2 : Int32) M) fun e_25 =>
        some (e_25.1, e_25.2)
      else
        if Int32.toInt v1 = 0 then
          zB (D_X7_answer P (zrd 0 (M (P + 18)) 5 v0) M) fun e_76 =>
          some (e_76.1, e_76.2)
        else
        if Int32.toInt v1 = 1 then
          zB (D_X7_answer P (zrd 0 (M (P + 93)) 5 v0) M) fun e_92 =>
          some (e_92.1, e_92.2)
        else
        if Int32.toInt v1 = 2 then
          zB (D_X7_answer P (zrd 0 (M (P + 94)) 5 v0) M) fun e_108 =>
          some (e_108.1, e_108.2)
        else
        if Int32.toInt v1 = 3 then
          zB (D_X2_firstApplicants (P + 91) M v0) fun e_118 =>
          zB (D_X7_answer P e_118 M) fun e_121 =>
          some (e_121.1, e_121.2)
        else
        if Int32.toInt v1 = 4 then
          zB (D_X2_firstHunters (P + 91) M v0) fun e_131 =>
          zB (D_X7_answer P e_131 M) fun e_134 =>
          some (e_134.1, e_134.2)
        else
          zB (D_X2_askers (P + 91) M v0) fun e_144 =>
          zB (D_X7_answer P e_144 M) fun e_147 =>
          some (e_147.1, e_147.2)
    else
      D_X7_unit_9 P M
set_option maxRecDepth 100000 in
set_option maxHeartbeats 4000000 in
theorem t_X7_unit {l : Launch} {G : zG} {b : Nat} {L : List zC} {M : zMt} {N : zNt} {P : Nat} {v0 : Int32} {v1 : Int32} (hP : LX7 L P) {r : Int32 × zMt} (h : D_X7_unit P v0 v1 M = some r) : zM l G b yX7_unit cX7_unit 3 (some .int) 4 0 0 [.ref P, .int v0, .int v1] (L, M, N) (fun r2 z => r2 = some (.int r.1) ∧ z = (L, r.2, N)) := by
  refine zM.of miX7_unit (Nat.le_of_ble_eq_true rfl) ?_
  intro p e s m args below meth c X hr hname
  generalize hF : ((fun r2 z => r2 = some (.int r.1) ∧ z = (L, r.2, N)) : Option Value → zS → Prop) = FQ
  change Zw p l e { frames := 4, cells := 0, slots := 0, locals := 36 * (4) } s m args below meth c G b 3 (MQ below (zQ G b FQ) args s 0 0 (fun q : Nat => b ≤ q)) 0 0 0 [some (.ref P), some (.int v0), some (.int v1)] [] (L, M, N)
  have p_lt := hP.1
  have p_o := hP.2.1
  have p_list := hP.2.2.2.2.2.1
  have p_list_lt := p_list.1
  have p_list_o := p_list.2.1
  have p_list_quota := p_list.2.2.1
  have p_pool := hP.2.2.2.2.2.2.2.1
  have p_pool_lt := p_pool.1
  have p_pool_o := p_pool.2.1
  have p_pool_preferred := p_pool.2.2.2.1
  have p_pool_forGuests := p_pool.2.2.2.2.1
  have J_9 : ∀ (x1_9 : Int32) (x2_9 : Int32) (M_9 : zMt), D_X7_unit_9 P M_9 = some r → Zw p l e { frames := 4, cells := 0, slots := 0, locals := 36 * (4) } s m args below meth c G b 3 (MQ below (zQ G b FQ) args s 0 0 (fun q : Nat => b ≤ q)) 0 0 9 [some (.ref (P)), some (.int x1_9), some (.int x2_9)] [] (L, M_9, N) := by
    intro x1_9 x2_9 M_9 h
    unfold D_X7_unit_9 at h
    refine a_aload_n X dX7_unit_9 rfl ?_
    refine a_iconst (v := 1) X dX7_unit_10 (by decide) ?_
    obtain ⟨e_11, f_11, h⟩ := zBx h
    refine a_callVv X dX7_unit_11 miX7_refuse lm7_102 (t_X7_refuse (by first | exact hP | assumption) f_11) (by first | exact p_o | assumption) rfl rfl rfl (Nat.le_of_ble_eq_true rfl) ⟨by decide, by decide, by decide, by decide⟩ ?_
    refine a_iret X hr dX7_unit_14 ⟨by decide, by decide⟩ ?_
    subst hF
    rw [← Option.some.inj h]
    exact ⟨rfl, rfl⟩
  unfold D_X7_unit at h
  refine a_iload_n X dX7_unit_0 rfl ?_
  refine a_if_lt (tgt := 9) X dX7_unit_1 (by decide) (fun h_1 => ?_) (fun h_1 => ?_)
  · replace h := (if_pos h_1).symm.trans h
    exact Zw.to2 (J_9 _ _ _ h) rfl rfl rfl
  · replace h := (if_neg h_1).symm.trans h
    refine a_iload_n X dX7_unit_4 rfl ?_
    refine a_iconst (v := 5) X dX7_unit_5 (by decide) ?_
    refine a_icmp_le (tgt := 15) X dX7_unit_6 (by decide) (fun h_6 => ?_) (fun h_6 => ?_)
    · replace h := (if_pos h_6).symm.trans h
      refine a_aload_n X dX7_unit_15 rfl ?_
      refine a_iload_n X dX7_unit_16 rfl ?_
      obtain ⟨e_17, f_17, h⟩ := zBx h
      refine a_callVx X dX7_unit_17 miX7_isUnit lm7_188 (t_X7_isUnit (by first | exact hP | assumption) f_17) (by first | exact p_o | assumption) rfl rfl rfl (Nat.le_of_ble_eq_true rfl) ⟨by decide, by decide, by decide, by decide⟩ (fun r_17 S_17 q_17 => ?_)
      obtain ⟨rfl, rfl, b_17⟩ := q_17
      refine a_if_ne (tgt := 29) X dX7_unit_20 (by decide) (fun h_20 => ?_) (fun h_20 => ?_)
      · replace h := (if_neg h_20).symm.trans h
        refine a_iload_n X dX7_unit_29 rfl ?_
        refine a_tsw (tg := [64, 80, 96, 112, 125]) (td := 138) X dX7_unit_30 (by decide +kernel) (by decide) (by decide) (fun k_30 t_30 ht_30 hx_30 => ?_) (fun hx_30 => ?_)
        · match k_30, ht_30, hx_30 with
          | 0, ht_30, hx_30 =>
            cases ht_30
            replace h := (if_pos (by omega)).symm.trans h
            refine a_aload_n X dX7_unit_64 rfl ?_
            refine a_aload_n X dX7_unit_65 rfl ?_
            refine a_getr X lf7_26 (by first | exact p_o | assumption) rfl (by omega) dX7_unit_66 ?_
            refine a_getr X lf7_158 (by first | exact p_list_o | assumption) rfl (by omega) dX7_unit_69 ?_
            refine a_iload_n X dX7_unit_72 rfl ?_
            refine a_callSv X dX7_unit_73 miX7_cell lm7_175 (c_cell (by first | exact p_list_quota | assumption) (by decide)) rfl rfl (Nat.le_of_ble_eq_true rfl) ⟨by decide, by decide, by decide, by decide⟩ ?_
            obtain ⟨e_76, f_76, h⟩ := zBx h
            refine a_callVv X dX7_unit_76 miX7_answer lm7_134 (t_X7_answer (by first | exact hP | assumption) f_76) (by first | exact p_o | assumption) rfl rfl rfl (Nat.le_of_ble_eq_true rfl) ⟨by decide, by decide, by decide, by decide⟩ ?_
            refine a_iret X hr dX7_unit_79 ⟨by decide, by decide⟩ ?_
            subst hF
            rw [← Option.some.inj h]
            exact ⟨rfl, rfl⟩
          | 1, ht_30, hx_30 =>
            cases ht_30
            replace h := (if_neg (by omega)).symm.trans h
            replace h := (if_pos (by omega)).symm.trans h
            refine a_aload_n X dX7_unit_80 rfl ?_
            refine a_aload_n X dX7_unit_81 rfl ?_
            refine a_getr X lf7_40 (by first | exact p_o | assumption) rfl (by omega) dX7_unit_82 ?_
            refine a_getr X lf7_191 (by first | exact p_pool_o | assumption) rfl (by omega) dX7_unit_85 ?_
            refine a_iload_n X dX7_unit_88 rfl ?_
            refine a_callSv X dX7_unit_89 miX7_cell lm7_175 (c_cell (by first | exact p_pool_preferred | assumption) (by decide)) rfl rfl (Nat.le_of_ble_eq_true rfl) ⟨by decide, by decide, by decide, by decide⟩ ?_
            obtain ⟨e_92, f_92, h⟩ := zBx h
            refine a_callVv X dX7_unit_92 miX7_answer lm7_134 (t_X7_answer (by first | exact hP | assumption) f_92) (by first | exact p_o | assumption) rfl rfl rfl (Nat.le_of_ble_eq_true rfl) ⟨by decide, by decide, by decide, by decide⟩ ?_
            refine a_iret X hr dX7_unit_95 ⟨by decide, by decide⟩ ?_
            subst hF
            rw [← Option.some.inj h]
            exact ⟨rfl, rfl⟩
          | 2, ht_30, hx_30 =>
            cases ht_30
            replace h := (if_neg (by omega)).symm.trans h
            replace h := (if_neg (by omega)).symm.trans h
            replace h := (if_pos (by omega)).symm.trans h
            refine a_aload_n X dX7_unit_96 rfl ?_
            refine a_aload_n X dX7_unit_97 rfl ?_
            refine a_getr X lf7_40 (by first | exact p_o | assumption) rfl (by omega) dX7_unit_98 ?_
            refine a_getr X lf7_194 (by first | exact p_pool_o | assumption) rfl (by omega) dX7_unit_101 ?_
            refine a_iload_n X dX7_unit_104 rfl ?_
            refine a_callSv X dX7_unit_105 miX7_cell lm7_175 (c_cell (by first | exact p_pool_forGuests | assumption) (by decide)) rfl rfl (Nat.le_of_ble_eq_true rfl) ⟨by decide, by decide, by decide, by decide⟩ ?_
            obtain ⟨e_108, f_108, h⟩ := zBx h
            refine a_callVv X dX7_unit_108 miX7_answer lm7_134 (t_X7_answer (by first | exact hP | assumption) f_108) (by first | exact p_o | assumption) rfl rfl rfl (Nat.le_of_ble_eq_true rfl) ⟨by decide, by decide, by decide, by decide⟩ ?_
            refine a_iret X hr dX7_unit_111 ⟨by decide, by decide⟩ ?_
            subst hF
            rw [← Option.some.inj h]
            exact ⟨rfl, rfl⟩
          | 3, ht_30, hx_30 =>
            cases ht_30
            replace h := (if_neg (by omega)).symm.trans h
            replace h := (if_neg (by omega)).symm.trans h
            replace h := (if_neg (by omega)).symm.trans h
            replace h := (if_pos (by omega)).symm.trans h
            refine a_aload_n X dX7_unit_112 rfl ?_
            refine a_aload_n X dX7_unit_113 rfl ?_
            refine a_getr X lf7_40 (by first | exact p_o | assumption) rfl (by omega) dX7_unit_114 ?_
            refine a_iload_n X dX7_unit_117 rfl ?_
            obtain ⟨e_118, f_118, h⟩ := zBx h
            refine a_callVv X dX7_unit_118 miX2_firstApplicants lm7_197 (t_X2_firstApplicants (by first | exact p_pool | assumption) f_118) (by first | exact p_pool_o | assumption) rfl rfl rfl (Nat.le_of_ble_eq_true rfl) ⟨by decide, by decide, by decide, by decide⟩ ?_
            obtain ⟨e_121, f_121, h⟩ := zBx h
            refine a_callVv X dX7_unit_121 miX7_answer lm7_134 (t_X7_answer (by first | exact hP | assumption) f_121) (by first | exact p_o | assumption) rfl rfl rfl (Nat.le_of_ble_eq_true rfl) ⟨by decide, by decide, by decide, by decide⟩ ?_
            refine a_iret X hr dX7_unit_124 ⟨by decide, by decide⟩ ?_
            subst hF
            rw [← Option.some.inj h]
            exact ⟨rfl, rfl⟩
          | 4, ht_30, hx_30 =>
            cases ht_30
            replace h := (if_neg (by omega)).symm.trans h
            replace h := (if_neg (by omega)).symm.trans h
            replace h := (if_neg (by omega)).symm.trans h
            replace h := (if_neg (by omega)).symm.trans h
            replace h := (if_pos (by omega)).symm.trans h
            refine a_aload_n X dX7_unit_125 rfl ?_
            refine a_aload_n X dX7_unit_126 rfl ?_
            refine a_getr X lf7_40 (by first | exact p_o | assumption) rfl (by omega) dX7_unit_127 ?_
            refine a_iload_n X dX7_unit_130 rfl ?_
            obtain ⟨e_131, f_131, h⟩ := zBx h
            refine a_callVv X dX7_unit_131 miX2_firstHunters lm7_200 (t_X2_firstHunters (by first | exact p_pool | assumption) f_131) (by first | exact p_pool_o | assumption) rfl rfl rfl (Nat.le_of_ble_eq_true rfl) ⟨by decide, by decide, by decide, by decide⟩ ?_
            obtain ⟨e_134, f_134, h⟩ := zBx h
            refine a_callVv X dX7_unit_134 miX7_answer lm7_134 (t_X7_answer (by first | exact hP | assumption) f_134) (by first | exact p_o | assumption) rfl rfl rfl (Nat.le_of_ble_eq_true rfl) ⟨by decide, by decide, by decide, by decide⟩ ?_
            refine a_iret X hr dX7_unit_137 ⟨by decide, by decide⟩ ?_
            subst hF
            rw [← Option.some.inj h]
            exact ⟨rfl, rfl⟩
        · skip
          replace h := (if_neg (by omega)).symm.trans h
          replace h := (if_neg (by omega)).symm.trans h
          replace h := (if_neg (by omega)).symm.trans h
          replace h := (if_neg (by omega)).symm.trans h
          replace h := (if_neg (by omega)).symm.trans h
          refine a_aload_n X dX7_unit_138 rfl ?_
          refine a_aload_n X dX7_unit_139 rfl ?_
          refine a_getr X lf7_40 (by first | exact p_o | assumption) rfl (by omega) dX7_unit_140 ?_
          refine a_iload_n X dX7_unit_143 rfl ?_
          obtain ⟨e_144, f_144, h⟩ := zBx h
          refine a_callVv X dX7_unit_144 miX2_askers lm7_203 (t_X2_askers (by first | exact p_pool | assumption) f_144) (by first | exact p_pool_o | assumption) rfl rfl rfl (Nat.le_of_ble_eq_true rfl) ⟨by decide, by decide, by decide, by decide⟩ ?_
          obtain ⟨e_147, f_147, h⟩ := zBx h
          refine a_callVv X dX7_unit_147 miX7_answer lm7_134 (t_X7_answer (by first | exact hP | assumption) f_147) (by first | exact p_o | assumption) rfl rfl rfl (Nat.le_of_ble_eq_true rfl) ⟨by decide, by decide, by decide, by decide⟩ ?_
          refine a_iret X hr dX7_unit_150 ⟨by decide, by decide⟩ ?_
          subst hF
          rw [← Option.some.inj h]
          exact ⟨rfl, rfl⟩
      · replace h := (if_pos h_20).symm.trans h
        refine a_aload_n X dX7_unit_23 rfl ?_
        refine a_iconst (v := 2) X dX7_unit_24 (by decide) ?_
        obtain ⟨e_25, f_25, h⟩ := zBx h
        refine a_callVv X dX7_unit_25 miX7_refuse lm7_102 (t_X7_refuse (by first | exact hP | assumption) f_25) (by first | exact p_o | assumption) rfl rfl rfl (Nat.le_of_ble_eq_true rfl) ⟨by decide, by decide, by decide, by decide⟩ ?_
        refine a_iret X hr dX7_unit_28 ⟨by decide, by decide⟩ ?_
        subst hF
        rw [← Option.some.inj h]
        exact ⟨rfl, rfl⟩
    · replace h := (if_neg h_6).symm.trans h
      exact Zw.to2 (J_9 _ _ _ h) rfl rfl rfl
noncomputable def D_X7_isApplicant_20 (P : Nat) (M : zMt) (y0_20 : Int32) : Option (Int32) :=
  some (y0_20)
noncomputable def D_X7_isApplicant_19 (P : Nat) (M : zMt)  : Option (Int32) :=
  D_X7_isApplicant_20 P M (0 : Int32)
noncomputable def D_X7_isApplicant (P : Nat) (M : zMt) (v0 : Int32) : Option (Int32) :=
  if v0 < 0 then
    D_X7_isApplicant_19 P M
  else
    if (M (P + 91) 1) ≤ v0 then
      D_X7_isApplicant_19 P M
    else
      D_X7_isApplicant_20 P M (1 : Int32)
set_option maxRecDepth 100000 in
set_option maxHeartbeats 4000000 in
theorem t_X7_isApplicant {l : Launch} {G : zG} {b : Nat} {L : List zC} {M : zMt} {N : zNt} {P : Nat} {v0 : Int32} (hP : LX7 L P) {r : Int32} (h : D_X7_isApplicant P M v0 = some r) : zM l G b yX7_isApplicant cX7_isApplicant 2 (some .boolean) 0 0 0 [.ref P, .int v0] (L, M, N) (fun r2 z => r2 = some (.int r) ∧ z = (L, M, N) ∧ (r = 0 ∨ r = 1)) := by
  refine zM.of miX7_isApplicant (Nat.le_of_ble_eq_true rfl) ?_
  intro p e s m args below meth c X hr hname
  generalize hF : ((fun r2 z => r2 = some (.int r) ∧ z = (L, M, N) ∧ (r = 0 ∨ r = 1)) : Option Value → zS → Prop) = FQ
  change Zw p l e { frames := 0, cells := 0, slots := 0, locals := 36 * (0) } s m args below meth c G b 2 (MQ below (zQ G b FQ) args s 0 0 (fun q : Nat => b ≤ q)) 0 0 0 [some (.ref P), some (.int v0)] [] (L, M, N)
  have p_lt := hP.1
  have p_o := hP.2.1
  have p_pool := hP.2.2.2.2.2.2.2.1
  have p_pool_lt := p_pool.1
  have p_pool_o := p_pool.2.1
  have J_20 : ∀ (x1_20 : Int32) (y0_20 : Int32), (y0_20 = 0 ∨ y0_20 = 1) → D_X7_isApplicant_20 P M y0_20 = some r → Zw p l e { frames := 0, cells := 0, slots := 0, locals := 36 * (0) } s m args below meth c G b 2 (MQ below (zQ G b FQ) args s 0 0 (fun q : Nat => b ≤ q)) 0 0 20 [some (.ref (P)), some (.int x1_20)] [.int y0_20] (L, M, N) := by
    intro x1_20 y0_20 fb_y0_20 h
    unfold D_X7_isApplicant_20 at h
    refine a_zret X (by first | exact Or.inl rfl | exact Or.inr rfl | assumption) hr dX7_isApplicant_20 ⟨by decide, by decide⟩ ?_
    subst hF
    rw [← Option.some.inj h]
    exact ⟨rfl, rfl, (by first | exact Or.inl rfl | exact Or.inr rfl | assumption)⟩
  have J_19 : ∀ (x1_19 : Int32), D_X7_isApplicant_19 P M = some r → Zw p l e { frames := 0, cells := 0, slots := 0, locals := 36 * (0) } s m args below meth c G b 2 (MQ below (zQ G b FQ) args s 0 0 (fun q : Nat => b ≤ q)) 0 0 19 [some (.ref (P)), some (.int x1_19)] [] (L, M, N) := by
    intro x1_19 h
    unfold D_X7_isApplicant_19 at h
    refine a_iconst (v := 0) X dX7_isApplicant_19 (by decide) ?_
    exact Zw.to2 (J_20 _ _ (by first | exact Or.inl rfl | exact Or.inr rfl | assumption) h) rfl rfl rfl
  unfold D_X7_isApplicant at h
  refine a_iload_n X dX7_isApplicant_0 rfl ?_
  refine a_if_lt (tgt := 19) X dX7_isApplicant_1 (by decide) (fun h_1 => ?_) (fun h_1 => ?_)
  · replace h := (if_pos h_1).symm.trans h
    exact Zw.to2 (J_19 _ h) rfl rfl rfl
  · replace h := (if_neg h_1).symm.trans h
    refine a_iload_n X dX7_isApplicant_4 rfl ?_
    refine a_aload_n X dX7_isApplicant_5 rfl ?_
    refine a_getr X lf7_40 (by first | exact p_o | assumption) rfl (by omega) dX7_isApplicant_6 ?_
    refine a_geti X lf7_140 (by first | exact p_pool_o | assumption) rfl dX7_isApplicant_9 ?_
    refine a_icmp_ge (tgt := 19) X dX7_isApplicant_12 (by decide) (fun h_12 => ?_) (fun h_12 => ?_)
    · replace h := (if_pos h_12).symm.trans h
      exact Zw.to2 (J_19 _ h) rfl rfl rfl
    · replace h := (if_neg h_12).symm.trans h
      refine a_iconst (v := 1) X dX7_isApplicant_15 (by decide) ?_
      refine a_goto (tgt := 20) X dX7_isApplicant_16 (by decide) ?_
      exact Zw.to2 (J_20 _ _ (by first | exact Or.inl rfl | exact Or.inr rfl | assumption) h) rfl rfl rfl
noncomputable def D_X7_applicant_10 (P : Nat) (M_10 : zMt) : Option (Int32 × zMt) :=
  zB (D_X7_refuse P (1 : Int32) M_10) fun e_12 =>
  some (e_12.1, e_12.2)
noncomputable def D_X7_applicant (P : Nat) (v0 : Int32) (v1 : Int32) (M : zMt) : Option (Int32 × zMt) :=
  if v1 < 0 then
    D_X7_applicant_10 P M
  else
    if v1 ≤ (6 : Int32) then
      zB (D_X7_isApplicant P M v0) fun e_18 =>
      if e_18 = 0 then
        zB (D_X7_refuse P (2 : Int32) M) fun e_26 =>
        some (e_26.1, e_26.2)
      else
        if Int32.toInt v1 = 0 then
          zB (D_X7_answer P (zrd 0 (M (P + 96)) 10 v0) M) fun e_80 =>
          some (e_80.1, e_80.2)
        else
        if Int32.toInt v1 = 1 then
          zB (D_X7_answer P (zrd 0 (M (P + 97)) 10 v0) M) fun e_96 =>
          some (e_96.1, e_96.2)
        else
        if Int32.toInt v1 = 2 then
          zB (D_X7_answer P (zrd 0 (M (P + 98)) 10 v0) M) fun e_112 =>
          some (e_112.1, e_112.2)
        else
        if Int32.toInt v1 = 3 then
          zB (D_X7_answer P (zrd 0 (M (P + 99)) 10 v0) M) fun e_128 =>
          some (e_128.1, e_128.2)
        else
        if Int32.toInt v1 = 4 then
          zB (D_X7_answer P (zrd 0 (M (P + 102)) 10 v0) M) fun e_144 =>
          some (e_144.1, e_144.2)
        else
        if Int32.toInt v1 = 5 then
          zB (D_X7_answer P (zrd 0 (M (P + 100)) 10 v0) M) fun e_160 =>
          some (e_160.1, e_160.2)
        else
          zB (D_X7_answer P (zrd 0 (M (P + 101)) 10 v0) M) fun e_176 =>
          some (e_176.1, e_176.2)
    else
      D_X7_applicant_10 P M
set_option maxRecDepth 100000 in
set_option maxHeartbeats 4000000 in
theorem t_X7_applicant {l : Launch} {G : zG} {b : Nat} {L : List zC} {M : zMt} {N : zNt} {P : Nat} {v0 : Int32} {v1 : Int32} (hP : LX7 L P) {r : Int32 × zMt} (h : D_X7_applicant P v0 v1 M = some r) : zM l G b yX7_applicant cX7_applicant 3 (some .int) 1 0 0 [.ref P, .int v0, .int v1] (L, M, N) (fun r2 z => r2 = some (.int r.1) ∧ z = (L, r.2, N)) := by
  refine zM.of miX7_applicant (Nat.le_of_ble_eq_true rfl) ?_
  intro p e s m args below meth c X hr hname
  generalize hF : ((fun r2 z => r2 = some (.int r.1) ∧ z = (L, r.2, N)) : Option Value → zS → Prop) = FQ
  change Zw p l e { frames := 1, cells := 0, slots := 0, locals := 36 * (1) } s m args below meth c G b 3 (MQ below (zQ G b FQ) args s 0 0 (fun q : Nat => b ≤ q)) 0 0 0 [some (.ref P), some (.int v0), some (.int v1)] [] (L, M, N)
  have p_lt := hP.1
  have p_o := hP.2.1
  have p_pool := hP.2.2.2.2.2.2.2.1
  have p_pool_lt := p_pool.1
  have p_pool_o := p_pool.2.1
  have p_pool_size := p_pool.2.2.2.2.2.2.1
  have p_pool_guestCount := p_pool.2.2.2.2.2.2.2.1
  have p_pool_score := p_pool.2.2.2.2.2.2.2.2.1
  have p_pool_tickets := p_pool.2.2.2.2.2.2.2.2.2.1
  have p_pool_bits := p_pool.2.2.2.2.2.2.2.2.2.2.1
  have p_pool_party := p_pool.2.2.2.2.2.2.2.2.2.2.2.1
  have p_pool_wishCount := p_pool.2.2.2.2.2.2.2.2.2.2.2.2.1
  have J_10 : ∀ (x1_10 : Int32) (x2_10 : Int32) (M_10 : zMt), D_X7_applicant_10 P M_10 = some r → Zw p l e { frames := 1, cells := 0, slots := 0, locals := 36 * (1) } s m args below meth c G b 3 (MQ below (zQ G b FQ) args s 0 0 (fun q : Nat => b ≤ q)) 0 0 10 [some (.ref (P)), some (.int x1_10), some (.int x2_10)] [] (L, M_10, N) := by
    intro x1_10 x2_10 M_10 h
    unfold D_X7_applicant_10 at h
    refine a_aload_n X dX7_applicant_10 rfl ?_
    refine a_iconst (v := 1) X dX7_applicant_11 (by decide) ?_
    obtain ⟨e_12, f_12, h⟩ := zBx h
    refine a_callVv X dX7_applicant_12 miX7_refuse lm7_102 (t_X7_refuse (by first | exact hP | assumption) f_12) (by first | exact p_o | assumption) rfl rfl rfl (Nat.le_of_ble_eq_true rfl) ⟨by decide, by decide, by decide, by decide⟩ ?_
    refine a_iret X hr dX7_applicant_15 ⟨by decide, by decide⟩ ?_
    subst hF
    rw [← Option.some.inj h]
    exact ⟨rfl, rfl⟩
  unfold D_X7_applicant at h
  refine a_iload_n X dX7_applicant_0 rfl ?_
  refine a_if_lt (tgt := 10) X dX7_applicant_1 (by decide) (fun h_1 => ?_) (fun h_1 => ?_)
  · replace h := (if_pos h_1).symm.trans h
    exact Zw.to2 (J_10 _ _ _ h) rfl rfl rfl
  · replace h := (if_neg h_1).symm.trans h
    refine a_iload_n X dX7_applicant_4 rfl ?_
    refine a_bipush (v := 6) X dX7_applicant_5 (by decide) ?_
    refine a_icmp_le (tgt := 16) X dX7_applicant_7 (by decide) (fun h_7 => ?_) (fun h_7 => ?_)
    · replace h := (if_pos h_7).symm.trans h
      refine a_aload_n X dX7_applicant_16 rfl ?_
      refine a_iload_n X dX7_applicant_17 rfl ?_
      obtain ⟨e_18, f_18, h⟩ := zBx h
      refine a_callVx X dX7_applicant_18 miX7_isApplicant lm7_206 (t_X7_isApplicant (by first | exact hP | assumption) f_18) (by first | exact p_o | assumption) rfl rfl rfl (Nat.le_of_ble_eq_true rfl) ⟨by decide, by decide, by decide, by decide⟩ (fun r_18 S_18 q_18 => ?_)
      obtain ⟨rfl, rfl, b_18⟩ := q_18
      refine a_if_ne (tgt := 30) X dX7_applicant_21 (by decide) (fun h_21 => ?_) (fun h_21 => ?_)
      · replace h := (if_neg h_21).symm.trans h
        refine a_iload_n X dX7_applicant_30 rfl ?_
        refine a_tsw (tg := [68, 84, 100, 116, 132, 148]) (td := 164) X dX7_applicant_31 (by decide +kernel) (by decide) (by decide) (fun k_31 t_31 ht_31 hx_31 => ?_) (fun hx_31 => ?_)
        · match k_31, ht_31, hx_31 with
          | 0, ht_31, hx_31 =>
            cases ht_31
            replace h := (if_pos (by omega)).symm.trans h
            refine a_aload_n X dX7_applicant_68 rfl ?_
            refine a_aload_n X dX7_applicant_69 rfl ?_
            refine a_getr X lf7_40 (by first | exact p_o | assumption) rfl (by omega) dX7_applicant_70 ?_
            refine a_getr X lf7_209 (by first | exact p_pool_o | assumption) rfl (by omega) dX7_applicant_73 ?_
            refine a_iload_n X dX7_applicant_76 rfl ?_
            refine a_callSv X dX7_applicant_77 miX7_cell lm7_175 (c_cell (by first | exact p_pool_size | assumption) (by decide)) rfl rfl (Nat.le_of_ble_eq_true rfl) ⟨by decide, by decide, by decide, by decide⟩ ?_
            obtain ⟨e_80, f_80, h⟩ := zBx h
            refine a_callVv X dX7_applicant_80 miX7_answer lm7_134 (t_X7_answer (by first | exact hP | assumption) f_80) (by first | exact p_o | assumption) rfl rfl rfl (Nat.le_of_ble_eq_true rfl) ⟨by decide, by decide, by decide, by decide⟩ ?_
            refine a_iret X hr dX7_applicant_83 ⟨by decide, by decide⟩ ?_
            subst hF
            rw [← Option.some.inj h]
            exact ⟨rfl, rfl⟩
          | 1, ht_31, hx_31 =>
            cases ht_31
            replace h := (if_neg (by omega)).symm.trans h
            replace h := (if_pos (by omega)).symm.trans h
            refine a_aload_n X dX7_applicant_84 rfl ?_
            refine a_aload_n X dX7_applicant_85 rfl ?_
            refine a_getr X lf7_40 (by first | exact p_o | assumption) rfl (by omega) dX7_applicant_86 ?_
            refine a_getr X lf7_212 (by first | exact p_pool_o | assumption) rfl (by omega) dX7_applicant_89 ?_
            refine a_iload_n X dX7_applicant_92 rfl ?_
            refine a_callSv X dX7_applicant_93 miX7_cell lm7_175 (c_cell (by first | exact p_pool_guestCount | assumption) (by decide)) rfl rfl (Nat.le_of_ble_eq_true rfl) ⟨by decide, by decide, by decide, by decide⟩ ?_
            obtain ⟨e_96, f_96, h⟩ := zBx h
            refine a_callVv X dX7_applicant_96 miX7_answer lm7_134 (t_X7_answer (by first | exact hP | assumption) f_96) (by first | exact p_o | assumption) rfl rfl rfl (Nat.le_of_ble_eq_true rfl) ⟨by decide, by decide, by decide, by decide⟩ ?_
            refine a_iret X hr dX7_applicant_99 ⟨by decide, by decide⟩ ?_
            subst hF
            rw [← Option.some.inj h]
            exact ⟨rfl, rfl⟩
          | 2, ht_31, hx_31 =>
            cases ht_31
            replace h := (if_neg (by omega)).symm.trans h
            replace h := (if_neg (by omega)).symm.trans h
            replace h := (if_pos (by omega)).symm.trans h
            refine a_aload_n X dX7_applicant_100 rfl ?_
            refine a_aload_n X dX7_applicant_101 rfl ?_
            refine a_getr X lf7_40 (by first | exact p_o | assumption) rfl (by omega) dX7_applicant_102 ?_
            refine a_getr X lf7_215 (by first | exact p_pool_o | assumption) rfl (by omega) dX7_applicant_105 ?_
            refine a_iload_n X dX7_applicant_108 rfl ?_
            refine a_callSv X dX7_applicant_109 miX7_cell lm7_175 (c_cell (by first | exact p_pool_score | assumption) (by decide)) rfl rfl (Nat.le_of_ble_eq_true rfl) ⟨by decide, by decide, by decide, by decide⟩ ?_
            obtain ⟨e_112, f_112, h⟩ := zBx h
            refine a_callVv X dX7_applicant_112 miX7_answer lm7_134 (t_X7_answer (by first | exact hP | assumption) f_112) (by first | exact p_o | assumption) rfl rfl rfl (Nat.le_of_ble_eq_true rfl) ⟨by decide, by decide, by decide, by decide⟩ ?_
            refine a_iret X hr dX7_applicant_115 ⟨by decide, by decide⟩ ?_
            subst hF
            rw [← Option.some.inj h]
            exact ⟨rfl, rfl⟩
          | 3, ht_31, hx_31 =>
            cases ht_31
            replace h := (if_neg (by omega)).symm.trans h
            replace h := (if_neg (by omega)).symm.trans h
            replace h := (if_neg (by omega)).symm.trans h
            replace h := (if_pos (by omega)).symm.trans h
            refine a_aload_n X dX7_applicant_116 rfl ?_
            refine a_aload_n X dX7_applicant_117 rfl ?_
            refine a_getr X lf7_40 (by first | exact p_o | assumption) rfl (by omega) dX7_applicant_118 ?_
            refine a_getr X lf7_216 (by first | exact p_pool_o | assumption) rfl (by omega) dX7_applicant_121 ?_
            refine a_iload_n X dX7_applicant_124 rfl ?_
            refine a_callSv X dX7_applicant_125 miX7_cell lm7_175 (c_cell (by first | exact p_pool_tickets | assumption) (by decide)) rfl rfl (Nat.le_of_ble_eq_true rfl) ⟨by decide, by decide, by decide, by decide⟩ ?_
            obtain ⟨e_128, f_128, h⟩ := zBx h
            refine a_callVv X dX7_applicant_128 miX7_answer lm7_134 (t_X7_answer (by first | exact hP | assumption) f_128) (by first | exact p_o | assumption) rfl rfl rfl (Nat.le_of_ble_eq_true rfl) ⟨by decide, by decide, by decide, by decide⟩ ?_
            refine a_iret X hr dX7_applicant_131 ⟨by decide, by decide⟩ ?_
            subst hF
            rw [← Option.some.inj h]
            exact ⟨rfl, rfl⟩
          | 4, ht_31, hx_31 =>
            cases ht_31
            replace h := (if_neg (by omega)).symm.trans h
            replace h := (if_neg (by omega)).symm.trans h
            replace h := (if_neg (by omega)).symm.trans h
            replace h := (if_neg (by omega)).symm.trans h
            replace h := (if_pos (by omega)).symm.trans h
            refine a_aload_n X dX7_applicant_132 rfl ?_
            refine a_aload_n X dX7_applicant_133 rfl ?_
            refine a_getr X lf7_40 (by first | exact p_o | assumption) rfl (by omega) dX7_applicant_134 ?_
            refine a_getr X lf7_219 (by first | exact p_pool_o | assumption) rfl (by omega) dX7_applicant_137 ?_
            refine a_iload_n X dX7_applicant_140 rfl ?_
            refine a_callSv X dX7_applicant_141 miX7_cell lm7_175 (c_cell (by first | exact p_pool_wishCount | assumption) (by decide)) rfl rfl (Nat.le_of_ble_eq_true rfl) ⟨by decide, by decide, by decide, by decide⟩ ?_
            obtain ⟨e_144, f_144, h⟩ := zBx h
            refine a_callVv X dX7_applicant_144 miX7_answer lm7_134 (t_X7_answer (by first | exact hP | assumption) f_144) (by first | exact p_o | assumption) rfl rfl rfl (Nat.le_of_ble_eq_true rfl) ⟨by decide, by decide, by decide, by decide⟩ ?_
            refine a_iret X hr dX7_applicant_147 ⟨by decide, by decide⟩ ?_
            subst hF
            rw [← Option.some.inj h]
            exact ⟨rfl, rfl⟩
          | 5, ht_31, hx_31 =>
            cases ht_31
            replace h := (if_neg (by omega)).symm.trans h
            replace h := (if_neg (by omega)).symm.trans h
            replace h := (if_neg (by omega)).symm.trans h
            replace h := (if_neg (by omega)).symm.trans h
            replace h := (if_neg (by omega)).symm.trans h
            replace h := (if_pos (by omega)).symm.trans h
            refine a_aload_n X dX7_applicant_148 rfl ?_
            refine a_aload_n X dX7_applicant_149 rfl ?_
            refine a_getr X lf7_40 (by first | exact p_o | assumption) rfl (by omega) dX7_applicant_150 ?_
            refine a_getr X lf7_222 (by first | exact p_pool_o | assumption) rfl (by omega) dX7_applicant_153 ?_
            refine a_iload_n X dX7_applicant_156 rfl ?_
            refine a_callSv X dX7_applicant_157 miX7_cell lm7_175 (c_cell (by first | exact p_pool_bits | assumption) (by decide)) rfl rfl (Nat.le_of_ble_eq_true rfl) ⟨by decide, by decide, by decide, by decide⟩ ?_
            obtain ⟨e_160, f_160, h⟩ := zBx h
            refine a_callVv X dX7_applicant_160 miX7_answer lm7_134 (t_X7_answer (by first | exact hP | assumption) f_160) (by first | exact p_o | assumption) rfl rfl rfl (Nat.le_of_ble_eq_true rfl) ⟨by decide, by decide, by decide, by decide⟩ ?_
            refine a_iret X hr dX7_applicant_163 ⟨by decide, by decide⟩ ?_
            subst hF
            rw [← Option.some.inj h]
            exact ⟨rfl, rfl⟩
        · skip
          replace h := (if_neg (by omega)).symm.trans h
          replace h := (if_neg (by omega)).symm.trans h
          replace h := (if_neg (by omega)).symm.trans h
          replace h := (if_neg (by omega)).symm.trans h
          replace h := (if_neg (by omega)).symm.trans h
          replace h := (if_neg (by omega)).symm.trans h
          refine a_aload_n X dX7_applicant_164 rfl ?_
          refine a_aload_n X dX7_applicant_165 rfl ?_
          refine a_getr X lf7_40 (by first | exact p_o | assumption) rfl (by omega) dX7_applicant_166 ?_
          refine a_getr X lf7_225 (by first | exact p_pool_o | assumption) rfl (by omega) dX7_applicant_169 ?_
          refine a_iload_n X dX7_applicant_172 rfl ?_
          refine a_callSv X dX7_applicant_173 miX7_cell lm7_175 (c_cell (by first | exact p_pool_party | assumption) (by decide)) rfl rfl (Nat.le_of_ble_eq_true rfl) ⟨by decide, by decide, by decide, by decide⟩ ?_
          obtain ⟨e_176, f_176, h⟩ := zBx h
          refine a_callVv X dX7_applicant_176 miX7_answer lm7_134 (t_X7_answer (by first | exact hP | assumption) f_176) (by first | exact p_o | assumption) rfl rfl rfl (Nat.le_of_ble_eq_true rfl) ⟨by decide, by decide, by decide, by decide⟩ ?_
          refine a_iret X hr dX7_applicant_179 ⟨by decide, by decide⟩ ?_
          subst hF
          rw [← Option.some.inj h]
          exact ⟨rfl, rfl⟩
      · replace h := (if_pos h_21).symm.trans h
        refine a_aload_n X dX7_applicant_24 rfl ?_
        refine a_iconst (v := 2) X dX7_applicant_25 (by decide) ?_
        obtain ⟨e_26, f_26, h⟩ := zBx h
        refine a_callVv X dX7_applicant_26 miX7_refuse lm7_102 (t_X7_refuse (by first | exact hP | assumption) f_26) (by first | exact p_o | assumption) rfl rfl rfl (Nat.le_of_ble_eq_true rfl) ⟨by decide, by decide, by decide, by decide⟩ ?_
        refine a_iret X hr dX7_applicant_29 ⟨by decide, by decide⟩ ?_
        subst hF
        rw [← Option.some.inj h]
        exact ⟨rfl, rfl⟩
    · replace h := (if_neg h_7).symm.trans h
      exact Zw.to2 (J_10 _ _ _ h) rfl rfl rfl
noncomputable def D_X7_choice (P : Nat) (v0 : Int32) (v1 : Int32) (M : zMt) : Option (Int32 × zMt) :=
  if 0 ≤ v1 then
    zB (D_X7_isApplicant P M v0) fun e_12 =>
    if e_12 = 0 then
      zB (D_X7_refuse P (2 : Int32) M) fun e_20 =>
      some (e_20.1, e_20.2)
    else
      if v1 < (zrd 0 (M (P + 102)) 10 v0) then
        zB (D_X2_wish (P + 91) M v0 v1) fun e_52 =>
        zB (D_X7_answer P e_52 M) fun e_55 =>
        some (e_55.1, e_55.2)
      else
        zB (D_X7_refuse P (5 : Int32) M) fun e_41 =>
        some (e_41.1, e_41.2)
  else
    zB (D_X7_refuse P (1 : Int32) M) fun e_6 =>
    some (e_6.1, e_6.2)
set_option maxRecDepth 100000 in
set_option maxHeartbeats 4000000 in
theorem t_X7_choice {l : Launch} {G : zG} {b : Nat} {L : List zC} {M : zMt} {N : zNt} {P : Nat} {v0 : Int32} {v1 : Int32} (hP : LX7 L P) {r : Int32 × zMt} (h : D_X7_choice P v0 v1 M = some r) : zM l G b yX7_choice cX7_choice 3 (some .int) 2 0 0 [.ref P, .int v0, .int v1] (L, M, N) (fun r2 z => r2 = some (.int r.1) ∧ z = (L, r.2, N)) := by
  refine zM.of miX7_choice (Nat.le_of_ble_eq_true rfl) ?_
  intro p e s m args below meth c X hr hname
  generalize hF : ((fun r2 z => r2 = some (.int r.1) ∧ z = (L, r.2, N)) : Option Value → zS → Prop) = FQ
  change Zw p l e { frames := 2, cells := 0, slots := 0, locals := 36 * (2) } s m args below meth c G b 3 (MQ below (zQ G b FQ) args s 0 0 (fun q : Nat => b ≤ q)) 0 0 0 [some (.ref P), some (.int v0), some (.int v1)] [] (L, M, N)
  have p_lt := hP.1
  have p_o := hP.2.1
  have p_pool := hP.2.2.2.2.2.2.2.1
  have p_pool_lt := p_pool.1
  have p_pool_o := p_pool.2.1
  have p_pool_wishCount := p_pool.2.2.2.2.2.2.2.2.2.2.2.2.1
  unfold D_X7_choice at h
  refine a_iload_n X dX7_choice_0 rfl ?_
  refine a_if_ge (tgt := 10) X dX7_choice_1 (by decide) (fun h_1 => ?_) (fun h_1 => ?_)
  · replace h := (if_pos h_1).symm.trans h
    refine a_aload_n X dX7_choice_10 rfl ?_
    refine a_iload_n X dX7_choice_11 rfl ?_
    obtain ⟨e_12, f_12, h⟩ := zBx h
    refine a_callVx X dX7_choice_12 miX7_isApplicant lm7_206 (t_X7_isApplicant (by first | exact hP | assumption) f_12) (by first | exact p_o | assumption) rfl rfl rfl (Nat.le_of_ble_eq_true rfl) ⟨by decide, by decide, by decide, by decide⟩ (fun r_12 S_12 q_12 => ?_)
    obtain ⟨rfl, rfl, b_12⟩ := q_12
    refine a_if_ne (tgt := 24) X dX7_choice_15 (by decide) (fun h_15 => ?_) (fun h_15 => ?_)
    · replace h := (if_neg h_15).symm.trans h
      refine a_iload_n X dX7_choice_24 rfl ?_
      refine a_aload_n X dX7_choice_25 rfl ?_
      refine a_getr X lf7_40 (by first | exact p_o | assumption) rfl (by omega) dX7_choice_26 ?_
      refine a_getr X lf7_219 (by first | exact p_pool_o | assumption) rfl (by omega) dX7_choice_29 ?_
      refine a_iload_n X dX7_choice_32 rfl ?_
      refine a_callSv X dX7_choice_33 miX7_cell lm7_175 (c_cell (by first | exact p_pool_wishCount | assumption) (by decide)) rfl rfl (Nat.le_of_ble_eq_true rfl) ⟨by decide, by decide, by decide, by decide⟩ ?_
      refine a_icmp_lt (tgt := 45) X dX7_choice_36 (by decide) (fun h_36 => ?_) (fun h_36 => ?_)
      · replace h := (if_pos h_36).symm.trans h
        refine a_aload_n X dX7_choice_45 rfl ?_
        refine a_aload_n X dX7_choice_46 rfl ?_
        refine a_getr X lf7_40 (by first | exact p_o | assumption) rfl (by omega) dX7_choice_47 ?_
        refine a_iload_n X dX7_choice_50 rfl ?_
        refine a_iload_n X dX7_choice_51 rfl ?_
        obtain ⟨e_52, f_52, h⟩ := zBx h
        refine a_callVv X dX7_choice_52 miX2_wish lm7_226 (t_X2_wish (by first | exact p_pool | assumption) f_52) (by first | exact p_pool_o | assumption) rfl rfl rfl (Nat.le_of_ble_eq_true rfl) ⟨by decide, by decide, by decide, by decide⟩ ?_
        obtain ⟨e_55, f_55, h⟩ := zBx h
        refine a_callVv X dX7_choice_55 miX7_answer lm7_134 (t_X7_answer (by first | exact hP | assumption) f_55) (by first | exact p_o | assumption) rfl rfl rfl (Nat.le_of_ble_eq_true rfl) ⟨by decide, by decide, by decide, by decide⟩ ?_
        refine a_iret X hr dX7_choice_58 ⟨by decide, by decide⟩ ?_
        subst hF
        rw [← Option.some.inj h]
        exact ⟨rfl, rfl⟩
      · replace h := (if_neg h_36).symm.trans h
        refine a_aload_n X dX7_choice_39 rfl ?_
        refine a_iconst (v := 5) X dX7_choice_40 (by decide) ?_
        obtain ⟨e_41, f_41, h⟩ := zBx h
        refine a_callVv X dX7_choice_41 miX7_refuse lm7_102 (t_X7_refuse (by first | exact hP | assumption) f_41) (by first | exact p_o | assumption) rfl rfl rfl (Nat.le_of_ble_eq_true rfl) ⟨by decide, by decide, by decide, by decide⟩ ?_
        refine a_iret X hr dX7_choice_44 ⟨by decide, by decide⟩ ?_
        subst hF
        rw [← Option.some.inj h]
        exact ⟨rfl, rfl⟩
    · replace h := (if_pos h_15).symm.trans h
      refine a_aload_n X dX7_choice_18 rfl ?_
      refine a_iconst (v := 2) X dX7_choice_19 (by decide) ?_
      obtain ⟨e_20, f_20, h⟩ := zBx h
      refine a_callVv X dX7_choice_20 miX7_refuse lm7_102 (t_X7_refuse (by first | exact hP | assumption) f_20) (by first | exact p_o | assumption) rfl rfl rfl (Nat.le_of_ble_eq_true rfl) ⟨by decide, by decide, by decide, by decide⟩ ?_
      refine a_iret X hr dX7_choice_23 ⟨by decide, by decide⟩ ?_
      subst hF
      rw [← Option.some.inj h]
      exact ⟨rfl, rfl⟩
  · replace h := (if_neg h_1).symm.trans h
    refine a_aload_n X dX7_choice_4 rfl ?_
    refine a_iconst (v := 1) X dX7_choice_5 (by decide) ?_
    obtain ⟨e_6, f_6, h⟩ := zBx h
    refine a_callVv X dX7_choice_6 miX7_refuse lm7_102 (t_X7_refuse (by first | exact hP | assumption) f_6) (by first | exact p_o | assumption) rfl rfl rfl (Nat.le_of_ble_eq_true rfl) ⟨by decide, by decide, by decide, by decide⟩ ?_
    refine a_iret X hr dX7_choice_9 ⟨by decide, by decide⟩ ?_
    subst hF
    rw [← Option.some.inj h]
    exact ⟨rfl, rfl⟩
noncomputable def D_X7_isSeed_16  (y0_16 : Int32) : Option (Int32) :=
  some (y0_16)
noncomputable def D_X7_isSeed_15   : Option (Int32) :=
  D_X7_isSeed_16 (0 : Int32)
noncomputable def D_X7_isSeed  (v0 : Int32) : Option (Int32) :=
  if v0 < 0 then
    D_X7_isSeed_15
  else
    if (999999999 : Int32) < v0 then
      D_X7_isSeed_15
    else
      D_X7_isSeed_16 (1 : Int32)
set_option maxRecDepth 100000 in
set_option maxHeartbeats 4000000 in
theorem t_X7_isSeed {l : Launch} {G : zG} {b : Nat} {L : List zC} {M : zMt} {N : zNt}  {v0 : Int32}  {r : Int32} (h : D_X7_isSeed v0 = some r) : zM l G b yX7_isSeed cX7_isSeed 1 (some .boolean) 0 0 0 [.int v0] (L, M, N) (fun r2 z => r2 = some (.int r) ∧ z = (L, M, N) ∧ (r = 0 ∨ r = 1)) := by
  refine zM.of miX7_isSeed (Nat.le_of_ble_eq_true rfl) ?_
  intro p e s m args below meth c X hr hname
  generalize hF : ((fun r2 z => r2 = some (.int r) ∧ z = (L, M, N) ∧ (r = 0 ∨ r = 1)) : Option Value → zS → Prop) = FQ
  change Zw p l e { frames := 0, cells := 0, slots := 0, locals := 36 * (0) } s m args below meth c G b 1 (MQ below (zQ G b FQ) args s 0 0 (fun q : Nat => b ≤ q)) 0 0 0 [some (.int v0)] [] (L, M, N)
  have J_16 : ∀ (x0_16 : Int32) (y0_16 : Int32), (y0_16 = 0 ∨ y0_16 = 1) → D_X7_isSeed_16 y0_16 = some r → Zw p l e { frames := 0, cells := 0, slots := 0, locals := 36 * (0) } s m args below meth c G b 1 (MQ below (zQ G b FQ) args s 0 0 (fun q : Nat => b ≤ q)) 0 0 16 [some (.int x0_16)] [.int y0_16] (L, M, N) := by
    intro x0_16 y0_16 fb_y0_16 h
    unfold D_X7_isSeed_16 at h
    refine a_zret X (by first | exact Or.inl rfl | exact Or.inr rfl | assumption) hr dX7_isSeed_16 ⟨by decide, by decide⟩ ?_
    subst hF
    rw [← Option.some.inj h]
    exact ⟨rfl, rfl, (by first | exact Or.inl rfl | exact Or.inr rfl | assumption)⟩
  have J_15 : ∀ (x0_15 : Int32), D_X7_isSeed_15 = some r → Zw p l e { frames := 0, cells := 0, slots := 0, locals := 36 * (0) } s m args below meth c G b 1 (MQ below (zQ G b FQ) args s 0 0 (fun q : Nat => b ≤ q)) 0 0 15 [some (.int x0_15)] [] (L, M, N) := by
    intro x0_15 h
    unfold D_X7_isSeed_15 at h
    refine a_iconst (v := 0) X dX7_isSeed_15 (by decide) ?_
    exact Zw.to2 (J_16 _ _ (by first | exact Or.inl rfl | exact Or.inr rfl | assumption) h) rfl rfl rfl
  unfold D_X7_isSeed at h
  refine a_iload_n X dX7_isSeed_0 rfl ?_
  refine a_if_lt (tgt := 15) X dX7_isSeed_1 (by decide) (fun h_1 => ?_) (fun h_1 => ?_)
  · replace h := (if_pos h_1).symm.trans h
    exact Zw.to2 (J_15 _ h) rfl rfl rfl
  · replace h := (if_neg h_1).symm.trans h
    refine a_iload_n X dX7_isSeed_4 rfl ?_
    refine a_ldcw X dX7_isSeed_5 lk7_395 ?_
    refine a_icmp_gt (tgt := 15) X dX7_isSeed_8 (by decide) (fun h_8 => ?_) (fun h_8 => ?_)
    · replace h := (if_pos h_8).symm.trans h
      exact Zw.to2 (J_15 _ h) rfl rfl rfl
    · replace h := (if_neg h_8).symm.trans h
      refine a_iconst (v := 1) X dX7_isSeed_11 (by decide) ?_
      refine a_goto (tgt := 16) X dX7_isSeed_12 (by decide) ?_
      exact Zw.to2 (J_16 _ _ (by first | exact Or.inl rfl | exact Or.inr rfl | assumption) h) rfl rfl rfl
noncomputable def D_X7_order_11 (P : Nat) (M_11 : zMt) : Option (Int32 × zMt) :=
  zB (D_X7_refuse P (1 : Int32) M_11) fun e_13 =>
  some (e_13.1, e_13.2)
noncomputable def D_X7_order (P : Nat) (v0 : Int32) (v1 : Int32) (M : zMt) : Option (Int32 × zMt) :=
  zB (D_X7_isSeed v0) fun e_1 =>
  if e_1 = 0 then
    D_X7_order_11 P M
  else
    if 0 ≤ v1 then
      if v1 < (M (P + 91) 1) then
        zB (D_X5_lineUp (P + 104) (P + 91) v0 M) fun e_43 =>
        zB (D_X7_answer P (zrd 0 (e_43 (P + 105)) 10 v1) e_43) fun e_58 =>
        some (e_58.1, e_58.2)
      else
        zB (D_X7_refuse P (5 : Int32) M) fun e_30 =>
        some (e_30.1, e_30.2)
    else
      D_X7_order_11 P M
set_option maxRecDepth 100000 in
set_option maxHeartbeats 4000000 in
theorem t_X7_order {l : Launch} {G : zG} {b : Nat} {L : List zC} {M : zMt} {N : zNt} {P : Nat} {v0 : Int32} {v1 : Int32} (hP : LX7 L P) {r : Int32 × zMt} (h : D_X7_order P v0 v1 M = some r) : zM l G b yX7_order cX7_order 3 (some .int) 3 0 0 [.ref P, .int v0, .int v1] (L, M, N) (fun r2 z => r2 = some (.int r.1) ∧ z = (L, r.2, N)) := by
  refine zM.of miX7_order (Nat.le_of_ble_eq_true rfl) ?_
  intro p e s m args below meth c X hr hname
  generalize hF : ((fun r2 z => r2 = some (.int r.1) ∧ z = (L, r.2, N)) : Option Value → zS → Prop) = FQ
  change Zw p l e { frames := 3, cells := 0, slots := 0, locals := 36 * (3) } s m args below meth c G b 3 (MQ below (zQ G b FQ) args s 0 0 (fun q : Nat => b ≤ q)) 0 0 0 [some (.ref P), some (.int v0), some (.int v1)] [] (L, M, N)
  have p_lt := hP.1
  have p_o := hP.2.1
  have p_pool := hP.2.2.2.2.2.2.2.1
  have p_pool_lt := p_pool.1
  have p_pool_o := p_pool.2.1
  have p_result := hP.2.2.2.2.2.2.2.2.1
  have p_result_lt := p_result.1
  have p_result_o := p_result.2.1
  have p_result_line := p_result.2.2.1
  have J_11 : ∀ (x1_11 : Int32) (x2_11 : Int32) (M_11 : zMt), D_X7_order_11 P M_11 = some r → Zw p l e { frames := 3, cells := 0, slots := 0, locals := 36 * (3) } s m args below meth c G b 3 (MQ below (zQ G b FQ) args s 0 0 (fun q : Nat => b ≤ q)) 0 0 11 [some (.ref (P)), some (.int x1_11), some (.int x2_11)] [] (L, M_11, N) := by
    intro x1_11 x2_11 M_11 h
    unfold D_X7_order_11 at h
    refine a_aload_n X dX7_order_11 rfl ?_
    refine a_iconst (v := 1) X dX7_order_12 (by decide) ?_
    obtain ⟨e_13, f_13, h⟩ := zBx h
    refine a_callVv X dX7_order_13 miX7_refuse lm7_102 (t_X7_refuse (by first | exact hP | assumption) f_13) (by first | exact p_o | assumption) rfl rfl rfl (Nat.le_of_ble_eq_true rfl) ⟨by decide, by decide, by decide, by decide⟩ ?_
    refine a_iret X hr dX7_order_16 ⟨by decide, by decide⟩ ?_
    subst hF
    rw [← Option.some.inj h]
    exact ⟨rfl, rfl⟩
  unfold D_X7_order at h
  refine a_iload_n X dX7_order_0 rfl ?_
  obtain ⟨e_1, f_1, h⟩ := zBx h
  refine a_callSx X dX7_order_1 miX7_isSeed lm7_237 (t_X7_isSeed f_1) rfl rfl (Nat.le_of_ble_eq_true rfl) ⟨by decide, by decide, by decide, by decide⟩ (fun r_1 S_1 q_1 => ?_)
  obtain ⟨rfl, rfl, b_1⟩ := q_1
  refine a_if_eq (tgt := 11) X dX7_order_4 (by decide) (fun h_4 => ?_) (fun h_4 => ?_)
  · replace h := (if_pos h_4).symm.trans h
    exact Zw.to2 (J_11 _ _ _ h) rfl rfl rfl
  · replace h := (if_neg h_4).symm.trans h
    refine a_iload_n X dX7_order_7 rfl ?_
    refine a_if_ge (tgt := 17) X dX7_order_8 (by decide) (fun h_8 => ?_) (fun h_8 => ?_)
    · replace h := (if_pos h_8).symm.trans h
      refine a_iload_n X dX7_order_17 rfl ?_
      refine a_aload_n X dX7_order_18 rfl ?_
      refine a_getr X lf7_40 (by first | exact p_o | assumption) rfl (by omega) dX7_order_19 ?_
      refine a_geti X lf7_140 (by first | exact p_pool_o | assumption) rfl dX7_order_22 ?_
      refine a_icmp_lt (tgt := 34) X dX7_order_25 (by decide) (fun h_25 => ?_) (fun h_25 => ?_)
      · replace h := (if_pos h_25).symm.trans h
        refine a_aload_n X dX7_order_34 rfl ?_
        refine a_getr X lf7_47 (by first | exact p_o | assumption) rfl (by omega) dX7_order_35 ?_
        refine a_aload_n X dX7_order_38 rfl ?_
        refine a_getr X lf7_40 (by first | exact p_o | assumption) rfl (by omega) dX7_order_39 ?_
        refine a_iload_n X dX7_order_42 rfl ?_
        obtain ⟨e_43, f_43, h⟩ := zBx h
        refine a_callVu X dX7_order_43 miX5_lineUp lm7_240 (t_X5_lineUp (by first | exact p_result | assumption) (by first | exact p_pool | assumption) f_43) (by first | exact p_result_o | assumption) rfl rfl rfl (Nat.le_of_ble_eq_true rfl) ⟨by decide, by decide, by decide, by decide⟩ ?_
        refine a_aload_n X dX7_order_46 rfl ?_
        refine a_aload_n X dX7_order_47 rfl ?_
        refine a_getr X lf7_47 (by first | exact p_o | assumption) rfl (by omega) dX7_order_48 ?_
        refine a_getr X lf7_244 (by first | exact p_result_o | assumption) rfl (by omega) dX7_order_51 ?_
        refine a_iload_n X dX7_order_54 rfl ?_
        refine a_callSv X dX7_order_55 miX7_cell lm7_175 (c_cell (by first | exact p_result_line | assumption) (by decide)) rfl rfl (Nat.le_of_ble_eq_true rfl) ⟨by decide, by decide, by decide, by decide⟩ ?_
        obtain ⟨e_58, f_58, h⟩ := zBx h
        refine a_callVv X dX7_order_58 miX7_answer lm7_134 (t_X7_answer (by first | exact hP | assumption) f_58) (by first | exact p_o | assumption) rfl rfl rfl (Nat.le_of_ble_eq_true rfl) ⟨by decide, by decide, by decide, by decide⟩ ?_
        refine a_iret X hr dX7_order_61 ⟨by decide, by decide⟩ ?_
        subst hF
        rw [← Option.some.inj h]
        exact ⟨rfl, rfl⟩
      · replace h := (if_neg h_25).symm.trans h
        refine a_aload_n X dX7_order_28 rfl ?_
        refine a_iconst (v := 5) X dX7_order_29 (by decide) ?_
        obtain ⟨e_30, f_30, h⟩ := zBx h
        refine a_callVv X dX7_order_30 miX7_refuse lm7_102 (t_X7_refuse (by first | exact hP | assumption) f_30) (by first | exact p_o | assumption) rfl rfl rfl (Nat.le_of_ble_eq_true rfl) ⟨by decide, by decide, by decide, by decide⟩ ?_
        refine a_iret X hr dX7_order_33 ⟨by decide, by decide⟩ ?_
        subst hF
        rw [← Option.some.inj h]
        exact ⟨rfl, rfl⟩
    · replace h := (if_neg h_8).symm.trans h
      exact Zw.to2 (J_11 _ _ _ h) rfl rfl rfl
noncomputable def D_X7_drawn_69 (P : Nat) (y0_69 : Int32) (M_69 : zMt) : Option (Int32 × zMt) :=
  some (y0_69, M_69)
noncomputable def D_X7_drawn (P : Nat) (v0 : Int32) (v1 : Int32) (M : zMt) : Option (Int32 × zMt) :=
  zB (D_X7_isSeed v0) fun e_1 =>
  if e_1 = 0 then
    zB (D_X7_refuse P (1 : Int32) M) fun e_9 =>
    some (e_9.1, e_9.2)
  else
    zB (D_X7_isApplicant P M v1) fun e_15 =>
    if e_15 = 0 then
      zB (D_X7_refuse P (2 : Int32) M) fun e_23 =>
      some (e_23.1, e_23.2)
    else
      zB (D_X5_bySeed (P + 104) (P + 91) v0 M) fun e_36 =>
      if (zrd 0 (e_36 (P + 106)) 10 v1) = (-1 : Int32) then
        zB (D_X7_refuse P (5 : Int32) e_36) fun e_58 =>
        D_X7_drawn_69 P e_58.1 e_58.2
      else
        zB (D_X7_answer P (zrd 0 (e_36 (P + 106)) 10 v1) e_36) fun e_66 =>
        D_X7_drawn_69 P e_66.1 e_66.2
set_option maxRecDepth 100000 in
set_option maxHeartbeats 4000000 in
theorem t_X7_drawn {l : Launch} {G : zG} {b : Nat} {L : List zC} {M : zMt} {N : zNt} {P : Nat} {v0 : Int32} {v1 : Int32} (hP : LX7 L P) {r : Int32 × zMt} (h : D_X7_drawn P v0 v1 M = some r) : zM l G b yX7_drawn cX7_drawn 4 (some .int) 5 0 0 [.ref P, .int v0, .int v1] (L, M, N) (fun r2 z => r2 = some (.int r.1) ∧ z = (L, r.2, N)) := by
  refine zM.of miX7_drawn (Nat.le_of_ble_eq_true rfl) ?_
  intro p e s m args below meth c X hr hname
  generalize hF : ((fun r2 z => r2 = some (.int r.1) ∧ z = (L, r.2, N)) : Option Value → zS → Prop) = FQ
  change Zw p l e { frames := 5, cells := 0, slots := 0, locals := 36 * (5) } s m args below meth c G b 4 (MQ below (zQ G b FQ) args s 0 0 (fun q : Nat => b ≤ q)) 0 0 0 [some (.ref P), some (.int v0), some (.int v1), none] [] (L, M, N)
  have p_lt := hP.1
  have p_o := hP.2.1
  have p_pool := hP.2.2.2.2.2.2.2.1
  have p_pool_lt := p_pool.1
  have p_pool_o := p_pool.2.1
  have p_result := hP.2.2.2.2.2.2.2.2.1
  have p_result_lt := p_result.1
  have p_result_o := p_result.2.1
  have p_result_unitOf := p_result.2.2.2.1
  have J_69 : ∀ (x1_69 : Int32) (x2_69 : Int32) (x3_69 : Int32) (y0_69 : Int32) (M_69 : zMt), D_X7_drawn_69 P y0_69 M_69 = some r → Zw p l e { frames := 5, cells := 0, slots := 0, locals := 36 * (5) } s m args below meth c G b 4 (MQ below (zQ G b FQ) args s 0 0 (fun q : Nat => b ≤ q)) 0 0 69 [some (.ref (P)), some (.int x1_69), some (.int x2_69), some (.int x3_69)] [.int y0_69] (L, M_69, N) := by
    intro x1_69 x2_69 x3_69 y0_69 M_69 h
    unfold D_X7_drawn_69 at h
    refine a_iret X hr dX7_drawn_69 ⟨by decide, by decide⟩ ?_
    subst hF
    rw [← Option.some.inj h]
    exact ⟨rfl, rfl⟩
  unfold D_X7_drawn at h
  refine a_iload_n X dX7_drawn_0 rfl ?_
  obtain ⟨e_1, f_1, h⟩ := zBx h
  refine a_callSx X dX7_drawn_1 miX7_isSeed lm7_237 (t_X7_isSeed f_1) rfl rfl (Nat.le_of_ble_eq_true rfl) ⟨by decide, by decide, by decide, by decide⟩ (fun r_1 S_1 q_1 => ?_)
  obtain ⟨rfl, rfl, b_1⟩ := q_1
  refine a_if_ne (tgt := 13) X dX7_drawn_4 (by decide) (fun h_4 => ?_) (fun h_4 => ?_)
  · replace h := (if_neg h_4).symm.trans h
    refine a_aload_n X dX7_drawn_13 rfl ?_
    refine a_iload_n X dX7_drawn_14 rfl ?_
    obtain ⟨e_15, f_15, h⟩ := zBx h
    refine a_callVx X dX7_drawn_15 miX7_isApplicant lm7_206 (t_X7_isApplicant (by first | exact hP | assumption) f_15) (by first | exact p_o | assumption) rfl rfl rfl (Nat.le_of_ble_eq_true rfl) ⟨by decide, by decide, by decide, by decide⟩ (fun r_15 S_15 q_15 => ?_)
    obtain ⟨rfl, rfl, b_15⟩ := q_15
    refine a_if_ne (tgt := 27) X dX7_drawn_18 (by decide) (fun h_18 => ?_) (fun h_18 => ?_)
    · replace h := (if_neg h_18).symm.trans h
      refine a_aload_n X dX7_drawn_27 rfl ?_
      refine a_getr X lf7_47 (by first | exact p_o | assumption) rfl (by omega) dX7_drawn_28 ?_
      refine a_aload_n X dX7_drawn_31 rfl ?_
      refine a_getr X lf7_40 (by first | exact p_o | assumption) rfl (by omega) dX7_drawn_32 ?_
      refine a_iload_n X dX7_drawn_35 rfl ?_
      obtain ⟨e_36, f_36, h⟩ := zBx h
      refine a_callVu X dX7_drawn_36 miX5_bySeed lm7_247 (t_X5_bySeed (by first | exact p_result | assumption) (by first | exact p_pool | assumption) f_36) (by first | exact p_result_o | assumption) rfl rfl rfl (Nat.le_of_ble_eq_true rfl) ⟨by decide, by decide, by decide, by decide⟩ ?_
      refine a_aload_n X dX7_drawn_39 rfl ?_
      refine a_getr X lf7_47 (by first | exact p_o | assumption) rfl (by omega) dX7_drawn_40 ?_
      refine a_getr X lf7_250 (by first | exact p_result_o | assumption) rfl (by omega) dX7_drawn_43 ?_
      refine a_iload_n X dX7_drawn_46 rfl ?_
      refine a_callSv X dX7_drawn_47 miX7_cell lm7_175 (c_cell (by first | exact p_result_unitOf | assumption) (by decide)) rfl rfl (Nat.le_of_ble_eq_true rfl) ⟨by decide, by decide, by decide, by decide⟩ ?_
      refine a_istore_n X dX7_drawn_50 (by decide) ?_
      refine a_iload_n X dX7_drawn_51 rfl ?_
      refine a_iconst (v := -1) X dX7_drawn_52 (by decide) ?_
      refine a_icmp_ne (tgt := 64) X dX7_drawn_53 (by decide) (fun h_53 => ?_) (fun h_53 => ?_)
      · replace h := (if_neg h_53).symm.trans h
        refine a_aload_n X dX7_drawn_64 rfl ?_
        refine a_iload_n X dX7_drawn_65 rfl ?_
        obtain ⟨e_66, f_66, h⟩ := zBx h
        refine a_callVv X dX7_drawn_66 miX7_answer lm7_134 (t_X7_answer (by first | exact hP | assumption) f_66) (by first | exact p_o | assumption) rfl rfl rfl (Nat.le_of_ble_eq_true rfl) ⟨by decide, by decide, by decide, by decide⟩ ?_
        exact Zw.to2 (J_69 _ _ _ _ _ h) rfl rfl rfl
      · replace h := (if_pos h_53).symm.trans h
        refine a_aload_n X dX7_drawn_56 rfl ?_
        refine a_iconst (v := 5) X dX7_drawn_57 (by decide) ?_
        obtain ⟨e_58, f_58, h⟩ := zBx h
        refine a_callVv X dX7_drawn_58 miX7_refuse lm7_102 (t_X7_refuse (by first | exact hP | assumption) f_58) (by first | exact p_o | assumption) rfl rfl rfl (Nat.le_of_ble_eq_true rfl) ⟨by decide, by decide, by decide, by decide⟩ ?_
        refine a_goto (tgt := 69) X dX7_drawn_61 (by decide) ?_
        exact Zw.to2 (J_69 _ _ _ _ _ h) rfl rfl rfl
    · replace h := (if_pos h_18).symm.trans h
      refine a_aload_n X dX7_drawn_21 rfl ?_
      refine a_iconst (v := 2) X dX7_drawn_22 (by decide) ?_
      obtain ⟨e_23, f_23, h⟩ := zBx h
      refine a_callVv X dX7_drawn_23 miX7_refuse lm7_102 (t_X7_refuse (by first | exact hP | assumption) f_23) (by first | exact p_o | assumption) rfl rfl rfl (Nat.le_of_ble_eq_true rfl) ⟨by decide, by decide, by decide, by decide⟩ ?_
      refine a_iret X hr dX7_drawn_26 ⟨by decide, by decide⟩ ?_
      subst hF
      rw [← Option.some.inj h]
      exact ⟨rfl, rfl⟩
  · replace h := (if_pos h_4).symm.trans h
    refine a_aload_n X dX7_drawn_7 rfl ?_
    refine a_iconst (v := 1) X dX7_drawn_8 (by decide) ?_
    obtain ⟨e_9, f_9, h⟩ := zBx h
    refine a_callVv X dX7_drawn_9 miX7_refuse lm7_102 (t_X7_refuse (by first | exact hP | assumption) f_9) (by first | exact p_o | assumption) rfl rfl rfl (Nat.le_of_ble_eq_true rfl) ⟨by decide, by decide, by decide, by decide⟩ ?_
    refine a_iret X hr dX7_drawn_12 ⟨by decide, by decide⟩ ?_
    subst hF
    rw [← Option.some.inj h]
    exact ⟨rfl, rfl⟩
noncomputable def D_X7_round_77 (P : Nat) (y0_77 : Int32) (M_77 : zMt) : Option (Int32 × zMt) :=
  some (y0_77, M_77)
noncomputable def D_X7_round (P : Nat) (v0 : Int32) (v1 : Int32) (M : zMt) : Option (Int32 × zMt) :=
  zB (D_X7_isSeed v0) fun e_1 =>
  if e_1 = 0 then
    zB (D_X7_refuse P (1 : Int32) M) fun e_9 =>
    some (e_9.1, e_9.2)
  else
    zB (D_X7_isApplicant P M v1) fun e_15 =>
    if e_15 = 0 then
      zB (D_X7_refuse P (2 : Int32) M) fun e_23 =>
      some (e_23.1, e_23.2)
    else
      zB (D_X5_bySeed (P + 104) (P + 91) v0 M) fun e_36 =>
      if (zrd 0 (e_36 (P + 106)) 10 v1) = (-1 : Int32) then
        zB (D_X7_refuse P (5 : Int32) e_36) fun e_56 =>
        D_X7_round_77 P e_56.1 e_56.2
      else
        zB (D_X7_answer P (zrd 0 (e_36 (P + 107)) 10 v1) e_36) fun e_74 =>
        D_X7_round_77 P e_74.1 e_74.2
set_option maxRecDepth 100000 in
set_option maxHeartbeats 4000000 in
theorem t_X7_round {l : Launch} {G : zG} {b : Nat} {L : List zC} {M : zMt} {N : zNt} {P : Nat} {v0 : Int32} {v1 : Int32} (hP : LX7 L P) {r : Int32 × zMt} (h : D_X7_round P v0 v1 M = some r) : zM l G b yX7_round cX7_round 3 (some .int) 5 0 0 [.ref P, .int v0, .int v1] (L, M, N) (fun r2 z => r2 = some (.int r.1) ∧ z = (L, r.2, N)) := by
  refine zM.of miX7_round (Nat.le_of_ble_eq_true rfl) ?_
  intro p e s m args below meth c X hr hname
  generalize hF : ((fun r2 z => r2 = some (.int r.1) ∧ z = (L, r.2, N)) : Option Value → zS → Prop) = FQ
  change Zw p l e { frames := 5, cells := 0, slots := 0, locals := 36 * (5) } s m args below meth c G b 3 (MQ below (zQ G b FQ) args s 0 0 (fun q : Nat => b ≤ q)) 0 0 0 [some (.ref P), some (.int v0), some (.int v1)] [] (L, M, N)
  have p_lt := hP.1
  have p_o := hP.2.1
  have p_pool := hP.2.2.2.2.2.2.2.1
  have p_pool_lt := p_pool.1
  have p_pool_o := p_pool.2.1
  have p_result := hP.2.2.2.2.2.2.2.2.1
  have p_result_lt := p_result.1
  have p_result_o := p_result.2.1
  have p_result_unitOf := p_result.2.2.2.1
  have p_result_roundOf := p_result.2.2.2.2.1
  have J_77 : ∀ (x1_77 : Int32) (x2_77 : Int32) (y0_77 : Int32) (M_77 : zMt), D_X7_round_77 P y0_77 M_77 = some r → Zw p l e { frames := 5, cells := 0, slots := 0, locals := 36 * (5) } s m args below meth c G b 3 (MQ below (zQ G b FQ) args s 0 0 (fun q : Nat => b ≤ q)) 0 0 77 [some (.ref (P)), some (.int x1_77), some (.int x2_77)] [.int y0_77] (L, M_77, N) := by
    intro x1_77 x2_77 y0_77 M_77 h
    unfold D_X7_round_77 at h
    refine a_iret X hr dX7_round_77 ⟨by decide, by decide⟩ ?_
    subst hF
    rw [← Option.some.inj h]
    exact ⟨rfl, rfl⟩
  unfold D_X7_round at h
  refine a_iload_n X dX7_round_0 rfl ?_
  obtain ⟨e_1, f_1, h⟩ := zBx h
  refine a_callSx X dX7_round_1 miX7_isSeed lm7_237 (t_X7_isSeed f_1) rfl rfl (Nat.le_of_ble_eq_true rfl) ⟨by decide, by decide, by decide, by decide⟩ (fun r_1 S_1 q_1 => ?_)
  obtain ⟨rfl, rfl, b_1⟩ := q_1
  refine a_if_ne (tgt := 13) X dX7_round_4 (by decide) (fun h_4 => ?_) (fun h_4 => ?_)
  · replace h := (if_neg h_4).symm.trans h
    refine a_aload_n X dX7_round_13 rfl ?_
    refine a_iload_n X dX7_round_14 rfl ?_
    obtain ⟨e_15, f_15, h⟩ := zBx h
    refine a_callVx X dX7_round_15 miX7_isApplicant lm7_206 (t_X7_isApplicant (by first | exact hP | assumption) f_15) (by first | exact p_o | assumption) rfl rfl rfl (Nat.le_of_ble_eq_true rfl) ⟨by decide, by decide, by decide, by decide⟩ (fun r_15 S_15 q_15 => ?_)
    obtain ⟨rfl, rfl, b_15⟩ := q_15
    refine a_if_ne (tgt := 27) X dX7_round_18 (by decide) (fun h_18 => ?_) (fun h_18 => ?_)
    · replace h := (if_neg h_18).symm.trans h
      refine a_aload_n X dX7_round_27 rfl ?_
      refine a_getr X lf7_47 (by first | exact p_o | assumption) rfl (by omega) dX7_round_28 ?_
      refine a_aload_n X dX7_round_31 rfl ?_
      refine a_getr X lf7_40 (by first | exact p_o | assumption) rfl (by omega) dX7_round_32 ?_
      refine a_iload_n X dX7_round_35 rfl ?_
      obtain ⟨e_36, f_36, h⟩ := zBx h
      refine a_callVu X dX7_round_36 miX5_bySeed lm7_247 (t_X5_bySeed (by first | exact p_result | assumption) (by first | exact p_pool | assumption) f_36) (by first | exact p_result_o | assumption) rfl rfl rfl (Nat.le_of_ble_eq_true rfl) ⟨by decide, by decide, by decide, by decide⟩ ?_
      refine a_aload_n X dX7_round_39 rfl ?_
      refine a_getr X lf7_47 (by first | exact p_o | assumption) rfl (by omega) dX7_round_40 ?_
      refine a_getr X lf7_250 (by first | exact p_result_o | assumption) rfl (by omega) dX7_round_43 ?_
      refine a_iload_n X dX7_round_46 rfl ?_
      refine a_callSv X dX7_round_47 miX7_cell lm7_175 (c_cell (by first | exact p_result_unitOf | assumption) (by decide)) rfl rfl (Nat.le_of_ble_eq_true rfl) ⟨by decide, by decide, by decide, by decide⟩ ?_
      refine a_iconst (v := -1) X dX7_round_50 (by decide) ?_
      refine a_icmp_ne (tgt := 62) X dX7_round_51 (by decide) (fun h_51 => ?_) (fun h_51 => ?_)
      · replace h := (if_neg h_51).symm.trans h
        refine a_aload_n X dX7_round_62 rfl ?_
        refine a_aload_n X dX7_round_63 rfl ?_
        refine a_getr X lf7_47 (by first | exact p_o | assumption) rfl (by omega) dX7_round_64 ?_
        refine a_getr X lf7_253 (by first | exact p_result_o | assumption) rfl (by omega) dX7_round_67 ?_
        refine a_iload_n X dX7_round_70 rfl ?_
        refine a_callSv X dX7_round_71 miX7_cell lm7_175 (c_cell (by first | exact p_result_roundOf | assumption) (by decide)) rfl rfl (Nat.le_of_ble_eq_true rfl) ⟨by decide, by decide, by decide, by decide⟩ ?_
        obtain ⟨e_74, f_74, h⟩ := zBx h
        refine a_callVv X dX7_round_74 miX7_answer lm7_134 (t_X7_answer (by first | exact hP | assumption) f_74) (by first | exact p_o | assumption) rfl rfl rfl (Nat.le_of_ble_eq_true rfl) ⟨by decide, by decide, by decide, by decide⟩ ?_
        exact Zw.to2 (J_77 _ _ _ _ h) rfl rfl rfl
      · replace h := (if_pos h_51).symm.trans h
        refine a_aload_n X dX7_round_54 rfl ?_
        refine a_iconst (v := 5) X dX7_round_55 (by decide) ?_
        obtain ⟨e_56, f_56, h⟩ := zBx h
        refine a_callVv X dX7_round_56 miX7_refuse lm7_102 (t_X7_refuse (by first | exact hP | assumption) f_56) (by first | exact p_o | assumption) rfl rfl rfl (Nat.le_of_ble_eq_true rfl) ⟨by decide, by decide, by decide, by decide⟩ ?_
        refine a_goto (tgt := 77) X dX7_round_59 (by decide) ?_
        exact Zw.to2 (J_77 _ _ _ _ h) rfl rfl rfl
    · replace h := (if_pos h_18).symm.trans h
      refine a_aload_n X dX7_round_21 rfl ?_
      refine a_iconst (v := 2) X dX7_round_22 (by decide) ?_
      obtain ⟨e_23, f_23, h⟩ := zBx h
      refine a_callVv X dX7_round_23 miX7_refuse lm7_102 (t_X7_refuse (by first | exact hP | assumption) f_23) (by first | exact p_o | assumption) rfl rfl rfl (Nat.le_of_ble_eq_true rfl) ⟨by decide, by decide, by decide, by decide⟩ ?_
      refine a_iret X hr dX7_round_26 ⟨by decide, by decide⟩ ?_
      subst hF
      rw [← Option.some.inj h]
      exact ⟨rfl, rfl⟩
  · replace h := (if_pos h_4).symm.trans h
    refine a_aload_n X dX7_round_7 rfl ?_
    refine a_iconst (v := 1) X dX7_round_8 (by decide) ?_
    obtain ⟨e_9, f_9, h⟩ := zBx h
    refine a_callVv X dX7_round_9 miX7_refuse lm7_102 (t_X7_refuse (by first | exact hP | assumption) f_9) (by first | exact p_o | assumption) rfl rfl rfl (Nat.le_of_ble_eq_true rfl) ⟨by decide, by decide, by decide, by decide⟩ ?_
    refine a_iret X hr dX7_round_12 ⟨by decide, by decide⟩ ?_
    subst hF
    rw [← Option.some.inj h]
    exact ⟨rfl, rfl⟩
noncomputable def D_X7_left_159 (P : Nat) (y0_159 : Int32) (M_159 : zMt) : Option (Int32 × zMt) :=
  some (y0_159, M_159)
noncomputable def D_X7_left_16 (P : Nat) (M_16 : zMt) : Option (Int32 × zMt) :=
  zB (D_X7_refuse P (1 : Int32) M_16) fun e_18 =>
  some (e_18.1, e_18.2)
noncomputable def D_X7_left (P : Nat) (v0 : Int32) (v1 : Int32) (v2 : Int32) (M : zMt) : Option (Int32 × zMt) :=
  zB (D_X7_isSeed v0) fun e_1 =>
  if e_1 = 0 then
    D_X7_left_16 P M
  else
    if v2 < 0 then
      D_X7_left_16 P M
    else
      if v2 ≤ (3 : Int32) then
        zB (D_X7_isUnit P M v1) fun e_24 =>
        if e_24 = 0 then
          zB (D_X7_refuse P (2 : Int32) M) fun e_32 =>
          some (e_32.1, e_32.2)
        else
          zB (D_X5_bySeed (P + 104) (P + 91) v0 M) fun e_45 =>
          if Int32.toInt v2 = 0 then
            zB (D_X7_answer P (zrd 0 (e_45 (P + 108)) 5 v1) e_45) fun e_88 =>
            some (e_88.1, e_88.2)
          else
          if Int32.toInt v2 = 1 then
            zB (D_X7_answer P (zrd 0 (e_45 (P + 109)) 5 v1) e_45) fun e_104 =>
            some (e_104.1, e_104.2)
          else
          if Int32.toInt v2 = 2 then
            zB (D_X5_holders (P + 104) (P + 91) e_45 v1) fun e_118 =>
            zB (D_X7_answer P e_118 e_45) fun e_121 =>
            some (e_121.1, e_121.2)
          else
            zB (D_X5_fewestPoints (P + 104) (P + 91) e_45 v1) fun e_134 =>
            if e_134 = (-1 : Int32) then
              zB (D_X7_refuse P (5 : Int32) e_45) fun e_147 =>
              D_X7_left_159 P e_147.1 e_147.2
            else
              zB (D_X7_answer P e_134 e_45) fun e_156 =>
              D_X7_left_159 P e_156.1 e_156.2
      else
        D_X7_left_16 P M
set_option maxRecDepth 100000 in
set_option maxHeartbeats 4000000 in
theorem t_X7_left {l : Launch} {G : zG} {b : Nat} {L : List zC} {M : zMt} {N : zNt} {P : Nat} {v0 : Int32} {v1 : Int32} {v2 : Int32} (hP : LX7 L P) {r : Int32 × zMt} (h : D_X7_left P v0 v1 v2 M = some r) : zM l G b yX7_left cX7_left 5 (some .int) 5 0 0 [.ref P, .int v0, .int v1, .int v2] (L, M, N) (fun r2 z => r2 = some (.int r.1) ∧ z = (L, r.2, N)) := by
  refine zM.of miX7_left (Nat.le_of_ble_eq_true rfl) ?_
  intro p e s m args below meth c X hr hname
  generalize hF : ((fun r2 z => r2 = some (.int r.1) ∧ z = (L, r.2, N)) : Option Value → zS → Prop) = FQ
  change Zw p l e { frames := 5, cells := 0, slots := 0, locals := 36 * (5) } s m args below meth c G b 5 (MQ below (zQ G b FQ) args s 0 0 (fun q : Nat => b ≤ q)) 0 0 0 [some (.ref P), some (.int v0), some (.int v1), some (.int v2), none] [] (L, M, N)
  have p_lt := hP.1
  have p_o := hP.2.1
  have p_pool := hP.2.2.2.2.2.2.2.1
  have p_pool_lt := p_pool.1
  have p_pool_o := p_pool.2.1
  have p_result := hP.2.2.2.2.2.2.2.2.1
  have p_result_lt := p_result.1
  have p_result_o := p_result.2.1
  have p_result_leftTags := p_result.2.2.2.2.2.1
  have p_result_leftGuests := p_result.2.2.2.2.2.2.1
  have J_159 : ∀ (x1_159 : Int32) (x2_159 : Int32) (x3_159 : Int32) (x4_159 : Int32) (y0_159 : Int32) (M_159 : zMt), D_X7_left_159 P y0_159 M_159 = some r → Zw p l e { frames := 5, cells := 0, slots := 0, locals := 36 * (5) } s m args below meth c G b 5 (MQ below (zQ G b FQ) args s 0 0 (fun q : Nat => b ≤ q)) 0 0 159 [some (.ref (P)), some (.int x1_159), some (.int x2_159), some (.int x3_159), some (.int x4_159)] [.int y0_159] (L, M_159, N) := by
    intro x1_159 x2_159 x3_159 x4_159 y0_159 M_159 h
    unfold D_X7_left_159 at h
    refine a_iret X hr dX7_left_159 ⟨by decide, by decide⟩ ?_
    subst hF
    rw [← Option.some.inj h]
    exact ⟨rfl, rfl⟩
  have J_16 : ∀ (x1_16 : Int32) (x2_16 : Int32) (x3_16 : Int32) (x4_16 : Option Value) (M_16 : zMt), D_X7_left_16 P M_16 = some r → Zw p l e { frames := 5, cells := 0, slots := 0, locals := 36 * (5) } s m args below meth c G b 5 (MQ below (zQ G b FQ) args s 0 0 (fun q : Nat => b ≤ q)) 0 0 16 [some (.ref (P)), some (.int x1_16), some (.int x2_16), some (.int x3_16), x4_16] [] (L, M_16, N) := by
    intro x1_16 x2_16 x3_16 x4_16 M_16 h
    unfold D_X7_left_16 at h
    refine a_aload_n X dX7_left_16 rfl ?_
    refine a_iconst (v := 1) X dX7_left_17 (by decide) ?_
    obtain ⟨e_18, f_18, h⟩ := zBx h
    refine a_callVv X dX7_left_18 miX7_refuse lm7_102 (t_X7_refuse (by first | exact hP | assumption) f_18) (by first | exact p_o | assumption) rfl rfl rfl (Nat.le_of_ble_eq_true rfl) ⟨by decide, by decide, by decide, by decide⟩ ?_
    refine a_iret X hr dX7_left_21 ⟨by decide, by decide⟩ ?_
    subst hF
    rw [← Option.some.inj h]
    exact ⟨rfl, rfl⟩
  unfold D_X7_left at h
  refine a_iload_n X dX7_left_0 rfl ?_
  obtain ⟨e_1, f_1, h⟩ := zBx h
  refine a_callSx X dX7_left_1 miX7_isSeed lm7_237 (t_X7_isSeed f_1) rfl rfl (Nat.le_of_ble_eq_true rfl) ⟨by decide, by decide, by decide, by decide⟩ (fun r_1 S_1 q_1 => ?_)
  obtain ⟨rfl, rfl, b_1⟩ := q_1
  refine a_if_eq (tgt := 16) X dX7_left_4 (by decide) (fun h_4 => ?_) (fun h_4 => ?_)
  · replace h := (if_pos h_4).symm.trans h
    exact Zw.to2 (J_16 _ _ _ _ _ h) rfl rfl rfl
  · replace h := (if_neg h_4).symm.trans h
    refine a_iload_n X dX7_left_7 rfl ?_
    refine a_if_lt (tgt := 16) X dX7_left_8 (by decide) (fun h_8 => ?_) (fun h_8 => ?_)
    · replace h := (if_pos h_8).symm.trans h
      exact Zw.to2 (J_16 _ _ _ _ _ h) rfl rfl rfl
    · replace h := (if_neg h_8).symm.trans h
      refine a_iload_n X dX7_left_11 rfl ?_
      refine a_iconst (v := 3) X dX7_left_12 (by decide) ?_
      refine a_icmp_le (tgt := 22) X dX7_left_13 (by decide) (fun h_13 => ?_) (fun h_13 => ?_)
      · replace h := (if_pos h_13).symm.trans h
        refine a_aload_n X dX7_left_22 rfl ?_
        refine a_iload_n X dX7_left_23 rfl ?_
        obtain ⟨e_24, f_24, h⟩ := zBx h
        refine a_callVx X dX7_left_24 miX7_isUnit lm7_188 (t_X7_isUnit (by first | exact hP | assumption) f_24) (by first | exact p_o | assumption) rfl rfl rfl (Nat.le_of_ble_eq_true rfl) ⟨by decide, by decide, by decide, by decide⟩ (fun r_24 S_24 q_24 => ?_)
        obtain ⟨rfl, rfl, b_24⟩ := q_24
        refine a_if_ne (tgt := 36) X dX7_left_27 (by decide) (fun h_27 => ?_) (fun h_27 => ?_)
        · replace h := (if_neg h_27).symm.trans h
          refine a_aload_n X dX7_left_36 rfl ?_
          refine a_getr X lf7_47 (by first | exact p_o | assumption) rfl (by omega) dX7_left_37 ?_
          refine a_aload_n X dX7_left_40 rfl ?_
          refine a_getr X lf7_40 (by first | exact p_o | assumption) rfl (by omega) dX7_left_41 ?_
          refine a_iload_n X dX7_left_44 rfl ?_
          obtain ⟨e_45, f_45, h⟩ := zBx h
          refine a_callVu X dX7_left_45 miX5_bySeed lm7_247 (t_X5_bySeed (by first | exact p_result | assumption) (by first | exact p_pool | assumption) f_45) (by first | exact p_result_o | assumption) rfl rfl rfl (Nat.le_of_ble_eq_true rfl) ⟨by decide, by decide, by decide, by decide⟩ ?_
          refine a_iload_n X dX7_left_48 rfl ?_
          refine a_tsw (tg := [76, 92, 108]) (td := 125) X dX7_left_49 (by decide +kernel) (by decide) (by decide) (fun k_49 t_49 ht_49 hx_49 => ?_) (fun hx_49 => ?_)
          · match k_49, ht_49, hx_49 with
            | 0, ht_49, hx_49 =>
              cases ht_49
              replace h := (if_pos (by omega)).symm.trans h
              refine a_aload_n X dX7_left_76 rfl ?_
              refine a_aload_n X dX7_left_77 rfl ?_
              refine a_getr X lf7_47 (by first | exact p_o | assumption) rfl (by omega) dX7_left_78 ?_
              refine a_getr X lf7_256 (by first | exact p_result_o | assumption) rfl (by omega) dX7_left_81 ?_
              refine a_iload_n X dX7_left_84 rfl ?_
              refine a_callSv X dX7_left_85 miX7_cell lm7_175 (c_cell (by first | exact p_result_leftTags | assumption) (by decide)) rfl rfl (Nat.le_of_ble_eq_true rfl) ⟨by decide, by decide, by decide, by decide⟩ ?_
              obtain ⟨e_88, f_88, h⟩ := zBx h
              refine a_callVv X dX7_left_88 miX7_answer lm7_134 (t_X7_answer (by first | exact hP | assumption) f_88) (by first | exact p_o | assumption) rfl rfl rfl (Nat.le_of_ble_eq_true rfl) ⟨by decide, by decide, by decide, by decide⟩ ?_
              refine a_iret X hr dX7_left_91 ⟨by decide, by decide⟩ ?_
              subst hF
              rw [← Option.some.inj h]
              exact ⟨rfl, rfl⟩
            | 1, ht_49, hx_49 =>
              cases ht_49
              replace h := (if_neg (by omega)).symm.trans h
              replace h := (if_pos (by omega)).symm.trans h
              refine a_aload_n X dX7_left_92 rfl ?_
              refine a_aload_n X dX7_left_93 rfl ?_
              refine a_getr X lf7_47 (by first | exact p_o | assumption) rfl (by omega) dX7_left_94 ?_
              refine a_getr X lf7_259 (by first | exact p_result_o | assumption) rfl (by omega) dX7_left_97 ?_
              refine a_iload_n X dX7_left_100 rfl ?_
              refine a_callSv X dX7_left_101 miX7_cell lm7_175 (c_cell (by first | exact p_result_leftGuests | assumption) (by decide)) rfl rfl (Nat.le_of_ble_eq_true rfl) ⟨by decide, by decide, by decide, by decide⟩ ?_
              obtain ⟨e_104, f_104, h⟩ := zBx h
              refine a_callVv X dX7_left_104 miX7_answer lm7_134 (t_X7_answer (by first | exact hP | assumption) f_104) (by first | exact p_o | assumption) rfl rfl rfl (Nat.le_of_ble_eq_true rfl) ⟨by decide, by decide, by decide, by decide⟩ ?_
              refine a_iret X hr dX7_left_107 ⟨by decide, by decide⟩ ?_
              subst hF
              rw [← Option.some.inj h]
              exact ⟨rfl, rfl⟩
            | 2, ht_49, hx_49 =>
              cases ht_49
              replace h := (if_neg (by omega)).symm.trans h
              replace h := (if_neg (by omega)).symm.trans h
              replace h := (if_pos (by omega)).symm.trans h
              refine a_aload_n X dX7_left_108 rfl ?_
              refine a_aload_n X dX7_left_109 rfl ?_
              refine a_getr X lf7_47 (by first | exact p_o | assumption) rfl (by omega) dX7_left_110 ?_
              refine a_aload_n X dX7_left_113 rfl ?_
              refine a_getr X lf7_40 (by first | exact p_o | assumption) rfl (by omega) dX7_left_114 ?_
              refine a_iload_n X dX7_left_117 rfl ?_
              obtain ⟨e_118, f_118, h⟩ := zBx h
              refine a_callVv X dX7_left_118 miX5_holders lm7_262 (t_X5_holders (by first | exact p_result | assumption) (by first | exact p_pool | assumption) f_118) (by first | exact p_result_o | assumption) rfl rfl rfl (Nat.le_of_ble_eq_true rfl) ⟨by decide, by decide, by decide, by decide⟩ ?_
              obtain ⟨e_121, f_121, h⟩ := zBx h
              refine a_callVv X dX7_left_121 miX7_answer lm7_134 (t_X7_answer (by first | exact hP | assumption) f_121) (by first | exact p_o | assumption) rfl rfl rfl (Nat.le_of_ble_eq_true rfl) ⟨by decide, by decide, by decide, by decide⟩ ?_
              refine a_iret X hr dX7_left_124 ⟨by decide, by decide⟩ ?_
              subst hF
              rw [← Option.some.inj h]
              exact ⟨rfl, rfl⟩
          · skip
            replace h := (if_neg (by omega)).symm.trans h
            replace h := (if_neg (by omega)).symm.trans h
            replace h := (if_neg (by omega)).symm.trans h
            refine a_aload_n X dX7_left_125 rfl ?_
            refine a_getr X lf7_47 (by first | exact p_o | assumption) rfl (by omega) dX7_left_126 ?_
            refine a_aload_n X dX7_left_129 rfl ?_
            refine a_getr X lf7_40 (by first | exact p_o | assumption) rfl (by omega) dX7_left_130 ?_
            refine a_iload_n X dX7_left_133 rfl ?_
            obtain ⟨e_134, f_134, h⟩ := zBx h
            refine a_callVv X dX7_left_134 miX5_fewestPoints lm7_266 (t_X5_fewestPoints (by first | exact p_result | assumption) (by first | exact p_pool | assumption) f_134) (by first | exact p_result_o | assumption) rfl rfl rfl (Nat.le_of_ble_eq_true rfl) ⟨by decide, by decide, by decide, by decide⟩ ?_
            refine a_istore X dX7_left_137 (by decide) ?_
            refine a_iload X dX7_left_139 rfl ?_
            refine a_iconst (v := -1) X dX7_left_141 (by decide) ?_
            refine a_icmp_ne (tgt := 153) X dX7_left_142 (by decide) (fun h_142 => ?_) (fun h_142 => ?_)
            · replace h := (if_neg h_142).symm.trans h
              refine a_aload_n X dX7_left_153 rfl ?_
              refine a_iload X dX7_left_154 rfl ?_
              obtain ⟨e_156, f_156, h⟩ := zBx h
              refine a_callVv X dX7_left_156 miX7_answer lm7_134 (t_X7_answer (by first | exact hP | assumption) f_156) (by first | exact p_o | assumption) rfl rfl rfl (Nat.le_of_ble_eq_true rfl) ⟨by decide, by decide, by decide, by decide⟩ ?_
              exact Zw.to2 (J_159 _ _ _ _ _ _ h) rfl rfl rfl
            · replace h := (if_pos h_142).symm.trans h
              refine a_aload_n X dX7_left_145 rfl ?_
              refine a_iconst (v := 5) X dX7_left_146 (by decide) ?_
              obtain ⟨e_147, f_147, h⟩ := zBx h
              refine a_callVv X dX7_left_147 miX7_refuse lm7_102 (t_X7_refuse (by first | exact hP | assumption) f_147) (by first | exact p_o | assumption) rfl rfl rfl (Nat.le_of_ble_eq_true rfl) ⟨by decide, by decide, by decide, by decide⟩ ?_
              refine a_goto (tgt := 159) X dX7_left_150 (by decide) ?_
              exact Zw.to2 (J_159 _ _ _ _ _ _ h) rfl rfl rfl
        · replace h := (if_pos h_27).symm.trans h
          refine a_aload_n X dX7_left_30 rfl ?_
          refine a_iconst (v := 2) X dX7_left_31 (by decide) ?_
          obtain ⟨e_32, f_32, h⟩ := zBx h
          refine a_callVv X dX7_left_32 miX7_refuse lm7_102 (t_X7_refuse (by first | exact hP | assumption) f_32) (by first | exact p_o | assumption) rfl rfl rfl (Nat.le_of_ble_eq_true rfl) ⟨by decide, by decide, by decide, by decide⟩ ?_
          refine a_iret X hr dX7_left_35 ⟨by decide, by decide⟩ ?_
          subst hF
          rw [← Option.some.inj h]
          exact ⟨rfl, rfl⟩
      · replace h := (if_neg h_13).symm.trans h
        exact Zw.to2 (J_16 _ _ _ _ _ h) rfl rfl rfl
noncomputable def D_X7_winners_69 (P : Nat) (k29 : Int32 → Int32 → zMt → Option (Int32 × zMt)) (x2_69 : Int32) (x3_69 : Int32) (M_69 : zMt) : Option (Int32 × zMt) :=
  k29 x2_69 (x3_69 + 1) M_69
noncomputable def D_X7_winners_29 (P : Nat) : Nat → Int32 → Int32 → zMt → Option (Int32 × zMt)
  | 0, _, _, _ => none
  | n + 1, x2_29, x3_29, M_29 =>
    if (M_29 (P + 91) 1) ≤ x3_29 then
      zB (D_X7_answer P x2_29 M_29) fun e_77 =>
      some (e_77.1, e_77.2)
    else
      if (zrd 0 (M_29 (P + 106)) 10 x3_29) = (-1 : Int32) then
        D_X7_winners_69 P (D_X7_winners_29 P n) x2_29 x3_29 M_29
      else
        D_X7_winners_69 P (D_X7_winners_29 P n) (x2_29 ||| (zrd 0 (M_29 (P + 100)) 10 x3_29)) x3_29 M_29
noncomputable def D_X7_winners (P : Nat) (v0 : Int32) (M : zMt) : Option (Int32 × zMt) :=
  zB (D_X7_isSeed v0) fun e_1 =>
  if e_1 = 0 then
    zB (D_X7_refuse P (1 : Int32) M) fun e_9 =>
    some (e_9.1, e_9.2)
  else
    zB (D_X5_bySeed (P + 104) (P + 91) v0 M) fun e_22 =>
    D_X7_winners_29 P zFu (0 : Int32) (0 : Int32) e_22
set_option maxRecDepth 100000 in
set_option maxHeartbeats 4000000 in
theorem t_X7_winners {l : Launch} {G : zG} {b : Nat} {L : List zC} {M : zMt} {N : zNt} {P : Nat} {v0 : Int32} (hP : LX7 L P) {r : Int32 × zMt} (h : D_X7_winners P v0 M = some r) : zM l G b yX7_winners cX7_winners 4 (some .int) 5 0 0 [.ref P, .int v0] (L, M, N) (fun r2 z => r2 = some (.int r.1) ∧ z = (L, r.2, N)) := by
  refine zM.of miX7_winners (Nat.le_of_ble_eq_true rfl) ?_
  intro p e s m args below meth c X hr hname
  generalize hF : ((fun r2 z => r2 = some (.int r.1) ∧ z = (L, r.2, N)) : Option Value → zS → Prop) = FQ
  change Zw p l e { frames := 5, cells := 0, slots := 0, locals := 36 * (5) } s m args below meth c G b 4 (MQ below (zQ G b FQ) args s 0 0 (fun q : Nat => b ≤ q)) 0 0 0 [some (.ref P), some (.int v0), none, none] [] (L, M, N)
  have p_lt := hP.1
  have p_o := hP.2.1
  have p_pool := hP.2.2.2.2.2.2.2.1
  have p_pool_lt := p_pool.1
  have p_pool_o := p_pool.2.1
  have p_pool_bits := p_pool.2.2.2.2.2.2.2.2.2.2.1
  have p_result := hP.2.2.2.2.2.2.2.2.1
  have p_result_lt := p_result.1
  have p_result_o := p_result.2.1
  have p_result_unitOf := p_result.2.2.2.1
  have L_29 : ∀ u : Nat, ∀ (x1_29 : Int32) (x2_29 : Int32) (x3_29 : Int32) (M_29 : zMt), D_X7_winners_29 P u x2_29 x3_29 M_29 = some r → Zw p l e { frames := 5, cells := 0, slots := 0, locals := 36 * (5) } s m args below meth c G b 4 (MQ below (zQ G b FQ) args s 0 0 (fun q : Nat => b ≤ q)) 0 0 29 [some (.ref (P)), some (.int x1_29), some (.int x2_29), some (.int x3_29)] [] (L, M_29, N) := by
    intro u
    induction u with
    | zero => intro x1_29 x2_29 x3_29 M_29 h; cases (show none = some r from h)
    | succ u_29 ih_29 =>
      have J_69 : ∀ (x1_69 : Int32) (x2_69 : Int32) (x3_69 : Int32) (M_69 : zMt), D_X7_winners_69 P (D_X7_winners_29 P u_29) x2_69 x3_69 M_69 = some r → Zw p l e { frames := 5, cells := 0, slots := 0, locals := 36 * (5) } s m args below meth c G b 4 (MQ below (zQ G b FQ) args s 0 0 (fun q : Nat => b ≤ q)) 0 0 69 [some (.ref (P)), some (.int x1_69), some (.int x2_69), some (.int x3_69)] [] (L, M_69, N) := by
        intro x1_69 x2_69 x3_69 M_69 h
        unfold D_X7_winners_69 at h
        refine a_iinc (v := x3_69 + 1) X dX7_winners_69 (by decide) rfl zi_1 ?_
        refine a_goto (tgt := 29) X dX7_winners_72 (by decide) ?_
        exact Zw.to2 (ih_29 _ _ _ _ h) rfl rfl rfl
      intro x1_29 x2_29 x3_29 M_29 h
      rw [D_X7_winners_29] at h
      refine a_iload_n X dX7_winners_29 rfl ?_
      refine a_aload_n X dX7_winners_30 rfl ?_
      refine a_getr X lf7_40 (by first | exact p_o | assumption) rfl (by omega) dX7_winners_31 ?_
      refine a_geti X lf7_140 (by first | exact p_pool_o | assumption) rfl dX7_winners_34 ?_
      refine a_icmp_ge (tgt := 75) X dX7_winners_37 (by decide) (fun h_37 => ?_) (fun h_37 => ?_)
      · replace h := (if_pos h_37).symm.trans h
        refine a_aload_n X dX7_winners_75 rfl ?_
        refine a_iload_n X dX7_winners_76 rfl ?_
        obtain ⟨e_77, f_77, h⟩ := zBx h
        refine a_callVv X dX7_winners_77 miX7_answer lm7_134 (t_X7_answer (by first | exact hP | assumption) f_77) (by first | exact p_o | assumption) rfl rfl rfl (Nat.le_of_ble_eq_true rfl) ⟨by decide, by decide, by decide, by decide⟩ ?_
        refine a_iret X hr dX7_winners_80 ⟨by decide, by decide⟩ ?_
        subst hF
        rw [← Option.some.inj h]
        exact ⟨rfl, rfl⟩
      · replace h := (if_neg h_37).symm.trans h
        refine a_aload_n X dX7_winners_40 rfl ?_
        refine a_getr X lf7_47 (by first | exact p_o | assumption) rfl (by omega) dX7_winners_41 ?_
        refine a_getr X lf7_250 (by first | exact p_result_o | assumption) rfl (by omega) dX7_winners_44 ?_
        refine a_iload_n X dX7_winners_47 rfl ?_
        refine a_callSv X dX7_winners_48 miX7_cell lm7_175 (c_cell (by first | exact p_result_unitOf | assumption) (by decide)) rfl rfl (Nat.le_of_ble_eq_true rfl) ⟨by decide, by decide, by decide, by decide⟩ ?_
        refine a_iconst (v := -1) X dX7_winners_51 (by decide) ?_
        refine a_icmp_eq (tgt := 69) X dX7_winners_52 (by decide) (fun h_52 => ?_) (fun h_52 => ?_)
        · replace h := (if_pos h_52).symm.trans h
          exact Zw.to2 (J_69 _ _ _ _ h) rfl rfl rfl
        · replace h := (if_neg h_52).symm.trans h
          refine a_iload_n X dX7_winners_55 rfl ?_
          refine a_aload_n X dX7_winners_56 rfl ?_
          refine a_getr X lf7_40 (by first | exact p_o | assumption) rfl (by omega) dX7_winners_57 ?_
          refine a_getr X lf7_222 (by first | exact p_pool_o | assumption) rfl (by omega) dX7_winners_60 ?_
          refine a_iload_n X dX7_winners_63 rfl ?_
          refine a_callSv X dX7_winners_64 miX7_cell lm7_175 (c_cell (by first | exact p_pool_bits | assumption) (by decide)) rfl rfl (Nat.le_of_ble_eq_true rfl) ⟨by decide, by decide, by decide, by decide⟩ ?_
          refine a_ior X dX7_winners_67 ?_
          refine a_istore_n X dX7_winners_68 (by decide) ?_
          exact Zw.to2 (J_69 _ _ _ _ h) rfl rfl rfl
  have H_29 : ∀ (x1_29 : Int32) (x2_29 : Int32) (x3_29 : Int32) (M_29 : zMt), D_X7_winners_29 P zFu x2_29 x3_29 M_29 = some r → Zw p l e { frames := 5, cells := 0, slots := 0, locals := 36 * (5) } s m args below meth c G b 4 (MQ below (zQ G b FQ) args s 0 0 (fun q : Nat => b ≤ q)) 0 0 29 [some (.ref (P)), some (.int x1_29), some (.int x2_29), some (.int x3_29)] [] (L, M_29, N) := L_29 zFu
  unfold D_X7_winners at h
  refine a_iload_n X dX7_winners_0 rfl ?_
  obtain ⟨e_1, f_1, h⟩ := zBx h
  refine a_callSx X dX7_winners_1 miX7_isSeed lm7_237 (t_X7_isSeed f_1) rfl rfl (Nat.le_of_ble_eq_true rfl) ⟨by decide, by decide, by decide, by decide⟩ (fun r_1 S_1 q_1 => ?_)
  obtain ⟨rfl, rfl, b_1⟩ := q_1
  refine a_if_ne (tgt := 13) X dX7_winners_4 (by decide) (fun h_4 => ?_) (fun h_4 => ?_)
  · replace h := (if_neg h_4).symm.trans h
    refine a_aload_n X dX7_winners_13 rfl ?_
    refine a_getr X lf7_47 (by first | exact p_o | assumption) rfl (by omega) dX7_winners_14 ?_
    refine a_aload_n X dX7_winners_17 rfl ?_
    refine a_getr X lf7_40 (by first | exact p_o | assumption) rfl (by omega) dX7_winners_18 ?_
    refine a_iload_n X dX7_winners_21 rfl ?_
    obtain ⟨e_22, f_22, h⟩ := zBx h
    refine a_callVu X dX7_winners_22 miX5_bySeed lm7_247 (t_X5_bySeed (by first | exact p_result | assumption) (by first | exact p_pool | assumption) f_22) (by first | exact p_result_o | assumption) rfl rfl rfl (Nat.le_of_ble_eq_true rfl) ⟨by decide, by decide, by decide, by decide⟩ ?_
    refine a_iconst (v := 0) X dX7_winners_25 (by decide) ?_
    refine a_istore_n X dX7_winners_26 (by decide) ?_
    refine a_iconst (v := 0) X dX7_winners_27 (by decide) ?_
    refine a_istore_n X dX7_winners_28 (by decide) ?_
    exact Zw.to2 (H_29 _ _ _ _ h) rfl rfl rfl
  · replace h := (if_pos h_4).symm.trans h
    refine a_aload_n X dX7_winners_7 rfl ?_
    refine a_iconst (v := 1) X dX7_winners_8 (by decide) ?_
    obtain ⟨e_9, f_9, h⟩ := zBx h
    refine a_callVv X dX7_winners_9 miX7_refuse lm7_102 (t_X7_refuse (by first | exact hP | assumption) f_9) (by first | exact p_o | assumption) rfl rfl rfl (Nat.le_of_ble_eq_true rfl) ⟨by decide, by decide, by decide, by decide⟩ ?_
    refine a_iret X hr dX7_winners_12 ⟨by decide, by decide⟩ ?_
    subst hF
    rw [← Option.some.inj h]
    exact ⟨rfl, rfl⟩
noncomputable def D_X7_behind (P : Nat) (v0 : Int32) (v1 : Int32) (M : zMt) : Option (Int32 × zMt) :=
  zB (D_X7_isSeed v0) fun e_1 =>
  if e_1 = 0 then
    zB (D_X7_refuse P (1 : Int32) M) fun e_9 =>
    some (e_9.1, e_9.2)
  else
    zB (D_X7_isHunter P M v1) fun e_15 =>
    if e_15 = 0 then
      zB (D_X7_refuse P (2 : Int32) M) fun e_23 =>
      some (e_23.1, e_23.2)
    else
      zB (D_X5_bySeed (P + 104) (P + 91) v0 M) fun e_36 =>
      zB (D_X5_scoreBehind (P + 104) (P + 91) e_36 (zrd 0 (e_36 (P + 95)) 10 v1) (zrd 0 (e_36 (P + 19)) 10 v1)) fun e_70 =>
      zB (D_X7_answer P e_70 e_36) fun e_73 =>
      some (e_73.1, e_73.2)
set_option maxRecDepth 100000 in
set_option maxHeartbeats 4000000 in
theorem t_X7_behind {l : Launch} {G : zG} {b : Nat} {L : List zC} {M : zMt} {N : zNt} {P : Nat} {v0 : Int32} {v1 : Int32} (hP : LX7 L P) {r : Int32 × zMt} (h : D_X7_behind P v0 v1 M = some r) : zM l G b yX7_behind cX7_behind 3 (some .int) 5 0 0 [.ref P, .int v0, .int v1] (L, M, N) (fun r2 z => r2 = some (.int r.1) ∧ z = (L, r.2, N)) := by
  refine zM.of miX7_behind (Nat.le_of_ble_eq_true rfl) ?_
  intro p e s m args below meth c X hr hname
  generalize hF : ((fun r2 z => r2 = some (.int r.1) ∧ z = (L, r.2, N)) : Option Value → zS → Prop) = FQ
  change Zw p l e { frames := 5, cells := 0, slots := 0, locals := 36 * (5) } s m args below meth c G b 3 (MQ below (zQ G b FQ) args s 0 0 (fun q : Nat => b ≤ q)) 0 0 0 [some (.ref P), some (.int v0), some (.int v1)] [] (L, M, N)
  have p_lt := hP.1
  have p_o := hP.2.1
  have p_list := hP.2.2.2.2.2.1
  have p_list_lt := p_list.1
  have p_list_o := p_list.2.1
  have p_list_score := p_list.2.2.2.1
  have p_pool := hP.2.2.2.2.2.2.2.1
  have p_pool_lt := p_pool.1
  have p_pool_o := p_pool.2.1
  have p_pool_applicantOf := p_pool.2.2.2.2.2.1
  have p_result := hP.2.2.2.2.2.2.2.2.1
  have p_result_lt := p_result.1
  have p_result_o := p_result.2.1
  unfold D_X7_behind at h
  refine a_iload_n X dX7_behind_0 rfl ?_
  obtain ⟨e_1, f_1, h⟩ := zBx h
  refine a_callSx X dX7_behind_1 miX7_isSeed lm7_237 (t_X7_isSeed f_1) rfl rfl (Nat.le_of_ble_eq_true rfl) ⟨by decide, by decide, by decide, by decide⟩ (fun r_1 S_1 q_1 => ?_)
  obtain ⟨rfl, rfl, b_1⟩ := q_1
  refine a_if_ne (tgt := 13) X dX7_behind_4 (by decide) (fun h_4 => ?_) (fun h_4 => ?_)
  · replace h := (if_neg h_4).symm.trans h
    refine a_aload_n X dX7_behind_13 rfl ?_
    refine a_iload_n X dX7_behind_14 rfl ?_
    obtain ⟨e_15, f_15, h⟩ := zBx h
    refine a_callVx X dX7_behind_15 miX7_isHunter lm7_168 (t_X7_isHunter (by first | exact hP | assumption) f_15) (by first | exact p_o | assumption) rfl rfl rfl (Nat.le_of_ble_eq_true rfl) ⟨by decide, by decide, by decide, by decide⟩ (fun r_15 S_15 q_15 => ?_)
    obtain ⟨rfl, rfl, b_15⟩ := q_15
    refine a_if_ne (tgt := 27) X dX7_behind_18 (by decide) (fun h_18 => ?_) (fun h_18 => ?_)
    · replace h := (if_neg h_18).symm.trans h
      refine a_aload_n X dX7_behind_27 rfl ?_
      refine a_getr X lf7_47 (by first | exact p_o | assumption) rfl (by omega) dX7_behind_28 ?_
      refine a_aload_n X dX7_behind_31 rfl ?_
      refine a_getr X lf7_40 (by first | exact p_o | assumption) rfl (by omega) dX7_behind_32 ?_
      refine a_iload_n X dX7_behind_35 rfl ?_
      obtain ⟨e_36, f_36, h⟩ := zBx h
      refine a_callVu X dX7_behind_36 miX5_bySeed lm7_247 (t_X5_bySeed (by first | exact p_result | assumption) (by first | exact p_pool | assumption) f_36) (by first | exact p_result_o | assumption) rfl rfl rfl (Nat.le_of_ble_eq_true rfl) ⟨by decide, by decide, by decide, by decide⟩ ?_
      refine a_aload_n X dX7_behind_39 rfl ?_
      refine a_aload_n X dX7_behind_40 rfl ?_
      refine a_getr X lf7_47 (by first | exact p_o | assumption) rfl (by omega) dX7_behind_41 ?_
      refine a_aload_n X dX7_behind_44 rfl ?_
      refine a_getr X lf7_40 (by first | exact p_o | assumption) rfl (by omega) dX7_behind_45 ?_
      refine a_aload_n X dX7_behind_48 rfl ?_
      refine a_getr X lf7_40 (by first | exact p_o | assumption) rfl (by omega) dX7_behind_49 ?_
      refine a_getr X lf7_182 (by first | exact p_pool_o | assumption) rfl (by omega) dX7_behind_52 ?_
      refine a_iload_n X dX7_behind_55 rfl ?_
      refine a_callSv X dX7_behind_56 miX7_cell lm7_175 (c_cell (by first | exact p_pool_applicantOf | assumption) (by decide)) rfl rfl (Nat.le_of_ble_eq_true rfl) ⟨by decide, by decide, by decide, by decide⟩ ?_
      refine a_aload_n X dX7_behind_59 rfl ?_
      refine a_getr X lf7_26 (by first | exact p_o | assumption) rfl (by omega) dX7_behind_60 ?_
      refine a_getr X lf7_172 (by first | exact p_list_o | assumption) rfl (by omega) dX7_behind_63 ?_
      refine a_iload_n X dX7_behind_66 rfl ?_
      refine a_callSv X dX7_behind_67 miX7_cell lm7_175 (c_cell (by first | exact p_list_score | assumption) (by decide)) rfl rfl (Nat.le_of_ble_eq_true rfl) ⟨by decide, by decide, by decide, by decide⟩ ?_
      obtain ⟨e_70, f_70, h⟩ := zBx h
      refine a_callVv X dX7_behind_70 miX5_scoreBehind lm7_287 (t_X5_scoreBehind (by first | exact p_result | assumption) (by first | exact p_pool | assumption) f_70) (by first | exact p_result_o | assumption) rfl rfl rfl (Nat.le_of_ble_eq_true rfl) ⟨by decide, by decide, by decide, by decide⟩ ?_
      obtain ⟨e_73, f_73, h⟩ := zBx h
      refine a_callVv X dX7_behind_73 miX7_answer lm7_134 (t_X7_answer (by first | exact hP | assumption) f_73) (by first | exact p_o | assumption) rfl rfl rfl (Nat.le_of_ble_eq_true rfl) ⟨by decide, by decide, by decide, by decide⟩ ?_
      refine a_iret X hr dX7_behind_76 ⟨by decide, by decide⟩ ?_
      subst hF
      rw [← Option.some.inj h]
      exact ⟨rfl, rfl⟩
    · replace h := (if_pos h_18).symm.trans h
      refine a_aload_n X dX7_behind_21 rfl ?_
      refine a_iconst (v := 2) X dX7_behind_22 (by decide) ?_
      obtain ⟨e_23, f_23, h⟩ := zBx h
      refine a_callVv X dX7_behind_23 miX7_refuse lm7_102 (t_X7_refuse (by first | exact hP | assumption) f_23) (by first | exact p_o | assumption) rfl rfl rfl (Nat.le_of_ble_eq_true rfl) ⟨by decide, by decide, by decide, by decide⟩ ?_
      refine a_iret X hr dX7_behind_26 ⟨by decide, by decide⟩ ?_
      subst hF
      rw [← Option.some.inj h]
      exact ⟨rfl, rfl⟩
  · replace h := (if_pos h_4).symm.trans h
    refine a_aload_n X dX7_behind_7 rfl ?_
    refine a_iconst (v := 1) X dX7_behind_8 (by decide) ?_
    obtain ⟨e_9, f_9, h⟩ := zBx h
    refine a_callVv X dX7_behind_9 miX7_refuse lm7_102 (t_X7_refuse (by first | exact hP | assumption) f_9) (by first | exact p_o | assumption) rfl rfl rfl (Nat.le_of_ble_eq_true rfl) ⟨by decide, by decide, by decide, by decide⟩ ?_
    refine a_iret X hr dX7_behind_12 ⟨by decide, by decide⟩ ?_
    subst hF
    rw [← Option.some.inj h]
    exact ⟨rfl, rfl⟩
