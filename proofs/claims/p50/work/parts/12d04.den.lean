noncomputable def D_X8_firstRound_108 (P : Nat) (k3 : Int32 → Int32 → Int32 → zMt → Option (zMt)) (k10 : Int32 → Int32 → Int32 → Int32 → zMt → Option (zMt)) (x1_108 : Int32) (x2_108 : Int32) (x3_108 : Int32) (x4_108 : Int32) (M_108 : zMt) : Option (zMt) :=
  k10 x1_108 x2_108 x3_108 (x4_108 + 1) M_108
noncomputable def D_X8_firstRound_61 (P : Nat) (k3 : Int32 → Int32 → Int32 → zMt → Option (zMt)) (k10 : Int32 → Int32 → Int32 → Int32 → zMt → Option (zMt)) (x1_61 : Int32) (x2_61 : Int32) (x3_61 : Int32) (x4_61 : Int32) (x5_61 : Int32) (y0_61 : Int32) (M_61 : zMt) : Option (zMt) :=
  if y0_61 = 0 then
    D_X8_firstRound_108 P k3 k10 x1_61 x2_61 x3_61 x4_61 M_61
  else
    zI x1_61 5 <|
    zI ((62 : Int32) + x1_61) 82 <|
    zB (D_X8_preferred P M_61 x1_61) fun e_90 =>
    zB (D_X8_fits P M_61 x5_61 x1_61 (((M_61 (P + 21) x1_61.toNatClampNeg) - (M_61 (P + 1) ((62 : Int32) + x1_61).toNatClampNeg)) + e_90)) fun e_94 =>
    if e_94 = 0 then
      D_X8_firstRound_108 P k3 k10 x1_61 x2_61 x3_61 x4_61 M_61
    else
      zB (D_X8_gets P x5_61 x1_61 (1 : Int32) M_61) fun e_105 =>
      D_X8_firstRound_108 P k3 k10 x1_61 x2_61 x3_61 x4_61 e_105
noncomputable def D_X8_firstRound_60 (P : Nat) (k3 : Int32 → Int32 → Int32 → zMt → Option (zMt)) (k10 : Int32 → Int32 → Int32 → Int32 → zMt → Option (zMt)) (x1_60 : Int32) (x2_60 : Int32) (x3_60 : Int32) (x4_60 : Int32) (x5_60 : Int32) (M_60 : zMt) : Option (zMt) :=
  D_X8_firstRound_61 P k3 k10 x1_60 x2_60 x3_60 x4_60 x5_60 (0 : Int32) M_60
noncomputable def D_X8_firstRound_10 (P : Nat) (k3 : Int32 → Int32 → Int32 → zMt → Option (zMt)) : Nat → Int32 → Int32 → Int32 → Int32 → zMt → Option (zMt)
  | 0, _, _, _, _, _ => none
  | n + 1, x1_10, x2_10, x3_10, x4_10, M_10 =>
    if (M_10 P 33) ≤ x4_10 then
      k3 x1_10 x2_10 (x3_10 + (-1)) M_10
    else
      zI x4_10 10 <|
      if (M_10 (P + 18) x4_10.toNatClampNeg) = x2_10 then
        D_X8_firstRound_60 P k3 (D_X8_firstRound_10 P k3 n) x1_10 x2_10 x3_10 x4_10 (M_10 (P + 18) x4_10.toNatClampNeg) M_10
      else
        zB (D_X8_choiceOf P M_10 (M_10 (P + 18) x4_10.toNatClampNeg) (0 : Int32)) fun e_38 =>
        if e_38 = x1_10 then
          zI (M_10 (P + 18) x4_10.toNatClampNeg) 10 <|
          if (M_10 (P + 16) (M_10 (P + 18) x4_10.toNatClampNeg).toNatClampNeg) = x3_10 then
            D_X8_firstRound_61 P k3 (D_X8_firstRound_10 P k3 n) x1_10 x2_10 x3_10 x4_10 (M_10 (P + 18) x4_10.toNatClampNeg) (1 : Int32) M_10
          else
            D_X8_firstRound_60 P k3 (D_X8_firstRound_10 P k3 n) x1_10 x2_10 x3_10 x4_10 (M_10 (P + 18) x4_10.toNatClampNeg) M_10
        else
          D_X8_firstRound_60 P k3 (D_X8_firstRound_10 P k3 n) x1_10 x2_10 x3_10 x4_10 (M_10 (P + 18) x4_10.toNatClampNeg) M_10
noncomputable def D_X8_firstRound_3 (P : Nat) : Nat → Int32 → Int32 → Int32 → zMt → Option (zMt)
  | 0, _, _, _, _ => none
  | n + 1, x1_3, x2_3, x3_3, M_3 =>
    if x3_3 < 0 then
      some (M_3)
    else
      D_X8_firstRound_10 P (D_X8_firstRound_3 P n) zFu x1_3 x2_3 x3_3 (0 : Int32) M_3
noncomputable def D_X8_firstRound (P : Nat) (v0 : Int32) (v1 : Int32) (M : zMt) : Option (zMt) :=
  D_X8_firstRound_3 P zFu v0 v1 (20 : Int32) M
set_option maxRecDepth 100000 in
set_option maxHeartbeats 4000000 in
theorem t_X8_firstRound {l : Launch} {G : zG} {b : Nat} {L : List zC} {M : zMt} {N : zNt} {P : Nat} {v0 : Int32} {v1 : Int32} (hP : LX8 L P) {r : zMt} (h : D_X8_firstRound P v0 v1 M = some r) : zM l G b yX8_firstRound cX8_firstRound 7 none 1 0 0 [.ref P, .int v0, .int v1] (L, M, N) (fun r2 z => r2 = none ∧ z = (L, r, N)) := by
  refine zM.of miX8_firstRound (Nat.le_of_ble_eq_true rfl) ?_
  intro p e s m args below meth c X hr hname
  generalize hF : ((fun r2 z => r2 = none ∧ z = (L, r, N)) : Option Value → zS → Prop) = FQ
  change Zw p l e { frames := 1, cells := 0, slots := 0, locals := 80 * (1) } s m args below meth c G b 7 (MQ below (zQ G b FQ) args s 0 0 (fun q : Nat => b ≤ q)) 0 0 0 [some (.ref P), some (.int v0), some (.int v1), none, none, none, none] [] (L, M, N)
  have p_lt := hP.1
  have p_o := hP.2.1
  have p_s := hP.2.2.1
  have p_pointsOf := hP.2.2.2.2.2.2.2.2.2.2.2.2.2.2.2.2.2.1
  have p_ord := hP.2.2.2.2.2.2.2.2.2.2.2.2.2.2.2.2.2.2.2.1
  have p_tags := hP.2.2.2.2.2.2.2.2.2.2.2.2.2.2.2.2.2.2.2.2.2.2.1
  have L_3 : ∀ u : Nat, ∀ (x1_3 : Int32) (x2_3 : Int32) (x3_3 : Int32) (x4_3 : Option Value) (x5_3 : Option Value) (x6_3 : Option Value) (M_3 : zMt), D_X8_firstRound_3 P u x1_3 x2_3 x3_3 M_3 = some r → Zw p l e { frames := 1, cells := 0, slots := 0, locals := 80 * (1) } s m args below meth c G b 7 (MQ below (zQ G b FQ) args s 0 0 (fun q : Nat => b ≤ q)) 0 0 3 [some (.ref (P)), some (.int x1_3), some (.int x2_3), some (.int x3_3), x4_3, x5_3, x6_3] [] (L, M_3, N) := by
    intro u
    induction u with
    | zero => intro x1_3 x2_3 x3_3 x4_3 x5_3 x6_3 M_3 h; cases (show none = some r from h)
    | succ u_3 ih_3 =>
      have L_10 : ∀ u : Nat, ∀ (x1_10 : Int32) (x2_10 : Int32) (x3_10 : Int32) (x4_10 : Int32) (x5_10 : Option Value) (x6_10 : Option Value) (M_10 : zMt), D_X8_firstRound_10 P (D_X8_firstRound_3 P u_3) u x1_10 x2_10 x3_10 x4_10 M_10 = some r → Zw p l e { frames := 1, cells := 0, slots := 0, locals := 80 * (1) } s m args below meth c G b 7 (MQ below (zQ G b FQ) args s 0 0 (fun q : Nat => b ≤ q)) 0 0 10 [some (.ref (P)), some (.int x1_10), some (.int x2_10), some (.int x3_10), some (.int x4_10), x5_10, x6_10] [] (L, M_10, N) := by
        intro u
        induction u with
        | zero => intro x1_10 x2_10 x3_10 x4_10 x5_10 x6_10 M_10 h; cases (show none = some r from h)
        | succ u_10 ih_10 =>
          have J_108 : ∀ (x1_108 : Int32) (x2_108 : Int32) (x3_108 : Int32) (x4_108 : Int32) (x5_108 : Int32) (x6_108 : Int32) (M_108 : zMt), D_X8_firstRound_108 P (D_X8_firstRound_3 P u_3) (D_X8_firstRound_10 P (D_X8_firstRound_3 P u_3) u_10) x1_108 x2_108 x3_108 x4_108 M_108 = some r → Zw p l e { frames := 1, cells := 0, slots := 0, locals := 80 * (1) } s m args below meth c G b 7 (MQ below (zQ G b FQ) args s 0 0 (fun q : Nat => b ≤ q)) 0 0 108 [some (.ref (P)), some (.int x1_108), some (.int x2_108), some (.int x3_108), some (.int x4_108), some (.int x5_108), some (.int x6_108)] [] (L, M_108, N) := by
            intro x1_108 x2_108 x3_108 x4_108 x5_108 x6_108 M_108 h
            unfold D_X8_firstRound_108 at h
            refine a_iinc (v := x4_108 + 1) X dX8_firstRound_108 (by decide) rfl zi_1 ?_
            refine a_goto (tgt := 10) X dX8_firstRound_111 (by decide) ?_
            exact Zw.to2 (ih_10 _ _ _ _ _ _ _ h) rfl rfl rfl
          have J_61 : ∀ (x1_61 : Int32) (x2_61 : Int32) (x3_61 : Int32) (x4_61 : Int32) (x5_61 : Int32) (x6_61 : Option Value) (y0_61 : Int32) (M_61 : zMt), (y0_61 = 0 ∨ y0_61 = 1) → D_X8_firstRound_61 P (D_X8_firstRound_3 P u_3) (D_X8_firstRound_10 P (D_X8_firstRound_3 P u_3) u_10) x1_61 x2_61 x3_61 x4_61 x5_61 y0_61 M_61 = some r → Zw p l e { frames := 1, cells := 0, slots := 0, locals := 80 * (1) } s m args below meth c G b 7 (MQ below (zQ G b FQ) args s 0 0 (fun q : Nat => b ≤ q)) 0 0 61 [some (.ref (P)), some (.int x1_61), some (.int x2_61), some (.int x3_61), some (.int x4_61), some (.int x5_61), x6_61] [.int y0_61] (L, M_61, N) := by
            intro x1_61 x2_61 x3_61 x4_61 x5_61 x6_61 y0_61 M_61 fb_y0_61 h
            unfold D_X8_firstRound_61 at h
            refine a_istore X dX8_firstRound_61 (by decide) ?_
            refine a_iload X dX8_firstRound_63 rfl ?_
            refine a_if_eq (tgt := 108) X dX8_firstRound_65 (by decide) (fun h_65 => ?_) (fun h_65 => ?_)
            · replace h := (if_pos h_65).symm.trans h
              exact Zw.to2 (J_108 _ _ _ _ _ _ _ h) rfl rfl rfl
            · replace h := (if_neg h_65).symm.trans h
              refine a_aload_n X dX8_firstRound_68 rfl ?_
              refine a_iload X dX8_firstRound_69 rfl ?_
              refine a_iload_n X dX8_firstRound_71 rfl ?_
              refine a_aload_n X dX8_firstRound_72 rfl ?_
              refine a_getr X lf8_79 (by first | exact p_o | assumption) rfl (by omega) dX8_firstRound_73 ?_
              refine a_iload_n X dX8_firstRound_76 rfl ?_
              obtain ⟨g_77, h⟩ := zIx h
              refine a_iaload X (by first | exact p_tags | assumption) g_77 dX8_firstRound_77 ?_
              refine a_aload_n X dX8_firstRound_78 rfl ?_
              refine a_getr X lf8_7 (by first | exact p_o | assumption) rfl (by omega) dX8_firstRound_79 ?_
              refine a_bipush (v := 62) X dX8_firstRound_82 (by decide) ?_
              refine a_iload_n X dX8_firstRound_84 rfl ?_
              refine a_iadd X dX8_firstRound_85 ?_
              obtain ⟨g_86, h⟩ := zIx h
              refine a_iaload X (by first | exact p_s | assumption) g_86 dX8_firstRound_86 ?_
              refine a_isub X dX8_firstRound_87 ?_
              refine a_aload_n X dX8_firstRound_88 rfl ?_
              refine a_iload_n X dX8_firstRound_89 rfl ?_
              obtain ⟨e_90, f_90, h⟩ := zBx h
              refine a_callVv X dX8_firstRound_90 miX8_preferred lm8_304 (t_X8_preferred (by first | exact hP | assumption) f_90) (by first | exact p_o | assumption) rfl rfl rfl (Nat.le_of_ble_eq_true rfl) ⟨by decide, by decide, by decide, by decide⟩ ?_
              refine a_iadd X dX8_firstRound_93 ?_
              obtain ⟨e_94, f_94, h⟩ := zBx h
              refine a_callVx X dX8_firstRound_94 miX8_fits lm8_329 (t_X8_fits (by first | exact hP | assumption) f_94) (by first | exact p_o | assumption) rfl rfl rfl (Nat.le_of_ble_eq_true rfl) ⟨by decide, by decide, by decide, by decide⟩ (fun r_94 S_94 q_94 => ?_)
              obtain ⟨rfl, rfl, b_94⟩ := q_94
              refine a_if_eq (tgt := 108) X dX8_firstRound_97 (by decide) (fun h_97 => ?_) (fun h_97 => ?_)
              · replace h := (if_pos h_97).symm.trans h
                exact Zw.to2 (J_108 _ _ _ _ _ _ _ h) rfl rfl rfl
              · replace h := (if_neg h_97).symm.trans h
                refine a_aload_n X dX8_firstRound_100 rfl ?_
                refine a_iload X dX8_firstRound_101 rfl ?_
                refine a_iload_n X dX8_firstRound_103 rfl ?_
                refine a_iconst (v := 1) X dX8_firstRound_104 (by decide) ?_
                obtain ⟨e_105, f_105, h⟩ := zBx h
                refine a_callVu X dX8_firstRound_105 miX8_gets lm8_333 (t_X8_gets (by first | exact hP | assumption) f_105) (by first | exact p_o | assumption) rfl rfl rfl (Nat.le_of_ble_eq_true rfl) ⟨by decide, by decide, by decide, by decide⟩ ?_
                exact Zw.to2 (J_108 _ _ _ _ _ _ _ h) rfl rfl rfl
          have J_60 : ∀ (x1_60 : Int32) (x2_60 : Int32) (x3_60 : Int32) (x4_60 : Int32) (x5_60 : Int32) (x6_60 : Option Value) (M_60 : zMt), D_X8_firstRound_60 P (D_X8_firstRound_3 P u_3) (D_X8_firstRound_10 P (D_X8_firstRound_3 P u_3) u_10) x1_60 x2_60 x3_60 x4_60 x5_60 M_60 = some r → Zw p l e { frames := 1, cells := 0, slots := 0, locals := 80 * (1) } s m args below meth c G b 7 (MQ below (zQ G b FQ) args s 0 0 (fun q : Nat => b ≤ q)) 0 0 60 [some (.ref (P)), some (.int x1_60), some (.int x2_60), some (.int x3_60), some (.int x4_60), some (.int x5_60), x6_60] [] (L, M_60, N) := by
            intro x1_60 x2_60 x3_60 x4_60 x5_60 x6_60 M_60 h
            unfold D_X8_firstRound_60 at h
            refine a_iconst (v := 0) X dX8_firstRound_60 (by decide) ?_
            exact Zw.to2 (J_61 _ _ _ _ _ _ _ _ (by first | exact Or.inl rfl | exact Or.inr rfl | assumption) h) rfl rfl rfl
          intro x1_10 x2_10 x3_10 x4_10 x5_10 x6_10 M_10 h
          rw [D_X8_firstRound_10] at h
          refine a_iload X dX8_firstRound_10 rfl ?_
          refine a_aload_n X dX8_firstRound_12 rfl ?_
          refine a_geti X lf8_275 (by first | exact p_o | assumption) rfl dX8_firstRound_13 ?_
          refine a_icmp_ge (tgt := 114) X dX8_firstRound_16 (by decide) (fun h_16 => ?_) (fun h_16 => ?_)
          · replace h := (if_pos h_16).symm.trans h
            refine a_iinc (v := x3_10 + (-1)) X dX8_firstRound_114 (by decide) rfl zi_m1 ?_
            refine a_goto (tgt := 3) X dX8_firstRound_117 (by decide) ?_
            exact Zw.to2 (ih_3 _ _ _ _ _ _ _ h) rfl rfl rfl
          · replace h := (if_neg h_16).symm.trans h
            refine a_aload_n X dX8_firstRound_19 rfl ?_
            refine a_getr X lf8_70 (by first | exact p_o | assumption) rfl (by omega) dX8_firstRound_20 ?_
            refine a_iload X dX8_firstRound_23 rfl ?_
            obtain ⟨g_25, h⟩ := zIx h
            refine a_iaload X (by first | exact p_ord | assumption) g_25 dX8_firstRound_25 ?_
            refine a_istore X dX8_firstRound_26 (by decide) ?_
            refine a_iload X dX8_firstRound_28 rfl ?_
            refine a_iload_n X dX8_firstRound_30 rfl ?_
            refine a_icmp_eq (tgt := 60) X dX8_firstRound_31 (by decide) (fun h_31 => ?_) (fun h_31 => ?_)
            · replace h := (if_pos h_31).symm.trans h
              exact Zw.to2 (J_60 _ _ _ _ _ _ _ h) rfl rfl rfl
            · replace h := (if_neg h_31).symm.trans h
              refine a_aload_n X dX8_firstRound_34 rfl ?_
              refine a_iload X dX8_firstRound_35 rfl ?_
              refine a_iconst (v := 0) X dX8_firstRound_37 (by decide) ?_
              obtain ⟨e_38, f_38, h⟩ := zBx h
              refine a_callVv X dX8_firstRound_38 miX8_choiceOf lm8_284 (t_X8_choiceOf (by first | exact hP | assumption) f_38) (by first | exact p_o | assumption) rfl rfl rfl (Nat.le_of_ble_eq_true rfl) ⟨by decide, by decide, by decide, by decide⟩ ?_
              refine a_iload_n X dX8_firstRound_41 rfl ?_
              refine a_icmp_ne (tgt := 60) X dX8_firstRound_42 (by decide) (fun h_42 => ?_) (fun h_42 => ?_)
              · replace h := (if_neg h_42).symm.trans h
                exact Zw.to2 (J_60 _ _ _ _ _ _ _ h) rfl rfl rfl
              · replace h := (if_pos h_42).symm.trans h
                refine a_aload_n X dX8_firstRound_45 rfl ?_
                refine a_getr X lf8_64 (by first | exact p_o | assumption) rfl (by omega) dX8_firstRound_46 ?_
                refine a_iload X dX8_firstRound_49 rfl ?_
                obtain ⟨g_51, h⟩ := zIx h
                refine a_iaload X (by first | exact p_pointsOf | assumption) g_51 dX8_firstRound_51 ?_
                refine a_iload_n X dX8_firstRound_52 rfl ?_
                refine a_icmp_ne (tgt := 60) X dX8_firstRound_53 (by decide) (fun h_53 => ?_) (fun h_53 => ?_)
                · replace h := (if_neg h_53).symm.trans h
                  exact Zw.to2 (J_60 _ _ _ _ _ _ _ h) rfl rfl rfl
                · replace h := (if_pos h_53).symm.trans h
                  refine a_iconst (v := 1) X dX8_firstRound_56 (by decide) ?_
                  refine a_goto (tgt := 61) X dX8_firstRound_57 (by decide) ?_
                  exact Zw.to2 (J_61 _ _ _ _ _ _ _ _ (by first | exact Or.inl rfl | exact Or.inr rfl | assumption) h) rfl rfl rfl
      have H_10 : ∀ (x1_10 : Int32) (x2_10 : Int32) (x3_10 : Int32) (x4_10 : Int32) (x5_10 : Option Value) (x6_10 : Option Value) (M_10 : zMt), D_X8_firstRound_10 P (D_X8_firstRound_3 P u_3) zFu x1_10 x2_10 x3_10 x4_10 M_10 = some r → Zw p l e { frames := 1, cells := 0, slots := 0, locals := 80 * (1) } s m args below meth c G b 7 (MQ below (zQ G b FQ) args s 0 0 (fun q : Nat => b ≤ q)) 0 0 10 [some (.ref (P)), some (.int x1_10), some (.int x2_10), some (.int x3_10), some (.int x4_10), x5_10, x6_10] [] (L, M_10, N) := L_10 zFu
      intro x1_3 x2_3 x3_3 x4_3 x5_3 x6_3 M_3 h
      rw [D_X8_firstRound_3] at h
      refine a_iload_n X dX8_firstRound_3 rfl ?_
      refine a_if_lt (tgt := 120) X dX8_firstRound_4 (by decide) (fun h_4 => ?_) (fun h_4 => ?_)
      · replace h := (if_pos h_4).symm.trans h
        refine a_vret X hr dX8_firstRound_120 ⟨by decide, by decide⟩ ?_
        subst hF
        rw [← Option.some.inj h]
        exact ⟨rfl, rfl⟩
      · replace h := (if_neg h_4).symm.trans h
        refine a_iconst (v := 0) X dX8_firstRound_7 (by decide) ?_
        refine a_istore X dX8_firstRound_8 (by decide) ?_
        exact Zw.to2 (H_10 _ _ _ _ _ _ _ h) rfl rfl rfl
  have H_3 : ∀ (x1_3 : Int32) (x2_3 : Int32) (x3_3 : Int32) (x4_3 : Option Value) (x5_3 : Option Value) (x6_3 : Option Value) (M_3 : zMt), D_X8_firstRound_3 P zFu x1_3 x2_3 x3_3 M_3 = some r → Zw p l e { frames := 1, cells := 0, slots := 0, locals := 80 * (1) } s m args below meth c G b 7 (MQ below (zQ G b FQ) args s 0 0 (fun q : Nat => b ≤ q)) 0 0 3 [some (.ref (P)), some (.int x1_3), some (.int x2_3), some (.int x3_3), x4_3, x5_3, x6_3] [] (L, M_3, N) := L_3 zFu
  unfold D_X8_firstRound at h
  refine a_bipush (v := 20) X dX8_firstRound_0 (by decide) ?_
  refine a_istore_n X dX8_firstRound_2 (by decide) ?_
  exact Zw.to2 (H_3 _ _ _ _ _ _ _ h) rfl rfl rfl
noncomputable def D_X8_results_185 (P : Nat) (k96 : Int32 → Int32 → zMt → Option (zMt)) (x1_185 : Int32) (x2_185 : Int32) (M_185 : zMt) : Option (zMt) :=
  k96 x1_185 (x2_185 + 1) M_185
noncomputable def D_X8_results_179 (P : Nat) (k96 : Int32 → Int32 → zMt → Option (zMt)) (k114 : Int32 → Int32 → Int32 → Int32 → zMt → Option (zMt)) (x1_179 : Int32) (x2_179 : Int32) (x3_179 : Int32) (x4_179 : Int32) (M_179 : zMt) : Option (zMt) :=
  k114 x1_179 x2_179 x3_179 (x4_179 + 1) M_179
noncomputable def D_X8_results_114 (P : Nat) (k96 : Int32 → Int32 → zMt → Option (zMt)) : Nat → Int32 → Int32 → Int32 → Int32 → zMt → Option (zMt)
  | 0, _, _, _, _, _ => none
  | n + 1, x1_114, x2_114, x3_114, x4_114, M_114 =>
    zB (D_X8_choiceMany P M_114 x3_114) fun e_118 =>
    if e_118 ≤ x4_114 then
      D_X8_results_185 P k96 x1_114 x2_114 M_114
    else
      zI x3_114 10 <|
      if (M_114 (P + 19) x3_114.toNatClampNeg) = (-1 : Int32) then
        if x3_114 = x1_114 then
          D_X8_results_185 P k96 x1_114 x2_114 M_114
        else
          zB (D_X8_choiceOf P M_114 x3_114 x4_114) fun e_145 =>
          zB (D_X8_choiceOf P M_114 x3_114 x4_114) fun e_156 =>
          zI e_156 5 <|
          zB (D_X8_fits P M_114 x3_114 e_145 (M_114 (P + 21) e_156.toNatClampNeg)) fun e_160 =>
          if e_160 = 0 then
            D_X8_results_179 P k96 (D_X8_results_114 P k96 n) x1_114 x2_114 x3_114 x4_114 M_114
          else
            zB (D_X8_choiceOf P M_114 x3_114 x4_114) fun e_172 =>
            zB (D_X8_gets P x3_114 e_172 (2 : Int32) M_114) fun e_176 =>
            D_X8_results_179 P k96 (D_X8_results_114 P k96 n) x1_114 x2_114 x3_114 x4_114 e_176
      else
        D_X8_results_185 P k96 x1_114 x2_114 M_114
noncomputable def D_X8_results_96 (P : Nat) : Nat → Int32 → Int32 → zMt → Option (zMt)
  | 0, _, _, _ => none
  | n + 1, x1_96, x2_96, M_96 =>
    if (M_96 P 33) ≤ x2_96 then
      some (M_96)
    else
      zI x2_96 10 <|
      D_X8_results_114 P (D_X8_results_96 P n) zFu x1_96 x2_96 (M_96 (P + 18) x2_96.toNatClampNeg) (0 : Int32) M_96
noncomputable def D_X8_results_74 (P : Nat) : Nat → Int32 → Int32 → zMt → Option (zMt)
  | 0, _, _, _ => none
  | n + 1, x1_74, x2_74, M_74 =>
    if (M_74 P 7) ≤ x2_74 then
      D_X8_results_96 P zFu x1_74 (0 : Int32) M_74
    else
      zB (D_X8_firstRound P x2_74 x1_74 M_74) fun e_85 =>
      (D_X8_results_74 P n) x1_74 (x2_74 + 1) e_85
noncomputable def D_X8_results_32 (P : Nat) : Nat → Int32 → Int32 → zMt → Option (zMt)
  | 0, _, _, _ => none
  | n + 1, x1_32, x2_32, M_32 =>
    if (M_32 P 7) ≤ x2_32 then
      D_X8_results_74 P zFu x1_32 (0 : Int32) M_32
    else
      zI ((62 : Int32) + x2_32) 82 <|
      zI x2_32 5 <|
      zLt (zu M_32 (P + 21) x2_32.toNatClampNeg (M_32 (P + 1) ((62 : Int32) + x2_32).toNatClampNeg)) fun M_54 =>
      zB (D_X8_forGuests P M_54 x2_32) fun e_62 =>
      zI x2_32 5 <|
      zLt (zu M_54 (P + 22) x2_32.toNatClampNeg e_62) fun M_65 =>
      (D_X8_results_32 P n) x1_32 (x2_32 + 1) M_65
noncomputable def D_X8_results_2 (P : Nat) : Nat → Int32 → Int32 → zMt → Option (zMt)
  | 0, _, _, _ => none
  | n + 1, x1_2, x2_2, M_2 =>
    if (M_2 P 33) ≤ x2_2 then
      D_X8_results_32 P zFu x1_2 (0 : Int32) M_2
    else
      zI x2_2 10 <|
      zLt (zu M_2 (P + 19) x2_2.toNatClampNeg (-1 : Int32)) fun M_16 =>
      zI x2_2 10 <|
      zLt (zu M_16 (P + 20) x2_2.toNatClampNeg (0 : Int32)) fun M_23 =>
      (D_X8_results_2 P n) x1_2 (x2_2 + 1) M_23
noncomputable def D_X8_results (P : Nat) (v0 : Int32) (M : zMt) : Option (zMt) :=
  D_X8_results_2 P zFu v0 (0 : Int32) M
set_option maxRecDepth 100000 in
set_option maxHeartbeats 4000000 in
theorem t_X8_results {l : Launch} {G : zG} {b : Nat} {L : List zC} {M : zMt} {N : zNt} {P : Nat} {v0 : Int32} (hP : LX8 L P) {r : zMt} (h : D_X8_results P v0 M = some r) : zM l G b yX8_results cX8_results 5 none 2 0 0 [.ref P, .int v0] (L, M, N) (fun r2 z => r2 = none ∧ z = (L, r, N)) := by
  refine zM.of miX8_results (Nat.le_of_ble_eq_true rfl) ?_
  intro p e s m args below meth c X hr hname
  generalize hF : ((fun r2 z => r2 = none ∧ z = (L, r, N)) : Option Value → zS → Prop) = FQ
  change Zw p l e { frames := 2, cells := 0, slots := 0, locals := 80 * (2) } s m args below meth c G b 5 (MQ below (zQ G b FQ) args s 0 0 (fun q : Nat => b ≤ q)) 0 0 0 [some (.ref P), some (.int v0), none, none, none] [] (L, M, N)
  have p_lt := hP.1
  have p_o := hP.2.1
  have p_s := hP.2.2.1
  have p_ord := hP.2.2.2.2.2.2.2.2.2.2.2.2.2.2.2.2.2.2.2.1
  have p_given := hP.2.2.2.2.2.2.2.2.2.2.2.2.2.2.2.2.2.2.2.2.1
  have p_roundOf := hP.2.2.2.2.2.2.2.2.2.2.2.2.2.2.2.2.2.2.2.2.2.1
  have p_tags := hP.2.2.2.2.2.2.2.2.2.2.2.2.2.2.2.2.2.2.2.2.2.2.1
  have p_guestTags := hP.2.2.2.2.2.2.2.2.2.2.2.2.2.2.2.2.2.2.2.2.2.2.2.1
  have L_96 : ∀ u : Nat, ∀ (x1_96 : Int32) (x2_96 : Int32) (x3_96 : Option Value) (x4_96 : Option Value) (M_96 : zMt), D_X8_results_96 P u x1_96 x2_96 M_96 = some r → Zw p l e { frames := 2, cells := 0, slots := 0, locals := 80 * (2) } s m args below meth c G b 5 (MQ below (zQ G b FQ) args s 0 0 (fun q : Nat => b ≤ q)) 0 0 96 [some (.ref (P)), some (.int x1_96), some (.int x2_96), x3_96, x4_96] [] (L, M_96, N) := by
    intro u
    induction u with
    | zero => intro x1_96 x2_96 x3_96 x4_96 M_96 h; cases (show none = some r from h)
    | succ u_96 ih_96 =>
      have J_185 : ∀ (x1_185 : Int32) (x2_185 : Int32) (x3_185 : Int32) (x4_185 : Int32) (M_185 : zMt), D_X8_results_185 P (D_X8_results_96 P u_96) x1_185 x2_185 M_185 = some r → Zw p l e { frames := 2, cells := 0, slots := 0, locals := 80 * (2) } s m args below meth c G b 5 (MQ below (zQ G b FQ) args s 0 0 (fun q : Nat => b ≤ q)) 0 0 185 [some (.ref (P)), some (.int x1_185), some (.int x2_185), some (.int x3_185), some (.int x4_185)] [] (L, M_185, N) := by
        intro x1_185 x2_185 x3_185 x4_185 M_185 h
        unfold D_X8_results_185 at h
        refine a_iinc (v := x2_185 + 1) X dX8_results_185 (by decide) rfl zi_1 ?_
        refine a_goto (tgt := 96) X dX8_results_188 (by decide) ?_
        exact Zw.to2 (ih_96 _ _ _ _ _ h) rfl rfl rfl
      have L_114 : ∀ u : Nat, ∀ (x1_114 : Int32) (x2_114 : Int32) (x3_114 : Int32) (x4_114 : Int32) (M_114 : zMt), D_X8_results_114 P (D_X8_results_96 P u_96) u x1_114 x2_114 x3_114 x4_114 M_114 = some r → Zw p l e { frames := 2, cells := 0, slots := 0, locals := 80 * (2) } s m args below meth c G b 5 (MQ below (zQ G b FQ) args s 0 0 (fun q : Nat => b ≤ q)) 0 0 114 [some (.ref (P)), some (.int x1_114), some (.int x2_114), some (.int x3_114), some (.int x4_114)] [] (L, M_114, N) := by
        intro u
        induction u with
        | zero => intro x1_114 x2_114 x3_114 x4_114 M_114 h; cases (show none = some r from h)
        | succ u_114 ih_114 =>
          have J_179 : ∀ (x1_179 : Int32) (x2_179 : Int32) (x3_179 : Int32) (x4_179 : Int32) (M_179 : zMt), D_X8_results_179 P (D_X8_results_96 P u_96) (D_X8_results_114 P (D_X8_results_96 P u_96) u_114) x1_179 x2_179 x3_179 x4_179 M_179 = some r → Zw p l e { frames := 2, cells := 0, slots := 0, locals := 80 * (2) } s m args below meth c G b 5 (MQ below (zQ G b FQ) args s 0 0 (fun q : Nat => b ≤ q)) 0 0 179 [some (.ref (P)), some (.int x1_179), some (.int x2_179), some (.int x3_179), some (.int x4_179)] [] (L, M_179, N) := by
            intro x1_179 x2_179 x3_179 x4_179 M_179 h
            unfold D_X8_results_179 at h
            refine a_iinc (v := x4_179 + 1) X dX8_results_179 (by decide) rfl zi_1 ?_
            refine a_goto (tgt := 114) X dX8_results_182 (by decide) ?_
            exact Zw.to2 (ih_114 _ _ _ _ _ h) rfl rfl rfl
          intro x1_114 x2_114 x3_114 x4_114 M_114 h
          rw [D_X8_results_114] at h
          refine a_iload X dX8_results_114 rfl ?_
          refine a_aload_n X dX8_results_116 rfl ?_
          refine a_iload_n X dX8_results_117 rfl ?_
          obtain ⟨e_118, f_118, h⟩ := zBx h
          refine a_callVv X dX8_results_118 miX8_choiceMany lm8_288 (t_X8_choiceMany (by first | exact hP | assumption) f_118) (by first | exact p_o | assumption) rfl rfl rfl (Nat.le_of_ble_eq_true rfl) ⟨by decide, by decide, by decide, by decide⟩ ?_
          refine a_icmp_ge (tgt := 185) X dX8_results_121 (by decide) (fun h_121 => ?_) (fun h_121 => ?_)
          · replace h := (if_pos h_121).symm.trans h
            exact Zw.to2 (J_185 _ _ _ _ _ h) rfl rfl rfl
          · replace h := (if_neg h_121).symm.trans h
            refine a_aload_n X dX8_results_124 rfl ?_
            refine a_getr X lf8_73 (by first | exact p_o | assumption) rfl (by omega) dX8_results_125 ?_
            refine a_iload_n X dX8_results_128 rfl ?_
            obtain ⟨g_129, h⟩ := zIx h
            refine a_iaload X (by first | exact p_given | assumption) g_129 dX8_results_129 ?_
            refine a_iconst (v := -1) X dX8_results_130 (by decide) ?_
            refine a_icmp_ne (tgt := 185) X dX8_results_131 (by decide) (fun h_131 => ?_) (fun h_131 => ?_)
            · replace h := (if_neg h_131).symm.trans h
              exact Zw.to2 (J_185 _ _ _ _ _ h) rfl rfl rfl
            · replace h := (if_pos h_131).symm.trans h
              refine a_iload_n X dX8_results_134 rfl ?_
              refine a_iload_n X dX8_results_135 rfl ?_
              refine a_icmp_eq (tgt := 185) X dX8_results_136 (by decide) (fun h_136 => ?_) (fun h_136 => ?_)
              · replace h := (if_pos h_136).symm.trans h
                exact Zw.to2 (J_185 _ _ _ _ _ h) rfl rfl rfl
              · replace h := (if_neg h_136).symm.trans h
                refine a_aload_n X dX8_results_139 rfl ?_
                refine a_iload_n X dX8_results_140 rfl ?_
                refine a_aload_n X dX8_results_141 rfl ?_
                refine a_iload_n X dX8_results_142 rfl ?_
                refine a_iload X dX8_results_143 rfl ?_
                obtain ⟨e_145, f_145, h⟩ := zBx h
                refine a_callVv X dX8_results_145 miX8_choiceOf lm8_284 (t_X8_choiceOf (by first | exact hP | assumption) f_145) (by first | exact p_o | assumption) rfl rfl rfl (Nat.le_of_ble_eq_true rfl) ⟨by decide, by decide, by decide, by decide⟩ ?_
                refine a_aload_n X dX8_results_148 rfl ?_
                refine a_getr X lf8_79 (by first | exact p_o | assumption) rfl (by omega) dX8_results_149 ?_
                refine a_aload_n X dX8_results_152 rfl ?_
                refine a_iload_n X dX8_results_153 rfl ?_
                refine a_iload X dX8_results_154 rfl ?_
                obtain ⟨e_156, f_156, h⟩ := zBx h
                refine a_callVv X dX8_results_156 miX8_choiceOf lm8_284 (t_X8_choiceOf (by first | exact hP | assumption) f_156) (by first | exact p_o | assumption) rfl rfl rfl (Nat.le_of_ble_eq_true rfl) ⟨by decide, by decide, by decide, by decide⟩ ?_
                obtain ⟨g_159, h⟩ := zIx h
                refine a_iaload X (by first | exact p_tags | assumption) g_159 dX8_results_159 ?_
                obtain ⟨e_160, f_160, h⟩ := zBx h
                refine a_callVx X dX8_results_160 miX8_fits lm8_329 (t_X8_fits (by first | exact hP | assumption) f_160) (by first | exact p_o | assumption) rfl rfl rfl (Nat.le_of_ble_eq_true rfl) ⟨by decide, by decide, by decide, by decide⟩ (fun r_160 S_160 q_160 => ?_)
                obtain ⟨rfl, rfl, b_160⟩ := q_160
                refine a_if_eq (tgt := 179) X dX8_results_163 (by decide) (fun h_163 => ?_) (fun h_163 => ?_)
                · replace h := (if_pos h_163).symm.trans h
                  exact Zw.to2 (J_179 _ _ _ _ _ h) rfl rfl rfl
                · replace h := (if_neg h_163).symm.trans h
                  refine a_aload_n X dX8_results_166 rfl ?_
                  refine a_iload_n X dX8_results_167 rfl ?_
                  refine a_aload_n X dX8_results_168 rfl ?_
                  refine a_iload_n X dX8_results_169 rfl ?_
                  refine a_iload X dX8_results_170 rfl ?_
                  obtain ⟨e_172, f_172, h⟩ := zBx h
                  refine a_callVv X dX8_results_172 miX8_choiceOf lm8_284 (t_X8_choiceOf (by first | exact hP | assumption) f_172) (by first | exact p_o | assumption) rfl rfl rfl (Nat.le_of_ble_eq_true rfl) ⟨by decide, by decide, by decide, by decide⟩ ?_
                  refine a_iconst (v := 2) X dX8_results_175 (by decide) ?_
                  obtain ⟨e_176, f_176, h⟩ := zBx h
                  refine a_callVu X dX8_results_176 miX8_gets lm8_333 (t_X8_gets (by first | exact hP | assumption) f_176) (by first | exact p_o | assumption) rfl rfl rfl (Nat.le_of_ble_eq_true rfl) ⟨by decide, by decide, by decide, by decide⟩ ?_
                  exact Zw.to2 (J_179 _ _ _ _ _ h) rfl rfl rfl
      have H_114 : ∀ (x1_114 : Int32) (x2_114 : Int32) (x3_114 : Int32) (x4_114 : Int32) (M_114 : zMt), D_X8_results_114 P (D_X8_results_96 P u_96) zFu x1_114 x2_114 x3_114 x4_114 M_114 = some r → Zw p l e { frames := 2, cells := 0, slots := 0, locals := 80 * (2) } s m args below meth c G b 5 (MQ below (zQ G b FQ) args s 0 0 (fun q : Nat => b ≤ q)) 0 0 114 [some (.ref (P)), some (.int x1_114), some (.int x2_114), some (.int x3_114), some (.int x4_114)] [] (L, M_114, N) := L_114 zFu
      intro x1_96 x2_96 x3_96 x4_96 M_96 h
      rw [D_X8_results_96] at h
      refine a_iload_n X dX8_results_96 rfl ?_
      refine a_aload_n X dX8_results_97 rfl ?_
      refine a_geti X lf8_275 (by first | exact p_o | assumption) rfl dX8_results_98 ?_
      refine a_icmp_ge (tgt := 191) X dX8_results_101 (by decide) (fun h_101 => ?_) (fun h_101 => ?_)
      · replace h := (if_pos h_101).symm.trans h
        refine a_vret X hr dX8_results_191 ⟨by decide, by decide⟩ ?_
        subst hF
        rw [← Option.some.inj h]
        exact ⟨rfl, rfl⟩
      · replace h := (if_neg h_101).symm.trans h
        refine a_aload_n X dX8_results_104 rfl ?_
        refine a_getr X lf8_70 (by first | exact p_o | assumption) rfl (by omega) dX8_results_105 ?_
        refine a_iload_n X dX8_results_108 rfl ?_
        obtain ⟨g_109, h⟩ := zIx h
        refine a_iaload X (by first | exact p_ord | assumption) g_109 dX8_results_109 ?_
        refine a_istore_n X dX8_results_110 (by decide) ?_
        refine a_iconst (v := 0) X dX8_results_111 (by decide) ?_
        refine a_istore X dX8_results_112 (by decide) ?_
        exact Zw.to2 (H_114 _ _ _ _ _ h) rfl rfl rfl
  have H_96 : ∀ (x1_96 : Int32) (x2_96 : Int32) (x3_96 : Option Value) (x4_96 : Option Value) (M_96 : zMt), D_X8_results_96 P zFu x1_96 x2_96 M_96 = some r → Zw p l e { frames := 2, cells := 0, slots := 0, locals := 80 * (2) } s m args below meth c G b 5 (MQ below (zQ G b FQ) args s 0 0 (fun q : Nat => b ≤ q)) 0 0 96 [some (.ref (P)), some (.int x1_96), some (.int x2_96), x3_96, x4_96] [] (L, M_96, N) := L_96 zFu
  have L_74 : ∀ u : Nat, ∀ (x1_74 : Int32) (x2_74 : Int32) (x3_74 : Option Value) (x4_74 : Option Value) (M_74 : zMt), D_X8_results_74 P u x1_74 x2_74 M_74 = some r → Zw p l e { frames := 2, cells := 0, slots := 0, locals := 80 * (2) } s m args below meth c G b 5 (MQ below (zQ G b FQ) args s 0 0 (fun q : Nat => b ≤ q)) 0 0 74 [some (.ref (P)), some (.int x1_74), some (.int x2_74), x3_74, x4_74] [] (L, M_74, N) := by
    intro u
    induction u with
    | zero => intro x1_74 x2_74 x3_74 x4_74 M_74 h; cases (show none = some r from h)
    | succ u_74 ih_74 =>
      intro x1_74 x2_74 x3_74 x4_74 M_74 h
      rw [D_X8_results_74] at h
      refine a_iload_n X dX8_results_74 rfl ?_
      refine a_aload_n X dX8_results_75 rfl ?_
      refine a_geti X lf8_125 (by first | exact p_o | assumption) rfl dX8_results_76 ?_
      refine a_icmp_ge (tgt := 94) X dX8_results_79 (by decide) (fun h_79 => ?_) (fun h_79 => ?_)
      · replace h := (if_pos h_79).symm.trans h
        refine a_iconst (v := 0) X dX8_results_94 (by decide) ?_
        refine a_istore_n X dX8_results_95 (by decide) ?_
        exact Zw.to2 (H_96 _ _ _ _ _ h) rfl rfl rfl
      · replace h := (if_neg h_79).symm.trans h
        refine a_aload_n X dX8_results_82 rfl ?_
        refine a_iload_n X dX8_results_83 rfl ?_
        refine a_iload_n X dX8_results_84 rfl ?_
        obtain ⟨e_85, f_85, h⟩ := zBx h
        refine a_callVu X dX8_results_85 miX8_firstRound lm8_325 (t_X8_firstRound (by first | exact hP | assumption) f_85) (by first | exact p_o | assumption) rfl rfl rfl (Nat.le_of_ble_eq_true rfl) ⟨by decide, by decide, by decide, by decide⟩ ?_
        refine a_iinc (v := x2_74 + 1) X dX8_results_88 (by decide) rfl zi_1 ?_
        refine a_goto (tgt := 74) X dX8_results_91 (by decide) ?_
        exact Zw.to2 (ih_74 _ _ _ _ _ h) rfl rfl rfl
  have H_74 : ∀ (x1_74 : Int32) (x2_74 : Int32) (x3_74 : Option Value) (x4_74 : Option Value) (M_74 : zMt), D_X8_results_74 P zFu x1_74 x2_74 M_74 = some r → Zw p l e { frames := 2, cells := 0, slots := 0, locals := 80 * (2) } s m args below meth c G b 5 (MQ below (zQ G b FQ) args s 0 0 (fun q : Nat => b ≤ q)) 0 0 74 [some (.ref (P)), some (.int x1_74), some (.int x2_74), x3_74, x4_74] [] (L, M_74, N) := L_74 zFu
  have L_32 : ∀ u : Nat, ∀ (x1_32 : Int32) (x2_32 : Int32) (x3_32 : Option Value) (x4_32 : Option Value) (M_32 : zMt), D_X8_results_32 P u x1_32 x2_32 M_32 = some r → Zw p l e { frames := 2, cells := 0, slots := 0, locals := 80 * (2) } s m args below meth c G b 5 (MQ below (zQ G b FQ) args s 0 0 (fun q : Nat => b ≤ q)) 0 0 32 [some (.ref (P)), some (.int x1_32), some (.int x2_32), x3_32, x4_32] [] (L, M_32, N) := by
    intro u
    induction u with
    | zero => intro x1_32 x2_32 x3_32 x4_32 M_32 h; cases (show none = some r from h)
    | succ u_32 ih_32 =>
      intro x1_32 x2_32 x3_32 x4_32 M_32 h
      rw [D_X8_results_32] at h
      refine a_iload_n X dX8_results_32 rfl ?_
      refine a_aload_n X dX8_results_33 rfl ?_
      refine a_geti X lf8_125 (by first | exact p_o | assumption) rfl dX8_results_34 ?_
      refine a_icmp_ge (tgt := 72) X dX8_results_37 (by decide) (fun h_37 => ?_) (fun h_37 => ?_)
      · replace h := (if_pos h_37).symm.trans h
        refine a_iconst (v := 0) X dX8_results_72 (by decide) ?_
        refine a_istore_n X dX8_results_73 (by decide) ?_
        exact Zw.to2 (H_74 _ _ _ _ _ h) rfl rfl rfl
      · replace h := (if_neg h_37).symm.trans h
        refine a_aload_n X dX8_results_40 rfl ?_
        refine a_getr X lf8_79 (by first | exact p_o | assumption) rfl (by omega) dX8_results_41 ?_
        refine a_iload_n X dX8_results_44 rfl ?_
        refine a_aload_n X dX8_results_45 rfl ?_
        refine a_getr X lf8_7 (by first | exact p_o | assumption) rfl (by omega) dX8_results_46 ?_
        refine a_bipush (v := 62) X dX8_results_49 (by decide) ?_
        refine a_iload_n X dX8_results_51 rfl ?_
        refine a_iadd X dX8_results_52 ?_
        obtain ⟨g_53, h⟩ := zIx h
        refine a_iaload X (by first | exact p_s | assumption) g_53 dX8_results_53 ?_
        obtain ⟨g_54, h⟩ := zIx h
        obtain ⟨M_54, f_54, h⟩ := zLtx h
        refine d_iastore X (by first | exact p_tags | assumption) g_54 dX8_results_54 f_54 ?_
        refine a_aload_n X dX8_results_55 rfl ?_
        refine a_getr X lf8_82 (by first | exact p_o | assumption) rfl (by omega) dX8_results_56 ?_
        refine a_iload_n X dX8_results_59 rfl ?_
        refine a_aload_n X dX8_results_60 rfl ?_
        refine a_iload_n X dX8_results_61 rfl ?_
        obtain ⟨e_62, f_62, h⟩ := zBx h
        refine a_callVv X dX8_results_62 miX8_forGuests lm8_307 (t_X8_forGuests (by first | exact hP | assumption) f_62) (by first | exact p_o | assumption) rfl rfl rfl (Nat.le_of_ble_eq_true rfl) ⟨by decide, by decide, by decide, by decide⟩ ?_
        obtain ⟨g_65, h⟩ := zIx h
        obtain ⟨M_65, f_65, h⟩ := zLtx h
        refine d_iastore X (by first | exact p_guestTags | assumption) g_65 dX8_results_65 f_65 ?_
        refine a_iinc (v := x2_32 + 1) X dX8_results_66 (by decide) rfl zi_1 ?_
        refine a_goto (tgt := 32) X dX8_results_69 (by decide) ?_
        exact Zw.to2 (ih_32 _ _ _ _ _ h) rfl rfl rfl
  have H_32 : ∀ (x1_32 : Int32) (x2_32 : Int32) (x3_32 : Option Value) (x4_32 : Option Value) (M_32 : zMt), D_X8_results_32 P zFu x1_32 x2_32 M_32 = some r → Zw p l e { frames := 2, cells := 0, slots := 0, locals := 80 * (2) } s m args below meth c G b 5 (MQ below (zQ G b FQ) args s 0 0 (fun q : Nat => b ≤ q)) 0 0 32 [some (.ref (P)), some (.int x1_32), some (.int x2_32), x3_32, x4_32] [] (L, M_32, N) := L_32 zFu
  have L_2 : ∀ u : Nat, ∀ (x1_2 : Int32) (x2_2 : Int32) (x3_2 : Option Value) (x4_2 : Option Value) (M_2 : zMt), D_X8_results_2 P u x1_2 x2_2 M_2 = some r → Zw p l e { frames := 2, cells := 0, slots := 0, locals := 80 * (2) } s m args below meth c G b 5 (MQ below (zQ G b FQ) args s 0 0 (fun q : Nat => b ≤ q)) 0 0 2 [some (.ref (P)), some (.int x1_2), some (.int x2_2), x3_2, x4_2] [] (L, M_2, N) := by
    intro u
    induction u with
    | zero => intro x1_2 x2_2 x3_2 x4_2 M_2 h; cases (show none = some r from h)
    | succ u_2 ih_2 =>
      intro x1_2 x2_2 x3_2 x4_2 M_2 h
      rw [D_X8_results_2] at h
      refine a_iload_n X dX8_results_2 rfl ?_
      refine a_aload_n X dX8_results_3 rfl ?_
      refine a_geti X lf8_275 (by first | exact p_o | assumption) rfl dX8_results_4 ?_
      refine a_icmp_ge (tgt := 30) X dX8_results_7 (by decide) (fun h_7 => ?_) (fun h_7 => ?_)
      · replace h := (if_pos h_7).symm.trans h
        refine a_iconst (v := 0) X dX8_results_30 (by decide) ?_
        refine a_istore_n X dX8_results_31 (by decide) ?_
        exact Zw.to2 (H_32 _ _ _ _ _ h) rfl rfl rfl
      · replace h := (if_neg h_7).symm.trans h
        refine a_aload_n X dX8_results_10 rfl ?_
        refine a_getr X lf8_73 (by first | exact p_o | assumption) rfl (by omega) dX8_results_11 ?_
        refine a_iload_n X dX8_results_14 rfl ?_
        refine a_iconst (v := -1) X dX8_results_15 (by decide) ?_
        obtain ⟨g_16, h⟩ := zIx h
        obtain ⟨M_16, f_16, h⟩ := zLtx h
        refine d_iastore X (by first | exact p_given | assumption) g_16 dX8_results_16 f_16 ?_
        refine a_aload_n X dX8_results_17 rfl ?_
        refine a_getr X lf8_76 (by first | exact p_o | assumption) rfl (by omega) dX8_results_18 ?_
        refine a_iload_n X dX8_results_21 rfl ?_
        refine a_iconst (v := 0) X dX8_results_22 (by decide) ?_
        obtain ⟨g_23, h⟩ := zIx h
        obtain ⟨M_23, f_23, h⟩ := zLtx h
        refine d_iastore X (by first | exact p_roundOf | assumption) g_23 dX8_results_23 f_23 ?_
        refine a_iinc (v := x2_2 + 1) X dX8_results_24 (by decide) rfl zi_1 ?_
        refine a_goto (tgt := 2) X dX8_results_27 (by decide) ?_
        exact Zw.to2 (ih_2 _ _ _ _ _ h) rfl rfl rfl
  have H_2 : ∀ (x1_2 : Int32) (x2_2 : Int32) (x3_2 : Option Value) (x4_2 : Option Value) (M_2 : zMt), D_X8_results_2 P zFu x1_2 x2_2 M_2 = some r → Zw p l e { frames := 2, cells := 0, slots := 0, locals := 80 * (2) } s m args below meth c G b 5 (MQ below (zQ G b FQ) args s 0 0 (fun q : Nat => b ≤ q)) 0 0 2 [some (.ref (P)), some (.int x1_2), some (.int x2_2), x3_2, x4_2] [] (L, M_2, N) := L_2 zFu
  unfold D_X8_results at h
  refine a_iconst (v := 0) X dX8_results_0 (by decide) ?_
  refine a_istore_n X dX8_results_1 (by decide) ?_
  exact Zw.to2 (H_2 _ _ _ _ _ h) rfl rfl rfl
noncomputable def D_X8_givenTags_33 (P : Nat) (M : zMt) (k4 : Int32 → Int32 → Option (Int32)) (x2_33 : Int32) (y0_33 : Int32) (y1_33 : Int32) : Option (Int32) :=
  k4 (y0_33 + y1_33) (x2_33 + 1)
noncomputable def D_X8_givenTags_4 (P : Nat) (M : zMt) : Nat → Int32 → Int32 → Option (Int32)
  | 0, _, _ => none
  | n + 1, x1_4, x2_4 =>
    if (M P 33) ≤ x2_4 then
      some (x1_4)
    else
      zI x2_4 10 <|
      if (M (P + 19) x2_4.toNatClampNeg) = (-1 : Int32) then
        D_X8_givenTags_33 P M (D_X8_givenTags_4 P M n) x2_4 x1_4 (0 : Int32)
      else
        zI x2_4 10 <|
        D_X8_givenTags_33 P M (D_X8_givenTags_4 P M n) x2_4 x1_4 (M (P + 14) x2_4.toNatClampNeg)
noncomputable def D_X8_givenTags (P : Nat) (M : zMt)  : Option (Int32) :=
  D_X8_givenTags_4 P M zFu (0 : Int32) (0 : Int32)
set_option maxRecDepth 100000 in
set_option maxHeartbeats 4000000 in
theorem t_X8_givenTags {l : Launch} {G : zG} {b : Nat} {L : List zC} {M : zMt} {N : zNt} {P : Nat}  (hP : LX8 L P) {r : Int32} (h : D_X8_givenTags P M = some r) : zM l G b yX8_givenTags cX8_givenTags 3 (some .int) 0 0 0 [.ref P] (L, M, N) (fun r2 z => r2 = some (.int r) ∧ z = (L, M, N)) := by
  refine zM.of miX8_givenTags (Nat.le_of_ble_eq_true rfl) ?_
  intro p e s m args below meth c X hr hname
  generalize hF : ((fun r2 z => r2 = some (.int r) ∧ z = (L, M, N)) : Option Value → zS → Prop) = FQ
  change Zw p l e { frames := 0, cells := 0, slots := 0, locals := 80 * (0) } s m args below meth c G b 3 (MQ below (zQ G b FQ) args s 0 0 (fun q : Nat => b ≤ q)) 0 0 0 [some (.ref P), none, none] [] (L, M, N)
  have p_lt := hP.1
  have p_o := hP.2.1
  have p_sizes := hP.2.2.2.2.2.2.2.2.2.2.2.2.2.2.2.1
  have p_given := hP.2.2.2.2.2.2.2.2.2.2.2.2.2.2.2.2.2.2.2.2.1
  have L_4 : ∀ u : Nat, ∀ (x1_4 : Int32) (x2_4 : Int32), D_X8_givenTags_4 P M u x1_4 x2_4 = some r → Zw p l e { frames := 0, cells := 0, slots := 0, locals := 80 * (0) } s m args below meth c G b 3 (MQ below (zQ G b FQ) args s 0 0 (fun q : Nat => b ≤ q)) 0 0 4 [some (.ref (P)), some (.int x1_4), some (.int x2_4)] [] (L, M, N) := by
    intro u
    induction u with
    | zero => intro x1_4 x2_4 h; cases (show none = some r from h)
    | succ u_4 ih_4 =>
      have J_33 : ∀ (x1_33 : Int32) (x2_33 : Int32) (y0_33 : Int32) (y1_33 : Int32), D_X8_givenTags_33 P M (D_X8_givenTags_4 P M u_4) x2_33 y0_33 y1_33 = some r → Zw p l e { frames := 0, cells := 0, slots := 0, locals := 80 * (0) } s m args below meth c G b 3 (MQ below (zQ G b FQ) args s 0 0 (fun q : Nat => b ≤ q)) 0 0 33 [some (.ref (P)), some (.int x1_33), some (.int x2_33)] [.int y1_33, .int y0_33] (L, M, N) := by
        intro x1_33 x2_33 y0_33 y1_33 h
        unfold D_X8_givenTags_33 at h
        refine a_iadd X dX8_givenTags_33 ?_
        refine a_istore_n X dX8_givenTags_34 (by decide) ?_
        refine a_iinc (v := x2_33 + 1) X dX8_givenTags_35 (by decide) rfl zi_1 ?_
        refine a_goto (tgt := 4) X dX8_givenTags_38 (by decide) ?_
        exact Zw.to2 (ih_4 _ _ h) rfl rfl rfl
      intro x1_4 x2_4 h
      rw [D_X8_givenTags_4] at h
      refine a_iload_n X dX8_givenTags_4 rfl ?_
      refine a_aload_n X dX8_givenTags_5 rfl ?_
      refine a_geti X lf8_275 (by first | exact p_o | assumption) rfl dX8_givenTags_6 ?_
      refine a_icmp_ge (tgt := 41) X dX8_givenTags_9 (by decide) (fun h_9 => ?_) (fun h_9 => ?_)
      · replace h := (if_pos h_9).symm.trans h
        refine a_iload_n X dX8_givenTags_41 rfl ?_
        refine a_iret X hr dX8_givenTags_42 ⟨by decide, by decide⟩ ?_
        subst hF
        rw [← Option.some.inj h]
        exact ⟨rfl, rfl⟩
      · replace h := (if_neg h_9).symm.trans h
        refine a_iload_n X dX8_givenTags_12 rfl ?_
        refine a_aload_n X dX8_givenTags_13 rfl ?_
        refine a_getr X lf8_73 (by first | exact p_o | assumption) rfl (by omega) dX8_givenTags_14 ?_
        refine a_iload_n X dX8_givenTags_17 rfl ?_
        obtain ⟨g_18, h⟩ := zIx h
        refine a_iaload X (by first | exact p_given | assumption) g_18 dX8_givenTags_18 ?_
        refine a_iconst (v := -1) X dX8_givenTags_19 (by decide) ?_
        refine a_icmp_ne (tgt := 27) X dX8_givenTags_20 (by decide) (fun h_20 => ?_) (fun h_20 => ?_)
        · replace h := (if_neg h_20).symm.trans h
          refine a_aload_n X dX8_givenTags_27 rfl ?_
          refine a_getr X lf8_58 (by first | exact p_o | assumption) rfl (by omega) dX8_givenTags_28 ?_
          refine a_iload_n X dX8_givenTags_31 rfl ?_
          obtain ⟨g_32, h⟩ := zIx h
          refine a_iaload X (by first | exact p_sizes | assumption) g_32 dX8_givenTags_32 ?_
          exact Zw.to2 (J_33 _ _ _ _ h) rfl rfl rfl
        · replace h := (if_pos h_20).symm.trans h
          refine a_iconst (v := 0) X dX8_givenTags_23 (by decide) ?_
          refine a_goto (tgt := 33) X dX8_givenTags_24 (by decide) ?_
          exact Zw.to2 (J_33 _ _ _ _ h) rfl rfl rfl
  have H_4 : ∀ (x1_4 : Int32) (x2_4 : Int32), D_X8_givenTags_4 P M zFu x1_4 x2_4 = some r → Zw p l e { frames := 0, cells := 0, slots := 0, locals := 80 * (0) } s m args below meth c G b 3 (MQ below (zQ G b FQ) args s 0 0 (fun q : Nat => b ≤ q)) 0 0 4 [some (.ref (P)), some (.int x1_4), some (.int x2_4)] [] (L, M, N) := L_4 zFu
  unfold D_X8_givenTags at h
  refine a_iconst (v := 0) X dX8_givenTags_0 (by decide) ?_
  refine a_istore_n X dX8_givenTags_1 (by decide) ?_
  refine a_iconst (v := 0) X dX8_givenTags_2 (by decide) ?_
  refine a_istore_n X dX8_givenTags_3 (by decide) ?_
  exact Zw.to2 (H_4 _ _ h) rfl rfl rfl
noncomputable def D_X8_draws (P : Nat) (v0 : Int32) (N : zNt) : Option (Int64 × zNt) :=
  zLt (zu N P 46 ((((1103515245 : Int64) * (N P 46)) + (12345 : Int64)) - (((1103515245 : Int64) * (N P 46)) + (12345 : Int64)) / (2147483648 : Int64) * (2147483648 : Int64))) fun N_17 =>
  zZl (Int32.toInt64 v0) <|
  some ((((N_17 P 46) / (65536 : Int64)) - ((N_17 P 46) / (65536 : Int64)) / (Int32.toInt64 v0) * (Int32.toInt64 v0)), N_17)
set_option maxRecDepth 100000 in
set_option maxHeartbeats 4000000 in
theorem t_X8_draws {l : Launch} {G : zG} {b : Nat} {L : List zC} {M : zMt} {N : zNt} {P : Nat} {v0 : Int32} (hP : LX8 L P) {r : Int64 × zNt} (h : D_X8_draws P v0 N = some r) : zM l G b yX8_draws cX8_draws 2 (some .long) 0 0 0 [.ref P, .int v0] (L, M, N) (fun r2 z => r2 = some (.long r.1) ∧ z = (L, M, r.2)) := by
  refine zM.of miX8_draws (Nat.le_of_ble_eq_true rfl) ?_
  intro p e s m args below meth c X hr hname
  generalize hF : ((fun r2 z => r2 = some (.long r.1) ∧ z = (L, M, r.2)) : Option Value → zS → Prop) = FQ
  change Zw p l e { frames := 0, cells := 0, slots := 0, locals := 80 * (0) } s m args below meth c G b 2 (MQ below (zQ G b FQ) args s 0 0 (fun q : Nat => b ≤ q)) 0 0 0 [some (.ref P), some (.int v0)] [] (L, M, N)
  have p_lt := hP.1
  have p_o := hP.2.1
  unfold D_X8_draws at h
  refine a_aload_n X dX8_draws_0 rfl ?_
  refine a_ldc2 X dX8_draws_1 lk8_337 ?_
  refine a_aload_n X dX8_draws_4 rfl ?_
  refine a_getl X lf8_339 (by first | exact p_o | assumption) rfl dX8_draws_5 ?_
  refine a_lmul X dX8_draws_8 ?_
  refine a_ldc2 X dX8_draws_9 lk8_342 ?_
  refine a_ladd X dX8_draws_12 ?_
  refine a_ldc2 X dX8_draws_13 lk8_344 ?_
  refine a_lrem X dX8_draws_16 (by decide) ?_
  obtain ⟨N_17, f_17, h⟩ := zLtx h
  refine d_putl X lf8_339 (by first | exact p_o | assumption) rfl dX8_draws_17 f_17 ?_
  refine a_aload_n X dX8_draws_20 rfl ?_
  refine a_getl X lf8_339 (by first | exact p_o | assumption) rfl dX8_draws_21 ?_
  refine a_ldc2 X dX8_draws_24 lk8_346 ?_
  refine a_ldiv X dX8_draws_27 (by decide) ?_
  refine a_iload_n X dX8_draws_28 rfl ?_
  refine a_i2l X dX8_draws_29 ?_
  obtain ⟨z_30, h⟩ := zZlx h
  refine a_lrem X dX8_draws_30 (z_30) ?_
  refine a_lret X hr dX8_draws_31 ⟨by decide, by decide⟩ ?_
  subst hF
  rw [← Option.some.inj h]
  exact ⟨rfl, rfl⟩
noncomputable def D_X8_laysOrder_101 (P : Nat) (k45 : Int32 → Int32 → Int32 → zMt → zNt → Option (zMt × zNt)) (k67 : Int32 → Int32 → Int32 → Int64 → Int32 → Int64 → zMt → zNt → Option (zMt × zNt)) (x2_101 : Int32) (x3_101 : Int32) (x4_101 : Int32) (x5_101 : Int64) (x7_101 : Int32) (y0_101 : Int64) (y1_101 : Int64) (M_101 : zMt) (N_101 : zNt) : Option (zMt × zNt) :=
  k67 x2_101 x3_101 x4_101 x5_101 x7_101 (y0_101 + y1_101) M_101 N_101
noncomputable def D_X8_laysOrder_67 (P : Nat) (k45 : Int32 → Int32 → Int32 → zMt → zNt → Option (zMt × zNt)) : Nat → Int32 → Int32 → Int32 → Int64 → Int32 → Int64 → zMt → zNt → Option (zMt × zNt)
  | 0, _, _, _, _, _, _, _, _ => none
  | n + 1, x2_67, x3_67, x4_67, x5_67, x7_67, x8_67, M_67, N_67 =>
    if 0 < (lg_cmp x8_67 x5_67) then
      zI x4_67 10 <|
      zLt (zu M_67 (P + 18) x4_67.toNatClampNeg x7_67) fun M_115 =>
      zI x7_67 10 <|
      k45 (x2_67 ||| ((1 : Int32) <<< (x7_67 &&& 31))) (x3_67 - (M_115 (P + 17) x7_67.toNatClampNeg)) (x4_67 + 1) M_115 N_67
    else
      zB (D_X8_has x2_67 (x7_67 + 1)) fun e_83 =>
      if e_83 = 0 then
        zI (x7_67 + 1) 10 <|
        D_X8_laysOrder_101 P k45 (D_X8_laysOrder_67 P k45 n) x2_67 x3_67 x4_67 x5_67 (x7_67 + 1) x8_67 (Int32.toInt64 (M_67 (P + 17) (x7_67 + 1).toNatClampNeg)) M_67 N_67
      else
        D_X8_laysOrder_101 P k45 (D_X8_laysOrder_67 P k45 n) x2_67 x3_67 x4_67 x5_67 (x7_67 + 1) x8_67 (0 : Int64) M_67 N_67
noncomputable def D_X8_laysOrder_45 (P : Nat) : Nat → Int32 → Int32 → Int32 → zMt → zNt → Option (zMt × zNt)
  | 0, _, _, _, _, _ => none
  | n + 1, x2_45, x3_45, x4_45, M_45, N_45 =>
    if (M_45 P 33) ≤ x4_45 then
      some (M_45, N_45)
    else
      zB (D_X8_draws P x3_45 N_45) fun e_56 =>
      D_X8_laysOrder_67 P (D_X8_laysOrder_45 P n) zFu x2_45 x3_45 x4_45 e_56.1 (-1 : Int32) (0 : Int64) M_45 e_56.2
noncomputable def D_X8_laysOrder_17 (P : Nat) : Nat → Int32 → Int32 → Int32 → zMt → zNt → Option (zMt × zNt)
  | 0, _, _, _, _, _ => none
  | n + 1, x2_17, x3_17, x4_17, M_17, N_17 =>
    if (M_17 P 33) ≤ x4_17 then
      D_X8_laysOrder_45 P zFu x2_17 x3_17 (0 : Int32) M_17 N_17
    else
      zI x4_17 10 <|
      (D_X8_laysOrder_17 P n) x2_17 (x3_17 + (M_17 (P + 17) x4_17.toNatClampNeg)) (x4_17 + 1) M_17 N_17
noncomputable def D_X8_laysOrder (P : Nat) (v0 : Int32) (M : zMt) (N : zNt) : Option (zMt × zNt) :=
  zB (D_X8_laysApplicants P M) fun e_1 =>
  zLt (zu N P 46 (Int32.toInt64 v0)) fun N_7 =>
  D_X8_laysOrder_17 P zFu (0 : Int32) (0 : Int32) (0 : Int32) e_1 N_7
set_option maxRecDepth 100000 in
set_option maxHeartbeats 4000000 in
theorem t_X8_laysOrder {l : Launch} {G : zG} {b : Nat} {L : List zC} {M : zMt} {N : zNt} {P : Nat} {v0 : Int32} (hP : LX8 L P) {r : zMt × zNt} (h : D_X8_laysOrder P v0 M N = some r) : zM l G b yX8_laysOrder cX8_laysOrder 10 none 3 0 0 [.ref P, .int v0] (L, M, N) (fun r2 z => r2 = none ∧ z = (L, r.1, r.2)) := by
  refine zM.of miX8_laysOrder (Nat.le_of_ble_eq_true rfl) ?_
  intro p e s m args below meth c X hr hname
  generalize hF : ((fun r2 z => r2 = none ∧ z = (L, r.1, r.2)) : Option Value → zS → Prop) = FQ
  change Zw p l e { frames := 3, cells := 0, slots := 0, locals := 80 * (3) } s m args below meth c G b 10 (MQ below (zQ G b FQ) args s 0 0 (fun q : Nat => b ≤ q)) 0 0 0 [some (.ref P), some (.int v0), none, none, none, none, none, none, none, none] [] (L, M, N)
  have p_lt := hP.1
  have p_o := hP.2.1
  have p_ticketsOf := hP.2.2.2.2.2.2.2.2.2.2.2.2.2.2.2.2.2.2.1
  have p_ord := hP.2.2.2.2.2.2.2.2.2.2.2.2.2.2.2.2.2.2.2.1
  have L_45 : ∀ u : Nat, ∀ (x1_45 : Int32) (x2_45 : Int32) (x3_45 : Int32) (x4_45 : Int32) (x5_45 : Option Value) (x6_45 : Option Value) (x7_45 : Option Value) (x8_45 : Option Value) (x9_45 : Option Value) (M_45 : zMt) (N_45 : zNt), D_X8_laysOrder_45 P u x2_45 x3_45 x4_45 M_45 N_45 = some r → Zw p l e { frames := 3, cells := 0, slots := 0, locals := 80 * (3) } s m args below meth c G b 10 (MQ below (zQ G b FQ) args s 0 0 (fun q : Nat => b ≤ q)) 0 0 45 [some (.ref (P)), some (.int x1_45), some (.int x2_45), some (.int x3_45), some (.int x4_45), x5_45, x6_45, x7_45, x8_45, x9_45] [] (L, M_45, N_45) := by
    intro u
    induction u with
    | zero => intro x1_45 x2_45 x3_45 x4_45 x5_45 x6_45 x7_45 x8_45 x9_45 M_45 N_45 h; cases (show none = some r from h)
    | succ u_45 ih_45 =>
      have L_67 : ∀ u : Nat, ∀ (x1_67 : Int32) (x2_67 : Int32) (x3_67 : Int32) (x4_67 : Int32) (x5_67 : Int64) (x7_67 : Int32) (x8_67 : Int64) (M_67 : zMt) (N_67 : zNt), D_X8_laysOrder_67 P (D_X8_laysOrder_45 P u_45) u x2_67 x3_67 x4_67 x5_67 x7_67 x8_67 M_67 N_67 = some r → Zw p l e { frames := 3, cells := 0, slots := 0, locals := 80 * (3) } s m args below meth c G b 10 (MQ below (zQ G b FQ) args s 0 0 (fun q : Nat => b ≤ q)) 0 0 67 [some (.ref (P)), some (.int x1_67), some (.int x2_67), some (.int x3_67), some (.int x4_67), some (.long x5_67), none, some (.int x7_67), some (.long x8_67), none] [] (L, M_67, N_67) := by
        intro u
        induction u with
        | zero => intro x1_67 x2_67 x3_67 x4_67 x5_67 x7_67 x8_67 M_67 N_67 h; cases (show none = some r from h)
        | succ u_67 ih_67 =>
          have J_101 : ∀ (x1_101 : Int32) (x2_101 : Int32) (x3_101 : Int32) (x4_101 : Int32) (x5_101 : Int64) (x7_101 : Int32) (x8_101 : Int64) (y0_101 : Int64) (y1_101 : Int64) (M_101 : zMt) (N_101 : zNt), D_X8_laysOrder_101 P (D_X8_laysOrder_45 P u_45) (D_X8_laysOrder_67 P (D_X8_laysOrder_45 P u_45) u_67) x2_101 x3_101 x4_101 x5_101 x7_101 y0_101 y1_101 M_101 N_101 = some r → Zw p l e { frames := 3, cells := 0, slots := 0, locals := 80 * (3) } s m args below meth c G b 10 (MQ below (zQ G b FQ) args s 0 0 (fun q : Nat => b ≤ q)) 0 0 101 [some (.ref (P)), some (.int x1_101), some (.int x2_101), some (.int x3_101), some (.int x4_101), some (.long x5_101), none, some (.int x7_101), some (.long x8_101), none] [.long y1_101, .long y0_101] (L, M_101, N_101) := by
            intro x1_101 x2_101 x3_101 x4_101 x5_101 x7_101 x8_101 y0_101 y1_101 M_101 N_101 h
            unfold D_X8_laysOrder_101 at h
            refine a_ladd X dX8_laysOrder_101 ?_
            refine a_lstore X dX8_laysOrder_102 (by decide) ?_
            refine a_goto (tgt := 67) X dX8_laysOrder_104 (by decide) ?_
            exact Zw.to2 (ih_67 _ _ _ _ _ _ _ _ _ h) rfl rfl rfl
          intro x1_67 x2_67 x3_67 x4_67 x5_67 x7_67 x8_67 M_67 N_67 h
          rw [D_X8_laysOrder_67] at h
          refine a_lload X dX8_laysOrder_67 rfl ?_
          refine a_lload X dX8_laysOrder_69 rfl ?_
          refine a_lcmp X dX8_laysOrder_71 ?_
          refine a_if_gt (tgt := 107) X dX8_laysOrder_72 (by decide) (fun h_72 => ?_) (fun h_72 => ?_)
          · replace h := (if_pos h_72).symm.trans h
            refine a_aload_n X dX8_laysOrder_107 rfl ?_
            refine a_getr X lf8_70 (by first | exact p_o | assumption) rfl (by omega) dX8_laysOrder_108 ?_
            refine a_iload X dX8_laysOrder_111 rfl ?_
            refine a_iload X dX8_laysOrder_113 rfl ?_
            obtain ⟨g_115, h⟩ := zIx h
            obtain ⟨M_115, f_115, h⟩ := zLtx h
            refine d_iastore X (by first | exact p_ord | assumption) g_115 dX8_laysOrder_115 f_115 ?_
            refine a_iload_n X dX8_laysOrder_116 rfl ?_
            refine a_iconst (v := 1) X dX8_laysOrder_117 (by decide) ?_
            refine a_iload X dX8_laysOrder_118 rfl ?_
            refine a_ishl X dX8_laysOrder_120 ?_
            refine a_ior X dX8_laysOrder_121 ?_
            refine a_istore_n X dX8_laysOrder_122 (by decide) ?_
            refine a_iload_n X dX8_laysOrder_123 rfl ?_
            refine a_aload_n X dX8_laysOrder_124 rfl ?_
            refine a_getr X lf8_67 (by first | exact p_o | assumption) rfl (by omega) dX8_laysOrder_125 ?_
            refine a_iload X dX8_laysOrder_128 rfl ?_
            obtain ⟨g_130, h⟩ := zIx h
            refine a_iaload X (by first | exact p_ticketsOf | assumption) g_130 dX8_laysOrder_130 ?_
            refine a_isub X dX8_laysOrder_131 ?_
            refine a_istore_n X dX8_laysOrder_132 (by decide) ?_
            refine a_iinc (v := x4_67 + 1) X dX8_laysOrder_133 (by decide) rfl zi_1 ?_
            refine a_goto (tgt := 45) X dX8_laysOrder_136 (by decide) ?_
            exact Zw.to2 (ih_45 _ _ _ _ _ _ _ _ _ _ _ h) rfl rfl rfl
          · replace h := (if_neg h_72).symm.trans h
            refine a_iinc (v := x7_67 + 1) X dX8_laysOrder_75 (by decide) rfl zi_1 ?_
            refine a_lload X dX8_laysOrder_78 rfl ?_
            refine a_iload_n X dX8_laysOrder_80 rfl ?_
            refine a_iload X dX8_laysOrder_81 rfl ?_
            obtain ⟨e_83, f_83, h⟩ := zBx h
            refine a_callSx X dX8_laysOrder_83 miX8_has lm8_240 (t_X8_has f_83) rfl rfl (Nat.le_of_ble_eq_true rfl) ⟨by decide, by decide, by decide, by decide⟩ (fun r_83 S_83 q_83 => ?_)
            obtain ⟨rfl, rfl, b_83⟩ := q_83
            refine a_if_eq (tgt := 93) X dX8_laysOrder_86 (by decide) (fun h_86 => ?_) (fun h_86 => ?_)
            · replace h := (if_pos h_86).symm.trans h
              refine a_aload_n X dX8_laysOrder_93 rfl ?_
              refine a_getr X lf8_67 (by first | exact p_o | assumption) rfl (by omega) dX8_laysOrder_94 ?_
              refine a_iload X dX8_laysOrder_97 rfl ?_
              obtain ⟨g_99, h⟩ := zIx h
              refine a_iaload X (by first | exact p_ticketsOf | assumption) g_99 dX8_laysOrder_99 ?_
              refine a_i2l X dX8_laysOrder_100 ?_
              exact Zw.to2 (J_101 _ _ _ _ _ _ _ _ _ _ _ h) rfl rfl rfl
            · replace h := (if_neg h_86).symm.trans h
              refine a_lconst (v := 0) X dX8_laysOrder_89 (by decide) ?_
              refine a_goto (tgt := 101) X dX8_laysOrder_90 (by decide) ?_
              exact Zw.to2 (J_101 _ _ _ _ _ _ _ _ _ _ _ h) rfl rfl rfl
      have H_67 : ∀ (x1_67 : Int32) (x2_67 : Int32) (x3_67 : Int32) (x4_67 : Int32) (x5_67 : Int64) (x7_67 : Int32) (x8_67 : Int64) (M_67 : zMt) (N_67 : zNt), D_X8_laysOrder_67 P (D_X8_laysOrder_45 P u_45) zFu x2_67 x3_67 x4_67 x5_67 x7_67 x8_67 M_67 N_67 = some r → Zw p l e { frames := 3, cells := 0, slots := 0, locals := 80 * (3) } s m args below meth c G b 10 (MQ below (zQ G b FQ) args s 0 0 (fun q : Nat => b ≤ q)) 0 0 67 [some (.ref (P)), some (.int x1_67), some (.int x2_67), some (.int x3_67), some (.int x4_67), some (.long x5_67), none, some (.int x7_67), some (.long x8_67), none] [] (L, M_67, N_67) := L_67 zFu
      intro x1_45 x2_45 x3_45 x4_45 x5_45 x6_45 x7_45 x8_45 x9_45 M_45 N_45 h
      rw [D_X8_laysOrder_45] at h
      refine a_iload X dX8_laysOrder_45 rfl ?_
      refine a_aload_n X dX8_laysOrder_47 rfl ?_
      refine a_geti X lf8_275 (by first | exact p_o | assumption) rfl dX8_laysOrder_48 ?_
      refine a_icmp_ge (tgt := 139) X dX8_laysOrder_51 (by decide) (fun h_51 => ?_) (fun h_51 => ?_)
      · replace h := (if_pos h_51).symm.trans h
        refine a_vret X hr dX8_laysOrder_139 ⟨by decide, by decide⟩ ?_
        subst hF
        rw [← Option.some.inj h]
        exact ⟨rfl, rfl⟩
      · replace h := (if_neg h_51).symm.trans h
        refine a_aload_n X dX8_laysOrder_54 rfl ?_
        refine a_iload_n X dX8_laysOrder_55 rfl ?_
        obtain ⟨e_56, f_56, h⟩ := zBx h
        refine a_callVv X dX8_laysOrder_56 miX8_draws lm8_348 (t_X8_draws (by first | exact hP | assumption) f_56) (by first | exact p_o | assumption) rfl rfl rfl (Nat.le_of_ble_eq_true rfl) ⟨by decide, by decide, by decide, by decide⟩ ?_
        refine a_lstore X dX8_laysOrder_59 (by decide) ?_
        refine a_iconst (v := -1) X dX8_laysOrder_61 (by decide) ?_
        refine a_istore X dX8_laysOrder_62 (by decide) ?_
        refine a_lconst (v := 0) X dX8_laysOrder_64 (by decide) ?_
        refine a_lstore X dX8_laysOrder_65 (by decide) ?_
        exact Zw.to2 (H_67 _ _ _ _ _ _ _ _ _ h) rfl rfl rfl
  have H_45 : ∀ (x1_45 : Int32) (x2_45 : Int32) (x3_45 : Int32) (x4_45 : Int32) (x5_45 : Option Value) (x6_45 : Option Value) (x7_45 : Option Value) (x8_45 : Option Value) (x9_45 : Option Value) (M_45 : zMt) (N_45 : zNt), D_X8_laysOrder_45 P zFu x2_45 x3_45 x4_45 M_45 N_45 = some r → Zw p l e { frames := 3, cells := 0, slots := 0, locals := 80 * (3) } s m args below meth c G b 10 (MQ below (zQ G b FQ) args s 0 0 (fun q : Nat => b ≤ q)) 0 0 45 [some (.ref (P)), some (.int x1_45), some (.int x2_45), some (.int x3_45), some (.int x4_45), x5_45, x6_45, x7_45, x8_45, x9_45] [] (L, M_45, N_45) := L_45 zFu
  have L_17 : ∀ u : Nat, ∀ (x1_17 : Int32) (x2_17 : Int32) (x3_17 : Int32) (x4_17 : Int32) (x5_17 : Option Value) (x6_17 : Option Value) (x7_17 : Option Value) (x8_17 : Option Value) (x9_17 : Option Value) (M_17 : zMt) (N_17 : zNt), (x2_17 = 0 ∨ x2_17 = 1) → D_X8_laysOrder_17 P u x2_17 x3_17 x4_17 M_17 N_17 = some r → Zw p l e { frames := 3, cells := 0, slots := 0, locals := 80 * (3) } s m args below meth c G b 10 (MQ below (zQ G b FQ) args s 0 0 (fun q : Nat => b ≤ q)) 0 0 17 [some (.ref (P)), some (.int x1_17), some (.int x2_17), some (.int x3_17), some (.int x4_17), x5_17, x6_17, x7_17, x8_17, x9_17] [] (L, M_17, N_17) := by
    intro u
    induction u with
    | zero => intro x1_17 x2_17 x3_17 x4_17 x5_17 x6_17 x7_17 x8_17 x9_17 M_17 N_17 fb_x2_17 h; cases (show none = some r from h)
    | succ u_17 ih_17 =>
      intro x1_17 x2_17 x3_17 x4_17 x5_17 x6_17 x7_17 x8_17 x9_17 M_17 N_17 fb_x2_17 h
      rw [D_X8_laysOrder_17] at h
      refine a_iload X dX8_laysOrder_17 rfl ?_
      refine a_aload_n X dX8_laysOrder_19 rfl ?_
      refine a_geti X lf8_275 (by first | exact p_o | assumption) rfl dX8_laysOrder_20 ?_
      refine a_icmp_ge (tgt := 42) X dX8_laysOrder_23 (by decide) (fun h_23 => ?_) (fun h_23 => ?_)
      · replace h := (if_pos h_23).symm.trans h
        refine a_iconst (v := 0) X dX8_laysOrder_42 (by decide) ?_
        refine a_istore X dX8_laysOrder_43 (by decide) ?_
        exact Zw.to2 (H_45 _ _ _ _ _ _ _ _ _ _ _ h) rfl rfl rfl
      · replace h := (if_neg h_23).symm.trans h
        refine a_iload_n X dX8_laysOrder_26 rfl ?_
        refine a_aload_n X dX8_laysOrder_27 rfl ?_
        refine a_getr X lf8_67 (by first | exact p_o | assumption) rfl (by omega) dX8_laysOrder_28 ?_
        refine a_iload X dX8_laysOrder_31 rfl ?_
        obtain ⟨g_33, h⟩ := zIx h
        refine a_iaload X (by first | exact p_ticketsOf | assumption) g_33 dX8_laysOrder_33 ?_
        refine a_iadd X dX8_laysOrder_34 ?_
        refine a_istore_n X dX8_laysOrder_35 (by decide) ?_
        refine a_iinc (v := x4_17 + 1) X dX8_laysOrder_36 (by decide) rfl zi_1 ?_
        refine a_goto (tgt := 17) X dX8_laysOrder_39 (by decide) ?_
        exact Zw.to2 (ih_17 _ _ _ _ _ _ _ _ _ _ _ (by first | exact Or.inl rfl | exact Or.inr rfl | assumption) h) rfl rfl rfl
  have H_17 : ∀ (x1_17 : Int32) (x2_17 : Int32) (x3_17 : Int32) (x4_17 : Int32) (x5_17 : Option Value) (x6_17 : Option Value) (x7_17 : Option Value) (x8_17 : Option Value) (x9_17 : Option Value) (M_17 : zMt) (N_17 : zNt), (x2_17 = 0 ∨ x2_17 = 1) → D_X8_laysOrder_17 P zFu x2_17 x3_17 x4_17 M_17 N_17 = some r → Zw p l e { frames := 3, cells := 0, slots := 0, locals := 80 * (3) } s m args below meth c G b 10 (MQ below (zQ G b FQ) args s 0 0 (fun q : Nat => b ≤ q)) 0 0 17 [some (.ref (P)), some (.int x1_17), some (.int x2_17), some (.int x3_17), some (.int x4_17), x5_17, x6_17, x7_17, x8_17, x9_17] [] (L, M_17, N_17) := L_17 zFu
  unfold D_X8_laysOrder at h
  refine a_aload_n X dX8_laysOrder_0 rfl ?_
  obtain ⟨e_1, f_1, h⟩ := zBx h
  refine a_callVu X dX8_laysOrder_1 miX8_laysApplicants lm8_281 (t_X8_laysApplicants (by first | exact hP | assumption) f_1) (by first | exact p_o | assumption) rfl rfl rfl (Nat.le_of_ble_eq_true rfl) ⟨by decide, by decide, by decide, by decide⟩ ?_
  refine a_aload_n X dX8_laysOrder_4 rfl ?_
  refine a_iload_n X dX8_laysOrder_5 rfl ?_
  refine a_i2l X dX8_laysOrder_6 ?_
  obtain ⟨N_7, f_7, h⟩ := zLtx h
  refine d_putl X lf8_339 (by first | exact p_o | assumption) rfl dX8_laysOrder_7 f_7 ?_
  refine a_iconst (v := 0) X dX8_laysOrder_10 (by decide) ?_
  refine a_istore_n X dX8_laysOrder_11 (by decide) ?_
  refine a_iconst (v := 0) X dX8_laysOrder_12 (by decide) ?_
  refine a_istore_n X dX8_laysOrder_13 (by decide) ?_
  refine a_iconst (v := 0) X dX8_laysOrder_14 (by decide) ?_
  refine a_istore X dX8_laysOrder_15 (by decide) ?_
  exact Zw.to2 (H_17 _ _ _ _ _ _ _ _ _ _ _ (by first | exact Or.inl rfl | exact Or.inr rfl | assumption) h) rfl rfl rfl
noncomputable def D_X8_laysResult (P : Nat) (v0 : Int32) (M : zMt) (N : zNt) : Option (zMt × zNt) :=
  zB (D_X8_laysOrder P v0 M N) fun e_2 =>
  zB (D_X8_results P (-1 : Int32) e_2.1) fun e_7 =>
  some (e_7, e_2.2)
set_option maxRecDepth 100000 in
set_option maxHeartbeats 4000000 in
theorem t_X8_laysResult {l : Launch} {G : zG} {b : Nat} {L : List zC} {M : zMt} {N : zNt} {P : Nat} {v0 : Int32} (hP : LX8 L P) {r : zMt × zNt} (h : D_X8_laysResult P v0 M N = some r) : zM l G b yX8_laysResult cX8_laysResult 2 none 4 0 0 [.ref P, .int v0] (L, M, N) (fun r2 z => r2 = none ∧ z = (L, r.1, r.2)) := by
  refine zM.of miX8_laysResult (Nat.le_of_ble_eq_true rfl) ?_
  intro p e s m args below meth c X hr hname
  generalize hF : ((fun r2 z => r2 = none ∧ z = (L, r.1, r.2)) : Option Value → zS → Prop) = FQ
  change Zw p l e { frames := 4, cells := 0, slots := 0, locals := 80 * (4) } s m args below meth c G b 2 (MQ below (zQ G b FQ) args s 0 0 (fun q : Nat => b ≤ q)) 0 0 0 [some (.ref P), some (.int v0)] [] (L, M, N)
  have p_lt := hP.1
  have p_o := hP.2.1
  unfold D_X8_laysResult at h
  refine a_aload_n X dX8_laysResult_0 rfl ?_
  refine a_iload_n X dX8_laysResult_1 rfl ?_
  obtain ⟨e_2, f_2, h⟩ := zBx h
  refine a_callVu X dX8_laysResult_2 miX8_laysOrder lm8_352 (t_X8_laysOrder (by first | exact hP | assumption) f_2) (by first | exact p_o | assumption) rfl rfl rfl (Nat.le_of_ble_eq_true rfl) ⟨by decide, by decide, by decide, by decide⟩ ?_
  refine a_aload_n X dX8_laysResult_5 rfl ?_
  refine a_iconst (v := -1) X dX8_laysResult_6 (by decide) ?_
  obtain ⟨e_7, f_7, h⟩ := zBx h
  refine a_callVu X dX8_laysResult_7 miX8_results lm8_355 (t_X8_results (by first | exact hP | assumption) f_7) (by first | exact p_o | assumption) rfl rfl rfl (Nat.le_of_ble_eq_true rfl) ⟨by decide, by decide, by decide, by decide⟩ ?_
  refine a_vret X hr dX8_laysResult_10 ⟨by decide, by decide⟩ ?_
  subst hF
  rw [← Option.some.inj h]
  exact ⟨rfl, rfl⟩
noncomputable def D_X8_order_48 (P : Nat) (y0_48 : Int32) (M_48 : zMt) (N_48 : zNt) : Option (Int32 × zMt × zNt) :=
  some (y0_48, M_48, N_48)
noncomputable def D_X8_order_11 (P : Nat) (M_11 : zMt) (N_11 : zNt) : Option (Int32 × zMt × zNt) :=
  zB (D_X8_refuse P (1 : Int32) M_11) fun e_13 =>
  some (e_13.1, e_13.2, N_11)
noncomputable def D_X8_order (P : Nat) (v0 : Int32) (v1 : Int32) (M : zMt) (N : zNt) : Option (Int32 × zMt × zNt) :=
  zB (D_X8_isSeed v0) fun e_1 =>
  if e_1 = 0 then
    D_X8_order_11 P M N
  else
    if 0 ≤ v1 then
      zB (D_X8_laysOrder P v0 M N) fun e_19 =>
      if (e_19.1 P 33) ≤ v1 then
        zB (D_X8_refuse P (5 : Int32) e_19.1) fun e_45 =>
        D_X8_order_48 P e_45.1 e_45.2 e_19.2
      else
        zI v1 10 <|
        zB (D_X8_gives P (e_19.1 (P + 18) v1.toNatClampNeg) e_19.1) fun e_37 =>
        D_X8_order_48 P e_37.1 e_37.2 e_19.2
    else
      D_X8_order_11 P M N
set_option maxRecDepth 100000 in
set_option maxHeartbeats 4000000 in
theorem t_X8_order {l : Launch} {G : zG} {b : Nat} {L : List zC} {M : zMt} {N : zNt} {P : Nat} {v0 : Int32} {v1 : Int32} (hP : LX8 L P) {r : Int32 × zMt × zNt} (h : D_X8_order P v0 v1 M N = some r) : zM l G b yX8_order cX8_order 3 (some .int) 4 0 0 [.ref P, .int v0, .int v1] (L, M, N) (fun r2 z => r2 = some (.int r.1) ∧ z = (L, r.2.1, r.2.2)) := by
  refine zM.of miX8_order (Nat.le_of_ble_eq_true rfl) ?_
  intro p e s m args below meth c X hr hname
  generalize hF : ((fun r2 z => r2 = some (.int r.1) ∧ z = (L, r.2.1, r.2.2)) : Option Value → zS → Prop) = FQ
  change Zw p l e { frames := 4, cells := 0, slots := 0, locals := 80 * (4) } s m args below meth c G b 3 (MQ below (zQ G b FQ) args s 0 0 (fun q : Nat => b ≤ q)) 0 0 0 [some (.ref P), some (.int v0), some (.int v1)] [] (L, M, N)
  have p_lt := hP.1
  have p_o := hP.2.1
  have p_ord := hP.2.2.2.2.2.2.2.2.2.2.2.2.2.2.2.2.2.2.2.1
  have J_48 : ∀ (x1_48 : Int32) (x2_48 : Int32) (y0_48 : Int32) (M_48 : zMt) (N_48 : zNt), D_X8_order_48 P y0_48 M_48 N_48 = some r → Zw p l e { frames := 4, cells := 0, slots := 0, locals := 80 * (4) } s m args below meth c G b 3 (MQ below (zQ G b FQ) args s 0 0 (fun q : Nat => b ≤ q)) 0 0 48 [some (.ref (P)), some (.int x1_48), some (.int x2_48)] [.int y0_48] (L, M_48, N_48) := by
    intro x1_48 x2_48 y0_48 M_48 N_48 h
    unfold D_X8_order_48 at h
    refine a_iret X hr dX8_order_48 ⟨by decide, by decide⟩ ?_
    subst hF
    rw [← Option.some.inj h]
    exact ⟨rfl, rfl⟩
  have J_11 : ∀ (x1_11 : Int32) (x2_11 : Int32) (M_11 : zMt) (N_11 : zNt), D_X8_order_11 P M_11 N_11 = some r → Zw p l e { frames := 4, cells := 0, slots := 0, locals := 80 * (4) } s m args below meth c G b 3 (MQ below (zQ G b FQ) args s 0 0 (fun q : Nat => b ≤ q)) 0 0 11 [some (.ref (P)), some (.int x1_11), some (.int x2_11)] [] (L, M_11, N_11) := by
    intro x1_11 x2_11 M_11 N_11 h
    unfold D_X8_order_11 at h
    refine a_aload_n X dX8_order_11 rfl ?_
    refine a_iconst (v := 1) X dX8_order_12 (by decide) ?_
    obtain ⟨e_13, f_13, h⟩ := zBx h
    refine a_callVv X dX8_order_13 miX8_refuse lm8_263 (t_X8_refuse (by first | exact hP | assumption) f_13) (by first | exact p_o | assumption) rfl rfl rfl (Nat.le_of_ble_eq_true rfl) ⟨by decide, by decide, by decide, by decide⟩ ?_
    refine a_iret X hr dX8_order_16 ⟨by decide, by decide⟩ ?_
    subst hF
    rw [← Option.some.inj h]
    exact ⟨rfl, rfl⟩
  unfold D_X8_order at h
  refine a_iload_n X dX8_order_0 rfl ?_
  obtain ⟨e_1, f_1, h⟩ := zBx h
  refine a_callSx X dX8_order_1 miX8_isSeed lm8_358 (t_X8_isSeed f_1) rfl rfl (Nat.le_of_ble_eq_true rfl) ⟨by decide, by decide, by decide, by decide⟩ (fun r_1 S_1 q_1 => ?_)
  obtain ⟨rfl, rfl, b_1⟩ := q_1
  refine a_if_eq (tgt := 11) X dX8_order_4 (by decide) (fun h_4 => ?_) (fun h_4 => ?_)
  · replace h := (if_pos h_4).symm.trans h
    exact Zw.to2 (J_11 _ _ _ _ h) rfl rfl rfl
  · replace h := (if_neg h_4).symm.trans h
    refine a_iload_n X dX8_order_7 rfl ?_
    refine a_if_ge (tgt := 17) X dX8_order_8 (by decide) (fun h_8 => ?_) (fun h_8 => ?_)
    · replace h := (if_pos h_8).symm.trans h
      refine a_aload_n X dX8_order_17 rfl ?_
      refine a_iload_n X dX8_order_18 rfl ?_
      obtain ⟨e_19, f_19, h⟩ := zBx h
      refine a_callVu X dX8_order_19 miX8_laysOrder lm8_352 (t_X8_laysOrder (by first | exact hP | assumption) f_19) (by first | exact p_o | assumption) rfl rfl rfl (Nat.le_of_ble_eq_true rfl) ⟨by decide, by decide, by decide, by decide⟩ ?_
      refine a_iload_n X dX8_order_22 rfl ?_
      refine a_aload_n X dX8_order_23 rfl ?_
      refine a_geti X lf8_275 (by first | exact p_o | assumption) rfl dX8_order_24 ?_
      refine a_icmp_ge (tgt := 43) X dX8_order_27 (by decide) (fun h_27 => ?_) (fun h_27 => ?_)
      · replace h := (if_pos h_27).symm.trans h
        refine a_aload_n X dX8_order_43 rfl ?_
        refine a_iconst (v := 5) X dX8_order_44 (by decide) ?_
        obtain ⟨e_45, f_45, h⟩ := zBx h
        refine a_callVv X dX8_order_45 miX8_refuse lm8_263 (t_X8_refuse (by first | exact hP | assumption) f_45) (by first | exact p_o | assumption) rfl rfl rfl (Nat.le_of_ble_eq_true rfl) ⟨by decide, by decide, by decide, by decide⟩ ?_
        exact Zw.to2 (J_48 _ _ _ _ _ h) rfl rfl rfl
      · replace h := (if_neg h_27).symm.trans h
        refine a_aload_n X dX8_order_30 rfl ?_
        refine a_aload_n X dX8_order_31 rfl ?_
        refine a_getr X lf8_70 (by first | exact p_o | assumption) rfl (by omega) dX8_order_32 ?_
        refine a_iload_n X dX8_order_35 rfl ?_
        obtain ⟨g_36, h⟩ := zIx h
        refine a_iaload X (by first | exact p_ord | assumption) g_36 dX8_order_36 ?_
        obtain ⟨e_37, f_37, h⟩ := zBx h
        refine a_callVv X dX8_order_37 miX8_gives lm8_272 (t_X8_gives (by first | exact hP | assumption) f_37) (by first | exact p_o | assumption) rfl rfl rfl (Nat.le_of_ble_eq_true rfl) ⟨by decide, by decide, by decide, by decide⟩ ?_
        refine a_goto (tgt := 48) X dX8_order_40 (by decide) ?_
        exact Zw.to2 (J_48 _ _ _ _ _ h) rfl rfl rfl
    · replace h := (if_neg h_8).symm.trans h
      exact Zw.to2 (J_11 _ _ _ _ h) rfl rfl rfl
noncomputable def D_X8_drawn_60 (P : Nat) (y0_60 : Int32) (M_60 : zMt) (N_60 : zNt) : Option (Int32 × zMt × zNt) :=
  some (y0_60, M_60, N_60)
noncomputable def D_X8_drawn (P : Nat) (v0 : Int32) (v1 : Int32) (M : zMt) (N : zNt) : Option (Int32 × zMt × zNt) :=
  zB (D_X8_isSeed v0) fun e_1 =>
  if e_1 = 0 then
    zB (D_X8_refuse P (1 : Int32) M) fun e_9 =>
    some (e_9.1, e_9.2, N)
  else
    zB (D_X8_isApplicant P v1 M) fun e_15 =>
    if e_15.1 = 0 then
      zB (D_X8_refuse P (2 : Int32) e_15.2) fun e_23 =>
      some (e_23.1, e_23.2, N)
    else
      zB (D_X8_laysResult P v0 e_15.2 N) fun e_29 =>
      zI v1 10 <|
      if (e_29.1 (P + 19) v1.toNatClampNeg) = (-1 : Int32) then
        zB (D_X8_refuse P (5 : Int32) e_29.1) fun e_44 =>
        D_X8_drawn_60 P e_44.1 e_44.2 e_29.2
      else
        zI v1 10 <|
        zB (D_X8_gives P (e_29.1 (P + 19) v1.toNatClampNeg) e_29.1) fun e_57 =>
        D_X8_drawn_60 P e_57.1 e_57.2 e_29.2
set_option maxRecDepth 100000 in
set_option maxHeartbeats 4000000 in
theorem t_X8_drawn {l : Launch} {G : zG} {b : Nat} {L : List zC} {M : zMt} {N : zNt} {P : Nat} {v0 : Int32} {v1 : Int32} (hP : LX8 L P) {r : Int32 × zMt × zNt} (h : D_X8_drawn P v0 v1 M N = some r) : zM l G b yX8_drawn cX8_drawn 3 (some .int) 5 0 0 [.ref P, .int v0, .int v1] (L, M, N) (fun r2 z => r2 = some (.int r.1) ∧ z = (L, r.2.1, r.2.2)) := by
  refine zM.of miX8_drawn (Nat.le_of_ble_eq_true rfl) ?_
  intro p e s m args below meth c X hr hname
  generalize hF : ((fun r2 z => r2 = some (.int r.1) ∧ z = (L, r.2.1, r.2.2)) : Option Value → zS → Prop) = FQ
  change Zw p l e { frames := 5, cells := 0, slots := 0, locals := 80 * (5) } s m args below meth c G b 3 (MQ below (zQ G b FQ) args s 0 0 (fun q : Nat => b ≤ q)) 0 0 0 [some (.ref P), some (.int v0), some (.int v1)] [] (L, M, N)
  have p_lt := hP.1
  have p_o := hP.2.1
  have p_given := hP.2.2.2.2.2.2.2.2.2.2.2.2.2.2.2.2.2.2.2.2.1
  have J_60 : ∀ (x1_60 : Int32) (x2_60 : Int32) (y0_60 : Int32) (M_60 : zMt) (N_60 : zNt), D_X8_drawn_60 P y0_60 M_60 N_60 = some r → Zw p l e { frames := 5, cells := 0, slots := 0, locals := 80 * (5) } s m args below meth c G b 3 (MQ below (zQ G b FQ) args s 0 0 (fun q : Nat => b ≤ q)) 0 0 60 [some (.ref (P)), some (.int x1_60), some (.int x2_60)] [.int y0_60] (L, M_60, N_60) := by
    intro x1_60 x2_60 y0_60 M_60 N_60 h
    unfold D_X8_drawn_60 at h
    refine a_iret X hr dX8_drawn_60 ⟨by decide, by decide⟩ ?_
    subst hF
    rw [← Option.some.inj h]
    exact ⟨rfl, rfl⟩
  unfold D_X8_drawn at h
  refine a_iload_n X dX8_drawn_0 rfl ?_
  obtain ⟨e_1, f_1, h⟩ := zBx h
  refine a_callSx X dX8_drawn_1 miX8_isSeed lm8_358 (t_X8_isSeed f_1) rfl rfl (Nat.le_of_ble_eq_true rfl) ⟨by decide, by decide, by decide, by decide⟩ (fun r_1 S_1 q_1 => ?_)
  obtain ⟨rfl, rfl, b_1⟩ := q_1
  refine a_if_ne (tgt := 13) X dX8_drawn_4 (by decide) (fun h_4 => ?_) (fun h_4 => ?_)
  · replace h := (if_neg h_4).symm.trans h
    refine a_aload_n X dX8_drawn_13 rfl ?_
    refine a_iload_n X dX8_drawn_14 rfl ?_
    obtain ⟨e_15, f_15, h⟩ := zBx h
    refine a_callVx X dX8_drawn_15 miX8_isApplicant lm8_315 (t_X8_isApplicant (by first | exact hP | assumption) f_15) (by first | exact p_o | assumption) rfl rfl rfl (Nat.le_of_ble_eq_true rfl) ⟨by decide, by decide, by decide, by decide⟩ (fun r_15 S_15 q_15 => ?_)
    obtain ⟨rfl, rfl, b_15⟩ := q_15
    refine a_if_ne (tgt := 27) X dX8_drawn_18 (by decide) (fun h_18 => ?_) (fun h_18 => ?_)
    · replace h := (if_neg h_18).symm.trans h
      refine a_aload_n X dX8_drawn_27 rfl ?_
      refine a_iload_n X dX8_drawn_28 rfl ?_
      obtain ⟨e_29, f_29, h⟩ := zBx h
      refine a_callVu X dX8_drawn_29 miX8_laysResult lm8_361 (t_X8_laysResult (by first | exact hP | assumption) f_29) (by first | exact p_o | assumption) rfl rfl rfl (Nat.le_of_ble_eq_true rfl) ⟨by decide, by decide, by decide, by decide⟩ ?_
      refine a_aload_n X dX8_drawn_32 rfl ?_
      refine a_getr X lf8_73 (by first | exact p_o | assumption) rfl (by omega) dX8_drawn_33 ?_
      refine a_iload_n X dX8_drawn_36 rfl ?_
      obtain ⟨g_37, h⟩ := zIx h
      refine a_iaload X (by first | exact p_given | assumption) g_37 dX8_drawn_37 ?_
      refine a_iconst (v := -1) X dX8_drawn_38 (by decide) ?_
      refine a_icmp_ne (tgt := 50) X dX8_drawn_39 (by decide) (fun h_39 => ?_) (fun h_39 => ?_)
      · replace h := (if_neg h_39).symm.trans h
        refine a_aload_n X dX8_drawn_50 rfl ?_
        refine a_aload_n X dX8_drawn_51 rfl ?_
        refine a_getr X lf8_73 (by first | exact p_o | assumption) rfl (by omega) dX8_drawn_52 ?_
        refine a_iload_n X dX8_drawn_55 rfl ?_
        obtain ⟨g_56, h⟩ := zIx h
        refine a_iaload X (by first | exact p_given | assumption) g_56 dX8_drawn_56 ?_
        obtain ⟨e_57, f_57, h⟩ := zBx h
        refine a_callVv X dX8_drawn_57 miX8_gives lm8_272 (t_X8_gives (by first | exact hP | assumption) f_57) (by first | exact p_o | assumption) rfl rfl rfl (Nat.le_of_ble_eq_true rfl) ⟨by decide, by decide, by decide, by decide⟩ ?_
        exact Zw.to2 (J_60 _ _ _ _ _ h) rfl rfl rfl
      · replace h := (if_pos h_39).symm.trans h
        refine a_aload_n X dX8_drawn_42 rfl ?_
        refine a_iconst (v := 5) X dX8_drawn_43 (by decide) ?_
        obtain ⟨e_44, f_44, h⟩ := zBx h
        refine a_callVv X dX8_drawn_44 miX8_refuse lm8_263 (t_X8_refuse (by first | exact hP | assumption) f_44) (by first | exact p_o | assumption) rfl rfl rfl (Nat.le_of_ble_eq_true rfl) ⟨by decide, by decide, by decide, by decide⟩ ?_
        refine a_goto (tgt := 60) X dX8_drawn_47 (by decide) ?_
        exact Zw.to2 (J_60 _ _ _ _ _ h) rfl rfl rfl
    · replace h := (if_pos h_18).symm.trans h
      refine a_aload_n X dX8_drawn_21 rfl ?_
      refine a_iconst (v := 2) X dX8_drawn_22 (by decide) ?_
      obtain ⟨e_23, f_23, h⟩ := zBx h
      refine a_callVv X dX8_drawn_23 miX8_refuse lm8_263 (t_X8_refuse (by first | exact hP | assumption) f_23) (by first | exact p_o | assumption) rfl rfl rfl (Nat.le_of_ble_eq_true rfl) ⟨by decide, by decide, by decide, by decide⟩ ?_
      refine a_iret X hr dX8_drawn_26 ⟨by decide, by decide⟩ ?_
      subst hF
      rw [← Option.some.inj h]
      exact ⟨rfl, rfl⟩
  · replace h := (if_pos h_4).symm.trans h
    refine a_aload_n X dX8_drawn_7 rfl ?_
    refine a_iconst (v := 1) X dX8_drawn_8 (by decide) ?_
    obtain ⟨e_9, f_9, h⟩ := zBx h
    refine a_callVv X dX8_drawn_9 miX8_refuse lm8_263 (t_X8_refuse (by first | exact hP | assumption) f_9) (by first | exact p_o | assumption) rfl rfl rfl (Nat.le_of_ble_eq_true rfl) ⟨by decide, by decide, by decide, by decide⟩ ?_
    refine a_iret X hr dX8_drawn_12 ⟨by decide, by decide⟩ ?_
    subst hF
    rw [← Option.some.inj h]
    exact ⟨rfl, rfl⟩
noncomputable def D_X8_round_60 (P : Nat) (y0_60 : Int32) (M_60 : zMt) (N_60 : zNt) : Option (Int32 × zMt × zNt) :=
  some (y0_60, M_60, N_60)
noncomputable def D_X8_round (P : Nat) (v0 : Int32) (v1 : Int32) (M : zMt) (N : zNt) : Option (Int32 × zMt × zNt) :=
  zB (D_X8_isSeed v0) fun e_1 =>
  if e_1 = 0 then
    zB (D_X8_refuse P (1 : Int32) M) fun e_9 =>
    some (e_9.1, e_9.2, N)
  else
    zB (D_X8_isApplicant P v1 M) fun e_15 =>
    if e_15.1 = 0 then
      zB (D_X8_refuse P (2 : Int32) e_15.2) fun e_23 =>
      some (e_23.1, e_23.2, N)
    else
      zB (D_X8_laysResult P v0 e_15.2 N) fun e_29 =>
      zI v1 10 <|
      if (e_29.1 (P + 19) v1.toNatClampNeg) = (-1 : Int32) then
        zB (D_X8_refuse P (5 : Int32) e_29.1) fun e_44 =>
        D_X8_round_60 P e_44.1 e_44.2 e_29.2
      else
        zI v1 10 <|
        zB (D_X8_gives P (e_29.1 (P + 20) v1.toNatClampNeg) e_29.1) fun e_57 =>
        D_X8_round_60 P e_57.1 e_57.2 e_29.2
set_option maxRecDepth 100000 in
set_option maxHeartbeats 4000000 in
theorem t_X8_round {l : Launch} {G : zG} {b : Nat} {L : List zC} {M : zMt} {N : zNt} {P : Nat} {v0 : Int32} {v1 : Int32} (hP : LX8 L P) {r : Int32 × zMt × zNt} (h : D_X8_round P v0 v1 M N = some r) : zM l G b yX8_round cX8_round 3 (some .int) 5 0 0 [.ref P, .int v0, .int v1] (L, M, N) (fun r2 z => r2 = some (.int r.1) ∧ z = (L, r.2.1, r.2.2)) := by
  refine zM.of miX8_round (Nat.le_of_ble_eq_true rfl) ?_
  intro p e s m args below meth c X hr hname
  generalize hF : ((fun r2 z => r2 = some (.int r.1) ∧ z = (L, r.2.1, r.2.2)) : Option Value → zS → Prop) = FQ
  change Zw p l e { frames := 5, cells := 0, slots := 0, locals := 80 * (5) } s m args below meth c G b 3 (MQ below (zQ G b FQ) args s 0 0 (fun q : Nat => b ≤ q)) 0 0 0 [some (.ref P), some (.int v0), some (.int v1)] [] (L, M, N)
  have p_lt := hP.1
  have p_o := hP.2.1
  have p_given := hP.2.2.2.2.2.2.2.2.2.2.2.2.2.2.2.2.2.2.2.2.1
  have p_roundOf := hP.2.2.2.2.2.2.2.2.2.2.2.2.2.2.2.2.2.2.2.2.2.1
  have J_60 : ∀ (x1_60 : Int32) (x2_60 : Int32) (y0_60 : Int32) (M_60 : zMt) (N_60 : zNt), D_X8_round_60 P y0_60 M_60 N_60 = some r → Zw p l e { frames := 5, cells := 0, slots := 0, locals := 80 * (5) } s m args below meth c G b 3 (MQ below (zQ G b FQ) args s 0 0 (fun q : Nat => b ≤ q)) 0 0 60 [some (.ref (P)), some (.int x1_60), some (.int x2_60)] [.int y0_60] (L, M_60, N_60) := by
    intro x1_60 x2_60 y0_60 M_60 N_60 h
    unfold D_X8_round_60 at h
    refine a_iret X hr dX8_round_60 ⟨by decide, by decide⟩ ?_
    subst hF
    rw [← Option.some.inj h]
    exact ⟨rfl, rfl⟩
  unfold D_X8_round at h
  refine a_iload_n X dX8_round_0 rfl ?_
  obtain ⟨e_1, f_1, h⟩ := zBx h
  refine a_callSx X dX8_round_1 miX8_isSeed lm8_358 (t_X8_isSeed f_1) rfl rfl (Nat.le_of_ble_eq_true rfl) ⟨by decide, by decide, by decide, by decide⟩ (fun r_1 S_1 q_1 => ?_)
  obtain ⟨rfl, rfl, b_1⟩ := q_1
  refine a_if_ne (tgt := 13) X dX8_round_4 (by decide) (fun h_4 => ?_) (fun h_4 => ?_)
  · replace h := (if_neg h_4).symm.trans h
    refine a_aload_n X dX8_round_13 rfl ?_
    refine a_iload_n X dX8_round_14 rfl ?_
    obtain ⟨e_15, f_15, h⟩ := zBx h
    refine a_callVx X dX8_round_15 miX8_isApplicant lm8_315 (t_X8_isApplicant (by first | exact hP | assumption) f_15) (by first | exact p_o | assumption) rfl rfl rfl (Nat.le_of_ble_eq_true rfl) ⟨by decide, by decide, by decide, by decide⟩ (fun r_15 S_15 q_15 => ?_)
    obtain ⟨rfl, rfl, b_15⟩ := q_15
    refine a_if_ne (tgt := 27) X dX8_round_18 (by decide) (fun h_18 => ?_) (fun h_18 => ?_)
    · replace h := (if_neg h_18).symm.trans h
      refine a_aload_n X dX8_round_27 rfl ?_
      refine a_iload_n X dX8_round_28 rfl ?_
      obtain ⟨e_29, f_29, h⟩ := zBx h
      refine a_callVu X dX8_round_29 miX8_laysResult lm8_361 (t_X8_laysResult (by first | exact hP | assumption) f_29) (by first | exact p_o | assumption) rfl rfl rfl (Nat.le_of_ble_eq_true rfl) ⟨by decide, by decide, by decide, by decide⟩ ?_
      refine a_aload_n X dX8_round_32 rfl ?_
      refine a_getr X lf8_73 (by first | exact p_o | assumption) rfl (by omega) dX8_round_33 ?_
      refine a_iload_n X dX8_round_36 rfl ?_
      obtain ⟨g_37, h⟩ := zIx h
      refine a_iaload X (by first | exact p_given | assumption) g_37 dX8_round_37 ?_
      refine a_iconst (v := -1) X dX8_round_38 (by decide) ?_
      refine a_icmp_ne (tgt := 50) X dX8_round_39 (by decide) (fun h_39 => ?_) (fun h_39 => ?_)
      · replace h := (if_neg h_39).symm.trans h
        refine a_aload_n X dX8_round_50 rfl ?_
        refine a_aload_n X dX8_round_51 rfl ?_
        refine a_getr X lf8_76 (by first | exact p_o | assumption) rfl (by omega) dX8_round_52 ?_
        refine a_iload_n X dX8_round_55 rfl ?_
        obtain ⟨g_56, h⟩ := zIx h
        refine a_iaload X (by first | exact p_roundOf | assumption) g_56 dX8_round_56 ?_
        obtain ⟨e_57, f_57, h⟩ := zBx h
        refine a_callVv X dX8_round_57 miX8_gives lm8_272 (t_X8_gives (by first | exact hP | assumption) f_57) (by first | exact p_o | assumption) rfl rfl rfl (Nat.le_of_ble_eq_true rfl) ⟨by decide, by decide, by decide, by decide⟩ ?_
        exact Zw.to2 (J_60 _ _ _ _ _ h) rfl rfl rfl
      · replace h := (if_pos h_39).symm.trans h
        refine a_aload_n X dX8_round_42 rfl ?_
        refine a_iconst (v := 5) X dX8_round_43 (by decide) ?_
        obtain ⟨e_44, f_44, h⟩ := zBx h
        refine a_callVv X dX8_round_44 miX8_refuse lm8_263 (t_X8_refuse (by first | exact hP | assumption) f_44) (by first | exact p_o | assumption) rfl rfl rfl (Nat.le_of_ble_eq_true rfl) ⟨by decide, by decide, by decide, by decide⟩ ?_
        refine a_goto (tgt := 60) X dX8_round_47 (by decide) ?_
        exact Zw.to2 (J_60 _ _ _ _ _ h) rfl rfl rfl
    · replace h := (if_pos h_18).symm.trans h
      refine a_aload_n X dX8_round_21 rfl ?_
      refine a_iconst (v := 2) X dX8_round_22 (by decide) ?_
      obtain ⟨e_23, f_23, h⟩ := zBx h
      refine a_callVv X dX8_round_23 miX8_refuse lm8_263 (t_X8_refuse (by first | exact hP | assumption) f_23) (by first | exact p_o | assumption) rfl rfl rfl (Nat.le_of_ble_eq_true rfl) ⟨by decide, by decide, by decide, by decide⟩ ?_
      refine a_iret X hr dX8_round_26 ⟨by decide, by decide⟩ ?_
      subst hF
      rw [← Option.some.inj h]
      exact ⟨rfl, rfl⟩
  · replace h := (if_pos h_4).symm.trans h
    refine a_aload_n X dX8_round_7 rfl ?_
    refine a_iconst (v := 1) X dX8_round_8 (by decide) ?_
    obtain ⟨e_9, f_9, h⟩ := zBx h
    refine a_callVv X dX8_round_9 miX8_refuse lm8_263 (t_X8_refuse (by first | exact hP | assumption) f_9) (by first | exact p_o | assumption) rfl rfl rfl (Nat.le_of_ble_eq_true rfl) ⟨by decide, by decide, by decide, by decide⟩ ?_
    refine a_iret X hr dX8_round_12 ⟨by decide, by decide⟩ ?_
    subst hF
    rw [← Option.some.inj h]
    exact ⟨rfl, rfl⟩
noncomputable def D_X8_left_171 (P : Nat) (y1_171 : Int32) (M_171 : zMt) (N_171 : zNt) : Option (Int32 × zMt × zNt) :=
  zB (D_X8_gives P y1_171 M_171) fun e_171 =>
  some (e_171.1, e_171.2, N_171)
noncomputable def D_X8_left_140 (P : Nat) (y0_140 : Int32) (M_140 : zMt) (N_140 : zNt) : Option (Int32 × zMt × zNt) :=
  some (y0_140, M_140, N_140)
noncomputable def D_X8_left_109 (P : Nat) (k53 : Int32 → Int32 → Int32 → Int32 → Int32 → zMt → zNt → Option (Int32 × zMt × zNt)) (x2_109 : Int32) (x3_109 : Int32) (x4_109 : Int32) (x5_109 : Int32) (x6_109 : Int32) (M_109 : zMt) (N_109 : zNt) : Option (Int32 × zMt × zNt) :=
  k53 x2_109 x3_109 x4_109 x5_109 (x6_109 + 1) M_109 N_109
noncomputable def D_X8_left_107 (P : Nat) (k53 : Int32 → Int32 → Int32 → Int32 → Int32 → zMt → zNt → Option (Int32 × zMt × zNt)) (x2_107 : Int32) (x3_107 : Int32) (x4_107 : Int32) (x6_107 : Int32) (y0_107 : Int32) (M_107 : zMt) (N_107 : zNt) : Option (Int32 × zMt × zNt) :=
  D_X8_left_109 P k53 x2_107 x3_107 x4_107 y0_107 x6_107 M_107 N_107
noncomputable def D_X8_left_53 (P : Nat) : Nat → Int32 → Int32 → Int32 → Int32 → Int32 → zMt → zNt → Option (Int32 × zMt × zNt)
  | 0, _, _, _, _, _, _, _ => none
  | n + 1, x2_53, x3_53, x4_53, x5_53, x6_53, M_53, N_53 =>
    if (M_53 P 33) ≤ x6_53 then
      if x3_53 = (3 : Int32) then
        if x5_53 = (-1 : Int32) then
          zB (D_X8_refuse P (5 : Int32) M_53) fun e_128 =>
          D_X8_left_140 P e_128.1 e_128.2 N_53
        else
          zB (D_X8_gives P x5_53 M_53) fun e_137 =>
          D_X8_left_140 P e_137.1 e_137.2 N_53
      else
        if x3_53 = 0 then
          zI x2_53 5 <|
          D_X8_left_171 P (M_53 (P + 21) x2_53.toNatClampNeg) M_53 N_53
        else
          if x3_53 = (1 : Int32) then
            zI x2_53 5 <|
            D_X8_left_171 P (M_53 (P + 22) x2_53.toNatClampNeg) M_53 N_53
          else
            D_X8_left_171 P x4_53 M_53 N_53
    else
      zI x6_53 10 <|
      if (M_53 (P + 19) x6_53.toNatClampNeg) = x2_53 then
        if x5_53 = (-1 : Int32) then
          zI x6_53 10 <|
          D_X8_left_107 P (D_X8_left_53 P n) x2_53 x3_53 (x4_53 + 1) x6_53 (M_53 (P + 16) x6_53.toNatClampNeg) M_53 N_53
        else
          zI x6_53 10 <|
          D_X8_left_107 P (D_X8_left_53 P n) x2_53 x3_53 (x4_53 + 1) x6_53 (if (M_53 (P + 16) x6_53.toNatClampNeg) < x5_53 then (M_53 (P + 16) x6_53.toNatClampNeg) else x5_53) M_53 N_53
      else
        D_X8_left_109 P (D_X8_left_53 P n) x2_53 x3_53 x4_53 x5_53 x6_53 M_53 N_53
noncomputable def D_X8_left_19 (P : Nat) (M_19 : zMt) (N_19 : zNt) : Option (Int32 × zMt × zNt) :=
  zB (D_X8_refuse P (1 : Int32) M_19) fun e_21 =>
  some (e_21.1, e_21.2, N_19)
noncomputable def D_X8_left (P : Nat) (v0 : Int32) (v1 : Int32) (v2 : Int32) (M : zMt) (N : zNt) : Option (Int32 × zMt × zNt) :=
  zB (D_X8_isSeed v0) fun e_1 =>
  if e_1 = 0 then
    D_X8_left_19 P M N
  else
    zB (D_X8_isFrom (Int32.toInt64 v2) (0 : Int64) (3 : Int64)) fun e_13 =>
    if e_13 = 0 then
      D_X8_left_19 P M N
    else
      zB (D_X8_isUnit P M v1) fun e_27 =>
      if e_27 = 0 then
        zB (D_X8_refuse P (2 : Int32) M) fun e_35 =>
        some (e_35.1, e_35.2, N)
      else
        zB (D_X8_laysResult P v0 M N) fun e_41 =>
        D_X8_left_53 P zFu v1 v2 (0 : Int32) (-1 : Int32) (0 : Int32) e_41.1 e_41.2
set_option maxRecDepth 100000 in
set_option maxHeartbeats 4000000 in
theorem t_X8_left {l : Launch} {G : zG} {b : Nat} {L : List zC} {M : zMt} {N : zNt} {P : Nat} {v0 : Int32} {v1 : Int32} {v2 : Int32} (hP : LX8 L P) {r : Int32 × zMt × zNt} (h : D_X8_left P v0 v1 v2 M N = some r) : zM l G b yX8_left cX8_left 7 (some .int) 5 0 0 [.ref P, .int v0, .int v1, .int v2] (L, M, N) (fun r2 z => r2 = some (.int r.1) ∧ z = (L, r.2.1, r.2.2)) := by
  refine zM.of miX8_left (Nat.le_of_ble_eq_true rfl) ?_
  intro p e s m args below meth c X hr hname
  generalize hF : ((fun r2 z => r2 = some (.int r.1) ∧ z = (L, r.2.1, r.2.2)) : Option Value → zS → Prop) = FQ
  change Zw p l e { frames := 5, cells := 0, slots := 0, locals := 80 * (5) } s m args below meth c G b 7 (MQ below (zQ G b FQ) args s 0 0 (fun q : Nat => b ≤ q)) 0 0 0 [some (.ref P), some (.int v0), some (.int v1), some (.int v2), none, none, none] [] (L, M, N)
  have p_lt := hP.1
  have p_o := hP.2.1
  have p_pointsOf := hP.2.2.2.2.2.2.2.2.2.2.2.2.2.2.2.2.2.1
  have p_given := hP.2.2.2.2.2.2.2.2.2.2.2.2.2.2.2.2.2.2.2.2.1
  have p_tags := hP.2.2.2.2.2.2.2.2.2.2.2.2.2.2.2.2.2.2.2.2.2.2.1
  have p_guestTags := hP.2.2.2.2.2.2.2.2.2.2.2.2.2.2.2.2.2.2.2.2.2.2.2.1
  have J_171 : ∀ (x1_171 : Int32) (x2_171 : Int32) (x3_171 : Int32) (x4_171 : Int32) (x5_171 : Int32) (x6_171 : Int32) (y1_171 : Int32) (M_171 : zMt) (N_171 : zNt), D_X8_left_171 P y1_171 M_171 N_171 = some r → Zw p l e { frames := 5, cells := 0, slots := 0, locals := 80 * (5) } s m args below meth c G b 7 (MQ below (zQ G b FQ) args s 0 0 (fun q : Nat => b ≤ q)) 0 0 171 [some (.ref (P)), some (.int x1_171), some (.int x2_171), some (.int x3_171), some (.int x4_171), some (.int x5_171), some (.int x6_171)] [.int y1_171, .ref (P)] (L, M_171, N_171) := by
    intro x1_171 x2_171 x3_171 x4_171 x5_171 x6_171 y1_171 M_171 N_171 h
    unfold D_X8_left_171 at h
    obtain ⟨e_171, f_171, h⟩ := zBx h
    refine a_callVv X dX8_left_171 miX8_gives lm8_272 (t_X8_gives (by first | exact hP | assumption) f_171) (by first | exact p_o | assumption) rfl rfl rfl (Nat.le_of_ble_eq_true rfl) ⟨by decide, by decide, by decide, by decide⟩ ?_
    refine a_iret X hr dX8_left_174 ⟨by decide, by decide⟩ ?_
    subst hF
    rw [← Option.some.inj h]
    exact ⟨rfl, rfl⟩
  have J_140 : ∀ (x1_140 : Int32) (x2_140 : Int32) (x3_140 : Int32) (x4_140 : Int32) (x5_140 : Int32) (x6_140 : Int32) (y0_140 : Int32) (M_140 : zMt) (N_140 : zNt), D_X8_left_140 P y0_140 M_140 N_140 = some r → Zw p l e { frames := 5, cells := 0, slots := 0, locals := 80 * (5) } s m args below meth c G b 7 (MQ below (zQ G b FQ) args s 0 0 (fun q : Nat => b ≤ q)) 0 0 140 [some (.ref (P)), some (.int x1_140), some (.int x2_140), some (.int x3_140), some (.int x4_140), some (.int x5_140), some (.int x6_140)] [.int y0_140] (L, M_140, N_140) := by
    intro x1_140 x2_140 x3_140 x4_140 x5_140 x6_140 y0_140 M_140 N_140 h
    unfold D_X8_left_140 at h
    refine a_iret X hr dX8_left_140 ⟨by decide, by decide⟩ ?_
    subst hF
    rw [← Option.some.inj h]
    exact ⟨rfl, rfl⟩
  have L_53 : ∀ u : Nat, ∀ (x1_53 : Int32) (x2_53 : Int32) (x3_53 : Int32) (x4_53 : Int32) (x5_53 : Int32) (x6_53 : Int32) (M_53 : zMt) (N_53 : zNt), D_X8_left_53 P u x2_53 x3_53 x4_53 x5_53 x6_53 M_53 N_53 = some r → Zw p l e { frames := 5, cells := 0, slots := 0, locals := 80 * (5) } s m args below meth c G b 7 (MQ below (zQ G b FQ) args s 0 0 (fun q : Nat => b ≤ q)) 0 0 53 [some (.ref (P)), some (.int x1_53), some (.int x2_53), some (.int x3_53), some (.int x4_53), some (.int x5_53), some (.int x6_53)] [] (L, M_53, N_53) := by
    intro u
    induction u with
    | zero => intro x1_53 x2_53 x3_53 x4_53 x5_53 x6_53 M_53 N_53 h; cases (show none = some r from h)
    | succ u_53 ih_53 =>
      have J_109 : ∀ (x1_109 : Int32) (x2_109 : Int32) (x3_109 : Int32) (x4_109 : Int32) (x5_109 : Int32) (x6_109 : Int32) (M_109 : zMt) (N_109 : zNt), D_X8_left_109 P (D_X8_left_53 P u_53) x2_109 x3_109 x4_109 x5_109 x6_109 M_109 N_109 = some r → Zw p l e { frames := 5, cells := 0, slots := 0, locals := 80 * (5) } s m args below meth c G b 7 (MQ below (zQ G b FQ) args s 0 0 (fun q : Nat => b ≤ q)) 0 0 109 [some (.ref (P)), some (.int x1_109), some (.int x2_109), some (.int x3_109), some (.int x4_109), some (.int x5_109), some (.int x6_109)] [] (L, M_109, N_109) := by
        intro x1_109 x2_109 x3_109 x4_109 x5_109 x6_109 M_109 N_109 h
        unfold D_X8_left_109 at h
        refine a_iinc (v := x6_109 + 1) X dX8_left_109 (by decide) rfl zi_1 ?_
        refine a_goto (tgt := 53) X dX8_left_112 (by decide) ?_
        exact Zw.to2 (ih_53 _ _ _ _ _ _ _ _ h) rfl rfl rfl
      have J_107 : ∀ (x1_107 : Int32) (x2_107 : Int32) (x3_107 : Int32) (x4_107 : Int32) (x5_107 : Int32) (x6_107 : Int32) (y0_107 : Int32) (M_107 : zMt) (N_107 : zNt), D_X8_left_107 P (D_X8_left_53 P u_53) x2_107 x3_107 x4_107 x6_107 y0_107 M_107 N_107 = some r → Zw p l e { frames := 5, cells := 0, slots := 0, locals := 80 * (5) } s m args below meth c G b 7 (MQ below (zQ G b FQ) args s 0 0 (fun q : Nat => b ≤ q)) 0 0 107 [some (.ref (P)), some (.int x1_107), some (.int x2_107), some (.int x3_107), some (.int x4_107), some (.int x5_107), some (.int x6_107)] [.int y0_107] (L, M_107, N_107) := by
        intro x1_107 x2_107 x3_107 x4_107 x5_107 x6_107 y0_107 M_107 N_107 h
        unfold D_X8_left_107 at h
        refine a_istore X dX8_left_107 (by decide) ?_
        exact Zw.to2 (J_109 _ _ _ _ _ _ _ _ h) rfl rfl rfl
      intro x1_53 x2_53 x3_53 x4_53 x5_53 x6_53 M_53 N_53 h
      rw [D_X8_left_53] at h
      refine a_iload X dX8_left_53 rfl ?_
      refine a_aload_n X dX8_left_55 rfl ?_
      refine a_geti X lf8_275 (by first | exact p_o | assumption) rfl dX8_left_56 ?_
      refine a_icmp_ge (tgt := 115) X dX8_left_59 (by decide) (fun h_59 => ?_) (fun h_59 => ?_)
      · replace h := (if_pos h_59).symm.trans h
        refine a_iload_n X dX8_left_115 rfl ?_
        refine a_iconst (v := 3) X dX8_left_116 (by decide) ?_
        refine a_icmp_ne (tgt := 141) X dX8_left_117 (by decide) (fun h_117 => ?_) (fun h_117 => ?_)
        · replace h := (if_neg h_117).symm.trans h
          refine a_aload_n X dX8_left_141 rfl ?_
          refine a_iload_n X dX8_left_142 rfl ?_
          refine a_if_ne (tgt := 155) X dX8_left_143 (by decide) (fun h_143 => ?_) (fun h_143 => ?_)
          · replace h := (if_neg h_143).symm.trans h
            refine a_iload_n X dX8_left_155 rfl ?_
            refine a_iconst (v := 1) X dX8_left_156 (by decide) ?_
            refine a_icmp_ne (tgt := 169) X dX8_left_157 (by decide) (fun h_157 => ?_) (fun h_157 => ?_)
            · replace h := (if_neg h_157).symm.trans h
              refine a_iload X dX8_left_169 rfl ?_
              exact Zw.to2 (J_171 _ _ _ _ _ _ _ _ _ h) rfl rfl rfl
            · replace h := (if_pos h_157).symm.trans h
              refine a_aload_n X dX8_left_160 rfl ?_
              refine a_getr X lf8_82 (by first | exact p_o | assumption) rfl (by omega) dX8_left_161 ?_
              refine a_iload_n X dX8_left_164 rfl ?_
              obtain ⟨g_165, h⟩ := zIx h
              refine a_iaload X (by first | exact p_guestTags | assumption) g_165 dX8_left_165 ?_
              refine a_goto (tgt := 171) X dX8_left_166 (by decide) ?_
              exact Zw.to2 (J_171 _ _ _ _ _ _ _ _ _ h) rfl rfl rfl
          · replace h := (if_pos h_143).symm.trans h
            refine a_aload_n X dX8_left_146 rfl ?_
            refine a_getr X lf8_79 (by first | exact p_o | assumption) rfl (by omega) dX8_left_147 ?_
            refine a_iload_n X dX8_left_150 rfl ?_
            obtain ⟨g_151, h⟩ := zIx h
            refine a_iaload X (by first | exact p_tags | assumption) g_151 dX8_left_151 ?_
            refine a_goto (tgt := 171) X dX8_left_152 (by decide) ?_
            exact Zw.to2 (J_171 _ _ _ _ _ _ _ _ _ h) rfl rfl rfl
        · replace h := (if_pos h_117).symm.trans h
          refine a_iload X dX8_left_120 rfl ?_
          refine a_iconst (v := -1) X dX8_left_122 (by decide) ?_
          refine a_icmp_ne (tgt := 134) X dX8_left_123 (by decide) (fun h_123 => ?_) (fun h_123 => ?_)
          · replace h := (if_neg h_123).symm.trans h
            refine a_aload_n X dX8_left_134 rfl ?_
            refine a_iload X dX8_left_135 rfl ?_
            obtain ⟨e_137, f_137, h⟩ := zBx h
            refine a_callVv X dX8_left_137 miX8_gives lm8_272 (t_X8_gives (by first | exact hP | assumption) f_137) (by first | exact p_o | assumption) rfl rfl rfl (Nat.le_of_ble_eq_true rfl) ⟨by decide, by decide, by decide, by decide⟩ ?_
            exact Zw.to2 (J_140 _ _ _ _ _ _ _ _ _ h) rfl rfl rfl
          · replace h := (if_pos h_123).symm.trans h
            refine a_aload_n X dX8_left_126 rfl ?_
            refine a_iconst (v := 5) X dX8_left_127 (by decide) ?_
            obtain ⟨e_128, f_128, h⟩ := zBx h
            refine a_callVv X dX8_left_128 miX8_refuse lm8_263 (t_X8_refuse (by first | exact hP | assumption) f_128) (by first | exact p_o | assumption) rfl rfl rfl (Nat.le_of_ble_eq_true rfl) ⟨by decide, by decide, by decide, by decide⟩ ?_
            refine a_goto (tgt := 140) X dX8_left_131 (by decide) ?_
            exact Zw.to2 (J_140 _ _ _ _ _ _ _ _ _ h) rfl rfl rfl
      · replace h := (if_neg h_59).symm.trans h
        refine a_aload_n X dX8_left_62 rfl ?_
        refine a_getr X lf8_73 (by first | exact p_o | assumption) rfl (by omega) dX8_left_63 ?_
        refine a_iload X dX8_left_66 rfl ?_
        obtain ⟨g_68, h⟩ := zIx h
        refine a_iaload X (by first | exact p_given | assumption) g_68 dX8_left_68 ?_
        refine a_iload_n X dX8_left_69 rfl ?_
        refine a_icmp_eq (tgt := 76) X dX8_left_70 (by decide) (fun h_70 => ?_) (fun h_70 => ?_)
        · replace h := (if_pos h_70).symm.trans h
          refine a_iinc (v := x4_53 + 1) X dX8_left_76 (by decide) rfl zi_1 ?_
          refine a_iload X dX8_left_79 rfl ?_
          refine a_iconst (v := -1) X dX8_left_81 (by decide) ?_
          refine a_icmp_ne (tgt := 95) X dX8_left_82 (by decide) (fun h_82 => ?_) (fun h_82 => ?_)
          · replace h := (if_neg h_82).symm.trans h
            refine a_iload X dX8_left_95 rfl ?_
            refine a_aload_n X dX8_left_97 rfl ?_
            refine a_getr X lf8_64 (by first | exact p_o | assumption) rfl (by omega) dX8_left_98 ?_
            refine a_iload X dX8_left_101 rfl ?_
            obtain ⟨g_103, h⟩ := zIx h
            refine a_iaload X (by first | exact p_pointsOf | assumption) g_103 dX8_left_103 ?_
            refine a_mmin X lm8_366 zmath2 zmath0 zmathc2 ⟨by decide, Nat.le_of_ble_eq_true rfl, by decide, by decide⟩ dX8_left_104 ?_
            exact Zw.to2 (J_107 _ _ _ _ _ _ _ _ _ h) rfl rfl rfl
          · replace h := (if_pos h_82).symm.trans h
            refine a_aload_n X dX8_left_85 rfl ?_
            refine a_getr X lf8_64 (by first | exact p_o | assumption) rfl (by omega) dX8_left_86 ?_
            refine a_iload X dX8_left_89 rfl ?_
            obtain ⟨g_91, h⟩ := zIx h
            refine a_iaload X (by first | exact p_pointsOf | assumption) g_91 dX8_left_91 ?_
            refine a_goto (tgt := 107) X dX8_left_92 (by decide) ?_
            exact Zw.to2 (J_107 _ _ _ _ _ _ _ _ _ h) rfl rfl rfl
        · replace h := (if_neg h_70).symm.trans h
          refine a_goto (tgt := 109) X dX8_left_73 (by decide) ?_
          exact Zw.to2 (J_109 _ _ _ _ _ _ _ _ h) rfl rfl rfl
  have H_53 : ∀ (x1_53 : Int32) (x2_53 : Int32) (x3_53 : Int32) (x4_53 : Int32) (x5_53 : Int32) (x6_53 : Int32) (M_53 : zMt) (N_53 : zNt), D_X8_left_53 P zFu x2_53 x3_53 x4_53 x5_53 x6_53 M_53 N_53 = some r → Zw p l e { frames := 5, cells := 0, slots := 0, locals := 80 * (5) } s m args below meth c G b 7 (MQ below (zQ G b FQ) args s 0 0 (fun q : Nat => b ≤ q)) 0 0 53 [some (.ref (P)), some (.int x1_53), some (.int x2_53), some (.int x3_53), some (.int x4_53), some (.int x5_53), some (.int x6_53)] [] (L, M_53, N_53) := L_53 zFu
  have J_19 : ∀ (x1_19 : Int32) (x2_19 : Int32) (x3_19 : Int32) (x4_19 : Option Value) (x5_19 : Option Value) (x6_19 : Option Value) (M_19 : zMt) (N_19 : zNt), D_X8_left_19 P M_19 N_19 = some r → Zw p l e { frames := 5, cells := 0, slots := 0, locals := 80 * (5) } s m args below meth c G b 7 (MQ below (zQ G b FQ) args s 0 0 (fun q : Nat => b ≤ q)) 0 0 19 [some (.ref (P)), some (.int x1_19), some (.int x2_19), some (.int x3_19), x4_19, x5_19, x6_19] [] (L, M_19, N_19) := by
    intro x1_19 x2_19 x3_19 x4_19 x5_19 x6_19 M_19 N_19 h
    unfold D_X8_left_19 at h
    refine a_aload_n X dX8_left_19 rfl ?_
    refine a_iconst (v := 1) X dX8_left_20 (by decide) ?_
    obtain ⟨e_21, f_21, h⟩ := zBx h
    refine a_callVv X dX8_left_21 miX8_refuse lm8_263 (t_X8_refuse (by first | exact hP | assumption) f_21) (by first | exact p_o | assumption) rfl rfl rfl (Nat.le_of_ble_eq_true rfl) ⟨by decide, by decide, by decide, by decide⟩ ?_
    refine a_iret X hr dX8_left_24 ⟨by decide, by decide⟩ ?_
    subst hF
    rw [← Option.some.inj h]
    exact ⟨rfl, rfl⟩
  unfold D_X8_left at h
  refine a_iload_n X dX8_left_0 rfl ?_
  obtain ⟨e_1, f_1, h⟩ := zBx h
  refine a_callSx X dX8_left_1 miX8_isSeed lm8_358 (t_X8_isSeed f_1) rfl rfl (Nat.le_of_ble_eq_true rfl) ⟨by decide, by decide, by decide, by decide⟩ (fun r_1 S_1 q_1 => ?_)
  obtain ⟨rfl, rfl, b_1⟩ := q_1
  refine a_if_eq (tgt := 19) X dX8_left_4 (by decide) (fun h_4 => ?_) (fun h_4 => ?_)
  · replace h := (if_pos h_4).symm.trans h
    exact Zw.to2 (J_19 _ _ _ _ _ _ _ _ h) rfl rfl rfl
  · replace h := (if_neg h_4).symm.trans h
    refine a_iload_n X dX8_left_7 rfl ?_
    refine a_i2l X dX8_left_8 ?_
    refine a_lconst (v := 0) X dX8_left_9 (by decide) ?_
    refine a_ldc2 X dX8_left_10 lk8_364 ?_
    obtain ⟨e_13, f_13, h⟩ := zBx h
    refine a_callSx X dX8_left_13 miX8_isFrom lm8_128 (t_X8_isFrom f_13) rfl rfl (Nat.le_of_ble_eq_true rfl) ⟨by decide, by decide, by decide, by decide⟩ (fun r_13 S_13 q_13 => ?_)
    obtain ⟨rfl, rfl, b_13⟩ := q_13
    refine a_if_ne (tgt := 25) X dX8_left_16 (by decide) (fun h_16 => ?_) (fun h_16 => ?_)
    · replace h := (if_neg h_16).symm.trans h
      refine a_aload_n X dX8_left_25 rfl ?_
      refine a_iload_n X dX8_left_26 rfl ?_
      obtain ⟨e_27, f_27, h⟩ := zBx h
      refine a_callVx X dX8_left_27 miX8_isUnit lm8_301 (t_X8_isUnit (by first | exact hP | assumption) f_27) (by first | exact p_o | assumption) rfl rfl rfl (Nat.le_of_ble_eq_true rfl) ⟨by decide, by decide, by decide, by decide⟩ (fun r_27 S_27 q_27 => ?_)
      obtain ⟨rfl, rfl, b_27⟩ := q_27
      refine a_if_ne (tgt := 39) X dX8_left_30 (by decide) (fun h_30 => ?_) (fun h_30 => ?_)
      · replace h := (if_neg h_30).symm.trans h
        refine a_aload_n X dX8_left_39 rfl ?_
        refine a_iload_n X dX8_left_40 rfl ?_
        obtain ⟨e_41, f_41, h⟩ := zBx h
        refine a_callVu X dX8_left_41 miX8_laysResult lm8_361 (t_X8_laysResult (by first | exact hP | assumption) f_41) (by first | exact p_o | assumption) rfl rfl rfl (Nat.le_of_ble_eq_true rfl) ⟨by decide, by decide, by decide, by decide⟩ ?_
        refine a_iconst (v := 0) X dX8_left_44 (by decide) ?_
        refine a_istore X dX8_left_45 (by decide) ?_
        refine a_iconst (v := -1) X dX8_left_47 (by decide) ?_
        refine a_istore X dX8_left_48 (by decide) ?_
        refine a_iconst (v := 0) X dX8_left_50 (by decide) ?_
        refine a_istore X dX8_left_51 (by decide) ?_
        exact Zw.to2 (H_53 _ _ _ _ _ _ _ _ h) rfl rfl rfl
      · replace h := (if_pos h_30).symm.trans h
        refine a_aload_n X dX8_left_33 rfl ?_
        refine a_iconst (v := 2) X dX8_left_34 (by decide) ?_
        obtain ⟨e_35, f_35, h⟩ := zBx h
        refine a_callVv X dX8_left_35 miX8_refuse lm8_263 (t_X8_refuse (by first | exact hP | assumption) f_35) (by first | exact p_o | assumption) rfl rfl rfl (Nat.le_of_ble_eq_true rfl) ⟨by decide, by decide, by decide, by decide⟩ ?_
        refine a_iret X hr dX8_left_38 ⟨by decide, by decide⟩ ?_
        subst hF
        rw [← Option.some.inj h]
        exact ⟨rfl, rfl⟩
    · replace h := (if_pos h_16).symm.trans h
      exact Zw.to2 (J_19 _ _ _ _ _ _ _ _ h) rfl rfl rfl
noncomputable def D_X8_winnersNow_33 (P : Nat) (M : zMt) (k4 : Int32 → Int32 → Option (Int32)) (x2_33 : Int32) (y0_33 : Int32) (y1_33 : Int32) : Option (Int32) :=
  k4 (y0_33 ||| y1_33) (x2_33 + 1)
noncomputable def D_X8_winnersNow_4 (P : Nat) (M : zMt) : Nat → Int32 → Int32 → Option (Int32)
  | 0, _, _ => none
  | n + 1, x1_4, x2_4 =>
    if (M P 33) ≤ x2_4 then
      some (x1_4)
    else
      zI x2_4 10 <|
      if (M (P + 19) x2_4.toNatClampNeg) = (-1 : Int32) then
        D_X8_winnersNow_33 P M (D_X8_winnersNow_4 P M n) x2_4 x1_4 (0 : Int32)
      else
        zI x2_4 10 <|
        D_X8_winnersNow_33 P M (D_X8_winnersNow_4 P M n) x2_4 x1_4 (M (P + 11) x2_4.toNatClampNeg)
noncomputable def D_X8_winnersNow (P : Nat) (M : zMt)  : Option (Int32) :=
  D_X8_winnersNow_4 P M zFu (0 : Int32) (0 : Int32)
set_option maxRecDepth 100000 in
set_option maxHeartbeats 4000000 in
theorem t_X8_winnersNow {l : Launch} {G : zG} {b : Nat} {L : List zC} {M : zMt} {N : zNt} {P : Nat}  (hP : LX8 L P) {r : Int32} (h : D_X8_winnersNow P M = some r) : zM l G b yX8_winnersNow cX8_winnersNow 3 (some .int) 0 0 0 [.ref P] (L, M, N) (fun r2 z => r2 = some (.int r) ∧ z = (L, M, N)) := by
  refine zM.of miX8_winnersNow (Nat.le_of_ble_eq_true rfl) ?_
  intro p e s m args below meth c X hr hname
  generalize hF : ((fun r2 z => r2 = some (.int r) ∧ z = (L, M, N)) : Option Value → zS → Prop) = FQ
  change Zw p l e { frames := 0, cells := 0, slots := 0, locals := 80 * (0) } s m args below meth c G b 3 (MQ below (zQ G b FQ) args s 0 0 (fun q : Nat => b ≤ q)) 0 0 0 [some (.ref P), none, none] [] (L, M, N)
  have p_lt := hP.1
  have p_o := hP.2.1
  have p_bits := hP.2.2.2.2.2.2.2.2.2.2.2.2.1
  have p_given := hP.2.2.2.2.2.2.2.2.2.2.2.2.2.2.2.2.2.2.2.2.1
  have L_4 : ∀ u : Nat, ∀ (x1_4 : Int32) (x2_4 : Int32), D_X8_winnersNow_4 P M u x1_4 x2_4 = some r → Zw p l e { frames := 0, cells := 0, slots := 0, locals := 80 * (0) } s m args below meth c G b 3 (MQ below (zQ G b FQ) args s 0 0 (fun q : Nat => b ≤ q)) 0 0 4 [some (.ref (P)), some (.int x1_4), some (.int x2_4)] [] (L, M, N) := by
    intro u
    induction u with
    | zero => intro x1_4 x2_4 h; cases (show none = some r from h)
    | succ u_4 ih_4 =>
      have J_33 : ∀ (x1_33 : Int32) (x2_33 : Int32) (y0_33 : Int32) (y1_33 : Int32), D_X8_winnersNow_33 P M (D_X8_winnersNow_4 P M u_4) x2_33 y0_33 y1_33 = some r → Zw p l e { frames := 0, cells := 0, slots := 0, locals := 80 * (0) } s m args below meth c G b 3 (MQ below (zQ G b FQ) args s 0 0 (fun q : Nat => b ≤ q)) 0 0 33 [some (.ref (P)), some (.int x1_33), some (.int x2_33)] [.int y1_33, .int y0_33] (L, M, N) := by
        intro x1_33 x2_33 y0_33 y1_33 h
        unfold D_X8_winnersNow_33 at h
        refine a_ior X dX8_winnersNow_33 ?_
        refine a_istore_n X dX8_winnersNow_34 (by decide) ?_
        refine a_iinc (v := x2_33 + 1) X dX8_winnersNow_35 (by decide) rfl zi_1 ?_
        refine a_goto (tgt := 4) X dX8_winnersNow_38 (by decide) ?_
        exact Zw.to2 (ih_4 _ _ h) rfl rfl rfl
      intro x1_4 x2_4 h
      rw [D_X8_winnersNow_4] at h
      refine a_iload_n X dX8_winnersNow_4 rfl ?_
      refine a_aload_n X dX8_winnersNow_5 rfl ?_
      refine a_geti X lf8_275 (by first | exact p_o | assumption) rfl dX8_winnersNow_6 ?_
      refine a_icmp_ge (tgt := 41) X dX8_winnersNow_9 (by decide) (fun h_9 => ?_) (fun h_9 => ?_)
      · replace h := (if_pos h_9).symm.trans h
        refine a_iload_n X dX8_winnersNow_41 rfl ?_
        refine a_iret X hr dX8_winnersNow_42 ⟨by decide, by decide⟩ ?_
        subst hF
        rw [← Option.some.inj h]
        exact ⟨rfl, rfl⟩
      · replace h := (if_neg h_9).symm.trans h
        refine a_iload_n X dX8_winnersNow_12 rfl ?_
        refine a_aload_n X dX8_winnersNow_13 rfl ?_
        refine a_getr X lf8_73 (by first | exact p_o | assumption) rfl (by omega) dX8_winnersNow_14 ?_
        refine a_iload_n X dX8_winnersNow_17 rfl ?_
        obtain ⟨g_18, h⟩ := zIx h
        refine a_iaload X (by first | exact p_given | assumption) g_18 dX8_winnersNow_18 ?_
        refine a_iconst (v := -1) X dX8_winnersNow_19 (by decide) ?_
        refine a_icmp_ne (tgt := 27) X dX8_winnersNow_20 (by decide) (fun h_20 => ?_) (fun h_20 => ?_)
        · replace h := (if_neg h_20).symm.trans h
          refine a_aload_n X dX8_winnersNow_27 rfl ?_
          refine a_getr X lf8_49 (by first | exact p_o | assumption) rfl (by omega) dX8_winnersNow_28 ?_
          refine a_iload_n X dX8_winnersNow_31 rfl ?_
          obtain ⟨g_32, h⟩ := zIx h
          refine a_iaload X (by first | exact p_bits | assumption) g_32 dX8_winnersNow_32 ?_
          exact Zw.to2 (J_33 _ _ _ _ h) rfl rfl rfl
        · replace h := (if_pos h_20).symm.trans h
          refine a_iconst (v := 0) X dX8_winnersNow_23 (by decide) ?_
          refine a_goto (tgt := 33) X dX8_winnersNow_24 (by decide) ?_
          exact Zw.to2 (J_33 _ _ _ _ h) rfl rfl rfl
  have H_4 : ∀ (x1_4 : Int32) (x2_4 : Int32), D_X8_winnersNow_4 P M zFu x1_4 x2_4 = some r → Zw p l e { frames := 0, cells := 0, slots := 0, locals := 80 * (0) } s m args below meth c G b 3 (MQ below (zQ G b FQ) args s 0 0 (fun q : Nat => b ≤ q)) 0 0 4 [some (.ref (P)), some (.int x1_4), some (.int x2_4)] [] (L, M, N) := L_4 zFu
  unfold D_X8_winnersNow at h
  refine a_iconst (v := 0) X dX8_winnersNow_0 (by decide) ?_
  refine a_istore_n X dX8_winnersNow_1 (by decide) ?_
  refine a_iconst (v := 0) X dX8_winnersNow_2 (by decide) ?_
  refine a_istore_n X dX8_winnersNow_3 (by decide) ?_
  exact Zw.to2 (H_4 _ _ h) rfl rfl rfl
noncomputable def D_X8_winners (P : Nat) (v0 : Int32) (M : zMt) (N : zNt) : Option (Int32 × zMt × zNt) :=
  zB (D_X8_isSeed v0) fun e_1 =>
  if e_1 = 0 then
    zB (D_X8_refuse P (1 : Int32) M) fun e_9 =>
    some (e_9.1, e_9.2, N)
  else
    zB (D_X8_laysResult P v0 M N) fun e_15 =>
    zB (D_X8_winnersNow P e_15.1) fun e_20 =>
    zB (D_X8_gives P e_20 e_15.1) fun e_23 =>
    some (e_23.1, e_23.2, e_15.2)
set_option maxRecDepth 100000 in
set_option maxHeartbeats 4000000 in
theorem t_X8_winners {l : Launch} {G : zG} {b : Nat} {L : List zC} {M : zMt} {N : zNt} {P : Nat} {v0 : Int32} (hP : LX8 L P) {r : Int32 × zMt × zNt} (h : D_X8_winners P v0 M N = some r) : zM l G b yX8_winners cX8_winners 2 (some .int) 5 0 0 [.ref P, .int v0] (L, M, N) (fun r2 z => r2 = some (.int r.1) ∧ z = (L, r.2.1, r.2.2)) := by
  refine zM.of miX8_winners (Nat.le_of_ble_eq_true rfl) ?_
  intro p e s m args below meth c X hr hname
  generalize hF : ((fun r2 z => r2 = some (.int r.1) ∧ z = (L, r.2.1, r.2.2)) : Option Value → zS → Prop) = FQ
  change Zw p l e { frames := 5, cells := 0, slots := 0, locals := 80 * (5) } s m args below meth c G b 2 (MQ below (zQ G b FQ) args s 0 0 (fun q : Nat => b ≤ q)) 0 0 0 [some (.ref P), some (.int v0)] [] (L, M, N)
  have p_lt := hP.1
  have p_o := hP.2.1
  unfold D_X8_winners at h
  refine a_iload_n X dX8_winners_0 rfl ?_
  obtain ⟨e_1, f_1, h⟩ := zBx h
  refine a_callSx X dX8_winners_1 miX8_isSeed lm8_358 (t_X8_isSeed f_1) rfl rfl (Nat.le_of_ble_eq_true rfl) ⟨by decide, by decide, by decide, by decide⟩ (fun r_1 S_1 q_1 => ?_)
  obtain ⟨rfl, rfl, b_1⟩ := q_1
  refine a_if_ne (tgt := 13) X dX8_winners_4 (by decide) (fun h_4 => ?_) (fun h_4 => ?_)
  · replace h := (if_neg h_4).symm.trans h
    refine a_aload_n X dX8_winners_13 rfl ?_
    refine a_iload_n X dX8_winners_14 rfl ?_
    obtain ⟨e_15, f_15, h⟩ := zBx h
    refine a_callVu X dX8_winners_15 miX8_laysResult lm8_361 (t_X8_laysResult (by first | exact hP | assumption) f_15) (by first | exact p_o | assumption) rfl rfl rfl (Nat.le_of_ble_eq_true rfl) ⟨by decide, by decide, by decide, by decide⟩ ?_
    refine a_aload_n X dX8_winners_18 rfl ?_
    refine a_aload_n X dX8_winners_19 rfl ?_
    obtain ⟨e_20, f_20, h⟩ := zBx h
    refine a_callVv X dX8_winners_20 miX8_winnersNow lm8_371 (t_X8_winnersNow (by first | exact hP | assumption) f_20) (by first | exact p_o | assumption) rfl rfl rfl (Nat.le_of_ble_eq_true rfl) ⟨by decide, by decide, by decide, by decide⟩ ?_
    obtain ⟨e_23, f_23, h⟩ := zBx h
    refine a_callVv X dX8_winners_23 miX8_gives lm8_272 (t_X8_gives (by first | exact hP | assumption) f_23) (by first | exact p_o | assumption) rfl rfl rfl (Nat.le_of_ble_eq_true rfl) ⟨by decide, by decide, by decide, by decide⟩ ?_
    refine a_iret X hr dX8_winners_26 ⟨by decide, by decide⟩ ?_
    subst hF
    rw [← Option.some.inj h]
    exact ⟨rfl, rfl⟩
  · replace h := (if_pos h_4).symm.trans h
    refine a_aload_n X dX8_winners_7 rfl ?_
    refine a_iconst (v := 1) X dX8_winners_8 (by decide) ?_
    obtain ⟨e_9, f_9, h⟩ := zBx h
    refine a_callVv X dX8_winners_9 miX8_refuse lm8_263 (t_X8_refuse (by first | exact hP | assumption) f_9) (by first | exact p_o | assumption) rfl rfl rfl (Nat.le_of_ble_eq_true rfl) ⟨by decide, by decide, by decide, by decide⟩ ?_
    refine a_iret X hr dX8_winners_12 ⟨by decide, by decide⟩ ?_
    subst hF
    rw [← Option.some.inj h]
    exact ⟨rfl, rfl⟩
noncomputable def D_X8_isWaiting_25 (P : Nat) (M : zMt) (y0_25 : Int32) : Option (Int32) :=
  some (y0_25)
noncomputable def D_X8_isWaiting_24 (P : Nat) (M : zMt)  : Option (Int32) :=
  D_X8_isWaiting_25 P M (0 : Int32)
noncomputable def D_X8_isWaiting (P : Nat) (M : zMt) (v0 : Int32) (v1 : Int32) : Option (Int32) :=
  zI v0 10 <|
  if (M (P + 19) v0.toNatClampNeg) = (-1 : Int32) then
    zB (D_X8_placeOf P M v0 v1) fun e_13 =>
    if e_13 = (-1 : Int32) then
      D_X8_isWaiting_24 P M
    else
      D_X8_isWaiting_25 P M (1 : Int32)
  else
    D_X8_isWaiting_24 P M
set_option maxRecDepth 100000 in
set_option maxHeartbeats 4000000 in
theorem t_X8_isWaiting {l : Launch} {G : zG} {b : Nat} {L : List zC} {M : zMt} {N : zNt} {P : Nat} {v0 : Int32} {v1 : Int32} (hP : LX8 L P) {r : Int32} (h : D_X8_isWaiting P M v0 v1 = some r) : zM l G b yX8_isWaiting cX8_isWaiting 3 (some .boolean) 3 0 0 [.ref P, .int v0, .int v1] (L, M, N) (fun r2 z => r2 = some (.int r) ∧ z = (L, M, N) ∧ (r = 0 ∨ r = 1)) := by
  refine zM.of miX8_isWaiting (Nat.le_of_ble_eq_true rfl) ?_
  intro p e s m args below meth c X hr hname
  generalize hF : ((fun r2 z => r2 = some (.int r) ∧ z = (L, M, N) ∧ (r = 0 ∨ r = 1)) : Option Value → zS → Prop) = FQ
  change Zw p l e { frames := 3, cells := 0, slots := 0, locals := 80 * (3) } s m args below meth c G b 3 (MQ below (zQ G b FQ) args s 0 0 (fun q : Nat => b ≤ q)) 0 0 0 [some (.ref P), some (.int v0), some (.int v1)] [] (L, M, N)
  have p_lt := hP.1
  have p_o := hP.2.1
  have p_given := hP.2.2.2.2.2.2.2.2.2.2.2.2.2.2.2.2.2.2.2.2.1
  have J_25 : ∀ (x1_25 : Int32) (x2_25 : Int32) (y0_25 : Int32), (y0_25 = 0 ∨ y0_25 = 1) → D_X8_isWaiting_25 P M y0_25 = some r → Zw p l e { frames := 3, cells := 0, slots := 0, locals := 80 * (3) } s m args below meth c G b 3 (MQ below (zQ G b FQ) args s 0 0 (fun q : Nat => b ≤ q)) 0 0 25 [some (.ref (P)), some (.int x1_25), some (.int x2_25)] [.int y0_25] (L, M, N) := by
    intro x1_25 x2_25 y0_25 fb_y0_25 h
    unfold D_X8_isWaiting_25 at h
    refine a_zret X (by first | exact Or.inl rfl | exact Or.inr rfl | assumption) hr dX8_isWaiting_25 ⟨by decide, by decide⟩ ?_
    subst hF
    rw [← Option.some.inj h]
    exact ⟨rfl, rfl, (by first | exact Or.inl rfl | exact Or.inr rfl | assumption)⟩
  have J_24 : ∀ (x1_24 : Int32) (x2_24 : Int32), D_X8_isWaiting_24 P M = some r → Zw p l e { frames := 3, cells := 0, slots := 0, locals := 80 * (3) } s m args below meth c G b 3 (MQ below (zQ G b FQ) args s 0 0 (fun q : Nat => b ≤ q)) 0 0 24 [some (.ref (P)), some (.int x1_24), some (.int x2_24)] [] (L, M, N) := by
    intro x1_24 x2_24 h
    unfold D_X8_isWaiting_24 at h
    refine a_iconst (v := 0) X dX8_isWaiting_24 (by decide) ?_
    exact Zw.to2 (J_25 _ _ _ (by first | exact Or.inl rfl | exact Or.inr rfl | assumption) h) rfl rfl rfl
  unfold D_X8_isWaiting at h
  refine a_aload_n X dX8_isWaiting_0 rfl ?_
  refine a_getr X lf8_73 (by first | exact p_o | assumption) rfl (by omega) dX8_isWaiting_1 ?_
  refine a_iload_n X dX8_isWaiting_4 rfl ?_
  obtain ⟨g_5, h⟩ := zIx h
  refine a_iaload X (by first | exact p_given | assumption) g_5 dX8_isWaiting_5 ?_
  refine a_iconst (v := -1) X dX8_isWaiting_6 (by decide) ?_
  refine a_icmp_ne (tgt := 24) X dX8_isWaiting_7 (by decide) (fun h_7 => ?_) (fun h_7 => ?_)
  · replace h := (if_neg h_7).symm.trans h
    exact Zw.to2 (J_24 _ _ h) rfl rfl rfl
  · replace h := (if_pos h_7).symm.trans h
    refine a_aload_n X dX8_isWaiting_10 rfl ?_
    refine a_iload_n X dX8_isWaiting_11 rfl ?_
    refine a_iload_n X dX8_isWaiting_12 rfl ?_
    obtain ⟨e_13, f_13, h⟩ := zBx h
    refine a_callVv X dX8_isWaiting_13 miX8_placeOf lm8_310 (t_X8_placeOf (by first | exact hP | assumption) f_13) (by first | exact p_o | assumption) rfl rfl rfl (Nat.le_of_ble_eq_true rfl) ⟨by decide, by decide, by decide, by decide⟩ ?_
    refine a_iconst (v := -1) X dX8_isWaiting_16 (by decide) ?_
    refine a_icmp_eq (tgt := 24) X dX8_isWaiting_17 (by decide) (fun h_17 => ?_) (fun h_17 => ?_)
    · replace h := (if_pos h_17).symm.trans h
      exact Zw.to2 (J_24 _ _ h) rfl rfl rfl
    · replace h := (if_neg h_17).symm.trans h
      refine a_iconst (v := 1) X dX8_isWaiting_20 (by decide) ?_
      refine a_goto (tgt := 25) X dX8_isWaiting_21 (by decide) ?_
      exact Zw.to2 (J_25 _ _ _ (by first | exact Or.inl rfl | exact Or.inr rfl | assumption) h) rfl rfl rfl
noncomputable def D_X8_waits_116 (P : Nat) (y0_116 : Int32) (M_116 : zMt) (N_116 : zNt) : Option (Int32 × zMt × zNt) :=
  some (y0_116, M_116, N_116)
noncomputable def D_X8_waits_91 (P : Nat) (k43 : Int32 → Int32 → Int32 → Int32 → zMt → zNt → Option (Int32 × zMt × zNt)) (x2_91 : Int32) (x3_91 : Int32) (x4_91 : Int32) (x5_91 : Int32) (M_91 : zMt) (N_91 : zNt) : Option (Int32 × zMt × zNt) :=
  k43 x2_91 x3_91 x4_91 (x5_91 + 1) M_91 N_91
noncomputable def D_X8_waits_43 (P : Nat) : Nat → Int32 → Int32 → Int32 → Int32 → zMt → zNt → Option (Int32 × zMt × zNt)
  | 0, _, _, _, _, _, _ => none
  | n + 1, x2_43, x3_43, x4_43, x5_43, M_43, N_43 =>
    if (M_43 P 33) ≤ x5_43 then
      if x3_43 = (-1 : Int32) then
        zB (D_X8_gives P x4_43 M_43) fun e_105 =>
        D_X8_waits_116 P e_105.1 e_105.2 N_43
      else
        zB (D_X8_refuse P (5 : Int32) M_43) fun e_113 =>
        D_X8_waits_116 P e_113.1 e_113.2 N_43
    else
      zI x5_43 10 <|
      zB (D_X8_isWaiting P M_43 (M_43 (P + 18) x5_43.toNatClampNeg) x2_43) fun e_61 =>
      if e_61 = 0 then
        D_X8_waits_91 P (D_X8_waits_43 P n) x2_43 x3_43 x4_43 x5_43 M_43 N_43
      else
        if x4_43 = x3_43 then
          zI x5_43 10 <|
          zB (D_X8_gives P (M_43 (P + 18) x5_43.toNatClampNeg) M_43) fun e_84 =>
          some (e_84.1, e_84.2, N_43)
        else
          D_X8_waits_91 P (D_X8_waits_43 P n) x2_43 x3_43 (x4_43 + 1) x5_43 M_43 N_43
noncomputable def D_X8_waits_12 (P : Nat) (M_12 : zMt) (N_12 : zNt) : Option (Int32 × zMt × zNt) :=
  zB (D_X8_refuse P (1 : Int32) M_12) fun e_14 =>
  some (e_14.1, e_14.2, N_12)
noncomputable def D_X8_waits (P : Nat) (v0 : Int32) (v1 : Int32) (v2 : Int32) (M : zMt) (N : zNt) : Option (Int32 × zMt × zNt) :=
  zB (D_X8_isSeed v0) fun e_1 =>
  if e_1 = 0 then
    D_X8_waits_12 P M N
  else
    if (-1 : Int32) ≤ v2 then
      zB (D_X8_isUnit P M v1) fun e_20 =>
      if e_20 = 0 then
        zB (D_X8_refuse P (2 : Int32) M) fun e_28 =>
        some (e_28.1, e_28.2, N)
      else
        zB (D_X8_laysResult P v0 M N) fun e_34 =>
        D_X8_waits_43 P zFu v1 v2 (0 : Int32) (0 : Int32) e_34.1 e_34.2
    else
      D_X8_waits_12 P M N
set_option maxRecDepth 100000 in
set_option maxHeartbeats 4000000 in
theorem t_X8_waits {l : Launch} {G : zG} {b : Nat} {L : List zC} {M : zMt} {N : zNt} {P : Nat} {v0 : Int32} {v1 : Int32} {v2 : Int32} (hP : LX8 L P) {r : Int32 × zMt × zNt} (h : D_X8_waits P v0 v1 v2 M N = some r) : zM l G b yX8_waits cX8_waits 6 (some .int) 5 0 0 [.ref P, .int v0, .int v1, .int v2] (L, M, N) (fun r2 z => r2 = some (.int r.1) ∧ z = (L, r.2.1, r.2.2)) := by
  refine zM.of miX8_waits (Nat.le_of_ble_eq_true rfl) ?_
  intro p e s m args below meth c X hr hname
  generalize hF : ((fun r2 z => r2 = some (.int r.1) ∧ z = (L, r.2.1, r.2.2)) : Option Value → zS → Prop) = FQ
  change Zw p l e { frames := 5, cells := 0, slots := 0, locals := 80 * (5) } s m args below meth c G b 6 (MQ below (zQ G b FQ) args s 0 0 (fun q : Nat => b ≤ q)) 0 0 0 [some (.ref P), some (.int v0), some (.int v1), some (.int v2), none, none] [] (L, M, N)
  have p_lt := hP.1
  have p_o := hP.2.1
  have p_ord := hP.2.2.2.2.2.2.2.2.2.2.2.2.2.2.2.2.2.2.2.1
  have J_116 : ∀ (x1_116 : Int32) (x2_116 : Int32) (x3_116 : Int32) (x4_116 : Int32) (x5_116 : Int32) (y0_116 : Int32) (M_116 : zMt) (N_116 : zNt), D_X8_waits_116 P y0_116 M_116 N_116 = some r → Zw p l e { frames := 5, cells := 0, slots := 0, locals := 80 * (5) } s m args below meth c G b 6 (MQ below (zQ G b FQ) args s 0 0 (fun q : Nat => b ≤ q)) 0 0 116 [some (.ref (P)), some (.int x1_116), some (.int x2_116), some (.int x3_116), some (.int x4_116), some (.int x5_116)] [.int y0_116] (L, M_116, N_116) := by
    intro x1_116 x2_116 x3_116 x4_116 x5_116 y0_116 M_116 N_116 h
    unfold D_X8_waits_116 at h
    refine a_iret X hr dX8_waits_116 ⟨by decide, by decide⟩ ?_
    subst hF
    rw [← Option.some.inj h]
    exact ⟨rfl, rfl⟩
  have L_43 : ∀ u : Nat, ∀ (x1_43 : Int32) (x2_43 : Int32) (x3_43 : Int32) (x4_43 : Int32) (x5_43 : Int32) (M_43 : zMt) (N_43 : zNt), D_X8_waits_43 P u x2_43 x3_43 x4_43 x5_43 M_43 N_43 = some r → Zw p l e { frames := 5, cells := 0, slots := 0, locals := 80 * (5) } s m args below meth c G b 6 (MQ below (zQ G b FQ) args s 0 0 (fun q : Nat => b ≤ q)) 0 0 43 [some (.ref (P)), some (.int x1_43), some (.int x2_43), some (.int x3_43), some (.int x4_43), some (.int x5_43)] [] (L, M_43, N_43) := by
    intro u
    induction u with
    | zero => intro x1_43 x2_43 x3_43 x4_43 x5_43 M_43 N_43 h; cases (show none = some r from h)
    | succ u_43 ih_43 =>
      have J_91 : ∀ (x1_91 : Int32) (x2_91 : Int32) (x3_91 : Int32) (x4_91 : Int32) (x5_91 : Int32) (M_91 : zMt) (N_91 : zNt), D_X8_waits_91 P (D_X8_waits_43 P u_43) x2_91 x3_91 x4_91 x5_91 M_91 N_91 = some r → Zw p l e { frames := 5, cells := 0, slots := 0, locals := 80 * (5) } s m args below meth c G b 6 (MQ below (zQ G b FQ) args s 0 0 (fun q : Nat => b ≤ q)) 0 0 91 [some (.ref (P)), some (.int x1_91), some (.int x2_91), some (.int x3_91), some (.int x4_91), some (.int x5_91)] [] (L, M_91, N_91) := by
        intro x1_91 x2_91 x3_91 x4_91 x5_91 M_91 N_91 h
        unfold D_X8_waits_91 at h
        refine a_iinc (v := x5_91 + 1) X dX8_waits_91 (by decide) rfl zi_1 ?_
        refine a_goto (tgt := 43) X dX8_waits_94 (by decide) ?_
        exact Zw.to2 (ih_43 _ _ _ _ _ _ _ h) rfl rfl rfl
      intro x1_43 x2_43 x3_43 x4_43 x5_43 M_43 N_43 h
      rw [D_X8_waits_43] at h
      refine a_iload X dX8_waits_43 rfl ?_
      refine a_aload_n X dX8_waits_45 rfl ?_
      refine a_geti X lf8_275 (by first | exact p_o | assumption) rfl dX8_waits_46 ?_
      refine a_icmp_ge (tgt := 97) X dX8_waits_49 (by decide) (fun h_49 => ?_) (fun h_49 => ?_)
      · replace h := (if_pos h_49).symm.trans h
        refine a_iload_n X dX8_waits_97 rfl ?_
        refine a_iconst (v := -1) X dX8_waits_98 (by decide) ?_
        refine a_icmp_ne (tgt := 111) X dX8_waits_99 (by decide) (fun h_99 => ?_) (fun h_99 => ?_)
        · replace h := (if_neg h_99).symm.trans h
          refine a_aload_n X dX8_waits_111 rfl ?_
          refine a_iconst (v := 5) X dX8_waits_112 (by decide) ?_
          obtain ⟨e_113, f_113, h⟩ := zBx h
          refine a_callVv X dX8_waits_113 miX8_refuse lm8_263 (t_X8_refuse (by first | exact hP | assumption) f_113) (by first | exact p_o | assumption) rfl rfl rfl (Nat.le_of_ble_eq_true rfl) ⟨by decide, by decide, by decide, by decide⟩ ?_
          exact Zw.to2 (J_116 _ _ _ _ _ _ _ _ h) rfl rfl rfl
        · replace h := (if_pos h_99).symm.trans h
          refine a_aload_n X dX8_waits_102 rfl ?_
          refine a_iload X dX8_waits_103 rfl ?_
          obtain ⟨e_105, f_105, h⟩ := zBx h
          refine a_callVv X dX8_waits_105 miX8_gives lm8_272 (t_X8_gives (by first | exact hP | assumption) f_105) (by first | exact p_o | assumption) rfl rfl rfl (Nat.le_of_ble_eq_true rfl) ⟨by decide, by decide, by decide, by decide⟩ ?_
          refine a_goto (tgt := 116) X dX8_waits_108 (by decide) ?_
          exact Zw.to2 (J_116 _ _ _ _ _ _ _ _ h) rfl rfl rfl
      · replace h := (if_neg h_49).symm.trans h
        refine a_aload_n X dX8_waits_52 rfl ?_
        refine a_aload_n X dX8_waits_53 rfl ?_
        refine a_getr X lf8_70 (by first | exact p_o | assumption) rfl (by omega) dX8_waits_54 ?_
        refine a_iload X dX8_waits_57 rfl ?_
        obtain ⟨g_59, h⟩ := zIx h
        refine a_iaload X (by first | exact p_ord | assumption) g_59 dX8_waits_59 ?_
        refine a_iload_n X dX8_waits_60 rfl ?_
        obtain ⟨e_61, f_61, h⟩ := zBx h
        refine a_callVx X dX8_waits_61 miX8_isWaiting lm8_374 (t_X8_isWaiting (by first | exact hP | assumption) f_61) (by first | exact p_o | assumption) rfl rfl rfl (Nat.le_of_ble_eq_true rfl) ⟨by decide, by decide, by decide, by decide⟩ (fun r_61 S_61 q_61 => ?_)
        obtain ⟨rfl, rfl, b_61⟩ := q_61
        refine a_if_ne (tgt := 70) X dX8_waits_64 (by decide) (fun h_64 => ?_) (fun h_64 => ?_)
        · replace h := (if_neg h_64).symm.trans h
          refine a_iload X dX8_waits_70 rfl ?_
          refine a_iload_n X dX8_waits_72 rfl ?_
          refine a_icmp_ne (tgt := 88) X dX8_waits_73 (by decide) (fun h_73 => ?_) (fun h_73 => ?_)
          · replace h := (if_neg h_73).symm.trans h
            refine a_iinc (v := x4_43 + 1) X dX8_waits_88 (by decide) rfl zi_1 ?_
            exact Zw.to2 (J_91 _ _ _ _ _ _ _ h) rfl rfl rfl
          · replace h := (if_pos h_73).symm.trans h
            refine a_aload_n X dX8_waits_76 rfl ?_
            refine a_aload_n X dX8_waits_77 rfl ?_
            refine a_getr X lf8_70 (by first | exact p_o | assumption) rfl (by omega) dX8_waits_78 ?_
            refine a_iload X dX8_waits_81 rfl ?_
            obtain ⟨g_83, h⟩ := zIx h
            refine a_iaload X (by first | exact p_ord | assumption) g_83 dX8_waits_83 ?_
            obtain ⟨e_84, f_84, h⟩ := zBx h
            refine a_callVv X dX8_waits_84 miX8_gives lm8_272 (t_X8_gives (by first | exact hP | assumption) f_84) (by first | exact p_o | assumption) rfl rfl rfl (Nat.le_of_ble_eq_true rfl) ⟨by decide, by decide, by decide, by decide⟩ ?_
            refine a_iret X hr dX8_waits_87 ⟨by decide, by decide⟩ ?_
            subst hF
            rw [← Option.some.inj h]
            exact ⟨rfl, rfl⟩
        · replace h := (if_pos h_64).symm.trans h
          refine a_goto (tgt := 91) X dX8_waits_67 (by decide) ?_
          exact Zw.to2 (J_91 _ _ _ _ _ _ _ h) rfl rfl rfl
  have H_43 : ∀ (x1_43 : Int32) (x2_43 : Int32) (x3_43 : Int32) (x4_43 : Int32) (x5_43 : Int32) (M_43 : zMt) (N_43 : zNt), D_X8_waits_43 P zFu x2_43 x3_43 x4_43 x5_43 M_43 N_43 = some r → Zw p l e { frames := 5, cells := 0, slots := 0, locals := 80 * (5) } s m args below meth c G b 6 (MQ below (zQ G b FQ) args s 0 0 (fun q : Nat => b ≤ q)) 0 0 43 [some (.ref (P)), some (.int x1_43), some (.int x2_43), some (.int x3_43), some (.int x4_43), some (.int x5_43)] [] (L, M_43, N_43) := L_43 zFu
  have J_12 : ∀ (x1_12 : Int32) (x2_12 : Int32) (x3_12 : Int32) (x4_12 : Option Value) (x5_12 : Option Value) (M_12 : zMt) (N_12 : zNt), D_X8_waits_12 P M_12 N_12 = some r → Zw p l e { frames := 5, cells := 0, slots := 0, locals := 80 * (5) } s m args below meth c G b 6 (MQ below (zQ G b FQ) args s 0 0 (fun q : Nat => b ≤ q)) 0 0 12 [some (.ref (P)), some (.int x1_12), some (.int x2_12), some (.int x3_12), x4_12, x5_12] [] (L, M_12, N_12) := by
    intro x1_12 x2_12 x3_12 x4_12 x5_12 M_12 N_12 h
    unfold D_X8_waits_12 at h
    refine a_aload_n X dX8_waits_12 rfl ?_
    refine a_iconst (v := 1) X dX8_waits_13 (by decide) ?_
    obtain ⟨e_14, f_14, h⟩ := zBx h
    refine a_callVv X dX8_waits_14 miX8_refuse lm8_263 (t_X8_refuse (by first | exact hP | assumption) f_14) (by first | exact p_o | assumption) rfl rfl rfl (Nat.le_of_ble_eq_true rfl) ⟨by decide, by decide, by decide, by decide⟩ ?_
    refine a_iret X hr dX8_waits_17 ⟨by decide, by decide⟩ ?_
    subst hF
    rw [← Option.some.inj h]
    exact ⟨rfl, rfl⟩
  unfold D_X8_waits at h
  refine a_iload_n X dX8_waits_0 rfl ?_
  obtain ⟨e_1, f_1, h⟩ := zBx h
  refine a_callSx X dX8_waits_1 miX8_isSeed lm8_358 (t_X8_isSeed f_1) rfl rfl (Nat.le_of_ble_eq_true rfl) ⟨by decide, by decide, by decide, by decide⟩ (fun r_1 S_1 q_1 => ?_)
  obtain ⟨rfl, rfl, b_1⟩ := q_1
  refine a_if_eq (tgt := 12) X dX8_waits_4 (by decide) (fun h_4 => ?_) (fun h_4 => ?_)
  · replace h := (if_pos h_4).symm.trans h
    exact Zw.to2 (J_12 _ _ _ _ _ _ _ h) rfl rfl rfl
  · replace h := (if_neg h_4).symm.trans h
    refine a_iload_n X dX8_waits_7 rfl ?_
    refine a_iconst (v := -1) X dX8_waits_8 (by decide) ?_
    refine a_icmp_ge (tgt := 18) X dX8_waits_9 (by decide) (fun h_9 => ?_) (fun h_9 => ?_)
    · replace h := (if_pos h_9).symm.trans h
      refine a_aload_n X dX8_waits_18 rfl ?_
      refine a_iload_n X dX8_waits_19 rfl ?_
      obtain ⟨e_20, f_20, h⟩ := zBx h
      refine a_callVx X dX8_waits_20 miX8_isUnit lm8_301 (t_X8_isUnit (by first | exact hP | assumption) f_20) (by first | exact p_o | assumption) rfl rfl rfl (Nat.le_of_ble_eq_true rfl) ⟨by decide, by decide, by decide, by decide⟩ (fun r_20 S_20 q_20 => ?_)
      obtain ⟨rfl, rfl, b_20⟩ := q_20
      refine a_if_ne (tgt := 32) X dX8_waits_23 (by decide) (fun h_23 => ?_) (fun h_23 => ?_)
      · replace h := (if_neg h_23).symm.trans h
        refine a_aload_n X dX8_waits_32 rfl ?_
        refine a_iload_n X dX8_waits_33 rfl ?_
        obtain ⟨e_34, f_34, h⟩ := zBx h
        refine a_callVu X dX8_waits_34 miX8_laysResult lm8_361 (t_X8_laysResult (by first | exact hP | assumption) f_34) (by first | exact p_o | assumption) rfl rfl rfl (Nat.le_of_ble_eq_true rfl) ⟨by decide, by decide, by decide, by decide⟩ ?_
        refine a_iconst (v := 0) X dX8_waits_37 (by decide) ?_
        refine a_istore X dX8_waits_38 (by decide) ?_
        refine a_iconst (v := 0) X dX8_waits_40 (by decide) ?_
        refine a_istore X dX8_waits_41 (by decide) ?_
        exact Zw.to2 (H_43 _ _ _ _ _ _ _ h) rfl rfl rfl
      · replace h := (if_pos h_23).symm.trans h
        refine a_aload_n X dX8_waits_26 rfl ?_
        refine a_iconst (v := 2) X dX8_waits_27 (by decide) ?_
        obtain ⟨e_28, f_28, h⟩ := zBx h
        refine a_callVv X dX8_waits_28 miX8_refuse lm8_263 (t_X8_refuse (by first | exact hP | assumption) f_28) (by first | exact p_o | assumption) rfl rfl rfl (Nat.le_of_ble_eq_true rfl) ⟨by decide, by decide, by decide, by decide⟩ ?_
        refine a_iret X hr dX8_waits_31 ⟨by decide, by decide⟩ ?_
        subst hF
        rw [← Option.some.inj h]
        exact ⟨rfl, rfl⟩
    · replace h := (if_neg h_9).symm.trans h
      exact Zw.to2 (J_12 _ _ _ _ _ _ _ h) rfl rfl rfl
noncomputable def D_X8_next__116 (P : Nat) (k57 : Int32 → Int32 → Int32 → zMt → zNt → Option (Int32 × zMt × zNt)) (x2_116 : Int32) (x3_116 : Int32) (x4_116 : Int32) (M_116 : zMt) (N_116 : zNt) : Option (Int32 × zMt × zNt) :=
  k57 x2_116 x3_116 (x4_116 + 1) M_116 N_116
noncomputable def D_X8_next__57 (P : Nat) : Nat → Int32 → Int32 → Int32 → zMt → zNt → Option (Int32 × zMt × zNt)
  | 0, _, _, _, _, _ => none
  | n + 1, x2_57, x3_57, x4_57, M_57, N_57 =>
    if (M_57 P 33) ≤ x4_57 then
      zB (D_X8_refuse P (5 : Int32) M_57) fun e_124 =>
      some (e_124.1, e_124.2, N_57)
    else
      zI x4_57 10 <|
      zB (D_X8_isWaiting P M_57 (M_57 (P + 18) x4_57.toNatClampNeg) x2_57) fun e_75 =>
      if e_75 = 0 then
        D_X8_next__116 P (D_X8_next__57 P n) x2_57 x3_57 x4_57 M_57 N_57
      else
        zI x4_57 10 <|
        zI x2_57 5 <|
        zB (D_X8_fits P M_57 (M_57 (P + 18) x4_57.toNatClampNeg) x2_57 ((M_57 (P + 21) x2_57.toNatClampNeg) + x3_57)) fun e_98 =>
        if e_98 = 0 then
          D_X8_next__116 P (D_X8_next__57 P n) x2_57 x3_57 x4_57 M_57 N_57
        else
          zI x4_57 10 <|
          zB (D_X8_gives P (M_57 (P + 18) x4_57.toNatClampNeg) M_57) fun e_112 =>
          some (e_112.1, e_112.2, N_57)
noncomputable def D_X8_next__19 (P : Nat) (M_19 : zMt) (N_19 : zNt) : Option (Int32 × zMt × zNt) :=
  zB (D_X8_refuse P (1 : Int32) M_19) fun e_21 =>
  some (e_21.1, e_21.2, N_19)
noncomputable def D_X8_next_ (P : Nat) (v0 : Int32) (v1 : Int32) (v2 : Int32) (M : zMt) (N : zNt) : Option (Int32 × zMt × zNt) :=
  zB (D_X8_isSeed v0) fun e_1 =>
  if e_1 = 0 then
    D_X8_next__19 P M N
  else
    zB (D_X8_isFrom (Int32.toInt64 v2) (0 : Int64) (20 : Int64)) fun e_13 =>
    if e_13 = 0 then
      D_X8_next__19 P M N
    else
      zB (D_X8_isUnit P M v1) fun e_27 =>
      if e_27 = 0 then
        zB (D_X8_refuse P (2 : Int32) M) fun e_35 =>
        some (e_35.1, e_35.2, N)
      else
        zB (D_X8_laysResult P v0 M N) fun e_41 =>
        zI v1 5 <|
        zI v1 5 <|
        zLt (zu e_41.1 (P + 22) v1.toNatClampNeg ((e_41.1 (P + 22) v1.toNatClampNeg) + v2)) fun M_53 =>
        D_X8_next__57 P zFu v1 v2 (0 : Int32) M_53 e_41.2
set_option maxRecDepth 100000 in
set_option maxHeartbeats 4000000 in
theorem t_X8_next_ {l : Launch} {G : zG} {b : Nat} {L : List zC} {M : zMt} {N : zNt} {P : Nat} {v0 : Int32} {v1 : Int32} {v2 : Int32} (hP : LX8 L P) {r : Int32 × zMt × zNt} (h : D_X8_next_ P v0 v1 v2 M N = some r) : zM l G b yX8_next_ cX8_next_ 5 (some .int) 5 0 0 [.ref P, .int v0, .int v1, .int v2] (L, M, N) (fun r2 z => r2 = some (.int r.1) ∧ z = (L, r.2.1, r.2.2)) := by
  refine zM.of miX8_next_ (Nat.le_of_ble_eq_true rfl) ?_
  intro p e s m args below meth c X hr hname
  generalize hF : ((fun r2 z => r2 = some (.int r.1) ∧ z = (L, r.2.1, r.2.2)) : Option Value → zS → Prop) = FQ
  change Zw p l e { frames := 5, cells := 0, slots := 0, locals := 80 * (5) } s m args below meth c G b 5 (MQ below (zQ G b FQ) args s 0 0 (fun q : Nat => b ≤ q)) 0 0 0 [some (.ref P), some (.int v0), some (.int v1), some (.int v2), none] [] (L, M, N)
  have p_lt := hP.1
  have p_o := hP.2.1
  have p_ord := hP.2.2.2.2.2.2.2.2.2.2.2.2.2.2.2.2.2.2.2.1
  have p_tags := hP.2.2.2.2.2.2.2.2.2.2.2.2.2.2.2.2.2.2.2.2.2.2.1
  have p_guestTags := hP.2.2.2.2.2.2.2.2.2.2.2.2.2.2.2.2.2.2.2.2.2.2.2.1
  have L_57 : ∀ u : Nat, ∀ (x1_57 : Int32) (x2_57 : Int32) (x3_57 : Int32) (x4_57 : Int32) (M_57 : zMt) (N_57 : zNt), D_X8_next__57 P u x2_57 x3_57 x4_57 M_57 N_57 = some r → Zw p l e { frames := 5, cells := 0, slots := 0, locals := 80 * (5) } s m args below meth c G b 5 (MQ below (zQ G b FQ) args s 0 0 (fun q : Nat => b ≤ q)) 0 0 57 [some (.ref (P)), some (.int x1_57), some (.int x2_57), some (.int x3_57), some (.int x4_57)] [] (L, M_57, N_57) := by
    intro u
    induction u with
    | zero => intro x1_57 x2_57 x3_57 x4_57 M_57 N_57 h; cases (show none = some r from h)
    | succ u_57 ih_57 =>
      have J_116 : ∀ (x1_116 : Int32) (x2_116 : Int32) (x3_116 : Int32) (x4_116 : Int32) (M_116 : zMt) (N_116 : zNt), D_X8_next__116 P (D_X8_next__57 P u_57) x2_116 x3_116 x4_116 M_116 N_116 = some r → Zw p l e { frames := 5, cells := 0, slots := 0, locals := 80 * (5) } s m args below meth c G b 5 (MQ below (zQ G b FQ) args s 0 0 (fun q : Nat => b ≤ q)) 0 0 116 [some (.ref (P)), some (.int x1_116), some (.int x2_116), some (.int x3_116), some (.int x4_116)] [] (L, M_116, N_116) := by
        intro x1_116 x2_116 x3_116 x4_116 M_116 N_116 h
        unfold D_X8_next__116 at h
        refine a_iinc (v := x4_116 + 1) X dX8_next__116 (by decide) rfl zi_1 ?_
        refine a_goto (tgt := 57) X dX8_next__119 (by decide) ?_
        exact Zw.to2 (ih_57 _ _ _ _ _ _ h) rfl rfl rfl
      intro x1_57 x2_57 x3_57 x4_57 M_57 N_57 h
      rw [D_X8_next__57] at h
      refine a_iload X dX8_next__57 rfl ?_
      refine a_aload_n X dX8_next__59 rfl ?_
      refine a_geti X lf8_275 (by first | exact p_o | assumption) rfl dX8_next__60 ?_
      refine a_icmp_ge (tgt := 122) X dX8_next__63 (by decide) (fun h_63 => ?_) (fun h_63 => ?_)
      · replace h := (if_pos h_63).symm.trans h
        refine a_aload_n X dX8_next__122 rfl ?_
        refine a_iconst (v := 5) X dX8_next__123 (by decide) ?_
        obtain ⟨e_124, f_124, h⟩ := zBx h
        refine a_callVv X dX8_next__124 miX8_refuse lm8_263 (t_X8_refuse (by first | exact hP | assumption) f_124) (by first | exact p_o | assumption) rfl rfl rfl (Nat.le_of_ble_eq_true rfl) ⟨by decide, by decide, by decide, by decide⟩ ?_
        refine a_iret X hr dX8_next__127 ⟨by decide, by decide⟩ ?_
        subst hF
        rw [← Option.some.inj h]
        exact ⟨rfl, rfl⟩
      · replace h := (if_neg h_63).symm.trans h
        refine a_aload_n X dX8_next__66 rfl ?_
        refine a_aload_n X dX8_next__67 rfl ?_
        refine a_getr X lf8_70 (by first | exact p_o | assumption) rfl (by omega) dX8_next__68 ?_
        refine a_iload X dX8_next__71 rfl ?_
        obtain ⟨g_73, h⟩ := zIx h
        refine a_iaload X (by first | exact p_ord | assumption) g_73 dX8_next__73 ?_
        refine a_iload_n X dX8_next__74 rfl ?_
        obtain ⟨e_75, f_75, h⟩ := zBx h
        refine a_callVx X dX8_next__75 miX8_isWaiting lm8_374 (t_X8_isWaiting (by first | exact hP | assumption) f_75) (by first | exact p_o | assumption) rfl rfl rfl (Nat.le_of_ble_eq_true rfl) ⟨by decide, by decide, by decide, by decide⟩ (fun r_75 S_75 q_75 => ?_)
        obtain ⟨rfl, rfl, b_75⟩ := q_75
        refine a_if_eq (tgt := 116) X dX8_next__78 (by decide) (fun h_78 => ?_) (fun h_78 => ?_)
        · replace h := (if_pos h_78).symm.trans h
          exact Zw.to2 (J_116 _ _ _ _ _ _ h) rfl rfl rfl
        · replace h := (if_neg h_78).symm.trans h
          refine a_aload_n X dX8_next__81 rfl ?_
          refine a_aload_n X dX8_next__82 rfl ?_
          refine a_getr X lf8_70 (by first | exact p_o | assumption) rfl (by omega) dX8_next__83 ?_
          refine a_iload X dX8_next__86 rfl ?_
          obtain ⟨g_88, h⟩ := zIx h
          refine a_iaload X (by first | exact p_ord | assumption) g_88 dX8_next__88 ?_
          refine a_iload_n X dX8_next__89 rfl ?_
          refine a_aload_n X dX8_next__90 rfl ?_
          refine a_getr X lf8_79 (by first | exact p_o | assumption) rfl (by omega) dX8_next__91 ?_
          refine a_iload_n X dX8_next__94 rfl ?_
          obtain ⟨g_95, h⟩ := zIx h
          refine a_iaload X (by first | exact p_tags | assumption) g_95 dX8_next__95 ?_
          refine a_iload_n X dX8_next__96 rfl ?_
          refine a_iadd X dX8_next__97 ?_
          obtain ⟨e_98, f_98, h⟩ := zBx h
          refine a_callVx X dX8_next__98 miX8_fits lm8_329 (t_X8_fits (by first | exact hP | assumption) f_98) (by first | exact p_o | assumption) rfl rfl rfl (Nat.le_of_ble_eq_true rfl) ⟨by decide, by decide, by decide, by decide⟩ (fun r_98 S_98 q_98 => ?_)
          obtain ⟨rfl, rfl, b_98⟩ := q_98
          refine a_if_eq (tgt := 116) X dX8_next__101 (by decide) (fun h_101 => ?_) (fun h_101 => ?_)
          · replace h := (if_pos h_101).symm.trans h
            exact Zw.to2 (J_116 _ _ _ _ _ _ h) rfl rfl rfl
          · replace h := (if_neg h_101).symm.trans h
            refine a_aload_n X dX8_next__104 rfl ?_
            refine a_aload_n X dX8_next__105 rfl ?_
            refine a_getr X lf8_70 (by first | exact p_o | assumption) rfl (by omega) dX8_next__106 ?_
            refine a_iload X dX8_next__109 rfl ?_
            obtain ⟨g_111, h⟩ := zIx h
            refine a_iaload X (by first | exact p_ord | assumption) g_111 dX8_next__111 ?_
            obtain ⟨e_112, f_112, h⟩ := zBx h
            refine a_callVv X dX8_next__112 miX8_gives lm8_272 (t_X8_gives (by first | exact hP | assumption) f_112) (by first | exact p_o | assumption) rfl rfl rfl (Nat.le_of_ble_eq_true rfl) ⟨by decide, by decide, by decide, by decide⟩ ?_
            refine a_iret X hr dX8_next__115 ⟨by decide, by decide⟩ ?_
            subst hF
            rw [← Option.some.inj h]
            exact ⟨rfl, rfl⟩
  have H_57 : ∀ (x1_57 : Int32) (x2_57 : Int32) (x3_57 : Int32) (x4_57 : Int32) (M_57 : zMt) (N_57 : zNt), D_X8_next__57 P zFu x2_57 x3_57 x4_57 M_57 N_57 = some r → Zw p l e { frames := 5, cells := 0, slots := 0, locals := 80 * (5) } s m args below meth c G b 5 (MQ below (zQ G b FQ) args s 0 0 (fun q : Nat => b ≤ q)) 0 0 57 [some (.ref (P)), some (.int x1_57), some (.int x2_57), some (.int x3_57), some (.int x4_57)] [] (L, M_57, N_57) := L_57 zFu
  have J_19 : ∀ (x1_19 : Int32) (x2_19 : Int32) (x3_19 : Int32) (x4_19 : Option Value) (M_19 : zMt) (N_19 : zNt), D_X8_next__19 P M_19 N_19 = some r → Zw p l e { frames := 5, cells := 0, slots := 0, locals := 80 * (5) } s m args below meth c G b 5 (MQ below (zQ G b FQ) args s 0 0 (fun q : Nat => b ≤ q)) 0 0 19 [some (.ref (P)), some (.int x1_19), some (.int x2_19), some (.int x3_19), x4_19] [] (L, M_19, N_19) := by
    intro x1_19 x2_19 x3_19 x4_19 M_19 N_19 h
    unfold D_X8_next__19 at h
    refine a_aload_n X dX8_next__19 rfl ?_
    refine a_iconst (v := 1) X dX8_next__20 (by decide) ?_
    obtain ⟨e_21, f_21, h⟩ := zBx h
    refine a_callVv X dX8_next__21 miX8_refuse lm8_263 (t_X8_refuse (by first | exact hP | assumption) f_21) (by first | exact p_o | assumption) rfl rfl rfl (Nat.le_of_ble_eq_true rfl) ⟨by decide, by decide, by decide, by decide⟩ ?_
    refine a_iret X hr dX8_next__24 ⟨by decide, by decide⟩ ?_
    subst hF
    rw [← Option.some.inj h]
    exact ⟨rfl, rfl⟩
  unfold D_X8_next_ at h
  refine a_iload_n X dX8_next__0 rfl ?_
  obtain ⟨e_1, f_1, h⟩ := zBx h
  refine a_callSx X dX8_next__1 miX8_isSeed lm8_358 (t_X8_isSeed f_1) rfl rfl (Nat.le_of_ble_eq_true rfl) ⟨by decide, by decide, by decide, by decide⟩ (fun r_1 S_1 q_1 => ?_)
  obtain ⟨rfl, rfl, b_1⟩ := q_1
  refine a_if_eq (tgt := 19) X dX8_next__4 (by decide) (fun h_4 => ?_) (fun h_4 => ?_)
  · replace h := (if_pos h_4).symm.trans h
    exact Zw.to2 (J_19 _ _ _ _ _ _ h) rfl rfl rfl
  · replace h := (if_neg h_4).symm.trans h
    refine a_iload_n X dX8_next__7 rfl ?_
    refine a_i2l X dX8_next__8 ?_
    refine a_lconst (v := 0) X dX8_next__9 (by decide) ?_
    refine a_ldc2 X dX8_next__10 lk8_377 ?_
    obtain ⟨e_13, f_13, h⟩ := zBx h
    refine a_callSx X dX8_next__13 miX8_isFrom lm8_128 (t_X8_isFrom f_13) rfl rfl (Nat.le_of_ble_eq_true rfl) ⟨by decide, by decide, by decide, by decide⟩ (fun r_13 S_13 q_13 => ?_)
    obtain ⟨rfl, rfl, b_13⟩ := q_13
    refine a_if_ne (tgt := 25) X dX8_next__16 (by decide) (fun h_16 => ?_) (fun h_16 => ?_)
    · replace h := (if_neg h_16).symm.trans h
      refine a_aload_n X dX8_next__25 rfl ?_
      refine a_iload_n X dX8_next__26 rfl ?_
      obtain ⟨e_27, f_27, h⟩ := zBx h
      refine a_callVx X dX8_next__27 miX8_isUnit lm8_301 (t_X8_isUnit (by first | exact hP | assumption) f_27) (by first | exact p_o | assumption) rfl rfl rfl (Nat.le_of_ble_eq_true rfl) ⟨by decide, by decide, by decide, by decide⟩ (fun r_27 S_27 q_27 => ?_)
      obtain ⟨rfl, rfl, b_27⟩ := q_27
      refine a_if_ne (tgt := 39) X dX8_next__30 (by decide) (fun h_30 => ?_) (fun h_30 => ?_)
      · replace h := (if_neg h_30).symm.trans h
        refine a_aload_n X dX8_next__39 rfl ?_
        refine a_iload_n X dX8_next__40 rfl ?_
        obtain ⟨e_41, f_41, h⟩ := zBx h
        refine a_callVu X dX8_next__41 miX8_laysResult lm8_361 (t_X8_laysResult (by first | exact hP | assumption) f_41) (by first | exact p_o | assumption) rfl rfl rfl (Nat.le_of_ble_eq_true rfl) ⟨by decide, by decide, by decide, by decide⟩ ?_
        refine a_aload_n X dX8_next__44 rfl ?_
        refine a_getr X lf8_82 (by first | exact p_o | assumption) rfl (by omega) dX8_next__45 ?_
        refine a_iload_n X dX8_next__48 rfl ?_
        refine a_dup2 X dX8_next__49 rfl rfl ?_
        obtain ⟨g_50, h⟩ := zIx h
        refine a_iaload X (by first | exact p_guestTags | assumption) g_50 dX8_next__50 ?_
        refine a_iload_n X dX8_next__51 rfl ?_
        refine a_iadd X dX8_next__52 ?_
        obtain ⟨g_53, h⟩ := zIx h
        obtain ⟨M_53, f_53, h⟩ := zLtx h
        refine d_iastore X (by first | exact p_guestTags | assumption) g_53 dX8_next__53 f_53 ?_
        refine a_iconst (v := 0) X dX8_next__54 (by decide) ?_
        refine a_istore X dX8_next__55 (by decide) ?_
        exact Zw.to2 (H_57 _ _ _ _ _ _ h) rfl rfl rfl
      · replace h := (if_pos h_30).symm.trans h
        refine a_aload_n X dX8_next__33 rfl ?_
        refine a_iconst (v := 2) X dX8_next__34 (by decide) ?_
        obtain ⟨e_35, f_35, h⟩ := zBx h
        refine a_callVv X dX8_next__35 miX8_refuse lm8_263 (t_X8_refuse (by first | exact hP | assumption) f_35) (by first | exact p_o | assumption) rfl rfl rfl (Nat.le_of_ble_eq_true rfl) ⟨by decide, by decide, by decide, by decide⟩ ?_
        refine a_iret X hr dX8_next__38 ⟨by decide, by decide⟩ ?_
        subst hF
        rw [← Option.some.inj h]
        exact ⟨rfl, rfl⟩
    · replace h := (if_pos h_16).symm.trans h
      exact Zw.to2 (J_19 _ _ _ _ _ _ h) rfl rfl rfl
noncomputable def D_X8_placeNow_29 (P : Nat) (M : zMt) (y0_29 : Int32) : Option (Int32) :=
  some (y0_29)
noncomputable def D_X8_placeNow (P : Nat) (M : zMt) (v0 : Int32) : Option (Int32) :=
  zI v0 10 <|
  if (M (P + 19) v0.toNatClampNeg) = (-1 : Int32) then
    zB (D_X8_choiceMany P M v0) fun e_12 =>
    D_X8_placeNow_29 P M e_12
  else
    zI v0 10 <|
    zB (D_X8_placeOf P M v0 (M (P + 19) v0.toNatClampNeg)) fun e_26 =>
    D_X8_placeNow_29 P M e_26
set_option maxRecDepth 100000 in
set_option maxHeartbeats 4000000 in
theorem t_X8_placeNow {l : Launch} {G : zG} {b : Nat} {L : List zC} {M : zMt} {N : zNt} {P : Nat} {v0 : Int32} (hP : LX8 L P) {r : Int32} (h : D_X8_placeNow P M v0 = some r) : zM l G b yX8_placeNow cX8_placeNow 2 (some .int) 3 0 0 [.ref P, .int v0] (L, M, N) (fun r2 z => r2 = some (.int r) ∧ z = (L, M, N)) := by
  refine zM.of miX8_placeNow (Nat.le_of_ble_eq_true rfl) ?_
  intro p e s m args below meth c X hr hname
  generalize hF : ((fun r2 z => r2 = some (.int r) ∧ z = (L, M, N)) : Option Value → zS → Prop) = FQ
  change Zw p l e { frames := 3, cells := 0, slots := 0, locals := 80 * (3) } s m args below meth c G b 2 (MQ below (zQ G b FQ) args s 0 0 (fun q : Nat => b ≤ q)) 0 0 0 [some (.ref P), some (.int v0)] [] (L, M, N)
  have p_lt := hP.1
  have p_o := hP.2.1
  have p_given := hP.2.2.2.2.2.2.2.2.2.2.2.2.2.2.2.2.2.2.2.2.1
  have J_29 : ∀ (x1_29 : Int32) (y0_29 : Int32), D_X8_placeNow_29 P M y0_29 = some r → Zw p l e { frames := 3, cells := 0, slots := 0, locals := 80 * (3) } s m args below meth c G b 2 (MQ below (zQ G b FQ) args s 0 0 (fun q : Nat => b ≤ q)) 0 0 29 [some (.ref (P)), some (.int x1_29)] [.int y0_29] (L, M, N) := by
    intro x1_29 y0_29 h
    unfold D_X8_placeNow_29 at h
    refine a_iret X hr dX8_placeNow_29 ⟨by decide, by decide⟩ ?_
    subst hF
    rw [← Option.some.inj h]
    exact ⟨rfl, rfl⟩
  unfold D_X8_placeNow at h
  refine a_aload_n X dX8_placeNow_0 rfl ?_
  refine a_getr X lf8_73 (by first | exact p_o | assumption) rfl (by omega) dX8_placeNow_1 ?_
  refine a_iload_n X dX8_placeNow_4 rfl ?_
  obtain ⟨g_5, h⟩ := zIx h
  refine a_iaload X (by first | exact p_given | assumption) g_5 dX8_placeNow_5 ?_
  refine a_iconst (v := -1) X dX8_placeNow_6 (by decide) ?_
  refine a_icmp_ne (tgt := 18) X dX8_placeNow_7 (by decide) (fun h_7 => ?_) (fun h_7 => ?_)
  · replace h := (if_neg h_7).symm.trans h
    refine a_aload_n X dX8_placeNow_18 rfl ?_
    refine a_iload_n X dX8_placeNow_19 rfl ?_
    refine a_aload_n X dX8_placeNow_20 rfl ?_
    refine a_getr X lf8_73 (by first | exact p_o | assumption) rfl (by omega) dX8_placeNow_21 ?_
    refine a_iload_n X dX8_placeNow_24 rfl ?_
    obtain ⟨g_25, h⟩ := zIx h
    refine a_iaload X (by first | exact p_given | assumption) g_25 dX8_placeNow_25 ?_
    obtain ⟨e_26, f_26, h⟩ := zBx h
    refine a_callVv X dX8_placeNow_26 miX8_placeOf lm8_310 (t_X8_placeOf (by first | exact hP | assumption) f_26) (by first | exact p_o | assumption) rfl rfl rfl (Nat.le_of_ble_eq_true rfl) ⟨by decide, by decide, by decide, by decide⟩ ?_
    exact Zw.to2 (J_29 _ _ h) rfl rfl rfl
  · replace h := (if_pos h_7).symm.trans h
    refine a_aload_n X dX8_placeNow_10 rfl ?_
    refine a_iload_n X dX8_placeNow_11 rfl ?_
    obtain ⟨e_12, f_12, h⟩ := zBx h
    refine a_callVv X dX8_placeNow_12 miX8_choiceMany lm8_288 (t_X8_choiceMany (by first | exact hP | assumption) f_12) (by first | exact p_o | assumption) rfl rfl rfl (Nat.le_of_ble_eq_true rfl) ⟨by decide, by decide, by decide, by decide⟩ ?_
    refine a_goto (tgt := 29) X dX8_placeNow_15 (by decide) ?_
    exact Zw.to2 (J_29 _ _ h) rfl rfl rfl
noncomputable def D_X8_envies_117 (P : Nat) (k37 : Int32 → Int32 → Int32 → zMt → zNt → Option (Int32 × zMt × zNt)) (x2_117 : Int32) (x3_117 : Int32) (x4_117 : Int32) (M_117 : zMt) (N_117 : zNt) : Option (Int32 × zMt × zNt) :=
  k37 x2_117 x3_117 (x4_117 + 1) M_117 N_117
noncomputable def D_X8_envies_115 (P : Nat) (k37 : Int32 → Int32 → Int32 → zMt → zNt → Option (Int32 × zMt × zNt)) (x2_115 : Int32) (x4_115 : Int32) (y0_115 : Int32) (y1_115 : Int32) (M_115 : zMt) (N_115 : zNt) : Option (Int32 × zMt × zNt) :=
  D_X8_envies_117 P k37 x2_115 (y0_115 ||| y1_115) x4_115 M_115 N_115
noncomputable def D_X8_envies_114 (P : Nat) (k37 : Int32 → Int32 → Int32 → zMt → zNt → Option (Int32 × zMt × zNt)) (x2_114 : Int32) (x4_114 : Int32) (y0_114 : Int32) (M_114 : zMt) (N_114 : zNt) : Option (Int32 × zMt × zNt) :=
  D_X8_envies_115 P k37 x2_114 x4_114 y0_114 (0 : Int32) M_114 N_114
noncomputable def D_X8_envies_37 (P : Nat) : Nat → Int32 → Int32 → Int32 → zMt → zNt → Option (Int32 × zMt × zNt)
  | 0, _, _, _, _, _ => none
  | n + 1, x2_37, x3_37, x4_37, M_37, N_37 =>
    if (M_37 P 33) ≤ x4_37 then
      zB (D_X8_gives P x3_37 M_37) fun e_125 =>
      some (e_125.1, e_125.2, N_37)
    else
      zI x4_37 10 <|
      if (M_37 (P + 19) x4_37.toNatClampNeg) = (-1 : Int32) then
        D_X8_envies_117 P (D_X8_envies_37 P n) x2_37 x3_37 x4_37 M_37 N_37
      else
        zI x4_37 10 <|
        zI x2_37 10 <|
        if (M_37 (P + 16) x4_37.toNatClampNeg) < (M_37 (P + 16) x2_37.toNatClampNeg) then
          zI x4_37 10 <|
          zB (D_X8_placeOf P M_37 x2_37 (M_37 (P + 19) x4_37.toNatClampNeg)) fun e_85 =>
          if e_85 = (-1 : Int32) then
            D_X8_envies_114 P (D_X8_envies_37 P n) x2_37 x4_37 x3_37 M_37 N_37
          else
            zB (D_X8_placeNow P M_37 x2_37) fun e_101 =>
            if e_101 ≤ e_85 then
              D_X8_envies_114 P (D_X8_envies_37 P n) x2_37 x4_37 x3_37 M_37 N_37
            else
              D_X8_envies_115 P (D_X8_envies_37 P n) x2_37 x4_37 x3_37 ((1 : Int32) <<< (x4_37 &&& 31)) M_37 N_37
        else
          D_X8_envies_117 P (D_X8_envies_37 P n) x2_37 x3_37 x4_37 M_37 N_37
noncomputable def D_X8_envies (P : Nat) (v0 : Int32) (v1 : Int32) (M : zMt) (N : zNt) : Option (Int32 × zMt × zNt) :=
  zB (D_X8_isSeed v0) fun e_1 =>
  if e_1 = 0 then
    zB (D_X8_refuse P (1 : Int32) M) fun e_9 =>
    some (e_9.1, e_9.2, N)
  else
    zB (D_X8_isApplicant P v1 M) fun e_15 =>
    if e_15.1 = 0 then
      zB (D_X8_refuse P (2 : Int32) e_15.2) fun e_23 =>
      some (e_23.1, e_23.2, N)
    else
      zB (D_X8_laysResult P v0 e_15.2 N) fun e_29 =>
      D_X8_envies_37 P zFu v1 (0 : Int32) (0 : Int32) e_29.1 e_29.2
set_option maxRecDepth 100000 in
set_option maxHeartbeats 4000000 in
theorem t_X8_envies {l : Launch} {G : zG} {b : Nat} {L : List zC} {M : zMt} {N : zNt} {P : Nat} {v0 : Int32} {v1 : Int32} (hP : LX8 L P) {r : Int32 × zMt × zNt} (h : D_X8_envies P v0 v1 M N = some r) : zM l G b yX8_envies cX8_envies 6 (some .int) 5 0 0 [.ref P, .int v0, .int v1] (L, M, N) (fun r2 z => r2 = some (.int r.1) ∧ z = (L, r.2.1, r.2.2)) := by
  refine zM.of miX8_envies (Nat.le_of_ble_eq_true rfl) ?_
  intro p e s m args below meth c X hr hname
  generalize hF : ((fun r2 z => r2 = some (.int r.1) ∧ z = (L, r.2.1, r.2.2)) : Option Value → zS → Prop) = FQ
  change Zw p l e { frames := 5, cells := 0, slots := 0, locals := 80 * (5) } s m args below meth c G b 6 (MQ below (zQ G b FQ) args s 0 0 (fun q : Nat => b ≤ q)) 0 0 0 [some (.ref P), some (.int v0), some (.int v1), none, none, none] [] (L, M, N)
  have p_lt := hP.1
  have p_o := hP.2.1
  have p_pointsOf := hP.2.2.2.2.2.2.2.2.2.2.2.2.2.2.2.2.2.1
  have p_given := hP.2.2.2.2.2.2.2.2.2.2.2.2.2.2.2.2.2.2.2.2.1
  have L_37 : ∀ u : Nat, ∀ (x1_37 : Int32) (x2_37 : Int32) (x3_37 : Int32) (x4_37 : Int32) (x5_37 : Option Value) (M_37 : zMt) (N_37 : zNt), D_X8_envies_37 P u x2_37 x3_37 x4_37 M_37 N_37 = some r → Zw p l e { frames := 5, cells := 0, slots := 0, locals := 80 * (5) } s m args below meth c G b 6 (MQ below (zQ G b FQ) args s 0 0 (fun q : Nat => b ≤ q)) 0 0 37 [some (.ref (P)), some (.int x1_37), some (.int x2_37), some (.int x3_37), some (.int x4_37), x5_37] [] (L, M_37, N_37) := by
    intro u
    induction u with
    | zero => intro x1_37 x2_37 x3_37 x4_37 x5_37 M_37 N_37 h; cases (show none = some r from h)
    | succ u_37 ih_37 =>
      have J_117 : ∀ (x1_117 : Int32) (x2_117 : Int32) (x3_117 : Int32) (x4_117 : Int32) (x5_117 : Option Value) (M_117 : zMt) (N_117 : zNt), D_X8_envies_117 P (D_X8_envies_37 P u_37) x2_117 x3_117 x4_117 M_117 N_117 = some r → Zw p l e { frames := 5, cells := 0, slots := 0, locals := 80 * (5) } s m args below meth c G b 6 (MQ below (zQ G b FQ) args s 0 0 (fun q : Nat => b ≤ q)) 0 0 117 [some (.ref (P)), some (.int x1_117), some (.int x2_117), some (.int x3_117), some (.int x4_117), x5_117] [] (L, M_117, N_117) := by
        intro x1_117 x2_117 x3_117 x4_117 x5_117 M_117 N_117 h
        unfold D_X8_envies_117 at h
        refine a_iinc (v := x4_117 + 1) X dX8_envies_117 (by decide) rfl zi_1 ?_
        refine a_goto (tgt := 37) X dX8_envies_120 (by decide) ?_
        exact Zw.to2 (ih_37 _ _ _ _ _ _ _ h) rfl rfl rfl
      have J_115 : ∀ (x1_115 : Int32) (x2_115 : Int32) (x3_115 : Int32) (x4_115 : Int32) (x5_115 : Int32) (y0_115 : Int32) (y1_115 : Int32) (M_115 : zMt) (N_115 : zNt), D_X8_envies_115 P (D_X8_envies_37 P u_37) x2_115 x4_115 y0_115 y1_115 M_115 N_115 = some r → Zw p l e { frames := 5, cells := 0, slots := 0, locals := 80 * (5) } s m args below meth c G b 6 (MQ below (zQ G b FQ) args s 0 0 (fun q : Nat => b ≤ q)) 0 0 115 [some (.ref (P)), some (.int x1_115), some (.int x2_115), some (.int x3_115), some (.int x4_115), some (.int x5_115)] [.int y1_115, .int y0_115] (L, M_115, N_115) := by
        intro x1_115 x2_115 x3_115 x4_115 x5_115 y0_115 y1_115 M_115 N_115 h
        unfold D_X8_envies_115 at h
        refine a_ior X dX8_envies_115 ?_
        refine a_istore_n X dX8_envies_116 (by decide) ?_
        exact Zw.to2 (J_117 _ _ _ _ _ _ _ h) rfl rfl rfl
      have J_114 : ∀ (x1_114 : Int32) (x2_114 : Int32) (x3_114 : Int32) (x4_114 : Int32) (x5_114 : Int32) (y0_114 : Int32) (M_114 : zMt) (N_114 : zNt), D_X8_envies_114 P (D_X8_envies_37 P u_37) x2_114 x4_114 y0_114 M_114 N_114 = some r → Zw p l e { frames := 5, cells := 0, slots := 0, locals := 80 * (5) } s m args below meth c G b 6 (MQ below (zQ G b FQ) args s 0 0 (fun q : Nat => b ≤ q)) 0 0 114 [some (.ref (P)), some (.int x1_114), some (.int x2_114), some (.int x3_114), some (.int x4_114), some (.int x5_114)] [.int y0_114] (L, M_114, N_114) := by
        intro x1_114 x2_114 x3_114 x4_114 x5_114 y0_114 M_114 N_114 h
        unfold D_X8_envies_114 at h
        refine a_iconst (v := 0) X dX8_envies_114 (by decide) ?_
        exact Zw.to2 (J_115 _ _ _ _ _ _ _ _ _ h) rfl rfl rfl
      intro x1_37 x2_37 x3_37 x4_37 x5_37 M_37 N_37 h
      rw [D_X8_envies_37] at h
      refine a_iload X dX8_envies_37 rfl ?_
      refine a_aload_n X dX8_envies_39 rfl ?_
      refine a_geti X lf8_275 (by first | exact p_o | assumption) rfl dX8_envies_40 ?_
      refine a_icmp_ge (tgt := 123) X dX8_envies_43 (by decide) (fun h_43 => ?_) (fun h_43 => ?_)
      · replace h := (if_pos h_43).symm.trans h
        refine a_aload_n X dX8_envies_123 rfl ?_
        refine a_iload_n X dX8_envies_124 rfl ?_
        obtain ⟨e_125, f_125, h⟩ := zBx h
        refine a_callVv X dX8_envies_125 miX8_gives lm8_272 (t_X8_gives (by first | exact hP | assumption) f_125) (by first | exact p_o | assumption) rfl rfl rfl (Nat.le_of_ble_eq_true rfl) ⟨by decide, by decide, by decide, by decide⟩ ?_
        refine a_iret X hr dX8_envies_128 ⟨by decide, by decide⟩ ?_
        subst hF
        rw [← Option.some.inj h]
        exact ⟨rfl, rfl⟩
      · replace h := (if_neg h_43).symm.trans h
        refine a_aload_n X dX8_envies_46 rfl ?_
        refine a_getr X lf8_73 (by first | exact p_o | assumption) rfl (by omega) dX8_envies_47 ?_
        refine a_iload X dX8_envies_50 rfl ?_
        obtain ⟨g_52, h⟩ := zIx h
        refine a_iaload X (by first | exact p_given | assumption) g_52 dX8_envies_52 ?_
        refine a_iconst (v := -1) X dX8_envies_53 (by decide) ?_
        refine a_icmp_eq (tgt := 117) X dX8_envies_54 (by decide) (fun h_54 => ?_) (fun h_54 => ?_)
        · replace h := (if_pos h_54).symm.trans h
          exact Zw.to2 (J_117 _ _ _ _ _ _ _ h) rfl rfl rfl
        · replace h := (if_neg h_54).symm.trans h
          refine a_aload_n X dX8_envies_57 rfl ?_
          refine a_getr X lf8_64 (by first | exact p_o | assumption) rfl (by omega) dX8_envies_58 ?_
          refine a_iload X dX8_envies_61 rfl ?_
          obtain ⟨g_63, h⟩ := zIx h
          refine a_iaload X (by first | exact p_pointsOf | assumption) g_63 dX8_envies_63 ?_
          refine a_aload_n X dX8_envies_64 rfl ?_
          refine a_getr X lf8_64 (by first | exact p_o | assumption) rfl (by omega) dX8_envies_65 ?_
          refine a_iload_n X dX8_envies_68 rfl ?_
          obtain ⟨g_69, h⟩ := zIx h
          refine a_iaload X (by first | exact p_pointsOf | assumption) g_69 dX8_envies_69 ?_
          refine a_icmp_lt (tgt := 76) X dX8_envies_70 (by decide) (fun h_70 => ?_) (fun h_70 => ?_)
          · replace h := (if_pos h_70).symm.trans h
            refine a_aload_n X dX8_envies_76 rfl ?_
            refine a_iload_n X dX8_envies_77 rfl ?_
            refine a_aload_n X dX8_envies_78 rfl ?_
            refine a_getr X lf8_73 (by first | exact p_o | assumption) rfl (by omega) dX8_envies_79 ?_
            refine a_iload X dX8_envies_82 rfl ?_
            obtain ⟨g_84, h⟩ := zIx h
            refine a_iaload X (by first | exact p_given | assumption) g_84 dX8_envies_84 ?_
            obtain ⟨e_85, f_85, h⟩ := zBx h
            refine a_callVv X dX8_envies_85 miX8_placeOf lm8_310 (t_X8_placeOf (by first | exact hP | assumption) f_85) (by first | exact p_o | assumption) rfl rfl rfl (Nat.le_of_ble_eq_true rfl) ⟨by decide, by decide, by decide, by decide⟩ ?_
            refine a_istore X dX8_envies_88 (by decide) ?_
            refine a_iload_n X dX8_envies_90 rfl ?_
            refine a_iload X dX8_envies_91 rfl ?_
            refine a_iconst (v := -1) X dX8_envies_93 (by decide) ?_
            refine a_icmp_eq (tgt := 114) X dX8_envies_94 (by decide) (fun h_94 => ?_) (fun h_94 => ?_)
            · replace h := (if_pos h_94).symm.trans h
              exact Zw.to2 (J_114 _ _ _ _ _ _ _ _ h) rfl rfl rfl
            · replace h := (if_neg h_94).symm.trans h
              refine a_iload X dX8_envies_97 rfl ?_
              refine a_aload_n X dX8_envies_99 rfl ?_
              refine a_iload_n X dX8_envies_100 rfl ?_
              obtain ⟨e_101, f_101, h⟩ := zBx h
              refine a_callVv X dX8_envies_101 miX8_placeNow lm8_379 (t_X8_placeNow (by first | exact hP | assumption) f_101) (by first | exact p_o | assumption) rfl rfl rfl (Nat.le_of_ble_eq_true rfl) ⟨by decide, by decide, by decide, by decide⟩ ?_
              refine a_icmp_ge (tgt := 114) X dX8_envies_104 (by decide) (fun h_104 => ?_) (fun h_104 => ?_)
              · replace h := (if_pos h_104).symm.trans h
                exact Zw.to2 (J_114 _ _ _ _ _ _ _ _ h) rfl rfl rfl
              · replace h := (if_neg h_104).symm.trans h
                refine a_iconst (v := 1) X dX8_envies_107 (by decide) ?_
                refine a_iload X dX8_envies_108 rfl ?_
                refine a_ishl X dX8_envies_110 ?_
                refine a_goto (tgt := 115) X dX8_envies_111 (by decide) ?_
                exact Zw.to2 (J_115 _ _ _ _ _ _ _ _ _ h) rfl rfl rfl
          · replace h := (if_neg h_70).symm.trans h
            refine a_goto (tgt := 117) X dX8_envies_73 (by decide) ?_
            exact Zw.to2 (J_117 _ _ _ _ _ _ _ h) rfl rfl rfl
  have H_37 : ∀ (x1_37 : Int32) (x2_37 : Int32) (x3_37 : Int32) (x4_37 : Int32) (x5_37 : Option Value) (M_37 : zMt) (N_37 : zNt), D_X8_envies_37 P zFu x2_37 x3_37 x4_37 M_37 N_37 = some r → Zw p l e { frames := 5, cells := 0, slots := 0, locals := 80 * (5) } s m args below meth c G b 6 (MQ below (zQ G b FQ) args s 0 0 (fun q : Nat => b ≤ q)) 0 0 37 [some (.ref (P)), some (.int x1_37), some (.int x2_37), some (.int x3_37), some (.int x4_37), x5_37] [] (L, M_37, N_37) := L_37 zFu
  unfold D_X8_envies at h
  refine a_iload_n X dX8_envies_0 rfl ?_
  obtain ⟨e_1, f_1, h⟩ := zBx h
  refine a_callSx X dX8_envies_1 miX8_isSeed lm8_358 (t_X8_isSeed f_1) rfl rfl (Nat.le_of_ble_eq_true rfl) ⟨by decide, by decide, by decide, by decide⟩ (fun r_1 S_1 q_1 => ?_)
  obtain ⟨rfl, rfl, b_1⟩ := q_1
  refine a_if_ne (tgt := 13) X dX8_envies_4 (by decide) (fun h_4 => ?_) (fun h_4 => ?_)
  · replace h := (if_neg h_4).symm.trans h
    refine a_aload_n X dX8_envies_13 rfl ?_
    refine a_iload_n X dX8_envies_14 rfl ?_
    obtain ⟨e_15, f_15, h⟩ := zBx h
    refine a_callVx X dX8_envies_15 miX8_isApplicant lm8_315 (t_X8_isApplicant (by first | exact hP | assumption) f_15) (by first | exact p_o | assumption) rfl rfl rfl (Nat.le_of_ble_eq_true rfl) ⟨by decide, by decide, by decide, by decide⟩ (fun r_15 S_15 q_15 => ?_)
    obtain ⟨rfl, rfl, b_15⟩ := q_15
    refine a_if_ne (tgt := 27) X dX8_envies_18 (by decide) (fun h_18 => ?_) (fun h_18 => ?_)
    · replace h := (if_neg h_18).symm.trans h
      refine a_aload_n X dX8_envies_27 rfl ?_
      refine a_iload_n X dX8_envies_28 rfl ?_
      obtain ⟨e_29, f_29, h⟩ := zBx h
      refine a_callVu X dX8_envies_29 miX8_laysResult lm8_361 (t_X8_laysResult (by first | exact hP | assumption) f_29) (by first | exact p_o | assumption) rfl rfl rfl (Nat.le_of_ble_eq_true rfl) ⟨by decide, by decide, by decide, by decide⟩ ?_
      refine a_iconst (v := 0) X dX8_envies_32 (by decide) ?_
      refine a_istore_n X dX8_envies_33 (by decide) ?_
      refine a_iconst (v := 0) X dX8_envies_34 (by decide) ?_
      refine a_istore X dX8_envies_35 (by decide) ?_
      exact Zw.to2 (H_37 _ _ _ _ _ _ _ h) rfl rfl rfl
    · replace h := (if_pos h_18).symm.trans h
      refine a_aload_n X dX8_envies_21 rfl ?_
      refine a_iconst (v := 2) X dX8_envies_22 (by decide) ?_
      obtain ⟨e_23, f_23, h⟩ := zBx h
      refine a_callVv X dX8_envies_23 miX8_refuse lm8_263 (t_X8_refuse (by first | exact hP | assumption) f_23) (by first | exact p_o | assumption) rfl rfl rfl (Nat.le_of_ble_eq_true rfl) ⟨by decide, by decide, by decide, by decide⟩ ?_
      refine a_iret X hr dX8_envies_26 ⟨by decide, by decide⟩ ?_
      subst hF
      rw [← Option.some.inj h]
      exact ⟨rfl, rfl⟩
  · replace h := (if_pos h_4).symm.trans h
    refine a_aload_n X dX8_envies_7 rfl ?_
    refine a_iconst (v := 1) X dX8_envies_8 (by decide) ?_
    obtain ⟨e_9, f_9, h⟩ := zBx h
    refine a_callVv X dX8_envies_9 miX8_refuse lm8_263 (t_X8_refuse (by first | exact hP | assumption) f_9) (by first | exact p_o | assumption) rfl rfl rfl (Nat.le_of_ble_eq_true rfl) ⟨by decide, by decide, by decide, by decide⟩ ?_
    refine a_iret X hr dX8_envies_12 ⟨by decide, by decide⟩ ?_
    subst hF
    rw [← Option.some.inj h]
    exact ⟨rfl, rfl⟩
noncomputable def D_X8_spoils_109 (P : Nat) (k69 : Int32 → Int32 → Int32 → zMt → zNt → Option (Int32 × zMt × zNt)) (x2_109 : Int32) (x4_109 : Int32) (y0_109 : Int32) (y1_109 : Int32) (M_109 : zMt) (N_109 : zNt) : Option (Int32 × zMt × zNt) :=
  k69 x2_109 (y0_109 ||| y1_109) (x4_109 + 1) M_109 N_109
noncomputable def D_X8_spoils_108 (P : Nat) (k69 : Int32 → Int32 → Int32 → zMt → zNt → Option (Int32 × zMt × zNt)) (x2_108 : Int32) (x4_108 : Int32) (y0_108 : Int32) (M_108 : zMt) (N_108 : zNt) : Option (Int32 × zMt × zNt) :=
  D_X8_spoils_109 P k69 x2_108 x4_108 y0_108 (0 : Int32) M_108 N_108
noncomputable def D_X8_spoils_69 (P : Nat) : Nat → Int32 → Int32 → Int32 → zMt → zNt → Option (Int32 × zMt × zNt)
  | 0, _, _, _, _, _ => none
  | n + 1, x2_69, x3_69, x4_69, M_69, N_69 =>
    if (M_69 P 33) ≤ x4_69 then
      zB (D_X8_gives P x3_69 M_69) fun e_119 =>
      some (e_119.1, e_119.2, N_69)
    else
      if x4_69 = x2_69 then
        D_X8_spoils_108 P (D_X8_spoils_69 P n) x2_69 x4_69 x3_69 M_69 N_69
      else
        zB (D_X8_placeNow P M_69 x4_69) fun e_88 =>
        zI x4_69 10 <|
        if (M_69 (P + 23) x4_69.toNatClampNeg) ≤ e_88 then
          D_X8_spoils_108 P (D_X8_spoils_69 P n) x2_69 x4_69 x3_69 M_69 N_69
        else
          D_X8_spoils_109 P (D_X8_spoils_69 P n) x2_69 x4_69 x3_69 ((1 : Int32) <<< (x4_69 &&& 31)) M_69 N_69
noncomputable def D_X8_spoils_34 (P : Nat) : Nat → Int32 → Int32 → zMt → zNt → Option (Int32 × zMt × zNt)
  | 0, _, _, _, _ => none
  | n + 1, x2_34, x3_34, M_34, N_34 =>
    if (M_34 P 33) ≤ x3_34 then
      zB (D_X8_results P x2_34 M_34) fun e_61 =>
      D_X8_spoils_69 P zFu x2_34 (0 : Int32) (0 : Int32) e_61 N_34
    else
      zB (D_X8_placeNow P M_34 x3_34) fun e_49 =>
      zI x3_34 10 <|
      zLt (zu M_34 (P + 23) x3_34.toNatClampNeg e_49) fun M_52 =>
      (D_X8_spoils_34 P n) x2_34 (x3_34 + 1) M_52 N_34
noncomputable def D_X8_spoils (P : Nat) (v0 : Int32) (v1 : Int32) (M : zMt) (N : zNt) : Option (Int32 × zMt × zNt) :=
  zB (D_X8_isSeed v0) fun e_1 =>
  if e_1 = 0 then
    zB (D_X8_refuse P (1 : Int32) M) fun e_9 =>
    some (e_9.1, e_9.2, N)
  else
    zB (D_X8_isApplicant P v1 M) fun e_15 =>
    if e_15.1 = 0 then
      zB (D_X8_refuse P (2 : Int32) e_15.2) fun e_23 =>
      some (e_23.1, e_23.2, N)
    else
      zB (D_X8_laysResult P v0 e_15.2 N) fun e_29 =>
      D_X8_spoils_34 P zFu v1 (0 : Int32) e_29.1 e_29.2
set_option maxRecDepth 100000 in
set_option maxHeartbeats 4000000 in
theorem t_X8_spoils {l : Launch} {G : zG} {b : Nat} {L : List zC} {M : zMt} {N : zNt} {P : Nat} {v0 : Int32} {v1 : Int32} (hP : LX8 L P) {r : Int32 × zMt × zNt} (h : D_X8_spoils P v0 v1 M N = some r) : zM l G b yX8_spoils cX8_spoils 5 (some .int) 5 0 0 [.ref P, .int v0, .int v1] (L, M, N) (fun r2 z => r2 = some (.int r.1) ∧ z = (L, r.2.1, r.2.2)) := by
  refine zM.of miX8_spoils (Nat.le_of_ble_eq_true rfl) ?_
  intro p e s m args below meth c X hr hname
  generalize hF : ((fun r2 z => r2 = some (.int r.1) ∧ z = (L, r.2.1, r.2.2)) : Option Value → zS → Prop) = FQ
  change Zw p l e { frames := 5, cells := 0, slots := 0, locals := 80 * (5) } s m args below meth c G b 5 (MQ below (zQ G b FQ) args s 0 0 (fun q : Nat => b ≤ q)) 0 0 0 [some (.ref P), some (.int v0), some (.int v1), none, none] [] (L, M, N)
  have p_lt := hP.1
  have p_o := hP.2.1
  have p_places := hP.2.2.2.2.2.2.2.2.2.2.2.2.2.2.2.2.2.2.2.2.2.2.2.2.1
  have L_69 : ∀ u : Nat, ∀ (x1_69 : Int32) (x2_69 : Int32) (x3_69 : Int32) (x4_69 : Int32) (M_69 : zMt) (N_69 : zNt), D_X8_spoils_69 P u x2_69 x3_69 x4_69 M_69 N_69 = some r → Zw p l e { frames := 5, cells := 0, slots := 0, locals := 80 * (5) } s m args below meth c G b 5 (MQ below (zQ G b FQ) args s 0 0 (fun q : Nat => b ≤ q)) 0 0 69 [some (.ref (P)), some (.int x1_69), some (.int x2_69), some (.int x3_69), some (.int x4_69)] [] (L, M_69, N_69) := by
    intro u
    induction u with
    | zero => intro x1_69 x2_69 x3_69 x4_69 M_69 N_69 h; cases (show none = some r from h)
    | succ u_69 ih_69 =>
      have J_109 : ∀ (x1_109 : Int32) (x2_109 : Int32) (x3_109 : Int32) (x4_109 : Int32) (y0_109 : Int32) (y1_109 : Int32) (M_109 : zMt) (N_109 : zNt), D_X8_spoils_109 P (D_X8_spoils_69 P u_69) x2_109 x4_109 y0_109 y1_109 M_109 N_109 = some r → Zw p l e { frames := 5, cells := 0, slots := 0, locals := 80 * (5) } s m args below meth c G b 5 (MQ below (zQ G b FQ) args s 0 0 (fun q : Nat => b ≤ q)) 0 0 109 [some (.ref (P)), some (.int x1_109), some (.int x2_109), some (.int x3_109), some (.int x4_109)] [.int y1_109, .int y0_109] (L, M_109, N_109) := by
        intro x1_109 x2_109 x3_109 x4_109 y0_109 y1_109 M_109 N_109 h
        unfold D_X8_spoils_109 at h
        refine a_ior X dX8_spoils_109 ?_
        refine a_istore_n X dX8_spoils_110 (by decide) ?_
        refine a_iinc (v := x4_109 + 1) X dX8_spoils_111 (by decide) rfl zi_1 ?_
        refine a_goto (tgt := 69) X dX8_spoils_114 (by decide) ?_
        exact Zw.to2 (ih_69 _ _ _ _ _ _ h) rfl rfl rfl
      have J_108 : ∀ (x1_108 : Int32) (x2_108 : Int32) (x3_108 : Int32) (x4_108 : Int32) (y0_108 : Int32) (M_108 : zMt) (N_108 : zNt), D_X8_spoils_108 P (D_X8_spoils_69 P u_69) x2_108 x4_108 y0_108 M_108 N_108 = some r → Zw p l e { frames := 5, cells := 0, slots := 0, locals := 80 * (5) } s m args below meth c G b 5 (MQ below (zQ G b FQ) args s 0 0 (fun q : Nat => b ≤ q)) 0 0 108 [some (.ref (P)), some (.int x1_108), some (.int x2_108), some (.int x3_108), some (.int x4_108)] [.int y0_108] (L, M_108, N_108) := by
        intro x1_108 x2_108 x3_108 x4_108 y0_108 M_108 N_108 h
        unfold D_X8_spoils_108 at h
        refine a_iconst (v := 0) X dX8_spoils_108 (by decide) ?_
        exact Zw.to2 (J_109 _ _ _ _ _ _ _ _ h) rfl rfl rfl
      intro x1_69 x2_69 x3_69 x4_69 M_69 N_69 h
      rw [D_X8_spoils_69] at h
      refine a_iload X dX8_spoils_69 rfl ?_
      refine a_aload_n X dX8_spoils_71 rfl ?_
      refine a_geti X lf8_275 (by first | exact p_o | assumption) rfl dX8_spoils_72 ?_
      refine a_icmp_ge (tgt := 117) X dX8_spoils_75 (by decide) (fun h_75 => ?_) (fun h_75 => ?_)
      · replace h := (if_pos h_75).symm.trans h
        refine a_aload_n X dX8_spoils_117 rfl ?_
        refine a_iload_n X dX8_spoils_118 rfl ?_
        obtain ⟨e_119, f_119, h⟩ := zBx h
        refine a_callVv X dX8_spoils_119 miX8_gives lm8_272 (t_X8_gives (by first | exact hP | assumption) f_119) (by first | exact p_o | assumption) rfl rfl rfl (Nat.le_of_ble_eq_true rfl) ⟨by decide, by decide, by decide, by decide⟩ ?_
        refine a_iret X hr dX8_spoils_122 ⟨by decide, by decide⟩ ?_
        subst hF
        rw [← Option.some.inj h]
        exact ⟨rfl, rfl⟩
      · replace h := (if_neg h_75).symm.trans h
        refine a_iload_n X dX8_spoils_78 rfl ?_
        refine a_iload X dX8_spoils_79 rfl ?_
        refine a_iload_n X dX8_spoils_81 rfl ?_
        refine a_icmp_eq (tgt := 108) X dX8_spoils_82 (by decide) (fun h_82 => ?_) (fun h_82 => ?_)
        · replace h := (if_pos h_82).symm.trans h
          exact Zw.to2 (J_108 _ _ _ _ _ _ _ h) rfl rfl rfl
        · replace h := (if_neg h_82).symm.trans h
          refine a_aload_n X dX8_spoils_85 rfl ?_
          refine a_iload X dX8_spoils_86 rfl ?_
          obtain ⟨e_88, f_88, h⟩ := zBx h
          refine a_callVv X dX8_spoils_88 miX8_placeNow lm8_379 (t_X8_placeNow (by first | exact hP | assumption) f_88) (by first | exact p_o | assumption) rfl rfl rfl (Nat.le_of_ble_eq_true rfl) ⟨by decide, by decide, by decide, by decide⟩ ?_
          refine a_aload_n X dX8_spoils_91 rfl ?_
          refine a_getr X lf8_85 (by first | exact p_o | assumption) rfl (by omega) dX8_spoils_92 ?_
          refine a_iload X dX8_spoils_95 rfl ?_
          obtain ⟨g_97, h⟩ := zIx h
          refine a_iaload X (by first | exact p_places | assumption) g_97 dX8_spoils_97 ?_
          refine a_icmp_ge (tgt := 108) X dX8_spoils_98 (by decide) (fun h_98 => ?_) (fun h_98 => ?_)
          · replace h := (if_pos h_98).symm.trans h
            exact Zw.to2 (J_108 _ _ _ _ _ _ _ h) rfl rfl rfl
          · replace h := (if_neg h_98).symm.trans h
            refine a_iconst (v := 1) X dX8_spoils_101 (by decide) ?_
            refine a_iload X dX8_spoils_102 rfl ?_
            refine a_ishl X dX8_spoils_104 ?_
            refine a_goto (tgt := 109) X dX8_spoils_105 (by decide) ?_
            exact Zw.to2 (J_109 _ _ _ _ _ _ _ _ h) rfl rfl rfl
  have H_69 : ∀ (x1_69 : Int32) (x2_69 : Int32) (x3_69 : Int32) (x4_69 : Int32) (M_69 : zMt) (N_69 : zNt), D_X8_spoils_69 P zFu x2_69 x3_69 x4_69 M_69 N_69 = some r → Zw p l e { frames := 5, cells := 0, slots := 0, locals := 80 * (5) } s m args below meth c G b 5 (MQ below (zQ G b FQ) args s 0 0 (fun q : Nat => b ≤ q)) 0 0 69 [some (.ref (P)), some (.int x1_69), some (.int x2_69), some (.int x3_69), some (.int x4_69)] [] (L, M_69, N_69) := L_69 zFu
  have L_34 : ∀ u : Nat, ∀ (x1_34 : Int32) (x2_34 : Int32) (x3_34 : Int32) (x4_34 : Option Value) (M_34 : zMt) (N_34 : zNt), D_X8_spoils_34 P u x2_34 x3_34 M_34 N_34 = some r → Zw p l e { frames := 5, cells := 0, slots := 0, locals := 80 * (5) } s m args below meth c G b 5 (MQ below (zQ G b FQ) args s 0 0 (fun q : Nat => b ≤ q)) 0 0 34 [some (.ref (P)), some (.int x1_34), some (.int x2_34), some (.int x3_34), x4_34] [] (L, M_34, N_34) := by
    intro u
    induction u with
    | zero => intro x1_34 x2_34 x3_34 x4_34 M_34 N_34 h; cases (show none = some r from h)
    | succ u_34 ih_34 =>
      intro x1_34 x2_34 x3_34 x4_34 M_34 N_34 h
      rw [D_X8_spoils_34] at h
      refine a_iload_n X dX8_spoils_34 rfl ?_
      refine a_aload_n X dX8_spoils_35 rfl ?_
      refine a_geti X lf8_275 (by first | exact p_o | assumption) rfl dX8_spoils_36 ?_
      refine a_icmp_ge (tgt := 59) X dX8_spoils_39 (by decide) (fun h_39 => ?_) (fun h_39 => ?_)
      · replace h := (if_pos h_39).symm.trans h
        refine a_aload_n X dX8_spoils_59 rfl ?_
        refine a_iload_n X dX8_spoils_60 rfl ?_
        obtain ⟨e_61, f_61, h⟩ := zBx h
        refine a_callVu X dX8_spoils_61 miX8_results lm8_355 (t_X8_results (by first | exact hP | assumption) f_61) (by first | exact p_o | assumption) rfl rfl rfl (Nat.le_of_ble_eq_true rfl) ⟨by decide, by decide, by decide, by decide⟩ ?_
        refine a_iconst (v := 0) X dX8_spoils_64 (by decide) ?_
        refine a_istore_n X dX8_spoils_65 (by decide) ?_
        refine a_iconst (v := 0) X dX8_spoils_66 (by decide) ?_
        refine a_istore X dX8_spoils_67 (by decide) ?_
        exact Zw.to2 (H_69 _ _ _ _ _ _ h) rfl rfl rfl
      · replace h := (if_neg h_39).symm.trans h
        refine a_aload_n X dX8_spoils_42 rfl ?_
        refine a_getr X lf8_85 (by first | exact p_o | assumption) rfl (by omega) dX8_spoils_43 ?_
        refine a_iload_n X dX8_spoils_46 rfl ?_
        refine a_aload_n X dX8_spoils_47 rfl ?_
        refine a_iload_n X dX8_spoils_48 rfl ?_
        obtain ⟨e_49, f_49, h⟩ := zBx h
        refine a_callVv X dX8_spoils_49 miX8_placeNow lm8_379 (t_X8_placeNow (by first | exact hP | assumption) f_49) (by first | exact p_o | assumption) rfl rfl rfl (Nat.le_of_ble_eq_true rfl) ⟨by decide, by decide, by decide, by decide⟩ ?_
        obtain ⟨g_52, h⟩ := zIx h
        obtain ⟨M_52, f_52, h⟩ := zLtx h
        refine d_iastore X (by first | exact p_places | assumption) g_52 dX8_spoils_52 f_52 ?_
        refine a_iinc (v := x3_34 + 1) X dX8_spoils_53 (by decide) rfl zi_1 ?_
        refine a_goto (tgt := 34) X dX8_spoils_56 (by decide) ?_
        exact Zw.to2 (ih_34 _ _ _ _ _ _ h) rfl rfl rfl
  have H_34 : ∀ (x1_34 : Int32) (x2_34 : Int32) (x3_34 : Int32) (x4_34 : Option Value) (M_34 : zMt) (N_34 : zNt), D_X8_spoils_34 P zFu x2_34 x3_34 M_34 N_34 = some r → Zw p l e { frames := 5, cells := 0, slots := 0, locals := 80 * (5) } s m args below meth c G b 5 (MQ below (zQ G b FQ) args s 0 0 (fun q : Nat => b ≤ q)) 0 0 34 [some (.ref (P)), some (.int x1_34), some (.int x2_34), some (.int x3_34), x4_34] [] (L, M_34, N_34) := L_34 zFu
  unfold D_X8_spoils at h
  refine a_iload_n X dX8_spoils_0 rfl ?_
  obtain ⟨e_1, f_1, h⟩ := zBx h
  refine a_callSx X dX8_spoils_1 miX8_isSeed lm8_358 (t_X8_isSeed f_1) rfl rfl (Nat.le_of_ble_eq_true rfl) ⟨by decide, by decide, by decide, by decide⟩ (fun r_1 S_1 q_1 => ?_)
  obtain ⟨rfl, rfl, b_1⟩ := q_1
  refine a_if_ne (tgt := 13) X dX8_spoils_4 (by decide) (fun h_4 => ?_) (fun h_4 => ?_)
  · replace h := (if_neg h_4).symm.trans h
    refine a_aload_n X dX8_spoils_13 rfl ?_
    refine a_iload_n X dX8_spoils_14 rfl ?_
    obtain ⟨e_15, f_15, h⟩ := zBx h
    refine a_callVx X dX8_spoils_15 miX8_isApplicant lm8_315 (t_X8_isApplicant (by first | exact hP | assumption) f_15) (by first | exact p_o | assumption) rfl rfl rfl (Nat.le_of_ble_eq_true rfl) ⟨by decide, by decide, by decide, by decide⟩ (fun r_15 S_15 q_15 => ?_)
    obtain ⟨rfl, rfl, b_15⟩ := q_15
    refine a_if_ne (tgt := 27) X dX8_spoils_18 (by decide) (fun h_18 => ?_) (fun h_18 => ?_)
    · replace h := (if_neg h_18).symm.trans h
      refine a_aload_n X dX8_spoils_27 rfl ?_
      refine a_iload_n X dX8_spoils_28 rfl ?_
      obtain ⟨e_29, f_29, h⟩ := zBx h
      refine a_callVu X dX8_spoils_29 miX8_laysResult lm8_361 (t_X8_laysResult (by first | exact hP | assumption) f_29) (by first | exact p_o | assumption) rfl rfl rfl (Nat.le_of_ble_eq_true rfl) ⟨by decide, by decide, by decide, by decide⟩ ?_
      refine a_iconst (v := 0) X dX8_spoils_32 (by decide) ?_
      refine a_istore_n X dX8_spoils_33 (by decide) ?_
      exact Zw.to2 (H_34 _ _ _ _ _ _ h) rfl rfl rfl
    · replace h := (if_pos h_18).symm.trans h
      refine a_aload_n X dX8_spoils_21 rfl ?_
      refine a_iconst (v := 2) X dX8_spoils_22 (by decide) ?_
      obtain ⟨e_23, f_23, h⟩ := zBx h
      refine a_callVv X dX8_spoils_23 miX8_refuse lm8_263 (t_X8_refuse (by first | exact hP | assumption) f_23) (by first | exact p_o | assumption) rfl rfl rfl (Nat.le_of_ble_eq_true rfl) ⟨by decide, by decide, by decide, by decide⟩ ?_
      refine a_iret X hr dX8_spoils_26 ⟨by decide, by decide⟩ ?_
      subst hF
      rw [← Option.some.inj h]
      exact ⟨rfl, rfl⟩
  · replace h := (if_pos h_4).symm.trans h
    refine a_aload_n X dX8_spoils_7 rfl ?_
    refine a_iconst (v := 1) X dX8_spoils_8 (by decide) ?_
    obtain ⟨e_9, f_9, h⟩ := zBx h
    refine a_callVv X dX8_spoils_9 miX8_refuse lm8_263 (t_X8_refuse (by first | exact hP | assumption) f_9) (by first | exact p_o | assumption) rfl rfl rfl (Nat.le_of_ble_eq_true rfl) ⟨by decide, by decide, by decide, by decide⟩ ?_
    refine a_iret X hr dX8_spoils_12 ⟨by decide, by decide⟩ ?_
    subst hF
    rw [← Option.some.inj h]
    exact ⟨rfl, rfl⟩
noncomputable def D_X8_behindNow_93 (P : Nat) (M : zMt) (y0_93 : Int32) : Option (Int32) :=
  some (y0_93)
noncomputable def D_X8_behindNow_58 (P : Nat) (M : zMt) (y0_58 : Int32) : Option (Int32) :=
  some (y0_58)
noncomputable def D_X8_behindNow_2 (P : Nat) (M : zMt) : Nat → Int32 → Int32 → Option (Int32)
  | 0, _, _ => none
  | n + 1, x1_2, x2_2 =>
    zI x2_2 10 <|
    zB (D_X8_has (M (P + 11) x2_2.toNatClampNeg) x1_2) fun e_9 =>
    if e_9 = 0 then
      (D_X8_behindNow_2 P M n) x1_2 (x2_2 + 1)
    else
      zI x2_2 10 <|
      if (M (P + 19) x2_2.toNatClampNeg) = (-1 : Int32) then
        zB (D_X8_choiceMany P M x2_2) fun e_61 =>
        if e_61 = 0 then
          zI ((0 : Int32) + x1_2) 82 <|
          D_X8_behindNow_93 P M (M (P + 1) ((0 : Int32) + x1_2).toNatClampNeg)
        else
          zI ((0 : Int32) + x1_2) 82 <|
          D_X8_behindNow_93 P M (if ((M (P + 1) ((0 : Int32) + x1_2).toNatClampNeg) + (1 : Int32)) < (20 : Int32) then ((M (P + 1) ((0 : Int32) + x1_2).toNatClampNeg) + (1 : Int32)) else (20 : Int32))
      else
        zI x2_2 10 <|
        zB (D_X8_choiceOf P M x2_2 (0 : Int32)) fun e_40 =>
        if (M (P + 19) x2_2.toNatClampNeg) = e_40 then
          D_X8_behindNow_58 P M (0 : Int32)
        else
          zI ((0 : Int32) + x1_2) 82 <|
          D_X8_behindNow_58 P M (M (P + 1) ((0 : Int32) + x1_2).toNatClampNeg)
noncomputable def D_X8_behindNow (P : Nat) (M : zMt) (v0 : Int32) : Option (Int32) :=
  D_X8_behindNow_2 P M zFu v0 (0 : Int32)
set_option maxRecDepth 100000 in
set_option maxHeartbeats 4000000 in
theorem t_X8_behindNow {l : Launch} {G : zG} {b : Nat} {L : List zC} {M : zMt} {N : zNt} {P : Nat} {v0 : Int32} (hP : LX8 L P) {r : Int32} (h : D_X8_behindNow P M v0 = some r) : zM l G b yX8_behindNow cX8_behindNow 3 (some .int) 2 0 0 [.ref P, .int v0] (L, M, N) (fun r2 z => r2 = some (.int r) ∧ z = (L, M, N)) := by
  refine zM.of miX8_behindNow (Nat.le_of_ble_eq_true rfl) ?_
  intro p e s m args below meth c X hr hname
  generalize hF : ((fun r2 z => r2 = some (.int r) ∧ z = (L, M, N)) : Option Value → zS → Prop) = FQ
  change Zw p l e { frames := 2, cells := 0, slots := 0, locals := 80 * (2) } s m args below meth c G b 3 (MQ below (zQ G b FQ) args s 0 0 (fun q : Nat => b ≤ q)) 0 0 0 [some (.ref P), some (.int v0), none] [] (L, M, N)
  have p_lt := hP.1
  have p_o := hP.2.1
  have p_s := hP.2.2.1
  have p_bits := hP.2.2.2.2.2.2.2.2.2.2.2.2.1
  have p_given := hP.2.2.2.2.2.2.2.2.2.2.2.2.2.2.2.2.2.2.2.2.1
  have J_93 : ∀ (x1_93 : Int32) (x2_93 : Int32) (y0_93 : Int32), D_X8_behindNow_93 P M y0_93 = some r → Zw p l e { frames := 2, cells := 0, slots := 0, locals := 80 * (2) } s m args below meth c G b 3 (MQ below (zQ G b FQ) args s 0 0 (fun q : Nat => b ≤ q)) 0 0 93 [some (.ref (P)), some (.int x1_93), some (.int x2_93)] [.int y0_93] (L, M, N) := by
    intro x1_93 x2_93 y0_93 h
    unfold D_X8_behindNow_93 at h
    refine a_iret X hr dX8_behindNow_93 ⟨by decide, by decide⟩ ?_
    subst hF
    rw [← Option.some.inj h]
    exact ⟨rfl, rfl⟩
  have J_58 : ∀ (x1_58 : Int32) (x2_58 : Int32) (y0_58 : Int32), D_X8_behindNow_58 P M y0_58 = some r → Zw p l e { frames := 2, cells := 0, slots := 0, locals := 80 * (2) } s m args below meth c G b 3 (MQ below (zQ G b FQ) args s 0 0 (fun q : Nat => b ≤ q)) 0 0 58 [some (.ref (P)), some (.int x1_58), some (.int x2_58)] [.int y0_58] (L, M, N) := by
    intro x1_58 x2_58 y0_58 h
    unfold D_X8_behindNow_58 at h
    refine a_iret X hr dX8_behindNow_58 ⟨by decide, by decide⟩ ?_
    subst hF
    rw [← Option.some.inj h]
    exact ⟨rfl, rfl⟩
  have L_2 : ∀ u : Nat, ∀ (x1_2 : Int32) (x2_2 : Int32), D_X8_behindNow_2 P M u x1_2 x2_2 = some r → Zw p l e { frames := 2, cells := 0, slots := 0, locals := 80 * (2) } s m args below meth c G b 3 (MQ below (zQ G b FQ) args s 0 0 (fun q : Nat => b ≤ q)) 0 0 2 [some (.ref (P)), some (.int x1_2), some (.int x2_2)] [] (L, M, N) := by
    intro u
    induction u with
    | zero => intro x1_2 x2_2 h; cases (show none = some r from h)
    | succ u_2 ih_2 =>
      intro x1_2 x2_2 h
      rw [D_X8_behindNow_2] at h
      refine a_aload_n X dX8_behindNow_2 rfl ?_
      refine a_getr X lf8_49 (by first | exact p_o | assumption) rfl (by omega) dX8_behindNow_3 ?_
      refine a_iload_n X dX8_behindNow_6 rfl ?_
      obtain ⟨g_7, h⟩ := zIx h
      refine a_iaload X (by first | exact p_bits | assumption) g_7 dX8_behindNow_7 ?_
      refine a_iload_n X dX8_behindNow_8 rfl ?_
      obtain ⟨e_9, f_9, h⟩ := zBx h
      refine a_callSx X dX8_behindNow_9 miX8_has lm8_240 (t_X8_has f_9) rfl rfl (Nat.le_of_ble_eq_true rfl) ⟨by decide, by decide, by decide, by decide⟩ (fun r_9 S_9 q_9 => ?_)
      obtain ⟨rfl, rfl, b_9⟩ := q_9
      refine a_if_ne (tgt := 21) X dX8_behindNow_12 (by decide) (fun h_12 => ?_) (fun h_12 => ?_)
      · replace h := (if_neg h_12).symm.trans h
        refine a_aload_n X dX8_behindNow_21 rfl ?_
        refine a_getr X lf8_73 (by first | exact p_o | assumption) rfl (by omega) dX8_behindNow_22 ?_
        refine a_iload_n X dX8_behindNow_25 rfl ?_
        obtain ⟨g_26, h⟩ := zIx h
        refine a_iaload X (by first | exact p_given | assumption) g_26 dX8_behindNow_26 ?_
        refine a_iconst (v := -1) X dX8_behindNow_27 (by decide) ?_
        refine a_icmp_eq (tgt := 59) X dX8_behindNow_28 (by decide) (fun h_28 => ?_) (fun h_28 => ?_)
        · replace h := (if_pos h_28).symm.trans h
          refine a_aload_n X dX8_behindNow_59 rfl ?_
          refine a_iload_n X dX8_behindNow_60 rfl ?_
          obtain ⟨e_61, f_61, h⟩ := zBx h
          refine a_callVv X dX8_behindNow_61 miX8_choiceMany lm8_288 (t_X8_choiceMany (by first | exact hP | assumption) f_61) (by first | exact p_o | assumption) rfl rfl rfl (Nat.le_of_ble_eq_true rfl) ⟨by decide, by decide, by decide, by decide⟩ ?_
          refine a_if_ne (tgt := 78) X dX8_behindNow_64 (by decide) (fun h_64 => ?_) (fun h_64 => ?_)
          · replace h := (if_neg h_64).symm.trans h
            refine a_bipush (v := 20) X dX8_behindNow_78 (by decide) ?_
            refine a_aload_n X dX8_behindNow_80 rfl ?_
            refine a_getr X lf8_7 (by first | exact p_o | assumption) rfl (by omega) dX8_behindNow_81 ?_
            refine a_iconst (v := 0) X dX8_behindNow_84 (by decide) ?_
            refine a_iload_n X dX8_behindNow_85 rfl ?_
            refine a_iadd X dX8_behindNow_86 ?_
            obtain ⟨g_87, h⟩ := zIx h
            refine a_iaload X (by first | exact p_s | assumption) g_87 dX8_behindNow_87 ?_
            refine a_iconst (v := 1) X dX8_behindNow_88 (by decide) ?_
            refine a_iadd X dX8_behindNow_89 ?_
            refine a_mmin X lm8_366 zmath2 zmath0 zmathc2 ⟨by decide, Nat.le_of_ble_eq_true rfl, by decide, by decide⟩ dX8_behindNow_90 ?_
            exact Zw.to2 (J_93 _ _ _ h) rfl rfl rfl
          · replace h := (if_pos h_64).symm.trans h
            refine a_aload_n X dX8_behindNow_67 rfl ?_
            refine a_getr X lf8_7 (by first | exact p_o | assumption) rfl (by omega) dX8_behindNow_68 ?_
            refine a_iconst (v := 0) X dX8_behindNow_71 (by decide) ?_
            refine a_iload_n X dX8_behindNow_72 rfl ?_
            refine a_iadd X dX8_behindNow_73 ?_
            obtain ⟨g_74, h⟩ := zIx h
            refine a_iaload X (by first | exact p_s | assumption) g_74 dX8_behindNow_74 ?_
            refine a_goto (tgt := 93) X dX8_behindNow_75 (by decide) ?_
            exact Zw.to2 (J_93 _ _ _ h) rfl rfl rfl
        · replace h := (if_neg h_28).symm.trans h
          refine a_aload_n X dX8_behindNow_31 rfl ?_
          refine a_getr X lf8_73 (by first | exact p_o | assumption) rfl (by omega) dX8_behindNow_32 ?_
          refine a_iload_n X dX8_behindNow_35 rfl ?_
          obtain ⟨g_36, h⟩ := zIx h
          refine a_iaload X (by first | exact p_given | assumption) g_36 dX8_behindNow_36 ?_
          refine a_aload_n X dX8_behindNow_37 rfl ?_
          refine a_iload_n X dX8_behindNow_38 rfl ?_
          refine a_iconst (v := 0) X dX8_behindNow_39 (by decide) ?_
          obtain ⟨e_40, f_40, h⟩ := zBx h
          refine a_callVv X dX8_behindNow_40 miX8_choiceOf lm8_284 (t_X8_choiceOf (by first | exact hP | assumption) f_40) (by first | exact p_o | assumption) rfl rfl rfl (Nat.le_of_ble_eq_true rfl) ⟨by decide, by decide, by decide, by decide⟩ ?_
          refine a_icmp_ne (tgt := 50) X dX8_behindNow_43 (by decide) (fun h_43 => ?_) (fun h_43 => ?_)
          · replace h := (if_neg h_43).symm.trans h
            refine a_aload_n X dX8_behindNow_50 rfl ?_
            refine a_getr X lf8_7 (by first | exact p_o | assumption) rfl (by omega) dX8_behindNow_51 ?_
            refine a_iconst (v := 0) X dX8_behindNow_54 (by decide) ?_
            refine a_iload_n X dX8_behindNow_55 rfl ?_
            refine a_iadd X dX8_behindNow_56 ?_
            obtain ⟨g_57, h⟩ := zIx h
            refine a_iaload X (by first | exact p_s | assumption) g_57 dX8_behindNow_57 ?_
            exact Zw.to2 (J_58 _ _ _ h) rfl rfl rfl
          · replace h := (if_pos h_43).symm.trans h
            refine a_iconst (v := 0) X dX8_behindNow_46 (by decide) ?_
            refine a_goto (tgt := 58) X dX8_behindNow_47 (by decide) ?_
            exact Zw.to2 (J_58 _ _ _ h) rfl rfl rfl
      · replace h := (if_pos h_12).symm.trans h
        refine a_iinc (v := x2_2 + 1) X dX8_behindNow_15 (by decide) rfl zi_1 ?_
        refine a_goto (tgt := 2) X dX8_behindNow_18 (by decide) ?_
        exact Zw.to2 (ih_2 _ _ h) rfl rfl rfl
  have H_2 : ∀ (x1_2 : Int32) (x2_2 : Int32), D_X8_behindNow_2 P M zFu x1_2 x2_2 = some r → Zw p l e { frames := 2, cells := 0, slots := 0, locals := 80 * (2) } s m args below meth c G b 3 (MQ below (zQ G b FQ) args s 0 0 (fun q : Nat => b ≤ q)) 0 0 2 [some (.ref (P)), some (.int x1_2), some (.int x2_2)] [] (L, M, N) := L_2 zFu
  unfold D_X8_behindNow at h
  refine a_iconst (v := 0) X dX8_behindNow_0 (by decide) ?_
  refine a_istore_n X dX8_behindNow_1 (by decide) ?_
  exact Zw.to2 (H_2 _ _ h) rfl rfl rfl
noncomputable def D_X8_behind (P : Nat) (v0 : Int32) (v1 : Int32) (M : zMt) (N : zNt) : Option (Int32 × zMt × zNt) :=
  zB (D_X8_isSeed v0) fun e_1 =>
  if e_1 = 0 then
    zB (D_X8_refuse P (1 : Int32) M) fun e_9 =>
    some (e_9.1, e_9.2, N)
  else
    zB (D_X8_isHunter P M v1) fun e_15 =>
    if e_15 = 0 then
      zB (D_X8_refuse P (2 : Int32) M) fun e_23 =>
      some (e_23.1, e_23.2, N)
    else
      zB (D_X8_laysResult P v0 M N) fun e_29 =>
      zB (D_X8_behindNow P e_29.1 v1) fun e_35 =>
      zB (D_X8_gives P e_35 e_29.1) fun e_38 =>
      some (e_38.1, e_38.2, e_29.2)
set_option maxRecDepth 100000 in
set_option maxHeartbeats 4000000 in
theorem t_X8_behind {l : Launch} {G : zG} {b : Nat} {L : List zC} {M : zMt} {N : zNt} {P : Nat} {v0 : Int32} {v1 : Int32} (hP : LX8 L P) {r : Int32 × zMt × zNt} (h : D_X8_behind P v0 v1 M N = some r) : zM l G b yX8_behind cX8_behind 3 (some .int) 5 0 0 [.ref P, .int v0, .int v1] (L, M, N) (fun r2 z => r2 = some (.int r.1) ∧ z = (L, r.2.1, r.2.2)) := by
  refine zM.of miX8_behind (Nat.le_of_ble_eq_true rfl) ?_
  intro p e s m args below meth c X hr hname
  generalize hF : ((fun r2 z => r2 = some (.int r.1) ∧ z = (L, r.2.1, r.2.2)) : Option Value → zS → Prop) = FQ
  change Zw p l e { frames := 5, cells := 0, slots := 0, locals := 80 * (5) } s m args below meth c G b 3 (MQ below (zQ G b FQ) args s 0 0 (fun q : Nat => b ≤ q)) 0 0 0 [some (.ref P), some (.int v0), some (.int v1)] [] (L, M, N)
  have p_lt := hP.1
  have p_o := hP.2.1
  unfold D_X8_behind at h
  refine a_iload_n X dX8_behind_0 rfl ?_
  obtain ⟨e_1, f_1, h⟩ := zBx h
  refine a_callSx X dX8_behind_1 miX8_isSeed lm8_358 (t_X8_isSeed f_1) rfl rfl (Nat.le_of_ble_eq_true rfl) ⟨by decide, by decide, by decide, by decide⟩ (fun r_1 S_1 q_1 => ?_)
  obtain ⟨rfl, rfl, b_1⟩ := q_1
  refine a_if_ne (tgt := 13) X dX8_behind_4 (by decide) (fun h_4 => ?_) (fun h_4 => ?_)
  · replace h := (if_neg h_4).symm.trans h
    refine a_aload_n X dX8_behind_13 rfl ?_
    refine a_iload_n X dX8_behind_14 rfl ?_
    obtain ⟨e_15, f_15, h⟩ := zBx h
    refine a_callVx X dX8_behind_15 miX8_isHunter lm8_293 (t_X8_isHunter (by first | exact hP | assumption) f_15) (by first | exact p_o | assumption) rfl rfl rfl (Nat.le_of_ble_eq_true rfl) ⟨by decide, by decide, by decide, by decide⟩ (fun r_15 S_15 q_15 => ?_)
    obtain ⟨rfl, rfl, b_15⟩ := q_15
    refine a_if_ne (tgt := 27) X dX8_behind_18 (by decide) (fun h_18 => ?_) (fun h_18 => ?_)
    · replace h := (if_neg h_18).symm.trans h
      refine a_aload_n X dX8_behind_27 rfl ?_
      refine a_iload_n X dX8_behind_28 rfl ?_
      obtain ⟨e_29, f_29, h⟩ := zBx h
      refine a_callVu X dX8_behind_29 miX8_laysResult lm8_361 (t_X8_laysResult (by first | exact hP | assumption) f_29) (by first | exact p_o | assumption) rfl rfl rfl (Nat.le_of_ble_eq_true rfl) ⟨by decide, by decide, by decide, by decide⟩ ?_
      refine a_aload_n X dX8_behind_32 rfl ?_
      refine a_aload_n X dX8_behind_33 rfl ?_
      refine a_iload_n X dX8_behind_34 rfl ?_
      obtain ⟨e_35, f_35, h⟩ := zBx h
      refine a_callVv X dX8_behind_35 miX8_behindNow lm8_382 (t_X8_behindNow (by first | exact hP | assumption) f_35) (by first | exact p_o | assumption) rfl rfl rfl (Nat.le_of_ble_eq_true rfl) ⟨by decide, by decide, by decide, by decide⟩ ?_
      obtain ⟨e_38, f_38, h⟩ := zBx h
      refine a_callVv X dX8_behind_38 miX8_gives lm8_272 (t_X8_gives (by first | exact hP | assumption) f_38) (by first | exact p_o | assumption) rfl rfl rfl (Nat.le_of_ble_eq_true rfl) ⟨by decide, by decide, by decide, by decide⟩ ?_
      refine a_iret X hr dX8_behind_41 ⟨by decide, by decide⟩ ?_
      subst hF
      rw [← Option.some.inj h]
      exact ⟨rfl, rfl⟩
    · replace h := (if_pos h_18).symm.trans h
      refine a_aload_n X dX8_behind_21 rfl ?_
      refine a_iconst (v := 2) X dX8_behind_22 (by decide) ?_
      obtain ⟨e_23, f_23, h⟩ := zBx h
      refine a_callVv X dX8_behind_23 miX8_refuse lm8_263 (t_X8_refuse (by first | exact hP | assumption) f_23) (by first | exact p_o | assumption) rfl rfl rfl (Nat.le_of_ble_eq_true rfl) ⟨by decide, by decide, by decide, by decide⟩ ?_
      refine a_iret X hr dX8_behind_26 ⟨by decide, by decide⟩ ?_
      subst hF
      rw [← Option.some.inj h]
      exact ⟨rfl, rfl⟩
  · replace h := (if_pos h_4).symm.trans h
    refine a_aload_n X dX8_behind_7 rfl ?_
    refine a_iconst (v := 1) X dX8_behind_8 (by decide) ?_
    obtain ⟨e_9, f_9, h⟩ := zBx h
    refine a_callVv X dX8_behind_9 miX8_refuse lm8_263 (t_X8_refuse (by first | exact hP | assumption) f_9) (by first | exact p_o | assumption) rfl rfl rfl (Nat.le_of_ble_eq_true rfl) ⟨by decide, by decide, by decide, by decide⟩ ?_
    refine a_iret X hr dX8_behind_12 ⟨by decide, by decide⟩ ?_
    subst hF
    rw [← Option.some.inj h]
    exact ⟨rfl, rfl⟩
noncomputable def D_X8_hasFirst_30 (P : Nat) (M : zMt) (y0_30 : Int32) : Option (Int32) :=
  some (y0_30)
noncomputable def D_X8_hasFirst_29 (P : Nat) (M : zMt)  : Option (Int32) :=
  D_X8_hasFirst_30 P M (0 : Int32)
noncomputable def D_X8_hasFirst (P : Nat) (M : zMt) (v0 : Int32) : Option (Int32) :=
  zI v0 10 <|
  if (M (P + 19) v0.toNatClampNeg) = (-1 : Int32) then
    D_X8_hasFirst_29 P M
  else
    zI v0 10 <|
    zB (D_X8_choiceOf P M v0 (0 : Int32)) fun e_19 =>
    if (M (P + 19) v0.toNatClampNeg) = e_19 then
      D_X8_hasFirst_30 P M (1 : Int32)
    else
      D_X8_hasFirst_29 P M
set_option maxRecDepth 100000 in
set_option maxHeartbeats 4000000 in
theorem t_X8_hasFirst {l : Launch} {G : zG} {b : Nat} {L : List zC} {M : zMt} {N : zNt} {P : Nat} {v0 : Int32} (hP : LX8 L P) {r : Int32} (h : D_X8_hasFirst P M v0 = some r) : zM l G b yX8_hasFirst cX8_hasFirst 2 (some .boolean) 1 0 0 [.ref P, .int v0] (L, M, N) (fun r2 z => r2 = some (.int r) ∧ z = (L, M, N) ∧ (r = 0 ∨ r = 1)) := by
  refine zM.of miX8_hasFirst (Nat.le_of_ble_eq_true rfl) ?_
  intro p e s m args below meth c X hr hname
  generalize hF : ((fun r2 z => r2 = some (.int r) ∧ z = (L, M, N) ∧ (r = 0 ∨ r = 1)) : Option Value → zS → Prop) = FQ
  change Zw p l e { frames := 1, cells := 0, slots := 0, locals := 80 * (1) } s m args below meth c G b 2 (MQ below (zQ G b FQ) args s 0 0 (fun q : Nat => b ≤ q)) 0 0 0 [some (.ref P), some (.int v0)] [] (L, M, N)
  have p_lt := hP.1
  have p_o := hP.2.1
  have p_given := hP.2.2.2.2.2.2.2.2.2.2.2.2.2.2.2.2.2.2.2.2.1
  have J_30 : ∀ (x1_30 : Int32) (y0_30 : Int32), (y0_30 = 0 ∨ y0_30 = 1) → D_X8_hasFirst_30 P M y0_30 = some r → Zw p l e { frames := 1, cells := 0, slots := 0, locals := 80 * (1) } s m args below meth c G b 2 (MQ below (zQ G b FQ) args s 0 0 (fun q : Nat => b ≤ q)) 0 0 30 [some (.ref (P)), some (.int x1_30)] [.int y0_30] (L, M, N) := by
    intro x1_30 y0_30 fb_y0_30 h
    unfold D_X8_hasFirst_30 at h
    refine a_zret X (by first | exact Or.inl rfl | exact Or.inr rfl | assumption) hr dX8_hasFirst_30 ⟨by decide, by decide⟩ ?_
    subst hF
    rw [← Option.some.inj h]
    exact ⟨rfl, rfl, (by first | exact Or.inl rfl | exact Or.inr rfl | assumption)⟩
  have J_29 : ∀ (x1_29 : Int32), D_X8_hasFirst_29 P M = some r → Zw p l e { frames := 1, cells := 0, slots := 0, locals := 80 * (1) } s m args below meth c G b 2 (MQ below (zQ G b FQ) args s 0 0 (fun q : Nat => b ≤ q)) 0 0 29 [some (.ref (P)), some (.int x1_29)] [] (L, M, N) := by
    intro x1_29 h
    unfold D_X8_hasFirst_29 at h
    refine a_iconst (v := 0) X dX8_hasFirst_29 (by decide) ?_
    exact Zw.to2 (J_30 _ _ (by first | exact Or.inl rfl | exact Or.inr rfl | assumption) h) rfl rfl rfl
  unfold D_X8_hasFirst at h
  refine a_aload_n X dX8_hasFirst_0 rfl ?_
  refine a_getr X lf8_73 (by first | exact p_o | assumption) rfl (by omega) dX8_hasFirst_1 ?_
  refine a_iload_n X dX8_hasFirst_4 rfl ?_
  obtain ⟨g_5, h⟩ := zIx h
  refine a_iaload X (by first | exact p_given | assumption) g_5 dX8_hasFirst_5 ?_
  refine a_iconst (v := -1) X dX8_hasFirst_6 (by decide) ?_
  refine a_icmp_eq (tgt := 29) X dX8_hasFirst_7 (by decide) (fun h_7 => ?_) (fun h_7 => ?_)
  · replace h := (if_pos h_7).symm.trans h
    exact Zw.to2 (J_29 _ h) rfl rfl rfl
  · replace h := (if_neg h_7).symm.trans h
    refine a_aload_n X dX8_hasFirst_10 rfl ?_
    refine a_getr X lf8_73 (by first | exact p_o | assumption) rfl (by omega) dX8_hasFirst_11 ?_
    refine a_iload_n X dX8_hasFirst_14 rfl ?_
    obtain ⟨g_15, h⟩ := zIx h
    refine a_iaload X (by first | exact p_given | assumption) g_15 dX8_hasFirst_15 ?_
    refine a_aload_n X dX8_hasFirst_16 rfl ?_
    refine a_iload_n X dX8_hasFirst_17 rfl ?_
    refine a_iconst (v := 0) X dX8_hasFirst_18 (by decide) ?_
    obtain ⟨e_19, f_19, h⟩ := zBx h
    refine a_callVv X dX8_hasFirst_19 miX8_choiceOf lm8_284 (t_X8_choiceOf (by first | exact hP | assumption) f_19) (by first | exact p_o | assumption) rfl rfl rfl (Nat.le_of_ble_eq_true rfl) ⟨by decide, by decide, by decide, by decide⟩ ?_
    refine a_icmp_ne (tgt := 29) X dX8_hasFirst_22 (by decide) (fun h_22 => ?_) (fun h_22 => ?_)
    · replace h := (if_neg h_22).symm.trans h
      exact Zw.to2 (J_29 _ h) rfl rfl rfl
    · replace h := (if_pos h_22).symm.trans h
      refine a_iconst (v := 1) X dX8_hasFirst_25 (by decide) ?_
      refine a_goto (tgt := 30) X dX8_hasFirst_26 (by decide) ?_
      exact Zw.to2 (J_30 _ _ (by first | exact Or.inl rfl | exact Or.inr rfl | assumption) h) rfl rfl rfl
noncomputable def D_X8_lucky_34 (P : Nat) : Nat → Int32 → Int32 → Int32 → zMt → zNt → Option (Int32 × zMt × zNt)
  | 0, _, _, _, _, _ => none
  | n + 1, x1_34, x2_34, x3_34, M_34, N_34 =>
    if (x1_34 + (50 : Int32)) ≤ x3_34 then
      zB (D_X8_refuse P (5 : Int32) M_34) fun e_69 =>
      some (e_69.1, e_69.2, N_34)
    else
      zB (D_X8_laysResult P x3_34 M_34 N_34) fun e_44 =>
      zB (D_X8_hasFirst P e_44.1 x2_34) fun e_49 =>
      if e_49 = 0 then
        (D_X8_lucky_34 P n) x1_34 x2_34 (x3_34 + 1) e_44.1 e_44.2
      else
        zB (D_X8_gives P x3_34 e_44.1) fun e_57 =>
        some (e_57.1, e_57.2, e_44.2)
noncomputable def D_X8_lucky (P : Nat) (v0 : Int32) (v1 : Int32) (M : zMt) (N : zNt) : Option (Int32 × zMt × zNt) :=
  zB (D_X8_isFrom (Int32.toInt64 v0) (0 : Int64) (999999949 : Int64)) fun e_6 =>
  if e_6 = 0 then
    zB (D_X8_refuse P (1 : Int32) M) fun e_14 =>
    some (e_14.1, e_14.2, N)
  else
    zB (D_X8_isApplicant P v1 M) fun e_20 =>
    if e_20.1 = 0 then
      zB (D_X8_refuse P (2 : Int32) e_20.2) fun e_28 =>
      some (e_28.1, e_28.2, N)
    else
      D_X8_lucky_34 P zFu v0 v1 v0 e_20.2 N
set_option maxRecDepth 100000 in
set_option maxHeartbeats 4000000 in
theorem t_X8_lucky {l : Launch} {G : zG} {b : Nat} {L : List zC} {M : zMt} {N : zNt} {P : Nat} {v0 : Int32} {v1 : Int32} (hP : LX8 L P) {r : Int32 × zMt × zNt} (h : D_X8_lucky P v0 v1 M N = some r) : zM l G b yX8_lucky cX8_lucky 4 (some .int) 5 0 0 [.ref P, .int v0, .int v1] (L, M, N) (fun r2 z => r2 = some (.int r.1) ∧ z = (L, r.2.1, r.2.2)) := by
  refine zM.of miX8_lucky (Nat.le_of_ble_eq_true rfl) ?_
  intro p e s m args below meth c X hr hname
  generalize hF : ((fun r2 z => r2 = some (.int r.1) ∧ z = (L, r.2.1, r.2.2)) : Option Value → zS → Prop) = FQ
  change Zw p l e { frames := 5, cells := 0, slots := 0, locals := 80 * (5) } s m args below meth c G b 4 (MQ below (zQ G b FQ) args s 0 0 (fun q : Nat => b ≤ q)) 0 0 0 [some (.ref P), some (.int v0), some (.int v1), none] [] (L, M, N)
  have p_lt := hP.1
  have p_o := hP.2.1
  have L_34 : ∀ u : Nat, ∀ (x1_34 : Int32) (x2_34 : Int32) (x3_34 : Int32) (M_34 : zMt) (N_34 : zNt), D_X8_lucky_34 P u x1_34 x2_34 x3_34 M_34 N_34 = some r → Zw p l e { frames := 5, cells := 0, slots := 0, locals := 80 * (5) } s m args below meth c G b 4 (MQ below (zQ G b FQ) args s 0 0 (fun q : Nat => b ≤ q)) 0 0 34 [some (.ref (P)), some (.int x1_34), some (.int x2_34), some (.int x3_34)] [] (L, M_34, N_34) := by
    intro u
    induction u with
    | zero => intro x1_34 x2_34 x3_34 M_34 N_34 h; cases (show none = some r from h)
    | succ u_34 ih_34 =>
      intro x1_34 x2_34 x3_34 M_34 N_34 h
      rw [D_X8_lucky_34] at h
      refine a_iload_n X dX8_lucky_34 rfl ?_
      refine a_iload_n X dX8_lucky_35 rfl ?_
      refine a_bipush (v := 50) X dX8_lucky_36 (by decide) ?_
      refine a_iadd X dX8_lucky_38 ?_
      refine a_icmp_ge (tgt := 67) X dX8_lucky_39 (by decide) (fun h_39 => ?_) (fun h_39 => ?_)
      · replace h := (if_pos h_39).symm.trans h
        refine a_aload_n X dX8_lucky_67 rfl ?_
        refine a_iconst (v := 5) X dX8_lucky_68 (by decide) ?_
        obtain ⟨e_69, f_69, h⟩ := zBx h
        refine a_callVv X dX8_lucky_69 miX8_refuse lm8_263 (t_X8_refuse (by first | exact hP | assumption) f_69) (by first | exact p_o | assumption) rfl rfl rfl (Nat.le_of_ble_eq_true rfl) ⟨by decide, by decide, by decide, by decide⟩ ?_
        refine a_iret X hr dX8_lucky_72 ⟨by decide, by decide⟩ ?_
        subst hF
        rw [← Option.some.inj h]
        exact ⟨rfl, rfl⟩
      · replace h := (if_neg h_39).symm.trans h
        refine a_aload_n X dX8_lucky_42 rfl ?_
        refine a_iload_n X dX8_lucky_43 rfl ?_
        obtain ⟨e_44, f_44, h⟩ := zBx h
        refine a_callVu X dX8_lucky_44 miX8_laysResult lm8_361 (t_X8_laysResult (by first | exact hP | assumption) f_44) (by first | exact p_o | assumption) rfl rfl rfl (Nat.le_of_ble_eq_true rfl) ⟨by decide, by decide, by decide, by decide⟩ ?_
        refine a_aload_n X dX8_lucky_47 rfl ?_
        refine a_iload_n X dX8_lucky_48 rfl ?_
        obtain ⟨e_49, f_49, h⟩ := zBx h
        refine a_callVx X dX8_lucky_49 miX8_hasFirst lm8_387 (t_X8_hasFirst (by first | exact hP | assumption) f_49) (by first | exact p_o | assumption) rfl rfl rfl (Nat.le_of_ble_eq_true rfl) ⟨by decide, by decide, by decide, by decide⟩ (fun r_49 S_49 q_49 => ?_)
        obtain ⟨rfl, rfl, b_49⟩ := q_49
        refine a_if_eq (tgt := 61) X dX8_lucky_52 (by decide) (fun h_52 => ?_) (fun h_52 => ?_)
        · replace h := (if_pos h_52).symm.trans h
          refine a_iinc (v := x3_34 + 1) X dX8_lucky_61 (by decide) rfl zi_1 ?_
          refine a_goto (tgt := 34) X dX8_lucky_64 (by decide) ?_
          exact Zw.to2 (ih_34 _ _ _ _ _ h) rfl rfl rfl
        · replace h := (if_neg h_52).symm.trans h
          refine a_aload_n X dX8_lucky_55 rfl ?_
          refine a_iload_n X dX8_lucky_56 rfl ?_
          obtain ⟨e_57, f_57, h⟩ := zBx h
          refine a_callVv X dX8_lucky_57 miX8_gives lm8_272 (t_X8_gives (by first | exact hP | assumption) f_57) (by first | exact p_o | assumption) rfl rfl rfl (Nat.le_of_ble_eq_true rfl) ⟨by decide, by decide, by decide, by decide⟩ ?_
          refine a_iret X hr dX8_lucky_60 ⟨by decide, by decide⟩ ?_
          subst hF
          rw [← Option.some.inj h]
          exact ⟨rfl, rfl⟩
  have H_34 : ∀ (x1_34 : Int32) (x2_34 : Int32) (x3_34 : Int32) (M_34 : zMt) (N_34 : zNt), D_X8_lucky_34 P zFu x1_34 x2_34 x3_34 M_34 N_34 = some r → Zw p l e { frames := 5, cells := 0, slots := 0, locals := 80 * (5) } s m args below meth c G b 4 (MQ below (zQ G b FQ) args s 0 0 (fun q : Nat => b ≤ q)) 0 0 34 [some (.ref (P)), some (.int x1_34), some (.int x2_34), some (.int x3_34)] [] (L, M_34, N_34) := L_34 zFu
  unfold D_X8_lucky at h
  refine a_iload_n X dX8_lucky_0 rfl ?_
  refine a_i2l X dX8_lucky_1 ?_
  refine a_lconst (v := 0) X dX8_lucky_2 (by decide) ?_
  refine a_ldc2 X dX8_lucky_3 lk8_385 ?_
  obtain ⟨e_6, f_6, h⟩ := zBx h
  refine a_callSx X dX8_lucky_6 miX8_isFrom lm8_128 (t_X8_isFrom f_6) rfl rfl (Nat.le_of_ble_eq_true rfl) ⟨by decide, by decide, by decide, by decide⟩ (fun r_6 S_6 q_6 => ?_)
  obtain ⟨rfl, rfl, b_6⟩ := q_6
  refine a_if_ne (tgt := 18) X dX8_lucky_9 (by decide) (fun h_9 => ?_) (fun h_9 => ?_)
  · replace h := (if_neg h_9).symm.trans h
    refine a_aload_n X dX8_lucky_18 rfl ?_
    refine a_iload_n X dX8_lucky_19 rfl ?_
    obtain ⟨e_20, f_20, h⟩ := zBx h
    refine a_callVx X dX8_lucky_20 miX8_isApplicant lm8_315 (t_X8_isApplicant (by first | exact hP | assumption) f_20) (by first | exact p_o | assumption) rfl rfl rfl (Nat.le_of_ble_eq_true rfl) ⟨by decide, by decide, by decide, by decide⟩ (fun r_20 S_20 q_20 => ?_)
    obtain ⟨rfl, rfl, b_20⟩ := q_20
    refine a_if_ne (tgt := 32) X dX8_lucky_23 (by decide) (fun h_23 => ?_) (fun h_23 => ?_)
    · replace h := (if_neg h_23).symm.trans h
      refine a_iload_n X dX8_lucky_32 rfl ?_
      refine a_istore_n X dX8_lucky_33 (by decide) ?_
      exact Zw.to2 (H_34 _ _ _ _ _ h) rfl rfl rfl
    · replace h := (if_pos h_23).symm.trans h
      refine a_aload_n X dX8_lucky_26 rfl ?_
      refine a_iconst (v := 2) X dX8_lucky_27 (by decide) ?_
      obtain ⟨e_28, f_28, h⟩ := zBx h
      refine a_callVv X dX8_lucky_28 miX8_refuse lm8_263 (t_X8_refuse (by first | exact hP | assumption) f_28) (by first | exact p_o | assumption) rfl rfl rfl (Nat.le_of_ble_eq_true rfl) ⟨by decide, by decide, by decide, by decide⟩ ?_
      refine a_iret X hr dX8_lucky_31 ⟨by decide, by decide⟩ ?_
      subst hF
      rw [← Option.some.inj h]
      exact ⟨rfl, rfl⟩
  · replace h := (if_pos h_9).symm.trans h
    refine a_aload_n X dX8_lucky_12 rfl ?_
    refine a_iconst (v := 1) X dX8_lucky_13 (by decide) ?_
    obtain ⟨e_14, f_14, h⟩ := zBx h
    refine a_callVv X dX8_lucky_14 miX8_refuse lm8_263 (t_X8_refuse (by first | exact hP | assumption) f_14) (by first | exact p_o | assumption) rfl rfl rfl (Nat.le_of_ble_eq_true rfl) ⟨by decide, by decide, by decide, by decide⟩ ?_
    refine a_iret X hr dX8_lucky_17 ⟨by decide, by decide⟩ ?_
    subst hF
    rw [← Option.some.inj h]
    exact ⟨rfl, rfl⟩
noncomputable def D_X8_adds_208 (P : Nat) (x3_208 : Int32) (y1_208 : Int64) (y2_208 : Int64) (M_208 : zMt) (N_208 : zNt) : Option (zMt × zNt) :=
  zLt (zu N_208 P 59 (y1_208 + y2_208)) fun N_209 =>
  zLt (zu M_208 P 54 ((M_208 P 54) &&& x3_208)) fun M_219 =>
  zLt (zu M_219 P 55 ((M_219 P 55) ||| x3_208)) fun M_229 =>
  zI x3_208 128 <|
  zLt (zu M_229 (P + 29) x3_208.toNatClampNeg (1 : Int32)) fun M_238 =>
  zB (D_X8_givenTags P M_238) fun e_245 =>
  zLt (zu M_238 P 56 (if e_245 < (M_238 P 56) then e_245 else (M_238 P 56))) fun M_251 =>
  zB (D_X8_givenTags P M_251) fun e_260 =>
  zLt (zu M_251 P 57 (if (M_251 P 57) < e_260 then e_260 else (M_251 P 57))) fun M_266 =>
  some (M_266, N_209)
noncomputable def D_X8_adds_181 (P : Nat) (k5 : Int64 → Int32 → Int32 → zMt → zNt → Option (zMt × zNt)) (x1_181 : Int64) (x3_181 : Int32) (x4_181 : Int32) (M_181 : zMt) (N_181 : zNt) : Option (zMt × zNt) :=
  k5 x1_181 x3_181 (x4_181 + 1) M_181 N_181
noncomputable def D_X8_adds_173 (P : Nat) (k5 : Int64 → Int32 → Int32 → zMt → zNt → Option (zMt × zNt)) (k134 : Int64 → Int32 → Int32 → Int32 → zMt → zNt → Option (zMt × zNt)) (x1_173 : Int64) (x3_173 : Int32) (x4_173 : Int32) (x5_173 : Int32) (y1_173 : Int32) (y2_173 : Int64) (y3_173 : Int64) (M_173 : zMt) (N_173 : zNt) : Option (zMt × zNt) :=
  zI y1_173 49 <|
  zLt (zu N_173 (P + 27) y1_173.toNatClampNeg (y2_173 + y3_173)) fun N_174 =>
  k134 x1_173 x3_173 x4_173 (x5_173 + 1) M_173 N_174
noncomputable def D_X8_adds_134 (P : Nat) (k5 : Int64 → Int32 → Int32 → zMt → zNt → Option (zMt × zNt)) : Nat → Int64 → Int32 → Int32 → Int32 → zMt → zNt → Option (zMt × zNt)
  | 0, _, _, _, _, _, _ => none
  | n + 1, x1_134, x3_134, x4_134, x5_134, M_134, N_134 =>
    if (M_134 P 33) ≤ x5_134 then
      D_X8_adds_181 P k5 x1_134 x3_134 x4_134 M_134 N_134
    else
      zI (((7 : Int32) * x4_134) + x5_134) 49 <|
      zI x5_134 10 <|
      if (M_134 (P + 19) x5_134.toNatClampNeg) = (-1 : Int32) then
        D_X8_adds_173 P k5 (D_X8_adds_134 P k5 n) x1_134 x3_134 x4_134 x5_134 (((7 : Int32) * x4_134) + x5_134) (N_134 (P + 27) (((7 : Int32) * x4_134) + x5_134).toNatClampNeg) (0 : Int64) M_134 N_134
      else
        D_X8_adds_173 P k5 (D_X8_adds_134 P k5 n) x1_134 x3_134 x4_134 x5_134 (((7 : Int32) * x4_134) + x5_134) (N_134 (P + 27) (((7 : Int32) * x4_134) + x5_134).toNatClampNeg) x1_134 M_134 N_134
noncomputable def D_X8_adds_104 (P : Nat) (k5 : Int64 → Int32 → Int32 → zMt → zNt → Option (zMt × zNt)) (x1_104 : Int64) (x3_104 : Int32) (x4_104 : Int32) (y1_104 : Int32) (y2_104 : Int64) (y3_104 : Int64) (M_104 : zMt) (N_104 : zNt) : Option (zMt × zNt) :=
  zI y1_104 7 <|
  zLt (zu N_104 (P + 26) y1_104.toNatClampNeg (y2_104 + y3_104)) fun N_105 =>
  zI x4_104 10 <|
  zI (M_104 (P + 19) x4_104.toNatClampNeg) 5 <|
  zI x4_104 10 <|
  zI (M_104 (P + 19) x4_104.toNatClampNeg) 5 <|
  zLt (zu N_105 (P + 28) (M_104 (P + 19) x4_104.toNatClampNeg).toNatClampNeg ((N_105 (P + 28) (M_104 (P + 19) x4_104.toNatClampNeg).toNatClampNeg) + (x1_104 * (Int32.toInt64 (M_104 (P + 14) x4_104.toNatClampNeg))))) fun N_130 =>
  D_X8_adds_134 P k5 zFu x1_104 x3_104 x4_104 (0 : Int32) M_104 N_130
noncomputable def D_X8_adds_78 (P : Nat) (k5 : Int64 → Int32 → Int32 → zMt → zNt → Option (zMt × zNt)) (x1_78 : Int64) (x3_78 : Int32) (x4_78 : Int32) (y1_78 : Int32) (y2_78 : Int64) (y3_78 : Int64) (M_78 : zMt) (N_78 : zNt) : Option (zMt × zNt) :=
  zI y1_78 7 <|
  zLt (zu N_78 (P + 25) y1_78.toNatClampNeg (y2_78 + y3_78)) fun N_79 =>
  zI x4_78 7 <|
  zI x4_78 10 <|
  if (M_78 (P + 20) x4_78.toNatClampNeg) = (1 : Int32) then
    D_X8_adds_104 P k5 x1_78 x3_78 x4_78 x4_78 (N_79 (P + 26) x4_78.toNatClampNeg) x1_78 M_78 N_79
  else
    D_X8_adds_104 P k5 x1_78 x3_78 x4_78 x4_78 (N_79 (P + 26) x4_78.toNatClampNeg) (0 : Int64) M_78 N_79
noncomputable def D_X8_adds_5 (P : Nat) : Nat → Int64 → Int32 → Int32 → zMt → zNt → Option (zMt × zNt)
  | 0, _, _, _, _, _ => none
  | n + 1, x1_5, x3_5, x4_5, M_5, N_5 =>
    if (M_5 P 33) ≤ x4_5 then
      if ((M_5 P 58) &&& (x3_5 ^^^ (-1 : Int32))) = 0 then
        D_X8_adds_208 P x3_5 (N_5 P 59) x1_5 M_5 N_5
      else
        D_X8_adds_208 P x3_5 (N_5 P 59) (0 : Int64) M_5 N_5
    else
      zI x4_5 10 <|
      if (M_5 (P + 19) x4_5.toNatClampNeg) = (-1 : Int32) then
        D_X8_adds_181 P (D_X8_adds_5 P n) x1_5 x3_5 x4_5 M_5 N_5
      else
        zI x4_5 10 <|
        zI (((5 : Int32) * x4_5) + (M_5 (P + 19) x4_5.toNatClampNeg)) 35 <|
        zI (((5 : Int32) * x4_5) + (M_5 (P + 19) x4_5.toNatClampNeg)) 35 <|
        zLt (zu N_5 (P + 24) (((5 : Int32) * x4_5) + (M_5 (P + 19) x4_5.toNatClampNeg)).toNatClampNeg ((N_5 (P + 24) (((5 : Int32) * x4_5) + (M_5 (P + 19) x4_5.toNatClampNeg)).toNatClampNeg) + x1_5)) fun N_55 =>
        zI x4_5 7 <|
        zB (D_X8_hasFirst P M_5 x4_5) fun e_67 =>
        if e_67 = 0 then
          D_X8_adds_78 P (D_X8_adds_5 P n) x1_5 (x3_5 ||| ((1 : Int32) <<< (x4_5 &&& 31))) x4_5 x4_5 (N_55 (P + 25) x4_5.toNatClampNeg) (0 : Int64) M_5 N_55
        else
          D_X8_adds_78 P (D_X8_adds_5 P n) x1_5 (x3_5 ||| ((1 : Int32) <<< (x4_5 &&& 31))) x4_5 x4_5 (N_55 (P + 25) x4_5.toNatClampNeg) x1_5 M_5 N_55
noncomputable def D_X8_adds (P : Nat) (v0 : Int64) (M : zMt) (N : zNt) : Option (zMt × zNt) :=
  D_X8_adds_5 P zFu v0 (0 : Int32) (0 : Int32) M N
set_option maxRecDepth 100000 in
set_option maxHeartbeats 4000000 in
theorem t_X8_adds {l : Launch} {G : zG} {b : Nat} {L : List zC} {M : zMt} {N : zNt} {P : Nat} {v0 : Int64} (hP : LX8 L P) {r : zMt × zNt} (h : D_X8_adds P v0 M N = some r) : zM l G b yX8_adds cX8_adds 6 none 2 0 0 [.ref P, .long v0] (L, M, N) (fun r2 z => r2 = none ∧ z = (L, r.1, r.2)) := by
  refine zM.of miX8_adds (Nat.le_of_ble_eq_true rfl) ?_
  intro p e s m args below meth c X hr hname
  generalize hF : ((fun r2 z => r2 = none ∧ z = (L, r.1, r.2)) : Option Value → zS → Prop) = FQ
  change Zw p l e { frames := 2, cells := 0, slots := 0, locals := 80 * (2) } s m args below meth c G b 6 (MQ below (zQ G b FQ) args s 0 0 (fun q : Nat => b ≤ q)) 0 0 0 [some (.ref P), some (.long v0), none, none, none, none] [] (L, M, N)
  have p_lt := hP.1
  have p_o := hP.2.1
  have p_sizes := hP.2.2.2.2.2.2.2.2.2.2.2.2.2.2.2.1
  have p_given := hP.2.2.2.2.2.2.2.2.2.2.2.2.2.2.2.2.2.2.2.2.1
  have p_roundOf := hP.2.2.2.2.2.2.2.2.2.2.2.2.2.2.2.2.2.2.2.2.2.1
  have p_sumAt := hP.2.2.2.2.2.2.2.2.2.2.2.2.2.2.2.2.2.2.2.2.2.2.2.2.2.1
  have p_sumFirst := hP.2.2.2.2.2.2.2.2.2.2.2.2.2.2.2.2.2.2.2.2.2.2.2.2.2.2.1
  have p_sumRound := hP.2.2.2.2.2.2.2.2.2.2.2.2.2.2.2.2.2.2.2.2.2.2.2.2.2.2.2.1
  have p_sumBoth := hP.2.2.2.2.2.2.2.2.2.2.2.2.2.2.2.2.2.2.2.2.2.2.2.2.2.2.2.2.1
  have p_sumTags := hP.2.2.2.2.2.2.2.2.2.2.2.2.2.2.2.2.2.2.2.2.2.2.2.2.2.2.2.2.2.1
  have p_isEnd := hP.2.2.2.2.2.2.2.2.2.2.2.2.2.2.2.2.2.2.2.2.2.2.2.2.2.2.2.2.2.2.1
  have J_208 : ∀ (x1_208 : Int64) (x3_208 : Int32) (x4_208 : Int32) (x5_208 : Option Value) (y1_208 : Int64) (y2_208 : Int64) (M_208 : zMt) (N_208 : zNt), D_X8_adds_208 P x3_208 y1_208 y2_208 M_208 N_208 = some r → Zw p l e { frames := 2, cells := 0, slots := 0, locals := 80 * (2) } s m args below meth c G b 6 (MQ below (zQ G b FQ) args s 0 0 (fun q : Nat => b ≤ q)) 0 0 208 [some (.ref (P)), some (.long x1_208), none, some (.int x3_208), some (.int x4_208), x5_208] [.long y2_208, .long y1_208, .ref (P)] (L, M_208, N_208) := by
    intro x1_208 x3_208 x4_208 x5_208 y1_208 y2_208 M_208 N_208 h
    unfold D_X8_adds_208 at h
    refine a_ladd X dX8_adds_208 ?_
    obtain ⟨N_209, f_209, h⟩ := zLtx h
    refine d_putl X lf8_393 (by first | exact p_o | assumption) rfl dX8_adds_209 f_209 ?_
    refine a_aload_n X dX8_adds_212 rfl ?_
    refine a_dup X dX8_adds_213 rfl ?_
    refine a_geti X lf8_396 (by first | exact p_o | assumption) rfl dX8_adds_214 ?_
    refine a_iload_n X dX8_adds_217 rfl ?_
    refine a_iand X dX8_adds_218 ?_
    obtain ⟨M_219, f_219, h⟩ := zLtx h
    refine d_puti X lf8_396 (by first | exact p_o | assumption) rfl dX8_adds_219 f_219 ?_
    refine a_aload_n X dX8_adds_222 rfl ?_
    refine a_dup X dX8_adds_223 rfl ?_
    refine a_geti X lf8_399 (by first | exact p_o | assumption) rfl dX8_adds_224 ?_
    refine a_iload_n X dX8_adds_227 rfl ?_
    refine a_ior X dX8_adds_228 ?_
    obtain ⟨M_229, f_229, h⟩ := zLtx h
    refine d_puti X lf8_399 (by first | exact p_o | assumption) rfl dX8_adds_229 f_229 ?_
    refine a_aload_n X dX8_adds_232 rfl ?_
    refine a_getr X lf8_103 (by first | exact p_o | assumption) rfl (by omega) dX8_adds_233 ?_
    refine a_iload_n X dX8_adds_236 rfl ?_
    refine a_iconst (v := 1) X dX8_adds_237 (by decide) ?_
    obtain ⟨g_238, h⟩ := zIx h
    obtain ⟨M_238, f_238, h⟩ := zLtx h
    refine d_bastore X (by first | exact Or.inl rfl | exact Or.inr rfl | assumption) (by first | exact p_isEnd | assumption) g_238 dX8_adds_238 f_238 ?_
    refine a_aload_n X dX8_adds_239 rfl ?_
    refine a_aload_n X dX8_adds_240 rfl ?_
    refine a_geti X lf8_402 (by first | exact p_o | assumption) rfl dX8_adds_241 ?_
    refine a_aload_n X dX8_adds_244 rfl ?_
    obtain ⟨e_245, f_245, h⟩ := zBx h
    refine a_callVv X dX8_adds_245 miX8_givenTags lm8_421 (t_X8_givenTags (by first | exact hP | assumption) f_245) (by first | exact p_o | assumption) rfl rfl rfl (Nat.le_of_ble_eq_true rfl) ⟨by decide, by decide, by decide, by decide⟩ ?_
    refine a_mmin X lm8_366 zmath2 zmath0 zmathc2 ⟨by decide, Nat.le_of_ble_eq_true rfl, by decide, by decide⟩ dX8_adds_248 ?_
    obtain ⟨M_251, f_251, h⟩ := zLtx h
    refine d_puti X lf8_402 (by first | exact p_o | assumption) rfl dX8_adds_251 f_251 ?_
    refine a_aload_n X dX8_adds_254 rfl ?_
    refine a_aload_n X dX8_adds_255 rfl ?_
    refine a_geti X lf8_405 (by first | exact p_o | assumption) rfl dX8_adds_256 ?_
    refine a_aload_n X dX8_adds_259 rfl ?_
    obtain ⟨e_260, f_260, h⟩ := zBx h
    refine a_callVv X dX8_adds_260 miX8_givenTags lm8_421 (t_X8_givenTags (by first | exact hP | assumption) f_260) (by first | exact p_o | assumption) rfl rfl rfl (Nat.le_of_ble_eq_true rfl) ⟨by decide, by decide, by decide, by decide⟩ ?_
    refine a_mmax X lm8_424 zmath1 zmath0 zmathc1 ⟨by decide, Nat.le_of_ble_eq_true rfl, by decide, by decide⟩ dX8_adds_263 ?_
    obtain ⟨M_266, f_266, h⟩ := zLtx h
    refine d_puti X lf8_405 (by first | exact p_o | assumption) rfl dX8_adds_266 f_266 ?_
    refine a_vret X hr dX8_adds_269 ⟨by decide, by decide⟩ ?_
    subst hF
    rw [← Option.some.inj h]
    exact ⟨rfl, rfl⟩
  have L_5 : ∀ u : Nat, ∀ (x1_5 : Int64) (x3_5 : Int32) (x4_5 : Int32) (x5_5 : Option Value) (M_5 : zMt) (N_5 : zNt), D_X8_adds_5 P u x1_5 x3_5 x4_5 M_5 N_5 = some r → Zw p l e { frames := 2, cells := 0, slots := 0, locals := 80 * (2) } s m args below meth c G b 6 (MQ below (zQ G b FQ) args s 0 0 (fun q : Nat => b ≤ q)) 0 0 5 [some (.ref (P)), some (.long x1_5), none, some (.int x3_5), some (.int x4_5), x5_5] [] (L, M_5, N_5) := by
    intro u
    induction u with
    | zero => intro x1_5 x3_5 x4_5 x5_5 M_5 N_5 h; cases (show none = some r from h)
    | succ u_5 ih_5 =>
      have J_181 : ∀ (x1_181 : Int64) (x3_181 : Int32) (x4_181 : Int32) (x5_181 : Option Value) (M_181 : zMt) (N_181 : zNt), D_X8_adds_181 P (D_X8_adds_5 P u_5) x1_181 x3_181 x4_181 M_181 N_181 = some r → Zw p l e { frames := 2, cells := 0, slots := 0, locals := 80 * (2) } s m args below meth c G b 6 (MQ below (zQ G b FQ) args s 0 0 (fun q : Nat => b ≤ q)) 0 0 181 [some (.ref (P)), some (.long x1_181), none, some (.int x3_181), some (.int x4_181), x5_181] [] (L, M_181, N_181) := by
        intro x1_181 x3_181 x4_181 x5_181 M_181 N_181 h
        unfold D_X8_adds_181 at h
        refine a_iinc (v := x4_181 + 1) X dX8_adds_181 (by decide) rfl zi_1 ?_
        refine a_goto (tgt := 5) X dX8_adds_184 (by decide) ?_
        exact Zw.to2 (ih_5 _ _ _ _ _ _ h) rfl rfl rfl
      have L_134 : ∀ u : Nat, ∀ (x1_134 : Int64) (x3_134 : Int32) (x4_134 : Int32) (x5_134 : Int32) (M_134 : zMt) (N_134 : zNt), D_X8_adds_134 P (D_X8_adds_5 P u_5) u x1_134 x3_134 x4_134 x5_134 M_134 N_134 = some r → Zw p l e { frames := 2, cells := 0, slots := 0, locals := 80 * (2) } s m args below meth c G b 6 (MQ below (zQ G b FQ) args s 0 0 (fun q : Nat => b ≤ q)) 0 0 134 [some (.ref (P)), some (.long x1_134), none, some (.int x3_134), some (.int x4_134), some (.int x5_134)] [] (L, M_134, N_134) := by
        intro u
        induction u with
        | zero => intro x1_134 x3_134 x4_134 x5_134 M_134 N_134 h; cases (show none = some r from h)
        | succ u_134 ih_134 =>
          have J_173 : ∀ (x1_173 : Int64) (x3_173 : Int32) (x4_173 : Int32) (x5_173 : Int32) (y1_173 : Int32) (y2_173 : Int64) (y3_173 : Int64) (M_173 : zMt) (N_173 : zNt), D_X8_adds_173 P (D_X8_adds_5 P u_5) (D_X8_adds_134 P (D_X8_adds_5 P u_5) u_134) x1_173 x3_173 x4_173 x5_173 y1_173 y2_173 y3_173 M_173 N_173 = some r → Zw p l e { frames := 2, cells := 0, slots := 0, locals := 80 * (2) } s m args below meth c G b 6 (MQ below (zQ G b FQ) args s 0 0 (fun q : Nat => b ≤ q)) 0 0 173 [some (.ref (P)), some (.long x1_173), none, some (.int x3_173), some (.int x4_173), some (.int x5_173)] [.long y3_173, .long y2_173, .int y1_173, .ref (P + 27)] (L, M_173, N_173) := by
            intro x1_173 x3_173 x4_173 x5_173 y1_173 y2_173 y3_173 M_173 N_173 h
            unfold D_X8_adds_173 at h
            refine a_ladd X dX8_adds_173 ?_
            obtain ⟨g_174, h⟩ := zIx h
            obtain ⟨N_174, f_174, h⟩ := zLtx h
            refine d_lastore X (by first | exact p_sumBoth | assumption) g_174 dX8_adds_174 f_174 ?_
            refine a_iinc (v := x5_173 + 1) X dX8_adds_175 (by decide) rfl zi_1 ?_
            refine a_goto (tgt := 134) X dX8_adds_178 (by decide) ?_
            exact Zw.to2 (ih_134 _ _ _ _ _ _ h) rfl rfl rfl
          intro x1_134 x3_134 x4_134 x5_134 M_134 N_134 h
          rw [D_X8_adds_134] at h
          refine a_iload X dX8_adds_134 rfl ?_
          refine a_aload_n X dX8_adds_136 rfl ?_
          refine a_geti X lf8_275 (by first | exact p_o | assumption) rfl dX8_adds_137 ?_
          refine a_icmp_ge (tgt := 181) X dX8_adds_140 (by decide) (fun h_140 => ?_) (fun h_140 => ?_)
          · replace h := (if_pos h_140).symm.trans h
            exact Zw.to2 (J_181 _ _ _ _ _ _ h) rfl rfl rfl
          · replace h := (if_neg h_140).symm.trans h
            refine a_aload_n X dX8_adds_143 rfl ?_
            refine a_getr X lf8_97 (by first | exact p_o | assumption) rfl (by omega) dX8_adds_144 ?_
            refine a_bipush (v := 7) X dX8_adds_147 (by decide) ?_
            refine a_iload X dX8_adds_149 rfl ?_
            refine a_imul X dX8_adds_151 ?_
            refine a_iload X dX8_adds_152 rfl ?_
            refine a_iadd X dX8_adds_154 ?_
            refine a_dup2 X dX8_adds_155 rfl rfl ?_
            obtain ⟨g_156, h⟩ := zIx h
            refine a_laload X (by first | exact p_sumBoth | assumption) g_156 dX8_adds_156 ?_
            refine a_aload_n X dX8_adds_157 rfl ?_
            refine a_getr X lf8_73 (by first | exact p_o | assumption) rfl (by omega) dX8_adds_158 ?_
            refine a_iload X dX8_adds_161 rfl ?_
            obtain ⟨g_163, h⟩ := zIx h
            refine a_iaload X (by first | exact p_given | assumption) g_163 dX8_adds_163 ?_
            refine a_iconst (v := -1) X dX8_adds_164 (by decide) ?_
            refine a_icmp_ne (tgt := 172) X dX8_adds_165 (by decide) (fun h_165 => ?_) (fun h_165 => ?_)
            · replace h := (if_neg h_165).symm.trans h
              refine a_lload_n X dX8_adds_172 rfl ?_
              exact Zw.to2 (J_173 _ _ _ _ _ _ _ _ _ h) rfl rfl rfl
            · replace h := (if_pos h_165).symm.trans h
              refine a_lconst (v := 0) X dX8_adds_168 (by decide) ?_
              refine a_goto (tgt := 173) X dX8_adds_169 (by decide) ?_
              exact Zw.to2 (J_173 _ _ _ _ _ _ _ _ _ h) rfl rfl rfl
      have H_134 : ∀ (x1_134 : Int64) (x3_134 : Int32) (x4_134 : Int32) (x5_134 : Int32) (M_134 : zMt) (N_134 : zNt), D_X8_adds_134 P (D_X8_adds_5 P u_5) zFu x1_134 x3_134 x4_134 x5_134 M_134 N_134 = some r → Zw p l e { frames := 2, cells := 0, slots := 0, locals := 80 * (2) } s m args below meth c G b 6 (MQ below (zQ G b FQ) args s 0 0 (fun q : Nat => b ≤ q)) 0 0 134 [some (.ref (P)), some (.long x1_134), none, some (.int x3_134), some (.int x4_134), some (.int x5_134)] [] (L, M_134, N_134) := L_134 zFu
      have J_104 : ∀ (x1_104 : Int64) (x3_104 : Int32) (x4_104 : Int32) (x5_104 : Option Value) (y1_104 : Int32) (y2_104 : Int64) (y3_104 : Int64) (M_104 : zMt) (N_104 : zNt), D_X8_adds_104 P (D_X8_adds_5 P u_5) x1_104 x3_104 x4_104 y1_104 y2_104 y3_104 M_104 N_104 = some r → Zw p l e { frames := 2, cells := 0, slots := 0, locals := 80 * (2) } s m args below meth c G b 6 (MQ below (zQ G b FQ) args s 0 0 (fun q : Nat => b ≤ q)) 0 0 104 [some (.ref (P)), some (.long x1_104), none, some (.int x3_104), some (.int x4_104), x5_104] [.long y3_104, .long y2_104, .int y1_104, .ref (P + 26)] (L, M_104, N_104) := by
        intro x1_104 x3_104 x4_104 x5_104 y1_104 y2_104 y3_104 M_104 N_104 h
        unfold D_X8_adds_104 at h
        refine a_ladd X dX8_adds_104 ?_
        obtain ⟨g_105, h⟩ := zIx h
        obtain ⟨N_105, f_105, h⟩ := zLtx h
        refine d_lastore X (by first | exact p_sumRound | assumption) g_105 dX8_adds_105 f_105 ?_
        refine a_aload_n X dX8_adds_106 rfl ?_
        refine a_getr X lf8_100 (by first | exact p_o | assumption) rfl (by omega) dX8_adds_107 ?_
        refine a_aload_n X dX8_adds_110 rfl ?_
        refine a_getr X lf8_73 (by first | exact p_o | assumption) rfl (by omega) dX8_adds_111 ?_
        refine a_iload X dX8_adds_114 rfl ?_
        obtain ⟨g_116, h⟩ := zIx h
        refine a_iaload X (by first | exact p_given | assumption) g_116 dX8_adds_116 ?_
        refine a_dup2 X dX8_adds_117 rfl rfl ?_
        obtain ⟨g_118, h⟩ := zIx h
        refine a_laload X (by first | exact p_sumTags | assumption) g_118 dX8_adds_118 ?_
        refine a_lload_n X dX8_adds_119 rfl ?_
        refine a_aload_n X dX8_adds_120 rfl ?_
        refine a_getr X lf8_58 (by first | exact p_o | assumption) rfl (by omega) dX8_adds_121 ?_
        refine a_iload X dX8_adds_124 rfl ?_
        obtain ⟨g_126, h⟩ := zIx h
        refine a_iaload X (by first | exact p_sizes | assumption) g_126 dX8_adds_126 ?_
        refine a_i2l X dX8_adds_127 ?_
        refine a_lmul X dX8_adds_128 ?_
        refine a_ladd X dX8_adds_129 ?_
        obtain ⟨g_130, h⟩ := zIx h
        obtain ⟨N_130, f_130, h⟩ := zLtx h
        refine d_lastore X (by first | exact p_sumTags | assumption) g_130 dX8_adds_130 f_130 ?_
        refine a_iconst (v := 0) X dX8_adds_131 (by decide) ?_
        refine a_istore X dX8_adds_132 (by decide) ?_
        exact Zw.to2 (H_134 _ _ _ _ _ _ h) rfl rfl rfl
      have J_78 : ∀ (x1_78 : Int64) (x3_78 : Int32) (x4_78 : Int32) (x5_78 : Option Value) (y1_78 : Int32) (y2_78 : Int64) (y3_78 : Int64) (M_78 : zMt) (N_78 : zNt), D_X8_adds_78 P (D_X8_adds_5 P u_5) x1_78 x3_78 x4_78 y1_78 y2_78 y3_78 M_78 N_78 = some r → Zw p l e { frames := 2, cells := 0, slots := 0, locals := 80 * (2) } s m args below meth c G b 6 (MQ below (zQ G b FQ) args s 0 0 (fun q : Nat => b ≤ q)) 0 0 78 [some (.ref (P)), some (.long x1_78), none, some (.int x3_78), some (.int x4_78), x5_78] [.long y3_78, .long y2_78, .int y1_78, .ref (P + 25)] (L, M_78, N_78) := by
        intro x1_78 x3_78 x4_78 x5_78 y1_78 y2_78 y3_78 M_78 N_78 h
        unfold D_X8_adds_78 at h
        refine a_ladd X dX8_adds_78 ?_
        obtain ⟨g_79, h⟩ := zIx h
        obtain ⟨N_79, f_79, h⟩ := zLtx h
        refine d_lastore X (by first | exact p_sumFirst | assumption) g_79 dX8_adds_79 f_79 ?_
        refine a_aload_n X dX8_adds_80 rfl ?_
        refine a_getr X lf8_94 (by first | exact p_o | assumption) rfl (by omega) dX8_adds_81 ?_
        refine a_iload X dX8_adds_84 rfl ?_
        refine a_dup2 X dX8_adds_86 rfl rfl ?_
        obtain ⟨g_87, h⟩ := zIx h
        refine a_laload X (by first | exact p_sumRound | assumption) g_87 dX8_adds_87 ?_
        refine a_aload_n X dX8_adds_88 rfl ?_
        refine a_getr X lf8_76 (by first | exact p_o | assumption) rfl (by omega) dX8_adds_89 ?_
        refine a_iload X dX8_adds_92 rfl ?_
        obtain ⟨g_94, h⟩ := zIx h
        refine a_iaload X (by first | exact p_roundOf | assumption) g_94 dX8_adds_94 ?_
        refine a_iconst (v := 1) X dX8_adds_95 (by decide) ?_
        refine a_icmp_ne (tgt := 103) X dX8_adds_96 (by decide) (fun h_96 => ?_) (fun h_96 => ?_)
        · replace h := (if_neg h_96).symm.trans h
          refine a_lconst (v := 0) X dX8_adds_103 (by decide) ?_
          exact Zw.to2 (J_104 _ _ _ _ _ _ _ _ _ h) rfl rfl rfl
        · replace h := (if_pos h_96).symm.trans h
          refine a_lload_n X dX8_adds_99 rfl ?_
          refine a_goto (tgt := 104) X dX8_adds_100 (by decide) ?_
          exact Zw.to2 (J_104 _ _ _ _ _ _ _ _ _ h) rfl rfl rfl
      intro x1_5 x3_5 x4_5 x5_5 M_5 N_5 h
      rw [D_X8_adds_5] at h
      refine a_iload X dX8_adds_5 rfl ?_
      refine a_aload_n X dX8_adds_7 rfl ?_
      refine a_geti X lf8_275 (by first | exact p_o | assumption) rfl dX8_adds_8 ?_
      refine a_icmp_ge (tgt := 187) X dX8_adds_11 (by decide) (fun h_11 => ?_) (fun h_11 => ?_)
      · replace h := (if_pos h_11).symm.trans h
        refine a_aload_n X dX8_adds_187 rfl ?_
        refine a_dup X dX8_adds_188 rfl ?_
        refine a_getl X lf8_393 (by first | exact p_o | assumption) rfl dX8_adds_189 ?_
        refine a_aload_n X dX8_adds_192 rfl ?_
        refine a_geti X lf8_418 (by first | exact p_o | assumption) rfl dX8_adds_193 ?_
        refine a_iload_n X dX8_adds_196 rfl ?_
        refine a_iconst (v := -1) X dX8_adds_197 (by decide) ?_
        refine a_ixor X dX8_adds_198 ?_
        refine a_iand X dX8_adds_199 ?_
        refine a_if_ne (tgt := 207) X dX8_adds_200 (by decide) (fun h_200 => ?_) (fun h_200 => ?_)
        · replace h := (if_neg h_200).symm.trans h
          refine a_lconst (v := 0) X dX8_adds_207 (by decide) ?_
          exact Zw.to2 (J_208 _ _ _ _ _ _ _ _ h) rfl rfl rfl
        · replace h := (if_pos h_200).symm.trans h
          refine a_lload_n X dX8_adds_203 rfl ?_
          refine a_goto (tgt := 208) X dX8_adds_204 (by decide) ?_
          exact Zw.to2 (J_208 _ _ _ _ _ _ _ _ h) rfl rfl rfl
      · replace h := (if_neg h_11).symm.trans h
        refine a_aload_n X dX8_adds_14 rfl ?_
        refine a_getr X lf8_73 (by first | exact p_o | assumption) rfl (by omega) dX8_adds_15 ?_
        refine a_iload X dX8_adds_18 rfl ?_
        obtain ⟨g_20, h⟩ := zIx h
        refine a_iaload X (by first | exact p_given | assumption) g_20 dX8_adds_20 ?_
        refine a_iconst (v := -1) X dX8_adds_21 (by decide) ?_
        refine a_icmp_ne (tgt := 28) X dX8_adds_22 (by decide) (fun h_22 => ?_) (fun h_22 => ?_)
        · replace h := (if_neg h_22).symm.trans h
          refine a_iload_n X dX8_adds_28 rfl ?_
          refine a_iconst (v := 1) X dX8_adds_29 (by decide) ?_
          refine a_iload X dX8_adds_30 rfl ?_
          refine a_ishl X dX8_adds_32 ?_
          refine a_ior X dX8_adds_33 ?_
          refine a_istore_n X dX8_adds_34 (by decide) ?_
          refine a_aload_n X dX8_adds_35 rfl ?_
          refine a_getr X lf8_88 (by first | exact p_o | assumption) rfl (by omega) dX8_adds_36 ?_
          refine a_iconst (v := 5) X dX8_adds_39 (by decide) ?_
          refine a_iload X dX8_adds_40 rfl ?_
          refine a_imul X dX8_adds_42 ?_
          refine a_aload_n X dX8_adds_43 rfl ?_
          refine a_getr X lf8_73 (by first | exact p_o | assumption) rfl (by omega) dX8_adds_44 ?_
          refine a_iload X dX8_adds_47 rfl ?_
          obtain ⟨g_49, h⟩ := zIx h
          refine a_iaload X (by first | exact p_given | assumption) g_49 dX8_adds_49 ?_
          refine a_iadd X dX8_adds_50 ?_
          refine a_dup2 X dX8_adds_51 rfl rfl ?_
          obtain ⟨g_52, h⟩ := zIx h
          refine a_laload X (by first | exact p_sumAt | assumption) g_52 dX8_adds_52 ?_
          refine a_lload_n X dX8_adds_53 rfl ?_
          refine a_ladd X dX8_adds_54 ?_
          obtain ⟨g_55, h⟩ := zIx h
          obtain ⟨N_55, f_55, h⟩ := zLtx h
          refine d_lastore X (by first | exact p_sumAt | assumption) g_55 dX8_adds_55 f_55 ?_
          refine a_aload_n X dX8_adds_56 rfl ?_
          refine a_getr X lf8_91 (by first | exact p_o | assumption) rfl (by omega) dX8_adds_57 ?_
          refine a_iload X dX8_adds_60 rfl ?_
          refine a_dup2 X dX8_adds_62 rfl rfl ?_
          obtain ⟨g_63, h⟩ := zIx h
          refine a_laload X (by first | exact p_sumFirst | assumption) g_63 dX8_adds_63 ?_
          refine a_aload_n X dX8_adds_64 rfl ?_
          refine a_iload X dX8_adds_65 rfl ?_
          obtain ⟨e_67, f_67, h⟩ := zBx h
          refine a_callVx X dX8_adds_67 miX8_hasFirst lm8_387 (t_X8_hasFirst (by first | exact hP | assumption) f_67) (by first | exact p_o | assumption) rfl rfl rfl (Nat.le_of_ble_eq_true rfl) ⟨by decide, by decide, by decide, by decide⟩ (fun r_67 S_67 q_67 => ?_)
          obtain ⟨rfl, rfl, b_67⟩ := q_67
          refine a_if_eq (tgt := 77) X dX8_adds_70 (by decide) (fun h_70 => ?_) (fun h_70 => ?_)
          · replace h := (if_pos h_70).symm.trans h
            refine a_lconst (v := 0) X dX8_adds_77 (by decide) ?_
            exact Zw.to2 (J_78 _ _ _ _ _ _ _ _ _ h) rfl rfl rfl
          · replace h := (if_neg h_70).symm.trans h
            refine a_lload_n X dX8_adds_73 rfl ?_
            refine a_goto (tgt := 78) X dX8_adds_74 (by decide) ?_
            exact Zw.to2 (J_78 _ _ _ _ _ _ _ _ _ h) rfl rfl rfl
        · replace h := (if_pos h_22).symm.trans h
          refine a_goto (tgt := 181) X dX8_adds_25 (by decide) ?_
          exact Zw.to2 (J_181 _ _ _ _ _ _ h) rfl rfl rfl
  have H_5 : ∀ (x1_5 : Int64) (x3_5 : Int32) (x4_5 : Int32) (x5_5 : Option Value) (M_5 : zMt) (N_5 : zNt), D_X8_adds_5 P zFu x1_5 x3_5 x4_5 M_5 N_5 = some r → Zw p l e { frames := 2, cells := 0, slots := 0, locals := 80 * (2) } s m args below meth c G b 6 (MQ below (zQ G b FQ) args s 0 0 (fun q : Nat => b ≤ q)) 0 0 5 [some (.ref (P)), some (.long x1_5), none, some (.int x3_5), some (.int x4_5), x5_5] [] (L, M_5, N_5) := L_5 zFu
  unfold D_X8_adds at h
  refine a_iconst (v := 0) X dX8_adds_0 (by decide) ?_
  refine a_istore_n X dX8_adds_1 (by decide) ?_
  refine a_iconst (v := 0) X dX8_adds_2 (by decide) ?_
  refine a_istore X dX8_adds_3 (by decide) ?_
  exact Zw.to2 (H_5 _ _ _ _ _ _ h) rfl rfl rfl
noncomputable def D_X8_goesOn_124 (P : Nat) (rec : Int32 → Int32 → Int64 → zMt → zNt → Option (zMt × zNt)) (k69 : Int32 → Int32 → Int64 → Int64 → Int32 → zMt → zNt → Option (zMt × zNt)) (x1_124 : Int32) (x2_124 : Int32) (x3_124 : Int64) (x5_124 : Int64) (x7_124 : Int32) (M_124 : zMt) (N_124 : zNt) : Option (zMt × zNt) :=
  k69 x1_124 x2_124 x3_124 x5_124 (x7_124 + 1) M_124 N_124
noncomputable def D_X8_goesOn_69 (P : Nat) (rec : Int32 → Int32 → Int64 → zMt → zNt → Option (zMt × zNt)) : Nat → Int32 → Int32 → Int64 → Int64 → Int32 → zMt → zNt → Option (zMt × zNt)
  | 0, _, _, _, _, _, _, _ => none
  | n + 1, x1_69, x2_69, x3_69, x5_69, x7_69, M_69, N_69 =>
    if (M_69 P 33) ≤ x7_69 then
      some (M_69, N_69)
    else
      zB (D_X8_has x2_69 x7_69) fun e_81 =>
      if e_81 = 0 then
        zI x1_69 10 <|
        zLt (zu M_69 (P + 18) x1_69.toNatClampNeg x7_69) fun M_97 =>
        zI x7_69 10 <|
        zZl x5_69 <|
        zB (rec (x1_69 + (1 : Int32)) (x2_69 ||| ((1 : Int32) <<< (x7_69 &&& 31))) ((x3_69 * (Int32.toInt64 (M_97 (P + 17) x7_69.toNatClampNeg))) / x5_69) M_97 N_69) fun e_121 =>
        D_X8_goesOn_124 P rec (D_X8_goesOn_69 P rec n) x1_69 x2_69 x3_69 x5_69 x7_69 e_121.1 e_121.2
      else
        D_X8_goesOn_124 P rec (D_X8_goesOn_69 P rec n) x1_69 x2_69 x3_69 x5_69 x7_69 M_69 N_69
noncomputable def D_X8_goesOn_57 (P : Nat) (rec : Int32 → Int32 → Int64 → zMt → zNt → Option (zMt × zNt)) (k25 : Int32 → Int32 → Int64 → Int64 → Int32 → zMt → zNt → Option (zMt × zNt)) (x1_57 : Int32) (x2_57 : Int32) (x3_57 : Int64) (x7_57 : Int32) (y0_57 : Int64) (y1_57 : Int64) (M_57 : zMt) (N_57 : zNt) : Option (zMt × zNt) :=
  k25 x1_57 x2_57 x3_57 (y0_57 + y1_57) (x7_57 + 1) M_57 N_57
noncomputable def D_X8_goesOn_25 (P : Nat) (rec : Int32 → Int32 → Int64 → zMt → zNt → Option (zMt × zNt)) : Nat → Int32 → Int32 → Int64 → Int64 → Int32 → zMt → zNt → Option (zMt × zNt)
  | 0, _, _, _, _, _, _, _ => none
  | n + 1, x1_25, x2_25, x3_25, x5_25, x7_25, M_25, N_25 =>
    if (M_25 P 33) ≤ x7_25 then
      D_X8_goesOn_69 P rec zFu x1_25 x2_25 x3_25 x5_25 (0 : Int32) M_25 N_25
    else
      zB (D_X8_has x2_25 x7_25) fun e_39 =>
      if e_39 = 0 then
        zI x7_25 10 <|
        D_X8_goesOn_57 P rec (D_X8_goesOn_25 P rec n) x1_25 x2_25 x3_25 x7_25 x5_25 (Int32.toInt64 (M_25 (P + 17) x7_25.toNatClampNeg)) M_25 N_25
      else
        D_X8_goesOn_57 P rec (D_X8_goesOn_25 P rec n) x1_25 x2_25 x3_25 x7_25 x5_25 (0 : Int64) M_25 N_25
noncomputable def D_X8_goesOn (P : Nat) : Nat → Int32 → Int32 → Int64 → zMt → zNt → Option (zMt × zNt)
  | 0, _, _, _, _, _ => none
  | w + 1, v0, v1, v2, M, N =>
    if v0 = (M P 33) then
      zB (D_X8_results P (-1 : Int32) M) fun e_10 =>
      zB (D_X8_adds P v2 e_10 N) fun e_15 =>
      some (e_15.1, e_15.2)
    else
      D_X8_goesOn_25 P (D_X8_goesOn P w) zFu v0 v1 v2 (0 : Int64) (0 : Int32) M N
set_option maxRecDepth 100000 in
set_option maxHeartbeats 4000000 in
theorem t_X8_goesOn_w {l : Launch} {G : zG} {b : Nat} {L : List zC} {P : Nat} (hP : LX8 L P) : ∀ (w : Nat) {v0 : Int32} {v1 : Int32} {v2 : Int64} {M : zMt} {N : zNt} {r : zMt × zNt}, D_X8_goesOn P w v0 v1 v2 M N = some r → zM l G b yX8_goesOn cX8_goesOn 8 none (2 + w) 0 0 [.ref P, .int v0, .int v1, .long v2] (L, M, N) (fun r2 z => r2 = none ∧ z = (L, r.1, r.2)) := by
  intro w
  induction w with
  | zero => intro v0 v1 v2 M N r h; cases (show none = some r from h)
  | succ w ihw =>
    intro v0 v1 v2 M N r h
    refine zM.of miX8_goesOn (Nat.le_of_ble_eq_true rfl) ?_
    intro p e s m args below meth c X hr hname
    generalize hF : ((fun r2 z => r2 = none ∧ z = (L, r.1, r.2)) : Option Value → zS → Prop) = FQ
    rw [show 2 + (w + 1) = 3 + w by omega]
    change Zw p l e { frames := 3 + w, cells := 0, slots := 0, locals := 80 * (3 + w) } s m args below meth c G b 8 (MQ below (zQ G b FQ) args s 0 0 (fun q : Nat => b ≤ q)) 0 0 0 [some (.ref P), some (.int v0), some (.int v1), some (.long v2), none, none, none, none] [] (L, M, N)
    have p_lt := hP.1
    have p_o := hP.2.1
    have p_ticketsOf := hP.2.2.2.2.2.2.2.2.2.2.2.2.2.2.2.2.2.2.1
    have p_ord := hP.2.2.2.2.2.2.2.2.2.2.2.2.2.2.2.2.2.2.2.1
    have L_69 : ∀ u : Nat, ∀ (x1_69 : Int32) (x2_69 : Int32) (x3_69 : Int64) (x5_69 : Int64) (x7_69 : Int32) (M_69 : zMt) (N_69 : zNt), D_X8_goesOn_69 P (D_X8_goesOn P w) u x1_69 x2_69 x3_69 x5_69 x7_69 M_69 N_69 = some r → Zw p l e { frames := 3 + w, cells := 0, slots := 0, locals := 80 * (3 + w) } s m args below meth c G b 8 (MQ below (zQ G b FQ) args s 0 0 (fun q : Nat => b ≤ q)) 0 0 69 [some (.ref (P)), some (.int x1_69), some (.int x2_69), some (.long x3_69), none, some (.long x5_69), none, some (.int x7_69)] [] (L, M_69, N_69) := by
      intro u
      induction u with
      | zero => intro x1_69 x2_69 x3_69 x5_69 x7_69 M_69 N_69 h; cases (show none = some r from h)
      | succ u_69 ih_69 =>
        have J_124 : ∀ (x1_124 : Int32) (x2_124 : Int32) (x3_124 : Int64) (x5_124 : Int64) (x7_124 : Int32) (M_124 : zMt) (N_124 : zNt), D_X8_goesOn_124 P (D_X8_goesOn P w) (D_X8_goesOn_69 P (D_X8_goesOn P w) u_69) x1_124 x2_124 x3_124 x5_124 x7_124 M_124 N_124 = some r → Zw p l e { frames := 3 + w, cells := 0, slots := 0, locals := 80 * (3 + w) } s m args below meth c G b 8 (MQ below (zQ G b FQ) args s 0 0 (fun q : Nat => b ≤ q)) 0 0 124 [some (.ref (P)), some (.int x1_124), some (.int x2_124), some (.long x3_124), none, some (.long x5_124), none, some (.int x7_124)] [] (L, M_124, N_124) := by
          intro x1_124 x2_124 x3_124 x5_124 x7_124 M_124 N_124 h
          unfold D_X8_goesOn_124 at h
          refine a_iinc (v := x7_124 + 1) X dX8_goesOn_124 (by decide) rfl zi_1 ?_
          refine a_goto (tgt := 69) X dX8_goesOn_127 (by decide) ?_
          exact Zw.to2 (ih_69 _ _ _ _ _ _ _ h) rfl rfl rfl
        intro x1_69 x2_69 x3_69 x5_69 x7_69 M_69 N_69 h
        rw [D_X8_goesOn_69] at h
        refine a_iload X dX8_goesOn_69 rfl ?_
        refine a_aload_n X dX8_goesOn_71 rfl ?_
        refine a_geti X lf8_275 (by first | exact p_o | assumption) rfl dX8_goesOn_72 ?_
        refine a_icmp_ge (tgt := 130) X dX8_goesOn_75 (by decide) (fun h_75 => ?_) (fun h_75 => ?_)
        · replace h := (if_pos h_75).symm.trans h
          refine a_vret X hr dX8_goesOn_130 ⟨by decide, by decide⟩ ?_
          subst hF
          rw [← Option.some.inj h]
          exact ⟨rfl, rfl⟩
        · replace h := (if_neg h_75).symm.trans h
          refine a_iload_n X dX8_goesOn_78 rfl ?_
          refine a_iload X dX8_goesOn_79 rfl ?_
          obtain ⟨e_81, f_81, h⟩ := zBx h
          refine a_callSx X dX8_goesOn_81 miX8_has lm8_240 (t_X8_has f_81) rfl rfl (Nat.le_of_ble_eq_true rfl) ⟨by first | decide | (show _ ≤ _; dsimp only; omega), by first | decide | (show _ ≤ _; dsimp only; omega), by first | decide | exact Nat.le_refl 0, by first | decide | exact Nat.le_refl 0⟩ (fun r_81 S_81 q_81 => ?_)
          obtain ⟨rfl, rfl, b_81⟩ := q_81
          refine a_if_eq (tgt := 90) X dX8_goesOn_84 (by decide) (fun h_84 => ?_) (fun h_84 => ?_)
          · replace h := (if_pos h_84).symm.trans h
            refine a_aload_n X dX8_goesOn_90 rfl ?_
            refine a_getr X lf8_70 (by first | exact p_o | assumption) rfl (by omega) dX8_goesOn_91 ?_
            refine a_iload_n X dX8_goesOn_94 rfl ?_
            refine a_iload X dX8_goesOn_95 rfl ?_
            obtain ⟨g_97, h⟩ := zIx h
            obtain ⟨M_97, f_97, h⟩ := zLtx h
            refine d_iastore X (by first | exact p_ord | assumption) g_97 dX8_goesOn_97 f_97 ?_
            refine a_aload_n X dX8_goesOn_98 rfl ?_
            refine a_iload_n X dX8_goesOn_99 rfl ?_
            refine a_iconst (v := 1) X dX8_goesOn_100 (by decide) ?_
            refine a_iadd X dX8_goesOn_101 ?_
            refine a_iload_n X dX8_goesOn_102 rfl ?_
            refine a_iconst (v := 1) X dX8_goesOn_103 (by decide) ?_
            refine a_iload X dX8_goesOn_104 rfl ?_
            refine a_ishl X dX8_goesOn_106 ?_
            refine a_ior X dX8_goesOn_107 ?_
            refine a_lload_n X dX8_goesOn_108 rfl ?_
            refine a_aload_n X dX8_goesOn_109 rfl ?_
            refine a_getr X lf8_67 (by first | exact p_o | assumption) rfl (by omega) dX8_goesOn_110 ?_
            refine a_iload X dX8_goesOn_113 rfl ?_
            obtain ⟨g_115, h⟩ := zIx h
            refine a_iaload X (by first | exact p_ticketsOf | assumption) g_115 dX8_goesOn_115 ?_
            refine a_i2l X dX8_goesOn_116 ?_
            refine a_lmul X dX8_goesOn_117 ?_
            refine a_lload X dX8_goesOn_118 rfl ?_
            obtain ⟨z_120, h⟩ := zZlx h
            refine a_ldiv X dX8_goesOn_120 (z_120) ?_
            obtain ⟨e_121, f_121, h⟩ := zBx h
            refine a_callVu X dX8_goesOn_121 miX8_goesOn lm8_410 (ihw f_121) (by first | exact p_o | assumption) rfl rfl rfl (Nat.le_of_ble_eq_true rfl) ⟨by first | decide | (show _ ≤ _; dsimp only; omega), by first | decide | (show _ ≤ _; dsimp only; omega), by first | decide | exact Nat.le_refl 0, by first | decide | exact Nat.le_refl 0⟩ ?_
            exact Zw.to2 (J_124 _ _ _ _ _ _ _ h) rfl rfl rfl
          · replace h := (if_neg h_84).symm.trans h
            refine a_goto (tgt := 124) X dX8_goesOn_87 (by decide) ?_
            exact Zw.to2 (J_124 _ _ _ _ _ _ _ h) rfl rfl rfl
    have H_69 : ∀ (x1_69 : Int32) (x2_69 : Int32) (x3_69 : Int64) (x5_69 : Int64) (x7_69 : Int32) (M_69 : zMt) (N_69 : zNt), D_X8_goesOn_69 P (D_X8_goesOn P w) zFu x1_69 x2_69 x3_69 x5_69 x7_69 M_69 N_69 = some r → Zw p l e { frames := 3 + w, cells := 0, slots := 0, locals := 80 * (3 + w) } s m args below meth c G b 8 (MQ below (zQ G b FQ) args s 0 0 (fun q : Nat => b ≤ q)) 0 0 69 [some (.ref (P)), some (.int x1_69), some (.int x2_69), some (.long x3_69), none, some (.long x5_69), none, some (.int x7_69)] [] (L, M_69, N_69) := L_69 zFu
    have L_25 : ∀ u : Nat, ∀ (x1_25 : Int32) (x2_25 : Int32) (x3_25 : Int64) (x5_25 : Int64) (x7_25 : Int32) (M_25 : zMt) (N_25 : zNt), D_X8_goesOn_25 P (D_X8_goesOn P w) u x1_25 x2_25 x3_25 x5_25 x7_25 M_25 N_25 = some r → Zw p l e { frames := 3 + w, cells := 0, slots := 0, locals := 80 * (3 + w) } s m args below meth c G b 8 (MQ below (zQ G b FQ) args s 0 0 (fun q : Nat => b ≤ q)) 0 0 25 [some (.ref (P)), some (.int x1_25), some (.int x2_25), some (.long x3_25), none, some (.long x5_25), none, some (.int x7_25)] [] (L, M_25, N_25) := by
      intro u
      induction u with
      | zero => intro x1_25 x2_25 x3_25 x5_25 x7_25 M_25 N_25 h; cases (show none = some r from h)
      | succ u_25 ih_25 =>
        have J_57 : ∀ (x1_57 : Int32) (x2_57 : Int32) (x3_57 : Int64) (x5_57 : Int64) (x7_57 : Int32) (y0_57 : Int64) (y1_57 : Int64) (M_57 : zMt) (N_57 : zNt), D_X8_goesOn_57 P (D_X8_goesOn P w) (D_X8_goesOn_25 P (D_X8_goesOn P w) u_25) x1_57 x2_57 x3_57 x7_57 y0_57 y1_57 M_57 N_57 = some r → Zw p l e { frames := 3 + w, cells := 0, slots := 0, locals := 80 * (3 + w) } s m args below meth c G b 8 (MQ below (zQ G b FQ) args s 0 0 (fun q : Nat => b ≤ q)) 0 0 57 [some (.ref (P)), some (.int x1_57), some (.int x2_57), some (.long x3_57), none, some (.long x5_57), none, some (.int x7_57)] [.long y1_57, .long y0_57] (L, M_57, N_57) := by
          intro x1_57 x2_57 x3_57 x5_57 x7_57 y0_57 y1_57 M_57 N_57 h
          unfold D_X8_goesOn_57 at h
          refine a_ladd X dX8_goesOn_57 ?_
          refine a_lstore X dX8_goesOn_58 (by decide) ?_
          refine a_iinc (v := x7_57 + 1) X dX8_goesOn_60 (by decide) rfl zi_1 ?_
          refine a_goto (tgt := 25) X dX8_goesOn_63 (by decide) ?_
          exact Zw.to2 (ih_25 _ _ _ _ _ _ _ h) rfl rfl rfl
        intro x1_25 x2_25 x3_25 x5_25 x7_25 M_25 N_25 h
        rw [D_X8_goesOn_25] at h
        refine a_iload X dX8_goesOn_25 rfl ?_
        refine a_aload_n X dX8_goesOn_27 rfl ?_
        refine a_geti X lf8_275 (by first | exact p_o | assumption) rfl dX8_goesOn_28 ?_
        refine a_icmp_ge (tgt := 66) X dX8_goesOn_31 (by decide) (fun h_31 => ?_) (fun h_31 => ?_)
        · replace h := (if_pos h_31).symm.trans h
          refine a_iconst (v := 0) X dX8_goesOn_66 (by decide) ?_
          refine a_istore X dX8_goesOn_67 (by decide) ?_
          exact Zw.to2 (H_69 _ _ _ _ _ _ _ h) rfl rfl rfl
        · replace h := (if_neg h_31).symm.trans h
          refine a_lload X dX8_goesOn_34 rfl ?_
          refine a_iload_n X dX8_goesOn_36 rfl ?_
          refine a_iload X dX8_goesOn_37 rfl ?_
          obtain ⟨e_39, f_39, h⟩ := zBx h
          refine a_callSx X dX8_goesOn_39 miX8_has lm8_240 (t_X8_has f_39) rfl rfl (Nat.le_of_ble_eq_true rfl) ⟨by first | decide | (show _ ≤ _; dsimp only; omega), by first | decide | (show _ ≤ _; dsimp only; omega), by first | decide | exact Nat.le_refl 0, by first | decide | exact Nat.le_refl 0⟩ (fun r_39 S_39 q_39 => ?_)
          obtain ⟨rfl, rfl, b_39⟩ := q_39
          refine a_if_eq (tgt := 49) X dX8_goesOn_42 (by decide) (fun h_42 => ?_) (fun h_42 => ?_)
          · replace h := (if_pos h_42).symm.trans h
            refine a_aload_n X dX8_goesOn_49 rfl ?_
            refine a_getr X lf8_67 (by first | exact p_o | assumption) rfl (by omega) dX8_goesOn_50 ?_
            refine a_iload X dX8_goesOn_53 rfl ?_
            obtain ⟨g_55, h⟩ := zIx h
            refine a_iaload X (by first | exact p_ticketsOf | assumption) g_55 dX8_goesOn_55 ?_
            refine a_i2l X dX8_goesOn_56 ?_
            exact Zw.to2 (J_57 _ _ _ _ _ _ _ _ _ h) rfl rfl rfl
          · replace h := (if_neg h_42).symm.trans h
            refine a_lconst (v := 0) X dX8_goesOn_45 (by decide) ?_
            refine a_goto (tgt := 57) X dX8_goesOn_46 (by decide) ?_
            exact Zw.to2 (J_57 _ _ _ _ _ _ _ _ _ h) rfl rfl rfl
    have H_25 : ∀ (x1_25 : Int32) (x2_25 : Int32) (x3_25 : Int64) (x5_25 : Int64) (x7_25 : Int32) (M_25 : zMt) (N_25 : zNt), D_X8_goesOn_25 P (D_X8_goesOn P w) zFu x1_25 x2_25 x3_25 x5_25 x7_25 M_25 N_25 = some r → Zw p l e { frames := 3 + w, cells := 0, slots := 0, locals := 80 * (3 + w) } s m args below meth c G b 8 (MQ below (zQ G b FQ) args s 0 0 (fun q : Nat => b ≤ q)) 0 0 25 [some (.ref (P)), some (.int x1_25), some (.int x2_25), some (.long x3_25), none, some (.long x5_25), none, some (.int x7_25)] [] (L, M_25, N_25) := L_25 zFu
    rw [D_X8_goesOn] at h
    refine a_iload_n X dX8_goesOn_0 rfl ?_
    refine a_aload_n X dX8_goesOn_1 rfl ?_
    refine a_geti X lf8_275 (by first | exact p_o | assumption) rfl dX8_goesOn_2 ?_
    refine a_icmp_ne (tgt := 19) X dX8_goesOn_5 (by decide) (fun h_5 => ?_) (fun h_5 => ?_)
    · replace h := (if_neg h_5).symm.trans h
      refine a_lconst (v := 0) X dX8_goesOn_19 (by decide) ?_
      refine a_lstore X dX8_goesOn_20 (by decide) ?_
      refine a_iconst (v := 0) X dX8_goesOn_22 (by decide) ?_
      refine a_istore X dX8_goesOn_23 (by decide) ?_
      exact Zw.to2 (H_25 _ _ _ _ _ _ _ h) rfl rfl rfl
    · replace h := (if_pos h_5).symm.trans h
      refine a_aload_n X dX8_goesOn_8 rfl ?_
      refine a_iconst (v := -1) X dX8_goesOn_9 (by decide) ?_
      obtain ⟨e_10, f_10, h⟩ := zBx h
      refine a_callVu X dX8_goesOn_10 miX8_results lm8_355 (t_X8_results (by first | exact hP | assumption) f_10) (by first | exact p_o | assumption) rfl rfl rfl (Nat.le_of_ble_eq_true rfl) ⟨by first | decide | (show _ ≤ _; dsimp only; omega), by first | decide | (show _ ≤ _; dsimp only; omega), by first | decide | exact Nat.le_refl 0, by first | decide | exact Nat.le_refl 0⟩ ?_
      refine a_aload_n X dX8_goesOn_13 rfl ?_
      refine a_lload_n X dX8_goesOn_14 rfl ?_
      obtain ⟨e_15, f_15, h⟩ := zBx h
      refine a_callVu X dX8_goesOn_15 miX8_adds lm8_414 (t_X8_adds (by first | exact hP | assumption) f_15) (by first | exact p_o | assumption) rfl rfl rfl (Nat.le_of_ble_eq_true rfl) ⟨by first | decide | (show _ ≤ _; dsimp only; omega), by first | decide | (show _ ≤ _; dsimp only; omega), by first | decide | exact Nat.le_refl 0, by first | decide | exact Nat.le_refl 0⟩ ?_
      refine a_vret X hr dX8_goesOn_18 ⟨by decide, by decide⟩ ?_
      subst hF
      rw [← Option.some.inj h]
      exact ⟨rfl, rfl⟩
theorem t_X8_goesOn {l : Launch} {G : zG} {b : Nat} {L : List zC} {M : zMt} {N : zNt} {P : Nat} {v0 : Int32} {v1 : Int32} {v2 : Int64} (hP : LX8 L P) {r : zMt × zNt} (h : D_X8_goesOn P zRec v0 v1 v2 M N = some r) : zM l G b yX8_goesOn cX8_goesOn 8 none 11 0 0 [.ref P, .int v0, .int v1, .long v2] (L, M, N) (fun r2 z => r2 = none ∧ z = (L, r.1, r.2)) := t_X8_goesOn_w hP zRec h
noncomputable def D_X8_allOrders_92 (P : Nat) : Nat → Int32 → zMt → zNt → Option (zMt × zNt)
  | 0, _, _, _ => none
  | n + 1, x1_92, M_92, N_92 =>
    if (128 : Int32) ≤ x1_92 then
      zLt (zu N_92 P 59 (0 : Int64)) fun N_114 =>
      zLt (zu M_92 P 54 (((1 : Int32) <<< ((M_92 P 33) &&& 31)) - (1 : Int32))) fun M_126 =>
      zLt (zu M_126 P 55 (0 : Int32)) fun M_131 =>
      zLt (zu M_131 P 56 (1000 : Int32)) fun M_138 =>
      zLt (zu M_138 P 57 (0 : Int32)) fun M_143 =>
      zB (D_X8_goesOn P zRec (0 : Int32) (0 : Int32) (1000000000000 : Int64) M_143 N_114) fun e_152 =>
      some (e_152.1, e_152.2)
    else
      zI x1_92 128 <|
      zLt (zu M_92 (P + 29) x1_92.toNatClampNeg (0 : Int32)) fun M_105 =>
      (D_X8_allOrders_92 P n) (x1_92 + 1) M_105 N_92
noncomputable def D_X8_allOrders_72 (P : Nat) : Nat → Int32 → zMt → zNt → Option (zMt × zNt)
  | 0, _, _, _ => none
  | n + 1, x1_72, M_72, N_72 =>
    if (5 : Int32) ≤ x1_72 then
      D_X8_allOrders_92 P zFu (0 : Int32) M_72 N_72
    else
      zI x1_72 5 <|
      zLt (zu N_72 (P + 28) x1_72.toNatClampNeg (0 : Int64)) fun N_83 =>
      (D_X8_allOrders_72 P n) (x1_72 + 1) M_72 N_83
noncomputable def D_X8_allOrders_44 (P : Nat) : Nat → Int32 → zMt → zNt → Option (zMt × zNt)
  | 0, _, _, _ => none
  | n + 1, x1_44, M_44, N_44 =>
    if (7 : Int32) ≤ x1_44 then
      D_X8_allOrders_72 P zFu (0 : Int32) M_44 N_44
    else
      zI x1_44 7 <|
      zLt (zu N_44 (P + 25) x1_44.toNatClampNeg (0 : Int64)) fun N_56 =>
      zI x1_44 7 <|
      zLt (zu N_56 (P + 26) x1_44.toNatClampNeg (0 : Int64)) fun N_63 =>
      (D_X8_allOrders_44 P n) (x1_44 + 1) M_44 N_63
noncomputable def D_X8_allOrders_23 (P : Nat) : Nat → Int32 → zMt → zNt → Option (zMt × zNt)
  | 0, _, _, _ => none
  | n + 1, x1_23, M_23, N_23 =>
    if (49 : Int32) ≤ x1_23 then
      D_X8_allOrders_44 P zFu (0 : Int32) M_23 N_23
    else
      zI x1_23 49 <|
      zLt (zu N_23 (P + 27) x1_23.toNatClampNeg (0 : Int64)) fun N_35 =>
      (D_X8_allOrders_23 P n) (x1_23 + 1) M_23 N_35
noncomputable def D_X8_allOrders_2 (P : Nat) : Nat → Int32 → zMt → zNt → Option (zMt × zNt)
  | 0, _, _, _ => none
  | n + 1, x1_2, M_2, N_2 =>
    if (35 : Int32) ≤ x1_2 then
      D_X8_allOrders_23 P zFu (0 : Int32) M_2 N_2
    else
      zI x1_2 35 <|
      zLt (zu N_2 (P + 24) x1_2.toNatClampNeg (0 : Int64)) fun N_14 =>
      (D_X8_allOrders_2 P n) (x1_2 + 1) M_2 N_14
noncomputable def D_X8_allOrders (P : Nat) (M : zMt) (N : zNt) : Option (zMt × zNt) :=
  D_X8_allOrders_2 P zFu (0 : Int32) M N
set_option maxRecDepth 100000 in
set_option maxHeartbeats 4000000 in
theorem t_X8_allOrders {l : Launch} {G : zG} {b : Nat} {L : List zC} {M : zMt} {N : zNt} {P : Nat}  (hP : LX8 L P) {r : zMt × zNt} (h : D_X8_allOrders P M N = some r) : zM l G b yX8_allOrders cX8_allOrders 2 none 12 0 0 [.ref P] (L, M, N) (fun r2 z => r2 = none ∧ z = (L, r.1, r.2)) := by
  refine zM.of miX8_allOrders (Nat.le_of_ble_eq_true rfl) ?_
  intro p e s m args below meth c X hr hname
  generalize hF : ((fun r2 z => r2 = none ∧ z = (L, r.1, r.2)) : Option Value → zS → Prop) = FQ
  change Zw p l e { frames := 12, cells := 0, slots := 0, locals := 80 * (12) } s m args below meth c G b 2 (MQ below (zQ G b FQ) args s 0 0 (fun q : Nat => b ≤ q)) 0 0 0 [some (.ref P), none] [] (L, M, N)
  have p_lt := hP.1
  have p_o := hP.2.1
  have p_sumAt := hP.2.2.2.2.2.2.2.2.2.2.2.2.2.2.2.2.2.2.2.2.2.2.2.2.2.1
  have p_sumFirst := hP.2.2.2.2.2.2.2.2.2.2.2.2.2.2.2.2.2.2.2.2.2.2.2.2.2.2.1
  have p_sumRound := hP.2.2.2.2.2.2.2.2.2.2.2.2.2.2.2.2.2.2.2.2.2.2.2.2.2.2.2.1
  have p_sumBoth := hP.2.2.2.2.2.2.2.2.2.2.2.2.2.2.2.2.2.2.2.2.2.2.2.2.2.2.2.2.1
  have p_sumTags := hP.2.2.2.2.2.2.2.2.2.2.2.2.2.2.2.2.2.2.2.2.2.2.2.2.2.2.2.2.2.1
  have p_isEnd := hP.2.2.2.2.2.2.2.2.2.2.2.2.2.2.2.2.2.2.2.2.2.2.2.2.2.2.2.2.2.2.1
  have L_92 : ∀ u : Nat, ∀ (x1_92 : Int32) (M_92 : zMt) (N_92 : zNt), D_X8_allOrders_92 P u x1_92 M_92 N_92 = some r → Zw p l e { frames := 12, cells := 0, slots := 0, locals := 80 * (12) } s m args below meth c G b 2 (MQ below (zQ G b FQ) args s 0 0 (fun q : Nat => b ≤ q)) 0 0 92 [some (.ref (P)), some (.int x1_92)] [] (L, M_92, N_92) := by
    intro u
    induction u with
    | zero => intro x1_92 M_92 N_92 h; cases (show none = some r from h)
    | succ u_92 ih_92 =>
      intro x1_92 M_92 N_92 h
      rw [D_X8_allOrders_92] at h
      refine a_iload_n X dX8_allOrders_92 rfl ?_
      refine a_sipush (v := 128) X dX8_allOrders_93 (by decide) ?_
      refine a_icmp_ge (tgt := 112) X dX8_allOrders_96 (by decide) (fun h_96 => ?_) (fun h_96 => ?_)
      · replace h := (if_pos h_96).symm.trans h
        refine a_aload_n X dX8_allOrders_112 rfl ?_
        refine a_lconst (v := 0) X dX8_allOrders_113 (by decide) ?_
        obtain ⟨N_114, f_114, h⟩ := zLtx h
        refine d_putl X lf8_393 (by first | exact p_o | assumption) rfl dX8_allOrders_114 f_114 ?_
        refine a_aload_n X dX8_allOrders_117 rfl ?_
        refine a_iconst (v := 1) X dX8_allOrders_118 (by decide) ?_
        refine a_aload_n X dX8_allOrders_119 rfl ?_
        refine a_geti X lf8_275 (by first | exact p_o | assumption) rfl dX8_allOrders_120 ?_
        refine a_ishl X dX8_allOrders_123 ?_
        refine a_iconst (v := 1) X dX8_allOrders_124 (by decide) ?_
        refine a_isub X dX8_allOrders_125 ?_
        obtain ⟨M_126, f_126, h⟩ := zLtx h
        refine d_puti X lf8_396 (by first | exact p_o | assumption) rfl dX8_allOrders_126 f_126 ?_
        refine a_aload_n X dX8_allOrders_129 rfl ?_
        refine a_iconst (v := 0) X dX8_allOrders_130 (by decide) ?_
        obtain ⟨M_131, f_131, h⟩ := zLtx h
        refine d_puti X lf8_399 (by first | exact p_o | assumption) rfl dX8_allOrders_131 f_131 ?_
        refine a_aload_n X dX8_allOrders_134 rfl ?_
        refine a_sipush (v := 1000) X dX8_allOrders_135 (by decide) ?_
        obtain ⟨M_138, f_138, h⟩ := zLtx h
        refine d_puti X lf8_402 (by first | exact p_o | assumption) rfl dX8_allOrders_138 f_138 ?_
        refine a_aload_n X dX8_allOrders_141 rfl ?_
        refine a_iconst (v := 0) X dX8_allOrders_142 (by decide) ?_
        obtain ⟨M_143, f_143, h⟩ := zLtx h
        refine d_puti X lf8_405 (by first | exact p_o | assumption) rfl dX8_allOrders_143 f_143 ?_
        refine a_aload_n X dX8_allOrders_146 rfl ?_
        refine a_iconst (v := 0) X dX8_allOrders_147 (by decide) ?_
        refine a_iconst (v := 0) X dX8_allOrders_148 (by decide) ?_
        refine a_ldc2 X dX8_allOrders_149 lk8_408 ?_
        obtain ⟨e_152, f_152, h⟩ := zBx h
        refine a_callVu X dX8_allOrders_152 miX8_goesOn lm8_410 (t_X8_goesOn (by first | exact hP | assumption) f_152) (by first | exact p_o | assumption) rfl rfl rfl (Nat.le_of_ble_eq_true rfl) ⟨by decide, by decide, by decide, by decide⟩ ?_
        refine a_vret X hr dX8_allOrders_155 ⟨by decide, by decide⟩ ?_
        subst hF
        rw [← Option.some.inj h]
        exact ⟨rfl, rfl⟩
      · replace h := (if_neg h_96).symm.trans h
        refine a_aload_n X dX8_allOrders_99 rfl ?_
        refine a_getr X lf8_103 (by first | exact p_o | assumption) rfl (by omega) dX8_allOrders_100 ?_
        refine a_iload_n X dX8_allOrders_103 rfl ?_
        refine a_iconst (v := 0) X dX8_allOrders_104 (by decide) ?_
        obtain ⟨g_105, h⟩ := zIx h
        obtain ⟨M_105, f_105, h⟩ := zLtx h
        refine d_bastore X (by first | exact Or.inl rfl | exact Or.inr rfl | assumption) (by first | exact p_isEnd | assumption) g_105 dX8_allOrders_105 f_105 ?_
        refine a_iinc (v := x1_92 + 1) X dX8_allOrders_106 (by decide) rfl zi_1 ?_
        refine a_goto (tgt := 92) X dX8_allOrders_109 (by decide) ?_
        exact Zw.to2 (ih_92 _ _ _ h) rfl rfl rfl
  have H_92 : ∀ (x1_92 : Int32) (M_92 : zMt) (N_92 : zNt), D_X8_allOrders_92 P zFu x1_92 M_92 N_92 = some r → Zw p l e { frames := 12, cells := 0, slots := 0, locals := 80 * (12) } s m args below meth c G b 2 (MQ below (zQ G b FQ) args s 0 0 (fun q : Nat => b ≤ q)) 0 0 92 [some (.ref (P)), some (.int x1_92)] [] (L, M_92, N_92) := L_92 zFu
  have L_72 : ∀ u : Nat, ∀ (x1_72 : Int32) (M_72 : zMt) (N_72 : zNt), D_X8_allOrders_72 P u x1_72 M_72 N_72 = some r → Zw p l e { frames := 12, cells := 0, slots := 0, locals := 80 * (12) } s m args below meth c G b 2 (MQ below (zQ G b FQ) args s 0 0 (fun q : Nat => b ≤ q)) 0 0 72 [some (.ref (P)), some (.int x1_72)] [] (L, M_72, N_72) := by
    intro u
    induction u with
    | zero => intro x1_72 M_72 N_72 h; cases (show none = some r from h)
    | succ u_72 ih_72 =>
      intro x1_72 M_72 N_72 h
      rw [D_X8_allOrders_72] at h
      refine a_iload_n X dX8_allOrders_72 rfl ?_
      refine a_iconst (v := 5) X dX8_allOrders_73 (by decide) ?_
      refine a_icmp_ge (tgt := 90) X dX8_allOrders_74 (by decide) (fun h_74 => ?_) (fun h_74 => ?_)
      · replace h := (if_pos h_74).symm.trans h
        refine a_iconst (v := 0) X dX8_allOrders_90 (by decide) ?_
        refine a_istore_n X dX8_allOrders_91 (by decide) ?_
        exact Zw.to2 (H_92 _ _ _ h) rfl rfl rfl
      · replace h := (if_neg h_74).symm.trans h
        refine a_aload_n X dX8_allOrders_77 rfl ?_
        refine a_getr X lf8_100 (by first | exact p_o | assumption) rfl (by omega) dX8_allOrders_78 ?_
        refine a_iload_n X dX8_allOrders_81 rfl ?_
        refine a_lconst (v := 0) X dX8_allOrders_82 (by decide) ?_
        obtain ⟨g_83, h⟩ := zIx h
        obtain ⟨N_83, f_83, h⟩ := zLtx h
        refine d_lastore X (by first | exact p_sumTags | assumption) g_83 dX8_allOrders_83 f_83 ?_
        refine a_iinc (v := x1_72 + 1) X dX8_allOrders_84 (by decide) rfl zi_1 ?_
        refine a_goto (tgt := 72) X dX8_allOrders_87 (by decide) ?_
        exact Zw.to2 (ih_72 _ _ _ h) rfl rfl rfl
  have H_72 : ∀ (x1_72 : Int32) (M_72 : zMt) (N_72 : zNt), D_X8_allOrders_72 P zFu x1_72 M_72 N_72 = some r → Zw p l e { frames := 12, cells := 0, slots := 0, locals := 80 * (12) } s m args below meth c G b 2 (MQ below (zQ G b FQ) args s 0 0 (fun q : Nat => b ≤ q)) 0 0 72 [some (.ref (P)), some (.int x1_72)] [] (L, M_72, N_72) := L_72 zFu
  have L_44 : ∀ u : Nat, ∀ (x1_44 : Int32) (M_44 : zMt) (N_44 : zNt), D_X8_allOrders_44 P u x1_44 M_44 N_44 = some r → Zw p l e { frames := 12, cells := 0, slots := 0, locals := 80 * (12) } s m args below meth c G b 2 (MQ below (zQ G b FQ) args s 0 0 (fun q : Nat => b ≤ q)) 0 0 44 [some (.ref (P)), some (.int x1_44)] [] (L, M_44, N_44) := by
    intro u
    induction u with
    | zero => intro x1_44 M_44 N_44 h; cases (show none = some r from h)
    | succ u_44 ih_44 =>
      intro x1_44 M_44 N_44 h
      rw [D_X8_allOrders_44] at h
      refine a_iload_n X dX8_allOrders_44 rfl ?_
      refine a_bipush (v := 7) X dX8_allOrders_45 (by decide) ?_
      refine a_icmp_ge (tgt := 70) X dX8_allOrders_47 (by decide) (fun h_47 => ?_) (fun h_47 => ?_)
      · replace h := (if_pos h_47).symm.trans h
        refine a_iconst (v := 0) X dX8_allOrders_70 (by decide) ?_
        refine a_istore_n X dX8_allOrders_71 (by decide) ?_
        exact Zw.to2 (H_72 _ _ _ h) rfl rfl rfl
      · replace h := (if_neg h_47).symm.trans h
        refine a_aload_n X dX8_allOrders_50 rfl ?_
        refine a_getr X lf8_91 (by first | exact p_o | assumption) rfl (by omega) dX8_allOrders_51 ?_
        refine a_iload_n X dX8_allOrders_54 rfl ?_
        refine a_lconst (v := 0) X dX8_allOrders_55 (by decide) ?_
        obtain ⟨g_56, h⟩ := zIx h
        obtain ⟨N_56, f_56, h⟩ := zLtx h
        refine d_lastore X (by first | exact p_sumFirst | assumption) g_56 dX8_allOrders_56 f_56 ?_
        refine a_aload_n X dX8_allOrders_57 rfl ?_
        refine a_getr X lf8_94 (by first | exact p_o | assumption) rfl (by omega) dX8_allOrders_58 ?_
        refine a_iload_n X dX8_allOrders_61 rfl ?_
        refine a_lconst (v := 0) X dX8_allOrders_62 (by decide) ?_
        obtain ⟨g_63, h⟩ := zIx h
        obtain ⟨N_63, f_63, h⟩ := zLtx h
        refine d_lastore X (by first | exact p_sumRound | assumption) g_63 dX8_allOrders_63 f_63 ?_
        refine a_iinc (v := x1_44 + 1) X dX8_allOrders_64 (by decide) rfl zi_1 ?_
        refine a_goto (tgt := 44) X dX8_allOrders_67 (by decide) ?_
        exact Zw.to2 (ih_44 _ _ _ h) rfl rfl rfl
  have H_44 : ∀ (x1_44 : Int32) (M_44 : zMt) (N_44 : zNt), D_X8_allOrders_44 P zFu x1_44 M_44 N_44 = some r → Zw p l e { frames := 12, cells := 0, slots := 0, locals := 80 * (12) } s m args below meth c G b 2 (MQ below (zQ G b FQ) args s 0 0 (fun q : Nat => b ≤ q)) 0 0 44 [some (.ref (P)), some (.int x1_44)] [] (L, M_44, N_44) := L_44 zFu
  have L_23 : ∀ u : Nat, ∀ (x1_23 : Int32) (M_23 : zMt) (N_23 : zNt), D_X8_allOrders_23 P u x1_23 M_23 N_23 = some r → Zw p l e { frames := 12, cells := 0, slots := 0, locals := 80 * (12) } s m args below meth c G b 2 (MQ below (zQ G b FQ) args s 0 0 (fun q : Nat => b ≤ q)) 0 0 23 [some (.ref (P)), some (.int x1_23)] [] (L, M_23, N_23) := by
    intro u
    induction u with
    | zero => intro x1_23 M_23 N_23 h; cases (show none = some r from h)
    | succ u_23 ih_23 =>
      intro x1_23 M_23 N_23 h
      rw [D_X8_allOrders_23] at h
      refine a_iload_n X dX8_allOrders_23 rfl ?_
      refine a_bipush (v := 49) X dX8_allOrders_24 (by decide) ?_
      refine a_icmp_ge (tgt := 42) X dX8_allOrders_26 (by decide) (fun h_26 => ?_) (fun h_26 => ?_)
      · replace h := (if_pos h_26).symm.trans h
        refine a_iconst (v := 0) X dX8_allOrders_42 (by decide) ?_
        refine a_istore_n X dX8_allOrders_43 (by decide) ?_
        exact Zw.to2 (H_44 _ _ _ h) rfl rfl rfl
      · replace h := (if_neg h_26).symm.trans h
        refine a_aload_n X dX8_allOrders_29 rfl ?_
        refine a_getr X lf8_97 (by first | exact p_o | assumption) rfl (by omega) dX8_allOrders_30 ?_
        refine a_iload_n X dX8_allOrders_33 rfl ?_
        refine a_lconst (v := 0) X dX8_allOrders_34 (by decide) ?_
        obtain ⟨g_35, h⟩ := zIx h
        obtain ⟨N_35, f_35, h⟩ := zLtx h
        refine d_lastore X (by first | exact p_sumBoth | assumption) g_35 dX8_allOrders_35 f_35 ?_
        refine a_iinc (v := x1_23 + 1) X dX8_allOrders_36 (by decide) rfl zi_1 ?_
        refine a_goto (tgt := 23) X dX8_allOrders_39 (by decide) ?_
        exact Zw.to2 (ih_23 _ _ _ h) rfl rfl rfl
  have H_23 : ∀ (x1_23 : Int32) (M_23 : zMt) (N_23 : zNt), D_X8_allOrders_23 P zFu x1_23 M_23 N_23 = some r → Zw p l e { frames := 12, cells := 0, slots := 0, locals := 80 * (12) } s m args below meth c G b 2 (MQ below (zQ G b FQ) args s 0 0 (fun q : Nat => b ≤ q)) 0 0 23 [some (.ref (P)), some (.int x1_23)] [] (L, M_23, N_23) := L_23 zFu
  have L_2 : ∀ u : Nat, ∀ (x1_2 : Int32) (M_2 : zMt) (N_2 : zNt), D_X8_allOrders_2 P u x1_2 M_2 N_2 = some r → Zw p l e { frames := 12, cells := 0, slots := 0, locals := 80 * (12) } s m args below meth c G b 2 (MQ below (zQ G b FQ) args s 0 0 (fun q : Nat => b ≤ q)) 0 0 2 [some (.ref (P)), some (.int x1_2)] [] (L, M_2, N_2) := by
    intro u
    induction u with
    | zero => intro x1_2 M_2 N_2 h; cases (show none = some r from h)
    | succ u_2 ih_2 =>
      intro x1_2 M_2 N_2 h
      rw [D_X8_allOrders_2] at h
      refine a_iload_n X dX8_allOrders_2 rfl ?_
      refine a_bipush (v := 35) X dX8_allOrders_3 (by decide) ?_
      refine a_icmp_ge (tgt := 21) X dX8_allOrders_5 (by decide) (fun h_5 => ?_) (fun h_5 => ?_)
      · replace h := (if_pos h_5).symm.trans h
        refine a_iconst (v := 0) X dX8_allOrders_21 (by decide) ?_
        refine a_istore_n X dX8_allOrders_22 (by decide) ?_
        exact Zw.to2 (H_23 _ _ _ h) rfl rfl rfl
      · replace h := (if_neg h_5).symm.trans h
        refine a_aload_n X dX8_allOrders_8 rfl ?_
        refine a_getr X lf8_88 (by first | exact p_o | assumption) rfl (by omega) dX8_allOrders_9 ?_
        refine a_iload_n X dX8_allOrders_12 rfl ?_
        refine a_lconst (v := 0) X dX8_allOrders_13 (by decide) ?_
        obtain ⟨g_14, h⟩ := zIx h
        obtain ⟨N_14, f_14, h⟩ := zLtx h
        refine d_lastore X (by first | exact p_sumAt | assumption) g_14 dX8_allOrders_14 f_14 ?_
        refine a_iinc (v := x1_2 + 1) X dX8_allOrders_15 (by decide) rfl zi_1 ?_
        refine a_goto (tgt := 2) X dX8_allOrders_18 (by decide) ?_
        exact Zw.to2 (ih_2 _ _ _ h) rfl rfl rfl
  have H_2 : ∀ (x1_2 : Int32) (M_2 : zMt) (N_2 : zNt), D_X8_allOrders_2 P zFu x1_2 M_2 N_2 = some r → Zw p l e { frames := 12, cells := 0, slots := 0, locals := 80 * (12) } s m args below meth c G b 2 (MQ below (zQ G b FQ) args s 0 0 (fun q : Nat => b ≤ q)) 0 0 2 [some (.ref (P)), some (.int x1_2)] [] (L, M_2, N_2) := L_2 zFu
  unfold D_X8_allOrders at h
  refine a_iconst (v := 0) X dX8_allOrders_0 (by decide) ?_
  refine a_istore_n X dX8_allOrders_1 (by decide) ?_
  exact Zw.to2 (H_2 _ _ _ h) rfl rfl rfl
noncomputable def D_X8_laysAll (P : Nat) (M : zMt) (N : zNt) : Option (zMt × zNt) :=
  zB (D_X8_laysApplicants P M) fun e_1 =>
  zB (D_X8_allOrders P e_1 N) fun e_5 =>
  some (e_5.1, e_5.2)
set_option maxRecDepth 100000 in
set_option maxHeartbeats 4000000 in
theorem t_X8_laysAll {l : Launch} {G : zG} {b : Nat} {L : List zC} {M : zMt} {N : zNt} {P : Nat}  (hP : LX8 L P) {r : zMt × zNt} (h : D_X8_laysAll P M N = some r) : zM l G b yX8_laysAll cX8_laysAll 1 none 13 0 0 [.ref P] (L, M, N) (fun r2 z => r2 = none ∧ z = (L, r.1, r.2)) := by
  refine zM.of miX8_laysAll (Nat.le_of_ble_eq_true rfl) ?_
  intro p e s m args below meth c X hr hname
  generalize hF : ((fun r2 z => r2 = none ∧ z = (L, r.1, r.2)) : Option Value → zS → Prop) = FQ
  change Zw p l e { frames := 13, cells := 0, slots := 0, locals := 80 * (13) } s m args below meth c G b 1 (MQ below (zQ G b FQ) args s 0 0 (fun q : Nat => b ≤ q)) 0 0 0 [some (.ref P)] [] (L, M, N)
  have p_lt := hP.1
  have p_o := hP.2.1
  unfold D_X8_laysAll at h
  refine a_aload_n X dX8_laysAll_0 rfl ?_
  obtain ⟨e_1, f_1, h⟩ := zBx h
  refine a_callVu X dX8_laysAll_1 miX8_laysApplicants lm8_281 (t_X8_laysApplicants (by first | exact hP | assumption) f_1) (by first | exact p_o | assumption) rfl rfl rfl (Nat.le_of_ble_eq_true rfl) ⟨by decide, by decide, by decide, by decide⟩ ?_
  refine a_aload_n X dX8_laysAll_4 rfl ?_
  obtain ⟨e_5, f_5, h⟩ := zBx h
  refine a_callVu X dX8_laysAll_5 miX8_allOrders lm8_390 (t_X8_allOrders (by first | exact hP | assumption) f_5) (by first | exact p_o | assumption) rfl rfl rfl (Nat.le_of_ble_eq_true rfl) ⟨by decide, by decide, by decide, by decide⟩ ?_
  refine a_vret X hr dX8_laysAll_8 ⟨by decide, by decide⟩ ?_
  subst hF
  rw [← Option.some.inj h]
  exact ⟨rfl, rfl⟩
noncomputable def D_X8_areMany_18 (P : Nat) (y0_18 : Int32) (M_18 : zMt) : Option (Int32 × zMt) :=
  some (y0_18, M_18)
noncomputable def D_X8_areMany (P : Nat) (M : zMt) : Option (Int32 × zMt) :=
  zB (D_X8_laysApplicants P M) fun e_1 =>
  if (e_1 P 33) ≤ (7 : Int32) then
    D_X8_areMany_18 P (0 : Int32) e_1
  else
    D_X8_areMany_18 P (1 : Int32) e_1
set_option maxRecDepth 100000 in
set_option maxHeartbeats 4000000 in
theorem t_X8_areMany {l : Launch} {G : zG} {b : Nat} {L : List zC} {M : zMt} {N : zNt} {P : Nat}  (hP : LX8 L P) {r : Int32 × zMt} (h : D_X8_areMany P M = some r) : zM l G b yX8_areMany cX8_areMany 1 (some .boolean) 3 0 0 [.ref P] (L, M, N) (fun r2 z => r2 = some (.int r.1) ∧ z = (L, r.2, N) ∧ (r.1 = 0 ∨ r.1 = 1)) := by
  refine zM.of miX8_areMany (Nat.le_of_ble_eq_true rfl) ?_
  intro p e s m args below meth c X hr hname
  generalize hF : ((fun r2 z => r2 = some (.int r.1) ∧ z = (L, r.2, N) ∧ (r.1 = 0 ∨ r.1 = 1)) : Option Value → zS → Prop) = FQ
  change Zw p l e { frames := 3, cells := 0, slots := 0, locals := 80 * (3) } s m args below meth c G b 1 (MQ below (zQ G b FQ) args s 0 0 (fun q : Nat => b ≤ q)) 0 0 0 [some (.ref P)] [] (L, M, N)
  have p_lt := hP.1
  have p_o := hP.2.1
  have J_18 : ∀ (y0_18 : Int32) (M_18 : zMt), (y0_18 = 0 ∨ y0_18 = 1) → D_X8_areMany_18 P y0_18 M_18 = some r → Zw p l e { frames := 3, cells := 0, slots := 0, locals := 80 * (3) } s m args below meth c G b 1 (MQ below (zQ G b FQ) args s 0 0 (fun q : Nat => b ≤ q)) 0 0 18 [some (.ref (P))] [.int y0_18] (L, M_18, N) := by
    intro y0_18 M_18 fb_y0_18 h
    unfold D_X8_areMany_18 at h
    refine a_zret X (by first | exact Or.inl rfl | exact Or.inr rfl | assumption) hr dX8_areMany_18 ⟨by decide, by decide⟩ ?_
    subst hF
    rw [← Option.some.inj h]
    exact ⟨rfl, rfl, (by first | exact Or.inl rfl | exact Or.inr rfl | assumption)⟩
  unfold D_X8_areMany at h
  refine a_aload_n X dX8_areMany_0 rfl ?_
  obtain ⟨e_1, f_1, h⟩ := zBx h
  refine a_callVu X dX8_areMany_1 miX8_laysApplicants lm8_281 (t_X8_laysApplicants (by first | exact hP | assumption) f_1) (by first | exact p_o | assumption) rfl rfl rfl (Nat.le_of_ble_eq_true rfl) ⟨by decide, by decide, by decide, by decide⟩ ?_
  refine a_aload_n X dX8_areMany_4 rfl ?_
  refine a_geti X lf8_275 (by first | exact p_o | assumption) rfl dX8_areMany_5 ?_
  refine a_bipush (v := 7) X dX8_areMany_8 (by decide) ?_
  refine a_icmp_le (tgt := 17) X dX8_areMany_10 (by decide) (fun h_10 => ?_) (fun h_10 => ?_)
  · replace h := (if_pos h_10).symm.trans h
    refine a_iconst (v := 0) X dX8_areMany_17 (by decide) ?_
    exact Zw.to2 (J_18 _ _ (by first | exact Or.inl rfl | exact Or.inr rfl | assumption) h) rfl rfl rfl
  · replace h := (if_neg h_10).symm.trans h
    refine a_iconst (v := 1) X dX8_areMany_13 (by decide) ?_
    refine a_goto (tgt := 18) X dX8_areMany_14 (by decide) ?_
    exact Zw.to2 (J_18 _ _ (by first | exact Or.inl rfl | exact Or.inr rfl | assumption) h) rfl rfl rfl
noncomputable def D_X8_chanceOf_5 (P : Nat) (M : zMt) (N : zNt) : Nat → Int32 → Int64 → Int32 → Option (Int64)
  | 0, _, _, _ => none
  | n + 1, x1_5, x2_5, x4_5 =>
    if (M P 7) ≤ x4_5 then
      some (x2_5)
    else
      zI (((5 : Int32) * x1_5) + x4_5) 35 <|
      (D_X8_chanceOf_5 P M N n) x1_5 (x2_5 + (N (P + 24) (((5 : Int32) * x1_5) + x4_5).toNatClampNeg)) (x4_5 + 1)
noncomputable def D_X8_chanceOf (P : Nat) (M : zMt) (N : zNt) (v0 : Int32) : Option (Int64) :=
  D_X8_chanceOf_5 P M N zFu v0 (0 : Int64) (0 : Int32)
set_option maxRecDepth 100000 in
set_option maxHeartbeats 4000000 in
theorem t_X8_chanceOf {l : Launch} {G : zG} {b : Nat} {L : List zC} {M : zMt} {N : zNt} {P : Nat} {v0 : Int32} (hP : LX8 L P) {r : Int64} (h : D_X8_chanceOf P M N v0 = some r) : zM l G b yX8_chanceOf cX8_chanceOf 5 (some .long) 0 0 0 [.ref P, .int v0] (L, M, N) (fun r2 z => r2 = some (.long r) ∧ z = (L, M, N)) := by
  refine zM.of miX8_chanceOf (Nat.le_of_ble_eq_true rfl) ?_
  intro p e s m args below meth c X hr hname
  generalize hF : ((fun r2 z => r2 = some (.long r) ∧ z = (L, M, N)) : Option Value → zS → Prop) = FQ
  change Zw p l e { frames := 0, cells := 0, slots := 0, locals := 80 * (0) } s m args below meth c G b 5 (MQ below (zQ G b FQ) args s 0 0 (fun q : Nat => b ≤ q)) 0 0 0 [some (.ref P), some (.int v0), none, none, none] [] (L, M, N)
  have p_lt := hP.1
  have p_o := hP.2.1
  have p_sumAt := hP.2.2.2.2.2.2.2.2.2.2.2.2.2.2.2.2.2.2.2.2.2.2.2.2.2.1
  have L_5 : ∀ u : Nat, ∀ (x1_5 : Int32) (x2_5 : Int64) (x4_5 : Int32), D_X8_chanceOf_5 P M N u x1_5 x2_5 x4_5 = some r → Zw p l e { frames := 0, cells := 0, slots := 0, locals := 80 * (0) } s m args below meth c G b 5 (MQ below (zQ G b FQ) args s 0 0 (fun q : Nat => b ≤ q)) 0 0 5 [some (.ref (P)), some (.int x1_5), some (.long x2_5), none, some (.int x4_5)] [] (L, M, N) := by
    intro u
    induction u with
    | zero => intro x1_5 x2_5 x4_5 h; cases (show none = some r from h)
    | succ u_5 ih_5 =>
      intro x1_5 x2_5 x4_5 h
      rw [D_X8_chanceOf_5] at h
      refine a_iload X dX8_chanceOf_5 rfl ?_
      refine a_aload_n X dX8_chanceOf_7 rfl ?_
      refine a_geti X lf8_125 (by first | exact p_o | assumption) rfl dX8_chanceOf_8 ?_
      refine a_icmp_ge (tgt := 34) X dX8_chanceOf_11 (by decide) (fun h_11 => ?_) (fun h_11 => ?_)
      · replace h := (if_pos h_11).symm.trans h
        refine a_lload_n X dX8_chanceOf_34 rfl ?_
        refine a_lret X hr dX8_chanceOf_35 ⟨by decide, by decide⟩ ?_
        subst hF
        rw [← Option.some.inj h]
        exact ⟨rfl, rfl⟩
      · replace h := (if_neg h_11).symm.trans h
        refine a_lload_n X dX8_chanceOf_14 rfl ?_
        refine a_aload_n X dX8_chanceOf_15 rfl ?_
        refine a_getr X lf8_88 (by first | exact p_o | assumption) rfl (by omega) dX8_chanceOf_16 ?_
        refine a_iconst (v := 5) X dX8_chanceOf_19 (by decide) ?_
        refine a_iload_n X dX8_chanceOf_20 rfl ?_
        refine a_imul X dX8_chanceOf_21 ?_
        refine a_iload X dX8_chanceOf_22 rfl ?_
        refine a_iadd X dX8_chanceOf_24 ?_
        obtain ⟨g_25, h⟩ := zIx h
        refine a_laload X (by first | exact p_sumAt | assumption) g_25 dX8_chanceOf_25 ?_
        refine a_ladd X dX8_chanceOf_26 ?_
        refine a_lstore_n X dX8_chanceOf_27 (by decide) ?_
        refine a_iinc (v := x4_5 + 1) X dX8_chanceOf_28 (by decide) rfl zi_1 ?_
        refine a_goto (tgt := 5) X dX8_chanceOf_31 (by decide) ?_
        exact Zw.to2 (ih_5 _ _ _ h) rfl rfl rfl
  have H_5 : ∀ (x1_5 : Int32) (x2_5 : Int64) (x4_5 : Int32), D_X8_chanceOf_5 P M N zFu x1_5 x2_5 x4_5 = some r → Zw p l e { frames := 0, cells := 0, slots := 0, locals := 80 * (0) } s m args below meth c G b 5 (MQ below (zQ G b FQ) args s 0 0 (fun q : Nat => b ≤ q)) 0 0 5 [some (.ref (P)), some (.int x1_5), some (.long x2_5), none, some (.int x4_5)] [] (L, M, N) := L_5 zFu
  unfold D_X8_chanceOf at h
  refine a_lconst (v := 0) X dX8_chanceOf_0 (by decide) ?_
  refine a_lstore_n X dX8_chanceOf_1 (by decide) ?_
  refine a_iconst (v := 0) X dX8_chanceOf_2 (by decide) ?_
  refine a_istore X dX8_chanceOf_3 (by decide) ?_
  exact Zw.to2 (H_5 _ _ _ h) rfl rfl rfl
noncomputable def D_X8_chance_85 (P : Nat) (y1_85 : Int64) (M_85 : zMt) (N_85 : zNt) : Option (Int64 × zMt × zNt) :=
  zB (D_X8_givesLong P y1_85 M_85) fun e_85 =>
  some (e_85.1, e_85.2, N_85)
noncomputable def D_X8_chance (P : Nat) (v0 : Int32) (v1 : Int32) (M : zMt) (N : zNt) : Option (Int64 × zMt × zNt) :=
  zB (D_X8_isFrom (Int32.toInt64 v1) (0 : Int64) (2 : Int64)) fun e_6 =>
  if e_6 = 0 then
    zB (D_X8_refuse P (1 : Int32) M) fun e_14 =>
    some ((Int32.toInt64 e_14.1), e_14.2, N)
  else
    zB (D_X8_isApplicant P v0 M) fun e_21 =>
    if e_21.1 = 0 then
      zB (D_X8_refuse P (2 : Int32) e_21.2) fun e_29 =>
      some ((Int32.toInt64 e_29.1), e_29.2, N)
    else
      zB (D_X8_areMany P e_21.2) fun e_35 =>
      if e_35.1 = 0 then
        zB (D_X8_laysAll P e_35.2 N) fun e_49 =>
        if v1 = 0 then
          zB (D_X8_chanceOf P e_49.1 e_49.2 v0) fun e_59 =>
          D_X8_chance_85 P e_59 e_49.1 e_49.2
        else
          if v1 = (1 : Int32) then
            zI v0 7 <|
            D_X8_chance_85 P (e_49.2 (P + 25) v0.toNatClampNeg) e_49.1 e_49.2
          else
            zI v0 7 <|
            D_X8_chance_85 P (e_49.2 (P + 26) v0.toNatClampNeg) e_49.1 e_49.2
      else
        zB (D_X8_refuse P (3 : Int32) e_35.2) fun e_43 =>
        some ((Int32.toInt64 e_43.1), e_43.2, N)
set_option maxRecDepth 100000 in
set_option maxHeartbeats 4000000 in
theorem t_X8_chance {l : Launch} {G : zG} {b : Nat} {L : List zC} {M : zMt} {N : zNt} {P : Nat} {v0 : Int32} {v1 : Int32} (hP : LX8 L P) {r : Int64 × zMt × zNt} (h : D_X8_chance P v0 v1 M N = some r) : zM l G b yX8_chance cX8_chance 3 (some .long) 14 0 0 [.ref P, .int v0, .int v1] (L, M, N) (fun r2 z => r2 = some (.long r.1) ∧ z = (L, r.2.1, r.2.2)) := by
  refine zM.of miX8_chance (Nat.le_of_ble_eq_true rfl) ?_
  intro p e s m args below meth c X hr hname
  generalize hF : ((fun r2 z => r2 = some (.long r.1) ∧ z = (L, r.2.1, r.2.2)) : Option Value → zS → Prop) = FQ
  change Zw p l e { frames := 14, cells := 0, slots := 0, locals := 80 * (14) } s m args below meth c G b 3 (MQ below (zQ G b FQ) args s 0 0 (fun q : Nat => b ≤ q)) 0 0 0 [some (.ref P), some (.int v0), some (.int v1)] [] (L, M, N)
  have p_lt := hP.1
  have p_o := hP.2.1
  have p_sumFirst := hP.2.2.2.2.2.2.2.2.2.2.2.2.2.2.2.2.2.2.2.2.2.2.2.2.2.2.1
  have p_sumRound := hP.2.2.2.2.2.2.2.2.2.2.2.2.2.2.2.2.2.2.2.2.2.2.2.2.2.2.2.1
  have J_85 : ∀ (x1_85 : Int32) (x2_85 : Int32) (y1_85 : Int64) (M_85 : zMt) (N_85 : zNt), D_X8_chance_85 P y1_85 M_85 N_85 = some r → Zw p l e { frames := 14, cells := 0, slots := 0, locals := 80 * (14) } s m args below meth c G b 3 (MQ below (zQ G b FQ) args s 0 0 (fun q : Nat => b ≤ q)) 0 0 85 [some (.ref (P)), some (.int x1_85), some (.int x2_85)] [.long y1_85, .ref (P)] (L, M_85, N_85) := by
    intro x1_85 x2_85 y1_85 M_85 N_85 h
    unfold D_X8_chance_85 at h
    obtain ⟨e_85, f_85, h⟩ := zBx h
    refine a_callVv X dX8_chance_85 miX8_givesLong lm8_438 (t_X8_givesLong (by first | exact hP | assumption) f_85) (by first | exact p_o | assumption) rfl rfl rfl (Nat.le_of_ble_eq_true rfl) ⟨by decide, by decide, by decide, by decide⟩ ?_
    refine a_lret X hr dX8_chance_88 ⟨by decide, by decide⟩ ?_
    subst hF
    rw [← Option.some.inj h]
    exact ⟨rfl, rfl⟩
  unfold D_X8_chance at h
  refine a_iload_n X dX8_chance_0 rfl ?_
  refine a_i2l X dX8_chance_1 ?_
  refine a_lconst (v := 0) X dX8_chance_2 (by decide) ?_
  refine a_ldc2 X dX8_chance_3 lk8_427 ?_
  obtain ⟨e_6, f_6, h⟩ := zBx h
  refine a_callSx X dX8_chance_6 miX8_isFrom lm8_128 (t_X8_isFrom f_6) rfl rfl (Nat.le_of_ble_eq_true rfl) ⟨by decide, by decide, by decide, by decide⟩ (fun r_6 S_6 q_6 => ?_)
  obtain ⟨rfl, rfl, b_6⟩ := q_6
  refine a_if_ne (tgt := 19) X dX8_chance_9 (by decide) (fun h_9 => ?_) (fun h_9 => ?_)
  · replace h := (if_neg h_9).symm.trans h
    refine a_aload_n X dX8_chance_19 rfl ?_
    refine a_iload_n X dX8_chance_20 rfl ?_
    obtain ⟨e_21, f_21, h⟩ := zBx h
    refine a_callVx X dX8_chance_21 miX8_isApplicant lm8_315 (t_X8_isApplicant (by first | exact hP | assumption) f_21) (by first | exact p_o | assumption) rfl rfl rfl (Nat.le_of_ble_eq_true rfl) ⟨by decide, by decide, by decide, by decide⟩ (fun r_21 S_21 q_21 => ?_)
    obtain ⟨rfl, rfl, b_21⟩ := q_21
    refine a_if_ne (tgt := 34) X dX8_chance_24 (by decide) (fun h_24 => ?_) (fun h_24 => ?_)
    · replace h := (if_neg h_24).symm.trans h
      refine a_aload_n X dX8_chance_34 rfl ?_
      obtain ⟨e_35, f_35, h⟩ := zBx h
      refine a_callVx X dX8_chance_35 miX8_areMany lm8_429 (t_X8_areMany (by first | exact hP | assumption) f_35) (by first | exact p_o | assumption) rfl rfl rfl (Nat.le_of_ble_eq_true rfl) ⟨by decide, by decide, by decide, by decide⟩ (fun r_35 S_35 q_35 => ?_)
      obtain ⟨rfl, rfl, b_35⟩ := q_35
      refine a_if_eq (tgt := 48) X dX8_chance_38 (by decide) (fun h_38 => ?_) (fun h_38 => ?_)
      · replace h := (if_pos h_38).symm.trans h
        refine a_aload_n X dX8_chance_48 rfl ?_
        obtain ⟨e_49, f_49, h⟩ := zBx h
        refine a_callVu X dX8_chance_49 miX8_laysAll lm8_432 (t_X8_laysAll (by first | exact hP | assumption) f_49) (by first | exact p_o | assumption) rfl rfl rfl (Nat.le_of_ble_eq_true rfl) ⟨by decide, by decide, by decide, by decide⟩ ?_
        refine a_aload_n X dX8_chance_52 rfl ?_
        refine a_iload_n X dX8_chance_53 rfl ?_
        refine a_if_ne (tgt := 65) X dX8_chance_54 (by decide) (fun h_54 => ?_) (fun h_54 => ?_)
        · replace h := (if_neg h_54).symm.trans h
          refine a_iload_n X dX8_chance_65 rfl ?_
          refine a_iconst (v := 1) X dX8_chance_66 (by decide) ?_
          refine a_icmp_ne (tgt := 79) X dX8_chance_67 (by decide) (fun h_67 => ?_) (fun h_67 => ?_)
          · replace h := (if_neg h_67).symm.trans h
            refine a_aload_n X dX8_chance_79 rfl ?_
            refine a_getr X lf8_94 (by first | exact p_o | assumption) rfl (by omega) dX8_chance_80 ?_
            refine a_iload_n X dX8_chance_83 rfl ?_
            obtain ⟨g_84, h⟩ := zIx h
            refine a_laload X (by first | exact p_sumRound | assumption) g_84 dX8_chance_84 ?_
            exact Zw.to2 (J_85 _ _ _ _ _ h) rfl rfl rfl
          · replace h := (if_pos h_67).symm.trans h
            refine a_aload_n X dX8_chance_70 rfl ?_
            refine a_getr X lf8_91 (by first | exact p_o | assumption) rfl (by omega) dX8_chance_71 ?_
            refine a_iload_n X dX8_chance_74 rfl ?_
            obtain ⟨g_75, h⟩ := zIx h
            refine a_laload X (by first | exact p_sumFirst | assumption) g_75 dX8_chance_75 ?_
            refine a_goto (tgt := 85) X dX8_chance_76 (by decide) ?_
            exact Zw.to2 (J_85 _ _ _ _ _ h) rfl rfl rfl
        · replace h := (if_pos h_54).symm.trans h
          refine a_aload_n X dX8_chance_57 rfl ?_
          refine a_iload_n X dX8_chance_58 rfl ?_
          obtain ⟨e_59, f_59, h⟩ := zBx h
          refine a_callVv X dX8_chance_59 miX8_chanceOf lm8_435 (t_X8_chanceOf (by first | exact hP | assumption) f_59) (by first | exact p_o | assumption) rfl rfl rfl (Nat.le_of_ble_eq_true rfl) ⟨by decide, by decide, by decide, by decide⟩ ?_
          refine a_goto (tgt := 85) X dX8_chance_62 (by decide) ?_
          exact Zw.to2 (J_85 _ _ _ _ _ h) rfl rfl rfl
      · replace h := (if_neg h_38).symm.trans h
        refine a_aload_n X dX8_chance_41 rfl ?_
        refine a_iconst (v := 3) X dX8_chance_42 (by decide) ?_
        obtain ⟨e_43, f_43, h⟩ := zBx h
        refine a_callVv X dX8_chance_43 miX8_refuse lm8_263 (t_X8_refuse (by first | exact hP | assumption) f_43) (by first | exact p_o | assumption) rfl rfl rfl (Nat.le_of_ble_eq_true rfl) ⟨by decide, by decide, by decide, by decide⟩ ?_
        refine a_i2l X dX8_chance_46 ?_
        refine a_lret X hr dX8_chance_47 ⟨by decide, by decide⟩ ?_
        subst hF
        rw [← Option.some.inj h]
        exact ⟨rfl, rfl⟩
    · replace h := (if_pos h_24).symm.trans h
      refine a_aload_n X dX8_chance_27 rfl ?_
      refine a_iconst (v := 2) X dX8_chance_28 (by decide) ?_
      obtain ⟨e_29, f_29, h⟩ := zBx h
      refine a_callVv X dX8_chance_29 miX8_refuse lm8_263 (t_X8_refuse (by first | exact hP | assumption) f_29) (by first | exact p_o | assumption) rfl rfl rfl (Nat.le_of_ble_eq_true rfl) ⟨by decide, by decide, by decide, by decide⟩ ?_
      refine a_i2l X dX8_chance_32 ?_
      refine a_lret X hr dX8_chance_33 ⟨by decide, by decide⟩ ?_
      subst hF
      rw [← Option.some.inj h]
      exact ⟨rfl, rfl⟩
  · replace h := (if_pos h_9).symm.trans h
    refine a_aload_n X dX8_chance_12 rfl ?_
    refine a_iconst (v := 1) X dX8_chance_13 (by decide) ?_
    obtain ⟨e_14, f_14, h⟩ := zBx h
    refine a_callVv X dX8_chance_14 miX8_refuse lm8_263 (t_X8_refuse (by first | exact hP | assumption) f_14) (by first | exact p_o | assumption) rfl rfl rfl (Nat.le_of_ble_eq_true rfl) ⟨by decide, by decide, by decide, by decide⟩ ?_
    refine a_i2l X dX8_chance_17 ?_
    refine a_lret X hr dX8_chance_18 ⟨by decide, by decide⟩ ?_
    subst hF
    rw [← Option.some.inj h]
    exact ⟨rfl, rfl⟩
noncomputable def D_X8_at_16 (P : Nat) (M_16 : zMt) (N_16 : zNt) : Option (Int64 × zMt × zNt) :=
  zB (D_X8_refuse P (2 : Int32) M_16) fun e_18 =>
  some ((Int32.toInt64 e_18.1), e_18.2, N_16)
noncomputable def D_X8_at (P : Nat) (v0 : Int32) (v1 : Int32) (M : zMt) (N : zNt) : Option (Int64 × zMt × zNt) :=
  zB (D_X8_isApplicant P v0 M) fun e_2 =>
  if e_2.1 = 0 then
    D_X8_at_16 P e_2.2 N
  else
    zB (D_X8_isUnit P e_2.2 v1) fun e_10 =>
    if e_10 = 0 then
      D_X8_at_16 P e_2.2 N
    else
      zB (D_X8_areMany P e_2.2) fun e_24 =>
      if e_24.1 = 0 then
        zB (D_X8_laysAll P e_24.2 N) fun e_38 =>
        zI (((5 : Int32) * v0) + v1) 35 <|
        zB (D_X8_givesLong P (e_38.2 (P + 24) (((5 : Int32) * v0) + v1).toNatClampNeg) e_38.1) fun e_52 =>
        some (e_52.1, e_52.2, e_38.2)
      else
        zB (D_X8_refuse P (3 : Int32) e_24.2) fun e_32 =>
        some ((Int32.toInt64 e_32.1), e_32.2, N)
set_option maxRecDepth 100000 in
set_option maxHeartbeats 4000000 in
theorem t_X8_at {l : Launch} {G : zG} {b : Nat} {L : List zC} {M : zMt} {N : zNt} {P : Nat} {v0 : Int32} {v1 : Int32} (hP : LX8 L P) {r : Int64 × zMt × zNt} (h : D_X8_at P v0 v1 M N = some r) : zM l G b yX8_at cX8_at 3 (some .long) 14 0 0 [.ref P, .int v0, .int v1] (L, M, N) (fun r2 z => r2 = some (.long r.1) ∧ z = (L, r.2.1, r.2.2)) := by
  refine zM.of miX8_at (Nat.le_of_ble_eq_true rfl) ?_
  intro p e s m args below meth c X hr hname
  generalize hF : ((fun r2 z => r2 = some (.long r.1) ∧ z = (L, r.2.1, r.2.2)) : Option Value → zS → Prop) = FQ
  change Zw p l e { frames := 14, cells := 0, slots := 0, locals := 80 * (14) } s m args below meth c G b 3 (MQ below (zQ G b FQ) args s 0 0 (fun q : Nat => b ≤ q)) 0 0 0 [some (.ref P), some (.int v0), some (.int v1)] [] (L, M, N)
  have p_lt := hP.1
  have p_o := hP.2.1
  have p_sumAt := hP.2.2.2.2.2.2.2.2.2.2.2.2.2.2.2.2.2.2.2.2.2.2.2.2.2.1
  have J_16 : ∀ (x1_16 : Int32) (x2_16 : Int32) (M_16 : zMt) (N_16 : zNt), D_X8_at_16 P M_16 N_16 = some r → Zw p l e { frames := 14, cells := 0, slots := 0, locals := 80 * (14) } s m args below meth c G b 3 (MQ below (zQ G b FQ) args s 0 0 (fun q : Nat => b ≤ q)) 0 0 16 [some (.ref (P)), some (.int x1_16), some (.int x2_16)] [] (L, M_16, N_16) := by
    intro x1_16 x2_16 M_16 N_16 h
    unfold D_X8_at_16 at h
    refine a_aload_n X dX8_at_16 rfl ?_
    refine a_iconst (v := 2) X dX8_at_17 (by decide) ?_
    obtain ⟨e_18, f_18, h⟩ := zBx h
    refine a_callVv X dX8_at_18 miX8_refuse lm8_263 (t_X8_refuse (by first | exact hP | assumption) f_18) (by first | exact p_o | assumption) rfl rfl rfl (Nat.le_of_ble_eq_true rfl) ⟨by decide, by decide, by decide, by decide⟩ ?_
    refine a_i2l X dX8_at_21 ?_
    refine a_lret X hr dX8_at_22 ⟨by decide, by decide⟩ ?_
    subst hF
    rw [← Option.some.inj h]
    exact ⟨rfl, rfl⟩
  unfold D_X8_at at h
  refine a_aload_n X dX8_at_0 rfl ?_
  refine a_iload_n X dX8_at_1 rfl ?_
  obtain ⟨e_2, f_2, h⟩ := zBx h
  refine a_callVx X dX8_at_2 miX8_isApplicant lm8_315 (t_X8_isApplicant (by first | exact hP | assumption) f_2) (by first | exact p_o | assumption) rfl rfl rfl (Nat.le_of_ble_eq_true rfl) ⟨by decide, by decide, by decide, by decide⟩ (fun r_2 S_2 q_2 => ?_)
  obtain ⟨rfl, rfl, b_2⟩ := q_2
  refine a_if_eq (tgt := 16) X dX8_at_5 (by decide) (fun h_5 => ?_) (fun h_5 => ?_)
  · replace h := (if_pos h_5).symm.trans h
    exact Zw.to2 (J_16 _ _ _ _ h) rfl rfl rfl
  · replace h := (if_neg h_5).symm.trans h
    refine a_aload_n X dX8_at_8 rfl ?_
    refine a_iload_n X dX8_at_9 rfl ?_
    obtain ⟨e_10, f_10, h⟩ := zBx h
    refine a_callVx X dX8_at_10 miX8_isUnit lm8_301 (t_X8_isUnit (by first | exact hP | assumption) f_10) (by first | exact p_o | assumption) rfl rfl rfl (Nat.le_of_ble_eq_true rfl) ⟨by decide, by decide, by decide, by decide⟩ (fun r_10 S_10 q_10 => ?_)
    obtain ⟨rfl, rfl, b_10⟩ := q_10
    refine a_if_ne (tgt := 23) X dX8_at_13 (by decide) (fun h_13 => ?_) (fun h_13 => ?_)
    · replace h := (if_neg h_13).symm.trans h
      refine a_aload_n X dX8_at_23 rfl ?_
      obtain ⟨e_24, f_24, h⟩ := zBx h
      refine a_callVx X dX8_at_24 miX8_areMany lm8_429 (t_X8_areMany (by first | exact hP | assumption) f_24) (by first | exact p_o | assumption) rfl rfl rfl (Nat.le_of_ble_eq_true rfl) ⟨by decide, by decide, by decide, by decide⟩ (fun r_24 S_24 q_24 => ?_)
      obtain ⟨rfl, rfl, b_24⟩ := q_24
      refine a_if_eq (tgt := 37) X dX8_at_27 (by decide) (fun h_27 => ?_) (fun h_27 => ?_)
      · replace h := (if_pos h_27).symm.trans h
        refine a_aload_n X dX8_at_37 rfl ?_
        obtain ⟨e_38, f_38, h⟩ := zBx h
        refine a_callVu X dX8_at_38 miX8_laysAll lm8_432 (t_X8_laysAll (by first | exact hP | assumption) f_38) (by first | exact p_o | assumption) rfl rfl rfl (Nat.le_of_ble_eq_true rfl) ⟨by decide, by decide, by decide, by decide⟩ ?_
        refine a_aload_n X dX8_at_41 rfl ?_
        refine a_aload_n X dX8_at_42 rfl ?_
        refine a_getr X lf8_88 (by first | exact p_o | assumption) rfl (by omega) dX8_at_43 ?_
        refine a_iconst (v := 5) X dX8_at_46 (by decide) ?_
        refine a_iload_n X dX8_at_47 rfl ?_
        refine a_imul X dX8_at_48 ?_
        refine a_iload_n X dX8_at_49 rfl ?_
        refine a_iadd X dX8_at_50 ?_
        obtain ⟨g_51, h⟩ := zIx h
        refine a_laload X (by first | exact p_sumAt | assumption) g_51 dX8_at_51 ?_
        obtain ⟨e_52, f_52, h⟩ := zBx h
        refine a_callVv X dX8_at_52 miX8_givesLong lm8_438 (t_X8_givesLong (by first | exact hP | assumption) f_52) (by first | exact p_o | assumption) rfl rfl rfl (Nat.le_of_ble_eq_true rfl) ⟨by decide, by decide, by decide, by decide⟩ ?_
        refine a_lret X hr dX8_at_55 ⟨by decide, by decide⟩ ?_
        subst hF
        rw [← Option.some.inj h]
        exact ⟨rfl, rfl⟩
      · replace h := (if_neg h_27).symm.trans h
        refine a_aload_n X dX8_at_30 rfl ?_
        refine a_iconst (v := 3) X dX8_at_31 (by decide) ?_
        obtain ⟨e_32, f_32, h⟩ := zBx h
        refine a_callVv X dX8_at_32 miX8_refuse lm8_263 (t_X8_refuse (by first | exact hP | assumption) f_32) (by first | exact p_o | assumption) rfl rfl rfl (Nat.le_of_ble_eq_true rfl) ⟨by decide, by decide, by decide, by decide⟩ ?_
        refine a_i2l X dX8_at_35 ?_
        refine a_lret X hr dX8_at_36 ⟨by decide, by decide⟩ ?_
        subst hF
        rw [← Option.some.inj h]
        exact ⟨rfl, rfl⟩
    · replace h := (if_pos h_13).symm.trans h
      exact Zw.to2 (J_16 _ _ _ _ h) rfl rfl rfl
noncomputable def D_X8_both_16 (P : Nat) (M_16 : zMt) (N_16 : zNt) : Option (Int64 × zMt × zNt) :=
  zB (D_X8_refuse P (2 : Int32) M_16) fun e_18 =>
  some ((Int32.toInt64 e_18.1), e_18.2, N_16)
noncomputable def D_X8_both (P : Nat) (v0 : Int32) (v1 : Int32) (M : zMt) (N : zNt) : Option (Int64 × zMt × zNt) :=
  zB (D_X8_isApplicant P v0 M) fun e_2 =>
  if e_2.1 = 0 then
    D_X8_both_16 P e_2.2 N
  else
    zB (D_X8_isApplicant P v1 e_2.2) fun e_10 =>
    if e_10.1 = 0 then
      D_X8_both_16 P e_10.2 N
    else
      if v0 = v1 then
        zB (D_X8_refuse P (4 : Int32) e_10.2) fun e_30 =>
        some ((Int32.toInt64 e_30.1), e_30.2, N)
      else
        zB (D_X8_areMany P e_10.2) fun e_36 =>
        if e_36.1 = 0 then
          zB (D_X8_laysAll P e_36.2 N) fun e_50 =>
          zI (((7 : Int32) * v0) + v1) 49 <|
          zB (D_X8_givesLong P (e_50.2 (P + 27) (((7 : Int32) * v0) + v1).toNatClampNeg) e_50.1) fun e_65 =>
          some (e_65.1, e_65.2, e_50.2)
        else
          zB (D_X8_refuse P (3 : Int32) e_36.2) fun e_44 =>
          some ((Int32.toInt64 e_44.1), e_44.2, N)
set_option maxRecDepth 100000 in
set_option maxHeartbeats 4000000 in
theorem t_X8_both {l : Launch} {G : zG} {b : Nat} {L : List zC} {M : zMt} {N : zNt} {P : Nat} {v0 : Int32} {v1 : Int32} (hP : LX8 L P) {r : Int64 × zMt × zNt} (h : D_X8_both P v0 v1 M N = some r) : zM l G b yX8_both cX8_both 3 (some .long) 14 0 0 [.ref P, .int v0, .int v1] (L, M, N) (fun r2 z => r2 = some (.long r.1) ∧ z = (L, r.2.1, r.2.2)) := by
  refine zM.of miX8_both (Nat.le_of_ble_eq_true rfl) ?_
  intro p e s m args below meth c X hr hname
  generalize hF : ((fun r2 z => r2 = some (.long r.1) ∧ z = (L, r.2.1, r.2.2)) : Option Value → zS → Prop) = FQ
  change Zw p l e { frames := 14, cells := 0, slots := 0, locals := 80 * (14) } s m args below meth c G b 3 (MQ below (zQ G b FQ) args s 0 0 (fun q : Nat => b ≤ q)) 0 0 0 [some (.ref P), some (.int v0), some (.int v1)] [] (L, M, N)
  have p_lt := hP.1
  have p_o := hP.2.1
  have p_sumBoth := hP.2.2.2.2.2.2.2.2.2.2.2.2.2.2.2.2.2.2.2.2.2.2.2.2.2.2.2.2.1
  have J_16 : ∀ (x1_16 : Int32) (x2_16 : Int32) (M_16 : zMt) (N_16 : zNt), D_X8_both_16 P M_16 N_16 = some r → Zw p l e { frames := 14, cells := 0, slots := 0, locals := 80 * (14) } s m args below meth c G b 3 (MQ below (zQ G b FQ) args s 0 0 (fun q : Nat => b ≤ q)) 0 0 16 [some (.ref (P)), some (.int x1_16), some (.int x2_16)] [] (L, M_16, N_16) := by
    intro x1_16 x2_16 M_16 N_16 h
    unfold D_X8_both_16 at h
    refine a_aload_n X dX8_both_16 rfl ?_
    refine a_iconst (v := 2) X dX8_both_17 (by decide) ?_
    obtain ⟨e_18, f_18, h⟩ := zBx h
    refine a_callVv X dX8_both_18 miX8_refuse lm8_263 (t_X8_refuse (by first | exact hP | assumption) f_18) (by first | exact p_o | assumption) rfl rfl rfl (Nat.le_of_ble_eq_true rfl) ⟨by decide, by decide, by decide, by decide⟩ ?_
    refine a_i2l X dX8_both_21 ?_
    refine a_lret X hr dX8_both_22 ⟨by decide, by decide⟩ ?_
    subst hF
    rw [← Option.some.inj h]
    exact ⟨rfl, rfl⟩
  unfold D_X8_both at h
  refine a_aload_n X dX8_both_0 rfl ?_
  refine a_iload_n X dX8_both_1 rfl ?_
  obtain ⟨e_2, f_2, h⟩ := zBx h
  refine a_callVx X dX8_both_2 miX8_isApplicant lm8_315 (t_X8_isApplicant (by first | exact hP | assumption) f_2) (by first | exact p_o | assumption) rfl rfl rfl (Nat.le_of_ble_eq_true rfl) ⟨by decide, by decide, by decide, by decide⟩ (fun r_2 S_2 q_2 => ?_)
  obtain ⟨rfl, rfl, b_2⟩ := q_2
  refine a_if_eq (tgt := 16) X dX8_both_5 (by decide) (fun h_5 => ?_) (fun h_5 => ?_)
  · replace h := (if_pos h_5).symm.trans h
    exact Zw.to2 (J_16 _ _ _ _ h) rfl rfl rfl
  · replace h := (if_neg h_5).symm.trans h
    refine a_aload_n X dX8_both_8 rfl ?_
    refine a_iload_n X dX8_both_9 rfl ?_
    obtain ⟨e_10, f_10, h⟩ := zBx h
    refine a_callVx X dX8_both_10 miX8_isApplicant lm8_315 (t_X8_isApplicant (by first | exact hP | assumption) f_10) (by first | exact p_o | assumption) rfl rfl rfl (Nat.le_of_ble_eq_true rfl) ⟨by decide, by decide, by decide, by decide⟩ (fun r_10 S_10 q_10 => ?_)
    obtain ⟨rfl, rfl, b_10⟩ := q_10
    refine a_if_ne (tgt := 23) X dX8_both_13 (by decide) (fun h_13 => ?_) (fun h_13 => ?_)
    · replace h := (if_neg h_13).symm.trans h
      refine a_iload_n X dX8_both_23 rfl ?_
      refine a_iload_n X dX8_both_24 rfl ?_
      refine a_icmp_ne (tgt := 35) X dX8_both_25 (by decide) (fun h_25 => ?_) (fun h_25 => ?_)
      · replace h := (if_neg h_25).symm.trans h
        refine a_aload_n X dX8_both_35 rfl ?_
        obtain ⟨e_36, f_36, h⟩ := zBx h
        refine a_callVx X dX8_both_36 miX8_areMany lm8_429 (t_X8_areMany (by first | exact hP | assumption) f_36) (by first | exact p_o | assumption) rfl rfl rfl (Nat.le_of_ble_eq_true rfl) ⟨by decide, by decide, by decide, by decide⟩ (fun r_36 S_36 q_36 => ?_)
        obtain ⟨rfl, rfl, b_36⟩ := q_36
        refine a_if_eq (tgt := 49) X dX8_both_39 (by decide) (fun h_39 => ?_) (fun h_39 => ?_)
        · replace h := (if_pos h_39).symm.trans h
          refine a_aload_n X dX8_both_49 rfl ?_
          obtain ⟨e_50, f_50, h⟩ := zBx h
          refine a_callVu X dX8_both_50 miX8_laysAll lm8_432 (t_X8_laysAll (by first | exact hP | assumption) f_50) (by first | exact p_o | assumption) rfl rfl rfl (Nat.le_of_ble_eq_true rfl) ⟨by decide, by decide, by decide, by decide⟩ ?_
          refine a_aload_n X dX8_both_53 rfl ?_
          refine a_aload_n X dX8_both_54 rfl ?_
          refine a_getr X lf8_97 (by first | exact p_o | assumption) rfl (by omega) dX8_both_55 ?_
          refine a_bipush (v := 7) X dX8_both_58 (by decide) ?_
          refine a_iload_n X dX8_both_60 rfl ?_
          refine a_imul X dX8_both_61 ?_
          refine a_iload_n X dX8_both_62 rfl ?_
          refine a_iadd X dX8_both_63 ?_
          obtain ⟨g_64, h⟩ := zIx h
          refine a_laload X (by first | exact p_sumBoth | assumption) g_64 dX8_both_64 ?_
          obtain ⟨e_65, f_65, h⟩ := zBx h
          refine a_callVv X dX8_both_65 miX8_givesLong lm8_438 (t_X8_givesLong (by first | exact hP | assumption) f_65) (by first | exact p_o | assumption) rfl rfl rfl (Nat.le_of_ble_eq_true rfl) ⟨by decide, by decide, by decide, by decide⟩ ?_
          refine a_lret X hr dX8_both_68 ⟨by decide, by decide⟩ ?_
          subst hF
          rw [← Option.some.inj h]
          exact ⟨rfl, rfl⟩
        · replace h := (if_neg h_39).symm.trans h
          refine a_aload_n X dX8_both_42 rfl ?_
          refine a_iconst (v := 3) X dX8_both_43 (by decide) ?_
          obtain ⟨e_44, f_44, h⟩ := zBx h
          refine a_callVv X dX8_both_44 miX8_refuse lm8_263 (t_X8_refuse (by first | exact hP | assumption) f_44) (by first | exact p_o | assumption) rfl rfl rfl (Nat.le_of_ble_eq_true rfl) ⟨by decide, by decide, by decide, by decide⟩ ?_
          refine a_i2l X dX8_both_47 ?_
          refine a_lret X hr dX8_both_48 ⟨by decide, by decide⟩ ?_
          subst hF
          rw [← Option.some.inj h]
          exact ⟨rfl, rfl⟩
      · replace h := (if_pos h_25).symm.trans h
        refine a_aload_n X dX8_both_28 rfl ?_
        refine a_iconst (v := 4) X dX8_both_29 (by decide) ?_
        obtain ⟨e_30, f_30, h⟩ := zBx h
        refine a_callVv X dX8_both_30 miX8_refuse lm8_263 (t_X8_refuse (by first | exact hP | assumption) f_30) (by first | exact p_o | assumption) rfl rfl rfl (Nat.le_of_ble_eq_true rfl) ⟨by decide, by decide, by decide, by decide⟩ ?_
        refine a_i2l X dX8_both_33 ?_
        refine a_lret X hr dX8_both_34 ⟨by decide, by decide⟩ ?_
        subst hF
        rw [← Option.some.inj h]
        exact ⟨rfl, rfl⟩
    · replace h := (if_pos h_13).symm.trans h
      exact Zw.to2 (J_16 _ _ _ _ h) rfl rfl rfl
noncomputable def D_X8_sure_60 (P : Nat) (y1_60 : Int32) (M_60 : zMt) (N_60 : zNt) : Option (Int32 × zMt × zNt) :=
  zB (D_X8_gives P y1_60 M_60) fun e_60 =>
  some (e_60.1, e_60.2, N_60)
noncomputable def D_X8_sure (P : Nat) (v0 : Int32) (M : zMt) (N : zNt) : Option (Int32 × zMt × zNt) :=
  zB (D_X8_isFrom (Int32.toInt64 v0) (0 : Int64) (1 : Int64)) fun e_4 =>
  if e_4 = 0 then
    zB (D_X8_refuse P (1 : Int32) M) fun e_12 =>
    some (e_12.1, e_12.2, N)
  else
    zB (D_X8_areMany P M) fun e_17 =>
    if e_17.1 = 0 then
      zB (D_X8_laysAll P e_17.2 N) fun e_30 =>
      if v0 = 0 then
        D_X8_sure_60 P (e_30.1 P 54) e_30.1 e_30.2
      else
        D_X8_sure_60 P ((((1 : Int32) <<< ((e_30.1 P 33) &&& 31)) - (1 : Int32)) &&& ((e_30.1 P 55) ^^^ (-1 : Int32))) e_30.1 e_30.2
    else
      zB (D_X8_refuse P (3 : Int32) e_17.2) fun e_25 =>
      some (e_25.1, e_25.2, N)
set_option maxRecDepth 100000 in
set_option maxHeartbeats 4000000 in
theorem t_X8_sure {l : Launch} {G : zG} {b : Nat} {L : List zC} {M : zMt} {N : zNt} {P : Nat} {v0 : Int32} (hP : LX8 L P) {r : Int32 × zMt × zNt} (h : D_X8_sure P v0 M N = some r) : zM l G b yX8_sure cX8_sure 2 (some .int) 14 0 0 [.ref P, .int v0] (L, M, N) (fun r2 z => r2 = some (.int r.1) ∧ z = (L, r.2.1, r.2.2)) := by
  refine zM.of miX8_sure (Nat.le_of_ble_eq_true rfl) ?_
  intro p e s m args below meth c X hr hname
  generalize hF : ((fun r2 z => r2 = some (.int r.1) ∧ z = (L, r.2.1, r.2.2)) : Option Value → zS → Prop) = FQ
  change Zw p l e { frames := 14, cells := 0, slots := 0, locals := 80 * (14) } s m args below meth c G b 2 (MQ below (zQ G b FQ) args s 0 0 (fun q : Nat => b ≤ q)) 0 0 0 [some (.ref P), some (.int v0)] [] (L, M, N)
  have p_lt := hP.1
  have p_o := hP.2.1
  have J_60 : ∀ (x1_60 : Int32) (y1_60 : Int32) (M_60 : zMt) (N_60 : zNt), D_X8_sure_60 P y1_60 M_60 N_60 = some r → Zw p l e { frames := 14, cells := 0, slots := 0, locals := 80 * (14) } s m args below meth c G b 2 (MQ below (zQ G b FQ) args s 0 0 (fun q : Nat => b ≤ q)) 0 0 60 [some (.ref (P)), some (.int x1_60)] [.int y1_60, .ref (P)] (L, M_60, N_60) := by
    intro x1_60 y1_60 M_60 N_60 h
    unfold D_X8_sure_60 at h
    obtain ⟨e_60, f_60, h⟩ := zBx h
    refine a_callVv X dX8_sure_60 miX8_gives lm8_272 (t_X8_gives (by first | exact hP | assumption) f_60) (by first | exact p_o | assumption) rfl rfl rfl (Nat.le_of_ble_eq_true rfl) ⟨by decide, by decide, by decide, by decide⟩ ?_
    refine a_iret X hr dX8_sure_63 ⟨by decide, by decide⟩ ?_
    subst hF
    rw [← Option.some.inj h]
    exact ⟨rfl, rfl⟩
  unfold D_X8_sure at h
  refine a_iload_n X dX8_sure_0 rfl ?_
  refine a_i2l X dX8_sure_1 ?_
  refine a_lconst (v := 0) X dX8_sure_2 (by decide) ?_
  refine a_lconst (v := 1) X dX8_sure_3 (by decide) ?_
  obtain ⟨e_4, f_4, h⟩ := zBx h
  refine a_callSx X dX8_sure_4 miX8_isFrom lm8_128 (t_X8_isFrom f_4) rfl rfl (Nat.le_of_ble_eq_true rfl) ⟨by decide, by decide, by decide, by decide⟩ (fun r_4 S_4 q_4 => ?_)
  obtain ⟨rfl, rfl, b_4⟩ := q_4
  refine a_if_ne (tgt := 16) X dX8_sure_7 (by decide) (fun h_7 => ?_) (fun h_7 => ?_)
  · replace h := (if_neg h_7).symm.trans h
    refine a_aload_n X dX8_sure_16 rfl ?_
    obtain ⟨e_17, f_17, h⟩ := zBx h
    refine a_callVx X dX8_sure_17 miX8_areMany lm8_429 (t_X8_areMany (by first | exact hP | assumption) f_17) (by first | exact p_o | assumption) rfl rfl rfl (Nat.le_of_ble_eq_true rfl) ⟨by decide, by decide, by decide, by decide⟩ (fun r_17 S_17 q_17 => ?_)
    obtain ⟨rfl, rfl, b_17⟩ := q_17
    refine a_if_eq (tgt := 29) X dX8_sure_20 (by decide) (fun h_20 => ?_) (fun h_20 => ?_)
    · replace h := (if_pos h_20).symm.trans h
      refine a_aload_n X dX8_sure_29 rfl ?_
      obtain ⟨e_30, f_30, h⟩ := zBx h
      refine a_callVu X dX8_sure_30 miX8_laysAll lm8_432 (t_X8_laysAll (by first | exact hP | assumption) f_30) (by first | exact p_o | assumption) rfl rfl rfl (Nat.le_of_ble_eq_true rfl) ⟨by decide, by decide, by decide, by decide⟩ ?_
      refine a_aload_n X dX8_sure_33 rfl ?_
      refine a_iload_n X dX8_sure_34 rfl ?_
      refine a_if_ne (tgt := 45) X dX8_sure_35 (by decide) (fun h_35 => ?_) (fun h_35 => ?_)
      · replace h := (if_neg h_35).symm.trans h
        refine a_iconst (v := 1) X dX8_sure_45 (by decide) ?_
        refine a_aload_n X dX8_sure_46 rfl ?_
        refine a_geti X lf8_275 (by first | exact p_o | assumption) rfl dX8_sure_47 ?_
        refine a_ishl X dX8_sure_50 ?_
        refine a_iconst (v := 1) X dX8_sure_51 (by decide) ?_
        refine a_isub X dX8_sure_52 ?_
        refine a_aload_n X dX8_sure_53 rfl ?_
        refine a_geti X lf8_399 (by first | exact p_o | assumption) rfl dX8_sure_54 ?_
        refine a_iconst (v := -1) X dX8_sure_57 (by decide) ?_
        refine a_ixor X dX8_sure_58 ?_
        refine a_iand X dX8_sure_59 ?_
        exact Zw.to2 (J_60 _ _ _ _ h) rfl rfl rfl
      · replace h := (if_pos h_35).symm.trans h
        refine a_aload_n X dX8_sure_38 rfl ?_
        refine a_geti X lf8_396 (by first | exact p_o | assumption) rfl dX8_sure_39 ?_
        refine a_goto (tgt := 60) X dX8_sure_42 (by decide) ?_
        exact Zw.to2 (J_60 _ _ _ _ h) rfl rfl rfl
    · replace h := (if_neg h_20).symm.trans h
      refine a_aload_n X dX8_sure_23 rfl ?_
      refine a_iconst (v := 3) X dX8_sure_24 (by decide) ?_
      obtain ⟨e_25, f_25, h⟩ := zBx h
      refine a_callVv X dX8_sure_25 miX8_refuse lm8_263 (t_X8_refuse (by first | exact hP | assumption) f_25) (by first | exact p_o | assumption) rfl rfl rfl (Nat.le_of_ble_eq_true rfl) ⟨by decide, by decide, by decide, by decide⟩ ?_
      refine a_iret X hr dX8_sure_28 ⟨by decide, by decide⟩ ?_
      subst hF
      rw [← Option.some.inj h]
      exact ⟨rfl, rfl⟩
  · replace h := (if_pos h_7).symm.trans h
    refine a_aload_n X dX8_sure_10 rfl ?_
    refine a_iconst (v := 1) X dX8_sure_11 (by decide) ?_
    obtain ⟨e_12, f_12, h⟩ := zBx h
    refine a_callVv X dX8_sure_12 miX8_refuse lm8_263 (t_X8_refuse (by first | exact hP | assumption) f_12) (by first | exact p_o | assumption) rfl rfl rfl (Nat.le_of_ble_eq_true rfl) ⟨by decide, by decide, by decide, by decide⟩ ?_
    refine a_iret X hr dX8_sure_15 ⟨by decide, by decide⟩ ?_
    subst hF
    rw [← Option.some.inj h]
    exact ⟨rfl, rfl⟩
noncomputable def D_X8_mean (P : Nat) (v0 : Int32) (M : zMt) (N : zNt) : Option (Int64 × zMt × zNt) :=
  zB (D_X8_isUnit P M v0) fun e_2 =>
  if e_2 = 0 then
    zB (D_X8_refuse P (2 : Int32) M) fun e_10 =>
    some ((Int32.toInt64 e_10.1), e_10.2, N)
  else
    zB (D_X8_areMany P M) fun e_16 =>
    if e_16.1 = 0 then
      zB (D_X8_laysAll P e_16.2 N) fun e_30 =>
      zI v0 5 <|
      zB (D_X8_givesLong P (e_30.2 (P + 28) v0.toNatClampNeg) e_30.1) fun e_40 =>
      some (e_40.1, e_40.2, e_30.2)
    else
      zB (D_X8_refuse P (3 : Int32) e_16.2) fun e_24 =>
      some ((Int32.toInt64 e_24.1), e_24.2, N)
set_option maxRecDepth 100000 in
set_option maxHeartbeats 4000000 in
theorem t_X8_mean {l : Launch} {G : zG} {b : Nat} {L : List zC} {M : zMt} {N : zNt} {P : Nat} {v0 : Int32} (hP : LX8 L P) {r : Int64 × zMt × zNt} (h : D_X8_mean P v0 M N = some r) : zM l G b yX8_mean cX8_mean 2 (some .long) 14 0 0 [.ref P, .int v0] (L, M, N) (fun r2 z => r2 = some (.long r.1) ∧ z = (L, r.2.1, r.2.2)) := by
  refine zM.of miX8_mean (Nat.le_of_ble_eq_true rfl) ?_
  intro p e s m args below meth c X hr hname
  generalize hF : ((fun r2 z => r2 = some (.long r.1) ∧ z = (L, r.2.1, r.2.2)) : Option Value → zS → Prop) = FQ
  change Zw p l e { frames := 14, cells := 0, slots := 0, locals := 80 * (14) } s m args below meth c G b 2 (MQ below (zQ G b FQ) args s 0 0 (fun q : Nat => b ≤ q)) 0 0 0 [some (.ref P), some (.int v0)] [] (L, M, N)
  have p_lt := hP.1
  have p_o := hP.2.1
  have p_sumTags := hP.2.2.2.2.2.2.2.2.2.2.2.2.2.2.2.2.2.2.2.2.2.2.2.2.2.2.2.2.2.1
  unfold D_X8_mean at h
  refine a_aload_n X dX8_mean_0 rfl ?_
  refine a_iload_n X dX8_mean_1 rfl ?_
  obtain ⟨e_2, f_2, h⟩ := zBx h
  refine a_callVx X dX8_mean_2 miX8_isUnit lm8_301 (t_X8_isUnit (by first | exact hP | assumption) f_2) (by first | exact p_o | assumption) rfl rfl rfl (Nat.le_of_ble_eq_true rfl) ⟨by decide, by decide, by decide, by decide⟩ (fun r_2 S_2 q_2 => ?_)
  obtain ⟨rfl, rfl, b_2⟩ := q_2
  refine a_if_ne (tgt := 15) X dX8_mean_5 (by decide) (fun h_5 => ?_) (fun h_5 => ?_)
  · replace h := (if_neg h_5).symm.trans h
    refine a_aload_n X dX8_mean_15 rfl ?_
    obtain ⟨e_16, f_16, h⟩ := zBx h
    refine a_callVx X dX8_mean_16 miX8_areMany lm8_429 (t_X8_areMany (by first | exact hP | assumption) f_16) (by first | exact p_o | assumption) rfl rfl rfl (Nat.le_of_ble_eq_true rfl) ⟨by decide, by decide, by decide, by decide⟩ (fun r_16 S_16 q_16 => ?_)
    obtain ⟨rfl, rfl, b_16⟩ := q_16
    refine a_if_eq (tgt := 29) X dX8_mean_19 (by decide) (fun h_19 => ?_) (fun h_19 => ?_)
    · replace h := (if_pos h_19).symm.trans h
      refine a_aload_n X dX8_mean_29 rfl ?_
      obtain ⟨e_30, f_30, h⟩ := zBx h
      refine a_callVu X dX8_mean_30 miX8_laysAll lm8_432 (t_X8_laysAll (by first | exact hP | assumption) f_30) (by first | exact p_o | assumption) rfl rfl rfl (Nat.le_of_ble_eq_true rfl) ⟨by decide, by decide, by decide, by decide⟩ ?_
      refine a_aload_n X dX8_mean_33 rfl ?_
      refine a_aload_n X dX8_mean_34 rfl ?_
      refine a_getr X lf8_100 (by first | exact p_o | assumption) rfl (by omega) dX8_mean_35 ?_
      refine a_iload_n X dX8_mean_38 rfl ?_
      obtain ⟨g_39, h⟩ := zIx h
      refine a_laload X (by first | exact p_sumTags | assumption) g_39 dX8_mean_39 ?_
      obtain ⟨e_40, f_40, h⟩ := zBx h
      refine a_callVv X dX8_mean_40 miX8_givesLong lm8_438 (t_X8_givesLong (by first | exact hP | assumption) f_40) (by first | exact p_o | assumption) rfl rfl rfl (Nat.le_of_ble_eq_true rfl) ⟨by decide, by decide, by decide, by decide⟩ ?_
      refine a_lret X hr dX8_mean_43 ⟨by decide, by decide⟩ ?_
      subst hF
      rw [← Option.some.inj h]
      exact ⟨rfl, rfl⟩
    · replace h := (if_neg h_19).symm.trans h
      refine a_aload_n X dX8_mean_22 rfl ?_
      refine a_iconst (v := 3) X dX8_mean_23 (by decide) ?_
      obtain ⟨e_24, f_24, h⟩ := zBx h
      refine a_callVv X dX8_mean_24 miX8_refuse lm8_263 (t_X8_refuse (by first | exact hP | assumption) f_24) (by first | exact p_o | assumption) rfl rfl rfl (Nat.le_of_ble_eq_true rfl) ⟨by decide, by decide, by decide, by decide⟩ ?_
      refine a_i2l X dX8_mean_27 ?_
      refine a_lret X hr dX8_mean_28 ⟨by decide, by decide⟩ ?_
      subst hF
      rw [← Option.some.inj h]
      exact ⟨rfl, rfl⟩
  · replace h := (if_pos h_5).symm.trans h
    refine a_aload_n X dX8_mean_8 rfl ?_
    refine a_iconst (v := 2) X dX8_mean_9 (by decide) ?_
    obtain ⟨e_10, f_10, h⟩ := zBx h
    refine a_callVv X dX8_mean_10 miX8_refuse lm8_263 (t_X8_refuse (by first | exact hP | assumption) f_10) (by first | exact p_o | assumption) rfl rfl rfl (Nat.le_of_ble_eq_true rfl) ⟨by decide, by decide, by decide, by decide⟩ ?_
    refine a_i2l X dX8_mean_13 ?_
    refine a_lret X hr dX8_mean_14 ⟨by decide, by decide⟩ ?_
    subst hF
    rw [← Option.some.inj h]
    exact ⟨rfl, rfl⟩
noncomputable def D_X8_given_49 (P : Nat) (y1_49 : Int32) (M_49 : zMt) (N_49 : zNt) : Option (Int32 × zMt × zNt) :=
  zB (D_X8_gives P y1_49 M_49) fun e_49 =>
  some (e_49.1, e_49.2, N_49)
noncomputable def D_X8_given (P : Nat) (v0 : Int32) (M : zMt) (N : zNt) : Option (Int32 × zMt × zNt) :=
  zB (D_X8_isFrom (Int32.toInt64 v0) (0 : Int64) (1 : Int64)) fun e_4 =>
  if e_4 = 0 then
    zB (D_X8_refuse P (1 : Int32) M) fun e_12 =>
    some (e_12.1, e_12.2, N)
  else
    zB (D_X8_areMany P M) fun e_17 =>
    if e_17.1 = 0 then
      zB (D_X8_laysAll P e_17.2 N) fun e_30 =>
      if v0 = 0 then
        D_X8_given_49 P (e_30.1 P 56) e_30.1 e_30.2
      else
        D_X8_given_49 P (e_30.1 P 57) e_30.1 e_30.2
    else
      zB (D_X8_refuse P (3 : Int32) e_17.2) fun e_25 =>
      some (e_25.1, e_25.2, N)
set_option maxRecDepth 100000 in
set_option maxHeartbeats 4000000 in
theorem t_X8_given {l : Launch} {G : zG} {b : Nat} {L : List zC} {M : zMt} {N : zNt} {P : Nat} {v0 : Int32} (hP : LX8 L P) {r : Int32 × zMt × zNt} (h : D_X8_given P v0 M N = some r) : zM l G b yX8_given cX8_given 2 (some .int) 14 0 0 [.ref P, .int v0] (L, M, N) (fun r2 z => r2 = some (.int r.1) ∧ z = (L, r.2.1, r.2.2)) := by
  refine zM.of miX8_given (Nat.le_of_ble_eq_true rfl) ?_
  intro p e s m args below meth c X hr hname
  generalize hF : ((fun r2 z => r2 = some (.int r.1) ∧ z = (L, r.2.1, r.2.2)) : Option Value → zS → Prop) = FQ
  change Zw p l e { frames := 14, cells := 0, slots := 0, locals := 80 * (14) } s m args below meth c G b 2 (MQ below (zQ G b FQ) args s 0 0 (fun q : Nat => b ≤ q)) 0 0 0 [some (.ref P), some (.int v0)] [] (L, M, N)
  have p_lt := hP.1
  have p_o := hP.2.1
  have J_49 : ∀ (x1_49 : Int32) (y1_49 : Int32) (M_49 : zMt) (N_49 : zNt), D_X8_given_49 P y1_49 M_49 N_49 = some r → Zw p l e { frames := 14, cells := 0, slots := 0, locals := 80 * (14) } s m args below meth c G b 2 (MQ below (zQ G b FQ) args s 0 0 (fun q : Nat => b ≤ q)) 0 0 49 [some (.ref (P)), some (.int x1_49)] [.int y1_49, .ref (P)] (L, M_49, N_49) := by
    intro x1_49 y1_49 M_49 N_49 h
    unfold D_X8_given_49 at h
    obtain ⟨e_49, f_49, h⟩ := zBx h
    refine a_callVv X dX8_given_49 miX8_gives lm8_272 (t_X8_gives (by first | exact hP | assumption) f_49) (by first | exact p_o | assumption) rfl rfl rfl (Nat.le_of_ble_eq_true rfl) ⟨by decide, by decide, by decide, by decide⟩ ?_
    refine a_iret X hr dX8_given_52 ⟨by decide, by decide⟩ ?_
    subst hF
    rw [← Option.some.inj h]
    exact ⟨rfl, rfl⟩
  unfold D_X8_given at h
  refine a_iload_n X dX8_given_0 rfl ?_
  refine a_i2l X dX8_given_1 ?_
  refine a_lconst (v := 0) X dX8_given_2 (by decide) ?_
  refine a_lconst (v := 1) X dX8_given_3 (by decide) ?_
  obtain ⟨e_4, f_4, h⟩ := zBx h
  refine a_callSx X dX8_given_4 miX8_isFrom lm8_128 (t_X8_isFrom f_4) rfl rfl (Nat.le_of_ble_eq_true rfl) ⟨by decide, by decide, by decide, by decide⟩ (fun r_4 S_4 q_4 => ?_)
  obtain ⟨rfl, rfl, b_4⟩ := q_4
  refine a_if_ne (tgt := 16) X dX8_given_7 (by decide) (fun h_7 => ?_) (fun h_7 => ?_)
  · replace h := (if_neg h_7).symm.trans h
    refine a_aload_n X dX8_given_16 rfl ?_
    obtain ⟨e_17, f_17, h⟩ := zBx h
    refine a_callVx X dX8_given_17 miX8_areMany lm8_429 (t_X8_areMany (by first | exact hP | assumption) f_17) (by first | exact p_o | assumption) rfl rfl rfl (Nat.le_of_ble_eq_true rfl) ⟨by decide, by decide, by decide, by decide⟩ (fun r_17 S_17 q_17 => ?_)
    obtain ⟨rfl, rfl, b_17⟩ := q_17
    refine a_if_eq (tgt := 29) X dX8_given_20 (by decide) (fun h_20 => ?_) (fun h_20 => ?_)
    · replace h := (if_pos h_20).symm.trans h
      refine a_aload_n X dX8_given_29 rfl ?_
      obtain ⟨e_30, f_30, h⟩ := zBx h
      refine a_callVu X dX8_given_30 miX8_laysAll lm8_432 (t_X8_laysAll (by first | exact hP | assumption) f_30) (by first | exact p_o | assumption) rfl rfl rfl (Nat.le_of_ble_eq_true rfl) ⟨by decide, by decide, by decide, by decide⟩ ?_
      refine a_aload_n X dX8_given_33 rfl ?_
      refine a_iload_n X dX8_given_34 rfl ?_
      refine a_if_ne (tgt := 45) X dX8_given_35 (by decide) (fun h_35 => ?_) (fun h_35 => ?_)
      · replace h := (if_neg h_35).symm.trans h
        refine a_aload_n X dX8_given_45 rfl ?_
        refine a_geti X lf8_405 (by first | exact p_o | assumption) rfl dX8_given_46 ?_
        exact Zw.to2 (J_49 _ _ _ _ h) rfl rfl rfl
      · replace h := (if_pos h_35).symm.trans h
        refine a_aload_n X dX8_given_38 rfl ?_
        refine a_geti X lf8_402 (by first | exact p_o | assumption) rfl dX8_given_39 ?_
        refine a_goto (tgt := 49) X dX8_given_42 (by decide) ?_
        exact Zw.to2 (J_49 _ _ _ _ h) rfl rfl rfl
    · replace h := (if_neg h_20).symm.trans h
      refine a_aload_n X dX8_given_23 rfl ?_
      refine a_iconst (v := 3) X dX8_given_24 (by decide) ?_
      obtain ⟨e_25, f_25, h⟩ := zBx h
      refine a_callVv X dX8_given_25 miX8_refuse lm8_263 (t_X8_refuse (by first | exact hP | assumption) f_25) (by first | exact p_o | assumption) rfl rfl rfl (Nat.le_of_ble_eq_true rfl) ⟨by decide, by decide, by decide, by decide⟩ ?_
      refine a_iret X hr dX8_given_28 ⟨by decide, by decide⟩ ?_
      subst hF
      rw [← Option.some.inj h]
      exact ⟨rfl, rfl⟩
  · replace h := (if_pos h_7).symm.trans h
    refine a_aload_n X dX8_given_10 rfl ?_
    refine a_iconst (v := 1) X dX8_given_11 (by decide) ?_
    obtain ⟨e_12, f_12, h⟩ := zBx h
    refine a_callVv X dX8_given_12 miX8_refuse lm8_263 (t_X8_refuse (by first | exact hP | assumption) f_12) (by first | exact p_o | assumption) rfl rfl rfl (Nat.le_of_ble_eq_true rfl) ⟨by decide, by decide, by decide, by decide⟩ ?_
    refine a_iret X hr dX8_given_15 ⟨by decide, by decide⟩ ?_
    subst hF
    rw [← Option.some.inj h]
    exact ⟨rfl, rfl⟩
noncomputable def D_X8_ends_43 (P : Nat) (k21 : Int32 → Int32 → zMt → zNt → Option (Int32 × zMt × zNt)) (x2_43 : Int32) (y0_43 : Int32) (y1_43 : Int32) (M_43 : zMt) (N_43 : zNt) : Option (Int32 × zMt × zNt) :=
  k21 (y0_43 + y1_43) (x2_43 + 1) M_43 N_43
noncomputable def D_X8_ends_21 (P : Nat) : Nat → Int32 → Int32 → zMt → zNt → Option (Int32 × zMt × zNt)
  | 0, _, _, _, _ => none
  | n + 1, x1_21, x2_21, M_21, N_21 =>
    if (128 : Int32) ≤ x2_21 then
      zB (D_X8_gives P x1_21 M_21) fun e_53 =>
      some (e_53.1, e_53.2, N_21)
    else
      zI x2_21 128 <|
      if (M_21 (P + 29) x2_21.toNatClampNeg) = 0 then
        D_X8_ends_43 P (D_X8_ends_21 P n) x2_21 x1_21 (0 : Int32) M_21 N_21
      else
        D_X8_ends_43 P (D_X8_ends_21 P n) x2_21 x1_21 (1 : Int32) M_21 N_21
noncomputable def D_X8_ends (P : Nat) (M : zMt) (N : zNt) : Option (Int32 × zMt × zNt) :=
  zB (D_X8_areMany P M) fun e_1 =>
  if e_1.1 = 0 then
    zB (D_X8_laysAll P e_1.2 N) fun e_14 =>
    D_X8_ends_21 P zFu (0 : Int32) (0 : Int32) e_14.1 e_14.2
  else
    zB (D_X8_refuse P (3 : Int32) e_1.2) fun e_9 =>
    some (e_9.1, e_9.2, N)
set_option maxRecDepth 100000 in
set_option maxHeartbeats 4000000 in
theorem t_X8_ends {l : Launch} {G : zG} {b : Nat} {L : List zC} {M : zMt} {N : zNt} {P : Nat}  (hP : LX8 L P) {r : Int32 × zMt × zNt} (h : D_X8_ends P M N = some r) : zM l G b yX8_ends cX8_ends 3 (some .int) 14 0 0 [.ref P] (L, M, N) (fun r2 z => r2 = some (.int r.1) ∧ z = (L, r.2.1, r.2.2)) := by
  refine zM.of miX8_ends (Nat.le_of_ble_eq_true rfl) ?_
  intro p e s m args below meth c X hr hname
  generalize hF : ((fun r2 z => r2 = some (.int r.1) ∧ z = (L, r.2.1, r.2.2)) : Option Value → zS → Prop) = FQ
  change Zw p l e { frames := 14, cells := 0, slots := 0, locals := 80 * (14) } s m args below meth c G b 3 (MQ below (zQ G b FQ) args s 0 0 (fun q : Nat => b ≤ q)) 0 0 0 [some (.ref P), none, none] [] (L, M, N)
  have p_lt := hP.1
  have p_o := hP.2.1
  have p_isEnd := hP.2.2.2.2.2.2.2.2.2.2.2.2.2.2.2.2.2.2.2.2.2.2.2.2.2.2.2.2.2.2.1
  have L_21 : ∀ u : Nat, ∀ (x1_21 : Int32) (x2_21 : Int32) (M_21 : zMt) (N_21 : zNt), D_X8_ends_21 P u x1_21 x2_21 M_21 N_21 = some r → Zw p l e { frames := 14, cells := 0, slots := 0, locals := 80 * (14) } s m args below meth c G b 3 (MQ below (zQ G b FQ) args s 0 0 (fun q : Nat => b ≤ q)) 0 0 21 [some (.ref (P)), some (.int x1_21), some (.int x2_21)] [] (L, M_21, N_21) := by
    intro u
    induction u with
    | zero => intro x1_21 x2_21 M_21 N_21 h; cases (show none = some r from h)
    | succ u_21 ih_21 =>
      have J_43 : ∀ (x1_43 : Int32) (x2_43 : Int32) (y0_43 : Int32) (y1_43 : Int32) (M_43 : zMt) (N_43 : zNt), (y1_43 = 0 ∨ y1_43 = 1) → D_X8_ends_43 P (D_X8_ends_21 P u_21) x2_43 y0_43 y1_43 M_43 N_43 = some r → Zw p l e { frames := 14, cells := 0, slots := 0, locals := 80 * (14) } s m args below meth c G b 3 (MQ below (zQ G b FQ) args s 0 0 (fun q : Nat => b ≤ q)) 0 0 43 [some (.ref (P)), some (.int x1_43), some (.int x2_43)] [.int y1_43, .int y0_43] (L, M_43, N_43) := by
        intro x1_43 x2_43 y0_43 y1_43 M_43 N_43 fb_y1_43 h
        unfold D_X8_ends_43 at h
        refine a_iadd X dX8_ends_43 ?_
        refine a_istore_n X dX8_ends_44 (by decide) ?_
        refine a_iinc (v := x2_43 + 1) X dX8_ends_45 (by decide) rfl zi_1 ?_
        refine a_goto (tgt := 21) X dX8_ends_48 (by decide) ?_
        exact Zw.to2 (ih_21 _ _ _ _ h) rfl rfl rfl
      intro x1_21 x2_21 M_21 N_21 h
      rw [D_X8_ends_21] at h
      refine a_iload_n X dX8_ends_21 rfl ?_
      refine a_sipush (v := 128) X dX8_ends_22 (by decide) ?_
      refine a_icmp_ge (tgt := 51) X dX8_ends_25 (by decide) (fun h_25 => ?_) (fun h_25 => ?_)
      · replace h := (if_pos h_25).symm.trans h
        refine a_aload_n X dX8_ends_51 rfl ?_
        refine a_iload_n X dX8_ends_52 rfl ?_
        obtain ⟨e_53, f_53, h⟩ := zBx h
        refine a_callVv X dX8_ends_53 miX8_gives lm8_272 (t_X8_gives (by first | exact hP | assumption) f_53) (by first | exact p_o | assumption) rfl rfl rfl (Nat.le_of_ble_eq_true rfl) ⟨by decide, by decide, by decide, by decide⟩ ?_
        refine a_iret X hr dX8_ends_56 ⟨by decide, by decide⟩ ?_
        subst hF
        rw [← Option.some.inj h]
        exact ⟨rfl, rfl⟩
      · replace h := (if_neg h_25).symm.trans h
        refine a_iload_n X dX8_ends_28 rfl ?_
        refine a_aload_n X dX8_ends_29 rfl ?_
        refine a_getr X lf8_103 (by first | exact p_o | assumption) rfl (by omega) dX8_ends_30 ?_
        refine a_iload_n X dX8_ends_33 rfl ?_
        obtain ⟨g_34, h⟩ := zIx h
        refine a_baload X (by first | exact p_isEnd | assumption) g_34 dX8_ends_34 ?_
        refine a_if_eq (tgt := 42) X dX8_ends_35 (by decide) (fun h_35 => ?_) (fun h_35 => ?_)
        · replace h := (if_pos h_35).symm.trans h
          refine a_iconst (v := 0) X dX8_ends_42 (by decide) ?_
          exact Zw.to2 (J_43 _ _ _ _ _ _ (by first | exact Or.inl rfl | exact Or.inr rfl | assumption) h) rfl rfl rfl
        · replace h := (if_neg h_35).symm.trans h
          refine a_iconst (v := 1) X dX8_ends_38 (by decide) ?_
          refine a_goto (tgt := 43) X dX8_ends_39 (by decide) ?_
          exact Zw.to2 (J_43 _ _ _ _ _ _ (by first | exact Or.inl rfl | exact Or.inr rfl | assumption) h) rfl rfl rfl
  have H_21 : ∀ (x1_21 : Int32) (x2_21 : Int32) (M_21 : zMt) (N_21 : zNt), D_X8_ends_21 P zFu x1_21 x2_21 M_21 N_21 = some r → Zw p l e { frames := 14, cells := 0, slots := 0, locals := 80 * (14) } s m args below meth c G b 3 (MQ below (zQ G b FQ) args s 0 0 (fun q : Nat => b ≤ q)) 0 0 21 [some (.ref (P)), some (.int x1_21), some (.int x2_21)] [] (L, M_21, N_21) := L_21 zFu
  unfold D_X8_ends at h
  refine a_aload_n X dX8_ends_0 rfl ?_
  obtain ⟨e_1, f_1, h⟩ := zBx h
  refine a_callVx X dX8_ends_1 miX8_areMany lm8_429 (t_X8_areMany (by first | exact hP | assumption) f_1) (by first | exact p_o | assumption) rfl rfl rfl (Nat.le_of_ble_eq_true rfl) ⟨by decide, by decide, by decide, by decide⟩ (fun r_1 S_1 q_1 => ?_)
  obtain ⟨rfl, rfl, b_1⟩ := q_1
  refine a_if_eq (tgt := 13) X dX8_ends_4 (by decide) (fun h_4 => ?_) (fun h_4 => ?_)
  · replace h := (if_pos h_4).symm.trans h
    refine a_aload_n X dX8_ends_13 rfl ?_
    obtain ⟨e_14, f_14, h⟩ := zBx h
    refine a_callVu X dX8_ends_14 miX8_laysAll lm8_432 (t_X8_laysAll (by first | exact hP | assumption) f_14) (by first | exact p_o | assumption) rfl rfl rfl (Nat.le_of_ble_eq_true rfl) ⟨by decide, by decide, by decide, by decide⟩ ?_
    refine a_iconst (v := 0) X dX8_ends_17 (by decide) ?_
    refine a_istore_n X dX8_ends_18 (by decide) ?_
    refine a_iconst (v := 0) X dX8_ends_19 (by decide) ?_
    refine a_istore_n X dX8_ends_20 (by decide) ?_
    exact Zw.to2 (H_21 _ _ _ _ h) rfl rfl rfl
  · replace h := (if_neg h_4).symm.trans h
    refine a_aload_n X dX8_ends_7 rfl ?_
    refine a_iconst (v := 3) X dX8_ends_8 (by decide) ?_
    obtain ⟨e_9, f_9, h⟩ := zBx h
    refine a_callVv X dX8_ends_9 miX8_refuse lm8_263 (t_X8_refuse (by first | exact hP | assumption) f_9) (by first | exact p_o | assumption) rfl rfl rfl (Nat.le_of_ble_eq_true rfl) ⟨by decide, by decide, by decide, by decide⟩ ?_
    refine a_iret X hr dX8_ends_12 ⟨by decide, by decide⟩ ?_
    subst hF
    rw [← Option.some.inj h]
    exact ⟨rfl, rfl⟩
noncomputable def D_X8_putsAside_2 (P : Nat) : Nat → Int32 → zMt → Option (zMt)
  | 0, _, _ => none
  | n + 1, x1_2, M_2 =>
    if (82 : Int32) ≤ x1_2 then
      some (M_2)
    else
      zI x1_2 82 <|
      zI x1_2 82 <|
      zLt (zu M_2 (P + 3) x1_2.toNatClampNeg (M_2 (P + 1) x1_2.toNatClampNeg)) fun M_19 =>
      (D_X8_putsAside_2 P n) (x1_2 + 1) M_19
noncomputable def D_X8_putsAside (P : Nat) (M : zMt) : Option (zMt) :=
  D_X8_putsAside_2 P zFu (0 : Int32) M
set_option maxRecDepth 100000 in
set_option maxHeartbeats 4000000 in
theorem t_X8_putsAside {l : Launch} {G : zG} {b : Nat} {L : List zC} {M : zMt} {N : zNt} {P : Nat}  (hP : LX8 L P) {r : zMt} (h : D_X8_putsAside P M = some r) : zM l G b yX8_putsAside cX8_putsAside 2 none 0 0 0 [.ref P] (L, M, N) (fun r2 z => r2 = none ∧ z = (L, r, N)) := by
  refine zM.of miX8_putsAside (Nat.le_of_ble_eq_true rfl) ?_
  intro p e s m args below meth c X hr hname
  generalize hF : ((fun r2 z => r2 = none ∧ z = (L, r, N)) : Option Value → zS → Prop) = FQ
  change Zw p l e { frames := 0, cells := 0, slots := 0, locals := 80 * (0) } s m args below meth c G b 2 (MQ below (zQ G b FQ) args s 0 0 (fun q : Nat => b ≤ q)) 0 0 0 [some (.ref P), none] [] (L, M, N)
  have p_lt := hP.1
  have p_o := hP.2.1
  have p_s := hP.2.2.1
  have p_aside := hP.2.2.2.2.1
  have L_2 : ∀ u : Nat, ∀ (x1_2 : Int32) (M_2 : zMt), D_X8_putsAside_2 P u x1_2 M_2 = some r → Zw p l e { frames := 0, cells := 0, slots := 0, locals := 80 * (0) } s m args below meth c G b 2 (MQ below (zQ G b FQ) args s 0 0 (fun q : Nat => b ≤ q)) 0 0 2 [some (.ref (P)), some (.int x1_2)] [] (L, M_2, N) := by
    intro u
    induction u with
    | zero => intro x1_2 M_2 h; cases (show none = some r from h)
    | succ u_2 ih_2 =>
      intro x1_2 M_2 h
      rw [D_X8_putsAside_2] at h
      refine a_iload_n X dX8_putsAside_2 rfl ?_
      refine a_bipush (v := 82) X dX8_putsAside_3 (by decide) ?_
      refine a_icmp_ge (tgt := 26) X dX8_putsAside_5 (by decide) (fun h_5 => ?_) (fun h_5 => ?_)
      · replace h := (if_pos h_5).symm.trans h
        refine a_vret X hr dX8_putsAside_26 ⟨by decide, by decide⟩ ?_
        subst hF
        rw [← Option.some.inj h]
        exact ⟨rfl, rfl⟩
      · replace h := (if_neg h_5).symm.trans h
        refine a_aload_n X dX8_putsAside_8 rfl ?_
        refine a_getr X lf8_16 (by first | exact p_o | assumption) rfl (by omega) dX8_putsAside_9 ?_
        refine a_iload_n X dX8_putsAside_12 rfl ?_
        refine a_aload_n X dX8_putsAside_13 rfl ?_
        refine a_getr X lf8_7 (by first | exact p_o | assumption) rfl (by omega) dX8_putsAside_14 ?_
        refine a_iload_n X dX8_putsAside_17 rfl ?_
        obtain ⟨g_18, h⟩ := zIx h
        refine a_iaload X (by first | exact p_s | assumption) g_18 dX8_putsAside_18 ?_
        obtain ⟨g_19, h⟩ := zIx h
        obtain ⟨M_19, f_19, h⟩ := zLtx h
        refine d_iastore X (by first | exact p_aside | assumption) g_19 dX8_putsAside_19 f_19 ?_
        refine a_iinc (v := x1_2 + 1) X dX8_putsAside_20 (by decide) rfl zi_1 ?_
        refine a_goto (tgt := 2) X dX8_putsAside_23 (by decide) ?_
        exact Zw.to2 (ih_2 _ _ h) rfl rfl rfl
  have H_2 : ∀ (x1_2 : Int32) (M_2 : zMt), D_X8_putsAside_2 P zFu x1_2 M_2 = some r → Zw p l e { frames := 0, cells := 0, slots := 0, locals := 80 * (0) } s m args below meth c G b 2 (MQ below (zQ G b FQ) args s 0 0 (fun q : Nat => b ≤ q)) 0 0 2 [some (.ref (P)), some (.int x1_2)] [] (L, M_2, N) := L_2 zFu
  unfold D_X8_putsAside at h
  refine a_iconst (v := 0) X dX8_putsAside_0 (by decide) ?_
  refine a_istore_n X dX8_putsAside_1 (by decide) ?_
  exact Zw.to2 (H_2 _ _ h) rfl rfl rfl
noncomputable def D_X8_takesBack_2 (P : Nat) : Nat → Int32 → zMt → Option (zMt)
  | 0, _, _ => none
  | n + 1, x1_2, M_2 =>
    if (82 : Int32) ≤ x1_2 then
      some (M_2)
    else
      zI x1_2 82 <|
      zI x1_2 82 <|
      zLt (zu M_2 (P + 1) x1_2.toNatClampNeg (M_2 (P + 3) x1_2.toNatClampNeg)) fun M_19 =>
      (D_X8_takesBack_2 P n) (x1_2 + 1) M_19
noncomputable def D_X8_takesBack (P : Nat) (M : zMt) : Option (zMt) :=
  D_X8_takesBack_2 P zFu (0 : Int32) M
set_option maxRecDepth 100000 in
set_option maxHeartbeats 4000000 in
theorem t_X8_takesBack {l : Launch} {G : zG} {b : Nat} {L : List zC} {M : zMt} {N : zNt} {P : Nat}  (hP : LX8 L P) {r : zMt} (h : D_X8_takesBack P M = some r) : zM l G b yX8_takesBack cX8_takesBack 2 none 0 0 0 [.ref P] (L, M, N) (fun r2 z => r2 = none ∧ z = (L, r, N)) := by
  refine zM.of miX8_takesBack (Nat.le_of_ble_eq_true rfl) ?_
  intro p e s m args below meth c X hr hname
  generalize hF : ((fun r2 z => r2 = none ∧ z = (L, r, N)) : Option Value → zS → Prop) = FQ
  change Zw p l e { frames := 0, cells := 0, slots := 0, locals := 80 * (0) } s m args below meth c G b 2 (MQ below (zQ G b FQ) args s 0 0 (fun q : Nat => b ≤ q)) 0 0 0 [some (.ref P), none] [] (L, M, N)
  have p_lt := hP.1
  have p_o := hP.2.1
  have p_s := hP.2.2.1
  have p_aside := hP.2.2.2.2.1
  have L_2 : ∀ u : Nat, ∀ (x1_2 : Int32) (M_2 : zMt), D_X8_takesBack_2 P u x1_2 M_2 = some r → Zw p l e { frames := 0, cells := 0, slots := 0, locals := 80 * (0) } s m args below meth c G b 2 (MQ below (zQ G b FQ) args s 0 0 (fun q : Nat => b ≤ q)) 0 0 2 [some (.ref (P)), some (.int x1_2)] [] (L, M_2, N) := by
    intro u
    induction u with
    | zero => intro x1_2 M_2 h; cases (show none = some r from h)
    | succ u_2 ih_2 =>
      intro x1_2 M_2 h
      rw [D_X8_takesBack_2] at h
      refine a_iload_n X dX8_takesBack_2 rfl ?_
      refine a_bipush (v := 82) X dX8_takesBack_3 (by decide) ?_
      refine a_icmp_ge (tgt := 26) X dX8_takesBack_5 (by decide) (fun h_5 => ?_) (fun h_5 => ?_)
      · replace h := (if_pos h_5).symm.trans h
        refine a_vret X hr dX8_takesBack_26 ⟨by decide, by decide⟩ ?_
        subst hF
        rw [← Option.some.inj h]
        exact ⟨rfl, rfl⟩
      · replace h := (if_neg h_5).symm.trans h
        refine a_aload_n X dX8_takesBack_8 rfl ?_
        refine a_getr X lf8_7 (by first | exact p_o | assumption) rfl (by omega) dX8_takesBack_9 ?_
        refine a_iload_n X dX8_takesBack_12 rfl ?_
        refine a_aload_n X dX8_takesBack_13 rfl ?_
        refine a_getr X lf8_16 (by first | exact p_o | assumption) rfl (by omega) dX8_takesBack_14 ?_
        refine a_iload_n X dX8_takesBack_17 rfl ?_
        obtain ⟨g_18, h⟩ := zIx h
        refine a_iaload X (by first | exact p_aside | assumption) g_18 dX8_takesBack_18 ?_
        obtain ⟨g_19, h⟩ := zIx h
        obtain ⟨M_19, f_19, h⟩ := zLtx h
        refine d_iastore X (by first | exact p_s | assumption) g_19 dX8_takesBack_19 f_19 ?_
        refine a_iinc (v := x1_2 + 1) X dX8_takesBack_20 (by decide) rfl zi_1 ?_
        refine a_goto (tgt := 2) X dX8_takesBack_23 (by decide) ?_
        exact Zw.to2 (ih_2 _ _ h) rfl rfl rfl
  have H_2 : ∀ (x1_2 : Int32) (M_2 : zMt), D_X8_takesBack_2 P zFu x1_2 M_2 = some r → Zw p l e { frames := 0, cells := 0, slots := 0, locals := 80 * (0) } s m args below meth c G b 2 (MQ below (zQ G b FQ) args s 0 0 (fun q : Nat => b ≤ q)) 0 0 2 [some (.ref (P)), some (.int x1_2)] [] (L, M_2, N) := L_2 zFu
  unfold D_X8_takesBack at h
  refine a_iconst (v := 0) X dX8_takesBack_0 (by decide) ?_
  refine a_istore_n X dX8_takesBack_1 (by decide) ?_
  exact Zw.to2 (H_2 _ _ h) rfl rfl rfl
noncomputable def D_X8_need_161 (P : Nat) (y0_161 : Int32) (M_161 : zMt) (N_161 : zNt) : Option (Int32 × zMt × zNt) :=
  some (y0_161, M_161, N_161)
noncomputable def D_X8_need_137 (P : Nat) (x4_137 : Int32) (M_137 : zMt) (N_137 : zNt) : Option (Int32 × zMt × zNt) :=
  zB (D_X8_takesBack P M_137) fun e_138 =>
  if x4_137 = (-1 : Int32) then
    zB (D_X8_refuse P (5 : Int32) e_138) fun e_149 =>
    D_X8_need_161 P e_149.1 e_149.2 N_137
  else
    zB (D_X8_gives P x4_137 e_138) fun e_158 =>
    D_X8_need_161 P e_158.1 e_158.2 N_137
noncomputable def D_X8_need_129 (P : Nat) (k81 : Int32 → Int32 → Int32 → Int32 → Int32 → zMt → zNt → Option (Int32 × zMt × zNt)) (x1_129 : Int32) (x2_129 : Int32) (x3_129 : Int32) (x5_129 : Int32) (y0_129 : Int32) (M_129 : zMt) (N_129 : zNt) : Option (Int32 × zMt × zNt) :=
  k81 x1_129 x2_129 x3_129 y0_129 (x5_129 + 1) M_129 N_129
noncomputable def D_X8_need_81 (P : Nat) : Nat → Int32 → Int32 → Int32 → Int32 → Int32 → zMt → zNt → Option (Int32 × zMt × zNt)
  | 0, _, _, _, _, _, _, _ => none
  | n + 1, x1_81, x2_81, x3_81, x4_81, x5_81, M_81, N_81 =>
    if (20 : Int32) < x5_81 then
      D_X8_need_137 P x4_81 M_81 N_81
    else
      if x4_81 = (-1 : Int32) then
        zI ((0 : Int32) + x1_81) 82 <|
        zLt (zu M_81 (P + 1) ((0 : Int32) + x1_81).toNatClampNeg x5_81) fun M_103 =>
        zB (D_X8_laysAll P M_103 N_81) fun e_105 =>
        zB (D_X8_chanceOf P e_105.1 e_105.2 x3_81) fun e_110 =>
        if (lg_cmp (e_110 / (1000000000 : Int64)) (Int32.toInt64 x2_81)) < 0 then
          D_X8_need_129 P (D_X8_need_81 P n) x1_81 x2_81 x3_81 x5_81 (-1 : Int32) e_105.1 e_105.2
        else
          D_X8_need_129 P (D_X8_need_81 P n) x1_81 x2_81 x3_81 x5_81 x5_81 e_105.1 e_105.2
      else
        D_X8_need_137 P x4_81 M_81 N_81
noncomputable def D_X8_need (P : Nat) (v0 : Int32) (v1 : Int32) (M : zMt) (N : zNt) : Option (Int32 × zMt × zNt) :=
  zB (D_X8_isFrom (Int32.toInt64 v1) (0 : Int64) (1000 : Int64)) fun e_6 =>
  if e_6 = 0 then
    zB (D_X8_refuse P (1 : Int32) M) fun e_14 =>
    some (e_14.1, e_14.2, N)
  else
    zB (D_X8_isHunter P M v0) fun e_20 =>
    if e_20 = 0 then
      zB (D_X8_refuse P (2 : Int32) M) fun e_28 =>
      some (e_28.1, e_28.2, N)
    else
      zI ((10 : Int32) + v0) 82 <|
      if (M (P + 1) ((10 : Int32) + v0).toNatClampNeg) = (-1 : Int32) then
        zB (D_X8_areMany P M) fun e_53 =>
        if e_53.1 = 0 then
          zB (D_X8_applicantOf P v0 e_53.2) fun e_67 =>
          zB (D_X8_putsAside P e_67.2) fun e_72 =>
          D_X8_need_81 P zFu v0 v1 e_67.1 (-1 : Int32) (0 : Int32) e_72 N
        else
          zB (D_X8_refuse P (3 : Int32) e_53.2) fun e_61 =>
          some (e_61.1, e_61.2, N)
      else
        zB (D_X8_refuse P (7 : Int32) M) fun e_48 =>
        some (e_48.1, e_48.2, N)
set_option maxRecDepth 100000 in
set_option maxHeartbeats 4000000 in
theorem t_X8_need {l : Launch} {G : zG} {b : Nat} {L : List zC} {M : zMt} {N : zNt} {P : Nat} {v0 : Int32} {v1 : Int32} (hP : LX8 L P) {r : Int32 × zMt × zNt} (h : D_X8_need P v0 v1 M N = some r) : zM l G b yX8_need cX8_need 6 (some .int) 14 0 0 [.ref P, .int v0, .int v1] (L, M, N) (fun r2 z => r2 = some (.int r.1) ∧ z = (L, r.2.1, r.2.2)) := by
  refine zM.of miX8_need (Nat.le_of_ble_eq_true rfl) ?_
  intro p e s m args below meth c X hr hname
  generalize hF : ((fun r2 z => r2 = some (.int r.1) ∧ z = (L, r.2.1, r.2.2)) : Option Value → zS → Prop) = FQ
  change Zw p l e { frames := 14, cells := 0, slots := 0, locals := 80 * (14) } s m args below meth c G b 6 (MQ below (zQ G b FQ) args s 0 0 (fun q : Nat => b ≤ q)) 0 0 0 [some (.ref P), some (.int v0), some (.int v1), none, none, none] [] (L, M, N)
  have p_lt := hP.1
  have p_o := hP.2.1
  have p_s := hP.2.2.1
  have J_161 : ∀ (x1_161 : Int32) (x2_161 : Int32) (x3_161 : Int32) (x4_161 : Int32) (x5_161 : Int32) (y0_161 : Int32) (M_161 : zMt) (N_161 : zNt), D_X8_need_161 P y0_161 M_161 N_161 = some r → Zw p l e { frames := 14, cells := 0, slots := 0, locals := 80 * (14) } s m args below meth c G b 6 (MQ below (zQ G b FQ) args s 0 0 (fun q : Nat => b ≤ q)) 0 0 161 [some (.ref (P)), some (.int x1_161), some (.int x2_161), some (.int x3_161), some (.int x4_161), some (.int x5_161)] [.int y0_161] (L, M_161, N_161) := by
    intro x1_161 x2_161 x3_161 x4_161 x5_161 y0_161 M_161 N_161 h
    unfold D_X8_need_161 at h
    refine a_iret X hr dX8_need_161 ⟨by decide, by decide⟩ ?_
    subst hF
    rw [← Option.some.inj h]
    exact ⟨rfl, rfl⟩
  have J_137 : ∀ (x1_137 : Int32) (x2_137 : Int32) (x3_137 : Int32) (x4_137 : Int32) (x5_137 : Int32) (M_137 : zMt) (N_137 : zNt), D_X8_need_137 P x4_137 M_137 N_137 = some r → Zw p l e { frames := 14, cells := 0, slots := 0, locals := 80 * (14) } s m args below meth c G b 6 (MQ below (zQ G b FQ) args s 0 0 (fun q : Nat => b ≤ q)) 0 0 137 [some (.ref (P)), some (.int x1_137), some (.int x2_137), some (.int x3_137), some (.int x4_137), some (.int x5_137)] [] (L, M_137, N_137) := by
    intro x1_137 x2_137 x3_137 x4_137 x5_137 M_137 N_137 h
    unfold D_X8_need_137 at h
    refine a_aload_n X dX8_need_137 rfl ?_
    obtain ⟨e_138, f_138, h⟩ := zBx h
    refine a_callVu X dX8_need_138 miX8_takesBack lm8_449 (t_X8_takesBack (by first | exact hP | assumption) f_138) (by first | exact p_o | assumption) rfl rfl rfl (Nat.le_of_ble_eq_true rfl) ⟨by decide, by decide, by decide, by decide⟩ ?_
    refine a_iload X dX8_need_141 rfl ?_
    refine a_iconst (v := -1) X dX8_need_143 (by decide) ?_
    refine a_icmp_ne (tgt := 155) X dX8_need_144 (by decide) (fun h_144 => ?_) (fun h_144 => ?_)
    · replace h := (if_neg h_144).symm.trans h
      refine a_aload_n X dX8_need_155 rfl ?_
      refine a_iload X dX8_need_156 rfl ?_
      obtain ⟨e_158, f_158, h⟩ := zBx h
      refine a_callVv X dX8_need_158 miX8_gives lm8_272 (t_X8_gives (by first | exact hP | assumption) f_158) (by first | exact p_o | assumption) rfl rfl rfl (Nat.le_of_ble_eq_true rfl) ⟨by decide, by decide, by decide, by decide⟩ ?_
      exact Zw.to2 (J_161 _ _ _ _ _ _ _ _ h) rfl rfl rfl
    · replace h := (if_pos h_144).symm.trans h
      refine a_aload_n X dX8_need_147 rfl ?_
      refine a_iconst (v := 5) X dX8_need_148 (by decide) ?_
      obtain ⟨e_149, f_149, h⟩ := zBx h
      refine a_callVv X dX8_need_149 miX8_refuse lm8_263 (t_X8_refuse (by first | exact hP | assumption) f_149) (by first | exact p_o | assumption) rfl rfl rfl (Nat.le_of_ble_eq_true rfl) ⟨by decide, by decide, by decide, by decide⟩ ?_
      refine a_goto (tgt := 161) X dX8_need_152 (by decide) ?_
      exact Zw.to2 (J_161 _ _ _ _ _ _ _ _ h) rfl rfl rfl
  have L_81 : ∀ u : Nat, ∀ (x1_81 : Int32) (x2_81 : Int32) (x3_81 : Int32) (x4_81 : Int32) (x5_81 : Int32) (M_81 : zMt) (N_81 : zNt), D_X8_need_81 P u x1_81 x2_81 x3_81 x4_81 x5_81 M_81 N_81 = some r → Zw p l e { frames := 14, cells := 0, slots := 0, locals := 80 * (14) } s m args below meth c G b 6 (MQ below (zQ G b FQ) args s 0 0 (fun q : Nat => b ≤ q)) 0 0 81 [some (.ref (P)), some (.int x1_81), some (.int x2_81), some (.int x3_81), some (.int x4_81), some (.int x5_81)] [] (L, M_81, N_81) := by
    intro u
    induction u with
    | zero => intro x1_81 x2_81 x3_81 x4_81 x5_81 M_81 N_81 h; cases (show none = some r from h)
    | succ u_81 ih_81 =>
      have J_129 : ∀ (x1_129 : Int32) (x2_129 : Int32) (x3_129 : Int32) (x4_129 : Int32) (x5_129 : Int32) (y0_129 : Int32) (M_129 : zMt) (N_129 : zNt), D_X8_need_129 P (D_X8_need_81 P u_81) x1_129 x2_129 x3_129 x5_129 y0_129 M_129 N_129 = some r → Zw p l e { frames := 14, cells := 0, slots := 0, locals := 80 * (14) } s m args below meth c G b 6 (MQ below (zQ G b FQ) args s 0 0 (fun q : Nat => b ≤ q)) 0 0 129 [some (.ref (P)), some (.int x1_129), some (.int x2_129), some (.int x3_129), some (.int x4_129), some (.int x5_129)] [.int y0_129] (L, M_129, N_129) := by
        intro x1_129 x2_129 x3_129 x4_129 x5_129 y0_129 M_129 N_129 h
        unfold D_X8_need_129 at h
        refine a_istore X dX8_need_129 (by decide) ?_
        refine a_iinc (v := x5_129 + 1) X dX8_need_131 (by decide) rfl zi_1 ?_
        refine a_goto (tgt := 81) X dX8_need_134 (by decide) ?_
        exact Zw.to2 (ih_81 _ _ _ _ _ _ _ h) rfl rfl rfl
      intro x1_81 x2_81 x3_81 x4_81 x5_81 M_81 N_81 h
      rw [D_X8_need_81] at h
      refine a_iload X dX8_need_81 rfl ?_
      refine a_bipush (v := 20) X dX8_need_83 (by decide) ?_
      refine a_icmp_gt (tgt := 137) X dX8_need_85 (by decide) (fun h_85 => ?_) (fun h_85 => ?_)
      · replace h := (if_pos h_85).symm.trans h
        exact Zw.to2 (J_137 _ _ _ _ _ _ _ h) rfl rfl rfl
      · replace h := (if_neg h_85).symm.trans h
        refine a_iload X dX8_need_88 rfl ?_
        refine a_iconst (v := -1) X dX8_need_90 (by decide) ?_
        refine a_icmp_ne (tgt := 137) X dX8_need_91 (by decide) (fun h_91 => ?_) (fun h_91 => ?_)
        · replace h := (if_neg h_91).symm.trans h
          exact Zw.to2 (J_137 _ _ _ _ _ _ _ h) rfl rfl rfl
        · replace h := (if_pos h_91).symm.trans h
          refine a_aload_n X dX8_need_94 rfl ?_
          refine a_getr X lf8_7 (by first | exact p_o | assumption) rfl (by omega) dX8_need_95 ?_
          refine a_iconst (v := 0) X dX8_need_98 (by decide) ?_
          refine a_iload_n X dX8_need_99 rfl ?_
          refine a_iadd X dX8_need_100 ?_
          refine a_iload X dX8_need_101 rfl ?_
          obtain ⟨g_103, h⟩ := zIx h
          obtain ⟨M_103, f_103, h⟩ := zLtx h
          refine d_iastore X (by first | exact p_s | assumption) g_103 dX8_need_103 f_103 ?_
          refine a_aload_n X dX8_need_104 rfl ?_
          obtain ⟨e_105, f_105, h⟩ := zBx h
          refine a_callVu X dX8_need_105 miX8_laysAll lm8_432 (t_X8_laysAll (by first | exact hP | assumption) f_105) (by first | exact p_o | assumption) rfl rfl rfl (Nat.le_of_ble_eq_true rfl) ⟨by decide, by decide, by decide, by decide⟩ ?_
          refine a_aload_n X dX8_need_108 rfl ?_
          refine a_iload_n X dX8_need_109 rfl ?_
          obtain ⟨e_110, f_110, h⟩ := zBx h
          refine a_callVv X dX8_need_110 miX8_chanceOf lm8_435 (t_X8_chanceOf (by first | exact hP | assumption) f_110) (by first | exact p_o | assumption) rfl rfl rfl (Nat.le_of_ble_eq_true rfl) ⟨by decide, by decide, by decide, by decide⟩ ?_
          refine a_ldc2 X dX8_need_113 lk8_447 ?_
          refine a_ldiv X dX8_need_116 (by decide) ?_
          refine a_iload_n X dX8_need_117 rfl ?_
          refine a_i2l X dX8_need_118 ?_
          refine a_lcmp X dX8_need_119 ?_
          refine a_if_lt (tgt := 128) X dX8_need_120 (by decide) (fun h_120 => ?_) (fun h_120 => ?_)
          · replace h := (if_pos h_120).symm.trans h
            refine a_iconst (v := -1) X dX8_need_128 (by decide) ?_
            exact Zw.to2 (J_129 _ _ _ _ _ _ _ _ h) rfl rfl rfl
          · replace h := (if_neg h_120).symm.trans h
            refine a_iload X dX8_need_123 rfl ?_
            refine a_goto (tgt := 129) X dX8_need_125 (by decide) ?_
            exact Zw.to2 (J_129 _ _ _ _ _ _ _ _ h) rfl rfl rfl
  have H_81 : ∀ (x1_81 : Int32) (x2_81 : Int32) (x3_81 : Int32) (x4_81 : Int32) (x5_81 : Int32) (M_81 : zMt) (N_81 : zNt), D_X8_need_81 P zFu x1_81 x2_81 x3_81 x4_81 x5_81 M_81 N_81 = some r → Zw p l e { frames := 14, cells := 0, slots := 0, locals := 80 * (14) } s m args below meth c G b 6 (MQ below (zQ G b FQ) args s 0 0 (fun q : Nat => b ≤ q)) 0 0 81 [some (.ref (P)), some (.int x1_81), some (.int x2_81), some (.int x3_81), some (.int x4_81), some (.int x5_81)] [] (L, M_81, N_81) := L_81 zFu
  unfold D_X8_need at h
  refine a_iload_n X dX8_need_0 rfl ?_
  refine a_i2l X dX8_need_1 ?_
  refine a_lconst (v := 0) X dX8_need_2 (by decide) ?_
  refine a_ldc2 X dX8_need_3 lk8_442 ?_
  obtain ⟨e_6, f_6, h⟩ := zBx h
  refine a_callSx X dX8_need_6 miX8_isFrom lm8_128 (t_X8_isFrom f_6) rfl rfl (Nat.le_of_ble_eq_true rfl) ⟨by decide, by decide, by decide, by decide⟩ (fun r_6 S_6 q_6 => ?_)
  obtain ⟨rfl, rfl, b_6⟩ := q_6
  refine a_if_ne (tgt := 18) X dX8_need_9 (by decide) (fun h_9 => ?_) (fun h_9 => ?_)
  · replace h := (if_neg h_9).symm.trans h
    refine a_aload_n X dX8_need_18 rfl ?_
    refine a_iload_n X dX8_need_19 rfl ?_
    obtain ⟨e_20, f_20, h⟩ := zBx h
    refine a_callVx X dX8_need_20 miX8_isHunter lm8_293 (t_X8_isHunter (by first | exact hP | assumption) f_20) (by first | exact p_o | assumption) rfl rfl rfl (Nat.le_of_ble_eq_true rfl) ⟨by decide, by decide, by decide, by decide⟩ (fun r_20 S_20 q_20 => ?_)
    obtain ⟨rfl, rfl, b_20⟩ := q_20
    refine a_if_ne (tgt := 32) X dX8_need_23 (by decide) (fun h_23 => ?_) (fun h_23 => ?_)
    · replace h := (if_neg h_23).symm.trans h
      refine a_aload_n X dX8_need_32 rfl ?_
      refine a_getr X lf8_7 (by first | exact p_o | assumption) rfl (by omega) dX8_need_33 ?_
      refine a_bipush (v := 10) X dX8_need_36 (by decide) ?_
      refine a_iload_n X dX8_need_38 rfl ?_
      refine a_iadd X dX8_need_39 ?_
      obtain ⟨g_40, h⟩ := zIx h
      refine a_iaload X (by first | exact p_s | assumption) g_40 dX8_need_40 ?_
      refine a_iconst (v := -1) X dX8_need_41 (by decide) ?_
      refine a_icmp_eq (tgt := 52) X dX8_need_42 (by decide) (fun h_42 => ?_) (fun h_42 => ?_)
      · replace h := (if_pos h_42).symm.trans h
        refine a_aload_n X dX8_need_52 rfl ?_
        obtain ⟨e_53, f_53, h⟩ := zBx h
        refine a_callVx X dX8_need_53 miX8_areMany lm8_429 (t_X8_areMany (by first | exact hP | assumption) f_53) (by first | exact p_o | assumption) rfl rfl rfl (Nat.le_of_ble_eq_true rfl) ⟨by decide, by decide, by decide, by decide⟩ (fun r_53 S_53 q_53 => ?_)
        obtain ⟨rfl, rfl, b_53⟩ := q_53
        refine a_if_eq (tgt := 65) X dX8_need_56 (by decide) (fun h_56 => ?_) (fun h_56 => ?_)
        · replace h := (if_pos h_56).symm.trans h
          refine a_aload_n X dX8_need_65 rfl ?_
          refine a_iload_n X dX8_need_66 rfl ?_
          obtain ⟨e_67, f_67, h⟩ := zBx h
          refine a_callVv X dX8_need_67 miX8_applicantOf lm8_296 (t_X8_applicantOf (by first | exact hP | assumption) f_67) (by first | exact p_o | assumption) rfl rfl rfl (Nat.le_of_ble_eq_true rfl) ⟨by decide, by decide, by decide, by decide⟩ ?_
          refine a_istore_n X dX8_need_70 (by decide) ?_
          refine a_aload_n X dX8_need_71 rfl ?_
          obtain ⟨e_72, f_72, h⟩ := zBx h
          refine a_callVu X dX8_need_72 miX8_putsAside lm8_444 (t_X8_putsAside (by first | exact hP | assumption) f_72) (by first | exact p_o | assumption) rfl rfl rfl (Nat.le_of_ble_eq_true rfl) ⟨by decide, by decide, by decide, by decide⟩ ?_
          refine a_iconst (v := -1) X dX8_need_75 (by decide) ?_
          refine a_istore X dX8_need_76 (by decide) ?_
          refine a_iconst (v := 0) X dX8_need_78 (by decide) ?_
          refine a_istore X dX8_need_79 (by decide) ?_
          exact Zw.to2 (H_81 _ _ _ _ _ _ _ h) rfl rfl rfl
        · replace h := (if_neg h_56).symm.trans h
          refine a_aload_n X dX8_need_59 rfl ?_
          refine a_iconst (v := 3) X dX8_need_60 (by decide) ?_
          obtain ⟨e_61, f_61, h⟩ := zBx h
          refine a_callVv X dX8_need_61 miX8_refuse lm8_263 (t_X8_refuse (by first | exact hP | assumption) f_61) (by first | exact p_o | assumption) rfl rfl rfl (Nat.le_of_ble_eq_true rfl) ⟨by decide, by decide, by decide, by decide⟩ ?_
          refine a_iret X hr dX8_need_64 ⟨by decide, by decide⟩ ?_
          subst hF
          rw [← Option.some.inj h]
          exact ⟨rfl, rfl⟩
      · replace h := (if_neg h_42).symm.trans h
        refine a_aload_n X dX8_need_45 rfl ?_
        refine a_bipush (v := 7) X dX8_need_46 (by decide) ?_
        obtain ⟨e_48, f_48, h⟩ := zBx h
        refine a_callVv X dX8_need_48 miX8_refuse lm8_263 (t_X8_refuse (by first | exact hP | assumption) f_48) (by first | exact p_o | assumption) rfl rfl rfl (Nat.le_of_ble_eq_true rfl) ⟨by decide, by decide, by decide, by decide⟩ ?_
        refine a_iret X hr dX8_need_51 ⟨by decide, by decide⟩ ?_
        subst hF
        rw [← Option.some.inj h]
        exact ⟨rfl, rfl⟩
    · replace h := (if_pos h_23).symm.trans h
      refine a_aload_n X dX8_need_26 rfl ?_
      refine a_iconst (v := 2) X dX8_need_27 (by decide) ?_
      obtain ⟨e_28, f_28, h⟩ := zBx h
      refine a_callVv X dX8_need_28 miX8_refuse lm8_263 (t_X8_refuse (by first | exact hP | assumption) f_28) (by first | exact p_o | assumption) rfl rfl rfl (Nat.le_of_ble_eq_true rfl) ⟨by decide, by decide, by decide, by decide⟩ ?_
      refine a_iret X hr dX8_need_31 ⟨by decide, by decide⟩ ?_
      subst hF
      rw [← Option.some.inj h]
      exact ⟨rfl, rfl⟩
  · replace h := (if_pos h_9).symm.trans h
    refine a_aload_n X dX8_need_12 rfl ?_
    refine a_iconst (v := 1) X dX8_need_13 (by decide) ?_
    obtain ⟨e_14, f_14, h⟩ := zBx h
    refine a_callVv X dX8_need_14 miX8_refuse lm8_263 (t_X8_refuse (by first | exact hP | assumption) f_14) (by first | exact p_o | assumption) rfl rfl rfl (Nat.le_of_ble_eq_true rfl) ⟨by decide, by decide, by decide, by decide⟩ ?_
    refine a_iret X hr dX8_need_17 ⟨by decide, by decide⟩ ?_
    subst hF
    rw [← Option.some.inj h]
    exact ⟨rfl, rfl⟩
noncomputable def D_X8_wisest_90 (P : Nat) (k15 : Int32 → Int32 → Int32 → zMt → zNt → Option (Int32 × zMt × zNt)) (x1_90 : Int32) (x2_90 : Int32) (x3_90 : Int32) (M_90 : zMt) (N_90 : zNt) : Option (Int32 × zMt × zNt) :=
  k15 x1_90 x2_90 (x3_90 + 1) M_90 N_90
noncomputable def D_X8_wisest_55 (P : Nat) (k15 : Int32 → Int32 → Int32 → zMt → zNt → Option (Int32 × zMt × zNt)) (k26 : Int32 → Int32 → Int32 → Int32 → zMt → zNt → Option (Int32 × zMt × zNt)) (x1_55 : Int32) (x2_55 : Int32) (x3_55 : Int32) (x4_55 : Int32) (y1_55 : Int32) (y2_55 : Int32) (M_55 : zMt) (N_55 : zNt) : Option (Int32 × zMt × zNt) :=
  zI y1_55 82 <|
  zLt (zu M_55 (P + 1) y1_55.toNatClampNeg y2_55) fun M_55 =>
  k26 x1_55 x2_55 x3_55 (x4_55 + 1) M_55 N_55
noncomputable def D_X8_wisest_26 (P : Nat) (k15 : Int32 → Int32 → Int32 → zMt → zNt → Option (Int32 × zMt × zNt)) : Nat → Int32 → Int32 → Int32 → Int32 → zMt → zNt → Option (Int32 × zMt × zNt)
  | 0, _, _, _, _, _, _ => none
  | n + 1, x1_26, x2_26, x3_26, x4_26, M_26, N_26 =>
    if (3 : Int32) ≤ x4_26 then
      zB (D_X8_laysAll P M_26 N_26) fun e_63 =>
      zB (D_X8_chanceOf P e_63.1 e_63.2 x1_26) fun e_68 =>
      if (lg_cmp e_68 (e_63.2 P 60)) ≤ 0 then
        D_X8_wisest_90 P k15 x1_26 x2_26 x3_26 e_63.1 e_63.2
      else
        zB (D_X8_chanceOf P e_63.1 e_63.2 x1_26) fun e_84 =>
        zLt (zu e_63.2 P 60 e_84) fun N_87 =>
        D_X8_wisest_90 P k15 x1_26 x3_26 x3_26 e_63.1 N_87
    else
      zI x1_26 10 <|
      if x4_26 = 0 then
        D_X8_wisest_55 P k15 (D_X8_wisest_26 P k15 n) x1_26 x2_26 x3_26 x4_26 ((M_26 (P + 13) x1_26.toNatClampNeg) + x4_26) x3_26 M_26 N_26
      else
        D_X8_wisest_55 P k15 (D_X8_wisest_26 P k15 n) x1_26 x2_26 x3_26 x4_26 ((M_26 (P + 13) x1_26.toNatClampNeg) + x4_26) (-1 : Int32) M_26 N_26
noncomputable def D_X8_wisest_15 (P : Nat) : Nat → Int32 → Int32 → Int32 → zMt → zNt → Option (Int32 × zMt × zNt)
  | 0, _, _, _, _, _ => none
  | n + 1, x1_15, x2_15, x3_15, M_15, N_15 =>
    if (M_15 P 7) ≤ x3_15 then
      zB (D_X8_takesBack P M_15) fun e_97 =>
      some (x2_15, e_97, N_15)
    else
      D_X8_wisest_26 P (D_X8_wisest_15 P n) zFu x1_15 x2_15 x3_15 (0 : Int32) M_15 N_15
noncomputable def D_X8_wisest (P : Nat) (v0 : Int32) (M : zMt) (N : zNt) : Option (Int32 × zMt × zNt) :=
  zB (D_X8_putsAside P M) fun e_1 =>
  zLt (zu N P 60 (-1 : Int64)) fun N_10 =>
  D_X8_wisest_15 P zFu v0 (-1 : Int32) (0 : Int32) e_1 N_10
set_option maxRecDepth 100000 in
set_option maxHeartbeats 4000000 in
theorem t_X8_wisest {l : Launch} {G : zG} {b : Nat} {L : List zC} {M : zMt} {N : zNt} {P : Nat} {v0 : Int32} (hP : LX8 L P) {r : Int32 × zMt × zNt} (h : D_X8_wisest P v0 M N = some r) : zM l G b yX8_wisest cX8_wisest 5 (some .int) 14 0 0 [.ref P, .int v0] (L, M, N) (fun r2 z => r2 = some (.int r.1) ∧ z = (L, r.2.1, r.2.2)) := by
  refine zM.of miX8_wisest (Nat.le_of_ble_eq_true rfl) ?_
  intro p e s m args below meth c X hr hname
  generalize hF : ((fun r2 z => r2 = some (.int r.1) ∧ z = (L, r.2.1, r.2.2)) : Option Value → zS → Prop) = FQ
  change Zw p l e { frames := 14, cells := 0, slots := 0, locals := 80 * (14) } s m args below meth c G b 5 (MQ below (zQ G b FQ) args s 0 0 (fun q : Nat => b ≤ q)) 0 0 0 [some (.ref P), some (.int v0), none, none, none] [] (L, M, N)
  have p_lt := hP.1
  have p_o := hP.2.1
  have p_s := hP.2.2.1
  have p_choiceAt := hP.2.2.2.2.2.2.2.2.2.2.2.2.2.2.1
  have L_15 : ∀ u : Nat, ∀ (x1_15 : Int32) (x2_15 : Int32) (x3_15 : Int32) (x4_15 : Option Value) (M_15 : zMt) (N_15 : zNt), D_X8_wisest_15 P u x1_15 x2_15 x3_15 M_15 N_15 = some r → Zw p l e { frames := 14, cells := 0, slots := 0, locals := 80 * (14) } s m args below meth c G b 5 (MQ below (zQ G b FQ) args s 0 0 (fun q : Nat => b ≤ q)) 0 0 15 [some (.ref (P)), some (.int x1_15), some (.int x2_15), some (.int x3_15), x4_15] [] (L, M_15, N_15) := by
    intro u
    induction u with
    | zero => intro x1_15 x2_15 x3_15 x4_15 M_15 N_15 h; cases (show none = some r from h)
    | succ u_15 ih_15 =>
      have J_90 : ∀ (x1_90 : Int32) (x2_90 : Int32) (x3_90 : Int32) (x4_90 : Int32) (M_90 : zMt) (N_90 : zNt), D_X8_wisest_90 P (D_X8_wisest_15 P u_15) x1_90 x2_90 x3_90 M_90 N_90 = some r → Zw p l e { frames := 14, cells := 0, slots := 0, locals := 80 * (14) } s m args below meth c G b 5 (MQ below (zQ G b FQ) args s 0 0 (fun q : Nat => b ≤ q)) 0 0 90 [some (.ref (P)), some (.int x1_90), some (.int x2_90), some (.int x3_90), some (.int x4_90)] [] (L, M_90, N_90) := by
        intro x1_90 x2_90 x3_90 x4_90 M_90 N_90 h
        unfold D_X8_wisest_90 at h
        refine a_iinc (v := x3_90 + 1) X dX8_wisest_90 (by decide) rfl zi_1 ?_
        refine a_goto (tgt := 15) X dX8_wisest_93 (by decide) ?_
        exact Zw.to2 (ih_15 _ _ _ _ _ _ h) rfl rfl rfl
      have L_26 : ∀ u : Nat, ∀ (x1_26 : Int32) (x2_26 : Int32) (x3_26 : Int32) (x4_26 : Int32) (M_26 : zMt) (N_26 : zNt), D_X8_wisest_26 P (D_X8_wisest_15 P u_15) u x1_26 x2_26 x3_26 x4_26 M_26 N_26 = some r → Zw p l e { frames := 14, cells := 0, slots := 0, locals := 80 * (14) } s m args below meth c G b 5 (MQ below (zQ G b FQ) args s 0 0 (fun q : Nat => b ≤ q)) 0 0 26 [some (.ref (P)), some (.int x1_26), some (.int x2_26), some (.int x3_26), some (.int x4_26)] [] (L, M_26, N_26) := by
        intro u
        induction u with
        | zero => intro x1_26 x2_26 x3_26 x4_26 M_26 N_26 h; cases (show none = some r from h)
        | succ u_26 ih_26 =>
          have J_55 : ∀ (x1_55 : Int32) (x2_55 : Int32) (x3_55 : Int32) (x4_55 : Int32) (y1_55 : Int32) (y2_55 : Int32) (M_55 : zMt) (N_55 : zNt), D_X8_wisest_55 P (D_X8_wisest_15 P u_15) (D_X8_wisest_26 P (D_X8_wisest_15 P u_15) u_26) x1_55 x2_55 x3_55 x4_55 y1_55 y2_55 M_55 N_55 = some r → Zw p l e { frames := 14, cells := 0, slots := 0, locals := 80 * (14) } s m args below meth c G b 5 (MQ below (zQ G b FQ) args s 0 0 (fun q : Nat => b ≤ q)) 0 0 55 [some (.ref (P)), some (.int x1_55), some (.int x2_55), some (.int x3_55), some (.int x4_55)] [.int y2_55, .int y1_55, .ref (P + 1)] (L, M_55, N_55) := by
            intro x1_55 x2_55 x3_55 x4_55 y1_55 y2_55 M_55 N_55 h
            unfold D_X8_wisest_55 at h
            obtain ⟨g_55, h⟩ := zIx h
            obtain ⟨M_55, f_55, h⟩ := zLtx h
            refine d_iastore X (by first | exact p_s | assumption) g_55 dX8_wisest_55 f_55 ?_
            refine a_iinc (v := x4_55 + 1) X dX8_wisest_56 (by decide) rfl zi_1 ?_
            refine a_goto (tgt := 26) X dX8_wisest_59 (by decide) ?_
            exact Zw.to2 (ih_26 _ _ _ _ _ _ h) rfl rfl rfl
          intro x1_26 x2_26 x3_26 x4_26 M_26 N_26 h
          rw [D_X8_wisest_26] at h
          refine a_iload X dX8_wisest_26 rfl ?_
          refine a_iconst (v := 3) X dX8_wisest_28 (by decide) ?_
          refine a_icmp_ge (tgt := 62) X dX8_wisest_29 (by decide) (fun h_29 => ?_) (fun h_29 => ?_)
          · replace h := (if_pos h_29).symm.trans h
            refine a_aload_n X dX8_wisest_62 rfl ?_
            obtain ⟨e_63, f_63, h⟩ := zBx h
            refine a_callVu X dX8_wisest_63 miX8_laysAll lm8_432 (t_X8_laysAll (by first | exact hP | assumption) f_63) (by first | exact p_o | assumption) rfl rfl rfl (Nat.le_of_ble_eq_true rfl) ⟨by decide, by decide, by decide, by decide⟩ ?_
            refine a_aload_n X dX8_wisest_66 rfl ?_
            refine a_iload_n X dX8_wisest_67 rfl ?_
            obtain ⟨e_68, f_68, h⟩ := zBx h
            refine a_callVv X dX8_wisest_68 miX8_chanceOf lm8_435 (t_X8_chanceOf (by first | exact hP | assumption) f_68) (by first | exact p_o | assumption) rfl rfl rfl (Nat.le_of_ble_eq_true rfl) ⟨by decide, by decide, by decide, by decide⟩ ?_
            refine a_aload_n X dX8_wisest_71 rfl ?_
            refine a_getl X lf8_454 (by first | exact p_o | assumption) rfl dX8_wisest_72 ?_
            refine a_lcmp X dX8_wisest_75 ?_
            refine a_if_le (tgt := 90) X dX8_wisest_76 (by decide) (fun h_76 => ?_) (fun h_76 => ?_)
            · replace h := (if_pos h_76).symm.trans h
              exact Zw.to2 (J_90 _ _ _ _ _ _ h) rfl rfl rfl
            · replace h := (if_neg h_76).symm.trans h
              refine a_iload_n X dX8_wisest_79 rfl ?_
              refine a_istore_n X dX8_wisest_80 (by decide) ?_
              refine a_aload_n X dX8_wisest_81 rfl ?_
              refine a_aload_n X dX8_wisest_82 rfl ?_
              refine a_iload_n X dX8_wisest_83 rfl ?_
              obtain ⟨e_84, f_84, h⟩ := zBx h
              refine a_callVv X dX8_wisest_84 miX8_chanceOf lm8_435 (t_X8_chanceOf (by first | exact hP | assumption) f_84) (by first | exact p_o | assumption) rfl rfl rfl (Nat.le_of_ble_eq_true rfl) ⟨by decide, by decide, by decide, by decide⟩ ?_
              obtain ⟨N_87, f_87, h⟩ := zLtx h
              refine d_putl X lf8_454 (by first | exact p_o | assumption) rfl dX8_wisest_87 f_87 ?_
              exact Zw.to2 (J_90 _ _ _ _ _ _ h) rfl rfl rfl
          · replace h := (if_neg h_29).symm.trans h
            refine a_aload_n X dX8_wisest_32 rfl ?_
            refine a_getr X lf8_7 (by first | exact p_o | assumption) rfl (by omega) dX8_wisest_33 ?_
            refine a_aload_n X dX8_wisest_36 rfl ?_
            refine a_getr X lf8_55 (by first | exact p_o | assumption) rfl (by omega) dX8_wisest_37 ?_
            refine a_iload_n X dX8_wisest_40 rfl ?_
            obtain ⟨g_41, h⟩ := zIx h
            refine a_iaload X (by first | exact p_choiceAt | assumption) g_41 dX8_wisest_41 ?_
            refine a_iload X dX8_wisest_42 rfl ?_
            refine a_iadd X dX8_wisest_44 ?_
            refine a_iload X dX8_wisest_45 rfl ?_
            refine a_if_ne (tgt := 54) X dX8_wisest_47 (by decide) (fun h_47 => ?_) (fun h_47 => ?_)
            · replace h := (if_neg h_47).symm.trans h
              refine a_iconst (v := -1) X dX8_wisest_54 (by decide) ?_
              exact Zw.to2 (J_55 _ _ _ _ _ _ _ _ h) rfl rfl rfl
            · replace h := (if_pos h_47).symm.trans h
              refine a_iload_n X dX8_wisest_50 rfl ?_
              refine a_goto (tgt := 55) X dX8_wisest_51 (by decide) ?_
              exact Zw.to2 (J_55 _ _ _ _ _ _ _ _ h) rfl rfl rfl
      have H_26 : ∀ (x1_26 : Int32) (x2_26 : Int32) (x3_26 : Int32) (x4_26 : Int32) (M_26 : zMt) (N_26 : zNt), D_X8_wisest_26 P (D_X8_wisest_15 P u_15) zFu x1_26 x2_26 x3_26 x4_26 M_26 N_26 = some r → Zw p l e { frames := 14, cells := 0, slots := 0, locals := 80 * (14) } s m args below meth c G b 5 (MQ below (zQ G b FQ) args s 0 0 (fun q : Nat => b ≤ q)) 0 0 26 [some (.ref (P)), some (.int x1_26), some (.int x2_26), some (.int x3_26), some (.int x4_26)] [] (L, M_26, N_26) := L_26 zFu
      intro x1_15 x2_15 x3_15 x4_15 M_15 N_15 h
      rw [D_X8_wisest_15] at h
      refine a_iload_n X dX8_wisest_15 rfl ?_
      refine a_aload_n X dX8_wisest_16 rfl ?_
      refine a_geti X lf8_125 (by first | exact p_o | assumption) rfl dX8_wisest_17 ?_
      refine a_icmp_ge (tgt := 96) X dX8_wisest_20 (by decide) (fun h_20 => ?_) (fun h_20 => ?_)
      · replace h := (if_pos h_20).symm.trans h
        refine a_aload_n X dX8_wisest_96 rfl ?_
        obtain ⟨e_97, f_97, h⟩ := zBx h
        refine a_callVu X dX8_wisest_97 miX8_takesBack lm8_449 (t_X8_takesBack (by first | exact hP | assumption) f_97) (by first | exact p_o | assumption) rfl rfl rfl (Nat.le_of_ble_eq_true rfl) ⟨by decide, by decide, by decide, by decide⟩ ?_
        refine a_iload_n X dX8_wisest_100 rfl ?_
        refine a_iret X hr dX8_wisest_101 ⟨by decide, by decide⟩ ?_
        subst hF
        rw [← Option.some.inj h]
        exact ⟨rfl, rfl⟩
      · replace h := (if_neg h_20).symm.trans h
        refine a_iconst (v := 0) X dX8_wisest_23 (by decide) ?_
        refine a_istore X dX8_wisest_24 (by decide) ?_
        exact Zw.to2 (H_26 _ _ _ _ _ _ h) rfl rfl rfl
  have H_15 : ∀ (x1_15 : Int32) (x2_15 : Int32) (x3_15 : Int32) (x4_15 : Option Value) (M_15 : zMt) (N_15 : zNt), D_X8_wisest_15 P zFu x1_15 x2_15 x3_15 M_15 N_15 = some r → Zw p l e { frames := 14, cells := 0, slots := 0, locals := 80 * (14) } s m args below meth c G b 5 (MQ below (zQ G b FQ) args s 0 0 (fun q : Nat => b ≤ q)) 0 0 15 [some (.ref (P)), some (.int x1_15), some (.int x2_15), some (.int x3_15), x4_15] [] (L, M_15, N_15) := L_15 zFu
  unfold D_X8_wisest at h
  refine a_aload_n X dX8_wisest_0 rfl ?_
  obtain ⟨e_1, f_1, h⟩ := zBx h
  refine a_callVu X dX8_wisest_1 miX8_putsAside lm8_444 (t_X8_putsAside (by first | exact hP | assumption) f_1) (by first | exact p_o | assumption) rfl rfl rfl (Nat.le_of_ble_eq_true rfl) ⟨by decide, by decide, by decide, by decide⟩ ?_
  refine a_iconst (v := -1) X dX8_wisest_4 (by decide) ?_
  refine a_istore_n X dX8_wisest_5 (by decide) ?_
  refine a_aload_n X dX8_wisest_6 rfl ?_
  refine a_ldc2 X dX8_wisest_7 lk8_452 ?_
  obtain ⟨N_10, f_10, h⟩ := zLtx h
  refine d_putl X lf8_454 (by first | exact p_o | assumption) rfl dX8_wisest_10 f_10 ?_
  refine a_iconst (v := 0) X dX8_wisest_13 (by decide) ?_
  refine a_istore_n X dX8_wisest_14 (by decide) ?_
  exact Zw.to2 (H_15 _ _ _ _ _ _ h) rfl rfl rfl
