noncomputable def D_X7_envies_147 (P : Nat) (k44 : Int32 → Int32 → Int32 → zMt → Option (Int32 × zMt)) (x2_147 : Int32) (x3_147 : Int32) (x4_147 : Int32) (M_147 : zMt) : Option (Int32 × zMt) :=
  k44 x2_147 x3_147 (x4_147 + 1) M_147
noncomputable def D_X7_envies_44 (P : Nat) : Nat → Int32 → Int32 → Int32 → zMt → Option (Int32 × zMt)
  | 0, _, _, _, _ => none
  | n + 1, x2_44, x3_44, x4_44, M_44 =>
    if (M_44 (P + 91) 1) ≤ x4_44 then
      zB (D_X7_answer P x3_44 M_44) fun e_155 =>
      some (e_155.1, e_155.2)
    else
      if (zrd 0 (M_44 (P + 106)) 10 x4_44) = (-1 : Int32) then
        D_X7_envies_147 P (D_X7_envies_44 P n) x2_44 x3_44 x4_44 M_44
      else
        if (zrd 0 (M_44 (P + 98)) 10 x4_44) < (zrd 0 (M_44 (P + 98)) 10 x2_44) then
          zB (D_X2_rankOf (P + 91) M_44 x2_44 (zrd 0 (M_44 (P + 106)) 10 x4_44)) fun e_112 =>
          if e_112 = (-1 : Int32) then
            D_X7_envies_147 P (D_X7_envies_44 P n) x2_44 x3_44 x4_44 M_44
          else
            zB (D_X5_rankHeld (P + 104) (P + 91) M_44 x2_44) fun e_134 =>
            if e_134 ≤ e_112 then
              D_X7_envies_147 P (D_X7_envies_44 P n) x2_44 x3_44 x4_44 M_44
            else
              D_X7_envies_147 P (D_X7_envies_44 P n) x2_44 (x3_44 ||| ((1 : Int32) <<< (x4_44 &&& 31))) x4_44 M_44
        else
          D_X7_envies_147 P (D_X7_envies_44 P n) x2_44 x3_44 x4_44 M_44
noncomputable def D_X7_envies (P : Nat) (v0 : Int32) (v1 : Int32) (M : zMt) : Option (Int32 × zMt) :=
  zB (D_X7_isSeed v0) fun e_1 =>
  if e_1 = 0 then
    zB (D_X7_refuse P (1 : Int32) M) fun e_9 =>
    some (e_9.1, e_9.2)
  else
    zB (D_X7_isApplicant P M v1) fun e_15 =>
    if e_15 = 0 then
      zB (D_X7_refuse P (2 : Int32) M) fun e_23 =>
      some (e_23.1, e_23.2)
    else
      zB (D_X5_bySeed (P + 104) (P + 91) v0 M) fun e_36 =>
      D_X7_envies_44 P zFu v1 (0 : Int32) (0 : Int32) e_36
set_option maxRecDepth 100000 in
set_option maxHeartbeats 4000000 in
theorem t_X7_envies {l : Launch} {G : zG} {b : Nat} {L : List zC} {M : zMt} {N : zNt} {P : Nat} {v0 : Int32} {v1 : Int32} (hP : LX7 L P) {r : Int32 × zMt} (h : D_X7_envies P v0 v1 M = some r) : zM l G b yX7_envies cX7_envies 7 (some .int) 5 0 0 [.ref P, .int v0, .int v1] (L, M, N) (fun r2 z => r2 = some (.int r.1) ∧ z = (L, r.2, N)) := by
  refine zM.of miX7_envies (Nat.le_of_ble_eq_true rfl) ?_
  intro p e s m args below meth c X hr hname
  generalize hF : ((fun r2 z => r2 = some (.int r.1) ∧ z = (L, r.2, N)) : Option Value → zS → Prop) = FQ
  change Zw p l e { frames := 5, cells := 0, slots := 0, locals := 80 * (5) } s m args below meth c G b 7 (MQ below (zQ G b FQ) args s 0 0 (fun q : Nat => b ≤ q)) 0 0 0 [some (.ref P), some (.int v0), some (.int v1), none, none, none, none] [] (L, M, N)
  have p_lt := hP.1
  have p_o := hP.2.1
  have p_pool := hP.2.2.2.2.2.2.2.1
  have p_pool_lt := p_pool.1
  have p_pool_o := p_pool.2.1
  have p_pool_score := p_pool.2.2.2.2.2.2.2.2.1
  have p_result := hP.2.2.2.2.2.2.2.2.1
  have p_result_lt := p_result.1
  have p_result_o := p_result.2.1
  have p_result_unitOf := p_result.2.2.2.1
  have L_44 : ∀ u : Nat, ∀ (x1_44 : Int32) (x2_44 : Int32) (x3_44 : Int32) (x4_44 : Int32) (x5_44 : Option Value) (x6_44 : Option Value) (M_44 : zMt), D_X7_envies_44 P u x2_44 x3_44 x4_44 M_44 = some r → Zw p l e { frames := 5, cells := 0, slots := 0, locals := 80 * (5) } s m args below meth c G b 7 (MQ below (zQ G b FQ) args s 0 0 (fun q : Nat => b ≤ q)) 0 0 44 [some (.ref (P)), some (.int x1_44), some (.int x2_44), some (.int x3_44), some (.int x4_44), x5_44, x6_44] [] (L, M_44, N) := by
    intro u
    induction u with
    | zero => intro x1_44 x2_44 x3_44 x4_44 x5_44 x6_44 M_44 h; cases (show none = some r from h)
    | succ u_44 ih_44 =>
      have J_147 : ∀ (x1_147 : Int32) (x2_147 : Int32) (x3_147 : Int32) (x4_147 : Int32) (x5_147 : Int32) (x6_147 : Option Value) (M_147 : zMt), D_X7_envies_147 P (D_X7_envies_44 P u_44) x2_147 x3_147 x4_147 M_147 = some r → Zw p l e { frames := 5, cells := 0, slots := 0, locals := 80 * (5) } s m args below meth c G b 7 (MQ below (zQ G b FQ) args s 0 0 (fun q : Nat => b ≤ q)) 0 0 147 [some (.ref (P)), some (.int x1_147), some (.int x2_147), some (.int x3_147), some (.int x4_147), some (.int x5_147), x6_147] [] (L, M_147, N) := by
        intro x1_147 x2_147 x3_147 x4_147 x5_147 x6_147 M_147 h
        unfold D_X7_envies_147 at h
        refine a_iinc (v := x4_147 + 1) X dX7_envies_147 (by decide) rfl zi_1 ?_
        refine a_goto (tgt := 44) X dX7_envies_150 (by decide) ?_
        exact Zw.to2 (ih_44 _ _ _ _ _ _ _ h) rfl rfl rfl
      intro x1_44 x2_44 x3_44 x4_44 x5_44 x6_44 M_44 h
      rw [D_X7_envies_44] at h
      refine a_iload X dX7_envies_44 rfl ?_
      refine a_aload_n X dX7_envies_46 rfl ?_
      refine a_getr X lf7_40 (by first | exact p_o | assumption) rfl (by omega) dX7_envies_47 ?_
      refine a_geti X lf7_140 (by first | exact p_pool_o | assumption) rfl dX7_envies_50 ?_
      refine a_icmp_ge (tgt := 153) X dX7_envies_53 (by decide) (fun h_53 => ?_) (fun h_53 => ?_)
      · replace h := (if_pos h_53).symm.trans h
        refine a_aload_n X dX7_envies_153 rfl ?_
        refine a_iload_n X dX7_envies_154 rfl ?_
        obtain ⟨e_155, f_155, h⟩ := zBx h
        refine a_callVv X dX7_envies_155 miX7_answer lm7_134 (t_X7_answer (by first | exact hP | assumption) f_155) (by first | exact p_o | assumption) rfl rfl rfl (Nat.le_of_ble_eq_true rfl) ⟨by decide, by decide, by decide, by decide⟩ ?_
        refine a_iret X hr dX7_envies_158 ⟨by decide, by decide⟩ ?_
        subst hF
        rw [← Option.some.inj h]
        exact ⟨rfl, rfl⟩
      · replace h := (if_neg h_53).symm.trans h
        refine a_aload_n X dX7_envies_56 rfl ?_
        refine a_getr X lf7_47 (by first | exact p_o | assumption) rfl (by omega) dX7_envies_57 ?_
        refine a_getr X lf7_250 (by first | exact p_result_o | assumption) rfl (by omega) dX7_envies_60 ?_
        refine a_iload X dX7_envies_63 rfl ?_
        refine a_callSv X dX7_envies_65 miX7_cell lm7_175 (c_cell (by first | exact p_result_unitOf | assumption) (by decide)) rfl rfl (Nat.le_of_ble_eq_true rfl) ⟨by decide, by decide, by decide, by decide⟩ ?_
        refine a_istore X dX7_envies_68 (by decide) ?_
        refine a_iload X dX7_envies_70 rfl ?_
        refine a_iconst (v := -1) X dX7_envies_72 (by decide) ?_
        refine a_icmp_eq (tgt := 147) X dX7_envies_73 (by decide) (fun h_73 => ?_) (fun h_73 => ?_)
        · replace h := (if_pos h_73).symm.trans h
          exact Zw.to2 (J_147 _ _ _ _ _ _ _ h) rfl rfl rfl
        · replace h := (if_neg h_73).symm.trans h
          refine a_aload_n X dX7_envies_76 rfl ?_
          refine a_getr X lf7_40 (by first | exact p_o | assumption) rfl (by omega) dX7_envies_77 ?_
          refine a_getr X lf7_215 (by first | exact p_pool_o | assumption) rfl (by omega) dX7_envies_80 ?_
          refine a_iload X dX7_envies_83 rfl ?_
          refine a_callSv X dX7_envies_85 miX7_cell lm7_175 (c_cell (by first | exact p_pool_score | assumption) (by decide)) rfl rfl (Nat.le_of_ble_eq_true rfl) ⟨by decide, by decide, by decide, by decide⟩ ?_
          refine a_aload_n X dX7_envies_88 rfl ?_
          refine a_getr X lf7_40 (by first | exact p_o | assumption) rfl (by omega) dX7_envies_89 ?_
          refine a_getr X lf7_215 (by first | exact p_pool_o | assumption) rfl (by omega) dX7_envies_92 ?_
          refine a_iload_n X dX7_envies_95 rfl ?_
          refine a_callSv X dX7_envies_96 miX7_cell lm7_175 (c_cell (by first | exact p_pool_score | assumption) (by decide)) rfl rfl (Nat.le_of_ble_eq_true rfl) ⟨by decide, by decide, by decide, by decide⟩ ?_
          refine a_icmp_lt (tgt := 105) X dX7_envies_99 (by decide) (fun h_99 => ?_) (fun h_99 => ?_)
          · replace h := (if_pos h_99).symm.trans h
            refine a_aload_n X dX7_envies_105 rfl ?_
            refine a_getr X lf7_40 (by first | exact p_o | assumption) rfl (by omega) dX7_envies_106 ?_
            refine a_iload_n X dX7_envies_109 rfl ?_
            refine a_iload X dX7_envies_110 rfl ?_
            obtain ⟨e_112, f_112, h⟩ := zBx h
            refine a_callVv X dX7_envies_112 miX2_rankOf lm7_277 (t_X2_rankOf (by first | exact p_pool | assumption) f_112) (by first | exact p_pool_o | assumption) rfl rfl rfl (Nat.le_of_ble_eq_true rfl) ⟨by decide, by decide, by decide, by decide⟩ ?_
            refine a_istore X dX7_envies_115 (by decide) ?_
            refine a_iload X dX7_envies_117 rfl ?_
            refine a_iconst (v := -1) X dX7_envies_119 (by decide) ?_
            refine a_icmp_eq (tgt := 147) X dX7_envies_120 (by decide) (fun h_120 => ?_) (fun h_120 => ?_)
            · replace h := (if_pos h_120).symm.trans h
              exact Zw.to2 (J_147 _ _ _ _ _ _ _ h) rfl rfl rfl
            · replace h := (if_neg h_120).symm.trans h
              refine a_iload X dX7_envies_123 rfl ?_
              refine a_aload_n X dX7_envies_125 rfl ?_
              refine a_getr X lf7_47 (by first | exact p_o | assumption) rfl (by omega) dX7_envies_126 ?_
              refine a_aload_n X dX7_envies_129 rfl ?_
              refine a_getr X lf7_40 (by first | exact p_o | assumption) rfl (by omega) dX7_envies_130 ?_
              refine a_iload_n X dX7_envies_133 rfl ?_
              obtain ⟨e_134, f_134, h⟩ := zBx h
              refine a_callVv X dX7_envies_134 miX5_rankHeld lm7_280 (t_X5_rankHeld (by first | exact p_result | assumption) (by first | exact p_pool | assumption) f_134) (by first | exact p_result_o | assumption) rfl rfl rfl (Nat.le_of_ble_eq_true rfl) ⟨by decide, by decide, by decide, by decide⟩ ?_
              refine a_icmp_ge (tgt := 147) X dX7_envies_137 (by decide) (fun h_137 => ?_) (fun h_137 => ?_)
              · replace h := (if_pos h_137).symm.trans h
                exact Zw.to2 (J_147 _ _ _ _ _ _ _ h) rfl rfl rfl
              · replace h := (if_neg h_137).symm.trans h
                refine a_iload_n X dX7_envies_140 rfl ?_
                refine a_iconst (v := 1) X dX7_envies_141 (by decide) ?_
                refine a_iload X dX7_envies_142 rfl ?_
                refine a_ishl X dX7_envies_144 ?_
                refine a_ior X dX7_envies_145 ?_
                refine a_istore_n X dX7_envies_146 (by decide) ?_
                exact Zw.to2 (J_147 _ _ _ _ _ _ _ h) rfl rfl rfl
          · replace h := (if_neg h_99).symm.trans h
            refine a_goto (tgt := 147) X dX7_envies_102 (by decide) ?_
            exact Zw.to2 (J_147 _ _ _ _ _ _ _ h) rfl rfl rfl
  have H_44 : ∀ (x1_44 : Int32) (x2_44 : Int32) (x3_44 : Int32) (x4_44 : Int32) (x5_44 : Option Value) (x6_44 : Option Value) (M_44 : zMt), D_X7_envies_44 P zFu x2_44 x3_44 x4_44 M_44 = some r → Zw p l e { frames := 5, cells := 0, slots := 0, locals := 80 * (5) } s m args below meth c G b 7 (MQ below (zQ G b FQ) args s 0 0 (fun q : Nat => b ≤ q)) 0 0 44 [some (.ref (P)), some (.int x1_44), some (.int x2_44), some (.int x3_44), some (.int x4_44), x5_44, x6_44] [] (L, M_44, N) := L_44 zFu
  unfold D_X7_envies at h
  refine a_iload_n X dX7_envies_0 rfl ?_
  obtain ⟨e_1, f_1, h⟩ := zBx h
  refine a_callSx X dX7_envies_1 miX7_isSeed lm7_237 (t_X7_isSeed f_1) rfl rfl (Nat.le_of_ble_eq_true rfl) ⟨by decide, by decide, by decide, by decide⟩ (fun r_1 S_1 q_1 => ?_)
  obtain ⟨rfl, rfl, b_1⟩ := q_1
  refine a_if_ne (tgt := 13) X dX7_envies_4 (by decide) (fun h_4 => ?_) (fun h_4 => ?_)
  · replace h := (if_neg h_4).symm.trans h
    refine a_aload_n X dX7_envies_13 rfl ?_
    refine a_iload_n X dX7_envies_14 rfl ?_
    obtain ⟨e_15, f_15, h⟩ := zBx h
    refine a_callVx X dX7_envies_15 miX7_isApplicant lm7_206 (t_X7_isApplicant (by first | exact hP | assumption) f_15) (by first | exact p_o | assumption) rfl rfl rfl (Nat.le_of_ble_eq_true rfl) ⟨by decide, by decide, by decide, by decide⟩ (fun r_15 S_15 q_15 => ?_)
    obtain ⟨rfl, rfl, b_15⟩ := q_15
    refine a_if_ne (tgt := 27) X dX7_envies_18 (by decide) (fun h_18 => ?_) (fun h_18 => ?_)
    · replace h := (if_neg h_18).symm.trans h
      refine a_aload_n X dX7_envies_27 rfl ?_
      refine a_getr X lf7_47 (by first | exact p_o | assumption) rfl (by omega) dX7_envies_28 ?_
      refine a_aload_n X dX7_envies_31 rfl ?_
      refine a_getr X lf7_40 (by first | exact p_o | assumption) rfl (by omega) dX7_envies_32 ?_
      refine a_iload_n X dX7_envies_35 rfl ?_
      obtain ⟨e_36, f_36, h⟩ := zBx h
      refine a_callVu X dX7_envies_36 miX5_bySeed lm7_247 (t_X5_bySeed (by first | exact p_result | assumption) (by first | exact p_pool | assumption) f_36) (by first | exact p_result_o | assumption) rfl rfl rfl (Nat.le_of_ble_eq_true rfl) ⟨by decide, by decide, by decide, by decide⟩ ?_
      refine a_iconst (v := 0) X dX7_envies_39 (by decide) ?_
      refine a_istore_n X dX7_envies_40 (by decide) ?_
      refine a_iconst (v := 0) X dX7_envies_41 (by decide) ?_
      refine a_istore X dX7_envies_42 (by decide) ?_
      exact Zw.to2 (H_44 _ _ _ _ _ _ _ h) rfl rfl rfl
    · replace h := (if_pos h_18).symm.trans h
      refine a_aload_n X dX7_envies_21 rfl ?_
      refine a_iconst (v := 2) X dX7_envies_22 (by decide) ?_
      obtain ⟨e_23, f_23, h⟩ := zBx h
      refine a_callVv X dX7_envies_23 miX7_refuse lm7_102 (t_X7_refuse (by first | exact hP | assumption) f_23) (by first | exact p_o | assumption) rfl rfl rfl (Nat.le_of_ble_eq_true rfl) ⟨by decide, by decide, by decide, by decide⟩ ?_
      refine a_iret X hr dX7_envies_26 ⟨by decide, by decide⟩ ?_
      subst hF
      rw [← Option.some.inj h]
      exact ⟨rfl, rfl⟩
  · replace h := (if_pos h_4).symm.trans h
    refine a_aload_n X dX7_envies_7 rfl ?_
    refine a_iconst (v := 1) X dX7_envies_8 (by decide) ?_
    obtain ⟨e_9, f_9, h⟩ := zBx h
    refine a_callVv X dX7_envies_9 miX7_refuse lm7_102 (t_X7_refuse (by first | exact hP | assumption) f_9) (by first | exact p_o | assumption) rfl rfl rfl (Nat.le_of_ble_eq_true rfl) ⟨by decide, by decide, by decide, by decide⟩ ?_
    refine a_iret X hr dX7_envies_12 ⟨by decide, by decide⟩ ?_
    subst hF
    rw [← Option.some.inj h]
    exact ⟨rfl, rfl⟩
noncomputable def D_X7_spoils_153 (P : Nat) (k99 : Int32 → Int32 → Int32 → zMt → Option (Int32 × zMt)) (x2_153 : Int32) (x3_153 : Int32) (x4_153 : Int32) (M_153 : zMt) : Option (Int32 × zMt) :=
  k99 x2_153 x3_153 (x4_153 + 1) M_153
noncomputable def D_X7_spoils_99 (P : Nat) : Nat → Int32 → Int32 → Int32 → zMt → Option (Int32 × zMt)
  | 0, _, _, _, _ => none
  | n + 1, x2_99, x3_99, x4_99, M_99 =>
    if (M_99 (P + 91) 1) ≤ x4_99 then
      zB (D_X7_answer P x3_99 M_99) fun e_161 =>
      some (e_161.1, e_161.2)
    else
      if x4_99 = x2_99 then
        D_X7_spoils_153 P (D_X7_spoils_99 P n) x2_99 x3_99 x4_99 M_99
      else
        zB (D_X5_rankHeld (P + 179) (P + 166) M_99 x4_99) fun e_127 =>
        zB (D_X5_rankHeld (P + 104) (P + 91) M_99 x4_99) fun e_140 =>
        if e_140 ≤ e_127 then
          D_X7_spoils_153 P (D_X7_spoils_99 P n) x2_99 x3_99 x4_99 M_99
        else
          D_X7_spoils_153 P (D_X7_spoils_99 P n) x2_99 (x3_99 ||| ((1 : Int32) <<< (x4_99 &&& 31))) x4_99 M_99
noncomputable def D_X7_spoils (P : Nat) (v0 : Int32) (v1 : Int32) (M : zMt) : Option (Int32 × zMt) :=
  zB (D_X7_isSeed v0) fun e_1 =>
  if e_1 = 0 then
    zB (D_X7_refuse P (1 : Int32) M) fun e_9 =>
    some (e_9.1, e_9.2)
  else
    zB (D_X7_isApplicant P M v1) fun e_15 =>
    if e_15 = 0 then
      zB (D_X7_refuse P (2 : Int32) M) fun e_23 =>
      some (e_23.1, e_23.2)
    else
      zB (D_X5_bySeed (P + 104) (P + 91) v0 M) fun e_36 =>
      zB (D_X4_take (P + 158) (P + 17) e_36) fun e_47 =>
      zB (D_X4_wishFor (P + 158) (zrd 0 (e_47 (P + 100)) 10 v1) (-1 : Int32) (-1 : Int32) (-1 : Int32) e_47) fun e_68 =>
      zB (D_X2_gather (P + 166) (P + 158) e_68) fun e_79 =>
      zB (D_X5_bySeed (P + 179) (P + 166) v0 e_79) fun e_91 =>
      D_X7_spoils_99 P zFu v1 (0 : Int32) (0 : Int32) e_91
set_option maxRecDepth 100000 in
set_option maxHeartbeats 4000000 in
theorem t_X7_spoils {l : Launch} {G : zG} {b : Nat} {L : List zC} {M : zMt} {N : zNt} {P : Nat} {v0 : Int32} {v1 : Int32} (hP : LX7 L P) {r : Int32 × zMt} (h : D_X7_spoils P v0 v1 M = some r) : zM l G b yX7_spoils cX7_spoils 5 (some .int) 5 0 0 [.ref P, .int v0, .int v1] (L, M, N) (fun r2 z => r2 = some (.int r.1) ∧ z = (L, r.2, N)) := by
  refine zM.of miX7_spoils (Nat.le_of_ble_eq_true rfl) ?_
  intro p e s m args below meth c X hr hname
  generalize hF : ((fun r2 z => r2 = some (.int r.1) ∧ z = (L, r.2, N)) : Option Value → zS → Prop) = FQ
  change Zw p l e { frames := 5, cells := 0, slots := 0, locals := 80 * (5) } s m args below meth c G b 5 (MQ below (zQ G b FQ) args s 0 0 (fun q : Nat => b ≤ q)) 0 0 0 [some (.ref P), some (.int v0), some (.int v1), none, none] [] (L, M, N)
  have p_lt := hP.1
  have p_o := hP.2.1
  have p_list := hP.2.2.2.2.2.1
  have p_list_lt := p_list.1
  have p_list_o := p_list.2.1
  have p_pool := hP.2.2.2.2.2.2.2.1
  have p_pool_lt := p_pool.1
  have p_pool_o := p_pool.2.1
  have p_pool_bits := p_pool.2.2.2.2.2.2.2.2.2.2.1
  have p_result := hP.2.2.2.2.2.2.2.2.1
  have p_result_lt := p_result.1
  have p_result_o := p_result.2.1
  have p_trial := hP.2.2.2.2.2.2.2.2.2.2.2.1
  have p_trial_lt := p_trial.1
  have p_trial_o := p_trial.2.1
  have p_trialPool := hP.2.2.2.2.2.2.2.2.2.2.2.2.1
  have p_trialPool_lt := p_trialPool.1
  have p_trialPool_o := p_trialPool.2.1
  have p_trialResult := hP.2.2.2.2.2.2.2.2.2.2.2.2.2.1
  have p_trialResult_lt := p_trialResult.1
  have p_trialResult_o := p_trialResult.2.1
  have L_99 : ∀ u : Nat, ∀ (x1_99 : Int32) (x2_99 : Int32) (x3_99 : Int32) (x4_99 : Int32) (M_99 : zMt), D_X7_spoils_99 P u x2_99 x3_99 x4_99 M_99 = some r → Zw p l e { frames := 5, cells := 0, slots := 0, locals := 80 * (5) } s m args below meth c G b 5 (MQ below (zQ G b FQ) args s 0 0 (fun q : Nat => b ≤ q)) 0 0 99 [some (.ref (P)), some (.int x1_99), some (.int x2_99), some (.int x3_99), some (.int x4_99)] [] (L, M_99, N) := by
    intro u
    induction u with
    | zero => intro x1_99 x2_99 x3_99 x4_99 M_99 h; cases (show none = some r from h)
    | succ u_99 ih_99 =>
      have J_153 : ∀ (x1_153 : Int32) (x2_153 : Int32) (x3_153 : Int32) (x4_153 : Int32) (M_153 : zMt), D_X7_spoils_153 P (D_X7_spoils_99 P u_99) x2_153 x3_153 x4_153 M_153 = some r → Zw p l e { frames := 5, cells := 0, slots := 0, locals := 80 * (5) } s m args below meth c G b 5 (MQ below (zQ G b FQ) args s 0 0 (fun q : Nat => b ≤ q)) 0 0 153 [some (.ref (P)), some (.int x1_153), some (.int x2_153), some (.int x3_153), some (.int x4_153)] [] (L, M_153, N) := by
        intro x1_153 x2_153 x3_153 x4_153 M_153 h
        unfold D_X7_spoils_153 at h
        refine a_iinc (v := x4_153 + 1) X dX7_spoils_153 (by decide) rfl zi_1 ?_
        refine a_goto (tgt := 99) X dX7_spoils_156 (by decide) ?_
        exact Zw.to2 (ih_99 _ _ _ _ _ h) rfl rfl rfl
      intro x1_99 x2_99 x3_99 x4_99 M_99 h
      rw [D_X7_spoils_99] at h
      refine a_iload X dX7_spoils_99 rfl ?_
      refine a_aload_n X dX7_spoils_101 rfl ?_
      refine a_getr X lf7_40 (by first | exact p_o | assumption) rfl (by omega) dX7_spoils_102 ?_
      refine a_geti X lf7_140 (by first | exact p_pool_o | assumption) rfl dX7_spoils_105 ?_
      refine a_icmp_ge (tgt := 159) X dX7_spoils_108 (by decide) (fun h_108 => ?_) (fun h_108 => ?_)
      · replace h := (if_pos h_108).symm.trans h
        refine a_aload_n X dX7_spoils_159 rfl ?_
        refine a_iload_n X dX7_spoils_160 rfl ?_
        obtain ⟨e_161, f_161, h⟩ := zBx h
        refine a_callVv X dX7_spoils_161 miX7_answer lm7_134 (t_X7_answer (by first | exact hP | assumption) f_161) (by first | exact p_o | assumption) rfl rfl rfl (Nat.le_of_ble_eq_true rfl) ⟨by decide, by decide, by decide, by decide⟩ ?_
        refine a_iret X hr dX7_spoils_164 ⟨by decide, by decide⟩ ?_
        subst hF
        rw [← Option.some.inj h]
        exact ⟨rfl, rfl⟩
      · replace h := (if_neg h_108).symm.trans h
        refine a_iload X dX7_spoils_111 rfl ?_
        refine a_iload_n X dX7_spoils_113 rfl ?_
        refine a_icmp_eq (tgt := 153) X dX7_spoils_114 (by decide) (fun h_114 => ?_) (fun h_114 => ?_)
        · replace h := (if_pos h_114).symm.trans h
          exact Zw.to2 (J_153 _ _ _ _ _ h) rfl rfl rfl
        · replace h := (if_neg h_114).symm.trans h
          refine a_aload_n X dX7_spoils_117 rfl ?_
          refine a_getr X lf7_71 (by first | exact p_o | assumption) rfl (by omega) dX7_spoils_118 ?_
          refine a_aload_n X dX7_spoils_121 rfl ?_
          refine a_getr X lf7_68 (by first | exact p_o | assumption) rfl (by omega) dX7_spoils_122 ?_
          refine a_iload X dX7_spoils_125 rfl ?_
          obtain ⟨e_127, f_127, h⟩ := zBx h
          refine a_callVv X dX7_spoils_127 miX5_rankHeld lm7_280 (t_X5_rankHeld (by first | exact p_trialResult | assumption) (by first | exact p_trialPool | assumption) f_127) (by first | exact p_trialResult_o | assumption) rfl rfl rfl (Nat.le_of_ble_eq_true rfl) ⟨by decide, by decide, by decide, by decide⟩ ?_
          refine a_aload_n X dX7_spoils_130 rfl ?_
          refine a_getr X lf7_47 (by first | exact p_o | assumption) rfl (by omega) dX7_spoils_131 ?_
          refine a_aload_n X dX7_spoils_134 rfl ?_
          refine a_getr X lf7_40 (by first | exact p_o | assumption) rfl (by omega) dX7_spoils_135 ?_
          refine a_iload X dX7_spoils_138 rfl ?_
          obtain ⟨e_140, f_140, h⟩ := zBx h
          refine a_callVv X dX7_spoils_140 miX5_rankHeld lm7_280 (t_X5_rankHeld (by first | exact p_result | assumption) (by first | exact p_pool | assumption) f_140) (by first | exact p_result_o | assumption) rfl rfl rfl (Nat.le_of_ble_eq_true rfl) ⟨by decide, by decide, by decide, by decide⟩ ?_
          refine a_icmp_ge (tgt := 153) X dX7_spoils_143 (by decide) (fun h_143 => ?_) (fun h_143 => ?_)
          · replace h := (if_pos h_143).symm.trans h
            exact Zw.to2 (J_153 _ _ _ _ _ h) rfl rfl rfl
          · replace h := (if_neg h_143).symm.trans h
            refine a_iload_n X dX7_spoils_146 rfl ?_
            refine a_iconst (v := 1) X dX7_spoils_147 (by decide) ?_
            refine a_iload X dX7_spoils_148 rfl ?_
            refine a_ishl X dX7_spoils_150 ?_
            refine a_ior X dX7_spoils_151 ?_
            refine a_istore_n X dX7_spoils_152 (by decide) ?_
            exact Zw.to2 (J_153 _ _ _ _ _ h) rfl rfl rfl
  have H_99 : ∀ (x1_99 : Int32) (x2_99 : Int32) (x3_99 : Int32) (x4_99 : Int32) (M_99 : zMt), D_X7_spoils_99 P zFu x2_99 x3_99 x4_99 M_99 = some r → Zw p l e { frames := 5, cells := 0, slots := 0, locals := 80 * (5) } s m args below meth c G b 5 (MQ below (zQ G b FQ) args s 0 0 (fun q : Nat => b ≤ q)) 0 0 99 [some (.ref (P)), some (.int x1_99), some (.int x2_99), some (.int x3_99), some (.int x4_99)] [] (L, M_99, N) := L_99 zFu
  unfold D_X7_spoils at h
  refine a_iload_n X dX7_spoils_0 rfl ?_
  obtain ⟨e_1, f_1, h⟩ := zBx h
  refine a_callSx X dX7_spoils_1 miX7_isSeed lm7_237 (t_X7_isSeed f_1) rfl rfl (Nat.le_of_ble_eq_true rfl) ⟨by decide, by decide, by decide, by decide⟩ (fun r_1 S_1 q_1 => ?_)
  obtain ⟨rfl, rfl, b_1⟩ := q_1
  refine a_if_ne (tgt := 13) X dX7_spoils_4 (by decide) (fun h_4 => ?_) (fun h_4 => ?_)
  · replace h := (if_neg h_4).symm.trans h
    refine a_aload_n X dX7_spoils_13 rfl ?_
    refine a_iload_n X dX7_spoils_14 rfl ?_
    obtain ⟨e_15, f_15, h⟩ := zBx h
    refine a_callVx X dX7_spoils_15 miX7_isApplicant lm7_206 (t_X7_isApplicant (by first | exact hP | assumption) f_15) (by first | exact p_o | assumption) rfl rfl rfl (Nat.le_of_ble_eq_true rfl) ⟨by decide, by decide, by decide, by decide⟩ (fun r_15 S_15 q_15 => ?_)
    obtain ⟨rfl, rfl, b_15⟩ := q_15
    refine a_if_ne (tgt := 27) X dX7_spoils_18 (by decide) (fun h_18 => ?_) (fun h_18 => ?_)
    · replace h := (if_neg h_18).symm.trans h
      refine a_aload_n X dX7_spoils_27 rfl ?_
      refine a_getr X lf7_47 (by first | exact p_o | assumption) rfl (by omega) dX7_spoils_28 ?_
      refine a_aload_n X dX7_spoils_31 rfl ?_
      refine a_getr X lf7_40 (by first | exact p_o | assumption) rfl (by omega) dX7_spoils_32 ?_
      refine a_iload_n X dX7_spoils_35 rfl ?_
      obtain ⟨e_36, f_36, h⟩ := zBx h
      refine a_callVu X dX7_spoils_36 miX5_bySeed lm7_247 (t_X5_bySeed (by first | exact p_result | assumption) (by first | exact p_pool | assumption) f_36) (by first | exact p_result_o | assumption) rfl rfl rfl (Nat.le_of_ble_eq_true rfl) ⟨by decide, by decide, by decide, by decide⟩ ?_
      refine a_aload_n X dX7_spoils_39 rfl ?_
      refine a_getr X lf7_65 (by first | exact p_o | assumption) rfl (by omega) dX7_spoils_40 ?_
      refine a_aload_n X dX7_spoils_43 rfl ?_
      refine a_getr X lf7_26 (by first | exact p_o | assumption) rfl (by omega) dX7_spoils_44 ?_
      obtain ⟨e_47, f_47, h⟩ := zBx h
      refine a_callVu X dX7_spoils_47 miX4_take lm7_113 (t_X4_take (by first | exact p_trial | assumption) (by first | exact p_list | assumption) (by omega) f_47) (by first | exact p_trial_o | assumption) rfl rfl rfl (Nat.le_of_ble_eq_true rfl) ⟨by decide, by decide, by decide, by decide⟩ ?_
      refine a_aload_n X dX7_spoils_50 rfl ?_
      refine a_getr X lf7_65 (by first | exact p_o | assumption) rfl (by omega) dX7_spoils_51 ?_
      refine a_aload_n X dX7_spoils_54 rfl ?_
      refine a_getr X lf7_40 (by first | exact p_o | assumption) rfl (by omega) dX7_spoils_55 ?_
      refine a_getr X lf7_222 (by first | exact p_pool_o | assumption) rfl (by omega) dX7_spoils_58 ?_
      refine a_iload_n X dX7_spoils_61 rfl ?_
      refine a_callSv X dX7_spoils_62 miX7_cell lm7_175 (c_cell (by first | exact p_pool_bits | assumption) (by decide)) rfl rfl (Nat.le_of_ble_eq_true rfl) ⟨by decide, by decide, by decide, by decide⟩ ?_
      refine a_iconst (v := -1) X dX7_spoils_65 (by decide) ?_
      refine a_iconst (v := -1) X dX7_spoils_66 (by decide) ?_
      refine a_iconst (v := -1) X dX7_spoils_67 (by decide) ?_
      obtain ⟨e_68, f_68, h⟩ := zBx h
      refine a_callVu X dX7_spoils_68 miX4_wishFor lm7_283 (t_X4_wishFor (by first | exact p_trial | assumption) f_68) (by first | exact p_trial_o | assumption) rfl rfl rfl (Nat.le_of_ble_eq_true rfl) ⟨by decide, by decide, by decide, by decide⟩ ?_
      refine a_aload_n X dX7_spoils_71 rfl ?_
      refine a_getr X lf7_68 (by first | exact p_o | assumption) rfl (by omega) dX7_spoils_72 ?_
      refine a_aload_n X dX7_spoils_75 rfl ?_
      refine a_getr X lf7_65 (by first | exact p_o | assumption) rfl (by omega) dX7_spoils_76 ?_
      obtain ⟨e_79, f_79, h⟩ := zBx h
      refine a_callVu X dX7_spoils_79 miX2_gather lm7_80 (t_X2_gather (by first | exact p_trialPool | assumption) (by first | exact p_trial | assumption) f_79) (by first | exact p_trialPool_o | assumption) rfl rfl rfl (Nat.le_of_ble_eq_true rfl) ⟨by decide, by decide, by decide, by decide⟩ ?_
      refine a_aload_n X dX7_spoils_82 rfl ?_
      refine a_getr X lf7_71 (by first | exact p_o | assumption) rfl (by omega) dX7_spoils_83 ?_
      refine a_aload_n X dX7_spoils_86 rfl ?_
      refine a_getr X lf7_68 (by first | exact p_o | assumption) rfl (by omega) dX7_spoils_87 ?_
      refine a_iload_n X dX7_spoils_90 rfl ?_
      obtain ⟨e_91, f_91, h⟩ := zBx h
      refine a_callVu X dX7_spoils_91 miX5_bySeed lm7_247 (t_X5_bySeed (by first | exact p_trialResult | assumption) (by first | exact p_trialPool | assumption) f_91) (by first | exact p_trialResult_o | assumption) rfl rfl rfl (Nat.le_of_ble_eq_true rfl) ⟨by decide, by decide, by decide, by decide⟩ ?_
      refine a_iconst (v := 0) X dX7_spoils_94 (by decide) ?_
      refine a_istore_n X dX7_spoils_95 (by decide) ?_
      refine a_iconst (v := 0) X dX7_spoils_96 (by decide) ?_
      refine a_istore X dX7_spoils_97 (by decide) ?_
      exact Zw.to2 (H_99 _ _ _ _ _ h) rfl rfl rfl
    · replace h := (if_pos h_18).symm.trans h
      refine a_aload_n X dX7_spoils_21 rfl ?_
      refine a_iconst (v := 2) X dX7_spoils_22 (by decide) ?_
      obtain ⟨e_23, f_23, h⟩ := zBx h
      refine a_callVv X dX7_spoils_23 miX7_refuse lm7_102 (t_X7_refuse (by first | exact hP | assumption) f_23) (by first | exact p_o | assumption) rfl rfl rfl (Nat.le_of_ble_eq_true rfl) ⟨by decide, by decide, by decide, by decide⟩ ?_
      refine a_iret X hr dX7_spoils_26 ⟨by decide, by decide⟩ ?_
      subst hF
      rw [← Option.some.inj h]
      exact ⟨rfl, rfl⟩
  · replace h := (if_pos h_4).symm.trans h
    refine a_aload_n X dX7_spoils_7 rfl ?_
    refine a_iconst (v := 1) X dX7_spoils_8 (by decide) ?_
    obtain ⟨e_9, f_9, h⟩ := zBx h
    refine a_callVv X dX7_spoils_9 miX7_refuse lm7_102 (t_X7_refuse (by first | exact hP | assumption) f_9) (by first | exact p_o | assumption) rfl rfl rfl (Nat.le_of_ble_eq_true rfl) ⟨by decide, by decide, by decide, by decide⟩ ?_
    refine a_iret X hr dX7_spoils_12 ⟨by decide, by decide⟩ ?_
    subst hF
    rw [← Option.some.inj h]
    exact ⟨rfl, rfl⟩
noncomputable def D_X7_behind (P : Nat) (v0 : Int32) (v1 : Int32) (M : zMt) : Option (Int32 × zMt) :=
  zB (D_X7_isSeed v0) fun e_1 =>
  if e_1 = 0 then
    zB (D_X7_refuse P (1 : Int32) M) fun e_9 =>
    some (e_9.1, e_9.2)
  else
    zB (D_X7_isHunter P M v1) fun e_15 =>
    if e_15 = 0 then
      zB (D_X7_refuse P (2 : Int32) M) fun e_23 =>
      some (e_23.1, e_23.2)
    else
      zB (D_X5_bySeed (P + 104) (P + 91) v0 M) fun e_36 =>
      zB (D_X5_scoreBehind (P + 104) (P + 91) e_36 (zrd 0 (e_36 (P + 95)) 10 v1) (zrd 0 (e_36 (P + 19)) 10 v1)) fun e_70 =>
      zB (D_X7_answer P e_70 e_36) fun e_73 =>
      some (e_73.1, e_73.2)
set_option maxRecDepth 100000 in
set_option maxHeartbeats 4000000 in
theorem t_X7_behind {l : Launch} {G : zG} {b : Nat} {L : List zC} {M : zMt} {N : zNt} {P : Nat} {v0 : Int32} {v1 : Int32} (hP : LX7 L P) {r : Int32 × zMt} (h : D_X7_behind P v0 v1 M = some r) : zM l G b yX7_behind cX7_behind 3 (some .int) 5 0 0 [.ref P, .int v0, .int v1] (L, M, N) (fun r2 z => r2 = some (.int r.1) ∧ z = (L, r.2, N)) := by
  refine zM.of miX7_behind (Nat.le_of_ble_eq_true rfl) ?_
  intro p e s m args below meth c X hr hname
  generalize hF : ((fun r2 z => r2 = some (.int r.1) ∧ z = (L, r.2, N)) : Option Value → zS → Prop) = FQ
  change Zw p l e { frames := 5, cells := 0, slots := 0, locals := 80 * (5) } s m args below meth c G b 3 (MQ below (zQ G b FQ) args s 0 0 (fun q : Nat => b ≤ q)) 0 0 0 [some (.ref P), some (.int v0), some (.int v1)] [] (L, M, N)
  have p_lt := hP.1
  have p_o := hP.2.1
  have p_list := hP.2.2.2.2.2.1
  have p_list_lt := p_list.1
  have p_list_o := p_list.2.1
  have p_list_score := p_list.2.2.2.1
  have p_pool := hP.2.2.2.2.2.2.2.1
  have p_pool_lt := p_pool.1
  have p_pool_o := p_pool.2.1
  have p_pool_applicantOf := p_pool.2.2.2.2.2.1
  have p_result := hP.2.2.2.2.2.2.2.2.1
  have p_result_lt := p_result.1
  have p_result_o := p_result.2.1
  unfold D_X7_behind at h
  refine a_iload_n X dX7_behind_0 rfl ?_
  obtain ⟨e_1, f_1, h⟩ := zBx h
  refine a_callSx X dX7_behind_1 miX7_isSeed lm7_237 (t_X7_isSeed f_1) rfl rfl (Nat.le_of_ble_eq_true rfl) ⟨by decide, by decide, by decide, by decide⟩ (fun r_1 S_1 q_1 => ?_)
  obtain ⟨rfl, rfl, b_1⟩ := q_1
  refine a_if_ne (tgt := 13) X dX7_behind_4 (by decide) (fun h_4 => ?_) (fun h_4 => ?_)
  · replace h := (if_neg h_4).symm.trans h
    refine a_aload_n X dX7_behind_13 rfl ?_
    refine a_iload_n X dX7_behind_14 rfl ?_
    obtain ⟨e_15, f_15, h⟩ := zBx h
    refine a_callVx X dX7_behind_15 miX7_isHunter lm7_168 (t_X7_isHunter (by first | exact hP | assumption) f_15) (by first | exact p_o | assumption) rfl rfl rfl (Nat.le_of_ble_eq_true rfl) ⟨by decide, by decide, by decide, by decide⟩ (fun r_15 S_15 q_15 => ?_)
    obtain ⟨rfl, rfl, b_15⟩ := q_15
    refine a_if_ne (tgt := 27) X dX7_behind_18 (by decide) (fun h_18 => ?_) (fun h_18 => ?_)
    · replace h := (if_neg h_18).symm.trans h
      refine a_aload_n X dX7_behind_27 rfl ?_
      refine a_getr X lf7_47 (by first | exact p_o | assumption) rfl (by omega) dX7_behind_28 ?_
      refine a_aload_n X dX7_behind_31 rfl ?_
      refine a_getr X lf7_40 (by first | exact p_o | assumption) rfl (by omega) dX7_behind_32 ?_
      refine a_iload_n X dX7_behind_35 rfl ?_
      obtain ⟨e_36, f_36, h⟩ := zBx h
      refine a_callVu X dX7_behind_36 miX5_bySeed lm7_247 (t_X5_bySeed (by first | exact p_result | assumption) (by first | exact p_pool | assumption) f_36) (by first | exact p_result_o | assumption) rfl rfl rfl (Nat.le_of_ble_eq_true rfl) ⟨by decide, by decide, by decide, by decide⟩ ?_
      refine a_aload_n X dX7_behind_39 rfl ?_
      refine a_aload_n X dX7_behind_40 rfl ?_
      refine a_getr X lf7_47 (by first | exact p_o | assumption) rfl (by omega) dX7_behind_41 ?_
      refine a_aload_n X dX7_behind_44 rfl ?_
      refine a_getr X lf7_40 (by first | exact p_o | assumption) rfl (by omega) dX7_behind_45 ?_
      refine a_aload_n X dX7_behind_48 rfl ?_
      refine a_getr X lf7_40 (by first | exact p_o | assumption) rfl (by omega) dX7_behind_49 ?_
      refine a_getr X lf7_182 (by first | exact p_pool_o | assumption) rfl (by omega) dX7_behind_52 ?_
      refine a_iload_n X dX7_behind_55 rfl ?_
      refine a_callSv X dX7_behind_56 miX7_cell lm7_175 (c_cell (by first | exact p_pool_applicantOf | assumption) (by decide)) rfl rfl (Nat.le_of_ble_eq_true rfl) ⟨by decide, by decide, by decide, by decide⟩ ?_
      refine a_aload_n X dX7_behind_59 rfl ?_
      refine a_getr X lf7_26 (by first | exact p_o | assumption) rfl (by omega) dX7_behind_60 ?_
      refine a_getr X lf7_172 (by first | exact p_list_o | assumption) rfl (by omega) dX7_behind_63 ?_
      refine a_iload_n X dX7_behind_66 rfl ?_
      refine a_callSv X dX7_behind_67 miX7_cell lm7_175 (c_cell (by first | exact p_list_score | assumption) (by decide)) rfl rfl (Nat.le_of_ble_eq_true rfl) ⟨by decide, by decide, by decide, by decide⟩ ?_
      obtain ⟨e_70, f_70, h⟩ := zBx h
      refine a_callVv X dX7_behind_70 miX5_scoreBehind lm7_287 (t_X5_scoreBehind (by first | exact p_result | assumption) (by first | exact p_pool | assumption) f_70) (by first | exact p_result_o | assumption) rfl rfl rfl (Nat.le_of_ble_eq_true rfl) ⟨by decide, by decide, by decide, by decide⟩ ?_
      obtain ⟨e_73, f_73, h⟩ := zBx h
      refine a_callVv X dX7_behind_73 miX7_answer lm7_134 (t_X7_answer (by first | exact hP | assumption) f_73) (by first | exact p_o | assumption) rfl rfl rfl (Nat.le_of_ble_eq_true rfl) ⟨by decide, by decide, by decide, by decide⟩ ?_
      refine a_iret X hr dX7_behind_76 ⟨by decide, by decide⟩ ?_
      subst hF
      rw [← Option.some.inj h]
      exact ⟨rfl, rfl⟩
    · replace h := (if_pos h_18).symm.trans h
      refine a_aload_n X dX7_behind_21 rfl ?_
      refine a_iconst (v := 2) X dX7_behind_22 (by decide) ?_
      obtain ⟨e_23, f_23, h⟩ := zBx h
      refine a_callVv X dX7_behind_23 miX7_refuse lm7_102 (t_X7_refuse (by first | exact hP | assumption) f_23) (by first | exact p_o | assumption) rfl rfl rfl (Nat.le_of_ble_eq_true rfl) ⟨by decide, by decide, by decide, by decide⟩ ?_
      refine a_iret X hr dX7_behind_26 ⟨by decide, by decide⟩ ?_
      subst hF
      rw [← Option.some.inj h]
      exact ⟨rfl, rfl⟩
  · replace h := (if_pos h_4).symm.trans h
    refine a_aload_n X dX7_behind_7 rfl ?_
    refine a_iconst (v := 1) X dX7_behind_8 (by decide) ?_
    obtain ⟨e_9, f_9, h⟩ := zBx h
    refine a_callVv X dX7_behind_9 miX7_refuse lm7_102 (t_X7_refuse (by first | exact hP | assumption) f_9) (by first | exact p_o | assumption) rfl rfl rfl (Nat.le_of_ble_eq_true rfl) ⟨by decide, by decide, by decide, by decide⟩ ?_
    refine a_iret X hr dX7_behind_12 ⟨by decide, by decide⟩ ?_
    subst hF
    rw [← Option.some.inj h]
    exact ⟨rfl, rfl⟩
noncomputable def D_X7_lucky_36 (P : Nat) : Nat → Int32 → Int32 → Int32 → zMt → Option (Int32 × zMt)
  | 0, _, _, _, _ => none
  | n + 1, x1_36, x2_36, x3_36, M_36 =>
    if (50 : Int32) ≤ x3_36 then
      zB (D_X7_refuse P (5 : Int32) M_36) fun e_87 =>
      some (e_87.1, e_87.2)
    else
      zB (D_X5_bySeed (P + 104) (P + 91) (x1_36 + x3_36) M_36) fun e_53 =>
      zB (D_X5_hasFirst (P + 104) (P + 91) e_53 x2_36) fun e_65 =>
      if e_65 = 0 then
        (D_X7_lucky_36 P n) x1_36 x2_36 (x3_36 + 1) e_53
      else
        zB (D_X7_answer P (x1_36 + x3_36) e_53) fun e_75 =>
        some (e_75.1, e_75.2)
noncomputable def D_X7_lucky_14 (P : Nat) (M_14 : zMt) : Option (Int32 × zMt) :=
  zB (D_X7_refuse P (1 : Int32) M_14) fun e_16 =>
  some (e_16.1, e_16.2)
noncomputable def D_X7_lucky (P : Nat) (v0 : Int32) (v1 : Int32) (M : zMt) : Option (Int32 × zMt) :=
  zB (D_X7_isSeed v0) fun e_1 =>
  if e_1 = 0 then
    D_X7_lucky_14 P M
  else
    if v0 ≤ (999999949 : Int32) then
      zB (D_X7_isApplicant P M v1) fun e_22 =>
      if e_22 = 0 then
        zB (D_X7_refuse P (2 : Int32) M) fun e_30 =>
        some (e_30.1, e_30.2)
      else
        D_X7_lucky_36 P zFu v0 v1 (0 : Int32) M
    else
      D_X7_lucky_14 P M
set_option maxRecDepth 100000 in
set_option maxHeartbeats 4000000 in
theorem t_X7_lucky {l : Launch} {G : zG} {b : Nat} {L : List zC} {M : zMt} {N : zNt} {P : Nat} {v0 : Int32} {v1 : Int32} (hP : LX7 L P) {r : Int32 × zMt} (h : D_X7_lucky P v0 v1 M = some r) : zM l G b yX7_lucky cX7_lucky 4 (some .int) 5 0 0 [.ref P, .int v0, .int v1] (L, M, N) (fun r2 z => r2 = some (.int r.1) ∧ z = (L, r.2, N)) := by
  refine zM.of miX7_lucky (Nat.le_of_ble_eq_true rfl) ?_
  intro p e s m args below meth c X hr hname
  generalize hF : ((fun r2 z => r2 = some (.int r.1) ∧ z = (L, r.2, N)) : Option Value → zS → Prop) = FQ
  change Zw p l e { frames := 5, cells := 0, slots := 0, locals := 80 * (5) } s m args below meth c G b 4 (MQ below (zQ G b FQ) args s 0 0 (fun q : Nat => b ≤ q)) 0 0 0 [some (.ref P), some (.int v0), some (.int v1), none] [] (L, M, N)
  have p_lt := hP.1
  have p_o := hP.2.1
  have p_pool := hP.2.2.2.2.2.2.2.1
  have p_pool_lt := p_pool.1
  have p_pool_o := p_pool.2.1
  have p_result := hP.2.2.2.2.2.2.2.2.1
  have p_result_lt := p_result.1
  have p_result_o := p_result.2.1
  have L_36 : ∀ u : Nat, ∀ (x1_36 : Int32) (x2_36 : Int32) (x3_36 : Int32) (M_36 : zMt), D_X7_lucky_36 P u x1_36 x2_36 x3_36 M_36 = some r → Zw p l e { frames := 5, cells := 0, slots := 0, locals := 80 * (5) } s m args below meth c G b 4 (MQ below (zQ G b FQ) args s 0 0 (fun q : Nat => b ≤ q)) 0 0 36 [some (.ref (P)), some (.int x1_36), some (.int x2_36), some (.int x3_36)] [] (L, M_36, N) := by
    intro u
    induction u with
    | zero => intro x1_36 x2_36 x3_36 M_36 h; cases (show none = some r from h)
    | succ u_36 ih_36 =>
      intro x1_36 x2_36 x3_36 M_36 h
      rw [D_X7_lucky_36] at h
      refine a_iload_n X dX7_lucky_36 rfl ?_
      refine a_bipush (v := 50) X dX7_lucky_37 (by decide) ?_
      refine a_icmp_ge (tgt := 85) X dX7_lucky_39 (by decide) (fun h_39 => ?_) (fun h_39 => ?_)
      · replace h := (if_pos h_39).symm.trans h
        refine a_aload_n X dX7_lucky_85 rfl ?_
        refine a_iconst (v := 5) X dX7_lucky_86 (by decide) ?_
        obtain ⟨e_87, f_87, h⟩ := zBx h
        refine a_callVv X dX7_lucky_87 miX7_refuse lm7_102 (t_X7_refuse (by first | exact hP | assumption) f_87) (by first | exact p_o | assumption) rfl rfl rfl (Nat.le_of_ble_eq_true rfl) ⟨by decide, by decide, by decide, by decide⟩ ?_
        refine a_iret X hr dX7_lucky_90 ⟨by decide, by decide⟩ ?_
        subst hF
        rw [← Option.some.inj h]
        exact ⟨rfl, rfl⟩
      · replace h := (if_neg h_39).symm.trans h
        refine a_aload_n X dX7_lucky_42 rfl ?_
        refine a_getr X lf7_47 (by first | exact p_o | assumption) rfl (by omega) dX7_lucky_43 ?_
        refine a_aload_n X dX7_lucky_46 rfl ?_
        refine a_getr X lf7_40 (by first | exact p_o | assumption) rfl (by omega) dX7_lucky_47 ?_
        refine a_iload_n X dX7_lucky_50 rfl ?_
        refine a_iload_n X dX7_lucky_51 rfl ?_
        refine a_iadd X dX7_lucky_52 ?_
        obtain ⟨e_53, f_53, h⟩ := zBx h
        refine a_callVu X dX7_lucky_53 miX5_bySeed lm7_247 (t_X5_bySeed (by first | exact p_result | assumption) (by first | exact p_pool | assumption) f_53) (by first | exact p_result_o | assumption) rfl rfl rfl (Nat.le_of_ble_eq_true rfl) ⟨by decide, by decide, by decide, by decide⟩ ?_
        refine a_aload_n X dX7_lucky_56 rfl ?_
        refine a_getr X lf7_47 (by first | exact p_o | assumption) rfl (by omega) dX7_lucky_57 ?_
        refine a_aload_n X dX7_lucky_60 rfl ?_
        refine a_getr X lf7_40 (by first | exact p_o | assumption) rfl (by omega) dX7_lucky_61 ?_
        refine a_iload_n X dX7_lucky_64 rfl ?_
        obtain ⟨e_65, f_65, h⟩ := zBx h
        refine a_callVx X dX7_lucky_65 miX5_hasFirst lm7_292 (t_X5_hasFirst (by first | exact p_result | assumption) (by first | exact p_pool | assumption) f_65) (by first | exact p_result_o | assumption) rfl rfl rfl (Nat.le_of_ble_eq_true rfl) ⟨by decide, by decide, by decide, by decide⟩ (fun r_65 S_65 q_65 => ?_)
        obtain ⟨rfl, rfl, b_65⟩ := q_65
        refine a_if_eq (tgt := 79) X dX7_lucky_68 (by decide) (fun h_68 => ?_) (fun h_68 => ?_)
        · replace h := (if_pos h_68).symm.trans h
          refine a_iinc (v := x3_36 + 1) X dX7_lucky_79 (by decide) rfl zi_1 ?_
          refine a_goto (tgt := 36) X dX7_lucky_82 (by decide) ?_
          exact Zw.to2 (ih_36 _ _ _ _ h) rfl rfl rfl
        · replace h := (if_neg h_68).symm.trans h
          refine a_aload_n X dX7_lucky_71 rfl ?_
          refine a_iload_n X dX7_lucky_72 rfl ?_
          refine a_iload_n X dX7_lucky_73 rfl ?_
          refine a_iadd X dX7_lucky_74 ?_
          obtain ⟨e_75, f_75, h⟩ := zBx h
          refine a_callVv X dX7_lucky_75 miX7_answer lm7_134 (t_X7_answer (by first | exact hP | assumption) f_75) (by first | exact p_o | assumption) rfl rfl rfl (Nat.le_of_ble_eq_true rfl) ⟨by decide, by decide, by decide, by decide⟩ ?_
          refine a_iret X hr dX7_lucky_78 ⟨by decide, by decide⟩ ?_
          subst hF
          rw [← Option.some.inj h]
          exact ⟨rfl, rfl⟩
  have H_36 : ∀ (x1_36 : Int32) (x2_36 : Int32) (x3_36 : Int32) (M_36 : zMt), D_X7_lucky_36 P zFu x1_36 x2_36 x3_36 M_36 = some r → Zw p l e { frames := 5, cells := 0, slots := 0, locals := 80 * (5) } s m args below meth c G b 4 (MQ below (zQ G b FQ) args s 0 0 (fun q : Nat => b ≤ q)) 0 0 36 [some (.ref (P)), some (.int x1_36), some (.int x2_36), some (.int x3_36)] [] (L, M_36, N) := L_36 zFu
  have J_14 : ∀ (x1_14 : Int32) (x2_14 : Int32) (x3_14 : Option Value) (M_14 : zMt), D_X7_lucky_14 P M_14 = some r → Zw p l e { frames := 5, cells := 0, slots := 0, locals := 80 * (5) } s m args below meth c G b 4 (MQ below (zQ G b FQ) args s 0 0 (fun q : Nat => b ≤ q)) 0 0 14 [some (.ref (P)), some (.int x1_14), some (.int x2_14), x3_14] [] (L, M_14, N) := by
    intro x1_14 x2_14 x3_14 M_14 h
    unfold D_X7_lucky_14 at h
    refine a_aload_n X dX7_lucky_14 rfl ?_
    refine a_iconst (v := 1) X dX7_lucky_15 (by decide) ?_
    obtain ⟨e_16, f_16, h⟩ := zBx h
    refine a_callVv X dX7_lucky_16 miX7_refuse lm7_102 (t_X7_refuse (by first | exact hP | assumption) f_16) (by first | exact p_o | assumption) rfl rfl rfl (Nat.le_of_ble_eq_true rfl) ⟨by decide, by decide, by decide, by decide⟩ ?_
    refine a_iret X hr dX7_lucky_19 ⟨by decide, by decide⟩ ?_
    subst hF
    rw [← Option.some.inj h]
    exact ⟨rfl, rfl⟩
  unfold D_X7_lucky at h
  refine a_iload_n X dX7_lucky_0 rfl ?_
  obtain ⟨e_1, f_1, h⟩ := zBx h
  refine a_callSx X dX7_lucky_1 miX7_isSeed lm7_237 (t_X7_isSeed f_1) rfl rfl (Nat.le_of_ble_eq_true rfl) ⟨by decide, by decide, by decide, by decide⟩ (fun r_1 S_1 q_1 => ?_)
  obtain ⟨rfl, rfl, b_1⟩ := q_1
  refine a_if_eq (tgt := 14) X dX7_lucky_4 (by decide) (fun h_4 => ?_) (fun h_4 => ?_)
  · replace h := (if_pos h_4).symm.trans h
    exact Zw.to2 (J_14 _ _ _ _ h) rfl rfl rfl
  · replace h := (if_neg h_4).symm.trans h
    refine a_iload_n X dX7_lucky_7 rfl ?_
    refine a_ldcw X dX7_lucky_8 lk7_291 ?_
    refine a_icmp_le (tgt := 20) X dX7_lucky_11 (by decide) (fun h_11 => ?_) (fun h_11 => ?_)
    · replace h := (if_pos h_11).symm.trans h
      refine a_aload_n X dX7_lucky_20 rfl ?_
      refine a_iload_n X dX7_lucky_21 rfl ?_
      obtain ⟨e_22, f_22, h⟩ := zBx h
      refine a_callVx X dX7_lucky_22 miX7_isApplicant lm7_206 (t_X7_isApplicant (by first | exact hP | assumption) f_22) (by first | exact p_o | assumption) rfl rfl rfl (Nat.le_of_ble_eq_true rfl) ⟨by decide, by decide, by decide, by decide⟩ (fun r_22 S_22 q_22 => ?_)
      obtain ⟨rfl, rfl, b_22⟩ := q_22
      refine a_if_ne (tgt := 34) X dX7_lucky_25 (by decide) (fun h_25 => ?_) (fun h_25 => ?_)
      · replace h := (if_neg h_25).symm.trans h
        refine a_iconst (v := 0) X dX7_lucky_34 (by decide) ?_
        refine a_istore_n X dX7_lucky_35 (by decide) ?_
        exact Zw.to2 (H_36 _ _ _ _ h) rfl rfl rfl
      · replace h := (if_pos h_25).symm.trans h
        refine a_aload_n X dX7_lucky_28 rfl ?_
        refine a_iconst (v := 2) X dX7_lucky_29 (by decide) ?_
        obtain ⟨e_30, f_30, h⟩ := zBx h
        refine a_callVv X dX7_lucky_30 miX7_refuse lm7_102 (t_X7_refuse (by first | exact hP | assumption) f_30) (by first | exact p_o | assumption) rfl rfl rfl (Nat.le_of_ble_eq_true rfl) ⟨by decide, by decide, by decide, by decide⟩ ?_
        refine a_iret X hr dX7_lucky_33 ⟨by decide, by decide⟩ ?_
        subst hF
        rw [← Option.some.inj h]
        exact ⟨rfl, rfl⟩
    · replace h := (if_neg h_11).symm.trans h
      exact Zw.to2 (J_14 _ _ _ _ h) rfl rfl rfl
noncomputable def D_X7_reckon_23 (P : Nat) (M_23 : zMt) (N_23 : zNt) : Option (zMt × zNt) :=
  some (M_23, N_23)
noncomputable def D_X7_reckon (P : Nat) (M : zMt) (N : zNt) : Option (zMt × zNt) :=
  if (M P 3) = 0 then
    zB (D_X0_reckon (P + 112) (P + 91) M N) fun e_15 =>
    zLt (zu e_15.1 P 3 (1 : Int32)) fun M_20 =>
    D_X7_reckon_23 P M_20 e_15.2
  else
    D_X7_reckon_23 P M N
set_option maxRecDepth 100000 in
set_option maxHeartbeats 4000000 in
theorem t_X7_reckon {l : Launch} {G : zG} {b : Nat} {L : List zC} {M : zMt} {N : zNt} {P : Nat}  (hP : LX7 L P) {r : zMt × zNt} (h : D_X7_reckon P M N = some r) : zM l G b yX7_reckon cX7_reckon 1 none 14 0 0 [.ref P] (L, M, N) (fun r2 z => r2 = none ∧ z = (L, r.1, r.2)) := by
  refine zM.of miX7_reckon (Nat.le_of_ble_eq_true rfl) ?_
  intro p e s m args below meth c X hr hname
  generalize hF : ((fun r2 z => r2 = none ∧ z = (L, r.1, r.2)) : Option Value → zS → Prop) = FQ
  change Zw p l e { frames := 14, cells := 0, slots := 0, locals := 80 * (14) } s m args below meth c G b 1 (MQ below (zQ G b FQ) args s 0 0 (fun q : Nat => b ≤ q)) 0 0 0 [some (.ref P)] [] (L, M, N)
  have p_lt := hP.1
  have p_o := hP.2.1
  have p_pool := hP.2.2.2.2.2.2.2.1
  have p_pool_lt := p_pool.1
  have p_pool_o := p_pool.2.1
  have p_odds := hP.2.2.2.2.2.2.2.2.2.1
  have p_odds_lt := p_odds.1
  have p_odds_o := p_odds.2.1
  have J_23 : ∀ (M_23 : zMt) (N_23 : zNt), D_X7_reckon_23 P M_23 N_23 = some r → Zw p l e { frames := 14, cells := 0, slots := 0, locals := 80 * (14) } s m args below meth c G b 1 (MQ below (zQ G b FQ) args s 0 0 (fun q : Nat => b ≤ q)) 0 0 23 [some (.ref (P))] [] (L, M_23, N_23) := by
    intro M_23 N_23 h
    unfold D_X7_reckon_23 at h
    refine a_vret X hr dX7_reckon_23 ⟨by decide, by decide⟩ ?_
    subst hF
    rw [← Option.some.inj h]
    exact ⟨rfl, rfl⟩
  unfold D_X7_reckon at h
  refine a_aload_n X dX7_reckon_0 rfl ?_
  refine a_geti X lf7_368 (by first | exact p_o | assumption) rfl dX7_reckon_1 ?_
  refine a_if_ne (tgt := 23) X dX7_reckon_4 (by decide) (fun h_4 => ?_) (fun h_4 => ?_)
  · replace h := (if_neg h_4).symm.trans h
    exact Zw.to2 (J_23 _ _ h) rfl rfl rfl
  · replace h := (if_pos h_4).symm.trans h
    refine a_aload_n X dX7_reckon_7 rfl ?_
    refine a_getr X lf7_54 (by first | exact p_o | assumption) rfl (by omega) dX7_reckon_8 ?_
    refine a_aload_n X dX7_reckon_11 rfl ?_
    refine a_getr X lf7_40 (by first | exact p_o | assumption) rfl (by omega) dX7_reckon_12 ?_
    obtain ⟨e_15, f_15, h⟩ := zBx h
    refine a_callVu X dX7_reckon_15 miX0_reckon lm7_339 (t_X0_reckon (by first | exact p_odds | assumption) (by first | exact p_pool | assumption) f_15) (by first | exact p_odds_o | assumption) rfl rfl rfl (Nat.le_of_ble_eq_true rfl) ⟨by decide, by decide, by decide, by decide⟩ ?_
    refine a_aload_n X dX7_reckon_18 rfl ?_
    refine a_iconst (v := 1) X dX7_reckon_19 (by decide) ?_
    obtain ⟨M_20, f_20, h⟩ := zLtx h
    refine d_putz X (by first | exact Or.inl rfl | exact Or.inr rfl | assumption) lf7_368 (by first | exact p_o | assumption) rfl dX7_reckon_20 f_20 ?_
    exact Zw.to2 (J_23 _ _ h) rfl rfl rfl
noncomputable def D_X7_answerParts (P : Nat) (v0 : Int64) (M : zMt) : Option (Int64 × zMt) :=
  zLt (zu M P 0 (0 : Int32)) fun M_2 =>
  some (v0, M_2)
set_option maxRecDepth 100000 in
set_option maxHeartbeats 4000000 in
theorem t_X7_answerParts {l : Launch} {G : zG} {b : Nat} {L : List zC} {M : zMt} {N : zNt} {P : Nat} {v0 : Int64} (hP : LX7 L P) {r : Int64 × zMt} (h : D_X7_answerParts P v0 M = some r) : zM l G b yX7_answerParts cX7_answerParts 3 (some .long) 0 0 0 [.ref P, .long v0] (L, M, N) (fun r2 z => r2 = some (.long r.1) ∧ z = (L, r.2, N)) := by
  refine zM.of miX7_answerParts (Nat.le_of_ble_eq_true rfl) ?_
  intro p e s m args below meth c X hr hname
  generalize hF : ((fun r2 z => r2 = some (.long r.1) ∧ z = (L, r.2, N)) : Option Value → zS → Prop) = FQ
  change Zw p l e { frames := 0, cells := 0, slots := 0, locals := 80 * (0) } s m args below meth c G b 3 (MQ below (zQ G b FQ) args s 0 0 (fun q : Nat => b ≤ q)) 0 0 0 [some (.ref P), some (.long v0), none] [] (L, M, N)
  have p_lt := hP.1
  have p_o := hP.2.1
  unfold D_X7_answerParts at h
  refine a_aload_n X dX7_answerParts_0 rfl ?_
  refine a_iconst (v := 0) X dX7_answerParts_1 (by decide) ?_
  obtain ⟨M_2, f_2, h⟩ := zLtx h
  refine d_puti X lf7_88 (by first | exact p_o | assumption) rfl dX7_answerParts_2 f_2 ?_
  refine a_lload_n X dX7_answerParts_5 rfl ?_
  refine a_lret X hr dX7_answerParts_6 ⟨by decide, by decide⟩ ?_
  subst hF
  rw [← Option.some.inj h]
  exact ⟨rfl, rfl⟩
noncomputable def D_X7_chance_129 (P : Nat) (y1_129 : Int64) (M_129 : zMt) (N_129 : zNt) : Option (Int64 × zMt × zNt) :=
  zB (D_X7_answerParts P y1_129 M_129) fun e_129 =>
  some (e_129.1, e_129.2, N_129)
noncomputable def D_X7_chance_9 (P : Nat) (M_9 : zMt) (N_9 : zNt) : Option (Int64 × zMt × zNt) :=
  zB (D_X7_refuse P (1 : Int32) M_9) fun e_11 =>
  some ((Int32.toInt64 e_11.1), e_11.2, N_9)
noncomputable def D_X7_chance (P : Nat) (v0 : Int32) (v1 : Int32) (M : zMt) (N : zNt) : Option (Int64 × zMt × zNt) :=
  if v1 < 0 then
    D_X7_chance_9 P M N
  else
    if v1 ≤ (2 : Int32) then
      zB (D_X7_isApplicant P M v0) fun e_18 =>
      if e_18 = 0 then
        zB (D_X7_refuse P (2 : Int32) M) fun e_26 =>
        some ((Int32.toInt64 e_26.1), e_26.2, N)
      else
        if (M (P + 91) 1) ≤ (7 : Int32) then
          zB (D_X7_reckon P M N) fun e_51 =>
          if Int32.toInt v1 = 0 then
            zB (D_X0_anyUnit (P + 112) e_51.2 v0) fun e_86 =>
            zB (D_X7_answerParts P e_86 e_51.1) fun e_89 =>
            some (e_89.1, e_89.2, e_51.2)
          else if Int32.toInt v1 = 1 then
            if (zrd 0 (e_51.1 (P + 102)) 10 v0) = 0 then
              D_X7_chance_129 P (0 : Int64) e_51.1 e_51.2
            else
              zB (D_X2_wish (P + 91) e_51.1 v0 (0 : Int32)) fun e_123 =>
              zB (D_X0_certainUnit (P + 112) e_51.2 v0 e_123) fun e_126 =>
              D_X7_chance_129 P e_126 e_51.1 e_51.2
          else
            zB (D_X7_answerParts P (zrd 0 (e_51.2 (P + 116)) 7 v0) e_51.1) fun e_145 =>
            some (e_145.1, e_145.2, e_51.2)
        else
          zB (D_X7_refuse P (3 : Int32) M) fun e_45 =>
          some ((Int32.toInt64 e_45.1), e_45.2, N)
    else
      D_X7_chance_9 P M N
set_option maxRecDepth 100000 in
set_option maxHeartbeats 4000000 in
theorem t_X7_chance {l : Launch} {G : zG} {b : Nat} {L : List zC} {M : zMt} {N : zNt} {P : Nat} {v0 : Int32} {v1 : Int32} (hP : LX7 L P) {r : Int64 × zMt × zNt} (h : D_X7_chance P v0 v1 M N = some r) : zM l G b yX7_chance cX7_chance 3 (some .long) 15 0 0 [.ref P, .int v0, .int v1] (L, M, N) (fun r2 z => r2 = some (.long r.1) ∧ z = (L, r.2.1, r.2.2)) := by
  refine zM.of miX7_chance (Nat.le_of_ble_eq_true rfl) ?_
  intro p e s m args below meth c X hr hname
  generalize hF : ((fun r2 z => r2 = some (.long r.1) ∧ z = (L, r.2.1, r.2.2)) : Option Value → zS → Prop) = FQ
  change Zw p l e { frames := 15, cells := 0, slots := 0, locals := 80 * (15) } s m args below meth c G b 3 (MQ below (zQ G b FQ) args s 0 0 (fun q : Nat => b ≤ q)) 0 0 0 [some (.ref P), some (.int v0), some (.int v1)] [] (L, M, N)
  have p_lt := hP.1
  have p_o := hP.2.1
  have p_pool := hP.2.2.2.2.2.2.2.1
  have p_pool_lt := p_pool.1
  have p_pool_o := p_pool.2.1
  have p_pool_wishCount := p_pool.2.2.2.2.2.2.2.2.2.2.2.2.1
  have p_odds := hP.2.2.2.2.2.2.2.2.2.1
  have p_odds_lt := p_odds.1
  have p_odds_o := p_odds.2.1
  have p_odds_early := p_odds.2.2.2.2.2.1
  have J_129 : ∀ (x1_129 : Int32) (x2_129 : Int32) (y1_129 : Int64) (M_129 : zMt) (N_129 : zNt), D_X7_chance_129 P y1_129 M_129 N_129 = some r → Zw p l e { frames := 15, cells := 0, slots := 0, locals := 80 * (15) } s m args below meth c G b 3 (MQ below (zQ G b FQ) args s 0 0 (fun q : Nat => b ≤ q)) 0 0 129 [some (.ref (P)), some (.int x1_129), some (.int x2_129)] [.long y1_129, .ref (P)] (L, M_129, N_129) := by
    intro x1_129 x2_129 y1_129 M_129 N_129 h
    unfold D_X7_chance_129 at h
    obtain ⟨e_129, f_129, h⟩ := zBx h
    refine a_callVv X dX7_chance_129 miX7_answerParts lm7_303 (t_X7_answerParts (by first | exact hP | assumption) f_129) (by first | exact p_o | assumption) rfl rfl rfl (Nat.le_of_ble_eq_true rfl) ⟨by decide, by decide, by decide, by decide⟩ ?_
    refine a_lret X hr dX7_chance_132 ⟨by decide, by decide⟩ ?_
    subst hF
    rw [← Option.some.inj h]
    exact ⟨rfl, rfl⟩
  have J_9 : ∀ (x1_9 : Int32) (x2_9 : Int32) (M_9 : zMt) (N_9 : zNt), D_X7_chance_9 P M_9 N_9 = some r → Zw p l e { frames := 15, cells := 0, slots := 0, locals := 80 * (15) } s m args below meth c G b 3 (MQ below (zQ G b FQ) args s 0 0 (fun q : Nat => b ≤ q)) 0 0 9 [some (.ref (P)), some (.int x1_9), some (.int x2_9)] [] (L, M_9, N_9) := by
    intro x1_9 x2_9 M_9 N_9 h
    unfold D_X7_chance_9 at h
    refine a_aload_n X dX7_chance_9 rfl ?_
    refine a_iconst (v := 1) X dX7_chance_10 (by decide) ?_
    obtain ⟨e_11, f_11, h⟩ := zBx h
    refine a_callVv X dX7_chance_11 miX7_refuse lm7_102 (t_X7_refuse (by first | exact hP | assumption) f_11) (by first | exact p_o | assumption) rfl rfl rfl (Nat.le_of_ble_eq_true rfl) ⟨by decide, by decide, by decide, by decide⟩ ?_
    refine a_i2l X dX7_chance_14 ?_
    refine a_lret X hr dX7_chance_15 ⟨by decide, by decide⟩ ?_
    subst hF
    rw [← Option.some.inj h]
    exact ⟨rfl, rfl⟩
  unfold D_X7_chance at h
  refine a_iload_n X dX7_chance_0 rfl ?_
  refine a_if_lt (tgt := 9) X dX7_chance_1 (by decide) (fun h_1 => ?_) (fun h_1 => ?_)
  · replace h := (if_pos h_1).symm.trans h
    exact Zw.to2 (J_9 _ _ _ _ h) rfl rfl rfl
  · replace h := (if_neg h_1).symm.trans h
    refine a_iload_n X dX7_chance_4 rfl ?_
    refine a_iconst (v := 2) X dX7_chance_5 (by decide) ?_
    refine a_icmp_le (tgt := 16) X dX7_chance_6 (by decide) (fun h_6 => ?_) (fun h_6 => ?_)
    · replace h := (if_pos h_6).symm.trans h
      refine a_aload_n X dX7_chance_16 rfl ?_
      refine a_iload_n X dX7_chance_17 rfl ?_
      obtain ⟨e_18, f_18, h⟩ := zBx h
      refine a_callVx X dX7_chance_18 miX7_isApplicant lm7_206 (t_X7_isApplicant (by first | exact hP | assumption) f_18) (by first | exact p_o | assumption) rfl rfl rfl (Nat.le_of_ble_eq_true rfl) ⟨by decide, by decide, by decide, by decide⟩ (fun r_18 S_18 q_18 => ?_)
      obtain ⟨rfl, rfl, b_18⟩ := q_18
      refine a_if_ne (tgt := 31) X dX7_chance_21 (by decide) (fun h_21 => ?_) (fun h_21 => ?_)
      · replace h := (if_neg h_21).symm.trans h
        refine a_aload_n X dX7_chance_31 rfl ?_
        refine a_getr X lf7_40 (by first | exact p_o | assumption) rfl (by omega) dX7_chance_32 ?_
        refine a_geti X lf7_140 (by first | exact p_pool_o | assumption) rfl dX7_chance_35 ?_
        refine a_bipush (v := 7) X dX7_chance_38 (by decide) ?_
        refine a_icmp_le (tgt := 50) X dX7_chance_40 (by decide) (fun h_40 => ?_) (fun h_40 => ?_)
        · replace h := (if_pos h_40).symm.trans h
          refine a_aload_n X dX7_chance_50 rfl ?_
          obtain ⟨e_51, f_51, h⟩ := zBx h
          refine a_callVu X dX7_chance_51 miX7_reckon lm7_296 (t_X7_reckon (by first | exact hP | assumption) f_51) (by first | exact p_o | assumption) rfl rfl rfl (Nat.le_of_ble_eq_true rfl) ⟨by decide, by decide, by decide, by decide⟩ ?_
          refine a_iload_n X dX7_chance_54 rfl ?_
          refine a_lsw2 (t1 := 80) (t2 := 93) (td := 133) X dX7_chance_55 rfl (by decide) (by decide) (by decide) (by decide) (fun h_55 => ?_) (fun g_55 h_55 => ?_) (fun f_55 g_55 => ?_)
          · replace h := (if_pos h_55).symm.trans h
            refine a_aload_n X dX7_chance_80 rfl ?_
            refine a_aload_n X dX7_chance_81 rfl ?_
            refine a_getr X lf7_54 (by first | exact p_o | assumption) rfl (by omega) dX7_chance_82 ?_
            refine a_iload_n X dX7_chance_85 rfl ?_
            obtain ⟨e_86, f_86, h⟩ := zBx h
            refine a_callVv X dX7_chance_86 miX0_anyUnit lm7_299 (t_X0_anyUnit (by first | exact p_odds | assumption) f_86) (by first | exact p_odds_o | assumption) rfl rfl rfl (Nat.le_of_ble_eq_true rfl) ⟨by decide, by decide, by decide, by decide⟩ ?_
            obtain ⟨e_89, f_89, h⟩ := zBx h
            refine a_callVv X dX7_chance_89 miX7_answerParts lm7_303 (t_X7_answerParts (by first | exact hP | assumption) f_89) (by first | exact p_o | assumption) rfl rfl rfl (Nat.le_of_ble_eq_true rfl) ⟨by decide, by decide, by decide, by decide⟩ ?_
            refine a_lret X hr dX7_chance_92 ⟨by decide, by decide⟩ ?_
            subst hF
            rw [← Option.some.inj h]
            exact ⟨rfl, rfl⟩
          · replace h := (if_neg g_55).symm.trans h
            replace h := (if_pos h_55).symm.trans h
            refine a_aload_n X dX7_chance_93 rfl ?_
            refine a_aload_n X dX7_chance_94 rfl ?_
            refine a_getr X lf7_40 (by first | exact p_o | assumption) rfl (by omega) dX7_chance_95 ?_
            refine a_getr X lf7_219 (by first | exact p_pool_o | assumption) rfl (by omega) dX7_chance_98 ?_
            refine a_iload_n X dX7_chance_101 rfl ?_
            refine a_callSv X dX7_chance_102 miX7_cell lm7_175 (c_cell (by first | exact p_pool_wishCount | assumption) (by decide)) rfl rfl (Nat.le_of_ble_eq_true rfl) ⟨by decide, by decide, by decide, by decide⟩ ?_
            refine a_if_ne (tgt := 112) X dX7_chance_105 (by decide) (fun h_105 => ?_) (fun h_105 => ?_)
            · replace h := (if_neg h_105).symm.trans h
              refine a_aload_n X dX7_chance_112 rfl ?_
              refine a_getr X lf7_54 (by first | exact p_o | assumption) rfl (by omega) dX7_chance_113 ?_
              refine a_iload_n X dX7_chance_116 rfl ?_
              refine a_aload_n X dX7_chance_117 rfl ?_
              refine a_getr X lf7_40 (by first | exact p_o | assumption) rfl (by omega) dX7_chance_118 ?_
              refine a_iload_n X dX7_chance_121 rfl ?_
              refine a_iconst (v := 0) X dX7_chance_122 (by decide) ?_
              obtain ⟨e_123, f_123, h⟩ := zBx h
              refine a_callVv X dX7_chance_123 miX2_wish lm7_226 (t_X2_wish (by first | exact p_pool | assumption) f_123) (by first | exact p_pool_o | assumption) rfl rfl rfl (Nat.le_of_ble_eq_true rfl) ⟨by decide, by decide, by decide, by decide⟩ ?_
              obtain ⟨e_126, f_126, h⟩ := zBx h
              refine a_callVv X dX7_chance_126 miX0_certainUnit lm7_307 (t_X0_certainUnit (by first | exact p_odds | assumption) f_126) (by first | exact p_odds_o | assumption) rfl rfl rfl (Nat.le_of_ble_eq_true rfl) ⟨by decide, by decide, by decide, by decide⟩ ?_
              exact Zw.to2 (J_129 _ _ _ _ _ h) rfl rfl rfl
            · replace h := (if_pos h_105).symm.trans h
              refine a_lconst (v := 0) X dX7_chance_108 (by decide) ?_
              refine a_goto (tgt := 129) X dX7_chance_109 (by decide) ?_
              exact Zw.to2 (J_129 _ _ _ _ _ h) rfl rfl rfl
          · replace h := (if_neg f_55).symm.trans h
            replace h := (if_neg g_55).symm.trans h
            refine a_aload_n X dX7_chance_133 rfl ?_
            refine a_aload_n X dX7_chance_134 rfl ?_
            refine a_getr X lf7_54 (by first | exact p_o | assumption) rfl (by omega) dX7_chance_135 ?_
            refine a_getr X lf7_311 (by first | exact p_odds_o | assumption) rfl (by omega) dX7_chance_138 ?_
            refine a_iload_n X dX7_chance_141 rfl ?_
            refine a_callSv X dX7_chance_142 miX7_bigCell lm7_315 (c_bigCell (by first | exact p_odds_early | assumption) (by decide)) rfl rfl (Nat.le_of_ble_eq_true rfl) ⟨by decide, by decide, by decide, by decide⟩ ?_
            obtain ⟨e_145, f_145, h⟩ := zBx h
            refine a_callVv X dX7_chance_145 miX7_answerParts lm7_303 (t_X7_answerParts (by first | exact hP | assumption) f_145) (by first | exact p_o | assumption) rfl rfl rfl (Nat.le_of_ble_eq_true rfl) ⟨by decide, by decide, by decide, by decide⟩ ?_
            refine a_lret X hr dX7_chance_148 ⟨by decide, by decide⟩ ?_
            subst hF
            rw [← Option.some.inj h]
            exact ⟨rfl, rfl⟩
        · replace h := (if_neg h_40).symm.trans h
          refine a_aload_n X dX7_chance_43 rfl ?_
          refine a_iconst (v := 3) X dX7_chance_44 (by decide) ?_
          obtain ⟨e_45, f_45, h⟩ := zBx h
          refine a_callVv X dX7_chance_45 miX7_refuse lm7_102 (t_X7_refuse (by first | exact hP | assumption) f_45) (by first | exact p_o | assumption) rfl rfl rfl (Nat.le_of_ble_eq_true rfl) ⟨by decide, by decide, by decide, by decide⟩ ?_
          refine a_i2l X dX7_chance_48 ?_
          refine a_lret X hr dX7_chance_49 ⟨by decide, by decide⟩ ?_
          subst hF
          rw [← Option.some.inj h]
          exact ⟨rfl, rfl⟩
      · replace h := (if_pos h_21).symm.trans h
        refine a_aload_n X dX7_chance_24 rfl ?_
        refine a_iconst (v := 2) X dX7_chance_25 (by decide) ?_
        obtain ⟨e_26, f_26, h⟩ := zBx h
        refine a_callVv X dX7_chance_26 miX7_refuse lm7_102 (t_X7_refuse (by first | exact hP | assumption) f_26) (by first | exact p_o | assumption) rfl rfl rfl (Nat.le_of_ble_eq_true rfl) ⟨by decide, by decide, by decide, by decide⟩ ?_
        refine a_i2l X dX7_chance_29 ?_
        refine a_lret X hr dX7_chance_30 ⟨by decide, by decide⟩ ?_
        subst hF
        rw [← Option.some.inj h]
        exact ⟨rfl, rfl⟩
    · replace h := (if_neg h_6).symm.trans h
      exact Zw.to2 (J_9 _ _ _ _ h) rfl rfl rfl
noncomputable def D_X7_at_16 (P : Nat) (M_16 : zMt) (N_16 : zNt) : Option (Int64 × zMt × zNt) :=
  zB (D_X7_refuse P (2 : Int32) M_16) fun e_18 =>
  some ((Int32.toInt64 e_18.1), e_18.2, N_16)
noncomputable def D_X7_at (P : Nat) (v0 : Int32) (v1 : Int32) (M : zMt) (N : zNt) : Option (Int64 × zMt × zNt) :=
  zB (D_X7_isApplicant P M v0) fun e_2 =>
  if e_2 = 0 then
    D_X7_at_16 P M N
  else
    zB (D_X7_isUnit P M v1) fun e_10 =>
    if e_10 = 0 then
      D_X7_at_16 P M N
    else
      if (M (P + 91) 1) ≤ (7 : Int32) then
        zB (D_X7_reckon P M N) fun e_43 =>
        zB (D_X0_certainUnit (P + 112) e_43.2 v0 v1) fun e_53 =>
        zB (D_X7_answerParts P e_53 e_43.1) fun e_56 =>
        some (e_56.1, e_56.2, e_43.2)
      else
        zB (D_X7_refuse P (3 : Int32) M) fun e_37 =>
        some ((Int32.toInt64 e_37.1), e_37.2, N)
set_option maxRecDepth 100000 in
set_option maxHeartbeats 4000000 in
theorem t_X7_at {l : Launch} {G : zG} {b : Nat} {L : List zC} {M : zMt} {N : zNt} {P : Nat} {v0 : Int32} {v1 : Int32} (hP : LX7 L P) {r : Int64 × zMt × zNt} (h : D_X7_at P v0 v1 M N = some r) : zM l G b yX7_at cX7_at 3 (some .long) 15 0 0 [.ref P, .int v0, .int v1] (L, M, N) (fun r2 z => r2 = some (.long r.1) ∧ z = (L, r.2.1, r.2.2)) := by
  refine zM.of miX7_at (Nat.le_of_ble_eq_true rfl) ?_
  intro p e s m args below meth c X hr hname
  generalize hF : ((fun r2 z => r2 = some (.long r.1) ∧ z = (L, r.2.1, r.2.2)) : Option Value → zS → Prop) = FQ
  change Zw p l e { frames := 15, cells := 0, slots := 0, locals := 80 * (15) } s m args below meth c G b 3 (MQ below (zQ G b FQ) args s 0 0 (fun q : Nat => b ≤ q)) 0 0 0 [some (.ref P), some (.int v0), some (.int v1)] [] (L, M, N)
  have p_lt := hP.1
  have p_o := hP.2.1
  have p_pool := hP.2.2.2.2.2.2.2.1
  have p_pool_lt := p_pool.1
  have p_pool_o := p_pool.2.1
  have p_odds := hP.2.2.2.2.2.2.2.2.2.1
  have p_odds_lt := p_odds.1
  have p_odds_o := p_odds.2.1
  have J_16 : ∀ (x1_16 : Int32) (x2_16 : Int32) (M_16 : zMt) (N_16 : zNt), D_X7_at_16 P M_16 N_16 = some r → Zw p l e { frames := 15, cells := 0, slots := 0, locals := 80 * (15) } s m args below meth c G b 3 (MQ below (zQ G b FQ) args s 0 0 (fun q : Nat => b ≤ q)) 0 0 16 [some (.ref (P)), some (.int x1_16), some (.int x2_16)] [] (L, M_16, N_16) := by
    intro x1_16 x2_16 M_16 N_16 h
    unfold D_X7_at_16 at h
    refine a_aload_n X dX7_at_16 rfl ?_
    refine a_iconst (v := 2) X dX7_at_17 (by decide) ?_
    obtain ⟨e_18, f_18, h⟩ := zBx h
    refine a_callVv X dX7_at_18 miX7_refuse lm7_102 (t_X7_refuse (by first | exact hP | assumption) f_18) (by first | exact p_o | assumption) rfl rfl rfl (Nat.le_of_ble_eq_true rfl) ⟨by decide, by decide, by decide, by decide⟩ ?_
    refine a_i2l X dX7_at_21 ?_
    refine a_lret X hr dX7_at_22 ⟨by decide, by decide⟩ ?_
    subst hF
    rw [← Option.some.inj h]
    exact ⟨rfl, rfl⟩
  unfold D_X7_at at h
  refine a_aload_n X dX7_at_0 rfl ?_
  refine a_iload_n X dX7_at_1 rfl ?_
  obtain ⟨e_2, f_2, h⟩ := zBx h
  refine a_callVx X dX7_at_2 miX7_isApplicant lm7_206 (t_X7_isApplicant (by first | exact hP | assumption) f_2) (by first | exact p_o | assumption) rfl rfl rfl (Nat.le_of_ble_eq_true rfl) ⟨by decide, by decide, by decide, by decide⟩ (fun r_2 S_2 q_2 => ?_)
  obtain ⟨rfl, rfl, b_2⟩ := q_2
  refine a_if_eq (tgt := 16) X dX7_at_5 (by decide) (fun h_5 => ?_) (fun h_5 => ?_)
  · replace h := (if_pos h_5).symm.trans h
    exact Zw.to2 (J_16 _ _ _ _ h) rfl rfl rfl
  · replace h := (if_neg h_5).symm.trans h
    refine a_aload_n X dX7_at_8 rfl ?_
    refine a_iload_n X dX7_at_9 rfl ?_
    obtain ⟨e_10, f_10, h⟩ := zBx h
    refine a_callVx X dX7_at_10 miX7_isUnit lm7_188 (t_X7_isUnit (by first | exact hP | assumption) f_10) (by first | exact p_o | assumption) rfl rfl rfl (Nat.le_of_ble_eq_true rfl) ⟨by decide, by decide, by decide, by decide⟩ (fun r_10 S_10 q_10 => ?_)
    obtain ⟨rfl, rfl, b_10⟩ := q_10
    refine a_if_ne (tgt := 23) X dX7_at_13 (by decide) (fun h_13 => ?_) (fun h_13 => ?_)
    · replace h := (if_neg h_13).symm.trans h
      refine a_aload_n X dX7_at_23 rfl ?_
      refine a_getr X lf7_40 (by first | exact p_o | assumption) rfl (by omega) dX7_at_24 ?_
      refine a_geti X lf7_140 (by first | exact p_pool_o | assumption) rfl dX7_at_27 ?_
      refine a_bipush (v := 7) X dX7_at_30 (by decide) ?_
      refine a_icmp_le (tgt := 42) X dX7_at_32 (by decide) (fun h_32 => ?_) (fun h_32 => ?_)
      · replace h := (if_pos h_32).symm.trans h
        refine a_aload_n X dX7_at_42 rfl ?_
        obtain ⟨e_43, f_43, h⟩ := zBx h
        refine a_callVu X dX7_at_43 miX7_reckon lm7_296 (t_X7_reckon (by first | exact hP | assumption) f_43) (by first | exact p_o | assumption) rfl rfl rfl (Nat.le_of_ble_eq_true rfl) ⟨by decide, by decide, by decide, by decide⟩ ?_
        refine a_aload_n X dX7_at_46 rfl ?_
        refine a_aload_n X dX7_at_47 rfl ?_
        refine a_getr X lf7_54 (by first | exact p_o | assumption) rfl (by omega) dX7_at_48 ?_
        refine a_iload_n X dX7_at_51 rfl ?_
        refine a_iload_n X dX7_at_52 rfl ?_
        obtain ⟨e_53, f_53, h⟩ := zBx h
        refine a_callVv X dX7_at_53 miX0_certainUnit lm7_307 (t_X0_certainUnit (by first | exact p_odds | assumption) f_53) (by first | exact p_odds_o | assumption) rfl rfl rfl (Nat.le_of_ble_eq_true rfl) ⟨by decide, by decide, by decide, by decide⟩ ?_
        obtain ⟨e_56, f_56, h⟩ := zBx h
        refine a_callVv X dX7_at_56 miX7_answerParts lm7_303 (t_X7_answerParts (by first | exact hP | assumption) f_56) (by first | exact p_o | assumption) rfl rfl rfl (Nat.le_of_ble_eq_true rfl) ⟨by decide, by decide, by decide, by decide⟩ ?_
        refine a_lret X hr dX7_at_59 ⟨by decide, by decide⟩ ?_
        subst hF
        rw [← Option.some.inj h]
        exact ⟨rfl, rfl⟩
      · replace h := (if_neg h_32).symm.trans h
        refine a_aload_n X dX7_at_35 rfl ?_
        refine a_iconst (v := 3) X dX7_at_36 (by decide) ?_
        obtain ⟨e_37, f_37, h⟩ := zBx h
        refine a_callVv X dX7_at_37 miX7_refuse lm7_102 (t_X7_refuse (by first | exact hP | assumption) f_37) (by first | exact p_o | assumption) rfl rfl rfl (Nat.le_of_ble_eq_true rfl) ⟨by decide, by decide, by decide, by decide⟩ ?_
        refine a_i2l X dX7_at_40 ?_
        refine a_lret X hr dX7_at_41 ⟨by decide, by decide⟩ ?_
        subst hF
        rw [← Option.some.inj h]
        exact ⟨rfl, rfl⟩
    · replace h := (if_pos h_13).symm.trans h
      exact Zw.to2 (J_16 _ _ _ _ h) rfl rfl rfl
noncomputable def D_X7_both_16 (P : Nat) (M_16 : zMt) (N_16 : zNt) : Option (Int64 × zMt × zNt) :=
  zB (D_X7_refuse P (2 : Int32) M_16) fun e_18 =>
  some ((Int32.toInt64 e_18.1), e_18.2, N_16)
noncomputable def D_X7_both (P : Nat) (v0 : Int32) (v1 : Int32) (M : zMt) (N : zNt) : Option (Int64 × zMt × zNt) :=
  zB (D_X7_isApplicant P M v0) fun e_2 =>
  if e_2 = 0 then
    D_X7_both_16 P M N
  else
    zB (D_X7_isApplicant P M v1) fun e_10 =>
    if e_10 = 0 then
      D_X7_both_16 P M N
    else
      if v0 = v1 then
        zB (D_X7_refuse P (4 : Int32) M) fun e_30 =>
        some ((Int32.toInt64 e_30.1), e_30.2, N)
      else
        if (M (P + 91) 1) ≤ (7 : Int32) then
          zB (D_X7_reckon P M N) fun e_55 =>
          zB (D_X0_allOf (P + 112) e_55.2 (((1 : Int32) <<< (v0 &&& 31)) ||| ((1 : Int32) <<< (v1 &&& 31)))) fun e_70 =>
          zB (D_X7_answerParts P e_70 e_55.1) fun e_73 =>
          some (e_73.1, e_73.2, e_55.2)
        else
          zB (D_X7_refuse P (3 : Int32) M) fun e_49 =>
          some ((Int32.toInt64 e_49.1), e_49.2, N)
set_option maxRecDepth 100000 in
set_option maxHeartbeats 4000000 in
theorem t_X7_both {l : Launch} {G : zG} {b : Nat} {L : List zC} {M : zMt} {N : zNt} {P : Nat} {v0 : Int32} {v1 : Int32} (hP : LX7 L P) {r : Int64 × zMt × zNt} (h : D_X7_both P v0 v1 M N = some r) : zM l G b yX7_both cX7_both 3 (some .long) 15 0 0 [.ref P, .int v0, .int v1] (L, M, N) (fun r2 z => r2 = some (.long r.1) ∧ z = (L, r.2.1, r.2.2)) := by
  refine zM.of miX7_both (Nat.le_of_ble_eq_true rfl) ?_
  intro p e s m args below meth c X hr hname
  generalize hF : ((fun r2 z => r2 = some (.long r.1) ∧ z = (L, r.2.1, r.2.2)) : Option Value → zS → Prop) = FQ
  change Zw p l e { frames := 15, cells := 0, slots := 0, locals := 80 * (15) } s m args below meth c G b 3 (MQ below (zQ G b FQ) args s 0 0 (fun q : Nat => b ≤ q)) 0 0 0 [some (.ref P), some (.int v0), some (.int v1)] [] (L, M, N)
  have p_lt := hP.1
  have p_o := hP.2.1
  have p_pool := hP.2.2.2.2.2.2.2.1
  have p_pool_lt := p_pool.1
  have p_pool_o := p_pool.2.1
  have p_odds := hP.2.2.2.2.2.2.2.2.2.1
  have p_odds_lt := p_odds.1
  have p_odds_o := p_odds.2.1
  have J_16 : ∀ (x1_16 : Int32) (x2_16 : Int32) (M_16 : zMt) (N_16 : zNt), D_X7_both_16 P M_16 N_16 = some r → Zw p l e { frames := 15, cells := 0, slots := 0, locals := 80 * (15) } s m args below meth c G b 3 (MQ below (zQ G b FQ) args s 0 0 (fun q : Nat => b ≤ q)) 0 0 16 [some (.ref (P)), some (.int x1_16), some (.int x2_16)] [] (L, M_16, N_16) := by
    intro x1_16 x2_16 M_16 N_16 h
    unfold D_X7_both_16 at h
    refine a_aload_n X dX7_both_16 rfl ?_
    refine a_iconst (v := 2) X dX7_both_17 (by decide) ?_
    obtain ⟨e_18, f_18, h⟩ := zBx h
    refine a_callVv X dX7_both_18 miX7_refuse lm7_102 (t_X7_refuse (by first | exact hP | assumption) f_18) (by first | exact p_o | assumption) rfl rfl rfl (Nat.le_of_ble_eq_true rfl) ⟨by decide, by decide, by decide, by decide⟩ ?_
    refine a_i2l X dX7_both_21 ?_
    refine a_lret X hr dX7_both_22 ⟨by decide, by decide⟩ ?_
    subst hF
    rw [← Option.some.inj h]
    exact ⟨rfl, rfl⟩
  unfold D_X7_both at h
  refine a_aload_n X dX7_both_0 rfl ?_
  refine a_iload_n X dX7_both_1 rfl ?_
  obtain ⟨e_2, f_2, h⟩ := zBx h
  refine a_callVx X dX7_both_2 miX7_isApplicant lm7_206 (t_X7_isApplicant (by first | exact hP | assumption) f_2) (by first | exact p_o | assumption) rfl rfl rfl (Nat.le_of_ble_eq_true rfl) ⟨by decide, by decide, by decide, by decide⟩ (fun r_2 S_2 q_2 => ?_)
  obtain ⟨rfl, rfl, b_2⟩ := q_2
  refine a_if_eq (tgt := 16) X dX7_both_5 (by decide) (fun h_5 => ?_) (fun h_5 => ?_)
  · replace h := (if_pos h_5).symm.trans h
    exact Zw.to2 (J_16 _ _ _ _ h) rfl rfl rfl
  · replace h := (if_neg h_5).symm.trans h
    refine a_aload_n X dX7_both_8 rfl ?_
    refine a_iload_n X dX7_both_9 rfl ?_
    obtain ⟨e_10, f_10, h⟩ := zBx h
    refine a_callVx X dX7_both_10 miX7_isApplicant lm7_206 (t_X7_isApplicant (by first | exact hP | assumption) f_10) (by first | exact p_o | assumption) rfl rfl rfl (Nat.le_of_ble_eq_true rfl) ⟨by decide, by decide, by decide, by decide⟩ (fun r_10 S_10 q_10 => ?_)
    obtain ⟨rfl, rfl, b_10⟩ := q_10
    refine a_if_ne (tgt := 23) X dX7_both_13 (by decide) (fun h_13 => ?_) (fun h_13 => ?_)
    · replace h := (if_neg h_13).symm.trans h
      refine a_iload_n X dX7_both_23 rfl ?_
      refine a_iload_n X dX7_both_24 rfl ?_
      refine a_icmp_ne (tgt := 35) X dX7_both_25 (by decide) (fun h_25 => ?_) (fun h_25 => ?_)
      · replace h := (if_neg h_25).symm.trans h
        refine a_aload_n X dX7_both_35 rfl ?_
        refine a_getr X lf7_40 (by first | exact p_o | assumption) rfl (by omega) dX7_both_36 ?_
        refine a_geti X lf7_140 (by first | exact p_pool_o | assumption) rfl dX7_both_39 ?_
        refine a_bipush (v := 7) X dX7_both_42 (by decide) ?_
        refine a_icmp_le (tgt := 54) X dX7_both_44 (by decide) (fun h_44 => ?_) (fun h_44 => ?_)
        · replace h := (if_pos h_44).symm.trans h
          refine a_aload_n X dX7_both_54 rfl ?_
          obtain ⟨e_55, f_55, h⟩ := zBx h
          refine a_callVu X dX7_both_55 miX7_reckon lm7_296 (t_X7_reckon (by first | exact hP | assumption) f_55) (by first | exact p_o | assumption) rfl rfl rfl (Nat.le_of_ble_eq_true rfl) ⟨by decide, by decide, by decide, by decide⟩ ?_
          refine a_aload_n X dX7_both_58 rfl ?_
          refine a_aload_n X dX7_both_59 rfl ?_
          refine a_getr X lf7_54 (by first | exact p_o | assumption) rfl (by omega) dX7_both_60 ?_
          refine a_iconst (v := 1) X dX7_both_63 (by decide) ?_
          refine a_iload_n X dX7_both_64 rfl ?_
          refine a_ishl X dX7_both_65 ?_
          refine a_iconst (v := 1) X dX7_both_66 (by decide) ?_
          refine a_iload_n X dX7_both_67 rfl ?_
          refine a_ishl X dX7_both_68 ?_
          refine a_ior X dX7_both_69 ?_
          obtain ⟨e_70, f_70, h⟩ := zBx h
          refine a_callVv X dX7_both_70 miX0_allOf lm7_319 (t_X0_allOf (by first | exact p_odds | assumption) f_70) (by first | exact p_odds_o | assumption) rfl rfl rfl (Nat.le_of_ble_eq_true rfl) ⟨by decide, by decide, by decide, by decide⟩ ?_
          obtain ⟨e_73, f_73, h⟩ := zBx h
          refine a_callVv X dX7_both_73 miX7_answerParts lm7_303 (t_X7_answerParts (by first | exact hP | assumption) f_73) (by first | exact p_o | assumption) rfl rfl rfl (Nat.le_of_ble_eq_true rfl) ⟨by decide, by decide, by decide, by decide⟩ ?_
          refine a_lret X hr dX7_both_76 ⟨by decide, by decide⟩ ?_
          subst hF
          rw [← Option.some.inj h]
          exact ⟨rfl, rfl⟩
        · replace h := (if_neg h_44).symm.trans h
          refine a_aload_n X dX7_both_47 rfl ?_
          refine a_iconst (v := 3) X dX7_both_48 (by decide) ?_
          obtain ⟨e_49, f_49, h⟩ := zBx h
          refine a_callVv X dX7_both_49 miX7_refuse lm7_102 (t_X7_refuse (by first | exact hP | assumption) f_49) (by first | exact p_o | assumption) rfl rfl rfl (Nat.le_of_ble_eq_true rfl) ⟨by decide, by decide, by decide, by decide⟩ ?_
          refine a_i2l X dX7_both_52 ?_
          refine a_lret X hr dX7_both_53 ⟨by decide, by decide⟩ ?_
          subst hF
          rw [← Option.some.inj h]
          exact ⟨rfl, rfl⟩
      · replace h := (if_pos h_25).symm.trans h
        refine a_aload_n X dX7_both_28 rfl ?_
        refine a_iconst (v := 4) X dX7_both_29 (by decide) ?_
        obtain ⟨e_30, f_30, h⟩ := zBx h
        refine a_callVv X dX7_both_30 miX7_refuse lm7_102 (t_X7_refuse (by first | exact hP | assumption) f_30) (by first | exact p_o | assumption) rfl rfl rfl (Nat.le_of_ble_eq_true rfl) ⟨by decide, by decide, by decide, by decide⟩ ?_
        refine a_i2l X dX7_both_33 ?_
        refine a_lret X hr dX7_both_34 ⟨by decide, by decide⟩ ?_
        subst hF
        rw [← Option.some.inj h]
        exact ⟨rfl, rfl⟩
    · replace h := (if_pos h_13).symm.trans h
      exact Zw.to2 (J_16 _ _ _ _ h) rfl rfl rfl
noncomputable def D_X7_sure_75 (P : Nat) (y1_75 : Int32) (M_75 : zMt) (N_75 : zNt) : Option (Int32 × zMt × zNt) :=
  zB (D_X7_answer P y1_75 M_75) fun e_75 =>
  some (e_75.1, e_75.2, N_75)
noncomputable def D_X7_sure_9 (P : Nat) (M_9 : zMt) (N_9 : zNt) : Option (Int32 × zMt × zNt) :=
  zB (D_X7_refuse P (1 : Int32) M_9) fun e_11 =>
  some (e_11.1, e_11.2, N_9)
noncomputable def D_X7_sure (P : Nat) (v0 : Int32) (M : zMt) (N : zNt) : Option (Int32 × zMt × zNt) :=
  if v0 < 0 then
    D_X7_sure_9 P M N
  else
    if v0 ≤ (1 : Int32) then
      if (M (P + 91) 1) ≤ (7 : Int32) then
        zB (D_X7_reckon P M N) fun e_34 =>
        if v0 = 0 then
          zB (D_X0_always (P + 112) e_34.1) fun e_58 =>
          D_X7_sure_75 P e_58 e_34.1 e_34.2
        else
          zB (D_X0_ever (P + 112) e_34.1) fun e_69 =>
          D_X7_sure_75 P ((((1 : Int32) <<< ((e_34.1 (P + 91) 1) &&& 31)) - (1 : Int32)) &&& (e_69 ^^^ (-1 : Int32))) e_34.1 e_34.2
      else
        zB (D_X7_refuse P (3 : Int32) M) fun e_29 =>
        some (e_29.1, e_29.2, N)
    else
      D_X7_sure_9 P M N
set_option maxRecDepth 100000 in
set_option maxHeartbeats 4000000 in
theorem t_X7_sure {l : Launch} {G : zG} {b : Nat} {L : List zC} {M : zMt} {N : zNt} {P : Nat} {v0 : Int32} (hP : LX7 L P) {r : Int32 × zMt × zNt} (h : D_X7_sure P v0 M N = some r) : zM l G b yX7_sure cX7_sure 3 (some .int) 15 0 0 [.ref P, .int v0] (L, M, N) (fun r2 z => r2 = some (.int r.1) ∧ z = (L, r.2.1, r.2.2)) := by
  refine zM.of miX7_sure (Nat.le_of_ble_eq_true rfl) ?_
  intro p e s m args below meth c X hr hname
  generalize hF : ((fun r2 z => r2 = some (.int r.1) ∧ z = (L, r.2.1, r.2.2)) : Option Value → zS → Prop) = FQ
  change Zw p l e { frames := 15, cells := 0, slots := 0, locals := 80 * (15) } s m args below meth c G b 3 (MQ below (zQ G b FQ) args s 0 0 (fun q : Nat => b ≤ q)) 0 0 0 [some (.ref P), some (.int v0), none] [] (L, M, N)
  have p_lt := hP.1
  have p_o := hP.2.1
  have p_pool := hP.2.2.2.2.2.2.2.1
  have p_pool_lt := p_pool.1
  have p_pool_o := p_pool.2.1
  have p_odds := hP.2.2.2.2.2.2.2.2.2.1
  have p_odds_lt := p_odds.1
  have p_odds_o := p_odds.2.1
  have J_75 : ∀ (x1_75 : Int32) (x2_75 : Int32) (y1_75 : Int32) (M_75 : zMt) (N_75 : zNt), D_X7_sure_75 P y1_75 M_75 N_75 = some r → Zw p l e { frames := 15, cells := 0, slots := 0, locals := 80 * (15) } s m args below meth c G b 3 (MQ below (zQ G b FQ) args s 0 0 (fun q : Nat => b ≤ q)) 0 0 75 [some (.ref (P)), some (.int x1_75), some (.int x2_75)] [.int y1_75, .ref (P)] (L, M_75, N_75) := by
    intro x1_75 x2_75 y1_75 M_75 N_75 h
    unfold D_X7_sure_75 at h
    obtain ⟨e_75, f_75, h⟩ := zBx h
    refine a_callVv X dX7_sure_75 miX7_answer lm7_134 (t_X7_answer (by first | exact hP | assumption) f_75) (by first | exact p_o | assumption) rfl rfl rfl (Nat.le_of_ble_eq_true rfl) ⟨by decide, by decide, by decide, by decide⟩ ?_
    refine a_iret X hr dX7_sure_78 ⟨by decide, by decide⟩ ?_
    subst hF
    rw [← Option.some.inj h]
    exact ⟨rfl, rfl⟩
  have J_9 : ∀ (x1_9 : Int32) (x2_9 : Option Value) (M_9 : zMt) (N_9 : zNt), D_X7_sure_9 P M_9 N_9 = some r → Zw p l e { frames := 15, cells := 0, slots := 0, locals := 80 * (15) } s m args below meth c G b 3 (MQ below (zQ G b FQ) args s 0 0 (fun q : Nat => b ≤ q)) 0 0 9 [some (.ref (P)), some (.int x1_9), x2_9] [] (L, M_9, N_9) := by
    intro x1_9 x2_9 M_9 N_9 h
    unfold D_X7_sure_9 at h
    refine a_aload_n X dX7_sure_9 rfl ?_
    refine a_iconst (v := 1) X dX7_sure_10 (by decide) ?_
    obtain ⟨e_11, f_11, h⟩ := zBx h
    refine a_callVv X dX7_sure_11 miX7_refuse lm7_102 (t_X7_refuse (by first | exact hP | assumption) f_11) (by first | exact p_o | assumption) rfl rfl rfl (Nat.le_of_ble_eq_true rfl) ⟨by decide, by decide, by decide, by decide⟩ ?_
    refine a_iret X hr dX7_sure_14 ⟨by decide, by decide⟩ ?_
    subst hF
    rw [← Option.some.inj h]
    exact ⟨rfl, rfl⟩
  unfold D_X7_sure at h
  refine a_iload_n X dX7_sure_0 rfl ?_
  refine a_if_lt (tgt := 9) X dX7_sure_1 (by decide) (fun h_1 => ?_) (fun h_1 => ?_)
  · replace h := (if_pos h_1).symm.trans h
    exact Zw.to2 (J_9 _ _ _ _ h) rfl rfl rfl
  · replace h := (if_neg h_1).symm.trans h
    refine a_iload_n X dX7_sure_4 rfl ?_
    refine a_iconst (v := 1) X dX7_sure_5 (by decide) ?_
    refine a_icmp_le (tgt := 15) X dX7_sure_6 (by decide) (fun h_6 => ?_) (fun h_6 => ?_)
    · replace h := (if_pos h_6).symm.trans h
      refine a_aload_n X dX7_sure_15 rfl ?_
      refine a_getr X lf7_40 (by first | exact p_o | assumption) rfl (by omega) dX7_sure_16 ?_
      refine a_geti X lf7_140 (by first | exact p_pool_o | assumption) rfl dX7_sure_19 ?_
      refine a_bipush (v := 7) X dX7_sure_22 (by decide) ?_
      refine a_icmp_le (tgt := 33) X dX7_sure_24 (by decide) (fun h_24 => ?_) (fun h_24 => ?_)
      · replace h := (if_pos h_24).symm.trans h
        refine a_aload_n X dX7_sure_33 rfl ?_
        obtain ⟨e_34, f_34, h⟩ := zBx h
        refine a_callVu X dX7_sure_34 miX7_reckon lm7_296 (t_X7_reckon (by first | exact hP | assumption) f_34) (by first | exact p_o | assumption) rfl rfl rfl (Nat.le_of_ble_eq_true rfl) ⟨by decide, by decide, by decide, by decide⟩ ?_
        refine a_iconst (v := 1) X dX7_sure_37 (by decide) ?_
        refine a_aload_n X dX7_sure_38 rfl ?_
        refine a_getr X lf7_40 (by first | exact p_o | assumption) rfl (by omega) dX7_sure_39 ?_
        refine a_geti X lf7_140 (by first | exact p_pool_o | assumption) rfl dX7_sure_42 ?_
        refine a_ishl X dX7_sure_45 ?_
        refine a_iconst (v := 1) X dX7_sure_46 (by decide) ?_
        refine a_isub X dX7_sure_47 ?_
        refine a_istore_n X dX7_sure_48 (by decide) ?_
        refine a_aload_n X dX7_sure_49 rfl ?_
        refine a_iload_n X dX7_sure_50 rfl ?_
        refine a_if_ne (tgt := 64) X dX7_sure_51 (by decide) (fun h_51 => ?_) (fun h_51 => ?_)
        · replace h := (if_neg h_51).symm.trans h
          refine a_iload_n X dX7_sure_64 rfl ?_
          refine a_aload_n X dX7_sure_65 rfl ?_
          refine a_getr X lf7_54 (by first | exact p_o | assumption) rfl (by omega) dX7_sure_66 ?_
          obtain ⟨e_69, f_69, h⟩ := zBx h
          refine a_callVv X dX7_sure_69 miX0_ever lm7_326 (t_X0_ever (by first | exact p_odds | assumption) f_69) (by first | exact p_odds_o | assumption) rfl rfl rfl (Nat.le_of_ble_eq_true rfl) ⟨by decide, by decide, by decide, by decide⟩ ?_
          refine a_iconst (v := -1) X dX7_sure_72 (by decide) ?_
          refine a_ixor X dX7_sure_73 ?_
          refine a_iand X dX7_sure_74 ?_
          exact Zw.to2 (J_75 _ _ _ _ _ h) rfl rfl rfl
        · replace h := (if_pos h_51).symm.trans h
          refine a_aload_n X dX7_sure_54 rfl ?_
          refine a_getr X lf7_54 (by first | exact p_o | assumption) rfl (by omega) dX7_sure_55 ?_
          obtain ⟨e_58, f_58, h⟩ := zBx h
          refine a_callVv X dX7_sure_58 miX0_always lm7_322 (t_X0_always (by first | exact p_odds | assumption) f_58) (by first | exact p_odds_o | assumption) rfl rfl rfl (Nat.le_of_ble_eq_true rfl) ⟨by decide, by decide, by decide, by decide⟩ ?_
          refine a_goto (tgt := 75) X dX7_sure_61 (by decide) ?_
          exact Zw.to2 (J_75 _ _ _ _ _ h) rfl rfl rfl
      · replace h := (if_neg h_24).symm.trans h
        refine a_aload_n X dX7_sure_27 rfl ?_
        refine a_iconst (v := 3) X dX7_sure_28 (by decide) ?_
        obtain ⟨e_29, f_29, h⟩ := zBx h
        refine a_callVv X dX7_sure_29 miX7_refuse lm7_102 (t_X7_refuse (by first | exact hP | assumption) f_29) (by first | exact p_o | assumption) rfl rfl rfl (Nat.le_of_ble_eq_true rfl) ⟨by decide, by decide, by decide, by decide⟩ ?_
        refine a_iret X hr dX7_sure_32 ⟨by decide, by decide⟩ ?_
        subst hF
        rw [← Option.some.inj h]
        exact ⟨rfl, rfl⟩
    · replace h := (if_neg h_6).symm.trans h
      exact Zw.to2 (J_9 _ _ _ _ h) rfl rfl rfl
noncomputable def D_X7_mean_43 (P : Nat) : Nat → Int32 → Int64 → Int32 → zMt → zNt → Option (Int64 × zMt × zNt)
  | 0, _, _, _, _, _ => none
  | n + 1, x1_43, x2_43, x4_43, M_43, N_43 =>
    if (M_43 (P + 91) 1) ≤ x4_43 then
      zB (D_X7_answerParts P x2_43 M_43) fun e_90 =>
      some (e_90.1, e_90.2, N_43)
    else
      zB (D_X0_certainUnit (P + 112) N_43 x4_43 x1_43) fun e_76 =>
      (D_X7_mean_43 P n) x1_43 (x2_43 + ((Int32.toInt64 (zrd 0 (M_43 (P + 96)) 10 x4_43)) * e_76)) (x4_43 + 1) M_43 N_43
noncomputable def D_X7_mean (P : Nat) (v0 : Int32) (M : zMt) (N : zNt) : Option (Int64 × zMt × zNt) :=
  zB (D_X7_isUnit P M v0) fun e_2 =>
  if e_2 = 0 then
    zB (D_X7_refuse P (2 : Int32) M) fun e_10 =>
    some ((Int32.toInt64 e_10.1), e_10.2, N)
  else
    if (M (P + 91) 1) ≤ (7 : Int32) then
      zB (D_X7_reckon P M N) fun e_35 =>
      D_X7_mean_43 P zFu v0 (0 : Int64) (0 : Int32) e_35.1 e_35.2
    else
      zB (D_X7_refuse P (3 : Int32) M) fun e_29 =>
      some ((Int32.toInt64 e_29.1), e_29.2, N)
set_option maxRecDepth 100000 in
set_option maxHeartbeats 4000000 in
theorem t_X7_mean {l : Launch} {G : zG} {b : Nat} {L : List zC} {M : zMt} {N : zNt} {P : Nat} {v0 : Int32} (hP : LX7 L P) {r : Int64 × zMt × zNt} (h : D_X7_mean P v0 M N = some r) : zM l G b yX7_mean cX7_mean 5 (some .long) 15 0 0 [.ref P, .int v0] (L, M, N) (fun r2 z => r2 = some (.long r.1) ∧ z = (L, r.2.1, r.2.2)) := by
  refine zM.of miX7_mean (Nat.le_of_ble_eq_true rfl) ?_
  intro p e s m args below meth c X hr hname
  generalize hF : ((fun r2 z => r2 = some (.long r.1) ∧ z = (L, r.2.1, r.2.2)) : Option Value → zS → Prop) = FQ
  change Zw p l e { frames := 15, cells := 0, slots := 0, locals := 80 * (15) } s m args below meth c G b 5 (MQ below (zQ G b FQ) args s 0 0 (fun q : Nat => b ≤ q)) 0 0 0 [some (.ref P), some (.int v0), none, none, none] [] (L, M, N)
  have p_lt := hP.1
  have p_o := hP.2.1
  have p_pool := hP.2.2.2.2.2.2.2.1
  have p_pool_lt := p_pool.1
  have p_pool_o := p_pool.2.1
  have p_pool_size := p_pool.2.2.2.2.2.2.1
  have p_odds := hP.2.2.2.2.2.2.2.2.2.1
  have p_odds_lt := p_odds.1
  have p_odds_o := p_odds.2.1
  have L_43 : ∀ u : Nat, ∀ (x1_43 : Int32) (x2_43 : Int64) (x4_43 : Int32) (M_43 : zMt) (N_43 : zNt), D_X7_mean_43 P u x1_43 x2_43 x4_43 M_43 N_43 = some r → Zw p l e { frames := 15, cells := 0, slots := 0, locals := 80 * (15) } s m args below meth c G b 5 (MQ below (zQ G b FQ) args s 0 0 (fun q : Nat => b ≤ q)) 0 0 43 [some (.ref (P)), some (.int x1_43), some (.long x2_43), none, some (.int x4_43)] [] (L, M_43, N_43) := by
    intro u
    induction u with
    | zero => intro x1_43 x2_43 x4_43 M_43 N_43 h; cases (show none = some r from h)
    | succ u_43 ih_43 =>
      intro x1_43 x2_43 x4_43 M_43 N_43 h
      rw [D_X7_mean_43] at h
      refine a_iload X dX7_mean_43 rfl ?_
      refine a_aload_n X dX7_mean_45 rfl ?_
      refine a_getr X lf7_40 (by first | exact p_o | assumption) rfl (by omega) dX7_mean_46 ?_
      refine a_geti X lf7_140 (by first | exact p_pool_o | assumption) rfl dX7_mean_49 ?_
      refine a_icmp_ge (tgt := 88) X dX7_mean_52 (by decide) (fun h_52 => ?_) (fun h_52 => ?_)
      · replace h := (if_pos h_52).symm.trans h
        refine a_aload_n X dX7_mean_88 rfl ?_
        refine a_lload_n X dX7_mean_89 rfl ?_
        obtain ⟨e_90, f_90, h⟩ := zBx h
        refine a_callVv X dX7_mean_90 miX7_answerParts lm7_303 (t_X7_answerParts (by first | exact hP | assumption) f_90) (by first | exact p_o | assumption) rfl rfl rfl (Nat.le_of_ble_eq_true rfl) ⟨by decide, by decide, by decide, by decide⟩ ?_
        refine a_lret X hr dX7_mean_93 ⟨by decide, by decide⟩ ?_
        subst hF
        rw [← Option.some.inj h]
        exact ⟨rfl, rfl⟩
      · replace h := (if_neg h_52).symm.trans h
        refine a_lload_n X dX7_mean_55 rfl ?_
        refine a_aload_n X dX7_mean_56 rfl ?_
        refine a_getr X lf7_40 (by first | exact p_o | assumption) rfl (by omega) dX7_mean_57 ?_
        refine a_getr X lf7_209 (by first | exact p_pool_o | assumption) rfl (by omega) dX7_mean_60 ?_
        refine a_iload X dX7_mean_63 rfl ?_
        refine a_callSv X dX7_mean_65 miX7_cell lm7_175 (c_cell (by first | exact p_pool_size | assumption) (by decide)) rfl rfl (Nat.le_of_ble_eq_true rfl) ⟨by decide, by decide, by decide, by decide⟩ ?_
        refine a_i2l X dX7_mean_68 ?_
        refine a_aload_n X dX7_mean_69 rfl ?_
        refine a_getr X lf7_54 (by first | exact p_o | assumption) rfl (by omega) dX7_mean_70 ?_
        refine a_iload X dX7_mean_73 rfl ?_
        refine a_iload_n X dX7_mean_75 rfl ?_
        obtain ⟨e_76, f_76, h⟩ := zBx h
        refine a_callVv X dX7_mean_76 miX0_certainUnit lm7_307 (t_X0_certainUnit (by first | exact p_odds | assumption) f_76) (by first | exact p_odds_o | assumption) rfl rfl rfl (Nat.le_of_ble_eq_true rfl) ⟨by decide, by decide, by decide, by decide⟩ ?_
        refine a_lmul X dX7_mean_79 ?_
        refine a_ladd X dX7_mean_80 ?_
        refine a_lstore_n X dX7_mean_81 (by decide) ?_
        refine a_iinc (v := x4_43 + 1) X dX7_mean_82 (by decide) rfl zi_1 ?_
        refine a_goto (tgt := 43) X dX7_mean_85 (by decide) ?_
        exact Zw.to2 (ih_43 _ _ _ _ _ h) rfl rfl rfl
  have H_43 : ∀ (x1_43 : Int32) (x2_43 : Int64) (x4_43 : Int32) (M_43 : zMt) (N_43 : zNt), D_X7_mean_43 P zFu x1_43 x2_43 x4_43 M_43 N_43 = some r → Zw p l e { frames := 15, cells := 0, slots := 0, locals := 80 * (15) } s m args below meth c G b 5 (MQ below (zQ G b FQ) args s 0 0 (fun q : Nat => b ≤ q)) 0 0 43 [some (.ref (P)), some (.int x1_43), some (.long x2_43), none, some (.int x4_43)] [] (L, M_43, N_43) := L_43 zFu
  unfold D_X7_mean at h
  refine a_aload_n X dX7_mean_0 rfl ?_
  refine a_iload_n X dX7_mean_1 rfl ?_
  obtain ⟨e_2, f_2, h⟩ := zBx h
  refine a_callVx X dX7_mean_2 miX7_isUnit lm7_188 (t_X7_isUnit (by first | exact hP | assumption) f_2) (by first | exact p_o | assumption) rfl rfl rfl (Nat.le_of_ble_eq_true rfl) ⟨by decide, by decide, by decide, by decide⟩ (fun r_2 S_2 q_2 => ?_)
  obtain ⟨rfl, rfl, b_2⟩ := q_2
  refine a_if_ne (tgt := 15) X dX7_mean_5 (by decide) (fun h_5 => ?_) (fun h_5 => ?_)
  · replace h := (if_neg h_5).symm.trans h
    refine a_aload_n X dX7_mean_15 rfl ?_
    refine a_getr X lf7_40 (by first | exact p_o | assumption) rfl (by omega) dX7_mean_16 ?_
    refine a_geti X lf7_140 (by first | exact p_pool_o | assumption) rfl dX7_mean_19 ?_
    refine a_bipush (v := 7) X dX7_mean_22 (by decide) ?_
    refine a_icmp_le (tgt := 34) X dX7_mean_24 (by decide) (fun h_24 => ?_) (fun h_24 => ?_)
    · replace h := (if_pos h_24).symm.trans h
      refine a_aload_n X dX7_mean_34 rfl ?_
      obtain ⟨e_35, f_35, h⟩ := zBx h
      refine a_callVu X dX7_mean_35 miX7_reckon lm7_296 (t_X7_reckon (by first | exact hP | assumption) f_35) (by first | exact p_o | assumption) rfl rfl rfl (Nat.le_of_ble_eq_true rfl) ⟨by decide, by decide, by decide, by decide⟩ ?_
      refine a_lconst (v := 0) X dX7_mean_38 (by decide) ?_
      refine a_lstore_n X dX7_mean_39 (by decide) ?_
      refine a_iconst (v := 0) X dX7_mean_40 (by decide) ?_
      refine a_istore X dX7_mean_41 (by decide) ?_
      exact Zw.to2 (H_43 _ _ _ _ _ h) rfl rfl rfl
    · replace h := (if_neg h_24).symm.trans h
      refine a_aload_n X dX7_mean_27 rfl ?_
      refine a_iconst (v := 3) X dX7_mean_28 (by decide) ?_
      obtain ⟨e_29, f_29, h⟩ := zBx h
      refine a_callVv X dX7_mean_29 miX7_refuse lm7_102 (t_X7_refuse (by first | exact hP | assumption) f_29) (by first | exact p_o | assumption) rfl rfl rfl (Nat.le_of_ble_eq_true rfl) ⟨by decide, by decide, by decide, by decide⟩ ?_
      refine a_i2l X dX7_mean_32 ?_
      refine a_lret X hr dX7_mean_33 ⟨by decide, by decide⟩ ?_
      subst hF
      rw [← Option.some.inj h]
      exact ⟨rfl, rfl⟩
  · replace h := (if_pos h_5).symm.trans h
    refine a_aload_n X dX7_mean_8 rfl ?_
    refine a_iconst (v := 2) X dX7_mean_9 (by decide) ?_
    obtain ⟨e_10, f_10, h⟩ := zBx h
    refine a_callVv X dX7_mean_10 miX7_refuse lm7_102 (t_X7_refuse (by first | exact hP | assumption) f_10) (by first | exact p_o | assumption) rfl rfl rfl (Nat.le_of_ble_eq_true rfl) ⟨by decide, by decide, by decide, by decide⟩ ?_
    refine a_i2l X dX7_mean_13 ?_
    refine a_lret X hr dX7_mean_14 ⟨by decide, by decide⟩ ?_
    subst hF
    rw [← Option.some.inj h]
    exact ⟨rfl, rfl⟩
noncomputable def D_X7_given_67 (P : Nat) (y1_67 : Int32) (M_67 : zMt) (N_67 : zNt) : Option (Int32 × zMt × zNt) :=
  zB (D_X7_answer P y1_67 M_67) fun e_67 =>
  some (e_67.1, e_67.2, N_67)
noncomputable def D_X7_given_9 (P : Nat) (M_9 : zMt) (N_9 : zNt) : Option (Int32 × zMt × zNt) :=
  zB (D_X7_refuse P (1 : Int32) M_9) fun e_11 =>
  some (e_11.1, e_11.2, N_9)
noncomputable def D_X7_given (P : Nat) (v0 : Int32) (M : zMt) (N : zNt) : Option (Int32 × zMt × zNt) :=
  if v0 < 0 then
    D_X7_given_9 P M N
  else
    if v0 ≤ (1 : Int32) then
      if (M (P + 91) 1) ≤ (7 : Int32) then
        zB (D_X7_reckon P M N) fun e_34 =>
        if v0 = 0 then
          zB (D_X0_fewestTags (P + 112) (P + 91) e_34.1) fun e_50 =>
          D_X7_given_67 P e_50 e_34.1 e_34.2
        else
          zB (D_X0_mostTags (P + 112) (P + 91) e_34.1) fun e_64 =>
          D_X7_given_67 P e_64 e_34.1 e_34.2
      else
        zB (D_X7_refuse P (3 : Int32) M) fun e_29 =>
        some (e_29.1, e_29.2, N)
    else
      D_X7_given_9 P M N
set_option maxRecDepth 100000 in
set_option maxHeartbeats 4000000 in
theorem t_X7_given {l : Launch} {G : zG} {b : Nat} {L : List zC} {M : zMt} {N : zNt} {P : Nat} {v0 : Int32} (hP : LX7 L P) {r : Int32 × zMt × zNt} (h : D_X7_given P v0 M N = some r) : zM l G b yX7_given cX7_given 2 (some .int) 15 0 0 [.ref P, .int v0] (L, M, N) (fun r2 z => r2 = some (.int r.1) ∧ z = (L, r.2.1, r.2.2)) := by
  refine zM.of miX7_given (Nat.le_of_ble_eq_true rfl) ?_
  intro p e s m args below meth c X hr hname
  generalize hF : ((fun r2 z => r2 = some (.int r.1) ∧ z = (L, r.2.1, r.2.2)) : Option Value → zS → Prop) = FQ
  change Zw p l e { frames := 15, cells := 0, slots := 0, locals := 80 * (15) } s m args below meth c G b 2 (MQ below (zQ G b FQ) args s 0 0 (fun q : Nat => b ≤ q)) 0 0 0 [some (.ref P), some (.int v0)] [] (L, M, N)
  have p_lt := hP.1
  have p_o := hP.2.1
  have p_pool := hP.2.2.2.2.2.2.2.1
  have p_pool_lt := p_pool.1
  have p_pool_o := p_pool.2.1
  have p_odds := hP.2.2.2.2.2.2.2.2.2.1
  have p_odds_lt := p_odds.1
  have p_odds_o := p_odds.2.1
  have J_67 : ∀ (x1_67 : Int32) (y1_67 : Int32) (M_67 : zMt) (N_67 : zNt), D_X7_given_67 P y1_67 M_67 N_67 = some r → Zw p l e { frames := 15, cells := 0, slots := 0, locals := 80 * (15) } s m args below meth c G b 2 (MQ below (zQ G b FQ) args s 0 0 (fun q : Nat => b ≤ q)) 0 0 67 [some (.ref (P)), some (.int x1_67)] [.int y1_67, .ref (P)] (L, M_67, N_67) := by
    intro x1_67 y1_67 M_67 N_67 h
    unfold D_X7_given_67 at h
    obtain ⟨e_67, f_67, h⟩ := zBx h
    refine a_callVv X dX7_given_67 miX7_answer lm7_134 (t_X7_answer (by first | exact hP | assumption) f_67) (by first | exact p_o | assumption) rfl rfl rfl (Nat.le_of_ble_eq_true rfl) ⟨by decide, by decide, by decide, by decide⟩ ?_
    refine a_iret X hr dX7_given_70 ⟨by decide, by decide⟩ ?_
    subst hF
    rw [← Option.some.inj h]
    exact ⟨rfl, rfl⟩
  have J_9 : ∀ (x1_9 : Int32) (M_9 : zMt) (N_9 : zNt), D_X7_given_9 P M_9 N_9 = some r → Zw p l e { frames := 15, cells := 0, slots := 0, locals := 80 * (15) } s m args below meth c G b 2 (MQ below (zQ G b FQ) args s 0 0 (fun q : Nat => b ≤ q)) 0 0 9 [some (.ref (P)), some (.int x1_9)] [] (L, M_9, N_9) := by
    intro x1_9 M_9 N_9 h
    unfold D_X7_given_9 at h
    refine a_aload_n X dX7_given_9 rfl ?_
    refine a_iconst (v := 1) X dX7_given_10 (by decide) ?_
    obtain ⟨e_11, f_11, h⟩ := zBx h
    refine a_callVv X dX7_given_11 miX7_refuse lm7_102 (t_X7_refuse (by first | exact hP | assumption) f_11) (by first | exact p_o | assumption) rfl rfl rfl (Nat.le_of_ble_eq_true rfl) ⟨by decide, by decide, by decide, by decide⟩ ?_
    refine a_iret X hr dX7_given_14 ⟨by decide, by decide⟩ ?_
    subst hF
    rw [← Option.some.inj h]
    exact ⟨rfl, rfl⟩
  unfold D_X7_given at h
  refine a_iload_n X dX7_given_0 rfl ?_
  refine a_if_lt (tgt := 9) X dX7_given_1 (by decide) (fun h_1 => ?_) (fun h_1 => ?_)
  · replace h := (if_pos h_1).symm.trans h
    exact Zw.to2 (J_9 _ _ _ h) rfl rfl rfl
  · replace h := (if_neg h_1).symm.trans h
    refine a_iload_n X dX7_given_4 rfl ?_
    refine a_iconst (v := 1) X dX7_given_5 (by decide) ?_
    refine a_icmp_le (tgt := 15) X dX7_given_6 (by decide) (fun h_6 => ?_) (fun h_6 => ?_)
    · replace h := (if_pos h_6).symm.trans h
      refine a_aload_n X dX7_given_15 rfl ?_
      refine a_getr X lf7_40 (by first | exact p_o | assumption) rfl (by omega) dX7_given_16 ?_
      refine a_geti X lf7_140 (by first | exact p_pool_o | assumption) rfl dX7_given_19 ?_
      refine a_bipush (v := 7) X dX7_given_22 (by decide) ?_
      refine a_icmp_le (tgt := 33) X dX7_given_24 (by decide) (fun h_24 => ?_) (fun h_24 => ?_)
      · replace h := (if_pos h_24).symm.trans h
        refine a_aload_n X dX7_given_33 rfl ?_
        obtain ⟨e_34, f_34, h⟩ := zBx h
        refine a_callVu X dX7_given_34 miX7_reckon lm7_296 (t_X7_reckon (by first | exact hP | assumption) f_34) (by first | exact p_o | assumption) rfl rfl rfl (Nat.le_of_ble_eq_true rfl) ⟨by decide, by decide, by decide, by decide⟩ ?_
        refine a_aload_n X dX7_given_37 rfl ?_
        refine a_iload_n X dX7_given_38 rfl ?_
        refine a_if_ne (tgt := 56) X dX7_given_39 (by decide) (fun h_39 => ?_) (fun h_39 => ?_)
        · replace h := (if_neg h_39).symm.trans h
          refine a_aload_n X dX7_given_56 rfl ?_
          refine a_getr X lf7_54 (by first | exact p_o | assumption) rfl (by omega) dX7_given_57 ?_
          refine a_aload_n X dX7_given_60 rfl ?_
          refine a_getr X lf7_40 (by first | exact p_o | assumption) rfl (by omega) dX7_given_61 ?_
          obtain ⟨e_64, f_64, h⟩ := zBx h
          refine a_callVv X dX7_given_64 miX0_mostTags lm7_333 (t_X0_mostTags (by first | exact p_odds | assumption) (by first | exact p_pool | assumption) f_64) (by first | exact p_odds_o | assumption) rfl rfl rfl (Nat.le_of_ble_eq_true rfl) ⟨by decide, by decide, by decide, by decide⟩ ?_
          exact Zw.to2 (J_67 _ _ _ _ h) rfl rfl rfl
        · replace h := (if_pos h_39).symm.trans h
          refine a_aload_n X dX7_given_42 rfl ?_
          refine a_getr X lf7_54 (by first | exact p_o | assumption) rfl (by omega) dX7_given_43 ?_
          refine a_aload_n X dX7_given_46 rfl ?_
          refine a_getr X lf7_40 (by first | exact p_o | assumption) rfl (by omega) dX7_given_47 ?_
          obtain ⟨e_50, f_50, h⟩ := zBx h
          refine a_callVv X dX7_given_50 miX0_fewestTags lm7_329 (t_X0_fewestTags (by first | exact p_odds | assumption) (by first | exact p_pool | assumption) f_50) (by first | exact p_odds_o | assumption) rfl rfl rfl (Nat.le_of_ble_eq_true rfl) ⟨by decide, by decide, by decide, by decide⟩ ?_
          refine a_goto (tgt := 67) X dX7_given_53 (by decide) ?_
          exact Zw.to2 (J_67 _ _ _ _ h) rfl rfl rfl
      · replace h := (if_neg h_24).symm.trans h
        refine a_aload_n X dX7_given_27 rfl ?_
        refine a_iconst (v := 3) X dX7_given_28 (by decide) ?_
        obtain ⟨e_29, f_29, h⟩ := zBx h
        refine a_callVv X dX7_given_29 miX7_refuse lm7_102 (t_X7_refuse (by first | exact hP | assumption) f_29) (by first | exact p_o | assumption) rfl rfl rfl (Nat.le_of_ble_eq_true rfl) ⟨by decide, by decide, by decide, by decide⟩ ?_
        refine a_iret X hr dX7_given_32 ⟨by decide, by decide⟩ ?_
        subst hF
        rw [← Option.some.inj h]
        exact ⟨rfl, rfl⟩
    · replace h := (if_neg h_6).symm.trans h
      exact Zw.to2 (J_9 _ _ _ h) rfl rfl rfl
noncomputable def D_X7_ends (P : Nat) (M : zMt) (N : zNt) : Option (Int32 × zMt × zNt) :=
  if (M (P + 91) 1) ≤ (7 : Int32) then
    zB (D_X7_reckon P M N) fun e_19 =>
    zB (D_X7_answer P (zsum (e_19.1 (P + 114)) 128) e_19.1) fun e_33 =>
    some (e_33.1, e_33.2, e_19.2)
  else
    zB (D_X7_refuse P (3 : Int32) M) fun e_14 =>
    some (e_14.1, e_14.2, N)
set_option maxRecDepth 100000 in
set_option maxHeartbeats 4000000 in
theorem t_X7_ends {l : Launch} {G : zG} {b : Nat} {L : List zC} {M : zMt} {N : zNt} {P : Nat}  (hP : LX7 L P) {r : Int32 × zMt × zNt} (h : D_X7_ends P M N = some r) : zM l G b yX7_ends cX7_ends 1 (some .int) 15 0 0 [.ref P] (L, M, N) (fun r2 z => r2 = some (.int r.1) ∧ z = (L, r.2.1, r.2.2)) := by
  refine zM.of miX7_ends (Nat.le_of_ble_eq_true rfl) ?_
  intro p e s m args below meth c X hr hname
  generalize hF : ((fun r2 z => r2 = some (.int r.1) ∧ z = (L, r.2.1, r.2.2)) : Option Value → zS → Prop) = FQ
  change Zw p l e { frames := 15, cells := 0, slots := 0, locals := 80 * (15) } s m args below meth c G b 1 (MQ below (zQ G b FQ) args s 0 0 (fun q : Nat => b ≤ q)) 0 0 0 [some (.ref P)] [] (L, M, N)
  have p_lt := hP.1
  have p_o := hP.2.1
  have p_pool := hP.2.2.2.2.2.2.2.1
  have p_pool_lt := p_pool.1
  have p_pool_o := p_pool.2.1
  have p_odds := hP.2.2.2.2.2.2.2.2.2.1
  have p_odds_lt := p_odds.1
  have p_odds_o := p_odds.2.1
  have p_odds_seen := p_odds.2.2.2.1
  unfold D_X7_ends at h
  refine a_aload_n X dX7_ends_0 rfl ?_
  refine a_getr X lf7_40 (by first | exact p_o | assumption) rfl (by omega) dX7_ends_1 ?_
  refine a_geti X lf7_140 (by first | exact p_pool_o | assumption) rfl dX7_ends_4 ?_
  refine a_bipush (v := 7) X dX7_ends_7 (by decide) ?_
  refine a_icmp_le (tgt := 18) X dX7_ends_9 (by decide) (fun h_9 => ?_) (fun h_9 => ?_)
  · replace h := (if_pos h_9).symm.trans h
    refine a_aload_n X dX7_ends_18 rfl ?_
    obtain ⟨e_19, f_19, h⟩ := zBx h
    refine a_callVu X dX7_ends_19 miX7_reckon lm7_296 (t_X7_reckon (by first | exact hP | assumption) f_19) (by first | exact p_o | assumption) rfl rfl rfl (Nat.le_of_ble_eq_true rfl) ⟨by decide, by decide, by decide, by decide⟩ ?_
    refine a_aload_n X dX7_ends_22 rfl ?_
    refine a_aload_n X dX7_ends_23 rfl ?_
    refine a_getr X lf7_54 (by first | exact p_o | assumption) rfl (by omega) dX7_ends_24 ?_
    refine a_getr X lf7_336 (by first | exact p_odds_o | assumption) rfl (by omega) dX7_ends_27 ?_
    refine a_callSv X dX7_ends_30 miX7_sum lm7_161 (c_sum (by first | exact p_odds_seen | assumption) (by decide)) rfl rfl (Nat.le_of_ble_eq_true rfl) ⟨by decide, by decide, by decide, by decide⟩ ?_
    obtain ⟨e_33, f_33, h⟩ := zBx h
    refine a_callVv X dX7_ends_33 miX7_answer lm7_134 (t_X7_answer (by first | exact hP | assumption) f_33) (by first | exact p_o | assumption) rfl rfl rfl (Nat.le_of_ble_eq_true rfl) ⟨by decide, by decide, by decide, by decide⟩ ?_
    refine a_iret X hr dX7_ends_36 ⟨by decide, by decide⟩ ?_
    subst hF
    rw [← Option.some.inj h]
    exact ⟨rfl, rfl⟩
  · replace h := (if_neg h_9).symm.trans h
    refine a_aload_n X dX7_ends_12 rfl ?_
    refine a_iconst (v := 3) X dX7_ends_13 (by decide) ?_
    obtain ⟨e_14, f_14, h⟩ := zBx h
    refine a_callVv X dX7_ends_14 miX7_refuse lm7_102 (t_X7_refuse (by first | exact hP | assumption) f_14) (by first | exact p_o | assumption) rfl rfl rfl (Nat.le_of_ble_eq_true rfl) ⟨by decide, by decide, by decide, by decide⟩ ?_
    refine a_iret X hr dX7_ends_17 ⟨by decide, by decide⟩ ?_
    subst hF
    rw [← Option.some.inj h]
    exact ⟨rfl, rfl⟩
noncomputable def D_X7_need_97 (P : Nat) : Nat → Int32 → Int32 → Int32 → Int32 → zMt → zNt → Option (Int32 × zMt × zNt)
  | 0, _, _, _, _, _, _ => none
  | n + 1, x1_97, x2_97, x3_97, x4_97, M_97, N_97 =>
    if (20 : Int32) < x4_97 then
      zB (D_X7_refuse P (5 : Int32) M_97) fun e_172 =>
      some (e_172.1, e_172.2, N_97)
    else
      zLt (zwr M_97 (P + 160) 10 x1_97 x4_97) fun M_114 =>
      zB (D_X2_gather (P + 166) (P + 158) M_114) fun e_125 =>
      zB (D_X0_reckon (P + 187) (P + 166) e_125 N_97) fun e_136 =>
      zB (D_X0_anyUnit (P + 187) e_136.2 x3_97) fun e_144 =>
      if (lg_cmp (e_144 / (1000000000 : Int64)) (Int32.toInt64 x2_97)) < 0 then
        (D_X7_need_97 P n) x1_97 x2_97 x3_97 (x4_97 + 1) e_136.1 e_136.2
      else
        zB (D_X7_answer P x4_97 e_136.1) fun e_160 =>
        some (e_160.1, e_160.2, e_136.2)
noncomputable def D_X7_need_11 (P : Nat) (M_11 : zMt) (N_11 : zNt) : Option (Int32 × zMt × zNt) :=
  zB (D_X7_refuse P (1 : Int32) M_11) fun e_13 =>
  some (e_13.1, e_13.2, N_11)
noncomputable def D_X7_need (P : Nat) (v0 : Int32) (v1 : Int32) (M : zMt) (N : zNt) : Option (Int32 × zMt × zNt) :=
  if v1 < 0 then
    D_X7_need_11 P M N
  else
    if v1 ≤ (1000 : Int32) then
      zB (D_X7_isHunter P M v0) fun e_19 =>
      if e_19 = 0 then
        zB (D_X7_refuse P (2 : Int32) M) fun e_27 =>
        some (e_27.1, e_27.2, N)
      else
        if (zrd 0 (M (P + 21)) 10 v0) = (-1 : Int32) then
          if (M (P + 91) 1) ≤ (7 : Int32) then
            zB (D_X4_take (P + 158) (P + 17) M) fun e_91 =>
            D_X7_need_97 P zFu v0 v1 (zrd 0 (M (P + 95)) 10 v0) (0 : Int32) e_91 N
          else
            zB (D_X7_refuse P (3 : Int32) M) fun e_67 =>
            some (e_67.1, e_67.2, N)
        else
          zB (D_X7_refuse P (7 : Int32) M) fun e_49 =>
          some (e_49.1, e_49.2, N)
    else
      D_X7_need_11 P M N
set_option maxRecDepth 100000 in
set_option maxHeartbeats 4000000 in
theorem t_X7_need {l : Launch} {G : zG} {b : Nat} {L : List zC} {M : zMt} {N : zNt} {P : Nat} {v0 : Int32} {v1 : Int32} (hP : LX7 L P) {r : Int32 × zMt × zNt} (h : D_X7_need P v0 v1 M N = some r) : zM l G b yX7_need cX7_need 5 (some .int) 14 0 0 [.ref P, .int v0, .int v1] (L, M, N) (fun r2 z => r2 = some (.int r.1) ∧ z = (L, r.2.1, r.2.2)) := by
  refine zM.of miX7_need (Nat.le_of_ble_eq_true rfl) ?_
  intro p e s m args below meth c X hr hname
  generalize hF : ((fun r2 z => r2 = some (.int r.1) ∧ z = (L, r.2.1, r.2.2)) : Option Value → zS → Prop) = FQ
  change Zw p l e { frames := 14, cells := 0, slots := 0, locals := 80 * (14) } s m args below meth c G b 5 (MQ below (zQ G b FQ) args s 0 0 (fun q : Nat => b ≤ q)) 0 0 0 [some (.ref P), some (.int v0), some (.int v1), none, none] [] (L, M, N)
  have p_lt := hP.1
  have p_o := hP.2.1
  have p_list := hP.2.2.2.2.2.1
  have p_list_lt := p_list.1
  have p_list_o := p_list.2.1
  have p_list_party := p_list.2.2.2.2.2.1
  have p_pool := hP.2.2.2.2.2.2.2.1
  have p_pool_lt := p_pool.1
  have p_pool_o := p_pool.2.1
  have p_pool_applicantOf := p_pool.2.2.2.2.2.1
  have p_trial := hP.2.2.2.2.2.2.2.2.2.2.2.1
  have p_trial_lt := p_trial.1
  have p_trial_o := p_trial.2.1
  have p_trial_score := p_trial.2.2.2.1
  have p_trialPool := hP.2.2.2.2.2.2.2.2.2.2.2.2.1
  have p_trialPool_lt := p_trialPool.1
  have p_trialPool_o := p_trialPool.2.1
  have p_trialOdds := hP.2.2.2.2.2.2.2.2.2.2.2.2.2.2
  have p_trialOdds_lt := p_trialOdds.1
  have p_trialOdds_o := p_trialOdds.2.1
  have L_97 : ∀ u : Nat, ∀ (x1_97 : Int32) (x2_97 : Int32) (x3_97 : Int32) (x4_97 : Int32) (M_97 : zMt) (N_97 : zNt), D_X7_need_97 P u x1_97 x2_97 x3_97 x4_97 M_97 N_97 = some r → Zw p l e { frames := 14, cells := 0, slots := 0, locals := 80 * (14) } s m args below meth c G b 5 (MQ below (zQ G b FQ) args s 0 0 (fun q : Nat => b ≤ q)) 0 0 97 [some (.ref (P)), some (.int x1_97), some (.int x2_97), some (.int x3_97), some (.int x4_97)] [] (L, M_97, N_97) := by
    intro u
    induction u with
    | zero => intro x1_97 x2_97 x3_97 x4_97 M_97 N_97 h; cases (show none = some r from h)
    | succ u_97 ih_97 =>
      intro x1_97 x2_97 x3_97 x4_97 M_97 N_97 h
      rw [D_X7_need_97] at h
      refine a_iload X dX7_need_97 rfl ?_
      refine a_bipush (v := 20) X dX7_need_99 (by decide) ?_
      refine a_icmp_gt (tgt := 170) X dX7_need_101 (by decide) (fun h_101 => ?_) (fun h_101 => ?_)
      · replace h := (if_pos h_101).symm.trans h
        refine a_aload_n X dX7_need_170 rfl ?_
        refine a_iconst (v := 5) X dX7_need_171 (by decide) ?_
        obtain ⟨e_172, f_172, h⟩ := zBx h
        refine a_callVv X dX7_need_172 miX7_refuse lm7_102 (t_X7_refuse (by first | exact hP | assumption) f_172) (by first | exact p_o | assumption) rfl rfl rfl (Nat.le_of_ble_eq_true rfl) ⟨by decide, by decide, by decide, by decide⟩ ?_
        refine a_iret X hr dX7_need_175 ⟨by decide, by decide⟩ ?_
        subst hF
        rw [← Option.some.inj h]
        exact ⟨rfl, rfl⟩
      · replace h := (if_neg h_101).symm.trans h
        refine a_aload_n X dX7_need_104 rfl ?_
        refine a_getr X lf7_65 (by first | exact p_o | assumption) rfl (by omega) dX7_need_105 ?_
        refine a_getr X lf7_172 (by first | exact p_trial_o | assumption) rfl (by omega) dX7_need_108 ?_
        refine a_iload_n X dX7_need_111 rfl ?_
        refine a_iload X dX7_need_112 rfl ?_
        obtain ⟨M_114, f_114, h⟩ := zLtx h
        refine a_callSu X dX7_need_114 miX7_put lm7_98 (zMu (c_put (by first | exact p_trial_score | assumption) (by decide)) f_114) rfl rfl (Nat.le_of_ble_eq_true rfl) ⟨by decide, by decide, by decide, by decide⟩ ?_
        refine a_aload_n X dX7_need_117 rfl ?_
        refine a_getr X lf7_68 (by first | exact p_o | assumption) rfl (by omega) dX7_need_118 ?_
        refine a_aload_n X dX7_need_121 rfl ?_
        refine a_getr X lf7_65 (by first | exact p_o | assumption) rfl (by omega) dX7_need_122 ?_
        obtain ⟨e_125, f_125, h⟩ := zBx h
        refine a_callVu X dX7_need_125 miX2_gather lm7_80 (t_X2_gather (by first | exact p_trialPool | assumption) (by first | exact p_trial | assumption) f_125) (by first | exact p_trialPool_o | assumption) rfl rfl rfl (Nat.le_of_ble_eq_true rfl) ⟨by decide, by decide, by decide, by decide⟩ ?_
        refine a_aload_n X dX7_need_128 rfl ?_
        refine a_getr X lf7_74 (by first | exact p_o | assumption) rfl (by omega) dX7_need_129 ?_
        refine a_aload_n X dX7_need_132 rfl ?_
        refine a_getr X lf7_68 (by first | exact p_o | assumption) rfl (by omega) dX7_need_133 ?_
        obtain ⟨e_136, f_136, h⟩ := zBx h
        refine a_callVu X dX7_need_136 miX0_reckon lm7_339 (t_X0_reckon (by first | exact p_trialOdds | assumption) (by first | exact p_trialPool | assumption) f_136) (by first | exact p_trialOdds_o | assumption) rfl rfl rfl (Nat.le_of_ble_eq_true rfl) ⟨by decide, by decide, by decide, by decide⟩ ?_
        refine a_aload_n X dX7_need_139 rfl ?_
        refine a_getr X lf7_74 (by first | exact p_o | assumption) rfl (by omega) dX7_need_140 ?_
        refine a_iload_n X dX7_need_143 rfl ?_
        obtain ⟨e_144, f_144, h⟩ := zBx h
        refine a_callVv X dX7_need_144 miX0_anyUnit lm7_299 (t_X0_anyUnit (by first | exact p_trialOdds | assumption) f_144) (by first | exact p_trialOdds_o | assumption) rfl rfl rfl (Nat.le_of_ble_eq_true rfl) ⟨by decide, by decide, by decide, by decide⟩ ?_
        refine a_ldc2 X dX7_need_147 lk7_342 ?_
        refine a_ldiv X dX7_need_150 (by decide) ?_
        refine a_iload_n X dX7_need_151 rfl ?_
        refine a_i2l X dX7_need_152 ?_
        refine a_lcmp X dX7_need_153 ?_
        refine a_if_lt (tgt := 164) X dX7_need_154 (by decide) (fun h_154 => ?_) (fun h_154 => ?_)
        · replace h := (if_pos h_154).symm.trans h
          refine a_iinc (v := x4_97 + 1) X dX7_need_164 (by decide) rfl zi_1 ?_
          refine a_goto (tgt := 97) X dX7_need_167 (by decide) ?_
          exact Zw.to2 (ih_97 _ _ _ _ _ _ h) rfl rfl rfl
        · replace h := (if_neg h_154).symm.trans h
          refine a_aload_n X dX7_need_157 rfl ?_
          refine a_iload X dX7_need_158 rfl ?_
          obtain ⟨e_160, f_160, h⟩ := zBx h
          refine a_callVv X dX7_need_160 miX7_answer lm7_134 (t_X7_answer (by first | exact hP | assumption) f_160) (by first | exact p_o | assumption) rfl rfl rfl (Nat.le_of_ble_eq_true rfl) ⟨by decide, by decide, by decide, by decide⟩ ?_
          refine a_iret X hr dX7_need_163 ⟨by decide, by decide⟩ ?_
          subst hF
          rw [← Option.some.inj h]
          exact ⟨rfl, rfl⟩
  have H_97 : ∀ (x1_97 : Int32) (x2_97 : Int32) (x3_97 : Int32) (x4_97 : Int32) (M_97 : zMt) (N_97 : zNt), D_X7_need_97 P zFu x1_97 x2_97 x3_97 x4_97 M_97 N_97 = some r → Zw p l e { frames := 14, cells := 0, slots := 0, locals := 80 * (14) } s m args below meth c G b 5 (MQ below (zQ G b FQ) args s 0 0 (fun q : Nat => b ≤ q)) 0 0 97 [some (.ref (P)), some (.int x1_97), some (.int x2_97), some (.int x3_97), some (.int x4_97)] [] (L, M_97, N_97) := L_97 zFu
  have J_11 : ∀ (x1_11 : Int32) (x2_11 : Int32) (x3_11 : Option Value) (x4_11 : Option Value) (M_11 : zMt) (N_11 : zNt), D_X7_need_11 P M_11 N_11 = some r → Zw p l e { frames := 14, cells := 0, slots := 0, locals := 80 * (14) } s m args below meth c G b 5 (MQ below (zQ G b FQ) args s 0 0 (fun q : Nat => b ≤ q)) 0 0 11 [some (.ref (P)), some (.int x1_11), some (.int x2_11), x3_11, x4_11] [] (L, M_11, N_11) := by
    intro x1_11 x2_11 x3_11 x4_11 M_11 N_11 h
    unfold D_X7_need_11 at h
    refine a_aload_n X dX7_need_11 rfl ?_
    refine a_iconst (v := 1) X dX7_need_12 (by decide) ?_
    obtain ⟨e_13, f_13, h⟩ := zBx h
    refine a_callVv X dX7_need_13 miX7_refuse lm7_102 (t_X7_refuse (by first | exact hP | assumption) f_13) (by first | exact p_o | assumption) rfl rfl rfl (Nat.le_of_ble_eq_true rfl) ⟨by decide, by decide, by decide, by decide⟩ ?_
    refine a_iret X hr dX7_need_16 ⟨by decide, by decide⟩ ?_
    subst hF
    rw [← Option.some.inj h]
    exact ⟨rfl, rfl⟩
  unfold D_X7_need at h
  refine a_iload_n X dX7_need_0 rfl ?_
  refine a_if_lt (tgt := 11) X dX7_need_1 (by decide) (fun h_1 => ?_) (fun h_1 => ?_)
  · replace h := (if_pos h_1).symm.trans h
    exact Zw.to2 (J_11 _ _ _ _ _ _ h) rfl rfl rfl
  · replace h := (if_neg h_1).symm.trans h
    refine a_iload_n X dX7_need_4 rfl ?_
    refine a_sipush (v := 1000) X dX7_need_5 (by decide) ?_
    refine a_icmp_le (tgt := 17) X dX7_need_8 (by decide) (fun h_8 => ?_) (fun h_8 => ?_)
    · replace h := (if_pos h_8).symm.trans h
      refine a_aload_n X dX7_need_17 rfl ?_
      refine a_iload_n X dX7_need_18 rfl ?_
      obtain ⟨e_19, f_19, h⟩ := zBx h
      refine a_callVx X dX7_need_19 miX7_isHunter lm7_168 (t_X7_isHunter (by first | exact hP | assumption) f_19) (by first | exact p_o | assumption) rfl rfl rfl (Nat.le_of_ble_eq_true rfl) ⟨by decide, by decide, by decide, by decide⟩ (fun r_19 S_19 q_19 => ?_)
      obtain ⟨rfl, rfl, b_19⟩ := q_19
      refine a_if_ne (tgt := 31) X dX7_need_22 (by decide) (fun h_22 => ?_) (fun h_22 => ?_)
      · replace h := (if_neg h_22).symm.trans h
        refine a_aload_n X dX7_need_31 rfl ?_
        refine a_getr X lf7_26 (by first | exact p_o | assumption) rfl (by omega) dX7_need_32 ?_
        refine a_getr X lf7_179 (by first | exact p_list_o | assumption) rfl (by omega) dX7_need_35 ?_
        refine a_iload_n X dX7_need_38 rfl ?_
        refine a_callSv X dX7_need_39 miX7_cell lm7_175 (c_cell (by first | exact p_list_party | assumption) (by decide)) rfl rfl (Nat.le_of_ble_eq_true rfl) ⟨by decide, by decide, by decide, by decide⟩ ?_
        refine a_iconst (v := -1) X dX7_need_42 (by decide) ?_
        refine a_icmp_eq (tgt := 53) X dX7_need_43 (by decide) (fun h_43 => ?_) (fun h_43 => ?_)
        · replace h := (if_pos h_43).symm.trans h
          refine a_aload_n X dX7_need_53 rfl ?_
          refine a_getr X lf7_40 (by first | exact p_o | assumption) rfl (by omega) dX7_need_54 ?_
          refine a_geti X lf7_140 (by first | exact p_pool_o | assumption) rfl dX7_need_57 ?_
          refine a_bipush (v := 7) X dX7_need_60 (by decide) ?_
          refine a_icmp_le (tgt := 71) X dX7_need_62 (by decide) (fun h_62 => ?_) (fun h_62 => ?_)
          · replace h := (if_pos h_62).symm.trans h
            refine a_aload_n X dX7_need_71 rfl ?_
            refine a_getr X lf7_40 (by first | exact p_o | assumption) rfl (by omega) dX7_need_72 ?_
            refine a_getr X lf7_182 (by first | exact p_pool_o | assumption) rfl (by omega) dX7_need_75 ?_
            refine a_iload_n X dX7_need_78 rfl ?_
            refine a_callSv X dX7_need_79 miX7_cell lm7_175 (c_cell (by first | exact p_pool_applicantOf | assumption) (by decide)) rfl rfl (Nat.le_of_ble_eq_true rfl) ⟨by decide, by decide, by decide, by decide⟩ ?_
            refine a_istore_n X dX7_need_82 (by decide) ?_
            refine a_aload_n X dX7_need_83 rfl ?_
            refine a_getr X lf7_65 (by first | exact p_o | assumption) rfl (by omega) dX7_need_84 ?_
            refine a_aload_n X dX7_need_87 rfl ?_
            refine a_getr X lf7_26 (by first | exact p_o | assumption) rfl (by omega) dX7_need_88 ?_
            obtain ⟨e_91, f_91, h⟩ := zBx h
            refine a_callVu X dX7_need_91 miX4_take lm7_113 (t_X4_take (by first | exact p_trial | assumption) (by first | exact p_list | assumption) (by omega) f_91) (by first | exact p_trial_o | assumption) rfl rfl rfl (Nat.le_of_ble_eq_true rfl) ⟨by decide, by decide, by decide, by decide⟩ ?_
            refine a_iconst (v := 0) X dX7_need_94 (by decide) ?_
            refine a_istore X dX7_need_95 (by decide) ?_
            exact Zw.to2 (H_97 _ _ _ _ _ _ h) rfl rfl rfl
          · replace h := (if_neg h_62).symm.trans h
            refine a_aload_n X dX7_need_65 rfl ?_
            refine a_iconst (v := 3) X dX7_need_66 (by decide) ?_
            obtain ⟨e_67, f_67, h⟩ := zBx h
            refine a_callVv X dX7_need_67 miX7_refuse lm7_102 (t_X7_refuse (by first | exact hP | assumption) f_67) (by first | exact p_o | assumption) rfl rfl rfl (Nat.le_of_ble_eq_true rfl) ⟨by decide, by decide, by decide, by decide⟩ ?_
            refine a_iret X hr dX7_need_70 ⟨by decide, by decide⟩ ?_
            subst hF
            rw [← Option.some.inj h]
            exact ⟨rfl, rfl⟩
        · replace h := (if_neg h_43).symm.trans h
          refine a_aload_n X dX7_need_46 rfl ?_
          refine a_bipush (v := 7) X dX7_need_47 (by decide) ?_
          obtain ⟨e_49, f_49, h⟩ := zBx h
          refine a_callVv X dX7_need_49 miX7_refuse lm7_102 (t_X7_refuse (by first | exact hP | assumption) f_49) (by first | exact p_o | assumption) rfl rfl rfl (Nat.le_of_ble_eq_true rfl) ⟨by decide, by decide, by decide, by decide⟩ ?_
          refine a_iret X hr dX7_need_52 ⟨by decide, by decide⟩ ?_
          subst hF
          rw [← Option.some.inj h]
          exact ⟨rfl, rfl⟩
      · replace h := (if_pos h_22).symm.trans h
        refine a_aload_n X dX7_need_25 rfl ?_
        refine a_iconst (v := 2) X dX7_need_26 (by decide) ?_
        obtain ⟨e_27, f_27, h⟩ := zBx h
        refine a_callVv X dX7_need_27 miX7_refuse lm7_102 (t_X7_refuse (by first | exact hP | assumption) f_27) (by first | exact p_o | assumption) rfl rfl rfl (Nat.le_of_ble_eq_true rfl) ⟨by decide, by decide, by decide, by decide⟩ ?_
        refine a_iret X hr dX7_need_30 ⟨by decide, by decide⟩ ?_
        subst hF
        rw [← Option.some.inj h]
        exact ⟨rfl, rfl⟩
    · replace h := (if_neg h_8).symm.trans h
      exact Zw.to2 (J_11 _ _ _ _ _ _ h) rfl rfl rfl
noncomputable def D_X7_whyNotWise_39 (P : Nat) (M : zMt) (y0_39 : Int32) : Option (Int32) :=
  some (y0_39)
noncomputable def D_X7_whyNotWise (P : Nat) (M : zMt) (v0 : Int32) : Option (Int32) :=
  zB (D_X7_isApplicant P M v0) fun e_2 =>
  if e_2 = 0 then
    some ((2 : Int32))
  else
    if (M (P + 91) 1) ≤ (7 : Int32) then
      if (M (P + 17) 0) = 0 then
        D_X7_whyNotWise_39 P M (5 : Int32)
      else
        D_X7_whyNotWise_39 P M (0 : Int32)
    else
      some ((3 : Int32))
set_option maxRecDepth 100000 in
set_option maxHeartbeats 4000000 in
theorem t_X7_whyNotWise {l : Launch} {G : zG} {b : Nat} {L : List zC} {M : zMt} {N : zNt} {P : Nat} {v0 : Int32} (hP : LX7 L P) {r : Int32} (h : D_X7_whyNotWise P M v0 = some r) : zM l G b yX7_whyNotWise cX7_whyNotWise 2 (some .int) 1 0 0 [.ref P, .int v0] (L, M, N) (fun r2 z => r2 = some (.int r) ∧ z = (L, M, N)) := by
  refine zM.of miX7_whyNotWise (Nat.le_of_ble_eq_true rfl) ?_
  intro p e s m args below meth c X hr hname
  generalize hF : ((fun r2 z => r2 = some (.int r) ∧ z = (L, M, N)) : Option Value → zS → Prop) = FQ
  change Zw p l e { frames := 1, cells := 0, slots := 0, locals := 80 * (1) } s m args below meth c G b 2 (MQ below (zQ G b FQ) args s 0 0 (fun q : Nat => b ≤ q)) 0 0 0 [some (.ref P), some (.int v0)] [] (L, M, N)
  have p_lt := hP.1
  have p_o := hP.2.1
  have p_list := hP.2.2.2.2.2.1
  have p_list_lt := p_list.1
  have p_list_o := p_list.2.1
  have p_pool := hP.2.2.2.2.2.2.2.1
  have p_pool_lt := p_pool.1
  have p_pool_o := p_pool.2.1
  have J_39 : ∀ (x1_39 : Int32) (y0_39 : Int32), D_X7_whyNotWise_39 P M y0_39 = some r → Zw p l e { frames := 1, cells := 0, slots := 0, locals := 80 * (1) } s m args below meth c G b 2 (MQ below (zQ G b FQ) args s 0 0 (fun q : Nat => b ≤ q)) 0 0 39 [some (.ref (P)), some (.int x1_39)] [.int y0_39] (L, M, N) := by
    intro x1_39 y0_39 h
    unfold D_X7_whyNotWise_39 at h
    refine a_iret X hr dX7_whyNotWise_39 ⟨by decide, by decide⟩ ?_
    subst hF
    rw [← Option.some.inj h]
    exact ⟨rfl, rfl⟩
  unfold D_X7_whyNotWise at h
  refine a_aload_n X dX7_whyNotWise_0 rfl ?_
  refine a_iload_n X dX7_whyNotWise_1 rfl ?_
  obtain ⟨e_2, f_2, h⟩ := zBx h
  refine a_callVx X dX7_whyNotWise_2 miX7_isApplicant lm7_206 (t_X7_isApplicant (by first | exact hP | assumption) f_2) (by first | exact p_o | assumption) rfl rfl rfl (Nat.le_of_ble_eq_true rfl) ⟨by decide, by decide, by decide, by decide⟩ (fun r_2 S_2 q_2 => ?_)
  obtain ⟨rfl, rfl, b_2⟩ := q_2
  refine a_if_ne (tgt := 10) X dX7_whyNotWise_5 (by decide) (fun h_5 => ?_) (fun h_5 => ?_)
  · replace h := (if_neg h_5).symm.trans h
    refine a_aload_n X dX7_whyNotWise_10 rfl ?_
    refine a_getr X lf7_40 (by first | exact p_o | assumption) rfl (by omega) dX7_whyNotWise_11 ?_
    refine a_geti X lf7_140 (by first | exact p_pool_o | assumption) rfl dX7_whyNotWise_14 ?_
    refine a_bipush (v := 7) X dX7_whyNotWise_17 (by decide) ?_
    refine a_icmp_le (tgt := 24) X dX7_whyNotWise_19 (by decide) (fun h_19 => ?_) (fun h_19 => ?_)
    · replace h := (if_pos h_19).symm.trans h
      refine a_aload_n X dX7_whyNotWise_24 rfl ?_
      refine a_getr X lf7_26 (by first | exact p_o | assumption) rfl (by omega) dX7_whyNotWise_25 ?_
      refine a_geti X lf7_131 (by first | exact p_list_o | assumption) rfl dX7_whyNotWise_28 ?_
      refine a_if_ne (tgt := 38) X dX7_whyNotWise_31 (by decide) (fun h_31 => ?_) (fun h_31 => ?_)
      · replace h := (if_neg h_31).symm.trans h
        refine a_iconst (v := 0) X dX7_whyNotWise_38 (by decide) ?_
        exact Zw.to2 (J_39 _ _ h) rfl rfl rfl
      · replace h := (if_pos h_31).symm.trans h
        refine a_iconst (v := 5) X dX7_whyNotWise_34 (by decide) ?_
        refine a_goto (tgt := 39) X dX7_whyNotWise_35 (by decide) ?_
        exact Zw.to2 (J_39 _ _ h) rfl rfl rfl
    · replace h := (if_neg h_19).symm.trans h
      refine a_iconst (v := 3) X dX7_whyNotWise_22 (by decide) ?_
      refine a_iret X hr dX7_whyNotWise_23 ⟨by decide, by decide⟩ ?_
      subst hF
      rw [← Option.some.inj h]
      exact ⟨rfl, rfl⟩
  · replace h := (if_pos h_5).symm.trans h
    refine a_iconst (v := 2) X dX7_whyNotWise_8 (by decide) ?_
    refine a_iret X hr dX7_whyNotWise_9 ⟨by decide, by decide⟩ ?_
    subst hF
    rw [← Option.some.inj h]
    exact ⟨rfl, rfl⟩
noncomputable def D_X7_partsOfOnly (P : Nat) (v0 : Int32) (v1 : Int32) (M : zMt) (N : zNt) : Option (Int64 × zMt × zNt) :=
  zB (D_X4_take (P + 158) (P + 17) M) fun e_8 =>
  zB (D_X4_wishFor (P + 158) (zrd 0 (e_8 (P + 100)) 10 v0) v1 (-1 : Int32) (-1 : Int32) e_8) fun e_29 =>
  zB (D_X2_gather (P + 166) (P + 158) e_29) fun e_40 =>
  zB (D_X0_reckon (P + 187) (P + 166) e_40 N) fun e_51 =>
  zB (D_X0_anyUnit (P + 187) e_51.2 v0) fun e_59 =>
  some (e_59, e_51.1, e_51.2)
set_option maxRecDepth 100000 in
set_option maxHeartbeats 4000000 in
theorem t_X7_partsOfOnly {l : Launch} {G : zG} {b : Nat} {L : List zC} {M : zMt} {N : zNt} {P : Nat} {v0 : Int32} {v1 : Int32} (hP : LX7 L P) {r : Int64 × zMt × zNt} (h : D_X7_partsOfOnly P v0 v1 M N = some r) : zM l G b yX7_partsOfOnly cX7_partsOfOnly 3 (some .long) 14 0 0 [.ref P, .int v0, .int v1] (L, M, N) (fun r2 z => r2 = some (.long r.1) ∧ z = (L, r.2.1, r.2.2)) := by
  refine zM.of miX7_partsOfOnly (Nat.le_of_ble_eq_true rfl) ?_
  intro p e s m args below meth c X hr hname
  generalize hF : ((fun r2 z => r2 = some (.long r.1) ∧ z = (L, r.2.1, r.2.2)) : Option Value → zS → Prop) = FQ
  change Zw p l e { frames := 14, cells := 0, slots := 0, locals := 80 * (14) } s m args below meth c G b 3 (MQ below (zQ G b FQ) args s 0 0 (fun q : Nat => b ≤ q)) 0 0 0 [some (.ref P), some (.int v0), some (.int v1)] [] (L, M, N)
  have p_lt := hP.1
  have p_o := hP.2.1
  have p_list := hP.2.2.2.2.2.1
  have p_list_lt := p_list.1
  have p_list_o := p_list.2.1
  have p_pool := hP.2.2.2.2.2.2.2.1
  have p_pool_lt := p_pool.1
  have p_pool_o := p_pool.2.1
  have p_pool_bits := p_pool.2.2.2.2.2.2.2.2.2.2.1
  have p_trial := hP.2.2.2.2.2.2.2.2.2.2.2.1
  have p_trial_lt := p_trial.1
  have p_trial_o := p_trial.2.1
  have p_trialPool := hP.2.2.2.2.2.2.2.2.2.2.2.2.1
  have p_trialPool_lt := p_trialPool.1
  have p_trialPool_o := p_trialPool.2.1
  have p_trialOdds := hP.2.2.2.2.2.2.2.2.2.2.2.2.2.2
  have p_trialOdds_lt := p_trialOdds.1
  have p_trialOdds_o := p_trialOdds.2.1
  unfold D_X7_partsOfOnly at h
  refine a_aload_n X dX7_partsOfOnly_0 rfl ?_
  refine a_getr X lf7_65 (by first | exact p_o | assumption) rfl (by omega) dX7_partsOfOnly_1 ?_
  refine a_aload_n X dX7_partsOfOnly_4 rfl ?_
  refine a_getr X lf7_26 (by first | exact p_o | assumption) rfl (by omega) dX7_partsOfOnly_5 ?_
  obtain ⟨e_8, f_8, h⟩ := zBx h
  refine a_callVu X dX7_partsOfOnly_8 miX4_take lm7_113 (t_X4_take (by first | exact p_trial | assumption) (by first | exact p_list | assumption) (by omega) f_8) (by first | exact p_trial_o | assumption) rfl rfl rfl (Nat.le_of_ble_eq_true rfl) ⟨by decide, by decide, by decide, by decide⟩ ?_
  refine a_aload_n X dX7_partsOfOnly_11 rfl ?_
  refine a_getr X lf7_65 (by first | exact p_o | assumption) rfl (by omega) dX7_partsOfOnly_12 ?_
  refine a_aload_n X dX7_partsOfOnly_15 rfl ?_
  refine a_getr X lf7_40 (by first | exact p_o | assumption) rfl (by omega) dX7_partsOfOnly_16 ?_
  refine a_getr X lf7_222 (by first | exact p_pool_o | assumption) rfl (by omega) dX7_partsOfOnly_19 ?_
  refine a_iload_n X dX7_partsOfOnly_22 rfl ?_
  refine a_callSv X dX7_partsOfOnly_23 miX7_cell lm7_175 (c_cell (by first | exact p_pool_bits | assumption) (by decide)) rfl rfl (Nat.le_of_ble_eq_true rfl) ⟨by decide, by decide, by decide, by decide⟩ ?_
  refine a_iload_n X dX7_partsOfOnly_26 rfl ?_
  refine a_iconst (v := -1) X dX7_partsOfOnly_27 (by decide) ?_
  refine a_iconst (v := -1) X dX7_partsOfOnly_28 (by decide) ?_
  obtain ⟨e_29, f_29, h⟩ := zBx h
  refine a_callVu X dX7_partsOfOnly_29 miX4_wishFor lm7_283 (t_X4_wishFor (by first | exact p_trial | assumption) f_29) (by first | exact p_trial_o | assumption) rfl rfl rfl (Nat.le_of_ble_eq_true rfl) ⟨by decide, by decide, by decide, by decide⟩ ?_
  refine a_aload_n X dX7_partsOfOnly_32 rfl ?_
  refine a_getr X lf7_68 (by first | exact p_o | assumption) rfl (by omega) dX7_partsOfOnly_33 ?_
  refine a_aload_n X dX7_partsOfOnly_36 rfl ?_
  refine a_getr X lf7_65 (by first | exact p_o | assumption) rfl (by omega) dX7_partsOfOnly_37 ?_
  obtain ⟨e_40, f_40, h⟩ := zBx h
  refine a_callVu X dX7_partsOfOnly_40 miX2_gather lm7_80 (t_X2_gather (by first | exact p_trialPool | assumption) (by first | exact p_trial | assumption) f_40) (by first | exact p_trialPool_o | assumption) rfl rfl rfl (Nat.le_of_ble_eq_true rfl) ⟨by decide, by decide, by decide, by decide⟩ ?_
  refine a_aload_n X dX7_partsOfOnly_43 rfl ?_
  refine a_getr X lf7_74 (by first | exact p_o | assumption) rfl (by omega) dX7_partsOfOnly_44 ?_
  refine a_aload_n X dX7_partsOfOnly_47 rfl ?_
  refine a_getr X lf7_68 (by first | exact p_o | assumption) rfl (by omega) dX7_partsOfOnly_48 ?_
  obtain ⟨e_51, f_51, h⟩ := zBx h
  refine a_callVu X dX7_partsOfOnly_51 miX0_reckon lm7_339 (t_X0_reckon (by first | exact p_trialOdds | assumption) (by first | exact p_trialPool | assumption) f_51) (by first | exact p_trialOdds_o | assumption) rfl rfl rfl (Nat.le_of_ble_eq_true rfl) ⟨by decide, by decide, by decide, by decide⟩ ?_
  refine a_aload_n X dX7_partsOfOnly_54 rfl ?_
  refine a_getr X lf7_74 (by first | exact p_o | assumption) rfl (by omega) dX7_partsOfOnly_55 ?_
  refine a_iload_n X dX7_partsOfOnly_58 rfl ?_
  obtain ⟨e_59, f_59, h⟩ := zBx h
  refine a_callVv X dX7_partsOfOnly_59 miX0_anyUnit lm7_299 (t_X0_anyUnit (by first | exact p_trialOdds | assumption) f_59) (by first | exact p_trialOdds_o | assumption) rfl rfl rfl (Nat.le_of_ble_eq_true rfl) ⟨by decide, by decide, by decide, by decide⟩ ?_
  refine a_lret X hr dX7_partsOfOnly_62 ⟨by decide, by decide⟩ ?_
  subst hF
  rw [← Option.some.inj h]
  exact ⟨rfl, rfl⟩
noncomputable def D_X7_wise_62 (P : Nat) (k26 : Int32 → Int32 → Int64 → Int32 → zMt → zNt → Option (Int32 × zMt × zNt)) (x1_62 : Int32) (x3_62 : Int32) (x4_62 : Int64) (x6_62 : Int32) (M_62 : zMt) (N_62 : zNt) : Option (Int32 × zMt × zNt) :=
  k26 x1_62 x3_62 x4_62 (x6_62 + 1) M_62 N_62
noncomputable def D_X7_wise_26 (P : Nat) : Nat → Int32 → Int32 → Int64 → Int32 → zMt → zNt → Option (Int32 × zMt × zNt)
  | 0, _, _, _, _, _, _ => none
  | n + 1, x1_26, x3_26, x4_26, x6_26, M_26, N_26 =>
    if (M_26 (P + 17) 0) ≤ x6_26 then
      zB (D_X7_answer P x3_26 M_26) fun e_70 =>
      some (e_70.1, e_70.2, N_26)
    else
      zB (D_X7_partsOfOnly P x1_26 x6_26 M_26 N_26) fun e_42 =>
      if (lg_cmp e_42.1 x4_26) ≤ 0 then
        D_X7_wise_62 P (D_X7_wise_26 P n) x1_26 x3_26 x4_26 x6_26 e_42.2.1 e_42.2.2
      else
        D_X7_wise_62 P (D_X7_wise_26 P n) x1_26 x6_26 e_42.1 x6_26 e_42.2.1 e_42.2.2
noncomputable def D_X7_wise (P : Nat) (v0 : Int32) (M : zMt) (N : zNt) : Option (Int32 × zMt × zNt) :=
  zB (D_X7_whyNotWise P M v0) fun e_2 =>
  if e_2 = 0 then
    D_X7_wise_26 P zFu v0 (0 : Int32) (-1 : Int64) (0 : Int32) M N
  else
    zB (D_X7_refuse P e_2 M) fun e_12 =>
    some (e_12.1, e_12.2, N)
set_option maxRecDepth 100000 in
set_option maxHeartbeats 4000000 in
theorem t_X7_wise {l : Launch} {G : zG} {b : Nat} {L : List zC} {M : zMt} {N : zNt} {P : Nat} {v0 : Int32} (hP : LX7 L P) {r : Int32 × zMt × zNt} (h : D_X7_wise P v0 M N = some r) : zM l G b yX7_wise cX7_wise 9 (some .int) 15 0 0 [.ref P, .int v0] (L, M, N) (fun r2 z => r2 = some (.int r.1) ∧ z = (L, r.2.1, r.2.2)) := by
  refine zM.of miX7_wise (Nat.le_of_ble_eq_true rfl) ?_
  intro p e s m args below meth c X hr hname
  generalize hF : ((fun r2 z => r2 = some (.int r.1) ∧ z = (L, r.2.1, r.2.2)) : Option Value → zS → Prop) = FQ
  change Zw p l e { frames := 15, cells := 0, slots := 0, locals := 80 * (15) } s m args below meth c G b 9 (MQ below (zQ G b FQ) args s 0 0 (fun q : Nat => b ≤ q)) 0 0 0 [some (.ref P), some (.int v0), none, none, none, none, none, none, none] [] (L, M, N)
  have p_lt := hP.1
  have p_o := hP.2.1
  have p_list := hP.2.2.2.2.2.1
  have p_list_lt := p_list.1
  have p_list_o := p_list.2.1
  have L_26 : ∀ u : Nat, ∀ (x1_26 : Int32) (x2_26 : Int32) (x3_26 : Int32) (x4_26 : Int64) (x6_26 : Int32) (x7_26 : Option Value) (x8_26 : Option Value) (M_26 : zMt) (N_26 : zNt), D_X7_wise_26 P u x1_26 x3_26 x4_26 x6_26 M_26 N_26 = some r → Zw p l e { frames := 15, cells := 0, slots := 0, locals := 80 * (15) } s m args below meth c G b 9 (MQ below (zQ G b FQ) args s 0 0 (fun q : Nat => b ≤ q)) 0 0 26 [some (.ref (P)), some (.int x1_26), some (.int x2_26), some (.int x3_26), some (.long x4_26), none, some (.int x6_26), x7_26, x8_26] [] (L, M_26, N_26) := by
    intro u
    induction u with
    | zero => intro x1_26 x2_26 x3_26 x4_26 x6_26 x7_26 x8_26 M_26 N_26 h; cases (show none = some r from h)
    | succ u_26 ih_26 =>
      have J_62 : ∀ (x1_62 : Int32) (x2_62 : Int32) (x3_62 : Int32) (x4_62 : Int64) (x6_62 : Int32) (x7_62 : Int64) (M_62 : zMt) (N_62 : zNt), D_X7_wise_62 P (D_X7_wise_26 P u_26) x1_62 x3_62 x4_62 x6_62 M_62 N_62 = some r → Zw p l e { frames := 15, cells := 0, slots := 0, locals := 80 * (15) } s m args below meth c G b 9 (MQ below (zQ G b FQ) args s 0 0 (fun q : Nat => b ≤ q)) 0 0 62 [some (.ref (P)), some (.int x1_62), some (.int x2_62), some (.int x3_62), some (.long x4_62), none, some (.int x6_62), some (.long x7_62), none] [] (L, M_62, N_62) := by
        intro x1_62 x2_62 x3_62 x4_62 x6_62 x7_62 M_62 N_62 h
        unfold D_X7_wise_62 at h
        refine a_iinc (v := x6_62 + 1) X dX7_wise_62 (by decide) rfl zi_1 ?_
        refine a_goto (tgt := 26) X dX7_wise_65 (by decide) ?_
        exact Zw.to2 (ih_26 _ _ _ _ _ _ _ _ _ h) rfl rfl rfl
      intro x1_26 x2_26 x3_26 x4_26 x6_26 x7_26 x8_26 M_26 N_26 h
      rw [D_X7_wise_26] at h
      refine a_iload X dX7_wise_26 rfl ?_
      refine a_aload_n X dX7_wise_28 rfl ?_
      refine a_getr X lf7_26 (by first | exact p_o | assumption) rfl (by omega) dX7_wise_29 ?_
      refine a_geti X lf7_131 (by first | exact p_list_o | assumption) rfl dX7_wise_32 ?_
      refine a_icmp_ge (tgt := 68) X dX7_wise_35 (by decide) (fun h_35 => ?_) (fun h_35 => ?_)
      · replace h := (if_pos h_35).symm.trans h
        refine a_aload_n X dX7_wise_68 rfl ?_
        refine a_iload_n X dX7_wise_69 rfl ?_
        obtain ⟨e_70, f_70, h⟩ := zBx h
        refine a_callVv X dX7_wise_70 miX7_answer lm7_134 (t_X7_answer (by first | exact hP | assumption) f_70) (by first | exact p_o | assumption) rfl rfl rfl (Nat.le_of_ble_eq_true rfl) ⟨by decide, by decide, by decide, by decide⟩ ?_
        refine a_iret X hr dX7_wise_73 ⟨by decide, by decide⟩ ?_
        subst hF
        rw [← Option.some.inj h]
        exact ⟨rfl, rfl⟩
      · replace h := (if_neg h_35).symm.trans h
        refine a_aload_n X dX7_wise_38 rfl ?_
        refine a_iload_n X dX7_wise_39 rfl ?_
        refine a_iload X dX7_wise_40 rfl ?_
        obtain ⟨e_42, f_42, h⟩ := zBx h
        refine a_callVv X dX7_wise_42 miX7_partsOfOnly lm7_349 (t_X7_partsOfOnly (by first | exact hP | assumption) f_42) (by first | exact p_o | assumption) rfl rfl rfl (Nat.le_of_ble_eq_true rfl) ⟨by decide, by decide, by decide, by decide⟩ ?_
        refine a_lstore X dX7_wise_45 (by decide) ?_
        refine a_lload X dX7_wise_47 rfl ?_
        refine a_lload X dX7_wise_49 rfl ?_
        refine a_lcmp X dX7_wise_51 ?_
        refine a_if_le (tgt := 62) X dX7_wise_52 (by decide) (fun h_52 => ?_) (fun h_52 => ?_)
        · replace h := (if_pos h_52).symm.trans h
          exact Zw.to2 (J_62 _ _ _ _ _ _ _ _ h) rfl rfl rfl
        · replace h := (if_neg h_52).symm.trans h
          refine a_lload X dX7_wise_55 rfl ?_
          refine a_lstore X dX7_wise_57 (by decide) ?_
          refine a_iload X dX7_wise_59 rfl ?_
          refine a_istore_n X dX7_wise_61 (by decide) ?_
          exact Zw.to2 (J_62 _ _ _ _ _ _ _ _ h) rfl rfl rfl
  have H_26 : ∀ (x1_26 : Int32) (x2_26 : Int32) (x3_26 : Int32) (x4_26 : Int64) (x6_26 : Int32) (x7_26 : Option Value) (x8_26 : Option Value) (M_26 : zMt) (N_26 : zNt), D_X7_wise_26 P zFu x1_26 x3_26 x4_26 x6_26 M_26 N_26 = some r → Zw p l e { frames := 15, cells := 0, slots := 0, locals := 80 * (15) } s m args below meth c G b 9 (MQ below (zQ G b FQ) args s 0 0 (fun q : Nat => b ≤ q)) 0 0 26 [some (.ref (P)), some (.int x1_26), some (.int x2_26), some (.int x3_26), some (.long x4_26), none, some (.int x6_26), x7_26, x8_26] [] (L, M_26, N_26) := L_26 zFu
  unfold D_X7_wise at h
  refine a_aload_n X dX7_wise_0 rfl ?_
  refine a_iload_n X dX7_wise_1 rfl ?_
  obtain ⟨e_2, f_2, h⟩ := zBx h
  refine a_callVv X dX7_wise_2 miX7_whyNotWise lm7_344 (t_X7_whyNotWise (by first | exact hP | assumption) f_2) (by first | exact p_o | assumption) rfl rfl rfl (Nat.le_of_ble_eq_true rfl) ⟨by decide, by decide, by decide, by decide⟩ ?_
  refine a_istore_n X dX7_wise_5 (by decide) ?_
  refine a_iload_n X dX7_wise_6 rfl ?_
  refine a_if_eq (tgt := 16) X dX7_wise_7 (by decide) (fun h_7 => ?_) (fun h_7 => ?_)
  · replace h := (if_pos h_7).symm.trans h
    refine a_iconst (v := 0) X dX7_wise_16 (by decide) ?_
    refine a_istore_n X dX7_wise_17 (by decide) ?_
    refine a_ldc2 X dX7_wise_18 lk7_347 ?_
    refine a_lstore X dX7_wise_21 (by decide) ?_
    refine a_iconst (v := 0) X dX7_wise_23 (by decide) ?_
    refine a_istore X dX7_wise_24 (by decide) ?_
    exact Zw.to2 (H_26 _ _ _ _ _ _ _ _ _ h) rfl rfl rfl
  · replace h := (if_neg h_7).symm.trans h
    refine a_aload_n X dX7_wise_10 rfl ?_
    refine a_iload_n X dX7_wise_11 rfl ?_
    obtain ⟨e_12, f_12, h⟩ := zBx h
    refine a_callVv X dX7_wise_12 miX7_refuse lm7_102 (t_X7_refuse (by first | exact hP | assumption) f_12) (by first | exact p_o | assumption) rfl rfl rfl (Nat.le_of_ble_eq_true rfl) ⟨by decide, by decide, by decide, by decide⟩ ?_
    refine a_iret X hr dX7_wise_15 ⟨by decide, by decide⟩ ?_
    subst hF
    rw [← Option.some.inj h]
    exact ⟨rfl, rfl⟩
noncomputable def D_X7_wiseChance_22 (P : Nat) : Nat → Int32 → Int64 → Int32 → zMt → zNt → Option (Int64 × zMt × zNt)
  | 0, _, _, _, _, _ => none
  | n + 1, x1_22, x3_22, x5_22, M_22, N_22 =>
    if (M_22 (P + 17) 0) ≤ x5_22 then
      zB (D_X7_answerParts P x3_22 M_22) fun e_54 =>
      some (e_54.1, e_54.2, N_22)
    else
      zB (D_X7_partsOfOnly P x1_22 x5_22 M_22 N_22) fun e_39 =>
      (D_X7_wiseChance_22 P n) x1_22 (if e_39.1 < x3_22 then x3_22 else e_39.1) (x5_22 + 1) e_39.2.1 e_39.2.2
noncomputable def D_X7_wiseChance (P : Nat) (v0 : Int32) (M : zMt) (N : zNt) : Option (Int64 × zMt × zNt) :=
  zB (D_X7_whyNotWise P M v0) fun e_2 =>
  if e_2 = 0 then
    D_X7_wiseChance_22 P zFu v0 (0 : Int64) (0 : Int32) M N
  else
    zB (D_X7_refuse P e_2 M) fun e_12 =>
    some ((Int32.toInt64 e_12.1), e_12.2, N)
set_option maxRecDepth 100000 in
set_option maxHeartbeats 4000000 in
theorem t_X7_wiseChance {l : Launch} {G : zG} {b : Nat} {L : List zC} {M : zMt} {N : zNt} {P : Nat} {v0 : Int32} (hP : LX7 L P) {r : Int64 × zMt × zNt} (h : D_X7_wiseChance P v0 M N = some r) : zM l G b yX7_wiseChance cX7_wiseChance 6 (some .long) 15 0 0 [.ref P, .int v0] (L, M, N) (fun r2 z => r2 = some (.long r.1) ∧ z = (L, r.2.1, r.2.2)) := by
  refine zM.of miX7_wiseChance (Nat.le_of_ble_eq_true rfl) ?_
  intro p e s m args below meth c X hr hname
  generalize hF : ((fun r2 z => r2 = some (.long r.1) ∧ z = (L, r.2.1, r.2.2)) : Option Value → zS → Prop) = FQ
  change Zw p l e { frames := 15, cells := 0, slots := 0, locals := 80 * (15) } s m args below meth c G b 6 (MQ below (zQ G b FQ) args s 0 0 (fun q : Nat => b ≤ q)) 0 0 0 [some (.ref P), some (.int v0), none, none, none, none] [] (L, M, N)
  have p_lt := hP.1
  have p_o := hP.2.1
  have p_list := hP.2.2.2.2.2.1
  have p_list_lt := p_list.1
  have p_list_o := p_list.2.1
  have L_22 : ∀ u : Nat, ∀ (x1_22 : Int32) (x2_22 : Int32) (x3_22 : Int64) (x5_22 : Int32) (M_22 : zMt) (N_22 : zNt), D_X7_wiseChance_22 P u x1_22 x3_22 x5_22 M_22 N_22 = some r → Zw p l e { frames := 15, cells := 0, slots := 0, locals := 80 * (15) } s m args below meth c G b 6 (MQ below (zQ G b FQ) args s 0 0 (fun q : Nat => b ≤ q)) 0 0 22 [some (.ref (P)), some (.int x1_22), some (.int x2_22), some (.long x3_22), none, some (.int x5_22)] [] (L, M_22, N_22) := by
    intro u
    induction u with
    | zero => intro x1_22 x2_22 x3_22 x5_22 M_22 N_22 h; cases (show none = some r from h)
    | succ u_22 ih_22 =>
      intro x1_22 x2_22 x3_22 x5_22 M_22 N_22 h
      rw [D_X7_wiseChance_22] at h
      refine a_iload X dX7_wiseChance_22 rfl ?_
      refine a_aload_n X dX7_wiseChance_24 rfl ?_
      refine a_getr X lf7_26 (by first | exact p_o | assumption) rfl (by omega) dX7_wiseChance_25 ?_
      refine a_geti X lf7_131 (by first | exact p_list_o | assumption) rfl dX7_wiseChance_28 ?_
      refine a_icmp_ge (tgt := 52) X dX7_wiseChance_31 (by decide) (fun h_31 => ?_) (fun h_31 => ?_)
      · replace h := (if_pos h_31).symm.trans h
        refine a_aload_n X dX7_wiseChance_52 rfl ?_
        refine a_lload_n X dX7_wiseChance_53 rfl ?_
        obtain ⟨e_54, f_54, h⟩ := zBx h
        refine a_callVv X dX7_wiseChance_54 miX7_answerParts lm7_303 (t_X7_answerParts (by first | exact hP | assumption) f_54) (by first | exact p_o | assumption) rfl rfl rfl (Nat.le_of_ble_eq_true rfl) ⟨by decide, by decide, by decide, by decide⟩ ?_
        refine a_lret X hr dX7_wiseChance_57 ⟨by decide, by decide⟩ ?_
        subst hF
        rw [← Option.some.inj h]
        exact ⟨rfl, rfl⟩
      · replace h := (if_neg h_31).symm.trans h
        refine a_lload_n X dX7_wiseChance_34 rfl ?_
        refine a_aload_n X dX7_wiseChance_35 rfl ?_
        refine a_iload_n X dX7_wiseChance_36 rfl ?_
        refine a_iload X dX7_wiseChance_37 rfl ?_
        obtain ⟨e_39, f_39, h⟩ := zBx h
        refine a_callVv X dX7_wiseChance_39 miX7_partsOfOnly lm7_349 (t_X7_partsOfOnly (by first | exact hP | assumption) f_39) (by first | exact p_o | assumption) rfl rfl rfl (Nat.le_of_ble_eq_true rfl) ⟨by decide, by decide, by decide, by decide⟩ ?_
        refine a_mmaxl X lm7_352 zmath3 zmath0 zmathc3 ⟨by decide, Nat.le_of_ble_eq_true rfl, by decide, by decide⟩ dX7_wiseChance_42 ?_
        refine a_lstore_n X dX7_wiseChance_45 (by decide) ?_
        refine a_iinc (v := x5_22 + 1) X dX7_wiseChance_46 (by decide) rfl zi_1 ?_
        refine a_goto (tgt := 22) X dX7_wiseChance_49 (by decide) ?_
        exact Zw.to2 (ih_22 _ _ _ _ _ _ h) rfl rfl rfl
  have H_22 : ∀ (x1_22 : Int32) (x2_22 : Int32) (x3_22 : Int64) (x5_22 : Int32) (M_22 : zMt) (N_22 : zNt), D_X7_wiseChance_22 P zFu x1_22 x3_22 x5_22 M_22 N_22 = some r → Zw p l e { frames := 15, cells := 0, slots := 0, locals := 80 * (15) } s m args below meth c G b 6 (MQ below (zQ G b FQ) args s 0 0 (fun q : Nat => b ≤ q)) 0 0 22 [some (.ref (P)), some (.int x1_22), some (.int x2_22), some (.long x3_22), none, some (.int x5_22)] [] (L, M_22, N_22) := L_22 zFu
  unfold D_X7_wiseChance at h
  refine a_aload_n X dX7_wiseChance_0 rfl ?_
  refine a_iload_n X dX7_wiseChance_1 rfl ?_
  obtain ⟨e_2, f_2, h⟩ := zBx h
  refine a_callVv X dX7_wiseChance_2 miX7_whyNotWise lm7_344 (t_X7_whyNotWise (by first | exact hP | assumption) f_2) (by first | exact p_o | assumption) rfl rfl rfl (Nat.le_of_ble_eq_true rfl) ⟨by decide, by decide, by decide, by decide⟩ ?_
  refine a_istore_n X dX7_wiseChance_5 (by decide) ?_
  refine a_iload_n X dX7_wiseChance_6 rfl ?_
  refine a_if_eq (tgt := 17) X dX7_wiseChance_7 (by decide) (fun h_7 => ?_) (fun h_7 => ?_)
  · replace h := (if_pos h_7).symm.trans h
    refine a_lconst (v := 0) X dX7_wiseChance_17 (by decide) ?_
    refine a_lstore_n X dX7_wiseChance_18 (by decide) ?_
    refine a_iconst (v := 0) X dX7_wiseChance_19 (by decide) ?_
    refine a_istore X dX7_wiseChance_20 (by decide) ?_
    exact Zw.to2 (H_22 _ _ _ _ _ _ h) rfl rfl rfl
  · replace h := (if_neg h_7).symm.trans h
    refine a_aload_n X dX7_wiseChance_10 rfl ?_
    refine a_iload_n X dX7_wiseChance_11 rfl ?_
    obtain ⟨e_12, f_12, h⟩ := zBx h
    refine a_callVv X dX7_wiseChance_12 miX7_refuse lm7_102 (t_X7_refuse (by first | exact hP | assumption) f_12) (by first | exact p_o | assumption) rfl rfl rfl (Nat.le_of_ble_eq_true rfl) ⟨by decide, by decide, by decide, by decide⟩ ?_
    refine a_i2l X dX7_wiseChance_15 ?_
    refine a_lret X hr dX7_wiseChance_16 ⟨by decide, by decide⟩ ?_
    subst hF
    rw [← Option.some.inj h]
    exact ⟨rfl, rfl⟩
noncomputable def D_X7_together_65 (P : Nat) (M_65 : zMt) (N_65 : zNt) : Option (Int64 × zMt × zNt) :=
  zB (D_X7_refuse P (7 : Int32) M_65) fun e_68 =>
  some ((Int32.toInt64 e_68.1), e_68.2, N_65)
noncomputable def D_X7_together_16 (P : Nat) (M_16 : zMt) (N_16 : zNt) : Option (Int64 × zMt × zNt) :=
  zB (D_X7_refuse P (2 : Int32) M_16) fun e_18 =>
  some ((Int32.toInt64 e_18.1), e_18.2, N_16)
noncomputable def D_X7_together (P : Nat) (v0 : Int32) (v1 : Int32) (M : zMt) (N : zNt) : Option (Int64 × zMt × zNt) :=
  zB (D_X7_isHunter P M v0) fun e_2 =>
  if e_2 = 0 then
    D_X7_together_16 P M N
  else
    zB (D_X7_isHunter P M v1) fun e_10 =>
    if e_10 = 0 then
      D_X7_together_16 P M N
    else
      if v0 = v1 then
        zB (D_X7_refuse P (4 : Int32) M) fun e_30 =>
        some ((Int32.toInt64 e_30.1), e_30.2, N)
      else
        if (zrd 0 (M (P + 21)) 10 v0) = (-1 : Int32) then
          if (zrd 0 (M (P + 21)) 10 v1) = (-1 : Int32) then
            if (M (P + 91) 1) ≤ (8 : Int32) then
              zB (D_X4_take (P + 158) (P + 17) M) fun e_100 =>
              zB (D_X4_join (P + 158) v0 v1 e_100) fun e_109 =>
              zB (D_X2_gather (P + 166) (P + 158) e_109) fun e_120 =>
              zB (D_X0_reckon (P + 187) (P + 166) e_120 N) fun e_131 =>
              zB (D_X0_anyUnit (P + 187) e_131.2 (zrd 0 (e_131.1 (P + 170)) 10 v0)) fun e_150 =>
              zB (D_X7_answerParts P e_150 e_131.1) fun e_153 =>
              some (e_153.1, e_153.2, e_131.2)
            else
              zB (D_X7_refuse P (3 : Int32) M) fun e_87 =>
              some ((Int32.toInt64 e_87.1), e_87.2, N)
          else
            D_X7_together_65 P M N
        else
          D_X7_together_65 P M N
set_option maxRecDepth 100000 in
set_option maxHeartbeats 4000000 in
theorem t_X7_together {l : Launch} {G : zG} {b : Nat} {L : List zC} {M : zMt} {N : zNt} {P : Nat} {v0 : Int32} {v1 : Int32} (hP : LX7 L P) {r : Int64 × zMt × zNt} (h : D_X7_together P v0 v1 M N = some r) : zM l G b yX7_together cX7_together 3 (some .long) 14 0 0 [.ref P, .int v0, .int v1] (L, M, N) (fun r2 z => r2 = some (.long r.1) ∧ z = (L, r.2.1, r.2.2)) := by
  refine zM.of miX7_together (Nat.le_of_ble_eq_true rfl) ?_
  intro p e s m args below meth c X hr hname
  generalize hF : ((fun r2 z => r2 = some (.long r.1) ∧ z = (L, r.2.1, r.2.2)) : Option Value → zS → Prop) = FQ
  change Zw p l e { frames := 14, cells := 0, slots := 0, locals := 80 * (14) } s m args below meth c G b 3 (MQ below (zQ G b FQ) args s 0 0 (fun q : Nat => b ≤ q)) 0 0 0 [some (.ref P), some (.int v0), some (.int v1)] [] (L, M, N)
  have p_lt := hP.1
  have p_o := hP.2.1
  have p_list := hP.2.2.2.2.2.1
  have p_list_lt := p_list.1
  have p_list_o := p_list.2.1
  have p_list_party := p_list.2.2.2.2.2.1
  have p_pool := hP.2.2.2.2.2.2.2.1
  have p_pool_lt := p_pool.1
  have p_pool_o := p_pool.2.1
  have p_trial := hP.2.2.2.2.2.2.2.2.2.2.2.1
  have p_trial_lt := p_trial.1
  have p_trial_o := p_trial.2.1
  have p_trialPool := hP.2.2.2.2.2.2.2.2.2.2.2.2.1
  have p_trialPool_lt := p_trialPool.1
  have p_trialPool_o := p_trialPool.2.1
  have p_trialPool_applicantOf := p_trialPool.2.2.2.2.2.1
  have p_trialOdds := hP.2.2.2.2.2.2.2.2.2.2.2.2.2.2
  have p_trialOdds_lt := p_trialOdds.1
  have p_trialOdds_o := p_trialOdds.2.1
  have J_65 : ∀ (x1_65 : Int32) (x2_65 : Int32) (M_65 : zMt) (N_65 : zNt), D_X7_together_65 P M_65 N_65 = some r → Zw p l e { frames := 14, cells := 0, slots := 0, locals := 80 * (14) } s m args below meth c G b 3 (MQ below (zQ G b FQ) args s 0 0 (fun q : Nat => b ≤ q)) 0 0 65 [some (.ref (P)), some (.int x1_65), some (.int x2_65)] [] (L, M_65, N_65) := by
    intro x1_65 x2_65 M_65 N_65 h
    unfold D_X7_together_65 at h
    refine a_aload_n X dX7_together_65 rfl ?_
    refine a_bipush (v := 7) X dX7_together_66 (by decide) ?_
    obtain ⟨e_68, f_68, h⟩ := zBx h
    refine a_callVv X dX7_together_68 miX7_refuse lm7_102 (t_X7_refuse (by first | exact hP | assumption) f_68) (by first | exact p_o | assumption) rfl rfl rfl (Nat.le_of_ble_eq_true rfl) ⟨by decide, by decide, by decide, by decide⟩ ?_
    refine a_i2l X dX7_together_71 ?_
    refine a_lret X hr dX7_together_72 ⟨by decide, by decide⟩ ?_
    subst hF
    rw [← Option.some.inj h]
    exact ⟨rfl, rfl⟩
  have J_16 : ∀ (x1_16 : Int32) (x2_16 : Int32) (M_16 : zMt) (N_16 : zNt), D_X7_together_16 P M_16 N_16 = some r → Zw p l e { frames := 14, cells := 0, slots := 0, locals := 80 * (14) } s m args below meth c G b 3 (MQ below (zQ G b FQ) args s 0 0 (fun q : Nat => b ≤ q)) 0 0 16 [some (.ref (P)), some (.int x1_16), some (.int x2_16)] [] (L, M_16, N_16) := by
    intro x1_16 x2_16 M_16 N_16 h
    unfold D_X7_together_16 at h
    refine a_aload_n X dX7_together_16 rfl ?_
    refine a_iconst (v := 2) X dX7_together_17 (by decide) ?_
    obtain ⟨e_18, f_18, h⟩ := zBx h
    refine a_callVv X dX7_together_18 miX7_refuse lm7_102 (t_X7_refuse (by first | exact hP | assumption) f_18) (by first | exact p_o | assumption) rfl rfl rfl (Nat.le_of_ble_eq_true rfl) ⟨by decide, by decide, by decide, by decide⟩ ?_
    refine a_i2l X dX7_together_21 ?_
    refine a_lret X hr dX7_together_22 ⟨by decide, by decide⟩ ?_
    subst hF
    rw [← Option.some.inj h]
    exact ⟨rfl, rfl⟩
  unfold D_X7_together at h
  refine a_aload_n X dX7_together_0 rfl ?_
  refine a_iload_n X dX7_together_1 rfl ?_
  obtain ⟨e_2, f_2, h⟩ := zBx h
  refine a_callVx X dX7_together_2 miX7_isHunter lm7_168 (t_X7_isHunter (by first | exact hP | assumption) f_2) (by first | exact p_o | assumption) rfl rfl rfl (Nat.le_of_ble_eq_true rfl) ⟨by decide, by decide, by decide, by decide⟩ (fun r_2 S_2 q_2 => ?_)
  obtain ⟨rfl, rfl, b_2⟩ := q_2
  refine a_if_eq (tgt := 16) X dX7_together_5 (by decide) (fun h_5 => ?_) (fun h_5 => ?_)
  · replace h := (if_pos h_5).symm.trans h
    exact Zw.to2 (J_16 _ _ _ _ h) rfl rfl rfl
  · replace h := (if_neg h_5).symm.trans h
    refine a_aload_n X dX7_together_8 rfl ?_
    refine a_iload_n X dX7_together_9 rfl ?_
    obtain ⟨e_10, f_10, h⟩ := zBx h
    refine a_callVx X dX7_together_10 miX7_isHunter lm7_168 (t_X7_isHunter (by first | exact hP | assumption) f_10) (by first | exact p_o | assumption) rfl rfl rfl (Nat.le_of_ble_eq_true rfl) ⟨by decide, by decide, by decide, by decide⟩ (fun r_10 S_10 q_10 => ?_)
    obtain ⟨rfl, rfl, b_10⟩ := q_10
    refine a_if_ne (tgt := 23) X dX7_together_13 (by decide) (fun h_13 => ?_) (fun h_13 => ?_)
    · replace h := (if_neg h_13).symm.trans h
      refine a_iload_n X dX7_together_23 rfl ?_
      refine a_iload_n X dX7_together_24 rfl ?_
      refine a_icmp_ne (tgt := 35) X dX7_together_25 (by decide) (fun h_25 => ?_) (fun h_25 => ?_)
      · replace h := (if_neg h_25).symm.trans h
        refine a_aload_n X dX7_together_35 rfl ?_
        refine a_getr X lf7_26 (by first | exact p_o | assumption) rfl (by omega) dX7_together_36 ?_
        refine a_getr X lf7_179 (by first | exact p_list_o | assumption) rfl (by omega) dX7_together_39 ?_
        refine a_iload_n X dX7_together_42 rfl ?_
        refine a_callSv X dX7_together_43 miX7_cell lm7_175 (c_cell (by first | exact p_list_party | assumption) (by decide)) rfl rfl (Nat.le_of_ble_eq_true rfl) ⟨by decide, by decide, by decide, by decide⟩ ?_
        refine a_iconst (v := -1) X dX7_together_46 (by decide) ?_
        refine a_icmp_ne (tgt := 65) X dX7_together_47 (by decide) (fun h_47 => ?_) (fun h_47 => ?_)
        · replace h := (if_neg h_47).symm.trans h
          exact Zw.to2 (J_65 _ _ _ _ h) rfl rfl rfl
        · replace h := (if_pos h_47).symm.trans h
          refine a_aload_n X dX7_together_50 rfl ?_
          refine a_getr X lf7_26 (by first | exact p_o | assumption) rfl (by omega) dX7_together_51 ?_
          refine a_getr X lf7_179 (by first | exact p_list_o | assumption) rfl (by omega) dX7_together_54 ?_
          refine a_iload_n X dX7_together_57 rfl ?_
          refine a_callSv X dX7_together_58 miX7_cell lm7_175 (c_cell (by first | exact p_list_party | assumption) (by decide)) rfl rfl (Nat.le_of_ble_eq_true rfl) ⟨by decide, by decide, by decide, by decide⟩ ?_
          refine a_iconst (v := -1) X dX7_together_61 (by decide) ?_
          refine a_icmp_eq (tgt := 73) X dX7_together_62 (by decide) (fun h_62 => ?_) (fun h_62 => ?_)
          · replace h := (if_pos h_62).symm.trans h
            refine a_aload_n X dX7_together_73 rfl ?_
            refine a_getr X lf7_40 (by first | exact p_o | assumption) rfl (by omega) dX7_together_74 ?_
            refine a_geti X lf7_140 (by first | exact p_pool_o | assumption) rfl dX7_together_77 ?_
            refine a_bipush (v := 8) X dX7_together_80 (by decide) ?_
            refine a_icmp_le (tgt := 92) X dX7_together_82 (by decide) (fun h_82 => ?_) (fun h_82 => ?_)
            · replace h := (if_pos h_82).symm.trans h
              refine a_aload_n X dX7_together_92 rfl ?_
              refine a_getr X lf7_65 (by first | exact p_o | assumption) rfl (by omega) dX7_together_93 ?_
              refine a_aload_n X dX7_together_96 rfl ?_
              refine a_getr X lf7_26 (by first | exact p_o | assumption) rfl (by omega) dX7_together_97 ?_
              obtain ⟨e_100, f_100, h⟩ := zBx h
              refine a_callVu X dX7_together_100 miX4_take lm7_113 (t_X4_take (by first | exact p_trial | assumption) (by first | exact p_list | assumption) (by omega) f_100) (by first | exact p_trial_o | assumption) rfl rfl rfl (Nat.le_of_ble_eq_true rfl) ⟨by decide, by decide, by decide, by decide⟩ ?_
              refine a_aload_n X dX7_together_103 rfl ?_
              refine a_getr X lf7_65 (by first | exact p_o | assumption) rfl (by omega) dX7_together_104 ?_
              refine a_iload_n X dX7_together_107 rfl ?_
              refine a_iload_n X dX7_together_108 rfl ?_
              obtain ⟨e_109, f_109, h⟩ := zBx h
              refine a_callVu X dX7_together_109 miX4_join lm7_358 (t_X4_join (by first | exact p_trial | assumption) f_109) (by first | exact p_trial_o | assumption) rfl rfl rfl (Nat.le_of_ble_eq_true rfl) ⟨by decide, by decide, by decide, by decide⟩ ?_
              refine a_aload_n X dX7_together_112 rfl ?_
              refine a_getr X lf7_68 (by first | exact p_o | assumption) rfl (by omega) dX7_together_113 ?_
              refine a_aload_n X dX7_together_116 rfl ?_
              refine a_getr X lf7_65 (by first | exact p_o | assumption) rfl (by omega) dX7_together_117 ?_
              obtain ⟨e_120, f_120, h⟩ := zBx h
              refine a_callVu X dX7_together_120 miX2_gather lm7_80 (t_X2_gather (by first | exact p_trialPool | assumption) (by first | exact p_trial | assumption) f_120) (by first | exact p_trialPool_o | assumption) rfl rfl rfl (Nat.le_of_ble_eq_true rfl) ⟨by decide, by decide, by decide, by decide⟩ ?_
              refine a_aload_n X dX7_together_123 rfl ?_
              refine a_getr X lf7_74 (by first | exact p_o | assumption) rfl (by omega) dX7_together_124 ?_
              refine a_aload_n X dX7_together_127 rfl ?_
              refine a_getr X lf7_68 (by first | exact p_o | assumption) rfl (by omega) dX7_together_128 ?_
              obtain ⟨e_131, f_131, h⟩ := zBx h
              refine a_callVu X dX7_together_131 miX0_reckon lm7_339 (t_X0_reckon (by first | exact p_trialOdds | assumption) (by first | exact p_trialPool | assumption) f_131) (by first | exact p_trialOdds_o | assumption) rfl rfl rfl (Nat.le_of_ble_eq_true rfl) ⟨by decide, by decide, by decide, by decide⟩ ?_
              refine a_aload_n X dX7_together_134 rfl ?_
              refine a_aload_n X dX7_together_135 rfl ?_
              refine a_getr X lf7_74 (by first | exact p_o | assumption) rfl (by omega) dX7_together_136 ?_
              refine a_aload_n X dX7_together_139 rfl ?_
              refine a_getr X lf7_68 (by first | exact p_o | assumption) rfl (by omega) dX7_together_140 ?_
              refine a_getr X lf7_182 (by first | exact p_trialPool_o | assumption) rfl (by omega) dX7_together_143 ?_
              refine a_iload_n X dX7_together_146 rfl ?_
              refine a_callSv X dX7_together_147 miX7_cell lm7_175 (c_cell (by first | exact p_trialPool_applicantOf | assumption) (by decide)) rfl rfl (Nat.le_of_ble_eq_true rfl) ⟨by decide, by decide, by decide, by decide⟩ ?_
              obtain ⟨e_150, f_150, h⟩ := zBx h
              refine a_callVv X dX7_together_150 miX0_anyUnit lm7_299 (t_X0_anyUnit (by first | exact p_trialOdds | assumption) f_150) (by first | exact p_trialOdds_o | assumption) rfl rfl rfl (Nat.le_of_ble_eq_true rfl) ⟨by decide, by decide, by decide, by decide⟩ ?_
              obtain ⟨e_153, f_153, h⟩ := zBx h
              refine a_callVv X dX7_together_153 miX7_answerParts lm7_303 (t_X7_answerParts (by first | exact hP | assumption) f_153) (by first | exact p_o | assumption) rfl rfl rfl (Nat.le_of_ble_eq_true rfl) ⟨by decide, by decide, by decide, by decide⟩ ?_
              refine a_lret X hr dX7_together_156 ⟨by decide, by decide⟩ ?_
              subst hF
              rw [← Option.some.inj h]
              exact ⟨rfl, rfl⟩
            · replace h := (if_neg h_82).symm.trans h
              refine a_aload_n X dX7_together_85 rfl ?_
              refine a_iconst (v := 3) X dX7_together_86 (by decide) ?_
              obtain ⟨e_87, f_87, h⟩ := zBx h
              refine a_callVv X dX7_together_87 miX7_refuse lm7_102 (t_X7_refuse (by first | exact hP | assumption) f_87) (by first | exact p_o | assumption) rfl rfl rfl (Nat.le_of_ble_eq_true rfl) ⟨by decide, by decide, by decide, by decide⟩ ?_
              refine a_i2l X dX7_together_90 ?_
              refine a_lret X hr dX7_together_91 ⟨by decide, by decide⟩ ?_
              subst hF
              rw [← Option.some.inj h]
              exact ⟨rfl, rfl⟩
          · replace h := (if_neg h_62).symm.trans h
            exact Zw.to2 (J_65 _ _ _ _ h) rfl rfl rfl
      · replace h := (if_pos h_25).symm.trans h
        refine a_aload_n X dX7_together_28 rfl ?_
        refine a_iconst (v := 4) X dX7_together_29 (by decide) ?_
        obtain ⟨e_30, f_30, h⟩ := zBx h
        refine a_callVv X dX7_together_30 miX7_refuse lm7_102 (t_X7_refuse (by first | exact hP | assumption) f_30) (by first | exact p_o | assumption) rfl rfl rfl (Nat.le_of_ble_eq_true rfl) ⟨by decide, by decide, by decide, by decide⟩ ?_
        refine a_i2l X dX7_together_33 ?_
        refine a_lret X hr dX7_together_34 ⟨by decide, by decide⟩ ?_
        subst hF
        rw [← Option.some.inj h]
        exact ⟨rfl, rfl⟩
    · replace h := (if_pos h_13).symm.trans h
      exact Zw.to2 (J_16 _ _ _ _ h) rfl rfl rfl
noncomputable def D_X7_isParty_20 (P : Nat) (M : zMt) (y0_20 : Int32) : Option (Int32) :=
  some (y0_20)
noncomputable def D_X7_isParty_19 (P : Nat) (M : zMt)  : Option (Int32) :=
  D_X7_isParty_20 P M (0 : Int32)
noncomputable def D_X7_isParty (P : Nat) (M : zMt) (v0 : Int32) : Option (Int32) :=
  if v0 < 0 then
    D_X7_isParty_19 P M
  else
    if (M (P + 17) 2) ≤ v0 then
      D_X7_isParty_19 P M
    else
      D_X7_isParty_20 P M (1 : Int32)
set_option maxRecDepth 100000 in
set_option maxHeartbeats 4000000 in
theorem t_X7_isParty {l : Launch} {G : zG} {b : Nat} {L : List zC} {M : zMt} {N : zNt} {P : Nat} {v0 : Int32} (hP : LX7 L P) {r : Int32} (h : D_X7_isParty P M v0 = some r) : zM l G b yX7_isParty cX7_isParty 2 (some .boolean) 0 0 0 [.ref P, .int v0] (L, M, N) (fun r2 z => r2 = some (.int r) ∧ z = (L, M, N) ∧ (r = 0 ∨ r = 1)) := by
  refine zM.of miX7_isParty (Nat.le_of_ble_eq_true rfl) ?_
  intro p e s m args below meth c X hr hname
  generalize hF : ((fun r2 z => r2 = some (.int r) ∧ z = (L, M, N) ∧ (r = 0 ∨ r = 1)) : Option Value → zS → Prop) = FQ
  change Zw p l e { frames := 0, cells := 0, slots := 0, locals := 80 * (0) } s m args below meth c G b 2 (MQ below (zQ G b FQ) args s 0 0 (fun q : Nat => b ≤ q)) 0 0 0 [some (.ref P), some (.int v0)] [] (L, M, N)
  have p_lt := hP.1
  have p_o := hP.2.1
  have p_list := hP.2.2.2.2.2.1
  have p_list_lt := p_list.1
  have p_list_o := p_list.2.1
  have J_20 : ∀ (x1_20 : Int32) (y0_20 : Int32), (y0_20 = 0 ∨ y0_20 = 1) → D_X7_isParty_20 P M y0_20 = some r → Zw p l e { frames := 0, cells := 0, slots := 0, locals := 80 * (0) } s m args below meth c G b 2 (MQ below (zQ G b FQ) args s 0 0 (fun q : Nat => b ≤ q)) 0 0 20 [some (.ref (P)), some (.int x1_20)] [.int y0_20] (L, M, N) := by
    intro x1_20 y0_20 fb_y0_20 h
    unfold D_X7_isParty_20 at h
    refine a_zret X (by first | exact Or.inl rfl | exact Or.inr rfl | assumption) hr dX7_isParty_20 ⟨by decide, by decide⟩ ?_
    subst hF
    rw [← Option.some.inj h]
    exact ⟨rfl, rfl, (by first | exact Or.inl rfl | exact Or.inr rfl | assumption)⟩
  have J_19 : ∀ (x1_19 : Int32), D_X7_isParty_19 P M = some r → Zw p l e { frames := 0, cells := 0, slots := 0, locals := 80 * (0) } s m args below meth c G b 2 (MQ below (zQ G b FQ) args s 0 0 (fun q : Nat => b ≤ q)) 0 0 19 [some (.ref (P)), some (.int x1_19)] [] (L, M, N) := by
    intro x1_19 h
    unfold D_X7_isParty_19 at h
    refine a_iconst (v := 0) X dX7_isParty_19 (by decide) ?_
    exact Zw.to2 (J_20 _ _ (by first | exact Or.inl rfl | exact Or.inr rfl | assumption) h) rfl rfl rfl
  unfold D_X7_isParty at h
  refine a_iload_n X dX7_isParty_0 rfl ?_
  refine a_if_lt (tgt := 19) X dX7_isParty_1 (by decide) (fun h_1 => ?_) (fun h_1 => ?_)
  · replace h := (if_pos h_1).symm.trans h
    exact Zw.to2 (J_19 _ h) rfl rfl rfl
  · replace h := (if_neg h_1).symm.trans h
    refine a_iload_n X dX7_isParty_4 rfl ?_
    refine a_aload_n X dX7_isParty_5 rfl ?_
    refine a_getr X lf7_26 (by first | exact p_o | assumption) rfl (by omega) dX7_isParty_6 ?_
    refine a_geti X lf7_137 (by first | exact p_list_o | assumption) rfl dX7_isParty_9 ?_
    refine a_icmp_ge (tgt := 19) X dX7_isParty_12 (by decide) (fun h_12 => ?_) (fun h_12 => ?_)
    · replace h := (if_pos h_12).symm.trans h
      exact Zw.to2 (J_19 _ h) rfl rfl rfl
    · replace h := (if_neg h_12).symm.trans h
      refine a_iconst (v := 1) X dX7_isParty_15 (by decide) ?_
      refine a_goto (tgt := 20) X dX7_isParty_16 (by decide) ?_
      exact Zw.to2 (J_20 _ _ (by first | exact Or.inl rfl | exact Or.inr rfl | assumption) h) rfl rfl rfl
noncomputable def D_X7_apart_121 (P : Nat) (k79 : Int32 → Int32 → Int32 → zMt → zNt → Option (Int64 × zMt × zNt)) (x1_121 : Int32) (x2_121 : Int32) (x3_121 : Int32) (M_121 : zMt) (N_121 : zNt) : Option (Int64 × zMt × zNt) :=
  k79 x1_121 x2_121 (x3_121 + 1) M_121 N_121
noncomputable def D_X7_apart_79 (P : Nat) : Nat → Int32 → Int32 → Int32 → zMt → zNt → Option (Int64 × zMt × zNt)
  | 0, _, _, _, _, _ => none
  | n + 1, x1_79, x2_79, x3_79, M_79, N_79 =>
    if (M_79 (P + 17) 1) ≤ x3_79 then
      zB (D_X0_allOf (P + 187) N_79 x2_79) fun e_133 =>
      zB (D_X7_answerParts P e_133 M_79) fun e_136 =>
      some (e_136.1, e_136.2, N_79)
    else
      if (zrd 0 (M_79 (P + 21)) 10 x3_79) = x1_79 then
        D_X7_apart_121 P (D_X7_apart_79 P n) x1_79 (x2_79 ||| ((1 : Int32) <<< ((zrd 0 (M_79 (P + 170)) 10 x3_79) &&& 31))) x3_79 M_79 N_79
      else
        D_X7_apart_121 P (D_X7_apart_79 P n) x1_79 x2_79 x3_79 M_79 N_79
noncomputable def D_X7_apart (P : Nat) (v0 : Int32) (M : zMt) (N : zNt) : Option (Int64 × zMt × zNt) :=
  zB (D_X7_isParty P M v0) fun e_2 =>
  if e_2 = 0 then
    zB (D_X7_refuse P (2 : Int32) M) fun e_10 =>
    some ((Int32.toInt64 e_10.1), e_10.2, N)
  else
    zB (D_X4_take (P + 158) (P + 17) M) fun e_23 =>
    zB (D_X4_dissolve (P + 158) v0 e_23) fun e_31 =>
    zB (D_X2_gather (P + 166) (P + 158) e_31) fun e_42 =>
    if (e_42 (P + 166) 1) ≤ (7 : Int32) then
      zB (D_X0_reckon (P + 187) (P + 166) e_42 N) fun e_72 =>
      D_X7_apart_79 P zFu v0 (0 : Int32) (0 : Int32) e_72.1 e_72.2
    else
      zB (D_X7_refuse P (3 : Int32) e_42) fun e_59 =>
      some ((Int32.toInt64 e_59.1), e_59.2, N)
set_option maxRecDepth 100000 in
set_option maxHeartbeats 4000000 in
theorem t_X7_apart {l : Launch} {G : zG} {b : Nat} {L : List zC} {M : zMt} {N : zNt} {P : Nat} {v0 : Int32} (hP : LX7 L P) {r : Int64 × zMt × zNt} (h : D_X7_apart P v0 M N = some r) : zM l G b yX7_apart cX7_apart 4 (some .long) 14 0 0 [.ref P, .int v0] (L, M, N) (fun r2 z => r2 = some (.long r.1) ∧ z = (L, r.2.1, r.2.2)) := by
  refine zM.of miX7_apart (Nat.le_of_ble_eq_true rfl) ?_
  intro p e s m args below meth c X hr hname
  generalize hF : ((fun r2 z => r2 = some (.long r.1) ∧ z = (L, r.2.1, r.2.2)) : Option Value → zS → Prop) = FQ
  change Zw p l e { frames := 14, cells := 0, slots := 0, locals := 80 * (14) } s m args below meth c G b 4 (MQ below (zQ G b FQ) args s 0 0 (fun q : Nat => b ≤ q)) 0 0 0 [some (.ref P), some (.int v0), none, none] [] (L, M, N)
  have p_lt := hP.1
  have p_o := hP.2.1
  have p_list := hP.2.2.2.2.2.1
  have p_list_lt := p_list.1
  have p_list_o := p_list.2.1
  have p_list_party := p_list.2.2.2.2.2.1
  have p_trial := hP.2.2.2.2.2.2.2.2.2.2.2.1
  have p_trial_lt := p_trial.1
  have p_trial_o := p_trial.2.1
  have p_trialPool := hP.2.2.2.2.2.2.2.2.2.2.2.2.1
  have p_trialPool_lt := p_trialPool.1
  have p_trialPool_o := p_trialPool.2.1
  have p_trialPool_applicantOf := p_trialPool.2.2.2.2.2.1
  have p_trialOdds := hP.2.2.2.2.2.2.2.2.2.2.2.2.2.2
  have p_trialOdds_lt := p_trialOdds.1
  have p_trialOdds_o := p_trialOdds.2.1
  have L_79 : ∀ u : Nat, ∀ (x1_79 : Int32) (x2_79 : Int32) (x3_79 : Int32) (M_79 : zMt) (N_79 : zNt), D_X7_apart_79 P u x1_79 x2_79 x3_79 M_79 N_79 = some r → Zw p l e { frames := 14, cells := 0, slots := 0, locals := 80 * (14) } s m args below meth c G b 4 (MQ below (zQ G b FQ) args s 0 0 (fun q : Nat => b ≤ q)) 0 0 79 [some (.ref (P)), some (.int x1_79), some (.int x2_79), some (.int x3_79)] [] (L, M_79, N_79) := by
    intro u
    induction u with
    | zero => intro x1_79 x2_79 x3_79 M_79 N_79 h; cases (show none = some r from h)
    | succ u_79 ih_79 =>
      have J_121 : ∀ (x1_121 : Int32) (x2_121 : Int32) (x3_121 : Int32) (M_121 : zMt) (N_121 : zNt), D_X7_apart_121 P (D_X7_apart_79 P u_79) x1_121 x2_121 x3_121 M_121 N_121 = some r → Zw p l e { frames := 14, cells := 0, slots := 0, locals := 80 * (14) } s m args below meth c G b 4 (MQ below (zQ G b FQ) args s 0 0 (fun q : Nat => b ≤ q)) 0 0 121 [some (.ref (P)), some (.int x1_121), some (.int x2_121), some (.int x3_121)] [] (L, M_121, N_121) := by
        intro x1_121 x2_121 x3_121 M_121 N_121 h
        unfold D_X7_apart_121 at h
        refine a_iinc (v := x3_121 + 1) X dX7_apart_121 (by decide) rfl zi_1 ?_
        refine a_goto (tgt := 79) X dX7_apart_124 (by decide) ?_
        exact Zw.to2 (ih_79 _ _ _ _ _ h) rfl rfl rfl
      intro x1_79 x2_79 x3_79 M_79 N_79 h
      rw [D_X7_apart_79] at h
      refine a_iload_n X dX7_apart_79 rfl ?_
      refine a_aload_n X dX7_apart_80 rfl ?_
      refine a_getr X lf7_26 (by first | exact p_o | assumption) rfl (by omega) dX7_apart_81 ?_
      refine a_geti X lf7_119 (by first | exact p_list_o | assumption) rfl dX7_apart_84 ?_
      refine a_icmp_ge (tgt := 127) X dX7_apart_87 (by decide) (fun h_87 => ?_) (fun h_87 => ?_)
      · replace h := (if_pos h_87).symm.trans h
        refine a_aload_n X dX7_apart_127 rfl ?_
        refine a_aload_n X dX7_apart_128 rfl ?_
        refine a_getr X lf7_74 (by first | exact p_o | assumption) rfl (by omega) dX7_apart_129 ?_
        refine a_iload_n X dX7_apart_132 rfl ?_
        obtain ⟨e_133, f_133, h⟩ := zBx h
        refine a_callVv X dX7_apart_133 miX0_allOf lm7_319 (t_X0_allOf (by first | exact p_trialOdds | assumption) f_133) (by first | exact p_trialOdds_o | assumption) rfl rfl rfl (Nat.le_of_ble_eq_true rfl) ⟨by decide, by decide, by decide, by decide⟩ ?_
        obtain ⟨e_136, f_136, h⟩ := zBx h
        refine a_callVv X dX7_apart_136 miX7_answerParts lm7_303 (t_X7_answerParts (by first | exact hP | assumption) f_136) (by first | exact p_o | assumption) rfl rfl rfl (Nat.le_of_ble_eq_true rfl) ⟨by decide, by decide, by decide, by decide⟩ ?_
        refine a_lret X hr dX7_apart_139 ⟨by decide, by decide⟩ ?_
        subst hF
        rw [← Option.some.inj h]
        exact ⟨rfl, rfl⟩
      · replace h := (if_neg h_87).symm.trans h
        refine a_aload_n X dX7_apart_90 rfl ?_
        refine a_getr X lf7_26 (by first | exact p_o | assumption) rfl (by omega) dX7_apart_91 ?_
        refine a_getr X lf7_179 (by first | exact p_list_o | assumption) rfl (by omega) dX7_apart_94 ?_
        refine a_iload_n X dX7_apart_97 rfl ?_
        refine a_callSv X dX7_apart_98 miX7_cell lm7_175 (c_cell (by first | exact p_list_party | assumption) (by decide)) rfl rfl (Nat.le_of_ble_eq_true rfl) ⟨by decide, by decide, by decide, by decide⟩ ?_
        refine a_iload_n X dX7_apart_101 rfl ?_
        refine a_icmp_ne (tgt := 121) X dX7_apart_102 (by decide) (fun h_102 => ?_) (fun h_102 => ?_)
        · replace h := (if_neg h_102).symm.trans h
          exact Zw.to2 (J_121 _ _ _ _ _ h) rfl rfl rfl
        · replace h := (if_pos h_102).symm.trans h
          refine a_iload_n X dX7_apart_105 rfl ?_
          refine a_iconst (v := 1) X dX7_apart_106 (by decide) ?_
          refine a_aload_n X dX7_apart_107 rfl ?_
          refine a_getr X lf7_68 (by first | exact p_o | assumption) rfl (by omega) dX7_apart_108 ?_
          refine a_getr X lf7_182 (by first | exact p_trialPool_o | assumption) rfl (by omega) dX7_apart_111 ?_
          refine a_iload_n X dX7_apart_114 rfl ?_
          refine a_callSv X dX7_apart_115 miX7_cell lm7_175 (c_cell (by first | exact p_trialPool_applicantOf | assumption) (by decide)) rfl rfl (Nat.le_of_ble_eq_true rfl) ⟨by decide, by decide, by decide, by decide⟩ ?_
          refine a_ishl X dX7_apart_118 ?_
          refine a_ior X dX7_apart_119 ?_
          refine a_istore_n X dX7_apart_120 (by decide) ?_
          exact Zw.to2 (J_121 _ _ _ _ _ h) rfl rfl rfl
  have H_79 : ∀ (x1_79 : Int32) (x2_79 : Int32) (x3_79 : Int32) (M_79 : zMt) (N_79 : zNt), D_X7_apart_79 P zFu x1_79 x2_79 x3_79 M_79 N_79 = some r → Zw p l e { frames := 14, cells := 0, slots := 0, locals := 80 * (14) } s m args below meth c G b 4 (MQ below (zQ G b FQ) args s 0 0 (fun q : Nat => b ≤ q)) 0 0 79 [some (.ref (P)), some (.int x1_79), some (.int x2_79), some (.int x3_79)] [] (L, M_79, N_79) := L_79 zFu
  unfold D_X7_apart at h
  refine a_aload_n X dX7_apart_0 rfl ?_
  refine a_iload_n X dX7_apart_1 rfl ?_
  obtain ⟨e_2, f_2, h⟩ := zBx h
  refine a_callVx X dX7_apart_2 miX7_isParty lm7_362 (t_X7_isParty (by first | exact hP | assumption) f_2) (by first | exact p_o | assumption) rfl rfl rfl (Nat.le_of_ble_eq_true rfl) ⟨by decide, by decide, by decide, by decide⟩ (fun r_2 S_2 q_2 => ?_)
  obtain ⟨rfl, rfl, b_2⟩ := q_2
  refine a_if_ne (tgt := 15) X dX7_apart_5 (by decide) (fun h_5 => ?_) (fun h_5 => ?_)
  · replace h := (if_neg h_5).symm.trans h
    refine a_aload_n X dX7_apart_15 rfl ?_
    refine a_getr X lf7_65 (by first | exact p_o | assumption) rfl (by omega) dX7_apart_16 ?_
    refine a_aload_n X dX7_apart_19 rfl ?_
    refine a_getr X lf7_26 (by first | exact p_o | assumption) rfl (by omega) dX7_apart_20 ?_
    obtain ⟨e_23, f_23, h⟩ := zBx h
    refine a_callVu X dX7_apart_23 miX4_take lm7_113 (t_X4_take (by first | exact p_trial | assumption) (by first | exact p_list | assumption) (by omega) f_23) (by first | exact p_trial_o | assumption) rfl rfl rfl (Nat.le_of_ble_eq_true rfl) ⟨by decide, by decide, by decide, by decide⟩ ?_
    refine a_aload_n X dX7_apart_26 rfl ?_
    refine a_getr X lf7_65 (by first | exact p_o | assumption) rfl (by omega) dX7_apart_27 ?_
    refine a_iload_n X dX7_apart_30 rfl ?_
    obtain ⟨e_31, f_31, h⟩ := zBx h
    refine a_callVu X dX7_apart_31 miX4_dissolve lm7_365 (t_X4_dissolve (by first | exact p_trial | assumption) f_31) (by first | exact p_trial_o | assumption) rfl rfl rfl (Nat.le_of_ble_eq_true rfl) ⟨by decide, by decide, by decide, by decide⟩ ?_
    refine a_aload_n X dX7_apart_34 rfl ?_
    refine a_getr X lf7_68 (by first | exact p_o | assumption) rfl (by omega) dX7_apart_35 ?_
    refine a_aload_n X dX7_apart_38 rfl ?_
    refine a_getr X lf7_65 (by first | exact p_o | assumption) rfl (by omega) dX7_apart_39 ?_
    obtain ⟨e_42, f_42, h⟩ := zBx h
    refine a_callVu X dX7_apart_42 miX2_gather lm7_80 (t_X2_gather (by first | exact p_trialPool | assumption) (by first | exact p_trial | assumption) f_42) (by first | exact p_trialPool_o | assumption) rfl rfl rfl (Nat.le_of_ble_eq_true rfl) ⟨by decide, by decide, by decide, by decide⟩ ?_
    refine a_aload_n X dX7_apart_45 rfl ?_
    refine a_getr X lf7_68 (by first | exact p_o | assumption) rfl (by omega) dX7_apart_46 ?_
    refine a_geti X lf7_140 (by first | exact p_trialPool_o | assumption) rfl dX7_apart_49 ?_
    refine a_bipush (v := 7) X dX7_apart_52 (by decide) ?_
    refine a_icmp_le (tgt := 64) X dX7_apart_54 (by decide) (fun h_54 => ?_) (fun h_54 => ?_)
    · replace h := (if_pos h_54).symm.trans h
      refine a_aload_n X dX7_apart_64 rfl ?_
      refine a_getr X lf7_74 (by first | exact p_o | assumption) rfl (by omega) dX7_apart_65 ?_
      refine a_aload_n X dX7_apart_68 rfl ?_
      refine a_getr X lf7_68 (by first | exact p_o | assumption) rfl (by omega) dX7_apart_69 ?_
      obtain ⟨e_72, f_72, h⟩ := zBx h
      refine a_callVu X dX7_apart_72 miX0_reckon lm7_339 (t_X0_reckon (by first | exact p_trialOdds | assumption) (by first | exact p_trialPool | assumption) f_72) (by first | exact p_trialOdds_o | assumption) rfl rfl rfl (Nat.le_of_ble_eq_true rfl) ⟨by decide, by decide, by decide, by decide⟩ ?_
      refine a_iconst (v := 0) X dX7_apart_75 (by decide) ?_
      refine a_istore_n X dX7_apart_76 (by decide) ?_
      refine a_iconst (v := 0) X dX7_apart_77 (by decide) ?_
      refine a_istore_n X dX7_apart_78 (by decide) ?_
      exact Zw.to2 (H_79 _ _ _ _ _ h) rfl rfl rfl
    · replace h := (if_neg h_54).symm.trans h
      refine a_aload_n X dX7_apart_57 rfl ?_
      refine a_iconst (v := 3) X dX7_apart_58 (by decide) ?_
      obtain ⟨e_59, f_59, h⟩ := zBx h
      refine a_callVv X dX7_apart_59 miX7_refuse lm7_102 (t_X7_refuse (by first | exact hP | assumption) f_59) (by first | exact p_o | assumption) rfl rfl rfl (Nat.le_of_ble_eq_true rfl) ⟨by decide, by decide, by decide, by decide⟩ ?_
      refine a_i2l X dX7_apart_62 ?_
      refine a_lret X hr dX7_apart_63 ⟨by decide, by decide⟩ ?_
      subst hF
      rw [← Option.some.inj h]
      exact ⟨rfl, rfl⟩
  · replace h := (if_pos h_5).symm.trans h
    refine a_aload_n X dX7_apart_8 rfl ?_
    refine a_iconst (v := 2) X dX7_apart_9 (by decide) ?_
    obtain ⟨e_10, f_10, h⟩ := zBx h
    refine a_callVv X dX7_apart_10 miX7_refuse lm7_102 (t_X7_refuse (by first | exact hP | assumption) f_10) (by first | exact p_o | assumption) rfl rfl rfl (Nat.le_of_ble_eq_true rfl) ⟨by decide, by decide, by decide, by decide⟩ ?_
    refine a_i2l X dX7_apart_13 ?_
    refine a_lret X hr dX7_apart_14 ⟨by decide, by decide⟩ ?_
    subst hF
    rw [← Option.some.inj h]
    exact ⟨rfl, rfl⟩
noncomputable def D_X7_likes_112 (P : Nat) (k52 : Int32 → Int32 → Int64 → Int32 → zMt → zNt → Option (Int32 × zMt × zNt)) (x1_112 : Int32) (x2_112 : Int32) (x3_112 : Int64) (x5_112 : Int32) (M_112 : zMt) (N_112 : zNt) : Option (Int32 × zMt × zNt) :=
  k52 x1_112 x2_112 x3_112 (x5_112 + 1) M_112 N_112
noncomputable def D_X7_likes_52 (P : Nat) : Nat → Int32 → Int32 → Int64 → Int32 → zMt → zNt → Option (Int32 × zMt × zNt)
  | 0, _, _, _, _, _, _ => none
  | n + 1, x1_52, x2_52, x3_52, x5_52, M_52, N_52 =>
    if (2 : Int32) < x5_52 then
      zB (D_X7_answer P x2_52 M_52) fun e_120 =>
      some (e_120.1, e_120.2, N_52)
    else
      zLt (zu M_52 (P + 158) 3 x5_52) fun M_64 =>
      zB (D_X2_gather (P + 166) (P + 158) M_64) fun e_75 =>
      zB (D_X0_reckon (P + 187) (P + 166) e_75 N_52) fun e_86 =>
      zB (D_X0_anyUnit (P + 187) e_86.2 x1_52) fun e_94 =>
      if (lg_cmp e_94 x3_52) ≤ 0 then
        D_X7_likes_112 P (D_X7_likes_52 P n) x1_52 x2_52 x3_52 x5_52 e_86.1 e_86.2
      else
        D_X7_likes_112 P (D_X7_likes_52 P n) x1_52 x5_52 e_94 x5_52 e_86.1 e_86.2
noncomputable def D_X7_likes (P : Nat) (v0 : Int32) (M : zMt) (N : zNt) : Option (Int32 × zMt × zNt) :=
  zB (D_X7_isApplicant P M v0) fun e_2 =>
  if e_2 = 0 then
    zB (D_X7_refuse P (2 : Int32) M) fun e_10 =>
    some (e_10.1, e_10.2, N)
  else
    if (M (P + 91) 1) ≤ (7 : Int32) then
      zB (D_X4_take (P + 158) (P + 17) M) fun e_46 =>
      D_X7_likes_52 P zFu v0 (0 : Int32) (-1 : Int64) (0 : Int32) e_46 N
    else
      zB (D_X7_refuse P (3 : Int32) M) fun e_28 =>
      some (e_28.1, e_28.2, N)
set_option maxRecDepth 100000 in
set_option maxHeartbeats 4000000 in
theorem t_X7_likes {l : Launch} {G : zG} {b : Nat} {L : List zC} {M : zMt} {N : zNt} {P : Nat} {v0 : Int32} (hP : LX7 L P) {r : Int32 × zMt × zNt} (h : D_X7_likes P v0 M N = some r) : zM l G b yX7_likes cX7_likes 8 (some .int) 14 0 0 [.ref P, .int v0] (L, M, N) (fun r2 z => r2 = some (.int r.1) ∧ z = (L, r.2.1, r.2.2)) := by
  refine zM.of miX7_likes (Nat.le_of_ble_eq_true rfl) ?_
  intro p e s m args below meth c X hr hname
  generalize hF : ((fun r2 z => r2 = some (.int r.1) ∧ z = (L, r.2.1, r.2.2)) : Option Value → zS → Prop) = FQ
  change Zw p l e { frames := 14, cells := 0, slots := 0, locals := 80 * (14) } s m args below meth c G b 8 (MQ below (zQ G b FQ) args s 0 0 (fun q : Nat => b ≤ q)) 0 0 0 [some (.ref P), some (.int v0), none, none, none, none, none, none] [] (L, M, N)
  have p_lt := hP.1
  have p_o := hP.2.1
  have p_list := hP.2.2.2.2.2.1
  have p_list_lt := p_list.1
  have p_list_o := p_list.2.1
  have p_pool := hP.2.2.2.2.2.2.2.1
  have p_pool_lt := p_pool.1
  have p_pool_o := p_pool.2.1
  have p_trial := hP.2.2.2.2.2.2.2.2.2.2.2.1
  have p_trial_lt := p_trial.1
  have p_trial_o := p_trial.2.1
  have p_trialPool := hP.2.2.2.2.2.2.2.2.2.2.2.2.1
  have p_trialPool_lt := p_trialPool.1
  have p_trialPool_o := p_trialPool.2.1
  have p_trialOdds := hP.2.2.2.2.2.2.2.2.2.2.2.2.2.2
  have p_trialOdds_lt := p_trialOdds.1
  have p_trialOdds_o := p_trialOdds.2.1
  have L_52 : ∀ u : Nat, ∀ (x1_52 : Int32) (x2_52 : Int32) (x3_52 : Int64) (x5_52 : Int32) (x6_52 : Option Value) (x7_52 : Option Value) (M_52 : zMt) (N_52 : zNt), D_X7_likes_52 P u x1_52 x2_52 x3_52 x5_52 M_52 N_52 = some r → Zw p l e { frames := 14, cells := 0, slots := 0, locals := 80 * (14) } s m args below meth c G b 8 (MQ below (zQ G b FQ) args s 0 0 (fun q : Nat => b ≤ q)) 0 0 52 [some (.ref (P)), some (.int x1_52), some (.int x2_52), some (.long x3_52), none, some (.int x5_52), x6_52, x7_52] [] (L, M_52, N_52) := by
    intro u
    induction u with
    | zero => intro x1_52 x2_52 x3_52 x5_52 x6_52 x7_52 M_52 N_52 h; cases (show none = some r from h)
    | succ u_52 ih_52 =>
      have J_112 : ∀ (x1_112 : Int32) (x2_112 : Int32) (x3_112 : Int64) (x5_112 : Int32) (x6_112 : Int64) (M_112 : zMt) (N_112 : zNt), D_X7_likes_112 P (D_X7_likes_52 P u_52) x1_112 x2_112 x3_112 x5_112 M_112 N_112 = some r → Zw p l e { frames := 14, cells := 0, slots := 0, locals := 80 * (14) } s m args below meth c G b 8 (MQ below (zQ G b FQ) args s 0 0 (fun q : Nat => b ≤ q)) 0 0 112 [some (.ref (P)), some (.int x1_112), some (.int x2_112), some (.long x3_112), none, some (.int x5_112), some (.long x6_112), none] [] (L, M_112, N_112) := by
        intro x1_112 x2_112 x3_112 x5_112 x6_112 M_112 N_112 h
        unfold D_X7_likes_112 at h
        refine a_iinc (v := x5_112 + 1) X dX7_likes_112 (by decide) rfl zi_1 ?_
        refine a_goto (tgt := 52) X dX7_likes_115 (by decide) ?_
        exact Zw.to2 (ih_52 _ _ _ _ _ _ _ _ h) rfl rfl rfl
      intro x1_52 x2_52 x3_52 x5_52 x6_52 x7_52 M_52 N_52 h
      rw [D_X7_likes_52] at h
      refine a_iload X dX7_likes_52 rfl ?_
      refine a_iconst (v := 2) X dX7_likes_54 (by decide) ?_
      refine a_icmp_gt (tgt := 118) X dX7_likes_55 (by decide) (fun h_55 => ?_) (fun h_55 => ?_)
      · replace h := (if_pos h_55).symm.trans h
        refine a_aload_n X dX7_likes_118 rfl ?_
        refine a_iload_n X dX7_likes_119 rfl ?_
        obtain ⟨e_120, f_120, h⟩ := zBx h
        refine a_callVv X dX7_likes_120 miX7_answer lm7_134 (t_X7_answer (by first | exact hP | assumption) f_120) (by first | exact p_o | assumption) rfl rfl rfl (Nat.le_of_ble_eq_true rfl) ⟨by decide, by decide, by decide, by decide⟩ ?_
        refine a_iret X hr dX7_likes_123 ⟨by decide, by decide⟩ ?_
        subst hF
        rw [← Option.some.inj h]
        exact ⟨rfl, rfl⟩
      · replace h := (if_neg h_55).symm.trans h
        refine a_aload_n X dX7_likes_58 rfl ?_
        refine a_getr X lf7_65 (by first | exact p_o | assumption) rfl (by omega) dX7_likes_59 ?_
        refine a_iload X dX7_likes_62 rfl ?_
        obtain ⟨M_64, f_64, h⟩ := zLtx h
        refine d_puti X lf7_143 (by first | exact p_trial_o | assumption) rfl dX7_likes_64 f_64 ?_
        refine a_aload_n X dX7_likes_67 rfl ?_
        refine a_getr X lf7_68 (by first | exact p_o | assumption) rfl (by omega) dX7_likes_68 ?_
        refine a_aload_n X dX7_likes_71 rfl ?_
        refine a_getr X lf7_65 (by first | exact p_o | assumption) rfl (by omega) dX7_likes_72 ?_
        obtain ⟨e_75, f_75, h⟩ := zBx h
        refine a_callVu X dX7_likes_75 miX2_gather lm7_80 (t_X2_gather (by first | exact p_trialPool | assumption) (by first | exact p_trial | assumption) f_75) (by first | exact p_trialPool_o | assumption) rfl rfl rfl (Nat.le_of_ble_eq_true rfl) ⟨by decide, by decide, by decide, by decide⟩ ?_
        refine a_aload_n X dX7_likes_78 rfl ?_
        refine a_getr X lf7_74 (by first | exact p_o | assumption) rfl (by omega) dX7_likes_79 ?_
        refine a_aload_n X dX7_likes_82 rfl ?_
        refine a_getr X lf7_68 (by first | exact p_o | assumption) rfl (by omega) dX7_likes_83 ?_
        obtain ⟨e_86, f_86, h⟩ := zBx h
        refine a_callVu X dX7_likes_86 miX0_reckon lm7_339 (t_X0_reckon (by first | exact p_trialOdds | assumption) (by first | exact p_trialPool | assumption) f_86) (by first | exact p_trialOdds_o | assumption) rfl rfl rfl (Nat.le_of_ble_eq_true rfl) ⟨by decide, by decide, by decide, by decide⟩ ?_
        refine a_aload_n X dX7_likes_89 rfl ?_
        refine a_getr X lf7_74 (by first | exact p_o | assumption) rfl (by omega) dX7_likes_90 ?_
        refine a_iload_n X dX7_likes_93 rfl ?_
        obtain ⟨e_94, f_94, h⟩ := zBx h
        refine a_callVv X dX7_likes_94 miX0_anyUnit lm7_299 (t_X0_anyUnit (by first | exact p_trialOdds | assumption) f_94) (by first | exact p_trialOdds_o | assumption) rfl rfl rfl (Nat.le_of_ble_eq_true rfl) ⟨by decide, by decide, by decide, by decide⟩ ?_
        refine a_lstore X dX7_likes_97 (by decide) ?_
        refine a_lload X dX7_likes_99 rfl ?_
        refine a_lload_n X dX7_likes_101 rfl ?_
        refine a_lcmp X dX7_likes_102 ?_
        refine a_if_le (tgt := 112) X dX7_likes_103 (by decide) (fun h_103 => ?_) (fun h_103 => ?_)
        · replace h := (if_pos h_103).symm.trans h
          exact Zw.to2 (J_112 _ _ _ _ _ _ _ h) rfl rfl rfl
        · replace h := (if_neg h_103).symm.trans h
          refine a_lload X dX7_likes_106 rfl ?_
          refine a_lstore_n X dX7_likes_108 (by decide) ?_
          refine a_iload X dX7_likes_109 rfl ?_
          refine a_istore_n X dX7_likes_111 (by decide) ?_
          exact Zw.to2 (J_112 _ _ _ _ _ _ _ h) rfl rfl rfl
  have H_52 : ∀ (x1_52 : Int32) (x2_52 : Int32) (x3_52 : Int64) (x5_52 : Int32) (x6_52 : Option Value) (x7_52 : Option Value) (M_52 : zMt) (N_52 : zNt), D_X7_likes_52 P zFu x1_52 x2_52 x3_52 x5_52 M_52 N_52 = some r → Zw p l e { frames := 14, cells := 0, slots := 0, locals := 80 * (14) } s m args below meth c G b 8 (MQ below (zQ G b FQ) args s 0 0 (fun q : Nat => b ≤ q)) 0 0 52 [some (.ref (P)), some (.int x1_52), some (.int x2_52), some (.long x3_52), none, some (.int x5_52), x6_52, x7_52] [] (L, M_52, N_52) := L_52 zFu
  unfold D_X7_likes at h
  refine a_aload_n X dX7_likes_0 rfl ?_
  refine a_iload_n X dX7_likes_1 rfl ?_
  obtain ⟨e_2, f_2, h⟩ := zBx h
  refine a_callVx X dX7_likes_2 miX7_isApplicant lm7_206 (t_X7_isApplicant (by first | exact hP | assumption) f_2) (by first | exact p_o | assumption) rfl rfl rfl (Nat.le_of_ble_eq_true rfl) ⟨by decide, by decide, by decide, by decide⟩ (fun r_2 S_2 q_2 => ?_)
  obtain ⟨rfl, rfl, b_2⟩ := q_2
  refine a_if_ne (tgt := 14) X dX7_likes_5 (by decide) (fun h_5 => ?_) (fun h_5 => ?_)
  · replace h := (if_neg h_5).symm.trans h
    refine a_aload_n X dX7_likes_14 rfl ?_
    refine a_getr X lf7_40 (by first | exact p_o | assumption) rfl (by omega) dX7_likes_15 ?_
    refine a_geti X lf7_140 (by first | exact p_pool_o | assumption) rfl dX7_likes_18 ?_
    refine a_bipush (v := 7) X dX7_likes_21 (by decide) ?_
    refine a_icmp_le (tgt := 32) X dX7_likes_23 (by decide) (fun h_23 => ?_) (fun h_23 => ?_)
    · replace h := (if_pos h_23).symm.trans h
      refine a_iconst (v := 0) X dX7_likes_32 (by decide) ?_
      refine a_istore_n X dX7_likes_33 (by decide) ?_
      refine a_ldc2 X dX7_likes_34 lk7_347 ?_
      refine a_lstore_n X dX7_likes_37 (by decide) ?_
      refine a_aload_n X dX7_likes_38 rfl ?_
      refine a_getr X lf7_65 (by first | exact p_o | assumption) rfl (by omega) dX7_likes_39 ?_
      refine a_aload_n X dX7_likes_42 rfl ?_
      refine a_getr X lf7_26 (by first | exact p_o | assumption) rfl (by omega) dX7_likes_43 ?_
      obtain ⟨e_46, f_46, h⟩ := zBx h
      refine a_callVu X dX7_likes_46 miX4_take lm7_113 (t_X4_take (by first | exact p_trial | assumption) (by first | exact p_list | assumption) (by omega) f_46) (by first | exact p_trial_o | assumption) rfl rfl rfl (Nat.le_of_ble_eq_true rfl) ⟨by decide, by decide, by decide, by decide⟩ ?_
      refine a_iconst (v := 0) X dX7_likes_49 (by decide) ?_
      refine a_istore X dX7_likes_50 (by decide) ?_
      exact Zw.to2 (H_52 _ _ _ _ _ _ _ _ h) rfl rfl rfl
    · replace h := (if_neg h_23).symm.trans h
      refine a_aload_n X dX7_likes_26 rfl ?_
      refine a_iconst (v := 3) X dX7_likes_27 (by decide) ?_
      obtain ⟨e_28, f_28, h⟩ := zBx h
      refine a_callVv X dX7_likes_28 miX7_refuse lm7_102 (t_X7_refuse (by first | exact hP | assumption) f_28) (by first | exact p_o | assumption) rfl rfl rfl (Nat.le_of_ble_eq_true rfl) ⟨by decide, by decide, by decide, by decide⟩ ?_
      refine a_iret X hr dX7_likes_31 ⟨by decide, by decide⟩ ?_
      subst hF
      rw [← Option.some.inj h]
      exact ⟨rfl, rfl⟩
  · replace h := (if_pos h_5).symm.trans h
    refine a_aload_n X dX7_likes_8 rfl ?_
    refine a_iconst (v := 2) X dX7_likes_9 (by decide) ?_
    obtain ⟨e_10, f_10, h⟩ := zBx h
    refine a_callVv X dX7_likes_10 miX7_refuse lm7_102 (t_X7_refuse (by first | exact hP | assumption) f_10) (by first | exact p_o | assumption) rfl rfl rfl (Nat.le_of_ble_eq_true rfl) ⟨by decide, by decide, by decide, by decide⟩ ?_
    refine a_iret X hr dX7_likes_13 ⟨by decide, by decide⟩ ?_
    subst hF
    rw [← Option.some.inj h]
    exact ⟨rfl, rfl⟩
noncomputable def D_X7_areYears_32  (y0_32 : Int32) : Option (Int32) :=
  some (y0_32)
noncomputable def D_X7_areYears_31   : Option (Int32) :=
  D_X7_areYears_32 (0 : Int32)
noncomputable def D_X7_areYears  (v0 : Int32) (v1 : Int32) : Option (Int32) :=
  zB (D_X7_isSeed v0) fun e_1 =>
  if e_1 = 0 then
    D_X7_areYears_31
  else
    if v1 < (1 : Int32) then
      D_X7_areYears_31
    else
      if (30 : Int32) < v1 then
        D_X7_areYears_31
      else
        if ((999999999 : Int32) - v1) < v0 then
          D_X7_areYears_31
        else
          D_X7_areYears_32 (1 : Int32)
set_option maxRecDepth 100000 in
set_option maxHeartbeats 4000000 in
theorem t_X7_areYears {l : Launch} {G : zG} {b : Nat} {L : List zC} {M : zMt} {N : zNt}  {v0 : Int32} {v1 : Int32}  {r : Int32} (h : D_X7_areYears v0 v1 = some r) : zM l G b yX7_areYears cX7_areYears 2 (some .boolean) 1 0 0 [.int v0, .int v1] (L, M, N) (fun r2 z => r2 = some (.int r) ∧ z = (L, M, N) ∧ (r = 0 ∨ r = 1)) := by
  refine zM.of miX7_areYears (Nat.le_of_ble_eq_true rfl) ?_
  intro p e s m args below meth c X hr hname
  generalize hF : ((fun r2 z => r2 = some (.int r) ∧ z = (L, M, N) ∧ (r = 0 ∨ r = 1)) : Option Value → zS → Prop) = FQ
  change Zw p l e { frames := 1, cells := 0, slots := 0, locals := 80 * (1) } s m args below meth c G b 2 (MQ below (zQ G b FQ) args s 0 0 (fun q : Nat => b ≤ q)) 0 0 0 [some (.int v0), some (.int v1)] [] (L, M, N)
  have J_32 : ∀ (x0_32 : Int32) (x1_32 : Int32) (y0_32 : Int32), (y0_32 = 0 ∨ y0_32 = 1) → D_X7_areYears_32 y0_32 = some r → Zw p l e { frames := 1, cells := 0, slots := 0, locals := 80 * (1) } s m args below meth c G b 2 (MQ below (zQ G b FQ) args s 0 0 (fun q : Nat => b ≤ q)) 0 0 32 [some (.int x0_32), some (.int x1_32)] [.int y0_32] (L, M, N) := by
    intro x0_32 x1_32 y0_32 fb_y0_32 h
    unfold D_X7_areYears_32 at h
    refine a_zret X (by first | exact Or.inl rfl | exact Or.inr rfl | assumption) hr dX7_areYears_32 ⟨by decide, by decide⟩ ?_
    subst hF
    rw [← Option.some.inj h]
    exact ⟨rfl, rfl, (by first | exact Or.inl rfl | exact Or.inr rfl | assumption)⟩
  have J_31 : ∀ (x0_31 : Int32) (x1_31 : Int32), D_X7_areYears_31 = some r → Zw p l e { frames := 1, cells := 0, slots := 0, locals := 80 * (1) } s m args below meth c G b 2 (MQ below (zQ G b FQ) args s 0 0 (fun q : Nat => b ≤ q)) 0 0 31 [some (.int x0_31), some (.int x1_31)] [] (L, M, N) := by
    intro x0_31 x1_31 h
    unfold D_X7_areYears_31 at h
    refine a_iconst (v := 0) X dX7_areYears_31 (by decide) ?_
    exact Zw.to2 (J_32 _ _ _ (by first | exact Or.inl rfl | exact Or.inr rfl | assumption) h) rfl rfl rfl
  unfold D_X7_areYears at h
  refine a_iload_n X dX7_areYears_0 rfl ?_
  obtain ⟨e_1, f_1, h⟩ := zBx h
  refine a_callSx X dX7_areYears_1 miX7_isSeed lm7_237 (t_X7_isSeed f_1) rfl rfl (Nat.le_of_ble_eq_true rfl) ⟨by decide, by decide, by decide, by decide⟩ (fun r_1 S_1 q_1 => ?_)
  obtain ⟨rfl, rfl, b_1⟩ := q_1
  refine a_if_eq (tgt := 31) X dX7_areYears_4 (by decide) (fun h_4 => ?_) (fun h_4 => ?_)
  · replace h := (if_pos h_4).symm.trans h
    exact Zw.to2 (J_31 _ _ h) rfl rfl rfl
  · replace h := (if_neg h_4).symm.trans h
    refine a_iload_n X dX7_areYears_7 rfl ?_
    refine a_iconst (v := 1) X dX7_areYears_8 (by decide) ?_
    refine a_icmp_lt (tgt := 31) X dX7_areYears_9 (by decide) (fun h_9 => ?_) (fun h_9 => ?_)
    · replace h := (if_pos h_9).symm.trans h
      exact Zw.to2 (J_31 _ _ h) rfl rfl rfl
    · replace h := (if_neg h_9).symm.trans h
      refine a_iload_n X dX7_areYears_12 rfl ?_
      refine a_bipush (v := 30) X dX7_areYears_13 (by decide) ?_
      refine a_icmp_gt (tgt := 31) X dX7_areYears_15 (by decide) (fun h_15 => ?_) (fun h_15 => ?_)
      · replace h := (if_pos h_15).symm.trans h
        exact Zw.to2 (J_31 _ _ h) rfl rfl rfl
      · replace h := (if_neg h_15).symm.trans h
        refine a_iload_n X dX7_areYears_18 rfl ?_
        refine a_ldcw X dX7_areYears_19 lk7_395 ?_
        refine a_iload_n X dX7_areYears_22 rfl ?_
        refine a_isub X dX7_areYears_23 ?_
        refine a_icmp_gt (tgt := 31) X dX7_areYears_24 (by decide) (fun h_24 => ?_) (fun h_24 => ?_)
        · replace h := (if_pos h_24).symm.trans h
          exact Zw.to2 (J_31 _ _ h) rfl rfl rfl
        · replace h := (if_neg h_24).symm.trans h
          refine a_iconst (v := 1) X dX7_areYears_27 (by decide) ?_
          refine a_goto (tgt := 32) X dX7_areYears_28 (by decide) ?_
          exact Zw.to2 (J_32 _ _ _ (by first | exact Or.inl rfl | exact Or.inr rfl | assumption) h) rfl rfl rfl
noncomputable def D_X7_years_17 (P : Nat) (M_17 : zMt) : Option (Int32 × zMt) :=
  zB (D_X7_refuse P (1 : Int32) M_17) fun e_19 =>
  some (e_19.1, e_19.2)
noncomputable def D_X7_years (P : Nat) (v0 : Int32) (v1 : Int32) (v2 : Int32) (M : zMt) : Option (Int32 × zMt) :=
  zB (D_X7_areYears v0 v1) fun e_2 =>
  if e_2 = 0 then
    D_X7_years_17 P M
  else
    if v2 < 0 then
      D_X7_years_17 P M
    else
      if v2 ≤ (2 : Int32) then
        zB (D_X6_pass (P + 125) (P + 17) v0 v1 M) fun e_33 =>
        if Int32.toInt v2 = 0 then
          zB (D_X7_answer P (e_33 (P + 125) 0) e_33) fun e_72 =>
          some (e_72.1, e_72.2)
        else if Int32.toInt v2 = 1 then
          zB (D_X6_unserved (P + 125) e_33 (e_33 (P + 17) 1)) fun e_88 =>
          zB (D_X7_answer P e_88 e_33) fun e_91 =>
          some (e_91.1, e_91.2)
        else
          zB (D_X7_answer P (e_33 (P + 125) 1) e_33) fun e_103 =>
          some (e_103.1, e_103.2)
      else
        D_X7_years_17 P M
set_option maxRecDepth 100000 in
set_option maxHeartbeats 4000000 in
theorem t_X7_years {l : Launch} {G : zG} {b : Nat} {L : List zC} {M : zMt} {N : zNt} {P : Nat} {v0 : Int32} {v1 : Int32} {v2 : Int32} (hP : LX7 L P) {r : Int32 × zMt} (h : D_X7_years P v0 v1 v2 M = some r) : zM l G b yX7_years cX7_years 4 (some .int) 6 0 0 [.ref P, .int v0, .int v1, .int v2] (L, M, N) (fun r2 z => r2 = some (.int r.1) ∧ z = (L, r.2, N)) := by
  refine zM.of miX7_years (Nat.le_of_ble_eq_true rfl) ?_
  intro p e s m args below meth c X hr hname
  generalize hF : ((fun r2 z => r2 = some (.int r.1) ∧ z = (L, r.2, N)) : Option Value → zS → Prop) = FQ
  change Zw p l e { frames := 6, cells := 0, slots := 0, locals := 80 * (6) } s m args below meth c G b 4 (MQ below (zQ G b FQ) args s 0 0 (fun q : Nat => b ≤ q)) 0 0 0 [some (.ref P), some (.int v0), some (.int v1), some (.int v2)] [] (L, M, N)
  have p_lt := hP.1
  have p_o := hP.2.1
  have p_list := hP.2.2.2.2.2.1
  have p_list_lt := p_list.1
  have p_list_o := p_list.2.1
  have p_paper := hP.2.2.2.2.2.2.2.2.2.2.1
  have p_paper_lt := p_paper.1
  have p_paper_o := p_paper.2.1
  have J_17 : ∀ (x1_17 : Int32) (x2_17 : Int32) (x3_17 : Int32) (M_17 : zMt), D_X7_years_17 P M_17 = some r → Zw p l e { frames := 6, cells := 0, slots := 0, locals := 80 * (6) } s m args below meth c G b 4 (MQ below (zQ G b FQ) args s 0 0 (fun q : Nat => b ≤ q)) 0 0 17 [some (.ref (P)), some (.int x1_17), some (.int x2_17), some (.int x3_17)] [] (L, M_17, N) := by
    intro x1_17 x2_17 x3_17 M_17 h
    unfold D_X7_years_17 at h
    refine a_aload_n X dX7_years_17 rfl ?_
    refine a_iconst (v := 1) X dX7_years_18 (by decide) ?_
    obtain ⟨e_19, f_19, h⟩ := zBx h
    refine a_callVv X dX7_years_19 miX7_refuse lm7_102 (t_X7_refuse (by first | exact hP | assumption) f_19) (by first | exact p_o | assumption) rfl rfl rfl (Nat.le_of_ble_eq_true rfl) ⟨by decide, by decide, by decide, by decide⟩ ?_
    refine a_iret X hr dX7_years_22 ⟨by decide, by decide⟩ ?_
    subst hF
    rw [← Option.some.inj h]
    exact ⟨rfl, rfl⟩
  unfold D_X7_years at h
  refine a_iload_n X dX7_years_0 rfl ?_
  refine a_iload_n X dX7_years_1 rfl ?_
  obtain ⟨e_2, f_2, h⟩ := zBx h
  refine a_callSx X dX7_years_2 miX7_areYears lm7_372 (t_X7_areYears f_2) rfl rfl (Nat.le_of_ble_eq_true rfl) ⟨by decide, by decide, by decide, by decide⟩ (fun r_2 S_2 q_2 => ?_)
  obtain ⟨rfl, rfl, b_2⟩ := q_2
  refine a_if_eq (tgt := 17) X dX7_years_5 (by decide) (fun h_5 => ?_) (fun h_5 => ?_)
  · replace h := (if_pos h_5).symm.trans h
    exact Zw.to2 (J_17 _ _ _ _ h) rfl rfl rfl
  · replace h := (if_neg h_5).symm.trans h
    refine a_iload_n X dX7_years_8 rfl ?_
    refine a_if_lt (tgt := 17) X dX7_years_9 (by decide) (fun h_9 => ?_) (fun h_9 => ?_)
    · replace h := (if_pos h_9).symm.trans h
      exact Zw.to2 (J_17 _ _ _ _ h) rfl rfl rfl
    · replace h := (if_neg h_9).symm.trans h
      refine a_iload_n X dX7_years_12 rfl ?_
      refine a_iconst (v := 2) X dX7_years_13 (by decide) ?_
      refine a_icmp_le (tgt := 23) X dX7_years_14 (by decide) (fun h_14 => ?_) (fun h_14 => ?_)
      · replace h := (if_pos h_14).symm.trans h
        refine a_aload_n X dX7_years_23 rfl ?_
        refine a_getr X lf7_61 (by first | exact p_o | assumption) rfl (by omega) dX7_years_24 ?_
        refine a_aload_n X dX7_years_27 rfl ?_
        refine a_getr X lf7_26 (by first | exact p_o | assumption) rfl (by omega) dX7_years_28 ?_
        refine a_iload_n X dX7_years_31 rfl ?_
        refine a_iload_n X dX7_years_32 rfl ?_
        obtain ⟨e_33, f_33, h⟩ := zBx h
        refine a_callVu X dX7_years_33 miX6_pass lm7_376 (t_X6_pass (by first | exact p_paper | assumption) (by first | exact p_list | assumption) (by omega) f_33) (by first | exact p_paper_o | assumption) rfl rfl rfl (Nat.le_of_ble_eq_true rfl) ⟨by decide, by decide, by decide, by decide⟩ ?_
        refine a_iload_n X dX7_years_36 rfl ?_
        refine a_lsw2 (t1 := 64) (t2 := 76) (td := 95) X dX7_years_37 rfl (by decide) (by decide) (by decide) (by decide) (fun h_37 => ?_) (fun g_37 h_37 => ?_) (fun f_37 g_37 => ?_)
        · replace h := (if_pos h_37).symm.trans h
          refine a_aload_n X dX7_years_64 rfl ?_
          refine a_aload_n X dX7_years_65 rfl ?_
          refine a_getr X lf7_61 (by first | exact p_o | assumption) rfl (by omega) dX7_years_66 ?_
          refine a_geti X lf7_380 (by first | exact p_paper_o | assumption) rfl dX7_years_69 ?_
          obtain ⟨e_72, f_72, h⟩ := zBx h
          refine a_callVv X dX7_years_72 miX7_answer lm7_134 (t_X7_answer (by first | exact hP | assumption) f_72) (by first | exact p_o | assumption) rfl rfl rfl (Nat.le_of_ble_eq_true rfl) ⟨by decide, by decide, by decide, by decide⟩ ?_
          refine a_iret X hr dX7_years_75 ⟨by decide, by decide⟩ ?_
          subst hF
          rw [← Option.some.inj h]
          exact ⟨rfl, rfl⟩
        · replace h := (if_neg g_37).symm.trans h
          replace h := (if_pos h_37).symm.trans h
          refine a_aload_n X dX7_years_76 rfl ?_
          refine a_aload_n X dX7_years_77 rfl ?_
          refine a_getr X lf7_61 (by first | exact p_o | assumption) rfl (by omega) dX7_years_78 ?_
          refine a_aload_n X dX7_years_81 rfl ?_
          refine a_getr X lf7_26 (by first | exact p_o | assumption) rfl (by omega) dX7_years_82 ?_
          refine a_geti X lf7_119 (by first | exact p_list_o | assumption) rfl dX7_years_85 ?_
          obtain ⟨e_88, f_88, h⟩ := zBx h
          refine a_callVv X dX7_years_88 miX6_unserved lm7_383 (t_X6_unserved (by first | exact p_paper | assumption) f_88) (by first | exact p_paper_o | assumption) rfl rfl rfl (Nat.le_of_ble_eq_true rfl) ⟨by decide, by decide, by decide, by decide⟩ ?_
          obtain ⟨e_91, f_91, h⟩ := zBx h
          refine a_callVv X dX7_years_91 miX7_answer lm7_134 (t_X7_answer (by first | exact hP | assumption) f_91) (by first | exact p_o | assumption) rfl rfl rfl (Nat.le_of_ble_eq_true rfl) ⟨by decide, by decide, by decide, by decide⟩ ?_
          refine a_iret X hr dX7_years_94 ⟨by decide, by decide⟩ ?_
          subst hF
          rw [← Option.some.inj h]
          exact ⟨rfl, rfl⟩
        · replace h := (if_neg f_37).symm.trans h
          replace h := (if_neg g_37).symm.trans h
          refine a_aload_n X dX7_years_95 rfl ?_
          refine a_aload_n X dX7_years_96 rfl ?_
          refine a_getr X lf7_61 (by first | exact p_o | assumption) rfl (by omega) dX7_years_97 ?_
          refine a_geti X lf7_386 (by first | exact p_paper_o | assumption) rfl dX7_years_100 ?_
          obtain ⟨e_103, f_103, h⟩ := zBx h
          refine a_callVv X dX7_years_103 miX7_answer lm7_134 (t_X7_answer (by first | exact hP | assumption) f_103) (by first | exact p_o | assumption) rfl rfl rfl (Nat.le_of_ble_eq_true rfl) ⟨by decide, by decide, by decide, by decide⟩ ?_
          refine a_iret X hr dX7_years_106 ⟨by decide, by decide⟩ ?_
          subst hF
          rw [← Option.some.inj h]
          exact ⟨rfl, rfl⟩
      · replace h := (if_neg h_14).symm.trans h
        exact Zw.to2 (J_17 _ _ _ _ h) rfl rfl rfl
noncomputable def D_X7_often (P : Nat) (v0 : Int32) (v1 : Int32) (v2 : Int32) (M : zMt) : Option (Int32 × zMt) :=
  zB (D_X7_areYears v0 v1) fun e_2 =>
  if e_2 = 0 then
    zB (D_X7_refuse P (1 : Int32) M) fun e_10 =>
    some (e_10.1, e_10.2)
  else
    zB (D_X7_isHunter P M v2) fun e_16 =>
    if e_16 = 0 then
      zB (D_X7_refuse P (2 : Int32) M) fun e_24 =>
      some (e_24.1, e_24.2)
    else
      zB (D_X6_pass (P + 125) (P + 17) v0 v1 M) fun e_38 =>
      zB (D_X7_answer P (zrd 0 (e_38 (P + 126)) 10 v2) e_38) fun e_53 =>
      some (e_53.1, e_53.2)
set_option maxRecDepth 100000 in
set_option maxHeartbeats 4000000 in
theorem t_X7_often {l : Launch} {G : zG} {b : Nat} {L : List zC} {M : zMt} {N : zNt} {P : Nat} {v0 : Int32} {v1 : Int32} {v2 : Int32} (hP : LX7 L P) {r : Int32 × zMt} (h : D_X7_often P v0 v1 v2 M = some r) : zM l G b yX7_often cX7_often 4 (some .int) 6 0 0 [.ref P, .int v0, .int v1, .int v2] (L, M, N) (fun r2 z => r2 = some (.int r.1) ∧ z = (L, r.2, N)) := by
  refine zM.of miX7_often (Nat.le_of_ble_eq_true rfl) ?_
  intro p e s m args below meth c X hr hname
  generalize hF : ((fun r2 z => r2 = some (.int r.1) ∧ z = (L, r.2, N)) : Option Value → zS → Prop) = FQ
  change Zw p l e { frames := 6, cells := 0, slots := 0, locals := 80 * (6) } s m args below meth c G b 4 (MQ below (zQ G b FQ) args s 0 0 (fun q : Nat => b ≤ q)) 0 0 0 [some (.ref P), some (.int v0), some (.int v1), some (.int v2)] [] (L, M, N)
  have p_lt := hP.1
  have p_o := hP.2.1
  have p_list := hP.2.2.2.2.2.1
  have p_list_lt := p_list.1
  have p_list_o := p_list.2.1
  have p_paper := hP.2.2.2.2.2.2.2.2.2.2.1
  have p_paper_lt := p_paper.1
  have p_paper_o := p_paper.2.1
  have p_paper_times := p_paper.2.2.1
  unfold D_X7_often at h
  refine a_iload_n X dX7_often_0 rfl ?_
  refine a_iload_n X dX7_often_1 rfl ?_
  obtain ⟨e_2, f_2, h⟩ := zBx h
  refine a_callSx X dX7_often_2 miX7_areYears lm7_372 (t_X7_areYears f_2) rfl rfl (Nat.le_of_ble_eq_true rfl) ⟨by decide, by decide, by decide, by decide⟩ (fun r_2 S_2 q_2 => ?_)
  obtain ⟨rfl, rfl, b_2⟩ := q_2
  refine a_if_ne (tgt := 14) X dX7_often_5 (by decide) (fun h_5 => ?_) (fun h_5 => ?_)
  · replace h := (if_neg h_5).symm.trans h
    refine a_aload_n X dX7_often_14 rfl ?_
    refine a_iload_n X dX7_often_15 rfl ?_
    obtain ⟨e_16, f_16, h⟩ := zBx h
    refine a_callVx X dX7_often_16 miX7_isHunter lm7_168 (t_X7_isHunter (by first | exact hP | assumption) f_16) (by first | exact p_o | assumption) rfl rfl rfl (Nat.le_of_ble_eq_true rfl) ⟨by decide, by decide, by decide, by decide⟩ (fun r_16 S_16 q_16 => ?_)
    obtain ⟨rfl, rfl, b_16⟩ := q_16
    refine a_if_ne (tgt := 28) X dX7_often_19 (by decide) (fun h_19 => ?_) (fun h_19 => ?_)
    · replace h := (if_neg h_19).symm.trans h
      refine a_aload_n X dX7_often_28 rfl ?_
      refine a_getr X lf7_61 (by first | exact p_o | assumption) rfl (by omega) dX7_often_29 ?_
      refine a_aload_n X dX7_often_32 rfl ?_
      refine a_getr X lf7_26 (by first | exact p_o | assumption) rfl (by omega) dX7_often_33 ?_
      refine a_iload_n X dX7_often_36 rfl ?_
      refine a_iload_n X dX7_often_37 rfl ?_
      obtain ⟨e_38, f_38, h⟩ := zBx h
      refine a_callVu X dX7_often_38 miX6_pass lm7_376 (t_X6_pass (by first | exact p_paper | assumption) (by first | exact p_list | assumption) (by omega) f_38) (by first | exact p_paper_o | assumption) rfl rfl rfl (Nat.le_of_ble_eq_true rfl) ⟨by decide, by decide, by decide, by decide⟩ ?_
      refine a_aload_n X dX7_often_41 rfl ?_
      refine a_aload_n X dX7_often_42 rfl ?_
      refine a_getr X lf7_61 (by first | exact p_o | assumption) rfl (by omega) dX7_often_43 ?_
      refine a_getr X lf7_389 (by first | exact p_paper_o | assumption) rfl (by omega) dX7_often_46 ?_
      refine a_iload_n X dX7_often_49 rfl ?_
      refine a_callSv X dX7_often_50 miX7_cell lm7_175 (c_cell (by first | exact p_paper_times | assumption) (by decide)) rfl rfl (Nat.le_of_ble_eq_true rfl) ⟨by decide, by decide, by decide, by decide⟩ ?_
      obtain ⟨e_53, f_53, h⟩ := zBx h
      refine a_callVv X dX7_often_53 miX7_answer lm7_134 (t_X7_answer (by first | exact hP | assumption) f_53) (by first | exact p_o | assumption) rfl rfl rfl (Nat.le_of_ble_eq_true rfl) ⟨by decide, by decide, by decide, by decide⟩ ?_
      refine a_iret X hr dX7_often_56 ⟨by decide, by decide⟩ ?_
      subst hF
      rw [← Option.some.inj h]
      exact ⟨rfl, rfl⟩
    · replace h := (if_pos h_19).symm.trans h
      refine a_aload_n X dX7_often_22 rfl ?_
      refine a_iconst (v := 2) X dX7_often_23 (by decide) ?_
      obtain ⟨e_24, f_24, h⟩ := zBx h
      refine a_callVv X dX7_often_24 miX7_refuse lm7_102 (t_X7_refuse (by first | exact hP | assumption) f_24) (by first | exact p_o | assumption) rfl rfl rfl (Nat.le_of_ble_eq_true rfl) ⟨by decide, by decide, by decide, by decide⟩ ?_
      refine a_iret X hr dX7_often_27 ⟨by decide, by decide⟩ ?_
      subst hF
      rw [← Option.some.inj h]
      exact ⟨rfl, rfl⟩
  · replace h := (if_pos h_5).symm.trans h
    refine a_aload_n X dX7_often_8 rfl ?_
    refine a_iconst (v := 1) X dX7_often_9 (by decide) ?_
    obtain ⟨e_10, f_10, h⟩ := zBx h
    refine a_callVv X dX7_often_10 miX7_refuse lm7_102 (t_X7_refuse (by first | exact hP | assumption) f_10) (by first | exact p_o | assumption) rfl rfl rfl (Nat.le_of_ble_eq_true rfl) ⟨by decide, by decide, by decide, by decide⟩ ?_
    refine a_iret X hr dX7_often_13 ⟨by decide, by decide⟩ ?_
    subst hF
    rw [← Option.some.inj h]
    exact ⟨rfl, rfl⟩
noncomputable def D_X7_soonest_73 (P : Nat) (y0_73 : Int32) (M_73 : zMt) : Option (Int32 × zMt) :=
  some (y0_73, M_73)
noncomputable def D_X7_soonest (P : Nat) (v0 : Int32) (v1 : Int32) (v2 : Int32) (M : zMt) : Option (Int32 × zMt) :=
  zB (D_X7_areYears v0 v1) fun e_2 =>
  if e_2 = 0 then
    zB (D_X7_refuse P (1 : Int32) M) fun e_10 =>
    some (e_10.1, e_10.2)
  else
    zB (D_X7_isHunter P M v2) fun e_16 =>
    if e_16 = 0 then
      zB (D_X7_refuse P (2 : Int32) M) fun e_24 =>
      some (e_24.1, e_24.2)
    else
      zB (D_X6_pass (P + 125) (P + 17) v0 v1 M) fun e_38 =>
      if (zrd 0 (e_38 (P + 127)) 10 v2) = 0 then
        zB (D_X7_refuse P (5 : Int32) e_38) fun e_61 =>
        D_X7_soonest_73 P e_61.1 e_61.2
      else
        zB (D_X7_answer P (zrd 0 (e_38 (P + 127)) 10 v2) e_38) fun e_70 =>
        D_X7_soonest_73 P e_70.1 e_70.2
set_option maxRecDepth 100000 in
set_option maxHeartbeats 4000000 in
theorem t_X7_soonest {l : Launch} {G : zG} {b : Nat} {L : List zC} {M : zMt} {N : zNt} {P : Nat} {v0 : Int32} {v1 : Int32} {v2 : Int32} (hP : LX7 L P) {r : Int32 × zMt} (h : D_X7_soonest P v0 v1 v2 M = some r) : zM l G b yX7_soonest cX7_soonest 5 (some .int) 6 0 0 [.ref P, .int v0, .int v1, .int v2] (L, M, N) (fun r2 z => r2 = some (.int r.1) ∧ z = (L, r.2, N)) := by
  refine zM.of miX7_soonest (Nat.le_of_ble_eq_true rfl) ?_
  intro p e s m args below meth c X hr hname
  generalize hF : ((fun r2 z => r2 = some (.int r.1) ∧ z = (L, r.2, N)) : Option Value → zS → Prop) = FQ
  change Zw p l e { frames := 6, cells := 0, slots := 0, locals := 80 * (6) } s m args below meth c G b 5 (MQ below (zQ G b FQ) args s 0 0 (fun q : Nat => b ≤ q)) 0 0 0 [some (.ref P), some (.int v0), some (.int v1), some (.int v2), none] [] (L, M, N)
  have p_lt := hP.1
  have p_o := hP.2.1
  have p_list := hP.2.2.2.2.2.1
  have p_list_lt := p_list.1
  have p_list_o := p_list.2.1
  have p_paper := hP.2.2.2.2.2.2.2.2.2.2.1
  have p_paper_lt := p_paper.1
  have p_paper_o := p_paper.2.1
  have p_paper_firstWish := p_paper.2.2.2.1
  have J_73 : ∀ (x1_73 : Int32) (x2_73 : Int32) (x3_73 : Int32) (x4_73 : Int32) (y0_73 : Int32) (M_73 : zMt), D_X7_soonest_73 P y0_73 M_73 = some r → Zw p l e { frames := 6, cells := 0, slots := 0, locals := 80 * (6) } s m args below meth c G b 5 (MQ below (zQ G b FQ) args s 0 0 (fun q : Nat => b ≤ q)) 0 0 73 [some (.ref (P)), some (.int x1_73), some (.int x2_73), some (.int x3_73), some (.int x4_73)] [.int y0_73] (L, M_73, N) := by
    intro x1_73 x2_73 x3_73 x4_73 y0_73 M_73 h
    unfold D_X7_soonest_73 at h
    refine a_iret X hr dX7_soonest_73 ⟨by decide, by decide⟩ ?_
    subst hF
    rw [← Option.some.inj h]
    exact ⟨rfl, rfl⟩
  unfold D_X7_soonest at h
  refine a_iload_n X dX7_soonest_0 rfl ?_
  refine a_iload_n X dX7_soonest_1 rfl ?_
  obtain ⟨e_2, f_2, h⟩ := zBx h
  refine a_callSx X dX7_soonest_2 miX7_areYears lm7_372 (t_X7_areYears f_2) rfl rfl (Nat.le_of_ble_eq_true rfl) ⟨by decide, by decide, by decide, by decide⟩ (fun r_2 S_2 q_2 => ?_)
  obtain ⟨rfl, rfl, b_2⟩ := q_2
  refine a_if_ne (tgt := 14) X dX7_soonest_5 (by decide) (fun h_5 => ?_) (fun h_5 => ?_)
  · replace h := (if_neg h_5).symm.trans h
    refine a_aload_n X dX7_soonest_14 rfl ?_
    refine a_iload_n X dX7_soonest_15 rfl ?_
    obtain ⟨e_16, f_16, h⟩ := zBx h
    refine a_callVx X dX7_soonest_16 miX7_isHunter lm7_168 (t_X7_isHunter (by first | exact hP | assumption) f_16) (by first | exact p_o | assumption) rfl rfl rfl (Nat.le_of_ble_eq_true rfl) ⟨by decide, by decide, by decide, by decide⟩ (fun r_16 S_16 q_16 => ?_)
    obtain ⟨rfl, rfl, b_16⟩ := q_16
    refine a_if_ne (tgt := 28) X dX7_soonest_19 (by decide) (fun h_19 => ?_) (fun h_19 => ?_)
    · replace h := (if_neg h_19).symm.trans h
      refine a_aload_n X dX7_soonest_28 rfl ?_
      refine a_getr X lf7_61 (by first | exact p_o | assumption) rfl (by omega) dX7_soonest_29 ?_
      refine a_aload_n X dX7_soonest_32 rfl ?_
      refine a_getr X lf7_26 (by first | exact p_o | assumption) rfl (by omega) dX7_soonest_33 ?_
      refine a_iload_n X dX7_soonest_36 rfl ?_
      refine a_iload_n X dX7_soonest_37 rfl ?_
      obtain ⟨e_38, f_38, h⟩ := zBx h
      refine a_callVu X dX7_soonest_38 miX6_pass lm7_376 (t_X6_pass (by first | exact p_paper | assumption) (by first | exact p_list | assumption) (by omega) f_38) (by first | exact p_paper_o | assumption) rfl rfl rfl (Nat.le_of_ble_eq_true rfl) ⟨by decide, by decide, by decide, by decide⟩ ?_
      refine a_aload_n X dX7_soonest_41 rfl ?_
      refine a_getr X lf7_61 (by first | exact p_o | assumption) rfl (by omega) dX7_soonest_42 ?_
      refine a_getr X lf7_392 (by first | exact p_paper_o | assumption) rfl (by omega) dX7_soonest_45 ?_
      refine a_iload_n X dX7_soonest_48 rfl ?_
      refine a_callSv X dX7_soonest_49 miX7_cell lm7_175 (c_cell (by first | exact p_paper_firstWish | assumption) (by decide)) rfl rfl (Nat.le_of_ble_eq_true rfl) ⟨by decide, by decide, by decide, by decide⟩ ?_
      refine a_istore X dX7_soonest_52 (by decide) ?_
      refine a_iload X dX7_soonest_54 rfl ?_
      refine a_if_ne (tgt := 67) X dX7_soonest_56 (by decide) (fun h_56 => ?_) (fun h_56 => ?_)
      · replace h := (if_neg h_56).symm.trans h
        refine a_aload_n X dX7_soonest_67 rfl ?_
        refine a_iload X dX7_soonest_68 rfl ?_
        obtain ⟨e_70, f_70, h⟩ := zBx h
        refine a_callVv X dX7_soonest_70 miX7_answer lm7_134 (t_X7_answer (by first | exact hP | assumption) f_70) (by first | exact p_o | assumption) rfl rfl rfl (Nat.le_of_ble_eq_true rfl) ⟨by decide, by decide, by decide, by decide⟩ ?_
        exact Zw.to2 (J_73 _ _ _ _ _ _ h) rfl rfl rfl
      · replace h := (if_pos h_56).symm.trans h
        refine a_aload_n X dX7_soonest_59 rfl ?_
        refine a_iconst (v := 5) X dX7_soonest_60 (by decide) ?_
        obtain ⟨e_61, f_61, h⟩ := zBx h
        refine a_callVv X dX7_soonest_61 miX7_refuse lm7_102 (t_X7_refuse (by first | exact hP | assumption) f_61) (by first | exact p_o | assumption) rfl rfl rfl (Nat.le_of_ble_eq_true rfl) ⟨by decide, by decide, by decide, by decide⟩ ?_
        refine a_goto (tgt := 73) X dX7_soonest_64 (by decide) ?_
        exact Zw.to2 (J_73 _ _ _ _ _ _ h) rfl rfl rfl
    · replace h := (if_pos h_19).symm.trans h
      refine a_aload_n X dX7_soonest_22 rfl ?_
      refine a_iconst (v := 2) X dX7_soonest_23 (by decide) ?_
      obtain ⟨e_24, f_24, h⟩ := zBx h
      refine a_callVv X dX7_soonest_24 miX7_refuse lm7_102 (t_X7_refuse (by first | exact hP | assumption) f_24) (by first | exact p_o | assumption) rfl rfl rfl (Nat.le_of_ble_eq_true rfl) ⟨by decide, by decide, by decide, by decide⟩ ?_
      refine a_iret X hr dX7_soonest_27 ⟨by decide, by decide⟩ ?_
      subst hF
      rw [← Option.some.inj h]
      exact ⟨rfl, rfl⟩
  · replace h := (if_pos h_5).symm.trans h
    refine a_aload_n X dX7_soonest_8 rfl ?_
    refine a_iconst (v := 1) X dX7_soonest_9 (by decide) ?_
    obtain ⟨e_10, f_10, h⟩ := zBx h
    refine a_callVv X dX7_soonest_10 miX7_refuse lm7_102 (t_X7_refuse (by first | exact hP | assumption) f_10) (by first | exact p_o | assumption) rfl rfl rfl (Nat.le_of_ble_eq_true rfl) ⟨by decide, by decide, by decide, by decide⟩ ?_
    refine a_iret X hr dX7_soonest_13 ⟨by decide, by decide⟩ ?_
    subst hF
    rw [← Option.some.inj h]
    exact ⟨rfl, rfl⟩
noncomputable def D_X7_draw (P : Nat) (v0 : Int32) (M : zMt) : Option (Int32 × zMt) :=
  zB (D_X7_isSeed v0) fun e_1 =>
  if e_1 = 0 then
    zB (D_X7_refuse P (1 : Int32) M) fun e_9 =>
    some (e_9.1, e_9.2)
  else
    zB (D_X1_keep (P + 25) (P + 17) M) fun e_21 =>
    zB (D_X5_bySeed (P + 104) (P + 91) v0 e_21) fun e_33 =>
    zB (D_X4_live (P + 17) (P + 91) (P + 104) e_33) fun e_48 =>
    zLt (zu e_48 (P + 17) 6 ((e_48 (P + 17) 6) + (1 : Int32))) fun M_61 =>
    zB (D_X5_tagsGiven (P + 104) (P + 91) M_61) fun e_73 =>
    zB (D_X7_changed P e_73 M_61) fun e_76 =>
    some (e_76.1, e_76.2)
set_option maxRecDepth 100000 in
set_option maxHeartbeats 4000000 in
theorem t_X7_draw {l : Launch} {G : zG} {b : Nat} {L : List zC} {M : zMt} {N : zNt} {P : Nat} {v0 : Int32} (hP : LX7 L P) {r : Int32 × zMt} (h : D_X7_draw P v0 M = some r) : zM l G b yX7_draw cX7_draw 2 (some .int) 5 0 0 [.ref P, .int v0] (L, M, N) (fun r2 z => r2 = some (.int r.1) ∧ z = (L, r.2, N)) := by
  refine zM.of miX7_draw (Nat.le_of_ble_eq_true rfl) ?_
  intro p e s m args below meth c X hr hname
  generalize hF : ((fun r2 z => r2 = some (.int r.1) ∧ z = (L, r.2, N)) : Option Value → zS → Prop) = FQ
  change Zw p l e { frames := 5, cells := 0, slots := 0, locals := 80 * (5) } s m args below meth c G b 2 (MQ below (zQ G b FQ) args s 0 0 (fun q : Nat => b ≤ q)) 0 0 0 [some (.ref P), some (.int v0)] [] (L, M, N)
  have p_lt := hP.1
  have p_o := hP.2.1
  have p_list := hP.2.2.2.2.2.1
  have p_list_lt := p_list.1
  have p_list_o := p_list.2.1
  have p_past := hP.2.2.2.2.2.2.1
  have p_past_lt := p_past.1
  have p_past_o := p_past.2.1
  have p_pool := hP.2.2.2.2.2.2.2.1
  have p_pool_lt := p_pool.1
  have p_pool_o := p_pool.2.1
  have p_result := hP.2.2.2.2.2.2.2.2.1
  have p_result_lt := p_result.1
  have p_result_o := p_result.2.1
  unfold D_X7_draw at h
  refine a_iload_n X dX7_draw_0 rfl ?_
  obtain ⟨e_1, f_1, h⟩ := zBx h
  refine a_callSx X dX7_draw_1 miX7_isSeed lm7_237 (t_X7_isSeed f_1) rfl rfl (Nat.le_of_ble_eq_true rfl) ⟨by decide, by decide, by decide, by decide⟩ (fun r_1 S_1 q_1 => ?_)
  obtain ⟨rfl, rfl, b_1⟩ := q_1
  refine a_if_ne (tgt := 13) X dX7_draw_4 (by decide) (fun h_4 => ?_) (fun h_4 => ?_)
  · replace h := (if_neg h_4).symm.trans h
    refine a_aload_n X dX7_draw_13 rfl ?_
    refine a_getr X lf7_33 (by first | exact p_o | assumption) rfl (by omega) dX7_draw_14 ?_
    refine a_aload_n X dX7_draw_17 rfl ?_
    refine a_getr X lf7_26 (by first | exact p_o | assumption) rfl (by omega) dX7_draw_18 ?_
    obtain ⟨e_21, f_21, h⟩ := zBx h
    refine a_callVu X dX7_draw_21 miX1_keep lm7_396 (t_X1_keep (by first | exact p_past | assumption) (by first | exact p_list | assumption) (by omega) f_21) (by first | exact p_past_o | assumption) rfl rfl rfl (Nat.le_of_ble_eq_true rfl) ⟨by decide, by decide, by decide, by decide⟩ ?_
    refine a_aload_n X dX7_draw_24 rfl ?_
    refine a_getr X lf7_47 (by first | exact p_o | assumption) rfl (by omega) dX7_draw_25 ?_
    refine a_aload_n X dX7_draw_28 rfl ?_
    refine a_getr X lf7_40 (by first | exact p_o | assumption) rfl (by omega) dX7_draw_29 ?_
    refine a_iload_n X dX7_draw_32 rfl ?_
    obtain ⟨e_33, f_33, h⟩ := zBx h
    refine a_callVu X dX7_draw_33 miX5_bySeed lm7_247 (t_X5_bySeed (by first | exact p_result | assumption) (by first | exact p_pool | assumption) f_33) (by first | exact p_result_o | assumption) rfl rfl rfl (Nat.le_of_ble_eq_true rfl) ⟨by decide, by decide, by decide, by decide⟩ ?_
    refine a_aload_n X dX7_draw_36 rfl ?_
    refine a_getr X lf7_26 (by first | exact p_o | assumption) rfl (by omega) dX7_draw_37 ?_
    refine a_aload_n X dX7_draw_40 rfl ?_
    refine a_getr X lf7_40 (by first | exact p_o | assumption) rfl (by omega) dX7_draw_41 ?_
    refine a_aload_n X dX7_draw_44 rfl ?_
    refine a_getr X lf7_47 (by first | exact p_o | assumption) rfl (by omega) dX7_draw_45 ?_
    obtain ⟨e_48, f_48, h⟩ := zBx h
    refine a_callVu X dX7_draw_48 miX4_live lm7_399 (t_X4_live (by first | exact p_list | assumption) (by first | exact p_pool | assumption) (by first | exact p_result | assumption) f_48) (by first | exact p_list_o | assumption) rfl rfl rfl (Nat.le_of_ble_eq_true rfl) ⟨by decide, by decide, by decide, by decide⟩ ?_
    refine a_aload_n X dX7_draw_51 rfl ?_
    refine a_getr X lf7_26 (by first | exact p_o | assumption) rfl (by omega) dX7_draw_52 ?_
    refine a_dup X dX7_draw_55 rfl ?_
    refine a_geti X lf7_152 (by first | exact p_list_o | assumption) rfl dX7_draw_56 ?_
    refine a_iconst (v := 1) X dX7_draw_59 (by decide) ?_
    refine a_iadd X dX7_draw_60 ?_
    obtain ⟨M_61, f_61, h⟩ := zLtx h
    refine d_puti X lf7_152 (by first | exact p_list_o | assumption) rfl dX7_draw_61 f_61 ?_
    refine a_aload_n X dX7_draw_64 rfl ?_
    refine a_aload_n X dX7_draw_65 rfl ?_
    refine a_getr X lf7_47 (by first | exact p_o | assumption) rfl (by omega) dX7_draw_66 ?_
    refine a_aload_n X dX7_draw_69 rfl ?_
    refine a_getr X lf7_40 (by first | exact p_o | assumption) rfl (by omega) dX7_draw_70 ?_
    obtain ⟨e_73, f_73, h⟩ := zBx h
    refine a_callVv X dX7_draw_73 miX5_tagsGiven lm7_403 (t_X5_tagsGiven (by first | exact p_result | assumption) (by first | exact p_pool | assumption) f_73) (by first | exact p_result_o | assumption) rfl rfl rfl (Nat.le_of_ble_eq_true rfl) ⟨by decide, by decide, by decide, by decide⟩ ?_
    obtain ⟨e_76, f_76, h⟩ := zBx h
    refine a_callVv X dX7_draw_76 miX7_changed lm7_122 (t_X7_changed (by first | exact hP | assumption) f_76) (by first | exact p_o | assumption) rfl rfl rfl (Nat.le_of_ble_eq_true rfl) ⟨by decide, by decide, by decide, by decide⟩ ?_
    refine a_iret X hr dX7_draw_79 ⟨by decide, by decide⟩ ?_
    subst hF
    rw [← Option.some.inj h]
    exact ⟨rfl, rfl⟩
  · replace h := (if_pos h_4).symm.trans h
    refine a_aload_n X dX7_draw_7 rfl ?_
    refine a_iconst (v := 1) X dX7_draw_8 (by decide) ?_
    obtain ⟨e_9, f_9, h⟩ := zBx h
    refine a_callVv X dX7_draw_9 miX7_refuse lm7_102 (t_X7_refuse (by first | exact hP | assumption) f_9) (by first | exact p_o | assumption) rfl rfl rfl (Nat.le_of_ble_eq_true rfl) ⟨by decide, by decide, by decide, by decide⟩ ?_
    refine a_iret X hr dX7_draw_12 ⟨by decide, by decide⟩ ?_
    subst hF
    rw [← Option.some.inj h]
    exact ⟨rfl, rfl⟩
noncomputable def D_X7_points_10 (P : Nat) (M_10 : zMt) : Option (Int32 × zMt) :=
  zB (D_X7_refuse P (1 : Int32) M_10) fun e_12 =>
  some (e_12.1, e_12.2)
noncomputable def D_X7_points (P : Nat) (v0 : Int32) (v1 : Int32) (M : zMt) : Option (Int32 × zMt) :=
  if v1 < 0 then
    D_X7_points_10 P M
  else
    if v1 ≤ (20 : Int32) then
      zB (D_X7_isHunter P M v0) fun e_18 =>
      if e_18 = 0 then
        zB (D_X7_refuse P (2 : Int32) M) fun e_26 =>
        some (e_26.1, e_26.2)
      else
        if (zrd 0 (M (P + 19)) 10 v0) = v1 then
          zB (D_X7_refuse P (4 : Int32) M) fun e_49 =>
          some (e_49.1, e_49.2)
        else
          zB (D_X1_keep (P + 25) (P + 17) M) fun e_61 =>
          zLt (zwr e_61 (P + 19) 10 v0 v1) fun M_73 =>
          zB (D_X7_changed P (zrd 0 (M (P + 19)) 10 v0) M_73) fun e_78 =>
          some (e_78.1, e_78.2)
    else
      D_X7_points_10 P M
set_option maxRecDepth 100000 in
set_option maxHeartbeats 4000000 in
theorem t_X7_points {l : Launch} {G : zG} {b : Nat} {L : List zC} {M : zMt} {N : zNt} {P : Nat} {v0 : Int32} {v1 : Int32} (hP : LX7 L P) {r : Int32 × zMt} (h : D_X7_points P v0 v1 M = some r) : zM l G b yX7_points cX7_points 4 (some .int) 4 0 0 [.ref P, .int v0, .int v1] (L, M, N) (fun r2 z => r2 = some (.int r.1) ∧ z = (L, r.2, N)) := by
  refine zM.of miX7_points (Nat.le_of_ble_eq_true rfl) ?_
  intro p e s m args below meth c X hr hname
  generalize hF : ((fun r2 z => r2 = some (.int r.1) ∧ z = (L, r.2, N)) : Option Value → zS → Prop) = FQ
  change Zw p l e { frames := 4, cells := 0, slots := 0, locals := 80 * (4) } s m args below meth c G b 4 (MQ below (zQ G b FQ) args s 0 0 (fun q : Nat => b ≤ q)) 0 0 0 [some (.ref P), some (.int v0), some (.int v1), none] [] (L, M, N)
  have p_lt := hP.1
  have p_o := hP.2.1
  have p_list := hP.2.2.2.2.2.1
  have p_list_lt := p_list.1
  have p_list_o := p_list.2.1
  have p_list_score := p_list.2.2.2.1
  have p_past := hP.2.2.2.2.2.2.1
  have p_past_lt := p_past.1
  have p_past_o := p_past.2.1
  have J_10 : ∀ (x1_10 : Int32) (x2_10 : Int32) (x3_10 : Option Value) (M_10 : zMt), D_X7_points_10 P M_10 = some r → Zw p l e { frames := 4, cells := 0, slots := 0, locals := 80 * (4) } s m args below meth c G b 4 (MQ below (zQ G b FQ) args s 0 0 (fun q : Nat => b ≤ q)) 0 0 10 [some (.ref (P)), some (.int x1_10), some (.int x2_10), x3_10] [] (L, M_10, N) := by
    intro x1_10 x2_10 x3_10 M_10 h
    unfold D_X7_points_10 at h
    refine a_aload_n X dX7_points_10 rfl ?_
    refine a_iconst (v := 1) X dX7_points_11 (by decide) ?_
    obtain ⟨e_12, f_12, h⟩ := zBx h
    refine a_callVv X dX7_points_12 miX7_refuse lm7_102 (t_X7_refuse (by first | exact hP | assumption) f_12) (by first | exact p_o | assumption) rfl rfl rfl (Nat.le_of_ble_eq_true rfl) ⟨by decide, by decide, by decide, by decide⟩ ?_
    refine a_iret X hr dX7_points_15 ⟨by decide, by decide⟩ ?_
    subst hF
    rw [← Option.some.inj h]
    exact ⟨rfl, rfl⟩
  unfold D_X7_points at h
  refine a_iload_n X dX7_points_0 rfl ?_
  refine a_if_lt (tgt := 10) X dX7_points_1 (by decide) (fun h_1 => ?_) (fun h_1 => ?_)
  · replace h := (if_pos h_1).symm.trans h
    exact Zw.to2 (J_10 _ _ _ _ h) rfl rfl rfl
  · replace h := (if_neg h_1).symm.trans h
    refine a_iload_n X dX7_points_4 rfl ?_
    refine a_bipush (v := 20) X dX7_points_5 (by decide) ?_
    refine a_icmp_le (tgt := 16) X dX7_points_7 (by decide) (fun h_7 => ?_) (fun h_7 => ?_)
    · replace h := (if_pos h_7).symm.trans h
      refine a_aload_n X dX7_points_16 rfl ?_
      refine a_iload_n X dX7_points_17 rfl ?_
      obtain ⟨e_18, f_18, h⟩ := zBx h
      refine a_callVx X dX7_points_18 miX7_isHunter lm7_168 (t_X7_isHunter (by first | exact hP | assumption) f_18) (by first | exact p_o | assumption) rfl rfl rfl (Nat.le_of_ble_eq_true rfl) ⟨by decide, by decide, by decide, by decide⟩ (fun r_18 S_18 q_18 => ?_)
      obtain ⟨rfl, rfl, b_18⟩ := q_18
      refine a_if_ne (tgt := 30) X dX7_points_21 (by decide) (fun h_21 => ?_) (fun h_21 => ?_)
      · replace h := (if_neg h_21).symm.trans h
        refine a_aload_n X dX7_points_30 rfl ?_
        refine a_getr X lf7_26 (by first | exact p_o | assumption) rfl (by omega) dX7_points_31 ?_
        refine a_getr X lf7_172 (by first | exact p_list_o | assumption) rfl (by omega) dX7_points_34 ?_
        refine a_iload_n X dX7_points_37 rfl ?_
        refine a_callSv X dX7_points_38 miX7_cell lm7_175 (c_cell (by first | exact p_list_score | assumption) (by decide)) rfl rfl (Nat.le_of_ble_eq_true rfl) ⟨by decide, by decide, by decide, by decide⟩ ?_
        refine a_istore_n X dX7_points_41 (by decide) ?_
        refine a_iload_n X dX7_points_42 rfl ?_
        refine a_iload_n X dX7_points_43 rfl ?_
        refine a_icmp_ne (tgt := 53) X dX7_points_44 (by decide) (fun h_44 => ?_) (fun h_44 => ?_)
        · replace h := (if_neg h_44).symm.trans h
          refine a_aload_n X dX7_points_53 rfl ?_
          refine a_getr X lf7_33 (by first | exact p_o | assumption) rfl (by omega) dX7_points_54 ?_
          refine a_aload_n X dX7_points_57 rfl ?_
          refine a_getr X lf7_26 (by first | exact p_o | assumption) rfl (by omega) dX7_points_58 ?_
          obtain ⟨e_61, f_61, h⟩ := zBx h
          refine a_callVu X dX7_points_61 miX1_keep lm7_396 (t_X1_keep (by first | exact p_past | assumption) (by first | exact p_list | assumption) (by omega) f_61) (by first | exact p_past_o | assumption) rfl rfl rfl (Nat.le_of_ble_eq_true rfl) ⟨by decide, by decide, by decide, by decide⟩ ?_
          refine a_aload_n X dX7_points_64 rfl ?_
          refine a_getr X lf7_26 (by first | exact p_o | assumption) rfl (by omega) dX7_points_65 ?_
          refine a_getr X lf7_172 (by first | exact p_list_o | assumption) rfl (by omega) dX7_points_68 ?_
          refine a_iload_n X dX7_points_71 rfl ?_
          refine a_iload_n X dX7_points_72 rfl ?_
          obtain ⟨M_73, f_73, h⟩ := zLtx h
          refine a_callSu X dX7_points_73 miX7_put lm7_98 (zMu (c_put (by first | exact p_list_score | assumption) (by decide)) f_73) rfl rfl (Nat.le_of_ble_eq_true rfl) ⟨by decide, by decide, by decide, by decide⟩ ?_
          refine a_aload_n X dX7_points_76 rfl ?_
          refine a_iload_n X dX7_points_77 rfl ?_
          obtain ⟨e_78, f_78, h⟩ := zBx h
          refine a_callVv X dX7_points_78 miX7_changed lm7_122 (t_X7_changed (by first | exact hP | assumption) f_78) (by first | exact p_o | assumption) rfl rfl rfl (Nat.le_of_ble_eq_true rfl) ⟨by decide, by decide, by decide, by decide⟩ ?_
          refine a_iret X hr dX7_points_81 ⟨by decide, by decide⟩ ?_
          subst hF
          rw [← Option.some.inj h]
          exact ⟨rfl, rfl⟩
        · replace h := (if_pos h_44).symm.trans h
          refine a_aload_n X dX7_points_47 rfl ?_
          refine a_iconst (v := 4) X dX7_points_48 (by decide) ?_
          obtain ⟨e_49, f_49, h⟩ := zBx h
          refine a_callVv X dX7_points_49 miX7_refuse lm7_102 (t_X7_refuse (by first | exact hP | assumption) f_49) (by first | exact p_o | assumption) rfl rfl rfl (Nat.le_of_ble_eq_true rfl) ⟨by decide, by decide, by decide, by decide⟩ ?_
          refine a_iret X hr dX7_points_52 ⟨by decide, by decide⟩ ?_
          subst hF
          rw [← Option.some.inj h]
          exact ⟨rfl, rfl⟩
      · replace h := (if_pos h_21).symm.trans h
        refine a_aload_n X dX7_points_24 rfl ?_
        refine a_iconst (v := 2) X dX7_points_25 (by decide) ?_
        obtain ⟨e_26, f_26, h⟩ := zBx h
        refine a_callVv X dX7_points_26 miX7_refuse lm7_102 (t_X7_refuse (by first | exact hP | assumption) f_26) (by first | exact p_o | assumption) rfl rfl rfl (Nat.le_of_ble_eq_true rfl) ⟨by decide, by decide, by decide, by decide⟩ ?_
        refine a_iret X hr dX7_points_29 ⟨by decide, by decide⟩ ?_
        subst hF
        rw [← Option.some.inj h]
        exact ⟨rfl, rfl⟩
    · replace h := (if_neg h_7).symm.trans h
      exact Zw.to2 (J_10 _ _ _ _ h) rfl rfl rfl
noncomputable def D_X7_quota_10 (P : Nat) (M_10 : zMt) : Option (Int32 × zMt) :=
  zB (D_X7_refuse P (1 : Int32) M_10) fun e_12 =>
  some (e_12.1, e_12.2)
noncomputable def D_X7_quota (P : Nat) (v0 : Int32) (v1 : Int32) (M : zMt) : Option (Int32 × zMt) :=
  if v1 < 0 then
    D_X7_quota_10 P M
  else
    if v1 ≤ (20 : Int32) then
      zB (D_X7_isUnit P M v0) fun e_18 =>
      if e_18 = 0 then
        zB (D_X7_refuse P (2 : Int32) M) fun e_26 =>
        some (e_26.1, e_26.2)
      else
        if (zrd 0 (M (P + 18)) 5 v0) = v1 then
          zB (D_X7_refuse P (4 : Int32) M) fun e_49 =>
          some (e_49.1, e_49.2)
        else
          zB (D_X1_keep (P + 25) (P + 17) M) fun e_61 =>
          zLt (zwr e_61 (P + 18) 5 v0 v1) fun M_73 =>
          zB (D_X7_changed P (zrd 0 (M (P + 18)) 5 v0) M_73) fun e_78 =>
          some (e_78.1, e_78.2)
    else
      D_X7_quota_10 P M
set_option maxRecDepth 100000 in
set_option maxHeartbeats 4000000 in
theorem t_X7_quota {l : Launch} {G : zG} {b : Nat} {L : List zC} {M : zMt} {N : zNt} {P : Nat} {v0 : Int32} {v1 : Int32} (hP : LX7 L P) {r : Int32 × zMt} (h : D_X7_quota P v0 v1 M = some r) : zM l G b yX7_quota cX7_quota 4 (some .int) 4 0 0 [.ref P, .int v0, .int v1] (L, M, N) (fun r2 z => r2 = some (.int r.1) ∧ z = (L, r.2, N)) := by
  refine zM.of miX7_quota (Nat.le_of_ble_eq_true rfl) ?_
  intro p e s m args below meth c X hr hname
  generalize hF : ((fun r2 z => r2 = some (.int r.1) ∧ z = (L, r.2, N)) : Option Value → zS → Prop) = FQ
  change Zw p l e { frames := 4, cells := 0, slots := 0, locals := 80 * (4) } s m args below meth c G b 4 (MQ below (zQ G b FQ) args s 0 0 (fun q : Nat => b ≤ q)) 0 0 0 [some (.ref P), some (.int v0), some (.int v1), none] [] (L, M, N)
  have p_lt := hP.1
  have p_o := hP.2.1
  have p_list := hP.2.2.2.2.2.1
  have p_list_lt := p_list.1
  have p_list_o := p_list.2.1
  have p_list_quota := p_list.2.2.1
  have p_past := hP.2.2.2.2.2.2.1
  have p_past_lt := p_past.1
  have p_past_o := p_past.2.1
  have J_10 : ∀ (x1_10 : Int32) (x2_10 : Int32) (x3_10 : Option Value) (M_10 : zMt), D_X7_quota_10 P M_10 = some r → Zw p l e { frames := 4, cells := 0, slots := 0, locals := 80 * (4) } s m args below meth c G b 4 (MQ below (zQ G b FQ) args s 0 0 (fun q : Nat => b ≤ q)) 0 0 10 [some (.ref (P)), some (.int x1_10), some (.int x2_10), x3_10] [] (L, M_10, N) := by
    intro x1_10 x2_10 x3_10 M_10 h
    unfold D_X7_quota_10 at h
    refine a_aload_n X dX7_quota_10 rfl ?_
    refine a_iconst (v := 1) X dX7_quota_11 (by decide) ?_
    obtain ⟨e_12, f_12, h⟩ := zBx h
    refine a_callVv X dX7_quota_12 miX7_refuse lm7_102 (t_X7_refuse (by first | exact hP | assumption) f_12) (by first | exact p_o | assumption) rfl rfl rfl (Nat.le_of_ble_eq_true rfl) ⟨by decide, by decide, by decide, by decide⟩ ?_
    refine a_iret X hr dX7_quota_15 ⟨by decide, by decide⟩ ?_
    subst hF
    rw [← Option.some.inj h]
    exact ⟨rfl, rfl⟩
  unfold D_X7_quota at h
  refine a_iload_n X dX7_quota_0 rfl ?_
  refine a_if_lt (tgt := 10) X dX7_quota_1 (by decide) (fun h_1 => ?_) (fun h_1 => ?_)
  · replace h := (if_pos h_1).symm.trans h
    exact Zw.to2 (J_10 _ _ _ _ h) rfl rfl rfl
  · replace h := (if_neg h_1).symm.trans h
    refine a_iload_n X dX7_quota_4 rfl ?_
    refine a_bipush (v := 20) X dX7_quota_5 (by decide) ?_
    refine a_icmp_le (tgt := 16) X dX7_quota_7 (by decide) (fun h_7 => ?_) (fun h_7 => ?_)
    · replace h := (if_pos h_7).symm.trans h
      refine a_aload_n X dX7_quota_16 rfl ?_
      refine a_iload_n X dX7_quota_17 rfl ?_
      obtain ⟨e_18, f_18, h⟩ := zBx h
      refine a_callVx X dX7_quota_18 miX7_isUnit lm7_188 (t_X7_isUnit (by first | exact hP | assumption) f_18) (by first | exact p_o | assumption) rfl rfl rfl (Nat.le_of_ble_eq_true rfl) ⟨by decide, by decide, by decide, by decide⟩ (fun r_18 S_18 q_18 => ?_)
      obtain ⟨rfl, rfl, b_18⟩ := q_18
      refine a_if_ne (tgt := 30) X dX7_quota_21 (by decide) (fun h_21 => ?_) (fun h_21 => ?_)
      · replace h := (if_neg h_21).symm.trans h
        refine a_aload_n X dX7_quota_30 rfl ?_
        refine a_getr X lf7_26 (by first | exact p_o | assumption) rfl (by omega) dX7_quota_31 ?_
        refine a_getr X lf7_158 (by first | exact p_list_o | assumption) rfl (by omega) dX7_quota_34 ?_
        refine a_iload_n X dX7_quota_37 rfl ?_
        refine a_callSv X dX7_quota_38 miX7_cell lm7_175 (c_cell (by first | exact p_list_quota | assumption) (by decide)) rfl rfl (Nat.le_of_ble_eq_true rfl) ⟨by decide, by decide, by decide, by decide⟩ ?_
        refine a_istore_n X dX7_quota_41 (by decide) ?_
        refine a_iload_n X dX7_quota_42 rfl ?_
        refine a_iload_n X dX7_quota_43 rfl ?_
        refine a_icmp_ne (tgt := 53) X dX7_quota_44 (by decide) (fun h_44 => ?_) (fun h_44 => ?_)
        · replace h := (if_neg h_44).symm.trans h
          refine a_aload_n X dX7_quota_53 rfl ?_
          refine a_getr X lf7_33 (by first | exact p_o | assumption) rfl (by omega) dX7_quota_54 ?_
          refine a_aload_n X dX7_quota_57 rfl ?_
          refine a_getr X lf7_26 (by first | exact p_o | assumption) rfl (by omega) dX7_quota_58 ?_
          obtain ⟨e_61, f_61, h⟩ := zBx h
          refine a_callVu X dX7_quota_61 miX1_keep lm7_396 (t_X1_keep (by first | exact p_past | assumption) (by first | exact p_list | assumption) (by omega) f_61) (by first | exact p_past_o | assumption) rfl rfl rfl (Nat.le_of_ble_eq_true rfl) ⟨by decide, by decide, by decide, by decide⟩ ?_
          refine a_aload_n X dX7_quota_64 rfl ?_
          refine a_getr X lf7_26 (by first | exact p_o | assumption) rfl (by omega) dX7_quota_65 ?_
          refine a_getr X lf7_158 (by first | exact p_list_o | assumption) rfl (by omega) dX7_quota_68 ?_
          refine a_iload_n X dX7_quota_71 rfl ?_
          refine a_iload_n X dX7_quota_72 rfl ?_
          obtain ⟨M_73, f_73, h⟩ := zLtx h
          refine a_callSu X dX7_quota_73 miX7_put lm7_98 (zMu (c_put (by first | exact p_list_quota | assumption) (by decide)) f_73) rfl rfl (Nat.le_of_ble_eq_true rfl) ⟨by decide, by decide, by decide, by decide⟩ ?_
          refine a_aload_n X dX7_quota_76 rfl ?_
          refine a_iload_n X dX7_quota_77 rfl ?_
          obtain ⟨e_78, f_78, h⟩ := zBx h
          refine a_callVv X dX7_quota_78 miX7_changed lm7_122 (t_X7_changed (by first | exact hP | assumption) f_78) (by first | exact p_o | assumption) rfl rfl rfl (Nat.le_of_ble_eq_true rfl) ⟨by decide, by decide, by decide, by decide⟩ ?_
          refine a_iret X hr dX7_quota_81 ⟨by decide, by decide⟩ ?_
          subst hF
          rw [← Option.some.inj h]
          exact ⟨rfl, rfl⟩
        · replace h := (if_pos h_44).symm.trans h
          refine a_aload_n X dX7_quota_47 rfl ?_
          refine a_iconst (v := 4) X dX7_quota_48 (by decide) ?_
          obtain ⟨e_49, f_49, h⟩ := zBx h
          refine a_callVv X dX7_quota_49 miX7_refuse lm7_102 (t_X7_refuse (by first | exact hP | assumption) f_49) (by first | exact p_o | assumption) rfl rfl rfl (Nat.le_of_ble_eq_true rfl) ⟨by decide, by decide, by decide, by decide⟩ ?_
          refine a_iret X hr dX7_quota_52 ⟨by decide, by decide⟩ ?_
          subst hF
          rw [← Option.some.inj h]
          exact ⟨rfl, rfl⟩
      · replace h := (if_pos h_21).symm.trans h
        refine a_aload_n X dX7_quota_24 rfl ?_
        refine a_iconst (v := 2) X dX7_quota_25 (by decide) ?_
        obtain ⟨e_26, f_26, h⟩ := zBx h
        refine a_callVv X dX7_quota_26 miX7_refuse lm7_102 (t_X7_refuse (by first | exact hP | assumption) f_26) (by first | exact p_o | assumption) rfl rfl rfl (Nat.le_of_ble_eq_true rfl) ⟨by decide, by decide, by decide, by decide⟩ ?_
        refine a_iret X hr dX7_quota_29 ⟨by decide, by decide⟩ ?_
        subst hF
        rw [← Option.some.inj h]
        exact ⟨rfl, rfl⟩
    · replace h := (if_neg h_7).symm.trans h
      exact Zw.to2 (J_10 _ _ _ _ h) rfl rfl rfl
noncomputable def D_X7_isUnitOrNone_18 (P : Nat) (M : zMt) (y0_18 : Int32) : Option (Int32) :=
  some (y0_18)
noncomputable def D_X7_isUnitOrNone_13 (P : Nat) (M : zMt)  : Option (Int32) :=
  D_X7_isUnitOrNone_18 P M (1 : Int32)
noncomputable def D_X7_isUnitOrNone (P : Nat) (M : zMt) (v0 : Int32) : Option (Int32) :=
  if v0 = (-1 : Int32) then
    D_X7_isUnitOrNone_13 P M
  else
    zB (D_X7_isUnit P M v0) fun e_7 =>
    if e_7 = 0 then
      D_X7_isUnitOrNone_18 P M (0 : Int32)
    else
      D_X7_isUnitOrNone_13 P M
set_option maxRecDepth 100000 in
set_option maxHeartbeats 4000000 in
theorem t_X7_isUnitOrNone {l : Launch} {G : zG} {b : Nat} {L : List zC} {M : zMt} {N : zNt} {P : Nat} {v0 : Int32} (hP : LX7 L P) {r : Int32} (h : D_X7_isUnitOrNone P M v0 = some r) : zM l G b yX7_isUnitOrNone cX7_isUnitOrNone 2 (some .boolean) 1 0 0 [.ref P, .int v0] (L, M, N) (fun r2 z => r2 = some (.int r) ∧ z = (L, M, N) ∧ (r = 0 ∨ r = 1)) := by
  refine zM.of miX7_isUnitOrNone (Nat.le_of_ble_eq_true rfl) ?_
  intro p e s m args below meth c X hr hname
  generalize hF : ((fun r2 z => r2 = some (.int r) ∧ z = (L, M, N) ∧ (r = 0 ∨ r = 1)) : Option Value → zS → Prop) = FQ
  change Zw p l e { frames := 1, cells := 0, slots := 0, locals := 80 * (1) } s m args below meth c G b 2 (MQ below (zQ G b FQ) args s 0 0 (fun q : Nat => b ≤ q)) 0 0 0 [some (.ref P), some (.int v0)] [] (L, M, N)
  have p_lt := hP.1
  have p_o := hP.2.1
  have J_18 : ∀ (x1_18 : Int32) (y0_18 : Int32), (y0_18 = 0 ∨ y0_18 = 1) → D_X7_isUnitOrNone_18 P M y0_18 = some r → Zw p l e { frames := 1, cells := 0, slots := 0, locals := 80 * (1) } s m args below meth c G b 2 (MQ below (zQ G b FQ) args s 0 0 (fun q : Nat => b ≤ q)) 0 0 18 [some (.ref (P)), some (.int x1_18)] [.int y0_18] (L, M, N) := by
    intro x1_18 y0_18 fb_y0_18 h
    unfold D_X7_isUnitOrNone_18 at h
    refine a_zret X (by first | exact Or.inl rfl | exact Or.inr rfl | assumption) hr dX7_isUnitOrNone_18 ⟨by decide, by decide⟩ ?_
    subst hF
    rw [← Option.some.inj h]
    exact ⟨rfl, rfl, (by first | exact Or.inl rfl | exact Or.inr rfl | assumption)⟩
  have J_13 : ∀ (x1_13 : Int32), D_X7_isUnitOrNone_13 P M = some r → Zw p l e { frames := 1, cells := 0, slots := 0, locals := 80 * (1) } s m args below meth c G b 2 (MQ below (zQ G b FQ) args s 0 0 (fun q : Nat => b ≤ q)) 0 0 13 [some (.ref (P)), some (.int x1_13)] [] (L, M, N) := by
    intro x1_13 h
    unfold D_X7_isUnitOrNone_13 at h
    refine a_iconst (v := 1) X dX7_isUnitOrNone_13 (by decide) ?_
    refine a_goto (tgt := 18) X dX7_isUnitOrNone_14 (by decide) ?_
    exact Zw.to2 (J_18 _ _ (by first | exact Or.inl rfl | exact Or.inr rfl | assumption) h) rfl rfl rfl
  unfold D_X7_isUnitOrNone at h
  refine a_iload_n X dX7_isUnitOrNone_0 rfl ?_
  refine a_iconst (v := -1) X dX7_isUnitOrNone_1 (by decide) ?_
  refine a_icmp_eq (tgt := 13) X dX7_isUnitOrNone_2 (by decide) (fun h_2 => ?_) (fun h_2 => ?_)
  · replace h := (if_pos h_2).symm.trans h
    exact Zw.to2 (J_13 _ h) rfl rfl rfl
  · replace h := (if_neg h_2).symm.trans h
    refine a_aload_n X dX7_isUnitOrNone_5 rfl ?_
    refine a_iload_n X dX7_isUnitOrNone_6 rfl ?_
    obtain ⟨e_7, f_7, h⟩ := zBx h
    refine a_callVx X dX7_isUnitOrNone_7 miX7_isUnit lm7_188 (t_X7_isUnit (by first | exact hP | assumption) f_7) (by first | exact p_o | assumption) rfl rfl rfl (Nat.le_of_ble_eq_true rfl) ⟨by decide, by decide, by decide, by decide⟩ (fun r_7 S_7 q_7 => ?_)
    obtain ⟨rfl, rfl, b_7⟩ := q_7
    refine a_if_eq (tgt := 17) X dX7_isUnitOrNone_10 (by decide) (fun h_10 => ?_) (fun h_10 => ?_)
    · replace h := (if_pos h_10).symm.trans h
      refine a_iconst (v := 0) X dX7_isUnitOrNone_17 (by decide) ?_
      exact Zw.to2 (J_18 _ _ (by first | exact Or.inl rfl | exact Or.inr rfl | assumption) h) rfl rfl rfl
    · replace h := (if_neg h_10).symm.trans h
      exact Zw.to2 (J_13 _ h) rfl rfl rfl
noncomputable def D_X7_choose_145 (P : Nat) (x1_145 : Int32) (x2_145 : Int32) (x3_145 : Int32) (x4_145 : Int32) (M_145 : zMt) : Option (Int32 × zMt) :=
  zB (D_X1_keep (P + 25) (P + 17) M_145) fun e_166 =>
  zB (D_X4_wishFor (P + 17) (zrd 0 (e_166 (P + 100)) 10 x1_145) x2_145 x3_145 x4_145 e_166) fun e_188 =>
  zB (D_X7_changed P (zrd 0 (M_145 (P + 102)) 10 x1_145) e_188) fun e_194 =>
  some (e_194.1, e_194.2)
noncomputable def D_X7_choose_93 (P : Nat) (M_93 : zMt) : Option (Int32 × zMt) :=
  zB (D_X7_refuse P (2 : Int32) M_93) fun e_95 =>
  some (e_95.1, e_95.2)
noncomputable def D_X7_choose_60 (P : Nat) (x1_60 : Int32) (x2_60 : Int32) (x3_60 : Int32) (x4_60 : Int32) (M_60 : zMt) : Option (Int32 × zMt) :=
  zB (D_X7_isApplicant P M_60 x1_60) fun e_62 =>
  if e_62 = 0 then
    D_X7_choose_93 P M_60
  else
    zB (D_X7_isUnitOrNone P M_60 x2_60) fun e_70 =>
    if e_70 = 0 then
      D_X7_choose_93 P M_60
    else
      zB (D_X7_isUnitOrNone P M_60 x3_60) fun e_78 =>
      if e_78 = 0 then
        D_X7_choose_93 P M_60
      else
        zB (D_X7_isUnitOrNone P M_60 x4_60) fun e_87 =>
        if e_87 = 0 then
          D_X7_choose_93 P M_60
        else
          zB (D_X2_wish (P + 91) M_60 x1_60 (0 : Int32)) fun e_105 =>
          if e_105 = x2_60 then
            zB (D_X2_wish (P + 91) M_60 x1_60 (1 : Int32)) fun e_118 =>
            if e_118 = x3_60 then
              zB (D_X2_wish (P + 91) M_60 x1_60 (2 : Int32)) fun e_131 =>
              if e_131 = x4_60 then
                zB (D_X7_refuse P (4 : Int32) M_60) fun e_141 =>
                some (e_141.1, e_141.2)
              else
                D_X7_choose_145 P x1_60 x2_60 x3_60 x4_60 M_60
            else
              D_X7_choose_145 P x1_60 x2_60 x3_60 x4_60 M_60
          else
            D_X7_choose_145 P x1_60 x2_60 x3_60 x4_60 M_60
noncomputable def D_X7_choose_54 (P : Nat) (M_54 : zMt) : Option (Int32 × zMt) :=
  zB (D_X7_refuse P (1 : Int32) M_54) fun e_56 =>
  some (e_56.1, e_56.2)
noncomputable def D_X7_choose_43 (P : Nat) (x1_43 : Int32) (x2_43 : Int32) (x3_43 : Int32) (x4_43 : Int32) (M_43 : zMt) : Option (Int32 × zMt) :=
  if x3_43 = (-1 : Int32) then
    D_X7_choose_60 P x1_43 x2_43 x3_43 x4_43 M_43
  else
    if x3_43 = x4_43 then
      D_X7_choose_54 P M_43
    else
      D_X7_choose_60 P x1_43 x2_43 x3_43 x4_43 M_43
noncomputable def D_X7_choose_27 (P : Nat) (x1_27 : Int32) (x2_27 : Int32) (x3_27 : Int32) (x4_27 : Int32) (M_27 : zMt) : Option (Int32 × zMt) :=
  if x2_27 = (-1 : Int32) then
    D_X7_choose_43 P x1_27 x2_27 x3_27 x4_27 M_27
  else
    if x2_27 = x3_27 then
      D_X7_choose_54 P M_27
    else
      if x2_27 = x4_27 then
        D_X7_choose_54 P M_27
      else
        D_X7_choose_43 P x1_27 x2_27 x3_27 x4_27 M_27
noncomputable def D_X7_choose_21 (P : Nat) (M_21 : zMt) : Option (Int32 × zMt) :=
  zB (D_X7_refuse P (1 : Int32) M_21) fun e_23 =>
  some (e_23.1, e_23.2)
noncomputable def D_X7_choose_10 (P : Nat) (x1_10 : Int32) (x2_10 : Int32) (x3_10 : Int32) (x4_10 : Int32) (M_10 : zMt) : Option (Int32 × zMt) :=
  if x3_10 = (-1 : Int32) then
    if x4_10 = (-1 : Int32) then
      D_X7_choose_27 P x1_10 x2_10 x3_10 x4_10 M_10
    else
      D_X7_choose_21 P M_10
  else
    D_X7_choose_27 P x1_10 x2_10 x3_10 x4_10 M_10
noncomputable def D_X7_choose (P : Nat) (v0 : Int32) (v1 : Int32) (v2 : Int32) (v3 : Int32) (M : zMt) : Option (Int32 × zMt) :=
  if v1 = (-1 : Int32) then
    if v2 = (-1 : Int32) then
      D_X7_choose_10 P v0 v1 v2 v3 M
    else
      D_X7_choose_21 P M
  else
    D_X7_choose_10 P v0 v1 v2 v3 M
set_option maxRecDepth 100000 in
set_option maxHeartbeats 4000000 in
theorem t_X7_choose {l : Launch} {G : zG} {b : Nat} {L : List zC} {M : zMt} {N : zNt} {P : Nat} {v0 : Int32} {v1 : Int32} {v2 : Int32} {v3 : Int32} (hP : LX7 L P) {r : Int32 × zMt} (h : D_X7_choose P v0 v1 v2 v3 M = some r) : zM l G b yX7_choose cX7_choose 6 (some .int) 4 0 0 [.ref P, .int v0, .int v1, .int v2, .int v3] (L, M, N) (fun r2 z => r2 = some (.int r.1) ∧ z = (L, r.2, N)) := by
  refine zM.of miX7_choose (Nat.le_of_ble_eq_true rfl) ?_
  intro p e s m args below meth c X hr hname
  generalize hF : ((fun r2 z => r2 = some (.int r.1) ∧ z = (L, r.2, N)) : Option Value → zS → Prop) = FQ
  change Zw p l e { frames := 4, cells := 0, slots := 0, locals := 80 * (4) } s m args below meth c G b 6 (MQ below (zQ G b FQ) args s 0 0 (fun q : Nat => b ≤ q)) 0 0 0 [some (.ref P), some (.int v0), some (.int v1), some (.int v2), some (.int v3), none] [] (L, M, N)
  have p_lt := hP.1
  have p_o := hP.2.1
  have p_list := hP.2.2.2.2.2.1
  have p_list_lt := p_list.1
  have p_list_o := p_list.2.1
  have p_past := hP.2.2.2.2.2.2.1
  have p_past_lt := p_past.1
  have p_past_o := p_past.2.1
  have p_pool := hP.2.2.2.2.2.2.2.1
  have p_pool_lt := p_pool.1
  have p_pool_o := p_pool.2.1
  have p_pool_bits := p_pool.2.2.2.2.2.2.2.2.2.2.1
  have p_pool_wishCount := p_pool.2.2.2.2.2.2.2.2.2.2.2.2.1
  have J_145 : ∀ (x1_145 : Int32) (x2_145 : Int32) (x3_145 : Int32) (x4_145 : Int32) (x5_145 : Option Value) (M_145 : zMt), D_X7_choose_145 P x1_145 x2_145 x3_145 x4_145 M_145 = some r → Zw p l e { frames := 4, cells := 0, slots := 0, locals := 80 * (4) } s m args below meth c G b 6 (MQ below (zQ G b FQ) args s 0 0 (fun q : Nat => b ≤ q)) 0 0 145 [some (.ref (P)), some (.int x1_145), some (.int x2_145), some (.int x3_145), some (.int x4_145), x5_145] [] (L, M_145, N) := by
    intro x1_145 x2_145 x3_145 x4_145 x5_145 M_145 h
    unfold D_X7_choose_145 at h
    refine a_aload_n X dX7_choose_145 rfl ?_
    refine a_getr X lf7_40 (by first | exact p_o | assumption) rfl (by omega) dX7_choose_146 ?_
    refine a_getr X lf7_219 (by first | exact p_pool_o | assumption) rfl (by omega) dX7_choose_149 ?_
    refine a_iload_n X dX7_choose_152 rfl ?_
    refine a_callSv X dX7_choose_153 miX7_cell lm7_175 (c_cell (by first | exact p_pool_wishCount | assumption) (by decide)) rfl rfl (Nat.le_of_ble_eq_true rfl) ⟨by decide, by decide, by decide, by decide⟩ ?_
    refine a_istore X dX7_choose_156 (by decide) ?_
    refine a_aload_n X dX7_choose_158 rfl ?_
    refine a_getr X lf7_33 (by first | exact p_o | assumption) rfl (by omega) dX7_choose_159 ?_
    refine a_aload_n X dX7_choose_162 rfl ?_
    refine a_getr X lf7_26 (by first | exact p_o | assumption) rfl (by omega) dX7_choose_163 ?_
    obtain ⟨e_166, f_166, h⟩ := zBx h
    refine a_callVu X dX7_choose_166 miX1_keep lm7_396 (t_X1_keep (by first | exact p_past | assumption) (by first | exact p_list | assumption) (by omega) f_166) (by first | exact p_past_o | assumption) rfl rfl rfl (Nat.le_of_ble_eq_true rfl) ⟨by decide, by decide, by decide, by decide⟩ ?_
    refine a_aload_n X dX7_choose_169 rfl ?_
    refine a_getr X lf7_26 (by first | exact p_o | assumption) rfl (by omega) dX7_choose_170 ?_
    refine a_aload_n X dX7_choose_173 rfl ?_
    refine a_getr X lf7_40 (by first | exact p_o | assumption) rfl (by omega) dX7_choose_174 ?_
    refine a_getr X lf7_222 (by first | exact p_pool_o | assumption) rfl (by omega) dX7_choose_177 ?_
    refine a_iload_n X dX7_choose_180 rfl ?_
    refine a_callSv X dX7_choose_181 miX7_cell lm7_175 (c_cell (by first | exact p_pool_bits | assumption) (by decide)) rfl rfl (Nat.le_of_ble_eq_true rfl) ⟨by decide, by decide, by decide, by decide⟩ ?_
    refine a_iload_n X dX7_choose_184 rfl ?_
    refine a_iload_n X dX7_choose_185 rfl ?_
    refine a_iload X dX7_choose_186 rfl ?_
    obtain ⟨e_188, f_188, h⟩ := zBx h
    refine a_callVu X dX7_choose_188 miX4_wishFor lm7_283 (t_X4_wishFor (by first | exact p_list | assumption) f_188) (by first | exact p_list_o | assumption) rfl rfl rfl (Nat.le_of_ble_eq_true rfl) ⟨by decide, by decide, by decide, by decide⟩ ?_
    refine a_aload_n X dX7_choose_191 rfl ?_
    refine a_iload X dX7_choose_192 rfl ?_
    obtain ⟨e_194, f_194, h⟩ := zBx h
    refine a_callVv X dX7_choose_194 miX7_changed lm7_122 (t_X7_changed (by first | exact hP | assumption) f_194) (by first | exact p_o | assumption) rfl rfl rfl (Nat.le_of_ble_eq_true rfl) ⟨by decide, by decide, by decide, by decide⟩ ?_
    refine a_iret X hr dX7_choose_197 ⟨by decide, by decide⟩ ?_
    subst hF
    rw [← Option.some.inj h]
    exact ⟨rfl, rfl⟩
  have J_93 : ∀ (x1_93 : Int32) (x2_93 : Int32) (x3_93 : Int32) (x4_93 : Int32) (x5_93 : Option Value) (M_93 : zMt), D_X7_choose_93 P M_93 = some r → Zw p l e { frames := 4, cells := 0, slots := 0, locals := 80 * (4) } s m args below meth c G b 6 (MQ below (zQ G b FQ) args s 0 0 (fun q : Nat => b ≤ q)) 0 0 93 [some (.ref (P)), some (.int x1_93), some (.int x2_93), some (.int x3_93), some (.int x4_93), x5_93] [] (L, M_93, N) := by
    intro x1_93 x2_93 x3_93 x4_93 x5_93 M_93 h
    unfold D_X7_choose_93 at h
    refine a_aload_n X dX7_choose_93 rfl ?_
    refine a_iconst (v := 2) X dX7_choose_94 (by decide) ?_
    obtain ⟨e_95, f_95, h⟩ := zBx h
    refine a_callVv X dX7_choose_95 miX7_refuse lm7_102 (t_X7_refuse (by first | exact hP | assumption) f_95) (by first | exact p_o | assumption) rfl rfl rfl (Nat.le_of_ble_eq_true rfl) ⟨by decide, by decide, by decide, by decide⟩ ?_
    refine a_iret X hr dX7_choose_98 ⟨by decide, by decide⟩ ?_
    subst hF
    rw [← Option.some.inj h]
    exact ⟨rfl, rfl⟩
  have J_60 : ∀ (x1_60 : Int32) (x2_60 : Int32) (x3_60 : Int32) (x4_60 : Int32) (x5_60 : Option Value) (M_60 : zMt), D_X7_choose_60 P x1_60 x2_60 x3_60 x4_60 M_60 = some r → Zw p l e { frames := 4, cells := 0, slots := 0, locals := 80 * (4) } s m args below meth c G b 6 (MQ below (zQ G b FQ) args s 0 0 (fun q : Nat => b ≤ q)) 0 0 60 [some (.ref (P)), some (.int x1_60), some (.int x2_60), some (.int x3_60), some (.int x4_60), x5_60] [] (L, M_60, N) := by
    intro x1_60 x2_60 x3_60 x4_60 x5_60 M_60 h
    unfold D_X7_choose_60 at h
    refine a_aload_n X dX7_choose_60 rfl ?_
    refine a_iload_n X dX7_choose_61 rfl ?_
    obtain ⟨e_62, f_62, h⟩ := zBx h
    refine a_callVx X dX7_choose_62 miX7_isApplicant lm7_206 (t_X7_isApplicant (by first | exact hP | assumption) f_62) (by first | exact p_o | assumption) rfl rfl rfl (Nat.le_of_ble_eq_true rfl) ⟨by decide, by decide, by decide, by decide⟩ (fun r_62 S_62 q_62 => ?_)
    obtain ⟨rfl, rfl, b_62⟩ := q_62
    refine a_if_eq (tgt := 93) X dX7_choose_65 (by decide) (fun h_65 => ?_) (fun h_65 => ?_)
    · replace h := (if_pos h_65).symm.trans h
      exact Zw.to2 (J_93 _ _ _ _ _ _ h) rfl rfl rfl
    · replace h := (if_neg h_65).symm.trans h
      refine a_aload_n X dX7_choose_68 rfl ?_
      refine a_iload_n X dX7_choose_69 rfl ?_
      obtain ⟨e_70, f_70, h⟩ := zBx h
      refine a_callVx X dX7_choose_70 miX7_isUnitOrNone lm7_406 (t_X7_isUnitOrNone (by first | exact hP | assumption) f_70) (by first | exact p_o | assumption) rfl rfl rfl (Nat.le_of_ble_eq_true rfl) ⟨by decide, by decide, by decide, by decide⟩ (fun r_70 S_70 q_70 => ?_)
      obtain ⟨rfl, rfl, b_70⟩ := q_70
      refine a_if_eq (tgt := 93) X dX7_choose_73 (by decide) (fun h_73 => ?_) (fun h_73 => ?_)
      · replace h := (if_pos h_73).symm.trans h
        exact Zw.to2 (J_93 _ _ _ _ _ _ h) rfl rfl rfl
      · replace h := (if_neg h_73).symm.trans h
        refine a_aload_n X dX7_choose_76 rfl ?_
        refine a_iload_n X dX7_choose_77 rfl ?_
        obtain ⟨e_78, f_78, h⟩ := zBx h
        refine a_callVx X dX7_choose_78 miX7_isUnitOrNone lm7_406 (t_X7_isUnitOrNone (by first | exact hP | assumption) f_78) (by first | exact p_o | assumption) rfl rfl rfl (Nat.le_of_ble_eq_true rfl) ⟨by decide, by decide, by decide, by decide⟩ (fun r_78 S_78 q_78 => ?_)
        obtain ⟨rfl, rfl, b_78⟩ := q_78
        refine a_if_eq (tgt := 93) X dX7_choose_81 (by decide) (fun h_81 => ?_) (fun h_81 => ?_)
        · replace h := (if_pos h_81).symm.trans h
          exact Zw.to2 (J_93 _ _ _ _ _ _ h) rfl rfl rfl
        · replace h := (if_neg h_81).symm.trans h
          refine a_aload_n X dX7_choose_84 rfl ?_
          refine a_iload X dX7_choose_85 rfl ?_
          obtain ⟨e_87, f_87, h⟩ := zBx h
          refine a_callVx X dX7_choose_87 miX7_isUnitOrNone lm7_406 (t_X7_isUnitOrNone (by first | exact hP | assumption) f_87) (by first | exact p_o | assumption) rfl rfl rfl (Nat.le_of_ble_eq_true rfl) ⟨by decide, by decide, by decide, by decide⟩ (fun r_87 S_87 q_87 => ?_)
          obtain ⟨rfl, rfl, b_87⟩ := q_87
          refine a_if_ne (tgt := 99) X dX7_choose_90 (by decide) (fun h_90 => ?_) (fun h_90 => ?_)
          · replace h := (if_neg h_90).symm.trans h
            refine a_aload_n X dX7_choose_99 rfl ?_
            refine a_getr X lf7_40 (by first | exact p_o | assumption) rfl (by omega) dX7_choose_100 ?_
            refine a_iload_n X dX7_choose_103 rfl ?_
            refine a_iconst (v := 0) X dX7_choose_104 (by decide) ?_
            obtain ⟨e_105, f_105, h⟩ := zBx h
            refine a_callVv X dX7_choose_105 miX2_wish lm7_226 (t_X2_wish (by first | exact p_pool | assumption) f_105) (by first | exact p_pool_o | assumption) rfl rfl rfl (Nat.le_of_ble_eq_true rfl) ⟨by decide, by decide, by decide, by decide⟩ ?_
            refine a_iload_n X dX7_choose_108 rfl ?_
            refine a_icmp_ne (tgt := 145) X dX7_choose_109 (by decide) (fun h_109 => ?_) (fun h_109 => ?_)
            · replace h := (if_neg h_109).symm.trans h
              exact Zw.to2 (J_145 _ _ _ _ _ _ h) rfl rfl rfl
            · replace h := (if_pos h_109).symm.trans h
              refine a_aload_n X dX7_choose_112 rfl ?_
              refine a_getr X lf7_40 (by first | exact p_o | assumption) rfl (by omega) dX7_choose_113 ?_
              refine a_iload_n X dX7_choose_116 rfl ?_
              refine a_iconst (v := 1) X dX7_choose_117 (by decide) ?_
              obtain ⟨e_118, f_118, h⟩ := zBx h
              refine a_callVv X dX7_choose_118 miX2_wish lm7_226 (t_X2_wish (by first | exact p_pool | assumption) f_118) (by first | exact p_pool_o | assumption) rfl rfl rfl (Nat.le_of_ble_eq_true rfl) ⟨by decide, by decide, by decide, by decide⟩ ?_
              refine a_iload_n X dX7_choose_121 rfl ?_
              refine a_icmp_ne (tgt := 145) X dX7_choose_122 (by decide) (fun h_122 => ?_) (fun h_122 => ?_)
              · replace h := (if_neg h_122).symm.trans h
                exact Zw.to2 (J_145 _ _ _ _ _ _ h) rfl rfl rfl
              · replace h := (if_pos h_122).symm.trans h
                refine a_aload_n X dX7_choose_125 rfl ?_
                refine a_getr X lf7_40 (by first | exact p_o | assumption) rfl (by omega) dX7_choose_126 ?_
                refine a_iload_n X dX7_choose_129 rfl ?_
                refine a_iconst (v := 2) X dX7_choose_130 (by decide) ?_
                obtain ⟨e_131, f_131, h⟩ := zBx h
                refine a_callVv X dX7_choose_131 miX2_wish lm7_226 (t_X2_wish (by first | exact p_pool | assumption) f_131) (by first | exact p_pool_o | assumption) rfl rfl rfl (Nat.le_of_ble_eq_true rfl) ⟨by decide, by decide, by decide, by decide⟩ ?_
                refine a_iload X dX7_choose_134 rfl ?_
                refine a_icmp_ne (tgt := 145) X dX7_choose_136 (by decide) (fun h_136 => ?_) (fun h_136 => ?_)
                · replace h := (if_neg h_136).symm.trans h
                  exact Zw.to2 (J_145 _ _ _ _ _ _ h) rfl rfl rfl
                · replace h := (if_pos h_136).symm.trans h
                  refine a_aload_n X dX7_choose_139 rfl ?_
                  refine a_iconst (v := 4) X dX7_choose_140 (by decide) ?_
                  obtain ⟨e_141, f_141, h⟩ := zBx h
                  refine a_callVv X dX7_choose_141 miX7_refuse lm7_102 (t_X7_refuse (by first | exact hP | assumption) f_141) (by first | exact p_o | assumption) rfl rfl rfl (Nat.le_of_ble_eq_true rfl) ⟨by decide, by decide, by decide, by decide⟩ ?_
                  refine a_iret X hr dX7_choose_144 ⟨by decide, by decide⟩ ?_
                  subst hF
                  rw [← Option.some.inj h]
                  exact ⟨rfl, rfl⟩
          · replace h := (if_pos h_90).symm.trans h
            exact Zw.to2 (J_93 _ _ _ _ _ _ h) rfl rfl rfl
  have J_54 : ∀ (x1_54 : Int32) (x2_54 : Int32) (x3_54 : Int32) (x4_54 : Int32) (x5_54 : Option Value) (M_54 : zMt), D_X7_choose_54 P M_54 = some r → Zw p l e { frames := 4, cells := 0, slots := 0, locals := 80 * (4) } s m args below meth c G b 6 (MQ below (zQ G b FQ) args s 0 0 (fun q : Nat => b ≤ q)) 0 0 54 [some (.ref (P)), some (.int x1_54), some (.int x2_54), some (.int x3_54), some (.int x4_54), x5_54] [] (L, M_54, N) := by
    intro x1_54 x2_54 x3_54 x4_54 x5_54 M_54 h
    unfold D_X7_choose_54 at h
    refine a_aload_n X dX7_choose_54 rfl ?_
    refine a_iconst (v := 1) X dX7_choose_55 (by decide) ?_
    obtain ⟨e_56, f_56, h⟩ := zBx h
    refine a_callVv X dX7_choose_56 miX7_refuse lm7_102 (t_X7_refuse (by first | exact hP | assumption) f_56) (by first | exact p_o | assumption) rfl rfl rfl (Nat.le_of_ble_eq_true rfl) ⟨by decide, by decide, by decide, by decide⟩ ?_
    refine a_iret X hr dX7_choose_59 ⟨by decide, by decide⟩ ?_
    subst hF
    rw [← Option.some.inj h]
    exact ⟨rfl, rfl⟩
  have J_43 : ∀ (x1_43 : Int32) (x2_43 : Int32) (x3_43 : Int32) (x4_43 : Int32) (x5_43 : Option Value) (M_43 : zMt), D_X7_choose_43 P x1_43 x2_43 x3_43 x4_43 M_43 = some r → Zw p l e { frames := 4, cells := 0, slots := 0, locals := 80 * (4) } s m args below meth c G b 6 (MQ below (zQ G b FQ) args s 0 0 (fun q : Nat => b ≤ q)) 0 0 43 [some (.ref (P)), some (.int x1_43), some (.int x2_43), some (.int x3_43), some (.int x4_43), x5_43] [] (L, M_43, N) := by
    intro x1_43 x2_43 x3_43 x4_43 x5_43 M_43 h
    unfold D_X7_choose_43 at h
    refine a_iload_n X dX7_choose_43 rfl ?_
    refine a_iconst (v := -1) X dX7_choose_44 (by decide) ?_
    refine a_icmp_eq (tgt := 60) X dX7_choose_45 (by decide) (fun h_45 => ?_) (fun h_45 => ?_)
    · replace h := (if_pos h_45).symm.trans h
      exact Zw.to2 (J_60 _ _ _ _ _ _ h) rfl rfl rfl
    · replace h := (if_neg h_45).symm.trans h
      refine a_iload_n X dX7_choose_48 rfl ?_
      refine a_iload X dX7_choose_49 rfl ?_
      refine a_icmp_ne (tgt := 60) X dX7_choose_51 (by decide) (fun h_51 => ?_) (fun h_51 => ?_)
      · replace h := (if_neg h_51).symm.trans h
        exact Zw.to2 (J_60 _ _ _ _ _ _ h) rfl rfl rfl
      · replace h := (if_pos h_51).symm.trans h
        exact Zw.to2 (J_54 _ _ _ _ _ _ h) rfl rfl rfl
  have J_27 : ∀ (x1_27 : Int32) (x2_27 : Int32) (x3_27 : Int32) (x4_27 : Int32) (x5_27 : Option Value) (M_27 : zMt), D_X7_choose_27 P x1_27 x2_27 x3_27 x4_27 M_27 = some r → Zw p l e { frames := 4, cells := 0, slots := 0, locals := 80 * (4) } s m args below meth c G b 6 (MQ below (zQ G b FQ) args s 0 0 (fun q : Nat => b ≤ q)) 0 0 27 [some (.ref (P)), some (.int x1_27), some (.int x2_27), some (.int x3_27), some (.int x4_27), x5_27] [] (L, M_27, N) := by
    intro x1_27 x2_27 x3_27 x4_27 x5_27 M_27 h
    unfold D_X7_choose_27 at h
    refine a_iload_n X dX7_choose_27 rfl ?_
    refine a_iconst (v := -1) X dX7_choose_28 (by decide) ?_
    refine a_icmp_eq (tgt := 43) X dX7_choose_29 (by decide) (fun h_29 => ?_) (fun h_29 => ?_)
    · replace h := (if_pos h_29).symm.trans h
      exact Zw.to2 (J_43 _ _ _ _ _ _ h) rfl rfl rfl
    · replace h := (if_neg h_29).symm.trans h
      refine a_iload_n X dX7_choose_32 rfl ?_
      refine a_iload_n X dX7_choose_33 rfl ?_
      refine a_icmp_eq (tgt := 54) X dX7_choose_34 (by decide) (fun h_34 => ?_) (fun h_34 => ?_)
      · replace h := (if_pos h_34).symm.trans h
        exact Zw.to2 (J_54 _ _ _ _ _ _ h) rfl rfl rfl
      · replace h := (if_neg h_34).symm.trans h
        refine a_iload_n X dX7_choose_37 rfl ?_
        refine a_iload X dX7_choose_38 rfl ?_
        refine a_icmp_eq (tgt := 54) X dX7_choose_40 (by decide) (fun h_40 => ?_) (fun h_40 => ?_)
        · replace h := (if_pos h_40).symm.trans h
          exact Zw.to2 (J_54 _ _ _ _ _ _ h) rfl rfl rfl
        · replace h := (if_neg h_40).symm.trans h
          exact Zw.to2 (J_43 _ _ _ _ _ _ h) rfl rfl rfl
  have J_21 : ∀ (x1_21 : Int32) (x2_21 : Int32) (x3_21 : Int32) (x4_21 : Int32) (x5_21 : Option Value) (M_21 : zMt), D_X7_choose_21 P M_21 = some r → Zw p l e { frames := 4, cells := 0, slots := 0, locals := 80 * (4) } s m args below meth c G b 6 (MQ below (zQ G b FQ) args s 0 0 (fun q : Nat => b ≤ q)) 0 0 21 [some (.ref (P)), some (.int x1_21), some (.int x2_21), some (.int x3_21), some (.int x4_21), x5_21] [] (L, M_21, N) := by
    intro x1_21 x2_21 x3_21 x4_21 x5_21 M_21 h
    unfold D_X7_choose_21 at h
    refine a_aload_n X dX7_choose_21 rfl ?_
    refine a_iconst (v := 1) X dX7_choose_22 (by decide) ?_
    obtain ⟨e_23, f_23, h⟩ := zBx h
    refine a_callVv X dX7_choose_23 miX7_refuse lm7_102 (t_X7_refuse (by first | exact hP | assumption) f_23) (by first | exact p_o | assumption) rfl rfl rfl (Nat.le_of_ble_eq_true rfl) ⟨by decide, by decide, by decide, by decide⟩ ?_
    refine a_iret X hr dX7_choose_26 ⟨by decide, by decide⟩ ?_
    subst hF
    rw [← Option.some.inj h]
    exact ⟨rfl, rfl⟩
  have J_10 : ∀ (x1_10 : Int32) (x2_10 : Int32) (x3_10 : Int32) (x4_10 : Int32) (x5_10 : Option Value) (M_10 : zMt), D_X7_choose_10 P x1_10 x2_10 x3_10 x4_10 M_10 = some r → Zw p l e { frames := 4, cells := 0, slots := 0, locals := 80 * (4) } s m args below meth c G b 6 (MQ below (zQ G b FQ) args s 0 0 (fun q : Nat => b ≤ q)) 0 0 10 [some (.ref (P)), some (.int x1_10), some (.int x2_10), some (.int x3_10), some (.int x4_10), x5_10] [] (L, M_10, N) := by
    intro x1_10 x2_10 x3_10 x4_10 x5_10 M_10 h
    unfold D_X7_choose_10 at h
    refine a_iload_n X dX7_choose_10 rfl ?_
    refine a_iconst (v := -1) X dX7_choose_11 (by decide) ?_
    refine a_icmp_ne (tgt := 27) X dX7_choose_12 (by decide) (fun h_12 => ?_) (fun h_12 => ?_)
    · replace h := (if_neg h_12).symm.trans h
      exact Zw.to2 (J_27 _ _ _ _ _ _ h) rfl rfl rfl
    · replace h := (if_pos h_12).symm.trans h
      refine a_iload X dX7_choose_15 rfl ?_
      refine a_iconst (v := -1) X dX7_choose_17 (by decide) ?_
      refine a_icmp_eq (tgt := 27) X dX7_choose_18 (by decide) (fun h_18 => ?_) (fun h_18 => ?_)
      · replace h := (if_pos h_18).symm.trans h
        exact Zw.to2 (J_27 _ _ _ _ _ _ h) rfl rfl rfl
      · replace h := (if_neg h_18).symm.trans h
        exact Zw.to2 (J_21 _ _ _ _ _ _ h) rfl rfl rfl
  unfold D_X7_choose at h
  refine a_iload_n X dX7_choose_0 rfl ?_
  refine a_iconst (v := -1) X dX7_choose_1 (by decide) ?_
  refine a_icmp_ne (tgt := 10) X dX7_choose_2 (by decide) (fun h_2 => ?_) (fun h_2 => ?_)
  · replace h := (if_neg h_2).symm.trans h
    exact Zw.to2 (J_10 _ _ _ _ _ _ h) rfl rfl rfl
  · replace h := (if_pos h_2).symm.trans h
    refine a_iload_n X dX7_choose_5 rfl ?_
    refine a_iconst (v := -1) X dX7_choose_6 (by decide) ?_
    refine a_icmp_ne (tgt := 21) X dX7_choose_7 (by decide) (fun h_7 => ?_) (fun h_7 => ?_)
    · replace h := (if_neg h_7).symm.trans h
      exact Zw.to2 (J_21 _ _ _ _ _ _ h) rfl rfl rfl
    · replace h := (if_pos h_7).symm.trans h
      exact Zw.to2 (J_10 _ _ _ _ _ _ h) rfl rfl rfl
noncomputable def D_X7_law_9 (P : Nat) (M_9 : zMt) : Option (Int32 × zMt) :=
  zB (D_X7_refuse P (1 : Int32) M_9) fun e_11 =>
  some (e_11.1, e_11.2)
noncomputable def D_X7_law (P : Nat) (v0 : Int32) (M : zMt) : Option (Int32 × zMt) :=
  if v0 < 0 then
    D_X7_law_9 P M
  else
    if v0 ≤ (2 : Int32) then
      if (M (P + 17) 3) = v0 then
        zB (D_X7_refuse P (4 : Int32) M) fun e_30 =>
        some (e_30.1, e_30.2)
      else
        zB (D_X1_keep (P + 25) (P + 17) M) fun e_42 =>
        zLt (zu e_42 (P + 17) 3 v0) fun M_50 =>
        zB (D_X7_changed P (M (P + 17) 3) M_50) fun e_55 =>
        some (e_55.1, e_55.2)
    else
      D_X7_law_9 P M
set_option maxRecDepth 100000 in
set_option maxHeartbeats 4000000 in
theorem t_X7_law {l : Launch} {G : zG} {b : Nat} {L : List zC} {M : zMt} {N : zNt} {P : Nat} {v0 : Int32} (hP : LX7 L P) {r : Int32 × zMt} (h : D_X7_law P v0 M = some r) : zM l G b yX7_law cX7_law 3 (some .int) 4 0 0 [.ref P, .int v0] (L, M, N) (fun r2 z => r2 = some (.int r.1) ∧ z = (L, r.2, N)) := by
  refine zM.of miX7_law (Nat.le_of_ble_eq_true rfl) ?_
  intro p e s m args below meth c X hr hname
  generalize hF : ((fun r2 z => r2 = some (.int r.1) ∧ z = (L, r.2, N)) : Option Value → zS → Prop) = FQ
  change Zw p l e { frames := 4, cells := 0, slots := 0, locals := 80 * (4) } s m args below meth c G b 3 (MQ below (zQ G b FQ) args s 0 0 (fun q : Nat => b ≤ q)) 0 0 0 [some (.ref P), some (.int v0), none] [] (L, M, N)
  have p_lt := hP.1
  have p_o := hP.2.1
  have p_list := hP.2.2.2.2.2.1
  have p_list_lt := p_list.1
  have p_list_o := p_list.2.1
  have p_past := hP.2.2.2.2.2.2.1
  have p_past_lt := p_past.1
  have p_past_o := p_past.2.1
  have J_9 : ∀ (x1_9 : Int32) (x2_9 : Option Value) (M_9 : zMt), D_X7_law_9 P M_9 = some r → Zw p l e { frames := 4, cells := 0, slots := 0, locals := 80 * (4) } s m args below meth c G b 3 (MQ below (zQ G b FQ) args s 0 0 (fun q : Nat => b ≤ q)) 0 0 9 [some (.ref (P)), some (.int x1_9), x2_9] [] (L, M_9, N) := by
    intro x1_9 x2_9 M_9 h
    unfold D_X7_law_9 at h
    refine a_aload_n X dX7_law_9 rfl ?_
    refine a_iconst (v := 1) X dX7_law_10 (by decide) ?_
    obtain ⟨e_11, f_11, h⟩ := zBx h
    refine a_callVv X dX7_law_11 miX7_refuse lm7_102 (t_X7_refuse (by first | exact hP | assumption) f_11) (by first | exact p_o | assumption) rfl rfl rfl (Nat.le_of_ble_eq_true rfl) ⟨by decide, by decide, by decide, by decide⟩ ?_
    refine a_iret X hr dX7_law_14 ⟨by decide, by decide⟩ ?_
    subst hF
    rw [← Option.some.inj h]
    exact ⟨rfl, rfl⟩
  unfold D_X7_law at h
  refine a_iload_n X dX7_law_0 rfl ?_
  refine a_if_lt (tgt := 9) X dX7_law_1 (by decide) (fun h_1 => ?_) (fun h_1 => ?_)
  · replace h := (if_pos h_1).symm.trans h
    exact Zw.to2 (J_9 _ _ _ h) rfl rfl rfl
  · replace h := (if_neg h_1).symm.trans h
    refine a_iload_n X dX7_law_4 rfl ?_
    refine a_iconst (v := 2) X dX7_law_5 (by decide) ?_
    refine a_icmp_le (tgt := 15) X dX7_law_6 (by decide) (fun h_6 => ?_) (fun h_6 => ?_)
    · replace h := (if_pos h_6).symm.trans h
      refine a_aload_n X dX7_law_15 rfl ?_
      refine a_getr X lf7_26 (by first | exact p_o | assumption) rfl (by omega) dX7_law_16 ?_
      refine a_geti X lf7_143 (by first | exact p_list_o | assumption) rfl dX7_law_19 ?_
      refine a_istore_n X dX7_law_22 (by decide) ?_
      refine a_iload_n X dX7_law_23 rfl ?_
      refine a_iload_n X dX7_law_24 rfl ?_
      refine a_icmp_ne (tgt := 34) X dX7_law_25 (by decide) (fun h_25 => ?_) (fun h_25 => ?_)
      · replace h := (if_neg h_25).symm.trans h
        refine a_aload_n X dX7_law_34 rfl ?_
        refine a_getr X lf7_33 (by first | exact p_o | assumption) rfl (by omega) dX7_law_35 ?_
        refine a_aload_n X dX7_law_38 rfl ?_
        refine a_getr X lf7_26 (by first | exact p_o | assumption) rfl (by omega) dX7_law_39 ?_
        obtain ⟨e_42, f_42, h⟩ := zBx h
        refine a_callVu X dX7_law_42 miX1_keep lm7_396 (t_X1_keep (by first | exact p_past | assumption) (by first | exact p_list | assumption) (by omega) f_42) (by first | exact p_past_o | assumption) rfl rfl rfl (Nat.le_of_ble_eq_true rfl) ⟨by decide, by decide, by decide, by decide⟩ ?_
        refine a_aload_n X dX7_law_45 rfl ?_
        refine a_getr X lf7_26 (by first | exact p_o | assumption) rfl (by omega) dX7_law_46 ?_
        refine a_iload_n X dX7_law_49 rfl ?_
        obtain ⟨M_50, f_50, h⟩ := zLtx h
        refine d_puti X lf7_143 (by first | exact p_list_o | assumption) rfl dX7_law_50 f_50 ?_
        refine a_aload_n X dX7_law_53 rfl ?_
        refine a_iload_n X dX7_law_54 rfl ?_
        obtain ⟨e_55, f_55, h⟩ := zBx h
        refine a_callVv X dX7_law_55 miX7_changed lm7_122 (t_X7_changed (by first | exact hP | assumption) f_55) (by first | exact p_o | assumption) rfl rfl rfl (Nat.le_of_ble_eq_true rfl) ⟨by decide, by decide, by decide, by decide⟩ ?_
        refine a_iret X hr dX7_law_58 ⟨by decide, by decide⟩ ?_
        subst hF
        rw [← Option.some.inj h]
        exact ⟨rfl, rfl⟩
      · replace h := (if_pos h_25).symm.trans h
        refine a_aload_n X dX7_law_28 rfl ?_
        refine a_iconst (v := 4) X dX7_law_29 (by decide) ?_
        obtain ⟨e_30, f_30, h⟩ := zBx h
        refine a_callVv X dX7_law_30 miX7_refuse lm7_102 (t_X7_refuse (by first | exact hP | assumption) f_30) (by first | exact p_o | assumption) rfl rfl rfl (Nat.le_of_ble_eq_true rfl) ⟨by decide, by decide, by decide, by decide⟩ ?_
        refine a_iret X hr dX7_law_33 ⟨by decide, by decide⟩ ?_
        subst hF
        rw [← Option.some.inj h]
        exact ⟨rfl, rfl⟩
    · replace h := (if_neg h_6).symm.trans h
      exact Zw.to2 (J_9 _ _ _ h) rfl rfl rfl
noncomputable def D_X7_prefer_10 (P : Nat) (M_10 : zMt) : Option (Int32 × zMt) :=
  zB (D_X7_refuse P (1 : Int32) M_10) fun e_12 =>
  some (e_12.1, e_12.2)
noncomputable def D_X7_prefer (P : Nat) (v0 : Int32) (M : zMt) : Option (Int32 × zMt) :=
  if v0 < 0 then
    D_X7_prefer_10 P M
  else
    if v0 ≤ (100 : Int32) then
      if (M (P + 17) 4) = v0 then
        zB (D_X7_refuse P (4 : Int32) M) fun e_31 =>
        some (e_31.1, e_31.2)
      else
        zB (D_X1_keep (P + 25) (P + 17) M) fun e_43 =>
        zLt (zu e_43 (P + 17) 4 v0) fun M_51 =>
        zB (D_X7_changed P (M (P + 17) 4) M_51) fun e_56 =>
        some (e_56.1, e_56.2)
    else
      D_X7_prefer_10 P M
set_option maxRecDepth 100000 in
set_option maxHeartbeats 4000000 in
theorem t_X7_prefer {l : Launch} {G : zG} {b : Nat} {L : List zC} {M : zMt} {N : zNt} {P : Nat} {v0 : Int32} (hP : LX7 L P) {r : Int32 × zMt} (h : D_X7_prefer P v0 M = some r) : zM l G b yX7_prefer cX7_prefer 3 (some .int) 4 0 0 [.ref P, .int v0] (L, M, N) (fun r2 z => r2 = some (.int r.1) ∧ z = (L, r.2, N)) := by
  refine zM.of miX7_prefer (Nat.le_of_ble_eq_true rfl) ?_
  intro p e s m args below meth c X hr hname
  generalize hF : ((fun r2 z => r2 = some (.int r.1) ∧ z = (L, r.2, N)) : Option Value → zS → Prop) = FQ
  change Zw p l e { frames := 4, cells := 0, slots := 0, locals := 80 * (4) } s m args below meth c G b 3 (MQ below (zQ G b FQ) args s 0 0 (fun q : Nat => b ≤ q)) 0 0 0 [some (.ref P), some (.int v0), none] [] (L, M, N)
  have p_lt := hP.1
  have p_o := hP.2.1
  have p_list := hP.2.2.2.2.2.1
  have p_list_lt := p_list.1
  have p_list_o := p_list.2.1
  have p_past := hP.2.2.2.2.2.2.1
  have p_past_lt := p_past.1
  have p_past_o := p_past.2.1
  have J_10 : ∀ (x1_10 : Int32) (x2_10 : Option Value) (M_10 : zMt), D_X7_prefer_10 P M_10 = some r → Zw p l e { frames := 4, cells := 0, slots := 0, locals := 80 * (4) } s m args below meth c G b 3 (MQ below (zQ G b FQ) args s 0 0 (fun q : Nat => b ≤ q)) 0 0 10 [some (.ref (P)), some (.int x1_10), x2_10] [] (L, M_10, N) := by
    intro x1_10 x2_10 M_10 h
    unfold D_X7_prefer_10 at h
    refine a_aload_n X dX7_prefer_10 rfl ?_
    refine a_iconst (v := 1) X dX7_prefer_11 (by decide) ?_
    obtain ⟨e_12, f_12, h⟩ := zBx h
    refine a_callVv X dX7_prefer_12 miX7_refuse lm7_102 (t_X7_refuse (by first | exact hP | assumption) f_12) (by first | exact p_o | assumption) rfl rfl rfl (Nat.le_of_ble_eq_true rfl) ⟨by decide, by decide, by decide, by decide⟩ ?_
    refine a_iret X hr dX7_prefer_15 ⟨by decide, by decide⟩ ?_
    subst hF
    rw [← Option.some.inj h]
    exact ⟨rfl, rfl⟩
  unfold D_X7_prefer at h
  refine a_iload_n X dX7_prefer_0 rfl ?_
  refine a_if_lt (tgt := 10) X dX7_prefer_1 (by decide) (fun h_1 => ?_) (fun h_1 => ?_)
  · replace h := (if_pos h_1).symm.trans h
    exact Zw.to2 (J_10 _ _ _ h) rfl rfl rfl
  · replace h := (if_neg h_1).symm.trans h
    refine a_iload_n X dX7_prefer_4 rfl ?_
    refine a_bipush (v := 100) X dX7_prefer_5 (by decide) ?_
    refine a_icmp_le (tgt := 16) X dX7_prefer_7 (by decide) (fun h_7 => ?_) (fun h_7 => ?_)
    · replace h := (if_pos h_7).symm.trans h
      refine a_aload_n X dX7_prefer_16 rfl ?_
      refine a_getr X lf7_26 (by first | exact p_o | assumption) rfl (by omega) dX7_prefer_17 ?_
      refine a_geti X lf7_146 (by first | exact p_list_o | assumption) rfl dX7_prefer_20 ?_
      refine a_istore_n X dX7_prefer_23 (by decide) ?_
      refine a_iload_n X dX7_prefer_24 rfl ?_
      refine a_iload_n X dX7_prefer_25 rfl ?_
      refine a_icmp_ne (tgt := 35) X dX7_prefer_26 (by decide) (fun h_26 => ?_) (fun h_26 => ?_)
      · replace h := (if_neg h_26).symm.trans h
        refine a_aload_n X dX7_prefer_35 rfl ?_
        refine a_getr X lf7_33 (by first | exact p_o | assumption) rfl (by omega) dX7_prefer_36 ?_
        refine a_aload_n X dX7_prefer_39 rfl ?_
        refine a_getr X lf7_26 (by first | exact p_o | assumption) rfl (by omega) dX7_prefer_40 ?_
        obtain ⟨e_43, f_43, h⟩ := zBx h
        refine a_callVu X dX7_prefer_43 miX1_keep lm7_396 (t_X1_keep (by first | exact p_past | assumption) (by first | exact p_list | assumption) (by omega) f_43) (by first | exact p_past_o | assumption) rfl rfl rfl (Nat.le_of_ble_eq_true rfl) ⟨by decide, by decide, by decide, by decide⟩ ?_
        refine a_aload_n X dX7_prefer_46 rfl ?_
        refine a_getr X lf7_26 (by first | exact p_o | assumption) rfl (by omega) dX7_prefer_47 ?_
        refine a_iload_n X dX7_prefer_50 rfl ?_
        obtain ⟨M_51, f_51, h⟩ := zLtx h
        refine d_puti X lf7_146 (by first | exact p_list_o | assumption) rfl dX7_prefer_51 f_51 ?_
        refine a_aload_n X dX7_prefer_54 rfl ?_
        refine a_iload_n X dX7_prefer_55 rfl ?_
        obtain ⟨e_56, f_56, h⟩ := zBx h
        refine a_callVv X dX7_prefer_56 miX7_changed lm7_122 (t_X7_changed (by first | exact hP | assumption) f_56) (by first | exact p_o | assumption) rfl rfl rfl (Nat.le_of_ble_eq_true rfl) ⟨by decide, by decide, by decide, by decide⟩ ?_
        refine a_iret X hr dX7_prefer_59 ⟨by decide, by decide⟩ ?_
        subst hF
        rw [← Option.some.inj h]
        exact ⟨rfl, rfl⟩
      · replace h := (if_pos h_26).symm.trans h
        refine a_aload_n X dX7_prefer_29 rfl ?_
        refine a_iconst (v := 4) X dX7_prefer_30 (by decide) ?_
        obtain ⟨e_31, f_31, h⟩ := zBx h
        refine a_callVv X dX7_prefer_31 miX7_refuse lm7_102 (t_X7_refuse (by first | exact hP | assumption) f_31) (by first | exact p_o | assumption) rfl rfl rfl (Nat.le_of_ble_eq_true rfl) ⟨by decide, by decide, by decide, by decide⟩ ?_
        refine a_iret X hr dX7_prefer_34 ⟨by decide, by decide⟩ ?_
        subst hF
        rw [← Option.some.inj h]
        exact ⟨rfl, rfl⟩
    · replace h := (if_neg h_7).symm.trans h
      exact Zw.to2 (J_10 _ _ _ h) rfl rfl rfl
noncomputable def D_X7_guests_10 (P : Nat) (M_10 : zMt) : Option (Int32 × zMt) :=
  zB (D_X7_refuse P (1 : Int32) M_10) fun e_12 =>
  some (e_12.1, e_12.2)
noncomputable def D_X7_guests (P : Nat) (v0 : Int32) (M : zMt) : Option (Int32 × zMt) :=
  if v0 < 0 then
    D_X7_guests_10 P M
  else
    if v0 ≤ (100 : Int32) then
      if (M (P + 17) 5) = v0 then
        zB (D_X7_refuse P (4 : Int32) M) fun e_31 =>
        some (e_31.1, e_31.2)
      else
        zB (D_X1_keep (P + 25) (P + 17) M) fun e_43 =>
        zLt (zu e_43 (P + 17) 5 v0) fun M_51 =>
        zB (D_X7_changed P (M (P + 17) 5) M_51) fun e_56 =>
        some (e_56.1, e_56.2)
    else
      D_X7_guests_10 P M
set_option maxRecDepth 100000 in
set_option maxHeartbeats 4000000 in
theorem t_X7_guests {l : Launch} {G : zG} {b : Nat} {L : List zC} {M : zMt} {N : zNt} {P : Nat} {v0 : Int32} (hP : LX7 L P) {r : Int32 × zMt} (h : D_X7_guests P v0 M = some r) : zM l G b yX7_guests cX7_guests 3 (some .int) 4 0 0 [.ref P, .int v0] (L, M, N) (fun r2 z => r2 = some (.int r.1) ∧ z = (L, r.2, N)) := by
  refine zM.of miX7_guests (Nat.le_of_ble_eq_true rfl) ?_
  intro p e s m args below meth c X hr hname
  generalize hF : ((fun r2 z => r2 = some (.int r.1) ∧ z = (L, r.2, N)) : Option Value → zS → Prop) = FQ
  change Zw p l e { frames := 4, cells := 0, slots := 0, locals := 80 * (4) } s m args below meth c G b 3 (MQ below (zQ G b FQ) args s 0 0 (fun q : Nat => b ≤ q)) 0 0 0 [some (.ref P), some (.int v0), none] [] (L, M, N)
  have p_lt := hP.1
  have p_o := hP.2.1
  have p_list := hP.2.2.2.2.2.1
  have p_list_lt := p_list.1
  have p_list_o := p_list.2.1
  have p_past := hP.2.2.2.2.2.2.1
  have p_past_lt := p_past.1
  have p_past_o := p_past.2.1
  have J_10 : ∀ (x1_10 : Int32) (x2_10 : Option Value) (M_10 : zMt), D_X7_guests_10 P M_10 = some r → Zw p l e { frames := 4, cells := 0, slots := 0, locals := 80 * (4) } s m args below meth c G b 3 (MQ below (zQ G b FQ) args s 0 0 (fun q : Nat => b ≤ q)) 0 0 10 [some (.ref (P)), some (.int x1_10), x2_10] [] (L, M_10, N) := by
    intro x1_10 x2_10 M_10 h
    unfold D_X7_guests_10 at h
    refine a_aload_n X dX7_guests_10 rfl ?_
    refine a_iconst (v := 1) X dX7_guests_11 (by decide) ?_
    obtain ⟨e_12, f_12, h⟩ := zBx h
    refine a_callVv X dX7_guests_12 miX7_refuse lm7_102 (t_X7_refuse (by first | exact hP | assumption) f_12) (by first | exact p_o | assumption) rfl rfl rfl (Nat.le_of_ble_eq_true rfl) ⟨by decide, by decide, by decide, by decide⟩ ?_
    refine a_iret X hr dX7_guests_15 ⟨by decide, by decide⟩ ?_
    subst hF
    rw [← Option.some.inj h]
    exact ⟨rfl, rfl⟩
  unfold D_X7_guests at h
  refine a_iload_n X dX7_guests_0 rfl ?_
  refine a_if_lt (tgt := 10) X dX7_guests_1 (by decide) (fun h_1 => ?_) (fun h_1 => ?_)
  · replace h := (if_pos h_1).symm.trans h
    exact Zw.to2 (J_10 _ _ _ h) rfl rfl rfl
  · replace h := (if_neg h_1).symm.trans h
    refine a_iload_n X dX7_guests_4 rfl ?_
    refine a_bipush (v := 100) X dX7_guests_5 (by decide) ?_
    refine a_icmp_le (tgt := 16) X dX7_guests_7 (by decide) (fun h_7 => ?_) (fun h_7 => ?_)
    · replace h := (if_pos h_7).symm.trans h
      refine a_aload_n X dX7_guests_16 rfl ?_
      refine a_getr X lf7_26 (by first | exact p_o | assumption) rfl (by omega) dX7_guests_17 ?_
      refine a_geti X lf7_149 (by first | exact p_list_o | assumption) rfl dX7_guests_20 ?_
      refine a_istore_n X dX7_guests_23 (by decide) ?_
      refine a_iload_n X dX7_guests_24 rfl ?_
      refine a_iload_n X dX7_guests_25 rfl ?_
      refine a_icmp_ne (tgt := 35) X dX7_guests_26 (by decide) (fun h_26 => ?_) (fun h_26 => ?_)
      · replace h := (if_neg h_26).symm.trans h
        refine a_aload_n X dX7_guests_35 rfl ?_
        refine a_getr X lf7_33 (by first | exact p_o | assumption) rfl (by omega) dX7_guests_36 ?_
        refine a_aload_n X dX7_guests_39 rfl ?_
        refine a_getr X lf7_26 (by first | exact p_o | assumption) rfl (by omega) dX7_guests_40 ?_
        obtain ⟨e_43, f_43, h⟩ := zBx h
        refine a_callVu X dX7_guests_43 miX1_keep lm7_396 (t_X1_keep (by first | exact p_past | assumption) (by first | exact p_list | assumption) (by omega) f_43) (by first | exact p_past_o | assumption) rfl rfl rfl (Nat.le_of_ble_eq_true rfl) ⟨by decide, by decide, by decide, by decide⟩ ?_
        refine a_aload_n X dX7_guests_46 rfl ?_
        refine a_getr X lf7_26 (by first | exact p_o | assumption) rfl (by omega) dX7_guests_47 ?_
        refine a_iload_n X dX7_guests_50 rfl ?_
        obtain ⟨M_51, f_51, h⟩ := zLtx h
        refine d_puti X lf7_149 (by first | exact p_list_o | assumption) rfl dX7_guests_51 f_51 ?_
        refine a_aload_n X dX7_guests_54 rfl ?_
        refine a_iload_n X dX7_guests_55 rfl ?_
        obtain ⟨e_56, f_56, h⟩ := zBx h
        refine a_callVv X dX7_guests_56 miX7_changed lm7_122 (t_X7_changed (by first | exact hP | assumption) f_56) (by first | exact p_o | assumption) rfl rfl rfl (Nat.le_of_ble_eq_true rfl) ⟨by decide, by decide, by decide, by decide⟩ ?_
        refine a_iret X hr dX7_guests_59 ⟨by decide, by decide⟩ ?_
        subst hF
        rw [← Option.some.inj h]
        exact ⟨rfl, rfl⟩
      · replace h := (if_pos h_26).symm.trans h
        refine a_aload_n X dX7_guests_29 rfl ?_
        refine a_iconst (v := 4) X dX7_guests_30 (by decide) ?_
        obtain ⟨e_31, f_31, h⟩ := zBx h
        refine a_callVv X dX7_guests_31 miX7_refuse lm7_102 (t_X7_refuse (by first | exact hP | assumption) f_31) (by first | exact p_o | assumption) rfl rfl rfl (Nat.le_of_ble_eq_true rfl) ⟨by decide, by decide, by decide, by decide⟩ ?_
        refine a_iret X hr dX7_guests_34 ⟨by decide, by decide⟩ ?_
        subst hF
        rw [← Option.some.inj h]
        exact ⟨rfl, rfl⟩
    · replace h := (if_neg h_7).symm.trans h
      exact Zw.to2 (J_10 _ _ _ h) rfl rfl rfl
noncomputable def D_X7_split (P : Nat) (v0 : Int32) (M : zMt) : Option (Int32 × zMt) :=
  zB (D_X7_isParty P M v0) fun e_2 =>
  if e_2 = 0 then
    zB (D_X7_refuse P (2 : Int32) M) fun e_10 =>
    some (e_10.1, e_10.2)
  else
    zB (D_X1_keep (P + 25) (P + 17) M) fun e_22 =>
    zB (D_X4_dissolve (P + 17) v0 e_22) fun e_30 =>
    zB (D_X7_changed P (0 : Int32) e_30) fun e_35 =>
    zB (D_X7_answer P (e_35.2 (P + 91) 1) e_35.2) fun e_47 =>
    some (e_47.1, e_47.2)
set_option maxRecDepth 100000 in
set_option maxHeartbeats 4000000 in
theorem t_X7_split {l : Launch} {G : zG} {b : Nat} {L : List zC} {M : zMt} {N : zNt} {P : Nat} {v0 : Int32} (hP : LX7 L P) {r : Int32 × zMt} (h : D_X7_split P v0 M = some r) : zM l G b yX7_split cX7_split 2 (some .int) 4 0 0 [.ref P, .int v0] (L, M, N) (fun r2 z => r2 = some (.int r.1) ∧ z = (L, r.2, N)) := by
  refine zM.of miX7_split (Nat.le_of_ble_eq_true rfl) ?_
  intro p e s m args below meth c X hr hname
  generalize hF : ((fun r2 z => r2 = some (.int r.1) ∧ z = (L, r.2, N)) : Option Value → zS → Prop) = FQ
  change Zw p l e { frames := 4, cells := 0, slots := 0, locals := 80 * (4) } s m args below meth c G b 2 (MQ below (zQ G b FQ) args s 0 0 (fun q : Nat => b ≤ q)) 0 0 0 [some (.ref P), some (.int v0)] [] (L, M, N)
  have p_lt := hP.1
  have p_o := hP.2.1
  have p_list := hP.2.2.2.2.2.1
  have p_list_lt := p_list.1
  have p_list_o := p_list.2.1
  have p_past := hP.2.2.2.2.2.2.1
  have p_past_lt := p_past.1
  have p_past_o := p_past.2.1
  have p_pool := hP.2.2.2.2.2.2.2.1
  have p_pool_lt := p_pool.1
  have p_pool_o := p_pool.2.1
  unfold D_X7_split at h
  refine a_aload_n X dX7_split_0 rfl ?_
  refine a_iload_n X dX7_split_1 rfl ?_
  obtain ⟨e_2, f_2, h⟩ := zBx h
  refine a_callVx X dX7_split_2 miX7_isParty lm7_362 (t_X7_isParty (by first | exact hP | assumption) f_2) (by first | exact p_o | assumption) rfl rfl rfl (Nat.le_of_ble_eq_true rfl) ⟨by decide, by decide, by decide, by decide⟩ (fun r_2 S_2 q_2 => ?_)
  obtain ⟨rfl, rfl, b_2⟩ := q_2
  refine a_if_ne (tgt := 14) X dX7_split_5 (by decide) (fun h_5 => ?_) (fun h_5 => ?_)
  · replace h := (if_neg h_5).symm.trans h
    refine a_aload_n X dX7_split_14 rfl ?_
    refine a_getr X lf7_33 (by first | exact p_o | assumption) rfl (by omega) dX7_split_15 ?_
    refine a_aload_n X dX7_split_18 rfl ?_
    refine a_getr X lf7_26 (by first | exact p_o | assumption) rfl (by omega) dX7_split_19 ?_
    obtain ⟨e_22, f_22, h⟩ := zBx h
    refine a_callVu X dX7_split_22 miX1_keep lm7_396 (t_X1_keep (by first | exact p_past | assumption) (by first | exact p_list | assumption) (by omega) f_22) (by first | exact p_past_o | assumption) rfl rfl rfl (Nat.le_of_ble_eq_true rfl) ⟨by decide, by decide, by decide, by decide⟩ ?_
    refine a_aload_n X dX7_split_25 rfl ?_
    refine a_getr X lf7_26 (by first | exact p_o | assumption) rfl (by omega) dX7_split_26 ?_
    refine a_iload_n X dX7_split_29 rfl ?_
    obtain ⟨e_30, f_30, h⟩ := zBx h
    refine a_callVu X dX7_split_30 miX4_dissolve lm7_365 (t_X4_dissolve (by first | exact p_list | assumption) f_30) (by first | exact p_list_o | assumption) rfl rfl rfl (Nat.le_of_ble_eq_true rfl) ⟨by decide, by decide, by decide, by decide⟩ ?_
    refine a_aload_n X dX7_split_33 rfl ?_
    refine a_iconst (v := 0) X dX7_split_34 (by decide) ?_
    obtain ⟨e_35, f_35, h⟩ := zBx h
    refine a_callVv X dX7_split_35 miX7_changed lm7_122 (t_X7_changed (by first | exact hP | assumption) f_35) (by first | exact p_o | assumption) rfl rfl rfl (Nat.le_of_ble_eq_true rfl) ⟨by decide, by decide, by decide, by decide⟩ ?_
    refine a_pop X dX7_split_38 rfl ?_
    refine a_aload_n X dX7_split_39 rfl ?_
    refine a_aload_n X dX7_split_40 rfl ?_
    refine a_getr X lf7_40 (by first | exact p_o | assumption) rfl (by omega) dX7_split_41 ?_
    refine a_geti X lf7_140 (by first | exact p_pool_o | assumption) rfl dX7_split_44 ?_
    obtain ⟨e_47, f_47, h⟩ := zBx h
    refine a_callVv X dX7_split_47 miX7_answer lm7_134 (t_X7_answer (by first | exact hP | assumption) f_47) (by first | exact p_o | assumption) rfl rfl rfl (Nat.le_of_ble_eq_true rfl) ⟨by decide, by decide, by decide, by decide⟩ ?_
    refine a_iret X hr dX7_split_50 ⟨by decide, by decide⟩ ?_
    subst hF
    rw [← Option.some.inj h]
    exact ⟨rfl, rfl⟩
  · replace h := (if_pos h_5).symm.trans h
    refine a_aload_n X dX7_split_8 rfl ?_
    refine a_iconst (v := 2) X dX7_split_9 (by decide) ?_
    obtain ⟨e_10, f_10, h⟩ := zBx h
    refine a_callVv X dX7_split_10 miX7_refuse lm7_102 (t_X7_refuse (by first | exact hP | assumption) f_10) (by first | exact p_o | assumption) rfl rfl rfl (Nat.le_of_ble_eq_true rfl) ⟨by decide, by decide, by decide, by decide⟩ ?_
    refine a_iret X hr dX7_split_13 ⟨by decide, by decide⟩ ?_
    subst hF
    rw [← Option.some.inj h]
    exact ⟨rfl, rfl⟩
noncomputable def D_X7_undo (P : Nat) (M : zMt) : Option (Int32 × zMt) :=
  zB (D_X1_giveBack (P + 25) (P + 17) M) fun e_8 =>
  if e_8.1 = 0 then
    zB (D_X7_refuse P (5 : Int32) e_8.2) fun e_16 =>
    some (e_16.1, e_16.2)
  else
    zB (D_X7_changed P (e_8.2 (P + 25) 0) e_8.2) fun e_28 =>
    some (e_28.1, e_28.2)
set_option maxRecDepth 100000 in
set_option maxHeartbeats 4000000 in
theorem t_X7_undo {l : Launch} {G : zG} {b : Nat} {L : List zC} {M : zMt} {N : zNt} {P : Nat}  (hP : LX7 L P) {r : Int32 × zMt} (h : D_X7_undo P M = some r) : zM l G b yX7_undo cX7_undo 1 (some .int) 4 0 0 [.ref P] (L, M, N) (fun r2 z => r2 = some (.int r.1) ∧ z = (L, r.2, N)) := by
  refine zM.of miX7_undo (Nat.le_of_ble_eq_true rfl) ?_
  intro p e s m args below meth c X hr hname
  generalize hF : ((fun r2 z => r2 = some (.int r.1) ∧ z = (L, r.2, N)) : Option Value → zS → Prop) = FQ
  change Zw p l e { frames := 4, cells := 0, slots := 0, locals := 80 * (4) } s m args below meth c G b 1 (MQ below (zQ G b FQ) args s 0 0 (fun q : Nat => b ≤ q)) 0 0 0 [some (.ref P)] [] (L, M, N)
  have p_lt := hP.1
  have p_o := hP.2.1
  have p_list := hP.2.2.2.2.2.1
  have p_list_lt := p_list.1
  have p_list_o := p_list.2.1
  have p_past := hP.2.2.2.2.2.2.1
  have p_past_lt := p_past.1
  have p_past_o := p_past.2.1
  unfold D_X7_undo at h
  refine a_aload_n X dX7_undo_0 rfl ?_
  refine a_getr X lf7_33 (by first | exact p_o | assumption) rfl (by omega) dX7_undo_1 ?_
  refine a_aload_n X dX7_undo_4 rfl ?_
  refine a_getr X lf7_26 (by first | exact p_o | assumption) rfl (by omega) dX7_undo_5 ?_
  obtain ⟨e_8, f_8, h⟩ := zBx h
  refine a_callVx X dX7_undo_8 miX1_giveBack lm7_409 (t_X1_giveBack (by first | exact p_past | assumption) (by first | exact p_list | assumption) (by omega) f_8) (by first | exact p_past_o | assumption) rfl rfl rfl (Nat.le_of_ble_eq_true rfl) ⟨by decide, by decide, by decide, by decide⟩ (fun r_8 S_8 q_8 => ?_)
  obtain ⟨rfl, rfl, b_8⟩ := q_8
  refine a_if_ne (tgt := 20) X dX7_undo_11 (by decide) (fun h_11 => ?_) (fun h_11 => ?_)
  · replace h := (if_neg h_11).symm.trans h
    refine a_aload_n X dX7_undo_20 rfl ?_
    refine a_aload_n X dX7_undo_21 rfl ?_
    refine a_getr X lf7_33 (by first | exact p_o | assumption) rfl (by omega) dX7_undo_22 ?_
    refine a_geti X lf7_155 (by first | exact p_past_o | assumption) rfl dX7_undo_25 ?_
    obtain ⟨e_28, f_28, h⟩ := zBx h
    refine a_callVv X dX7_undo_28 miX7_changed lm7_122 (t_X7_changed (by first | exact hP | assumption) f_28) (by first | exact p_o | assumption) rfl rfl rfl (Nat.le_of_ble_eq_true rfl) ⟨by decide, by decide, by decide, by decide⟩ ?_
    refine a_iret X hr dX7_undo_31 ⟨by decide, by decide⟩ ?_
    subst hF
    rw [← Option.some.inj h]
    exact ⟨rfl, rfl⟩
  · replace h := (if_pos h_11).symm.trans h
    refine a_aload_n X dX7_undo_14 rfl ?_
    refine a_iconst (v := 5) X dX7_undo_15 (by decide) ?_
    obtain ⟨e_16, f_16, h⟩ := zBx h
    refine a_callVv X dX7_undo_16 miX7_refuse lm7_102 (t_X7_refuse (by first | exact hP | assumption) f_16) (by first | exact p_o | assumption) rfl rfl rfl (Nat.le_of_ble_eq_true rfl) ⟨by decide, by decide, by decide, by decide⟩ ?_
    refine a_iret X hr dX7_undo_19 ⟨by decide, by decide⟩ ?_
    subst hF
    rw [← Option.some.inj h]
    exact ⟨rfl, rfl⟩
noncomputable def D_X7_write (P : Nat) (v0 : Int32) (M : zMt) : Option (zMt) :=
  zLt (zwr M (P + 2) 50 (M P 2) v0) fun M_9 =>
  zLt (zu M_9 P 2 ((M_9 P 2) + (1 : Int32))) fun M_19 =>
  some (M_19)
set_option maxRecDepth 100000 in
set_option maxHeartbeats 4000000 in
theorem t_X7_write {l : Launch} {G : zG} {b : Nat} {L : List zC} {M : zMt} {N : zNt} {P : Nat} {v0 : Int32} (hP : LX7 L P) {r : zMt} (h : D_X7_write P v0 M = some r) : zM l G b yX7_write cX7_write 2 none 1 0 0 [.ref P, .int v0] (L, M, N) (fun r2 z => r2 = none ∧ z = (L, r, N)) := by
  refine zM.of miX7_write (Nat.le_of_ble_eq_true rfl) ?_
  intro p e s m args below meth c X hr hname
  generalize hF : ((fun r2 z => r2 = none ∧ z = (L, r, N)) : Option Value → zS → Prop) = FQ
  change Zw p l e { frames := 1, cells := 0, slots := 0, locals := 80 * (1) } s m args below meth c G b 2 (MQ below (zQ G b FQ) args s 0 0 (fun q : Nat => b ≤ q)) 0 0 0 [some (.ref P), some (.int v0)] [] (L, M, N)
  have p_lt := hP.1
  have p_o := hP.2.1
  have p_out := hP.2.2.2.1
  unfold D_X7_write at h
  refine a_aload_n X dX7_write_0 rfl ?_
  refine a_getr X lf7_13 (by first | exact p_o | assumption) rfl (by omega) dX7_write_1 ?_
  refine a_aload_n X dX7_write_4 rfl ?_
  refine a_geti X lf7_84 (by first | exact p_o | assumption) rfl dX7_write_5 ?_
  refine a_iload_n X dX7_write_8 rfl ?_
  obtain ⟨M_9, f_9, h⟩ := zLtx h
  refine a_callSu X dX7_write_9 miX7_put lm7_98 (zMu (c_put (by first | exact p_out | assumption) (by decide)) f_9) rfl rfl (Nat.le_of_ble_eq_true rfl) ⟨by decide, by decide, by decide, by decide⟩ ?_
  refine a_aload_n X dX7_write_12 rfl ?_
  refine a_dup X dX7_write_13 rfl ?_
  refine a_geti X lf7_84 (by first | exact p_o | assumption) rfl dX7_write_14 ?_
  refine a_iconst (v := 1) X dX7_write_17 (by decide) ?_
  refine a_iadd X dX7_write_18 ?_
  obtain ⟨M_19, f_19, h⟩ := zLtx h
  refine d_puti X lf7_84 (by first | exact p_o | assumption) rfl dX7_write_19 f_19 ?_
  refine a_vret X hr dX7_write_22 ⟨by decide, by decide⟩ ?_
  subst hF
  rw [← Option.some.inj h]
  exact ⟨rfl, rfl⟩
noncomputable def D_X7_print_123 (P : Nat) (k32 : Int32 → zMt → Option (Int32 × zMt)) (x2_123 : Int32) (M_123 : zMt) : Option (Int32 × zMt) :=
  zB (D_X7_write P (59 : Int32) M_123) fun e_126 =>
  k32 (x2_123 + 1) e_126
noncomputable def D_X7_print_99 (P : Nat) (k32 : Int32 → zMt → Option (Int32 × zMt)) (x2_99 : Int32) (x3_99 : Int32) (y1_99 : Int32) (M_99 : zMt) : Option (Int32 × zMt) :=
  zB (D_X7_write P y1_99 M_99) fun e_99 =>
  if (zrd 0 (e_99 (P + 107)) 10 x3_99) = (1 : Int32) then
    zB (D_X7_write P (33 : Int32) e_99) fun e_120 =>
    D_X7_print_123 P k32 x2_99 e_120
  else
    D_X7_print_123 P k32 x2_99 e_99
noncomputable def D_X7_print_32 (P : Nat) : Nat → Int32 → zMt → Option (Int32 × zMt)
  | 0, _, _ => none
  | n + 1, x2_32, M_32 =>
    if (M_32 (P + 91) 1) ≤ x2_32 then
      zB (D_X7_answer P (M_32 P 2) M_32) fun e_140 =>
      some (e_140.1, e_140.2)
    else
      zB (D_X7_write P ((48 : Int32) + (zrd 0 (M_32 (P + 105)) 10 x2_32)) M_32) fun e_73 =>
      zB (D_X7_write P (61 : Int32) e_73) fun e_79 =>
      if (zrd 0 (M_32 (P + 106)) 10 (zrd 0 (M_32 (P + 105)) 10 x2_32)) = (-1 : Int32) then
        D_X7_print_99 P (D_X7_print_32 P n) x2_32 (zrd 0 (M_32 (P + 105)) 10 x2_32) (45 : Int32) e_79
      else
        D_X7_print_99 P (D_X7_print_32 P n) x2_32 (zrd 0 (M_32 (P + 105)) 10 x2_32) ((48 : Int32) + (zrd 0 (M_32 (P + 106)) 10 (zrd 0 (M_32 (P + 105)) 10 x2_32))) e_79
noncomputable def D_X7_print (P : Nat) (v0 : Int32) (M : zMt) : Option (Int32 × zMt) :=
  zB (D_X7_isSeed v0) fun e_1 =>
  if e_1 = 0 then
    zB (D_X7_refuse P (1 : Int32) M) fun e_9 =>
    some (e_9.1, e_9.2)
  else
    zB (D_X5_bySeed (P + 104) (P + 91) v0 M) fun e_22 =>
    zLt (zu e_22 P 2 (0 : Int32)) fun M_27 =>
    D_X7_print_32 P zFu (0 : Int32) M_27
set_option maxRecDepth 100000 in
set_option maxHeartbeats 4000000 in
theorem t_X7_print {l : Launch} {G : zG} {b : Nat} {L : List zC} {M : zMt} {N : zNt} {P : Nat} {v0 : Int32} (hP : LX7 L P) {r : Int32 × zMt} (h : D_X7_print P v0 M = some r) : zM l G b yX7_print cX7_print 5 (some .int) 5 0 0 [.ref P, .int v0] (L, M, N) (fun r2 z => r2 = some (.int r.1) ∧ z = (L, r.2, N)) := by
  refine zM.of miX7_print (Nat.le_of_ble_eq_true rfl) ?_
  intro p e s m args below meth c X hr hname
  generalize hF : ((fun r2 z => r2 = some (.int r.1) ∧ z = (L, r.2, N)) : Option Value → zS → Prop) = FQ
  change Zw p l e { frames := 5, cells := 0, slots := 0, locals := 80 * (5) } s m args below meth c G b 5 (MQ below (zQ G b FQ) args s 0 0 (fun q : Nat => b ≤ q)) 0 0 0 [some (.ref P), some (.int v0), none, none, none] [] (L, M, N)
  have p_lt := hP.1
  have p_o := hP.2.1
  have p_pool := hP.2.2.2.2.2.2.2.1
  have p_pool_lt := p_pool.1
  have p_pool_o := p_pool.2.1
  have p_result := hP.2.2.2.2.2.2.2.2.1
  have p_result_lt := p_result.1
  have p_result_o := p_result.2.1
  have p_result_line := p_result.2.2.1
  have p_result_unitOf := p_result.2.2.2.1
  have p_result_roundOf := p_result.2.2.2.2.1
  have L_32 : ∀ u : Nat, ∀ (x1_32 : Int32) (x2_32 : Int32) (x3_32 : Option Value) (x4_32 : Option Value) (M_32 : zMt), D_X7_print_32 P u x2_32 M_32 = some r → Zw p l e { frames := 5, cells := 0, slots := 0, locals := 80 * (5) } s m args below meth c G b 5 (MQ below (zQ G b FQ) args s 0 0 (fun q : Nat => b ≤ q)) 0 0 32 [some (.ref (P)), some (.int x1_32), some (.int x2_32), x3_32, x4_32] [] (L, M_32, N) := by
    intro u
    induction u with
    | zero => intro x1_32 x2_32 x3_32 x4_32 M_32 h; cases (show none = some r from h)
    | succ u_32 ih_32 =>
      have J_123 : ∀ (x1_123 : Int32) (x2_123 : Int32) (x3_123 : Int32) (x4_123 : Int32) (M_123 : zMt), D_X7_print_123 P (D_X7_print_32 P u_32) x2_123 M_123 = some r → Zw p l e { frames := 5, cells := 0, slots := 0, locals := 80 * (5) } s m args below meth c G b 5 (MQ below (zQ G b FQ) args s 0 0 (fun q : Nat => b ≤ q)) 0 0 123 [some (.ref (P)), some (.int x1_123), some (.int x2_123), some (.int x3_123), some (.int x4_123)] [] (L, M_123, N) := by
        intro x1_123 x2_123 x3_123 x4_123 M_123 h
        unfold D_X7_print_123 at h
        refine a_aload_n X dX7_print_123 rfl ?_
        refine a_bipush (v := 59) X dX7_print_124 (by decide) ?_
        obtain ⟨e_126, f_126, h⟩ := zBx h
        refine a_callVu X dX7_print_126 miX7_write lm7_413 (t_X7_write (by first | exact hP | assumption) f_126) (by first | exact p_o | assumption) rfl rfl rfl (Nat.le_of_ble_eq_true rfl) ⟨by decide, by decide, by decide, by decide⟩ ?_
        refine a_iinc (v := x2_123 + 1) X dX7_print_129 (by decide) rfl zi_1 ?_
        refine a_goto (tgt := 32) X dX7_print_132 (by decide) ?_
        exact Zw.to2 (ih_32 _ _ _ _ _ h) rfl rfl rfl
      have J_99 : ∀ (x1_99 : Int32) (x2_99 : Int32) (x3_99 : Int32) (x4_99 : Int32) (y1_99 : Int32) (M_99 : zMt), D_X7_print_99 P (D_X7_print_32 P u_32) x2_99 x3_99 y1_99 M_99 = some r → Zw p l e { frames := 5, cells := 0, slots := 0, locals := 80 * (5) } s m args below meth c G b 5 (MQ below (zQ G b FQ) args s 0 0 (fun q : Nat => b ≤ q)) 0 0 99 [some (.ref (P)), some (.int x1_99), some (.int x2_99), some (.int x3_99), some (.int x4_99)] [.int y1_99, .ref (P)] (L, M_99, N) := by
        intro x1_99 x2_99 x3_99 x4_99 y1_99 M_99 h
        unfold D_X7_print_99 at h
        obtain ⟨e_99, f_99, h⟩ := zBx h
        refine a_callVu X dX7_print_99 miX7_write lm7_413 (t_X7_write (by first | exact hP | assumption) f_99) (by first | exact p_o | assumption) rfl rfl rfl (Nat.le_of_ble_eq_true rfl) ⟨by decide, by decide, by decide, by decide⟩ ?_
        refine a_aload_n X dX7_print_102 rfl ?_
        refine a_getr X lf7_47 (by first | exact p_o | assumption) rfl (by omega) dX7_print_103 ?_
        refine a_getr X lf7_253 (by first | exact p_result_o | assumption) rfl (by omega) dX7_print_106 ?_
        refine a_iload_n X dX7_print_109 rfl ?_
        refine a_callSv X dX7_print_110 miX7_cell lm7_175 (c_cell (by first | exact p_result_roundOf | assumption) (by decide)) rfl rfl (Nat.le_of_ble_eq_true rfl) ⟨by decide, by decide, by decide, by decide⟩ ?_
        refine a_iconst (v := 1) X dX7_print_113 (by decide) ?_
        refine a_icmp_ne (tgt := 123) X dX7_print_114 (by decide) (fun h_114 => ?_) (fun h_114 => ?_)
        · replace h := (if_neg h_114).symm.trans h
          exact Zw.to2 (J_123 _ _ _ _ _ h) rfl rfl rfl
        · replace h := (if_pos h_114).symm.trans h
          refine a_aload_n X dX7_print_117 rfl ?_
          refine a_bipush (v := 33) X dX7_print_118 (by decide) ?_
          obtain ⟨e_120, f_120, h⟩ := zBx h
          refine a_callVu X dX7_print_120 miX7_write lm7_413 (t_X7_write (by first | exact hP | assumption) f_120) (by first | exact p_o | assumption) rfl rfl rfl (Nat.le_of_ble_eq_true rfl) ⟨by decide, by decide, by decide, by decide⟩ ?_
          exact Zw.to2 (J_123 _ _ _ _ _ h) rfl rfl rfl
      intro x1_32 x2_32 x3_32 x4_32 M_32 h
      rw [D_X7_print_32] at h
      refine a_iload_n X dX7_print_32 rfl ?_
      refine a_aload_n X dX7_print_33 rfl ?_
      refine a_getr X lf7_40 (by first | exact p_o | assumption) rfl (by omega) dX7_print_34 ?_
      refine a_geti X lf7_140 (by first | exact p_pool_o | assumption) rfl dX7_print_37 ?_
      refine a_icmp_ge (tgt := 135) X dX7_print_40 (by decide) (fun h_40 => ?_) (fun h_40 => ?_)
      · replace h := (if_pos h_40).symm.trans h
        refine a_aload_n X dX7_print_135 rfl ?_
        refine a_aload_n X dX7_print_136 rfl ?_
        refine a_geti X lf7_84 (by first | exact p_o | assumption) rfl dX7_print_137 ?_
        obtain ⟨e_140, f_140, h⟩ := zBx h
        refine a_callVv X dX7_print_140 miX7_answer lm7_134 (t_X7_answer (by first | exact hP | assumption) f_140) (by first | exact p_o | assumption) rfl rfl rfl (Nat.le_of_ble_eq_true rfl) ⟨by decide, by decide, by decide, by decide⟩ ?_
        refine a_iret X hr dX7_print_143 ⟨by decide, by decide⟩ ?_
        subst hF
        rw [← Option.some.inj h]
        exact ⟨rfl, rfl⟩
      · replace h := (if_neg h_40).symm.trans h
        refine a_aload_n X dX7_print_43 rfl ?_
        refine a_getr X lf7_47 (by first | exact p_o | assumption) rfl (by omega) dX7_print_44 ?_
        refine a_getr X lf7_244 (by first | exact p_result_o | assumption) rfl (by omega) dX7_print_47 ?_
        refine a_iload_n X dX7_print_50 rfl ?_
        refine a_callSv X dX7_print_51 miX7_cell lm7_175 (c_cell (by first | exact p_result_line | assumption) (by decide)) rfl rfl (Nat.le_of_ble_eq_true rfl) ⟨by decide, by decide, by decide, by decide⟩ ?_
        refine a_istore_n X dX7_print_54 (by decide) ?_
        refine a_aload_n X dX7_print_55 rfl ?_
        refine a_getr X lf7_47 (by first | exact p_o | assumption) rfl (by omega) dX7_print_56 ?_
        refine a_getr X lf7_250 (by first | exact p_result_o | assumption) rfl (by omega) dX7_print_59 ?_
        refine a_iload_n X dX7_print_62 rfl ?_
        refine a_callSv X dX7_print_63 miX7_cell lm7_175 (c_cell (by first | exact p_result_unitOf | assumption) (by decide)) rfl rfl (Nat.le_of_ble_eq_true rfl) ⟨by decide, by decide, by decide, by decide⟩ ?_
        refine a_istore X dX7_print_66 (by decide) ?_
        refine a_aload_n X dX7_print_68 rfl ?_
        refine a_bipush (v := 48) X dX7_print_69 (by decide) ?_
        refine a_iload_n X dX7_print_71 rfl ?_
        refine a_iadd X dX7_print_72 ?_
        obtain ⟨e_73, f_73, h⟩ := zBx h
        refine a_callVu X dX7_print_73 miX7_write lm7_413 (t_X7_write (by first | exact hP | assumption) f_73) (by first | exact p_o | assumption) rfl rfl rfl (Nat.le_of_ble_eq_true rfl) ⟨by decide, by decide, by decide, by decide⟩ ?_
        refine a_aload_n X dX7_print_76 rfl ?_
        refine a_bipush (v := 61) X dX7_print_77 (by decide) ?_
        obtain ⟨e_79, f_79, h⟩ := zBx h
        refine a_callVu X dX7_print_79 miX7_write lm7_413 (t_X7_write (by first | exact hP | assumption) f_79) (by first | exact p_o | assumption) rfl rfl rfl (Nat.le_of_ble_eq_true rfl) ⟨by decide, by decide, by decide, by decide⟩ ?_
        refine a_aload_n X dX7_print_82 rfl ?_
        refine a_iload X dX7_print_83 rfl ?_
        refine a_iconst (v := -1) X dX7_print_85 (by decide) ?_
        refine a_icmp_ne (tgt := 94) X dX7_print_86 (by decide) (fun h_86 => ?_) (fun h_86 => ?_)
        · replace h := (if_neg h_86).symm.trans h
          refine a_bipush (v := 48) X dX7_print_94 (by decide) ?_
          refine a_iload X dX7_print_96 rfl ?_
          refine a_iadd X dX7_print_98 ?_
          exact Zw.to2 (J_99 _ _ _ _ _ _ h) rfl rfl rfl
        · replace h := (if_pos h_86).symm.trans h
          refine a_bipush (v := 45) X dX7_print_89 (by decide) ?_
          refine a_goto (tgt := 99) X dX7_print_91 (by decide) ?_
          exact Zw.to2 (J_99 _ _ _ _ _ _ h) rfl rfl rfl
  have H_32 : ∀ (x1_32 : Int32) (x2_32 : Int32) (x3_32 : Option Value) (x4_32 : Option Value) (M_32 : zMt), D_X7_print_32 P zFu x2_32 M_32 = some r → Zw p l e { frames := 5, cells := 0, slots := 0, locals := 80 * (5) } s m args below meth c G b 5 (MQ below (zQ G b FQ) args s 0 0 (fun q : Nat => b ≤ q)) 0 0 32 [some (.ref (P)), some (.int x1_32), some (.int x2_32), x3_32, x4_32] [] (L, M_32, N) := L_32 zFu
  unfold D_X7_print at h
  refine a_iload_n X dX7_print_0 rfl ?_
  obtain ⟨e_1, f_1, h⟩ := zBx h
  refine a_callSx X dX7_print_1 miX7_isSeed lm7_237 (t_X7_isSeed f_1) rfl rfl (Nat.le_of_ble_eq_true rfl) ⟨by decide, by decide, by decide, by decide⟩ (fun r_1 S_1 q_1 => ?_)
  obtain ⟨rfl, rfl, b_1⟩ := q_1
  refine a_if_ne (tgt := 13) X dX7_print_4 (by decide) (fun h_4 => ?_) (fun h_4 => ?_)
  · replace h := (if_neg h_4).symm.trans h
    refine a_aload_n X dX7_print_13 rfl ?_
    refine a_getr X lf7_47 (by first | exact p_o | assumption) rfl (by omega) dX7_print_14 ?_
    refine a_aload_n X dX7_print_17 rfl ?_
    refine a_getr X lf7_40 (by first | exact p_o | assumption) rfl (by omega) dX7_print_18 ?_
    refine a_iload_n X dX7_print_21 rfl ?_
    obtain ⟨e_22, f_22, h⟩ := zBx h
    refine a_callVu X dX7_print_22 miX5_bySeed lm7_247 (t_X5_bySeed (by first | exact p_result | assumption) (by first | exact p_pool | assumption) f_22) (by first | exact p_result_o | assumption) rfl rfl rfl (Nat.le_of_ble_eq_true rfl) ⟨by decide, by decide, by decide, by decide⟩ ?_
    refine a_aload_n X dX7_print_25 rfl ?_
    refine a_iconst (v := 0) X dX7_print_26 (by decide) ?_
    obtain ⟨M_27, f_27, h⟩ := zLtx h
    refine d_puti X lf7_84 (by first | exact p_o | assumption) rfl dX7_print_27 f_27 ?_
    refine a_iconst (v := 0) X dX7_print_30 (by decide) ?_
    refine a_istore_n X dX7_print_31 (by decide) ?_
    exact Zw.to2 (H_32 _ _ _ _ _ h) rfl rfl rfl
  · replace h := (if_pos h_4).symm.trans h
    refine a_aload_n X dX7_print_7 rfl ?_
    refine a_iconst (v := 1) X dX7_print_8 (by decide) ?_
    obtain ⟨e_9, f_9, h⟩ := zBx h
    refine a_callVv X dX7_print_9 miX7_refuse lm7_102 (t_X7_refuse (by first | exact hP | assumption) f_9) (by first | exact p_o | assumption) rfl rfl rfl (Nat.le_of_ble_eq_true rfl) ⟨by decide, by decide, by decide, by decide⟩ ?_
    refine a_iret X hr dX7_print_12 ⟨by decide, by decide⟩ ?_
    subst hF
    rw [← Option.some.inj h]
    exact ⟨rfl, rfl⟩
noncomputable def D_X7_out_38 (P : Nat) (y0_38 : Int32) (M_38 : zMt) : Option (Int32 × zMt) :=
  some (y0_38, M_38)
noncomputable def D_X7_out (P : Nat) (v0 : Int32) (M : zMt) : Option (Int32 × zMt) :=
  if 0 ≤ v0 then
    if v0 < (M P 2) then
      zB (D_X7_answer P (zrd 0 (M (P + 2)) 50 v0) M) fun e_35 =>
      D_X7_out_38 P e_35.1 e_35.2
    else
      zB (D_X7_refuse P (5 : Int32) M) fun e_20 =>
      D_X7_out_38 P e_20.1 e_20.2
  else
    zB (D_X7_refuse P (1 : Int32) M) fun e_6 =>
    some (e_6.1, e_6.2)
set_option maxRecDepth 100000 in
set_option maxHeartbeats 4000000 in
theorem t_X7_out {l : Launch} {G : zG} {b : Nat} {L : List zC} {M : zMt} {N : zNt} {P : Nat} {v0 : Int32} (hP : LX7 L P) {r : Int32 × zMt} (h : D_X7_out P v0 M = some r) : zM l G b yX7_out cX7_out 2 (some .int) 1 0 0 [.ref P, .int v0] (L, M, N) (fun r2 z => r2 = some (.int r.1) ∧ z = (L, r.2, N)) := by
  refine zM.of miX7_out (Nat.le_of_ble_eq_true rfl) ?_
  intro p e s m args below meth c X hr hname
  generalize hF : ((fun r2 z => r2 = some (.int r.1) ∧ z = (L, r.2, N)) : Option Value → zS → Prop) = FQ
  change Zw p l e { frames := 1, cells := 0, slots := 0, locals := 80 * (1) } s m args below meth c G b 2 (MQ below (zQ G b FQ) args s 0 0 (fun q : Nat => b ≤ q)) 0 0 0 [some (.ref P), some (.int v0)] [] (L, M, N)
  have p_lt := hP.1
  have p_o := hP.2.1
  have p_out := hP.2.2.2.1
  have J_38 : ∀ (x1_38 : Int32) (y0_38 : Int32) (M_38 : zMt), D_X7_out_38 P y0_38 M_38 = some r → Zw p l e { frames := 1, cells := 0, slots := 0, locals := 80 * (1) } s m args below meth c G b 2 (MQ below (zQ G b FQ) args s 0 0 (fun q : Nat => b ≤ q)) 0 0 38 [some (.ref (P)), some (.int x1_38)] [.int y0_38] (L, M_38, N) := by
    intro x1_38 y0_38 M_38 h
    unfold D_X7_out_38 at h
    refine a_iret X hr dX7_out_38 ⟨by decide, by decide⟩ ?_
    subst hF
    rw [← Option.some.inj h]
    exact ⟨rfl, rfl⟩
  unfold D_X7_out at h
  refine a_iload_n X dX7_out_0 rfl ?_
  refine a_if_ge (tgt := 10) X dX7_out_1 (by decide) (fun h_1 => ?_) (fun h_1 => ?_)
  · replace h := (if_pos h_1).symm.trans h
    refine a_iload_n X dX7_out_10 rfl ?_
    refine a_aload_n X dX7_out_11 rfl ?_
    refine a_geti X lf7_84 (by first | exact p_o | assumption) rfl dX7_out_12 ?_
    refine a_icmp_lt (tgt := 26) X dX7_out_15 (by decide) (fun h_15 => ?_) (fun h_15 => ?_)
    · replace h := (if_pos h_15).symm.trans h
      refine a_aload_n X dX7_out_26 rfl ?_
      refine a_aload_n X dX7_out_27 rfl ?_
      refine a_getr X lf7_13 (by first | exact p_o | assumption) rfl (by omega) dX7_out_28 ?_
      refine a_iload_n X dX7_out_31 rfl ?_
      refine a_callSv X dX7_out_32 miX7_cell lm7_175 (c_cell (by first | exact p_out | assumption) (by decide)) rfl rfl (Nat.le_of_ble_eq_true rfl) ⟨by decide, by decide, by decide, by decide⟩ ?_
      obtain ⟨e_35, f_35, h⟩ := zBx h
      refine a_callVv X dX7_out_35 miX7_answer lm7_134 (t_X7_answer (by first | exact hP | assumption) f_35) (by first | exact p_o | assumption) rfl rfl rfl (Nat.le_of_ble_eq_true rfl) ⟨by decide, by decide, by decide, by decide⟩ ?_
      exact Zw.to2 (J_38 _ _ _ h) rfl rfl rfl
    · replace h := (if_neg h_15).symm.trans h
      refine a_aload_n X dX7_out_18 rfl ?_
      refine a_iconst (v := 5) X dX7_out_19 (by decide) ?_
      obtain ⟨e_20, f_20, h⟩ := zBx h
      refine a_callVv X dX7_out_20 miX7_refuse lm7_102 (t_X7_refuse (by first | exact hP | assumption) f_20) (by first | exact p_o | assumption) rfl rfl rfl (Nat.le_of_ble_eq_true rfl) ⟨by decide, by decide, by decide, by decide⟩ ?_
      refine a_goto (tgt := 38) X dX7_out_23 (by decide) ?_
      exact Zw.to2 (J_38 _ _ _ h) rfl rfl rfl
  · replace h := (if_neg h_1).symm.trans h
    refine a_aload_n X dX7_out_4 rfl ?_
    refine a_iconst (v := 1) X dX7_out_5 (by decide) ?_
    obtain ⟨e_6, f_6, h⟩ := zBx h
    refine a_callVv X dX7_out_6 miX7_refuse lm7_102 (t_X7_refuse (by first | exact hP | assumption) f_6) (by first | exact p_o | assumption) rfl rfl rfl (Nat.le_of_ble_eq_true rfl) ⟨by decide, by decide, by decide, by decide⟩ ?_
    refine a_iret X hr dX7_out_9 ⟨by decide, by decide⟩ ?_
    subst hF
    rw [← Option.some.inj h]
    exact ⟨rfl, rfl⟩
noncomputable def D_X8_status (P : Nat) (M : zMt) : Option (Int32 × zMt) :=
  zLt (zu M P 6 (0 : Int32)) fun M_2 =>
  some ((M_2 P 12), M_2)
set_option maxRecDepth 100000 in
set_option maxHeartbeats 4000000 in
theorem t_X8_status {l : Launch} {G : zG} {b : Nat} {L : List zC} {M : zMt} {N : zNt} {P : Nat}  (hP : LX8 L P) {r : Int32 × zMt} (h : D_X8_status P M = some r) : zM l G b yX8_status cX8_status 1 (some .int) 0 0 0 [.ref P] (L, M, N) (fun r2 z => r2 = some (.int r.1) ∧ z = (L, r.2, N)) := by
  refine zM.of miX8_status (Nat.le_of_ble_eq_true rfl) ?_
  intro p e s m args below meth c X hr hname
  generalize hF : ((fun r2 z => r2 = some (.int r.1) ∧ z = (L, r.2, N)) : Option Value → zS → Prop) = FQ
  change Zw p l e { frames := 0, cells := 0, slots := 0, locals := 80 * (0) } s m args below meth c G b 1 (MQ below (zQ G b FQ) args s 0 0 (fun q : Nat => b ≤ q)) 0 0 0 [some (.ref P)] [] (L, M, N)
  have p_lt := hP.1
  have p_o := hP.2.1
  unfold D_X8_status at h
  refine a_aload_n X dX8_status_0 rfl ?_
  refine a_iconst (v := 0) X dX8_status_1 (by decide) ?_
  obtain ⟨M_2, f_2, h⟩ := zLtx h
  refine d_puti X lf8_119 (by first | exact p_o | assumption) rfl dX8_status_2 f_2 ?_
  refine a_aload_n X dX8_status_5 rfl ?_
  refine a_geti X lf8_122 (by first | exact p_o | assumption) rfl dX8_status_6 ?_
  refine a_iret X hr dX8_status_9 ⟨by decide, by decide⟩ ?_
  subst hF
  rw [← Option.some.inj h]
  exact ⟨rfl, rfl⟩
noncomputable def D_X8_refuse (P : Nat) (v0 : Int32) (M : zMt) : Option (Int32 × zMt) :=
  zLt (zu M P 6 (0 : Int32)) fun M_2 =>
  zLt (zu M_2 P 12 v0) fun M_7 =>
  some ((-1 : Int32), M_7)
set_option maxRecDepth 100000 in
set_option maxHeartbeats 4000000 in
theorem t_X8_refuse {l : Launch} {G : zG} {b : Nat} {L : List zC} {M : zMt} {N : zNt} {P : Nat} {v0 : Int32} (hP : LX8 L P) {r : Int32 × zMt} (h : D_X8_refuse P v0 M = some r) : zM l G b yX8_refuse cX8_refuse 2 (some .int) 0 0 0 [.ref P, .int v0] (L, M, N) (fun r2 z => r2 = some (.int r.1) ∧ z = (L, r.2, N)) := by
  refine zM.of miX8_refuse (Nat.le_of_ble_eq_true rfl) ?_
  intro p e s m args below meth c X hr hname
  generalize hF : ((fun r2 z => r2 = some (.int r.1) ∧ z = (L, r.2, N)) : Option Value → zS → Prop) = FQ
  change Zw p l e { frames := 0, cells := 0, slots := 0, locals := 80 * (0) } s m args below meth c G b 2 (MQ below (zQ G b FQ) args s 0 0 (fun q : Nat => b ≤ q)) 0 0 0 [some (.ref P), some (.int v0)] [] (L, M, N)
  have p_lt := hP.1
  have p_o := hP.2.1
  unfold D_X8_refuse at h
  refine a_aload_n X dX8_refuse_0 rfl ?_
  refine a_iconst (v := 0) X dX8_refuse_1 (by decide) ?_
  obtain ⟨M_2, f_2, h⟩ := zLtx h
  refine d_puti X lf8_119 (by first | exact p_o | assumption) rfl dX8_refuse_2 f_2 ?_
  refine a_aload_n X dX8_refuse_5 rfl ?_
  refine a_iload_n X dX8_refuse_6 rfl ?_
  obtain ⟨M_7, f_7, h⟩ := zLtx h
  refine d_puti X lf8_122 (by first | exact p_o | assumption) rfl dX8_refuse_7 f_7 ?_
  refine a_iconst (v := -1) X dX8_refuse_10 (by decide) ?_
  refine a_iret X hr dX8_refuse_11 ⟨by decide, by decide⟩ ?_
  subst hF
  rw [← Option.some.inj h]
  exact ⟨rfl, rfl⟩
noncomputable def D_X8_gives (P : Nat) (v0 : Int32) (M : zMt) : Option (Int32 × zMt) :=
  zLt (zu M P 6 (0 : Int32)) fun M_2 =>
  zLt (zu M_2 P 12 (0 : Int32)) fun M_7 =>
  some (v0, M_7)
set_option maxRecDepth 100000 in
set_option maxHeartbeats 4000000 in
theorem t_X8_gives {l : Launch} {G : zG} {b : Nat} {L : List zC} {M : zMt} {N : zNt} {P : Nat} {v0 : Int32} (hP : LX8 L P) {r : Int32 × zMt} (h : D_X8_gives P v0 M = some r) : zM l G b yX8_gives cX8_gives 2 (some .int) 0 0 0 [.ref P, .int v0] (L, M, N) (fun r2 z => r2 = some (.int r.1) ∧ z = (L, r.2, N)) := by
  refine zM.of miX8_gives (Nat.le_of_ble_eq_true rfl) ?_
  intro p e s m args below meth c X hr hname
  generalize hF : ((fun r2 z => r2 = some (.int r.1) ∧ z = (L, r.2, N)) : Option Value → zS → Prop) = FQ
  change Zw p l e { frames := 0, cells := 0, slots := 0, locals := 80 * (0) } s m args below meth c G b 2 (MQ below (zQ G b FQ) args s 0 0 (fun q : Nat => b ≤ q)) 0 0 0 [some (.ref P), some (.int v0)] [] (L, M, N)
  have p_lt := hP.1
  have p_o := hP.2.1
  unfold D_X8_gives at h
  refine a_aload_n X dX8_gives_0 rfl ?_
  refine a_iconst (v := 0) X dX8_gives_1 (by decide) ?_
  obtain ⟨M_2, f_2, h⟩ := zLtx h
  refine d_puti X lf8_119 (by first | exact p_o | assumption) rfl dX8_gives_2 f_2 ?_
  refine a_aload_n X dX8_gives_5 rfl ?_
  refine a_iconst (v := 0) X dX8_gives_6 (by decide) ?_
  obtain ⟨M_7, f_7, h⟩ := zLtx h
  refine d_puti X lf8_122 (by first | exact p_o | assumption) rfl dX8_gives_7 f_7 ?_
  refine a_iload_n X dX8_gives_10 rfl ?_
  refine a_iret X hr dX8_gives_11 ⟨by decide, by decide⟩ ?_
  subst hF
  rw [← Option.some.inj h]
  exact ⟨rfl, rfl⟩
noncomputable def D_X8_givesLong (P : Nat) (v0 : Int64) (M : zMt) : Option (Int64 × zMt) :=
  zLt (zu M P 6 (0 : Int32)) fun M_2 =>
  zLt (zu M_2 P 12 (0 : Int32)) fun M_7 =>
  some (v0, M_7)
set_option maxRecDepth 100000 in
set_option maxHeartbeats 4000000 in
theorem t_X8_givesLong {l : Launch} {G : zG} {b : Nat} {L : List zC} {M : zMt} {N : zNt} {P : Nat} {v0 : Int64} (hP : LX8 L P) {r : Int64 × zMt} (h : D_X8_givesLong P v0 M = some r) : zM l G b yX8_givesLong cX8_givesLong 3 (some .long) 0 0 0 [.ref P, .long v0] (L, M, N) (fun r2 z => r2 = some (.long r.1) ∧ z = (L, r.2, N)) := by
  refine zM.of miX8_givesLong (Nat.le_of_ble_eq_true rfl) ?_
  intro p e s m args below meth c X hr hname
  generalize hF : ((fun r2 z => r2 = some (.long r.1) ∧ z = (L, r.2, N)) : Option Value → zS → Prop) = FQ
  change Zw p l e { frames := 0, cells := 0, slots := 0, locals := 80 * (0) } s m args below meth c G b 3 (MQ below (zQ G b FQ) args s 0 0 (fun q : Nat => b ≤ q)) 0 0 0 [some (.ref P), some (.long v0), none] [] (L, M, N)
  have p_lt := hP.1
  have p_o := hP.2.1
  unfold D_X8_givesLong at h
  refine a_aload_n X dX8_givesLong_0 rfl ?_
  refine a_iconst (v := 0) X dX8_givesLong_1 (by decide) ?_
  obtain ⟨M_2, f_2, h⟩ := zLtx h
  refine d_puti X lf8_119 (by first | exact p_o | assumption) rfl dX8_givesLong_2 f_2 ?_
  refine a_aload_n X dX8_givesLong_5 rfl ?_
  refine a_iconst (v := 0) X dX8_givesLong_6 (by decide) ?_
  obtain ⟨M_7, f_7, h⟩ := zLtx h
  refine d_puti X lf8_122 (by first | exact p_o | assumption) rfl dX8_givesLong_7 f_7 ?_
  refine a_lload_n X dX8_givesLong_10 rfl ?_
  refine a_lret X hr dX8_givesLong_11 ⟨by decide, by decide⟩ ?_
  subst hF
  rw [← Option.some.inj h]
  exact ⟨rfl, rfl⟩
noncomputable def D_X8_isFrom_18  (y0_18 : Int32) : Option (Int32) :=
  some (y0_18)
noncomputable def D_X8_isFrom_17   : Option (Int32) :=
  D_X8_isFrom_18 (0 : Int32)
noncomputable def D_X8_isFrom  (v0 : Int64) (v1 : Int64) (v2 : Int64) : Option (Int32) :=
  if (lg_cmp v0 v1) < 0 then
    D_X8_isFrom_17
  else
    if 0 < (lg_cmp v0 v2) then
      D_X8_isFrom_17
    else
      D_X8_isFrom_18 (1 : Int32)
set_option maxRecDepth 100000 in
set_option maxHeartbeats 4000000 in
theorem t_X8_isFrom {l : Launch} {G : zG} {b : Nat} {L : List zC} {M : zMt} {N : zNt}  {v0 : Int64} {v1 : Int64} {v2 : Int64}  {r : Int32} (h : D_X8_isFrom v0 v1 v2 = some r) : zM l G b yX8_isFrom cX8_isFrom 6 (some .boolean) 0 0 0 [.long v0, .long v1, .long v2] (L, M, N) (fun r2 z => r2 = some (.int r) ∧ z = (L, M, N) ∧ (r = 0 ∨ r = 1)) := by
  refine zM.of miX8_isFrom (Nat.le_of_ble_eq_true rfl) ?_
  intro p e s m args below meth c X hr hname
  generalize hF : ((fun r2 z => r2 = some (.int r) ∧ z = (L, M, N) ∧ (r = 0 ∨ r = 1)) : Option Value → zS → Prop) = FQ
  change Zw p l e { frames := 0, cells := 0, slots := 0, locals := 80 * (0) } s m args below meth c G b 6 (MQ below (zQ G b FQ) args s 0 0 (fun q : Nat => b ≤ q)) 0 0 0 [some (.long v0), none, some (.long v1), none, some (.long v2), none] [] (L, M, N)
  have J_18 : ∀ (x0_18 : Int64) (x2_18 : Int64) (x4_18 : Int64) (y0_18 : Int32), (y0_18 = 0 ∨ y0_18 = 1) → D_X8_isFrom_18 y0_18 = some r → Zw p l e { frames := 0, cells := 0, slots := 0, locals := 80 * (0) } s m args below meth c G b 6 (MQ below (zQ G b FQ) args s 0 0 (fun q : Nat => b ≤ q)) 0 0 18 [some (.long x0_18), none, some (.long x2_18), none, some (.long x4_18), none] [.int y0_18] (L, M, N) := by
    intro x0_18 x2_18 x4_18 y0_18 fb_y0_18 h
    unfold D_X8_isFrom_18 at h
    refine a_zret X (by first | exact Or.inl rfl | exact Or.inr rfl | assumption) hr dX8_isFrom_18 ⟨by decide, by decide⟩ ?_
    subst hF
    rw [← Option.some.inj h]
    exact ⟨rfl, rfl, (by first | exact Or.inl rfl | exact Or.inr rfl | assumption)⟩
  have J_17 : ∀ (x0_17 : Int64) (x2_17 : Int64) (x4_17 : Int64), D_X8_isFrom_17 = some r → Zw p l e { frames := 0, cells := 0, slots := 0, locals := 80 * (0) } s m args below meth c G b 6 (MQ below (zQ G b FQ) args s 0 0 (fun q : Nat => b ≤ q)) 0 0 17 [some (.long x0_17), none, some (.long x2_17), none, some (.long x4_17), none] [] (L, M, N) := by
    intro x0_17 x2_17 x4_17 h
    unfold D_X8_isFrom_17 at h
    refine a_iconst (v := 0) X dX8_isFrom_17 (by decide) ?_
    exact Zw.to2 (J_18 _ _ _ _ (by first | exact Or.inl rfl | exact Or.inr rfl | assumption) h) rfl rfl rfl
  unfold D_X8_isFrom at h
  refine a_lload_n X dX8_isFrom_0 rfl ?_
  refine a_lload_n X dX8_isFrom_1 rfl ?_
  refine a_lcmp X dX8_isFrom_2 ?_
  refine a_if_lt (tgt := 17) X dX8_isFrom_3 (by decide) (fun h_3 => ?_) (fun h_3 => ?_)
  · replace h := (if_pos h_3).symm.trans h
    exact Zw.to2 (J_17 _ _ _ h) rfl rfl rfl
  · replace h := (if_neg h_3).symm.trans h
    refine a_lload_n X dX8_isFrom_6 rfl ?_
    refine a_lload X dX8_isFrom_7 rfl ?_
    refine a_lcmp X dX8_isFrom_9 ?_
    refine a_if_gt (tgt := 17) X dX8_isFrom_10 (by decide) (fun h_10 => ?_) (fun h_10 => ?_)
    · replace h := (if_pos h_10).symm.trans h
      exact Zw.to2 (J_17 _ _ _ h) rfl rfl rfl
    · replace h := (if_neg h_10).symm.trans h
      refine a_iconst (v := 1) X dX8_isFrom_13 (by decide) ?_
      refine a_goto (tgt := 18) X dX8_isFrom_14 (by decide) ?_
      exact Zw.to2 (J_18 _ _ _ _ (by first | exact Or.inl rfl | exact Or.inr rfl | assumption) h) rfl rfl rfl
noncomputable def D_X8_has_14  (y0_14 : Int32) : Option (Int32) :=
  some (y0_14)
noncomputable def D_X8_has  (v0 : Int32) (v1 : Int32) : Option (Int32) :=
  if ((v0 >>> (v1 &&& 31)) &&& (1 : Int32)) = (1 : Int32) then
    D_X8_has_14 (1 : Int32)
  else
    D_X8_has_14 (0 : Int32)
set_option maxRecDepth 100000 in
set_option maxHeartbeats 4000000 in
theorem t_X8_has {l : Launch} {G : zG} {b : Nat} {L : List zC} {M : zMt} {N : zNt}  {v0 : Int32} {v1 : Int32}  {r : Int32} (h : D_X8_has v0 v1 = some r) : zM l G b yX8_has cX8_has 2 (some .boolean) 0 0 0 [.int v0, .int v1] (L, M, N) (fun r2 z => r2 = some (.int r) ∧ z = (L, M, N) ∧ (r = 0 ∨ r = 1)) := by
  refine zM.of miX8_has (Nat.le_of_ble_eq_true rfl) ?_
  intro p e s m args below meth c X hr hname
  generalize hF : ((fun r2 z => r2 = some (.int r) ∧ z = (L, M, N) ∧ (r = 0 ∨ r = 1)) : Option Value → zS → Prop) = FQ
  change Zw p l e { frames := 0, cells := 0, slots := 0, locals := 80 * (0) } s m args below meth c G b 2 (MQ below (zQ G b FQ) args s 0 0 (fun q : Nat => b ≤ q)) 0 0 0 [some (.int v0), some (.int v1)] [] (L, M, N)
  have J_14 : ∀ (x0_14 : Int32) (x1_14 : Int32) (y0_14 : Int32), (y0_14 = 0 ∨ y0_14 = 1) → D_X8_has_14 y0_14 = some r → Zw p l e { frames := 0, cells := 0, slots := 0, locals := 80 * (0) } s m args below meth c G b 2 (MQ below (zQ G b FQ) args s 0 0 (fun q : Nat => b ≤ q)) 0 0 14 [some (.int x0_14), some (.int x1_14)] [.int y0_14] (L, M, N) := by
    intro x0_14 x1_14 y0_14 fb_y0_14 h
    unfold D_X8_has_14 at h
    refine a_zret X (by first | exact Or.inl rfl | exact Or.inr rfl | assumption) hr dX8_has_14 ⟨by decide, by decide⟩ ?_
    subst hF
    rw [← Option.some.inj h]
    exact ⟨rfl, rfl, (by first | exact Or.inl rfl | exact Or.inr rfl | assumption)⟩
  unfold D_X8_has at h
  refine a_iload_n X dX8_has_0 rfl ?_
  refine a_iload_n X dX8_has_1 rfl ?_
  refine a_ishr X dX8_has_2 ?_
  refine a_iconst (v := 1) X dX8_has_3 (by decide) ?_
  refine a_iand X dX8_has_4 ?_
  refine a_iconst (v := 1) X dX8_has_5 (by decide) ?_
  refine a_icmp_ne (tgt := 13) X dX8_has_6 (by decide) (fun h_6 => ?_) (fun h_6 => ?_)
  · replace h := (if_neg h_6).symm.trans h
    refine a_iconst (v := 0) X dX8_has_13 (by decide) ?_
    exact Zw.to2 (J_14 _ _ _ (by first | exact Or.inl rfl | exact Or.inr rfl | assumption) h) rfl rfl rfl
  · replace h := (if_pos h_6).symm.trans h
    refine a_iconst (v := 1) X dX8_has_9 (by decide) ?_
    refine a_goto (tgt := 14) X dX8_has_10 (by decide) ?_
    exact Zw.to2 (J_14 _ _ _ (by first | exact Or.inl rfl | exact Or.inr rfl | assumption) h) rfl rfl rfl
noncomputable def D_X8_common_4  : Nat → Int32 → Int32 → Option (Int32)
  | 0, _, _ => none
  | n + 1, x2_4, x3_4 =>
    if x3_4 = 0 then
      some (x2_4)
    else
      zZ x3_4 <|
      (D_X8_common_4 n) x3_4 (x2_4 - x2_4 / x3_4 * x3_4)
noncomputable def D_X8_common  (v0 : Int32) (v1 : Int32) : Option (Int32) :=
  D_X8_common_4 zFu v0 v1
set_option maxRecDepth 100000 in
set_option maxHeartbeats 4000000 in
theorem t_X8_common {l : Launch} {G : zG} {b : Nat} {L : List zC} {M : zMt} {N : zNt}  {v0 : Int32} {v1 : Int32}  {r : Int32} (h : D_X8_common v0 v1 = some r) : zM l G b yX8_common cX8_common 5 (some .int) 0 0 0 [.int v0, .int v1] (L, M, N) (fun r2 z => r2 = some (.int r) ∧ z = (L, M, N)) := by
  refine zM.of miX8_common (Nat.le_of_ble_eq_true rfl) ?_
  intro p e s m args below meth c X hr hname
  generalize hF : ((fun r2 z => r2 = some (.int r) ∧ z = (L, M, N)) : Option Value → zS → Prop) = FQ
  change Zw p l e { frames := 0, cells := 0, slots := 0, locals := 80 * (0) } s m args below meth c G b 5 (MQ below (zQ G b FQ) args s 0 0 (fun q : Nat => b ≤ q)) 0 0 0 [some (.int v0), some (.int v1), none, none, none] [] (L, M, N)
  have L_4 : ∀ u : Nat, ∀ (x0_4 : Int32) (x1_4 : Int32) (x2_4 : Int32) (x3_4 : Int32) (x4_4 : Option Value), D_X8_common_4 u x2_4 x3_4 = some r → Zw p l e { frames := 0, cells := 0, slots := 0, locals := 80 * (0) } s m args below meth c G b 5 (MQ below (zQ G b FQ) args s 0 0 (fun q : Nat => b ≤ q)) 0 0 4 [some (.int x0_4), some (.int x1_4), some (.int x2_4), some (.int x3_4), x4_4] [] (L, M, N) := by
    intro u
    induction u with
    | zero => intro x0_4 x1_4 x2_4 x3_4 x4_4 h; cases (show none = some r from h)
    | succ u_4 ih_4 =>
      intro x0_4 x1_4 x2_4 x3_4 x4_4 h
      rw [D_X8_common_4] at h
      refine a_iload_n X dX8_common_4 rfl ?_
      refine a_if_eq (tgt := 21) X dX8_common_5 (by decide) (fun h_5 => ?_) (fun h_5 => ?_)
      · replace h := (if_pos h_5).symm.trans h
        refine a_iload_n X dX8_common_21 rfl ?_
        refine a_iret X hr dX8_common_22 ⟨by decide, by decide⟩ ?_
        subst hF
        rw [← Option.some.inj h]
        exact ⟨rfl, rfl⟩
      · replace h := (if_neg h_5).symm.trans h
        refine a_iload_n X dX8_common_8 rfl ?_
        refine a_iload_n X dX8_common_9 rfl ?_
        obtain ⟨z_10, h⟩ := zZx h
        refine a_irem X dX8_common_10 (z_10) ?_
        refine a_istore X dX8_common_11 (by decide) ?_
        refine a_iload_n X dX8_common_13 rfl ?_
        refine a_istore_n X dX8_common_14 (by decide) ?_
        refine a_iload X dX8_common_15 rfl ?_
        refine a_istore_n X dX8_common_17 (by decide) ?_
        refine a_goto (tgt := 4) X dX8_common_18 (by decide) ?_
        exact Zw.to2 (ih_4 _ _ _ _ _ h) rfl rfl rfl
  have H_4 : ∀ (x0_4 : Int32) (x1_4 : Int32) (x2_4 : Int32) (x3_4 : Int32) (x4_4 : Option Value), D_X8_common_4 zFu x2_4 x3_4 = some r → Zw p l e { frames := 0, cells := 0, slots := 0, locals := 80 * (0) } s m args below meth c G b 5 (MQ below (zQ G b FQ) args s 0 0 (fun q : Nat => b ≤ q)) 0 0 4 [some (.int x0_4), some (.int x1_4), some (.int x2_4), some (.int x3_4), x4_4] [] (L, M, N) := L_4 zFu
  unfold D_X8_common at h
  refine a_iload_n X dX8_common_0 rfl ?_
  refine a_istore_n X dX8_common_1 (by decide) ?_
  refine a_iload_n X dX8_common_2 rfl ?_
  refine a_istore_n X dX8_common_3 (by decide) ?_
  exact Zw.to2 (H_4 _ _ _ _ _ h) rfl rfl rfl
noncomputable def D_X8_begins_39 (Q : Nat) (nQ : Nat) : Nat → Int32 → zMt → Option (zMt)
  | 0, _, _ => none
  | n + 1, x1_39, M_39 =>
    if (10 : Int32) ≤ x1_39 then
      zI (69 : Int32) nQ <|
      zLt (zu M_39 Q (69 : Int32).toNatClampNeg (100 : Int32)) fun M_63 =>
      some (M_63)
    else
      zI ((72 : Int32) + x1_39) nQ <|
      zLt (zu M_39 Q ((72 : Int32) + x1_39).toNatClampNeg (-1 : Int32)) fun M_51 =>
      (D_X8_begins_39 Q nQ n) (x1_39 + 1) M_51
noncomputable def D_X8_begins_21 (Q : Nat) (nQ : Nat) : Nat → Int32 → zMt → Option (zMt)
  | 0, _, _ => none
  | n + 1, x1_21, M_21 =>
    if (62 : Int32) ≤ x1_21 then
      D_X8_begins_39 Q nQ zFu (0 : Int32) M_21
    else
      zI x1_21 nQ <|
      zLt (zu M_21 Q x1_21.toNatClampNeg (-1 : Int32)) fun M_30 =>
      (D_X8_begins_21 Q nQ n) (x1_21 + 1) M_30
noncomputable def D_X8_begins_2 (Q : Nat) (nQ : Nat) : Nat → Int32 → zMt → Option (zMt)
  | 0, _, _ => none
  | n + 1, x1_2, M_2 =>
    if (82 : Int32) ≤ x1_2 then
      D_X8_begins_21 Q nQ zFu (10 : Int32) M_2
    else
      zI x1_2 nQ <|
      zLt (zu M_2 Q x1_2.toNatClampNeg (0 : Int32)) fun M_11 =>
      (D_X8_begins_2 Q nQ n) (x1_2 + 1) M_11
noncomputable def D_X8_begins (Q : Nat) (nQ : Nat) (M : zMt) : Option (zMt) :=
  D_X8_begins_2 Q nQ zFu (0 : Int32) M
set_option maxRecDepth 100000 in
set_option maxHeartbeats 4000000 in
theorem t_X8_begins {l : Launch} {G : zG} {b : Nat} {L : List zC} {M : zMt} {N : zNt} {Q : Nat} {nQ : Nat}  (hQ : L[Q]? = some (1, nQ, [])) (lQ : nQ < 2 ^ 31) {r : zMt} (h : D_X8_begins Q nQ M = some r) : zM l G b yX8_begins cX8_begins 2 none 0 0 0 [.ref Q] (L, M, N) (fun r2 z => r2 = none ∧ z = (L, r, N)) := by
  refine zM.of miX8_begins (Nat.le_of_ble_eq_true rfl) ?_
  intro p e s m args below meth c X hr hname
  generalize hF : ((fun r2 z => r2 = none ∧ z = (L, r, N)) : Option Value → zS → Prop) = FQ
  change Zw p l e { frames := 0, cells := 0, slots := 0, locals := 80 * (0) } s m args below meth c G b 2 (MQ below (zQ G b FQ) args s 0 0 (fun q : Nat => b ≤ q)) 0 0 0 [some (.ref Q), none] [] (L, M, N)
  have L_39 : ∀ u : Nat, ∀ (x1_39 : Int32) (M_39 : zMt), D_X8_begins_39 Q nQ u x1_39 M_39 = some r → Zw p l e { frames := 0, cells := 0, slots := 0, locals := 80 * (0) } s m args below meth c G b 2 (MQ below (zQ G b FQ) args s 0 0 (fun q : Nat => b ≤ q)) 0 0 39 [some (.ref (Q)), some (.int x1_39)] [] (L, M_39, N) := by
    intro u
    induction u with
    | zero => intro x1_39 M_39 h; cases (show none = some r from h)
    | succ u_39 ih_39 =>
      intro x1_39 M_39 h
      rw [D_X8_begins_39] at h
      refine a_iload_n X dX8_begins_39 rfl ?_
      refine a_bipush (v := 10) X dX8_begins_40 (by decide) ?_
      refine a_icmp_ge (tgt := 58) X dX8_begins_42 (by decide) (fun h_42 => ?_) (fun h_42 => ?_)
      · replace h := (if_pos h_42).symm.trans h
        refine a_aload_n X dX8_begins_58 rfl ?_
        refine a_bipush (v := 69) X dX8_begins_59 (by decide) ?_
        refine a_bipush (v := 100) X dX8_begins_61 (by decide) ?_
        obtain ⟨g_63, h⟩ := zIx h
        obtain ⟨M_63, f_63, h⟩ := zLtx h
        refine d_iastore X (by first | exact hQ | assumption) g_63 dX8_begins_63 f_63 ?_
        refine a_vret X hr dX8_begins_64 ⟨by decide, by decide⟩ ?_
        subst hF
        rw [← Option.some.inj h]
        exact ⟨rfl, rfl⟩
      · replace h := (if_neg h_42).symm.trans h
        refine a_aload_n X dX8_begins_45 rfl ?_
        refine a_bipush (v := 72) X dX8_begins_46 (by decide) ?_
        refine a_iload_n X dX8_begins_48 rfl ?_
        refine a_iadd X dX8_begins_49 ?_
        refine a_iconst (v := -1) X dX8_begins_50 (by decide) ?_
        obtain ⟨g_51, h⟩ := zIx h
        obtain ⟨M_51, f_51, h⟩ := zLtx h
        refine d_iastore X (by first | exact hQ | assumption) g_51 dX8_begins_51 f_51 ?_
        refine a_iinc (v := x1_39 + 1) X dX8_begins_52 (by decide) rfl zi_1 ?_
        refine a_goto (tgt := 39) X dX8_begins_55 (by decide) ?_
        exact Zw.to2 (ih_39 _ _ h) rfl rfl rfl
  have H_39 : ∀ (x1_39 : Int32) (M_39 : zMt), D_X8_begins_39 Q nQ zFu x1_39 M_39 = some r → Zw p l e { frames := 0, cells := 0, slots := 0, locals := 80 * (0) } s m args below meth c G b 2 (MQ below (zQ G b FQ) args s 0 0 (fun q : Nat => b ≤ q)) 0 0 39 [some (.ref (Q)), some (.int x1_39)] [] (L, M_39, N) := L_39 zFu
  have L_21 : ∀ u : Nat, ∀ (x1_21 : Int32) (M_21 : zMt), D_X8_begins_21 Q nQ u x1_21 M_21 = some r → Zw p l e { frames := 0, cells := 0, slots := 0, locals := 80 * (0) } s m args below meth c G b 2 (MQ below (zQ G b FQ) args s 0 0 (fun q : Nat => b ≤ q)) 0 0 21 [some (.ref (Q)), some (.int x1_21)] [] (L, M_21, N) := by
    intro u
    induction u with
    | zero => intro x1_21 M_21 h; cases (show none = some r from h)
    | succ u_21 ih_21 =>
      intro x1_21 M_21 h
      rw [D_X8_begins_21] at h
      refine a_iload_n X dX8_begins_21 rfl ?_
      refine a_bipush (v := 62) X dX8_begins_22 (by decide) ?_
      refine a_icmp_ge (tgt := 37) X dX8_begins_24 (by decide) (fun h_24 => ?_) (fun h_24 => ?_)
      · replace h := (if_pos h_24).symm.trans h
        refine a_iconst (v := 0) X dX8_begins_37 (by decide) ?_
        refine a_istore_n X dX8_begins_38 (by decide) ?_
        exact Zw.to2 (H_39 _ _ h) rfl rfl rfl
      · replace h := (if_neg h_24).symm.trans h
        refine a_aload_n X dX8_begins_27 rfl ?_
        refine a_iload_n X dX8_begins_28 rfl ?_
        refine a_iconst (v := -1) X dX8_begins_29 (by decide) ?_
        obtain ⟨g_30, h⟩ := zIx h
        obtain ⟨M_30, f_30, h⟩ := zLtx h
        refine d_iastore X (by first | exact hQ | assumption) g_30 dX8_begins_30 f_30 ?_
        refine a_iinc (v := x1_21 + 1) X dX8_begins_31 (by decide) rfl zi_1 ?_
        refine a_goto (tgt := 21) X dX8_begins_34 (by decide) ?_
        exact Zw.to2 (ih_21 _ _ h) rfl rfl rfl
  have H_21 : ∀ (x1_21 : Int32) (M_21 : zMt), D_X8_begins_21 Q nQ zFu x1_21 M_21 = some r → Zw p l e { frames := 0, cells := 0, slots := 0, locals := 80 * (0) } s m args below meth c G b 2 (MQ below (zQ G b FQ) args s 0 0 (fun q : Nat => b ≤ q)) 0 0 21 [some (.ref (Q)), some (.int x1_21)] [] (L, M_21, N) := L_21 zFu
  have L_2 : ∀ u : Nat, ∀ (x1_2 : Int32) (M_2 : zMt), D_X8_begins_2 Q nQ u x1_2 M_2 = some r → Zw p l e { frames := 0, cells := 0, slots := 0, locals := 80 * (0) } s m args below meth c G b 2 (MQ below (zQ G b FQ) args s 0 0 (fun q : Nat => b ≤ q)) 0 0 2 [some (.ref (Q)), some (.int x1_2)] [] (L, M_2, N) := by
    intro u
    induction u with
    | zero => intro x1_2 M_2 h; cases (show none = some r from h)
    | succ u_2 ih_2 =>
      intro x1_2 M_2 h
      rw [D_X8_begins_2] at h
      refine a_iload_n X dX8_begins_2 rfl ?_
      refine a_bipush (v := 82) X dX8_begins_3 (by decide) ?_
      refine a_icmp_ge (tgt := 18) X dX8_begins_5 (by decide) (fun h_5 => ?_) (fun h_5 => ?_)
      · replace h := (if_pos h_5).symm.trans h
        refine a_bipush (v := 10) X dX8_begins_18 (by decide) ?_
        refine a_istore_n X dX8_begins_20 (by decide) ?_
        exact Zw.to2 (H_21 _ _ h) rfl rfl rfl
      · replace h := (if_neg h_5).symm.trans h
        refine a_aload_n X dX8_begins_8 rfl ?_
        refine a_iload_n X dX8_begins_9 rfl ?_
        refine a_iconst (v := 0) X dX8_begins_10 (by decide) ?_
        obtain ⟨g_11, h⟩ := zIx h
        obtain ⟨M_11, f_11, h⟩ := zLtx h
        refine d_iastore X (by first | exact hQ | assumption) g_11 dX8_begins_11 f_11 ?_
        refine a_iinc (v := x1_2 + 1) X dX8_begins_12 (by decide) rfl zi_1 ?_
        refine a_goto (tgt := 2) X dX8_begins_15 (by decide) ?_
        exact Zw.to2 (ih_2 _ _ h) rfl rfl rfl
  have H_2 : ∀ (x1_2 : Int32) (M_2 : zMt), D_X8_begins_2 Q nQ zFu x1_2 M_2 = some r → Zw p l e { frames := 0, cells := 0, slots := 0, locals := 80 * (0) } s m args below meth c G b 2 (MQ below (zQ G b FQ) args s 0 0 (fun q : Nat => b ≤ q)) 0 0 2 [some (.ref (Q)), some (.int x1_2)] [] (L, M_2, N) := L_2 zFu
  unfold D_X8_begins at h
  refine a_iconst (v := 0) X dX8_begins_0 (by decide) ?_
  refine a_istore_n X dX8_begins_1 (by decide) ?_
  exact Zw.to2 (H_2 _ _ h) rfl rfl rfl
noncomputable def D_X8_isUnit (P : Nat) (M : zMt) (v0 : Int32) : Option (Int32) :=
  zB (D_X8_isFrom (Int32.toInt64 v0) (0 : Int64) (Int32.toInt64 ((M P 7) - (1 : Int32)))) fun e_10 =>
  some (e_10)
set_option maxRecDepth 100000 in
set_option maxHeartbeats 4000000 in
theorem t_X8_isUnit {l : Launch} {G : zG} {b : Nat} {L : List zC} {M : zMt} {N : zNt} {P : Nat} {v0 : Int32} (hP : LX8 L P) {r : Int32} (h : D_X8_isUnit P M v0 = some r) : zM l G b yX8_isUnit cX8_isUnit 2 (some .boolean) 1 0 0 [.ref P, .int v0] (L, M, N) (fun r2 z => r2 = some (.int r) ∧ z = (L, M, N) ∧ (r = 0 ∨ r = 1)) := by
  refine zM.of miX8_isUnit (Nat.le_of_ble_eq_true rfl) ?_
  intro p e s m args below meth c X hr hname
  generalize hF : ((fun r2 z => r2 = some (.int r) ∧ z = (L, M, N) ∧ (r = 0 ∨ r = 1)) : Option Value → zS → Prop) = FQ
  change Zw p l e { frames := 1, cells := 0, slots := 0, locals := 80 * (1) } s m args below meth c G b 2 (MQ below (zQ G b FQ) args s 0 0 (fun q : Nat => b ≤ q)) 0 0 0 [some (.ref P), some (.int v0)] [] (L, M, N)
  have p_lt := hP.1
  have p_o := hP.2.1
  unfold D_X8_isUnit at h
  refine a_iload_n X dX8_isUnit_0 rfl ?_
  refine a_i2l X dX8_isUnit_1 ?_
  refine a_lconst (v := 0) X dX8_isUnit_2 (by decide) ?_
  refine a_aload_n X dX8_isUnit_3 rfl ?_
  refine a_geti X lf8_125 (by first | exact p_o | assumption) rfl dX8_isUnit_4 ?_
  refine a_iconst (v := 1) X dX8_isUnit_7 (by decide) ?_
  refine a_isub X dX8_isUnit_8 ?_
  refine a_i2l X dX8_isUnit_9 ?_
  obtain ⟨e_10, f_10, h⟩ := zBx h
  refine a_callSx X dX8_isUnit_10 miX8_isFrom lm8_128 (t_X8_isFrom f_10) rfl rfl (Nat.le_of_ble_eq_true rfl) ⟨by decide, by decide, by decide, by decide⟩ (fun r_10 S_10 q_10 => ?_)
  obtain ⟨rfl, rfl, b_10⟩ := q_10
  refine a_zret X (by first | exact Or.inl rfl | exact Or.inr rfl | assumption) hr dX8_isUnit_13 ⟨by decide, by decide⟩ ?_
  subst hF
  rw [← Option.some.inj h]
  exact ⟨rfl, rfl, (by first | exact Or.inl rfl | exact Or.inr rfl | assumption)⟩
noncomputable def D_X8_isHunter (P : Nat) (M : zMt) (v0 : Int32) : Option (Int32) :=
  zB (D_X8_isFrom (Int32.toInt64 v0) (0 : Int64) (Int32.toInt64 ((M P 8) - (1 : Int32)))) fun e_10 =>
  some (e_10)
set_option maxRecDepth 100000 in
set_option maxHeartbeats 4000000 in
theorem t_X8_isHunter {l : Launch} {G : zG} {b : Nat} {L : List zC} {M : zMt} {N : zNt} {P : Nat} {v0 : Int32} (hP : LX8 L P) {r : Int32} (h : D_X8_isHunter P M v0 = some r) : zM l G b yX8_isHunter cX8_isHunter 2 (some .boolean) 1 0 0 [.ref P, .int v0] (L, M, N) (fun r2 z => r2 = some (.int r) ∧ z = (L, M, N) ∧ (r = 0 ∨ r = 1)) := by
  refine zM.of miX8_isHunter (Nat.le_of_ble_eq_true rfl) ?_
  intro p e s m args below meth c X hr hname
  generalize hF : ((fun r2 z => r2 = some (.int r) ∧ z = (L, M, N) ∧ (r = 0 ∨ r = 1)) : Option Value → zS → Prop) = FQ
  change Zw p l e { frames := 1, cells := 0, slots := 0, locals := 80 * (1) } s m args below meth c G b 2 (MQ below (zQ G b FQ) args s 0 0 (fun q : Nat => b ≤ q)) 0 0 0 [some (.ref P), some (.int v0)] [] (L, M, N)
  have p_lt := hP.1
  have p_o := hP.2.1
  unfold D_X8_isHunter at h
  refine a_iload_n X dX8_isHunter_0 rfl ?_
  refine a_i2l X dX8_isHunter_1 ?_
  refine a_lconst (v := 0) X dX8_isHunter_2 (by decide) ?_
  refine a_aload_n X dX8_isHunter_3 rfl ?_
  refine a_geti X lf8_132 (by first | exact p_o | assumption) rfl dX8_isHunter_4 ?_
  refine a_iconst (v := 1) X dX8_isHunter_7 (by decide) ?_
  refine a_isub X dX8_isHunter_8 ?_
  refine a_i2l X dX8_isHunter_9 ?_
  obtain ⟨e_10, f_10, h⟩ := zBx h
  refine a_callSx X dX8_isHunter_10 miX8_isFrom lm8_128 (t_X8_isFrom f_10) rfl rfl (Nat.le_of_ble_eq_true rfl) ⟨by decide, by decide, by decide, by decide⟩ (fun r_10 S_10 q_10 => ?_)
  obtain ⟨rfl, rfl, b_10⟩ := q_10
  refine a_zret X (by first | exact Or.inl rfl | exact Or.inr rfl | assumption) hr dX8_isHunter_13 ⟨by decide, by decide⟩ ?_
  subst hF
  rw [← Option.some.inj h]
  exact ⟨rfl, rfl, (by first | exact Or.inl rfl | exact Or.inr rfl | assumption)⟩
noncomputable def D_X8_isParty (P : Nat) (M : zMt) (v0 : Int32) : Option (Int32) :=
  zI (70 : Int32) 82 <|
  zB (D_X8_isFrom (Int32.toInt64 v0) (0 : Int64) (Int32.toInt64 ((M (P + 1) (70 : Int32).toNatClampNeg) - (1 : Int32)))) fun e_13 =>
  some (e_13)
set_option maxRecDepth 100000 in
set_option maxHeartbeats 4000000 in
theorem t_X8_isParty {l : Launch} {G : zG} {b : Nat} {L : List zC} {M : zMt} {N : zNt} {P : Nat} {v0 : Int32} (hP : LX8 L P) {r : Int32} (h : D_X8_isParty P M v0 = some r) : zM l G b yX8_isParty cX8_isParty 2 (some .boolean) 1 0 0 [.ref P, .int v0] (L, M, N) (fun r2 z => r2 = some (.int r) ∧ z = (L, M, N) ∧ (r = 0 ∨ r = 1)) := by
  refine zM.of miX8_isParty (Nat.le_of_ble_eq_true rfl) ?_
  intro p e s m args below meth c X hr hname
  generalize hF : ((fun r2 z => r2 = some (.int r) ∧ z = (L, M, N) ∧ (r = 0 ∨ r = 1)) : Option Value → zS → Prop) = FQ
  change Zw p l e { frames := 1, cells := 0, slots := 0, locals := 80 * (1) } s m args below meth c G b 2 (MQ below (zQ G b FQ) args s 0 0 (fun q : Nat => b ≤ q)) 0 0 0 [some (.ref P), some (.int v0)] [] (L, M, N)
  have p_lt := hP.1
  have p_o := hP.2.1
  have p_s := hP.2.2.1
  unfold D_X8_isParty at h
  refine a_iload_n X dX8_isParty_0 rfl ?_
  refine a_i2l X dX8_isParty_1 ?_
  refine a_lconst (v := 0) X dX8_isParty_2 (by decide) ?_
  refine a_aload_n X dX8_isParty_3 rfl ?_
  refine a_getr X lf8_7 (by first | exact p_o | assumption) rfl (by omega) dX8_isParty_4 ?_
  refine a_bipush (v := 70) X dX8_isParty_7 (by decide) ?_
  obtain ⟨g_9, h⟩ := zIx h
  refine a_iaload X (by first | exact p_s | assumption) g_9 dX8_isParty_9 ?_
  refine a_iconst (v := 1) X dX8_isParty_10 (by decide) ?_
  refine a_isub X dX8_isParty_11 ?_
  refine a_i2l X dX8_isParty_12 ?_
  obtain ⟨e_13, f_13, h⟩ := zBx h
  refine a_callSx X dX8_isParty_13 miX8_isFrom lm8_128 (t_X8_isFrom f_13) rfl rfl (Nat.le_of_ble_eq_true rfl) ⟨by decide, by decide, by decide, by decide⟩ (fun r_13 S_13 q_13 => ?_)
  obtain ⟨rfl, rfl, b_13⟩ := q_13
  refine a_zret X (by first | exact Or.inl rfl | exact Or.inr rfl | assumption) hr dX8_isParty_16 ⟨by decide, by decide⟩ ?_
  subst hF
  rw [← Option.some.inj h]
  exact ⟨rfl, rfl, (by first | exact Or.inl rfl | exact Or.inr rfl | assumption)⟩
noncomputable def D_X8_isSeed  (v0 : Int32) : Option (Int32) :=
  zB (D_X8_isFrom (Int32.toInt64 v0) (0 : Int64) (999999999 : Int64)) fun e_6 =>
  some (e_6)
set_option maxRecDepth 100000 in
set_option maxHeartbeats 4000000 in
theorem t_X8_isSeed {l : Launch} {G : zG} {b : Nat} {L : List zC} {M : zMt} {N : zNt}  {v0 : Int32}  {r : Int32} (h : D_X8_isSeed v0 = some r) : zM l G b yX8_isSeed cX8_isSeed 1 (some .boolean) 1 0 0 [.int v0] (L, M, N) (fun r2 z => r2 = some (.int r) ∧ z = (L, M, N) ∧ (r = 0 ∨ r = 1)) := by
  refine zM.of miX8_isSeed (Nat.le_of_ble_eq_true rfl) ?_
  intro p e s m args below meth c X hr hname
  generalize hF : ((fun r2 z => r2 = some (.int r) ∧ z = (L, M, N) ∧ (r = 0 ∨ r = 1)) : Option Value → zS → Prop) = FQ
  change Zw p l e { frames := 1, cells := 0, slots := 0, locals := 80 * (1) } s m args below meth c G b 1 (MQ below (zQ G b FQ) args s 0 0 (fun q : Nat => b ≤ q)) 0 0 0 [some (.int v0)] [] (L, M, N)
  unfold D_X8_isSeed at h
  refine a_iload_n X dX8_isSeed_0 rfl ?_
  refine a_i2l X dX8_isSeed_1 ?_
  refine a_lconst (v := 0) X dX8_isSeed_2 (by decide) ?_
  refine a_ldc2 X dX8_isSeed_3 lk8_135 ?_
  obtain ⟨e_6, f_6, h⟩ := zBx h
  refine a_callSx X dX8_isSeed_6 miX8_isFrom lm8_128 (t_X8_isFrom f_6) rfl rfl (Nat.le_of_ble_eq_true rfl) ⟨by decide, by decide, by decide, by decide⟩ (fun r_6 S_6 q_6 => ?_)
  obtain ⟨rfl, rfl, b_6⟩ := q_6
  refine a_zret X (by first | exact Or.inl rfl | exact Or.inr rfl | assumption) hr dX8_isSeed_9 ⟨by decide, by decide⟩ ?_
  subst hF
  rw [← Option.some.inj h]
  exact ⟨rfl, rfl, (by first | exact Or.inl rfl | exact Or.inr rfl | assumption)⟩
noncomputable def D_X8_come_3 (P : Nat) : Nat → Int32 → Int32 → zMt → Option (zMt)
  | 0, _, _, _ => none
  | n + 1, x1_3, x2_3, M_3 =>
    if x2_3 < 0 then
      some (M_3)
    else
      zI (M_3 P 11) 700 <|
      zLt (zu M_3 (P + 7) (M_3 P 11).toNatClampNeg (((Int32.toUInt32 x1_3 >>> (Int32.toUInt32 x2_3 &&& Int32.toUInt32 31)).toInt32) &&& (255 : Int32))) fun M_22 =>
      zLt (zu M_22 P 11 ((M_22 P 11) + (1 : Int32))) fun M_30 =>
      (D_X8_come_3 P n) x1_3 (x2_3 + (-8)) M_30
noncomputable def D_X8_come (P : Nat) (v0 : Int32) (M : zMt) : Option (zMt) :=
  D_X8_come_3 P zFu v0 (24 : Int32) M
set_option maxRecDepth 100000 in
set_option maxHeartbeats 4000000 in
theorem t_X8_come {l : Launch} {G : zG} {b : Nat} {L : List zC} {M : zMt} {N : zNt} {P : Nat} {v0 : Int32} (hP : LX8 L P) {r : zMt} (h : D_X8_come P v0 M = some r) : zM l G b yX8_come cX8_come 3 none 0 0 0 [.ref P, .int v0] (L, M, N) (fun r2 z => r2 = none ∧ z = (L, r, N)) := by
  refine zM.of miX8_come (Nat.le_of_ble_eq_true rfl) ?_
  intro p e s m args below meth c X hr hname
  generalize hF : ((fun r2 z => r2 = none ∧ z = (L, r, N)) : Option Value → zS → Prop) = FQ
  change Zw p l e { frames := 0, cells := 0, slots := 0, locals := 80 * (0) } s m args below meth c G b 3 (MQ below (zQ G b FQ) args s 0 0 (fun q : Nat => b ≤ q)) 0 0 0 [some (.ref P), some (.int v0), none] [] (L, M, N)
  have p_lt := hP.1
  have p_o := hP.2.1
  have p_tape := hP.2.2.2.2.2.2.2.2.1
  have L_3 : ∀ u : Nat, ∀ (x1_3 : Int32) (x2_3 : Int32) (M_3 : zMt), D_X8_come_3 P u x1_3 x2_3 M_3 = some r → Zw p l e { frames := 0, cells := 0, slots := 0, locals := 80 * (0) } s m args below meth c G b 3 (MQ below (zQ G b FQ) args s 0 0 (fun q : Nat => b ≤ q)) 0 0 3 [some (.ref (P)), some (.int x1_3), some (.int x2_3)] [] (L, M_3, N) := by
    intro u
    induction u with
    | zero => intro x1_3 x2_3 M_3 h; cases (show none = some r from h)
    | succ u_3 ih_3 =>
      intro x1_3 x2_3 M_3 h
      rw [D_X8_come_3] at h
      refine a_iload_n X dX8_come_3 rfl ?_
      refine a_if_lt (tgt := 39) X dX8_come_4 (by decide) (fun h_4 => ?_) (fun h_4 => ?_)
      · replace h := (if_pos h_4).symm.trans h
        refine a_vret X hr dX8_come_39 ⟨by decide, by decide⟩ ?_
        subst hF
        rw [← Option.some.inj h]
        exact ⟨rfl, rfl⟩
      · replace h := (if_neg h_4).symm.trans h
        refine a_aload_n X dX8_come_7 rfl ?_
        refine a_getr X lf8_29 (by first | exact p_o | assumption) rfl (by omega) dX8_come_8 ?_
        refine a_aload_n X dX8_come_11 rfl ?_
        refine a_geti X lf8_137 (by first | exact p_o | assumption) rfl dX8_come_12 ?_
        refine a_iload_n X dX8_come_15 rfl ?_
        refine a_iload_n X dX8_come_16 rfl ?_
        refine a_iushr X dX8_come_17 ?_
        refine a_sipush (v := 255) X dX8_come_18 (by decide) ?_
        refine a_iand X dX8_come_21 ?_
        obtain ⟨g_22, h⟩ := zIx h
        obtain ⟨M_22, f_22, h⟩ := zLtx h
        refine d_iastore X (by first | exact p_tape | assumption) g_22 dX8_come_22 f_22 ?_
        refine a_aload_n X dX8_come_23 rfl ?_
        refine a_dup X dX8_come_24 rfl ?_
        refine a_geti X lf8_137 (by first | exact p_o | assumption) rfl dX8_come_25 ?_
        refine a_iconst (v := 1) X dX8_come_28 (by decide) ?_
        refine a_iadd X dX8_come_29 ?_
        obtain ⟨M_30, f_30, h⟩ := zLtx h
        refine d_puti X lf8_137 (by first | exact p_o | assumption) rfl dX8_come_30 f_30 ?_
        refine a_iinc (v := x2_3 + (-8)) X dX8_come_33 (by decide) rfl (by rw [show Int32.ofInt (-8) = (-8 : Int32) by decide]) ?_
        refine a_goto (tgt := 3) X dX8_come_36 (by decide) ?_
        exact Zw.to2 (ih_3 _ _ _ h) rfl rfl rfl
  have H_3 : ∀ (x1_3 : Int32) (x2_3 : Int32) (M_3 : zMt), D_X8_come_3 P zFu x1_3 x2_3 M_3 = some r → Zw p l e { frames := 0, cells := 0, slots := 0, locals := 80 * (0) } s m args below meth c G b 3 (MQ below (zQ G b FQ) args s 0 0 (fun q : Nat => b ≤ q)) 0 0 3 [some (.ref (P)), some (.int x1_3), some (.int x2_3)] [] (L, M_3, N) := L_3 zFu
  unfold D_X8_come at h
  refine a_bipush (v := 24) X dX8_come_0 (by decide) ?_
  refine a_istore_n X dX8_come_2 (by decide) ?_
  exact Zw.to2 (H_3 _ _ _ h) rfl rfl rfl
noncomputable def D_X8_feed (P : Nat) (v0 : Int32) (v1 : Int32) (v2 : Int32) (v3 : Int32) (v4 : Int32) (M : zMt) : Option (Int32 × zMt) :=
  zLt (zu M P 6 (0 : Int32)) fun M_2 =>
  if ((M_2 P 11) + (20 : Int32)) ≤ (700 : Int32) then
    zB (D_X8_come P v0 M_2) fun e_22 =>
    zB (D_X8_come P v1 e_22) fun e_27 =>
    zB (D_X8_come P v2 e_27) fun e_32 =>
    zB (D_X8_come P v3 e_32) fun e_38 =>
    zB (D_X8_come P v4 e_38) fun e_44 =>
    some ((e_44 P 11), e_44)
  else
    some ((-1 : Int32), M_2)
set_option maxRecDepth 100000 in
set_option maxHeartbeats 4000000 in
theorem t_X8_feed {l : Launch} {G : zG} {b : Nat} {L : List zC} {M : zMt} {N : zNt} {P : Nat} {v0 : Int32} {v1 : Int32} {v2 : Int32} {v3 : Int32} {v4 : Int32} (hP : LX8 L P) {r : Int32 × zMt} (h : D_X8_feed P v0 v1 v2 v3 v4 M = some r) : zM l G b yX8_feed cX8_feed 6 (some .int) 1 0 0 [.ref P, .int v0, .int v1, .int v2, .int v3, .int v4] (L, M, N) (fun r2 z => r2 = some (.int r.1) ∧ z = (L, r.2, N)) := by
  refine zM.of miX8_feed (Nat.le_of_ble_eq_true rfl) ?_
  intro p e s m args below meth c X hr hname
  generalize hF : ((fun r2 z => r2 = some (.int r.1) ∧ z = (L, r.2, N)) : Option Value → zS → Prop) = FQ
  change Zw p l e { frames := 1, cells := 0, slots := 0, locals := 80 * (1) } s m args below meth c G b 6 (MQ below (zQ G b FQ) args s 0 0 (fun q : Nat => b ≤ q)) 0 0 0 [some (.ref P), some (.int v0), some (.int v1), some (.int v2), some (.int v3), some (.int v4)] [] (L, M, N)
  have p_lt := hP.1
  have p_o := hP.2.1
  unfold D_X8_feed at h
  refine a_aload_n X dX8_feed_0 rfl ?_
  refine a_iconst (v := 0) X dX8_feed_1 (by decide) ?_
  obtain ⟨M_2, f_2, h⟩ := zLtx h
  refine d_puti X lf8_119 (by first | exact p_o | assumption) rfl dX8_feed_2 f_2 ?_
  refine a_aload_n X dX8_feed_5 rfl ?_
  refine a_geti X lf8_137 (by first | exact p_o | assumption) rfl dX8_feed_6 ?_
  refine a_bipush (v := 20) X dX8_feed_9 (by decide) ?_
  refine a_iadd X dX8_feed_11 ?_
  refine a_sipush (v := 700) X dX8_feed_12 (by decide) ?_
  refine a_icmp_le (tgt := 20) X dX8_feed_15 (by decide) (fun h_15 => ?_) (fun h_15 => ?_)
  · replace h := (if_pos h_15).symm.trans h
    refine a_aload_n X dX8_feed_20 rfl ?_
    refine a_iload_n X dX8_feed_21 rfl ?_
    obtain ⟨e_22, f_22, h⟩ := zBx h
    refine a_callVu X dX8_feed_22 miX8_come lm8_140 (t_X8_come (by first | exact hP | assumption) f_22) (by first | exact p_o | assumption) rfl rfl rfl (Nat.le_of_ble_eq_true rfl) ⟨by decide, by decide, by decide, by decide⟩ ?_
    refine a_aload_n X dX8_feed_25 rfl ?_
    refine a_iload_n X dX8_feed_26 rfl ?_
    obtain ⟨e_27, f_27, h⟩ := zBx h
    refine a_callVu X dX8_feed_27 miX8_come lm8_140 (t_X8_come (by first | exact hP | assumption) f_27) (by first | exact p_o | assumption) rfl rfl rfl (Nat.le_of_ble_eq_true rfl) ⟨by decide, by decide, by decide, by decide⟩ ?_
    refine a_aload_n X dX8_feed_30 rfl ?_
    refine a_iload_n X dX8_feed_31 rfl ?_
    obtain ⟨e_32, f_32, h⟩ := zBx h
    refine a_callVu X dX8_feed_32 miX8_come lm8_140 (t_X8_come (by first | exact hP | assumption) f_32) (by first | exact p_o | assumption) rfl rfl rfl (Nat.le_of_ble_eq_true rfl) ⟨by decide, by decide, by decide, by decide⟩ ?_
    refine a_aload_n X dX8_feed_35 rfl ?_
    refine a_iload X dX8_feed_36 rfl ?_
    obtain ⟨e_38, f_38, h⟩ := zBx h
    refine a_callVu X dX8_feed_38 miX8_come lm8_140 (t_X8_come (by first | exact hP | assumption) f_38) (by first | exact p_o | assumption) rfl rfl rfl (Nat.le_of_ble_eq_true rfl) ⟨by decide, by decide, by decide, by decide⟩ ?_
    refine a_aload_n X dX8_feed_41 rfl ?_
    refine a_iload X dX8_feed_42 rfl ?_
    obtain ⟨e_44, f_44, h⟩ := zBx h
    refine a_callVu X dX8_feed_44 miX8_come lm8_140 (t_X8_come (by first | exact hP | assumption) f_44) (by first | exact p_o | assumption) rfl rfl rfl (Nat.le_of_ble_eq_true rfl) ⟨by decide, by decide, by decide, by decide⟩ ?_
    refine a_aload_n X dX8_feed_47 rfl ?_
    refine a_geti X lf8_137 (by first | exact p_o | assumption) rfl dX8_feed_48 ?_
    refine a_iret X hr dX8_feed_51 ⟨by decide, by decide⟩ ?_
    subst hF
    rw [← Option.some.inj h]
    exact ⟨rfl, rfl⟩
  · replace h := (if_neg h_15).symm.trans h
    refine a_iconst (v := -1) X dX8_feed_18 (by decide) ?_
    refine a_iret X hr dX8_feed_19 ⟨by decide, by decide⟩ ?_
    subst hF
    rw [← Option.some.inj h]
    exact ⟨rfl, rfl⟩
noncomputable def D_X8_byteAt_18 (P : Nat) (M : zMt) (y0_18 : Int32) : Option (Int32) :=
  some (y0_18)
noncomputable def D_X8_byteAt (P : Nat) (M : zMt) (v0 : Int32) : Option (Int32) :=
  if (M P 15) ≤ v0 then
    D_X8_byteAt_18 P M (-1 : Int32)
  else
    zI v0 700 <|
    D_X8_byteAt_18 P M (M (P + 7) v0.toNatClampNeg)
set_option maxRecDepth 100000 in
set_option maxHeartbeats 4000000 in
theorem t_X8_byteAt {l : Launch} {G : zG} {b : Nat} {L : List zC} {M : zMt} {N : zNt} {P : Nat} {v0 : Int32} (hP : LX8 L P) {r : Int32} (h : D_X8_byteAt P M v0 = some r) : zM l G b yX8_byteAt cX8_byteAt 2 (some .int) 0 0 0 [.ref P, .int v0] (L, M, N) (fun r2 z => r2 = some (.int r) ∧ z = (L, M, N)) := by
  refine zM.of miX8_byteAt (Nat.le_of_ble_eq_true rfl) ?_
  intro p e s m args below meth c X hr hname
  generalize hF : ((fun r2 z => r2 = some (.int r) ∧ z = (L, M, N)) : Option Value → zS → Prop) = FQ
  change Zw p l e { frames := 0, cells := 0, slots := 0, locals := 80 * (0) } s m args below meth c G b 2 (MQ below (zQ G b FQ) args s 0 0 (fun q : Nat => b ≤ q)) 0 0 0 [some (.ref P), some (.int v0)] [] (L, M, N)
  have p_lt := hP.1
  have p_o := hP.2.1
  have p_tape := hP.2.2.2.2.2.2.2.2.1
  have J_18 : ∀ (x1_18 : Int32) (y0_18 : Int32), D_X8_byteAt_18 P M y0_18 = some r → Zw p l e { frames := 0, cells := 0, slots := 0, locals := 80 * (0) } s m args below meth c G b 2 (MQ below (zQ G b FQ) args s 0 0 (fun q : Nat => b ≤ q)) 0 0 18 [some (.ref (P)), some (.int x1_18)] [.int y0_18] (L, M, N) := by
    intro x1_18 y0_18 h
    unfold D_X8_byteAt_18 at h
    refine a_iret X hr dX8_byteAt_18 ⟨by decide, by decide⟩ ?_
    subst hF
    rw [← Option.some.inj h]
    exact ⟨rfl, rfl⟩
  unfold D_X8_byteAt at h
  refine a_iload_n X dX8_byteAt_0 rfl ?_
  refine a_aload_n X dX8_byteAt_1 rfl ?_
  refine a_geti X lf8_144 (by first | exact p_o | assumption) rfl dX8_byteAt_2 ?_
  refine a_icmp_ge (tgt := 17) X dX8_byteAt_5 (by decide) (fun h_5 => ?_) (fun h_5 => ?_)
  · replace h := (if_pos h_5).symm.trans h
    refine a_iconst (v := -1) X dX8_byteAt_17 (by decide) ?_
    exact Zw.to2 (J_18 _ _ h) rfl rfl rfl
  · replace h := (if_neg h_5).symm.trans h
    refine a_aload_n X dX8_byteAt_8 rfl ?_
    refine a_getr X lf8_29 (by first | exact p_o | assumption) rfl (by omega) dX8_byteAt_9 ?_
    refine a_iload_n X dX8_byteAt_12 rfl ?_
    obtain ⟨g_13, h⟩ := zIx h
    refine a_iaload X (by first | exact p_tape | assumption) g_13 dX8_byteAt_13 ?_
    refine a_goto (tgt := 18) X dX8_byteAt_14 (by decide) ?_
    exact Zw.to2 (J_18 _ _ h) rfl rfl rfl
noncomputable def D_X8_isLetter_17  (y0_17 : Int32) : Option (Int32) :=
  some (y0_17)
noncomputable def D_X8_isLetter_16   : Option (Int32) :=
  D_X8_isLetter_17 (0 : Int32)
noncomputable def D_X8_isLetter  (v0 : Int32) : Option (Int32) :=
  if v0 < (97 : Int32) then
    D_X8_isLetter_16
  else
    if (122 : Int32) < v0 then
      D_X8_isLetter_16
    else
      D_X8_isLetter_17 (1 : Int32)
set_option maxRecDepth 100000 in
set_option maxHeartbeats 4000000 in
theorem t_X8_isLetter {l : Launch} {G : zG} {b : Nat} {L : List zC} {M : zMt} {N : zNt}  {v0 : Int32}  {r : Int32} (h : D_X8_isLetter v0 = some r) : zM l G b yX8_isLetter cX8_isLetter 1 (some .boolean) 0 0 0 [.int v0] (L, M, N) (fun r2 z => r2 = some (.int r) ∧ z = (L, M, N) ∧ (r = 0 ∨ r = 1)) := by
  refine zM.of miX8_isLetter (Nat.le_of_ble_eq_true rfl) ?_
  intro p e s m args below meth c X hr hname
  generalize hF : ((fun r2 z => r2 = some (.int r) ∧ z = (L, M, N) ∧ (r = 0 ∨ r = 1)) : Option Value → zS → Prop) = FQ
  change Zw p l e { frames := 0, cells := 0, slots := 0, locals := 80 * (0) } s m args below meth c G b 1 (MQ below (zQ G b FQ) args s 0 0 (fun q : Nat => b ≤ q)) 0 0 0 [some (.int v0)] [] (L, M, N)
  have J_17 : ∀ (x0_17 : Int32) (y0_17 : Int32), (y0_17 = 0 ∨ y0_17 = 1) → D_X8_isLetter_17 y0_17 = some r → Zw p l e { frames := 0, cells := 0, slots := 0, locals := 80 * (0) } s m args below meth c G b 1 (MQ below (zQ G b FQ) args s 0 0 (fun q : Nat => b ≤ q)) 0 0 17 [some (.int x0_17)] [.int y0_17] (L, M, N) := by
    intro x0_17 y0_17 fb_y0_17 h
    unfold D_X8_isLetter_17 at h
    refine a_zret X (by first | exact Or.inl rfl | exact Or.inr rfl | assumption) hr dX8_isLetter_17 ⟨by decide, by decide⟩ ?_
    subst hF
    rw [← Option.some.inj h]
    exact ⟨rfl, rfl, (by first | exact Or.inl rfl | exact Or.inr rfl | assumption)⟩
  have J_16 : ∀ (x0_16 : Int32), D_X8_isLetter_16 = some r → Zw p l e { frames := 0, cells := 0, slots := 0, locals := 80 * (0) } s m args below meth c G b 1 (MQ below (zQ G b FQ) args s 0 0 (fun q : Nat => b ≤ q)) 0 0 16 [some (.int x0_16)] [] (L, M, N) := by
    intro x0_16 h
    unfold D_X8_isLetter_16 at h
    refine a_iconst (v := 0) X dX8_isLetter_16 (by decide) ?_
    exact Zw.to2 (J_17 _ _ (by first | exact Or.inl rfl | exact Or.inr rfl | assumption) h) rfl rfl rfl
  unfold D_X8_isLetter at h
  refine a_iload_n X dX8_isLetter_0 rfl ?_
  refine a_bipush (v := 97) X dX8_isLetter_1 (by decide) ?_
  refine a_icmp_lt (tgt := 16) X dX8_isLetter_3 (by decide) (fun h_3 => ?_) (fun h_3 => ?_)
  · replace h := (if_pos h_3).symm.trans h
    exact Zw.to2 (J_16 _ h) rfl rfl rfl
  · replace h := (if_neg h_3).symm.trans h
    refine a_iload_n X dX8_isLetter_6 rfl ?_
    refine a_bipush (v := 122) X dX8_isLetter_7 (by decide) ?_
    refine a_icmp_gt (tgt := 16) X dX8_isLetter_9 (by decide) (fun h_9 => ?_) (fun h_9 => ?_)
    · replace h := (if_pos h_9).symm.trans h
      exact Zw.to2 (J_16 _ h) rfl rfl rfl
    · replace h := (if_neg h_9).symm.trans h
      refine a_iconst (v := 1) X dX8_isLetter_12 (by decide) ?_
      refine a_goto (tgt := 17) X dX8_isLetter_13 (by decide) ?_
      exact Zw.to2 (J_17 _ _ (by first | exact Or.inl rfl | exact Or.inr rfl | assumption) h) rfl rfl rfl
