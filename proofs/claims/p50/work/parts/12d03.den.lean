noncomputable def D_X8_isDigit_17  (y0_17 : Int32) : Option (Int32) :=
  some (y0_17)
noncomputable def D_X8_isDigit_16   : Option (Int32) :=
  D_X8_isDigit_17 (0 : Int32)
noncomputable def D_X8_isDigit  (v0 : Int32) : Option (Int32) :=
  if v0 < (48 : Int32) then
    D_X8_isDigit_16
  else
    if (57 : Int32) < v0 then
      D_X8_isDigit_16
    else
      D_X8_isDigit_17 (1 : Int32)
set_option maxRecDepth 100000 in
set_option maxHeartbeats 4000000 in
theorem t_X8_isDigit {l : Launch} {G : zG} {b : Nat} {L : List zC} {M : zMt} {N : zNt}  {v0 : Int32}  {r : Int32} (h : D_X8_isDigit v0 = some r) : zM l G b yX8_isDigit cX8_isDigit 1 (some .boolean) 0 0 0 [.int v0] (L, M, N) (fun r2 z => r2 = some (.int r) ∧ z = (L, M, N) ∧ (r = 0 ∨ r = 1)) := by
  refine zM.of miX8_isDigit (Nat.le_of_ble_eq_true rfl) ?_
  intro p e s m args below meth c X hr hname
  generalize hF : ((fun r2 z => r2 = some (.int r) ∧ z = (L, M, N) ∧ (r = 0 ∨ r = 1)) : Option Value → zS → Prop) = FQ
  change Zw p l e { frames := 0, cells := 0, slots := 0, locals := 80 * (0) } s m args below meth c G b 1 (MQ below (zQ G b FQ) args s 0 0 (fun q : Nat => b ≤ q)) 0 0 0 [some (.int v0)] [] (L, M, N)
  have J_17 : ∀ (x0_17 : Int32) (y0_17 : Int32), (y0_17 = 0 ∨ y0_17 = 1) → D_X8_isDigit_17 y0_17 = some r → Zw p l e { frames := 0, cells := 0, slots := 0, locals := 80 * (0) } s m args below meth c G b 1 (MQ below (zQ G b FQ) args s 0 0 (fun q : Nat => b ≤ q)) 0 0 17 [some (.int x0_17)] [.int y0_17] (L, M, N) := by
    intro x0_17 y0_17 fb_y0_17 h
    unfold D_X8_isDigit_17 at h
    refine a_zret X (by first | exact Or.inl rfl | exact Or.inr rfl | assumption) hr dX8_isDigit_17 ⟨by decide, by decide⟩ ?_
    subst hF
    rw [← Option.some.inj h]
    exact ⟨rfl, rfl, (by first | exact Or.inl rfl | exact Or.inr rfl | assumption)⟩
  have J_16 : ∀ (x0_16 : Int32), D_X8_isDigit_16 = some r → Zw p l e { frames := 0, cells := 0, slots := 0, locals := 80 * (0) } s m args below meth c G b 1 (MQ below (zQ G b FQ) args s 0 0 (fun q : Nat => b ≤ q)) 0 0 16 [some (.int x0_16)] [] (L, M, N) := by
    intro x0_16 h
    unfold D_X8_isDigit_16 at h
    refine a_iconst (v := 0) X dX8_isDigit_16 (by decide) ?_
    exact Zw.to2 (J_17 _ _ (by first | exact Or.inl rfl | exact Or.inr rfl | assumption) h) rfl rfl rfl
  unfold D_X8_isDigit at h
  refine a_iload_n X dX8_isDigit_0 rfl ?_
  refine a_bipush (v := 48) X dX8_isDigit_1 (by decide) ?_
  refine a_icmp_lt (tgt := 16) X dX8_isDigit_3 (by decide) (fun h_3 => ?_) (fun h_3 => ?_)
  · replace h := (if_pos h_3).symm.trans h
    exact Zw.to2 (J_16 _ h) rfl rfl rfl
  · replace h := (if_neg h_3).symm.trans h
    refine a_iload_n X dX8_isDigit_6 rfl ?_
    refine a_bipush (v := 57) X dX8_isDigit_7 (by decide) ?_
    refine a_icmp_gt (tgt := 16) X dX8_isDigit_9 (by decide) (fun h_9 => ?_) (fun h_9 => ?_)
    · replace h := (if_pos h_9).symm.trans h
      exact Zw.to2 (J_16 _ h) rfl rfl rfl
    · replace h := (if_neg h_9).symm.trans h
      refine a_iconst (v := 1) X dX8_isDigit_12 (by decide) ?_
      refine a_goto (tgt := 17) X dX8_isDigit_13 (by decide) ?_
      exact Zw.to2 (J_17 _ _ (by first | exact Or.inl rfl | exact Or.inr rfl | assumption) h) rfl rfl rfl
noncomputable def D_X8_among_62 (P : Nat) (w0 : Nat) (N : zNt) (k7 : Int32 → Int64 → Int32 → Option (Int32)) (x2_62 : Int32) (x3_62 : Int64) (x5_62 : Int32) : Option (Int32) :=
  k7 x2_62 x3_62 (x5_62 + 1)
noncomputable def D_X8_among_7 (P : Nat) (w0 : Nat) (N : zNt) : Nat → Int32 → Int64 → Int32 → Option (Int32)
  | 0, _, _, _ => none
  | n + 1, x2_7, x3_7, x5_7 =>
    if (Int32.ofNat (zLen.getD w0 0)) ≤ x5_7 then
      some ((-1 : Int32))
    else
      zI x5_7 (zLen.getD w0 0) <|
      if (zCh w0 x5_7.toNatClampNeg) = (32 : Int32) then
        if (lg_cmp x3_7 (N P 24)) = 0 then
          some (x2_7)
        else
          D_X8_among_62 P w0 N (D_X8_among_7 P w0 N n) (x2_7 + 1) (0 : Int64) x5_7
      else
        D_X8_among_62 P w0 N (D_X8_among_7 P w0 N n) x2_7 ((x3_7 <<< (Int32.toInt64 (5 : Int32) &&& 63)) ||| ((Int32.toInt64 (zCh w0 x5_7.toNatClampNeg)) - (96 : Int64))) x5_7
noncomputable def D_X8_among (P : Nat) (w0 : Nat) (N : zNt)  : Option (Int32) :=
  D_X8_among_7 P w0 N zFu (0 : Int32) (0 : Int64) (0 : Int32)
set_option maxRecDepth 100000 in
set_option maxHeartbeats 4000000 in
theorem t_X8_among {l : Launch} {G : zG} {b : Nat} {L : List zC} {M : zMt} {N : zNt} {P : Nat} {w0 : Nat}  (hP : LX8 L P) (hw0 : w0 < zLit.length) {r : Int32} (h : D_X8_among P w0 N = some r) : zM l G b yX8_among cX8_among 7 (some .int) 4 0 0 [.ref P, .ref (1000000 + zKa G w0)] (L, M, N) (fun r2 z => r2 = some (.int r) ∧ z = (L, M, N)) := by
  refine zM.of miX8_among (Nat.le_of_ble_eq_true rfl) ?_
  intro p e s m args below meth c X hr hname
  generalize hF : ((fun r2 z => r2 = some (.int r) ∧ z = (L, M, N)) : Option Value → zS → Prop) = FQ
  change Zw p l e { frames := 4, cells := 0, slots := 0, locals := 80 * (4) } s m args below meth c G b 7 (MQ below (zQ G b FQ) args s 0 0 (fun q : Nat => b ≤ q)) 0 0 0 [some (.ref P), some (.ref (1000000 + zKa G w0)), none, none, none, none, none] [] (L, M, N)
  have p_lt := hP.1
  have p_o := hP.2.1
  have L_7 : ∀ u : Nat, ∀ (x2_7 : Int32) (x3_7 : Int64) (x5_7 : Int32) (x6_7 : Option Value), D_X8_among_7 P w0 N u x2_7 x3_7 x5_7 = some r → Zw p l e { frames := 4, cells := 0, slots := 0, locals := 80 * (4) } s m args below meth c G b 7 (MQ below (zQ G b FQ) args s 0 0 (fun q : Nat => b ≤ q)) 0 0 7 [some (.ref (P)), some (.ref (1000000 + zKa G w0)), some (.int x2_7), some (.long x3_7), none, some (.int x5_7), x6_7] [] (L, M, N) := by
    intro u
    induction u with
    | zero => intro x2_7 x3_7 x5_7 x6_7 h; cases (show none = some r from h)
    | succ u_7 ih_7 =>
      have J_62 : ∀ (x2_62 : Int32) (x3_62 : Int64) (x5_62 : Int32) (x6_62 : Int32), D_X8_among_62 P w0 N (D_X8_among_7 P w0 N u_7) x2_62 x3_62 x5_62 = some r → Zw p l e { frames := 4, cells := 0, slots := 0, locals := 80 * (4) } s m args below meth c G b 7 (MQ below (zQ G b FQ) args s 0 0 (fun q : Nat => b ≤ q)) 0 0 62 [some (.ref (P)), some (.ref (1000000 + zKa G w0)), some (.int x2_62), some (.long x3_62), none, some (.int x5_62), some (.int x6_62)] [] (L, M, N) := by
        intro x2_62 x3_62 x5_62 x6_62 h
        unfold D_X8_among_62 at h
        refine a_iinc (v := x5_62 + 1) X dX8_among_62 (by decide) rfl zi_1 ?_
        refine a_goto (tgt := 7) X dX8_among_65 (by decide) ?_
        exact Zw.to2 (ih_7 _ _ _ _ h) rfl rfl rfl
      intro x2_7 x3_7 x5_7 x6_7 h
      rw [D_X8_among_7] at h
      refine a_iload X dX8_among_7 rfl ?_
      refine a_aload_n X dX8_among_9 rfl ?_
      refine a_invVs X miJ0_length_8abf5 lm8_185 (by first | assumption | decide) rfl rfl rfl (Nat.le_of_ble_eq_true rfl) ⟨by decide, by decide, by decide, by decide⟩ dX8_among_10 (c_length (by first | assumption | decide)) (fun r_10 S_10 q_10 => ?_)
      obtain ⟨rfl, rfl⟩ := q_10
      refine a_icmp_ge (tgt := 68) X dX8_among_13 (by decide) (fun h_13 => ?_) (fun h_13 => ?_)
      · replace h := (if_pos h_13).symm.trans h
        refine a_iconst (v := -1) X dX8_among_68 (by decide) ?_
        refine a_iret X hr dX8_among_69 ⟨by decide, by decide⟩ ?_
        subst hF
        rw [← Option.some.inj h]
        exact ⟨rfl, rfl⟩
      · replace h := (if_neg h_13).symm.trans h
        refine a_aload_n X dX8_among_16 rfl ?_
        refine a_iload X dX8_among_17 rfl ?_
        obtain ⟨g_19, h⟩ := zIx h
        refine a_invVs X miJ0_charAt_5068e lm8_191 (by first | assumption | decide) rfl rfl rfl (Nat.le_of_ble_eq_true rfl) ⟨by decide, by decide, by decide, by decide⟩ dX8_among_19 (t_charAt (by first | assumption | decide) g_19) (fun r_19 S_19 q_19 => ?_)
        obtain ⟨rfl, rfl⟩ := q_19
        refine a_istore X dX8_among_22 (by decide) ?_
        refine a_iload X dX8_among_24 rfl ?_
        refine a_bipush (v := 32) X dX8_among_26 (by decide) ?_
        refine a_icmp_eq (tgt := 46) X dX8_among_28 (by decide) (fun h_28 => ?_) (fun h_28 => ?_)
        · replace h := (if_pos h_28).symm.trans h
          refine a_lload_n X dX8_among_46 rfl ?_
          refine a_aload_n X dX8_among_47 rfl ?_
          refine a_getl X lf8_167 (by first | exact p_o | assumption) rfl dX8_among_48 ?_
          refine a_lcmp X dX8_among_51 ?_
          refine a_if_ne (tgt := 57) X dX8_among_52 (by decide) (fun h_52 => ?_) (fun h_52 => ?_)
          · replace h := (if_neg h_52).symm.trans h
            refine a_lconst (v := 0) X dX8_among_57 (by decide) ?_
            refine a_lstore_n X dX8_among_58 (by decide) ?_
            refine a_iinc (v := x2_7 + 1) X dX8_among_59 (by decide) rfl zi_1 ?_
            exact Zw.to2 (J_62 _ _ _ _ h) rfl rfl rfl
          · replace h := (if_pos h_52).symm.trans h
            refine a_iload_n X dX8_among_55 rfl ?_
            refine a_iret X hr dX8_among_56 ⟨by decide, by decide⟩ ?_
            subst hF
            rw [← Option.some.inj h]
            exact ⟨rfl, rfl⟩
        · replace h := (if_neg h_28).symm.trans h
          refine a_lload_n X dX8_among_31 rfl ?_
          refine a_iconst (v := 5) X dX8_among_32 (by decide) ?_
          refine a_lshl X dX8_among_33 ?_
          refine a_iload X dX8_among_34 rfl ?_
          refine a_i2l X dX8_among_36 ?_
          refine a_ldc2 X dX8_among_37 lk8_171 ?_
          refine a_lsub X dX8_among_40 ?_
          refine a_lor X dX8_among_41 ?_
          refine a_lstore_n X dX8_among_42 (by decide) ?_
          refine a_goto (tgt := 62) X dX8_among_43 (by decide) ?_
          exact Zw.to2 (J_62 _ _ _ _ h) rfl rfl rfl
  have H_7 : ∀ (x2_7 : Int32) (x3_7 : Int64) (x5_7 : Int32) (x6_7 : Option Value), D_X8_among_7 P w0 N zFu x2_7 x3_7 x5_7 = some r → Zw p l e { frames := 4, cells := 0, slots := 0, locals := 80 * (4) } s m args below meth c G b 7 (MQ below (zQ G b FQ) args s 0 0 (fun q : Nat => b ≤ q)) 0 0 7 [some (.ref (P)), some (.ref (1000000 + zKa G w0)), some (.int x2_7), some (.long x3_7), none, some (.int x5_7), x6_7] [] (L, M, N) := L_7 zFu
  unfold D_X8_among at h
  refine a_iconst (v := 0) X dX8_among_0 (by decide) ?_
  refine a_istore_n X dX8_among_1 (by decide) ?_
  refine a_lconst (v := 0) X dX8_among_2 (by decide) ?_
  refine a_lstore_n X dX8_among_3 (by decide) ?_
  refine a_iconst (v := 0) X dX8_among_4 (by decide) ?_
  refine a_istore X dX8_among_5 (by decide) ?_
  exact Zw.to2 (H_7 _ _ _ _ h) rfl rfl rfl
noncomputable def D_X8_next_320 (P : Nat) (M_320 : zMt) (N_320 : zNt) : Option (Int32 × zMt × zNt) :=
  some ((1 : Int32), M_320, N_320)
noncomputable def D_X8_next_317 (P : Nat) (y1_317 : Int32) (M_317 : zMt) (N_317 : zNt) : Option (Int32 × zMt × zNt) :=
  zLt (zu M_317 P 18 y1_317) fun M_317 =>
  D_X8_next_320 P M_317 N_317
noncomputable def D_X8_next_289 (P : Nat) (y1_289 : Int32) (M_289 : zMt) (N_289 : zNt) : Option (Int32 × zMt × zNt) :=
  zLt (zu M_289 P 18 y1_289) fun M_289 =>
  D_X8_next_320 P M_289 N_289
noncomputable def D_X8_next_257 (P : Nat) (k207 : zMt → zNt → Option (Int32 × zMt × zNt)) (M_257 : zMt) (N_257 : zNt) : Option (Int32 × zMt × zNt) :=
  zLt (zu M_257 P 17 ((M_257 P 17) + (1 : Int32))) fun M_264 =>
  k207 M_264 N_257
noncomputable def D_X8_next_207 (P : Nat) : Nat → zMt → zNt → Option (Int32 × zMt × zNt)
  | 0, _, _ => none
  | n + 1, M_207, N_207 =>
    zB (D_X8_byteAt P M_207 (M_207 P 17)) fun e_212 =>
    zB (D_X8_isDigit e_212) fun e_215 =>
    if e_215 = 0 then
      if ((M_207 P 17) - (M_207 P 16)) ≤ (3 : Int32) then
        D_X8_next_289 P (3 : Int32) M_207 N_207
      else
        D_X8_next_289 P (1 : Int32) M_207 N_207
    else
      if (3 : Int32) ≤ ((M_207 P 17) - (M_207 P 16)) then
        D_X8_next_257 P (D_X8_next_207 P n) M_207 N_207
      else
        zB (D_X8_byteAt P M_207 (M_207 P 17)) fun e_247 =>
        zLt (zu M_207 P 20 ((((10 : Int32) * (M_207 P 20)) + e_247) - (48 : Int32))) fun M_254 =>
        D_X8_next_257 P (D_X8_next_207 P n) M_254 N_207
noncomputable def D_X8_next_171 (P : Nat) (y1_171 : Int32) (M_171 : zMt) (N_171 : zNt) : Option (Int32 × zMt × zNt) :=
  zLt (zu M_171 P 18 y1_171) fun M_171 =>
  if (M_171 P 18) = (2 : Int32) then
    zB (D_X8_among P 11 N_171) fun e_186 =>
    zLt (zu M_171 P 19 e_186) fun M_189 =>
    D_X8_next_320 P M_189 N_171
  else
    D_X8_next_320 P M_171 N_171
noncomputable def D_X8_next_138 (P : Nat) (k86 : zMt → zNt → Option (Int32 × zMt × zNt)) (M_138 : zMt) (N_138 : zNt) : Option (Int32 × zMt × zNt) :=
  zLt (zu M_138 P 17 ((M_138 P 17) + (1 : Int32))) fun M_145 =>
  k86 M_145 N_138
noncomputable def D_X8_next_86 (P : Nat) : Nat → zMt → zNt → Option (Int32 × zMt × zNt)
  | 0, _, _ => none
  | n + 1, M_86, N_86 =>
    zB (D_X8_byteAt P M_86 (M_86 P 17)) fun e_91 =>
    zB (D_X8_isLetter e_91) fun e_94 =>
    if e_94 = 0 then
      if ((M_86 P 17) - (M_86 P 16)) ≤ (8 : Int32) then
        D_X8_next_171 P (2 : Int32) M_86 N_86
      else
        D_X8_next_171 P (1 : Int32) M_86 N_86
    else
      if (8 : Int32) ≤ ((M_86 P 17) - (M_86 P 16)) then
        D_X8_next_138 P (D_X8_next_86 P n) M_86 N_86
      else
        zB (D_X8_byteAt P M_86 (M_86 P 17)) fun e_126 =>
        zLt (zu N_86 P 24 (((N_86 P 24) <<< (Int32.toInt64 (5 : Int32) &&& 63)) ||| ((Int32.toInt64 e_126) - (96 : Int64)))) fun N_135 =>
        D_X8_next_138 P (D_X8_next_86 P n) M_86 N_135
noncomputable def D_X8_next_26 (P : Nat) (k0 : zMt → zNt → Option (Int32 × zMt × zNt)) (M_26 : zMt) (N_26 : zNt) : Option (Int32 × zMt × zNt) :=
  zLt (zu M_26 P 17 ((M_26 P 17) + (1 : Int32))) fun M_33 =>
  k0 M_33 N_26
noncomputable def D_X8_next_0 (P : Nat) : Nat → zMt → zNt → Option (Int32 × zMt × zNt)
  | 0, _, _ => none
  | n + 1, M_0, N_0 =>
    zB (D_X8_byteAt P M_0 (M_0 P 17)) fun e_5 =>
    if e_5 = (32 : Int32) then
      D_X8_next_26 P (D_X8_next_0 P n) M_0 N_0
    else
      zB (D_X8_byteAt P M_0 (M_0 P 17)) fun e_18 =>
      if e_18 = (10 : Int32) then
        D_X8_next_26 P (D_X8_next_0 P n) M_0 N_0
      else
        zLt (zu M_0 P 16 (M_0 P 17)) fun M_44 =>
        zLt (zu M_44 P 19 (-1 : Int32)) fun M_49 =>
        zB (D_X8_byteAt P M_49 (M_49 P 17)) fun e_57 =>
        if e_57 = (-1 : Int32) then
          zLt (zu M_49 P 18 (0 : Int32)) fun M_68 =>
          D_X8_next_320 P M_68 N_0
        else
          zB (D_X8_isLetter e_57) fun e_75 =>
          if e_75 = 0 then
            zB (D_X8_isDigit e_57) fun e_196 =>
            if e_196 = 0 then
              zLt (zu M_49 P 17 ((M_49 P 17) + (1 : Int32))) fun M_302 =>
              if e_57 = (59 : Int32) then
                D_X8_next_317 P (4 : Int32) M_302 N_0
              else
                D_X8_next_317 P (1 : Int32) M_302 N_0
            else
              zLt (zu M_49 P 20 (0 : Int32)) fun M_204 =>
              D_X8_next_207 P zFu M_204 N_0
          else
            zLt (zu N_0 P 24 (0 : Int64)) fun N_83 =>
            D_X8_next_86 P zFu M_49 N_83
noncomputable def D_X8_next (P : Nat) (M : zMt) (N : zNt) : Option (Int32 × zMt × zNt) :=
  D_X8_next_0 P zFu M N
set_option maxRecDepth 100000 in
set_option maxHeartbeats 4000000 in
theorem t_X8_next {l : Launch} {G : zG} {b : Nat} {L : List zC} {M : zMt} {N : zNt} {P : Nat}  (hP : LX8 L P) {r : Int32 × zMt × zNt} (h : D_X8_next P M N = some r) : zM l G b yX8_next cX8_next 2 (some .boolean) 5 0 0 [.ref P] (L, M, N) (fun r2 z => r2 = some (.int r.1) ∧ z = (L, r.2.1, r.2.2) ∧ (r.1 = 0 ∨ r.1 = 1)) := by
  refine zM.of miX8_next (Nat.le_of_ble_eq_true rfl) ?_
  intro p e s m args below meth c X hr hname
  generalize hF : ((fun r2 z => r2 = some (.int r.1) ∧ z = (L, r.2.1, r.2.2) ∧ (r.1 = 0 ∨ r.1 = 1)) : Option Value → zS → Prop) = FQ
  change Zw p l e { frames := 5, cells := 0, slots := 0, locals := 80 * (5) } s m args below meth c G b 2 (MQ below (zQ G b FQ) args s 0 0 (fun q : Nat => b ≤ q)) 0 0 0 [some (.ref P), none] [] (L, M, N)
  have p_lt := hP.1
  have p_o := hP.2.1
  have J_320 : ∀ (x1_320 : Int32) (M_320 : zMt) (N_320 : zNt), D_X8_next_320 P M_320 N_320 = some r → Zw p l e { frames := 5, cells := 0, slots := 0, locals := 80 * (5) } s m args below meth c G b 2 (MQ below (zQ G b FQ) args s 0 0 (fun q : Nat => b ≤ q)) 0 0 320 [some (.ref (P)), some (.int x1_320)] [] (L, M_320, N_320) := by
    intro x1_320 M_320 N_320 h
    unfold D_X8_next_320 at h
    refine a_iconst (v := 1) X dX8_next_320 (by decide) ?_
    refine a_zret X (by first | exact Or.inl rfl | exact Or.inr rfl | assumption) hr dX8_next_321 ⟨by decide, by decide⟩ ?_
    subst hF
    rw [← Option.some.inj h]
    exact ⟨rfl, rfl, (by first | exact Or.inl rfl | exact Or.inr rfl | assumption)⟩
  have J_317 : ∀ (x1_317 : Int32) (y1_317 : Int32) (M_317 : zMt) (N_317 : zNt), D_X8_next_317 P y1_317 M_317 N_317 = some r → Zw p l e { frames := 5, cells := 0, slots := 0, locals := 80 * (5) } s m args below meth c G b 2 (MQ below (zQ G b FQ) args s 0 0 (fun q : Nat => b ≤ q)) 0 0 317 [some (.ref (P)), some (.int x1_317)] [.int y1_317, .ref (P)] (L, M_317, N_317) := by
    intro x1_317 y1_317 M_317 N_317 h
    unfold D_X8_next_317 at h
    obtain ⟨M_317, f_317, h⟩ := zLtx h
    refine d_puti X lf8_160 (by first | exact p_o | assumption) rfl dX8_next_317 f_317 ?_
    exact Zw.to2 (J_320 _ _ _ h) rfl rfl rfl
  have J_289 : ∀ (x1_289 : Int32) (y1_289 : Int32) (M_289 : zMt) (N_289 : zNt), D_X8_next_289 P y1_289 M_289 N_289 = some r → Zw p l e { frames := 5, cells := 0, slots := 0, locals := 80 * (5) } s m args below meth c G b 2 (MQ below (zQ G b FQ) args s 0 0 (fun q : Nat => b ≤ q)) 0 0 289 [some (.ref (P)), some (.int x1_289)] [.int y1_289, .ref (P)] (L, M_289, N_289) := by
    intro x1_289 y1_289 M_289 N_289 h
    unfold D_X8_next_289 at h
    obtain ⟨M_289, f_289, h⟩ := zLtx h
    refine d_puti X lf8_160 (by first | exact p_o | assumption) rfl dX8_next_289 f_289 ?_
    refine a_goto (tgt := 320) X dX8_next_292 (by decide) ?_
    exact Zw.to2 (J_320 _ _ _ h) rfl rfl rfl
  have L_207 : ∀ u : Nat, ∀ (x1_207 : Int32) (M_207 : zMt) (N_207 : zNt), D_X8_next_207 P u M_207 N_207 = some r → Zw p l e { frames := 5, cells := 0, slots := 0, locals := 80 * (5) } s m args below meth c G b 2 (MQ below (zQ G b FQ) args s 0 0 (fun q : Nat => b ≤ q)) 0 0 207 [some (.ref (P)), some (.int x1_207)] [] (L, M_207, N_207) := by
    intro u
    induction u with
    | zero => intro x1_207 M_207 N_207 h; cases (show none = some r from h)
    | succ u_207 ih_207 =>
      have J_257 : ∀ (x1_257 : Int32) (M_257 : zMt) (N_257 : zNt), D_X8_next_257 P (D_X8_next_207 P u_207) M_257 N_257 = some r → Zw p l e { frames := 5, cells := 0, slots := 0, locals := 80 * (5) } s m args below meth c G b 2 (MQ below (zQ G b FQ) args s 0 0 (fun q : Nat => b ≤ q)) 0 0 257 [some (.ref (P)), some (.int x1_257)] [] (L, M_257, N_257) := by
        intro x1_257 M_257 N_257 h
        unfold D_X8_next_257 at h
        refine a_aload_n X dX8_next_257 rfl ?_
        refine a_dup X dX8_next_258 rfl ?_
        refine a_geti X lf8_147 (by first | exact p_o | assumption) rfl dX8_next_259 ?_
        refine a_iconst (v := 1) X dX8_next_262 (by decide) ?_
        refine a_iadd X dX8_next_263 ?_
        obtain ⟨M_264, f_264, h⟩ := zLtx h
        refine d_puti X lf8_147 (by first | exact p_o | assumption) rfl dX8_next_264 f_264 ?_
        refine a_goto (tgt := 207) X dX8_next_267 (by decide) ?_
        exact Zw.to2 (ih_207 _ _ _ h) rfl rfl rfl
      intro x1_207 M_207 N_207 h
      rw [D_X8_next_207] at h
      refine a_aload_n X dX8_next_207 rfl ?_
      refine a_aload_n X dX8_next_208 rfl ?_
      refine a_geti X lf8_147 (by first | exact p_o | assumption) rfl dX8_next_209 ?_
      obtain ⟨e_212, f_212, h⟩ := zBx h
      refine a_callVv X dX8_next_212 miX8_byteAt lm8_150 (t_X8_byteAt (by first | exact hP | assumption) f_212) (by first | exact p_o | assumption) rfl rfl rfl (Nat.le_of_ble_eq_true rfl) ⟨by decide, by decide, by decide, by decide⟩ ?_
      obtain ⟨e_215, f_215, h⟩ := zBx h
      refine a_callSx X dX8_next_215 miX8_isDigit lm8_179 (t_X8_isDigit f_215) rfl rfl (Nat.le_of_ble_eq_true rfl) ⟨by decide, by decide, by decide, by decide⟩ (fun r_215 S_215 q_215 => ?_)
      obtain ⟨rfl, rfl, b_215⟩ := q_215
      refine a_if_eq (tgt := 270) X dX8_next_218 (by decide) (fun h_218 => ?_) (fun h_218 => ?_)
      · replace h := (if_pos h_218).symm.trans h
        refine a_aload_n X dX8_next_270 rfl ?_
        refine a_aload_n X dX8_next_271 rfl ?_
        refine a_geti X lf8_147 (by first | exact p_o | assumption) rfl dX8_next_272 ?_
        refine a_aload_n X dX8_next_275 rfl ?_
        refine a_geti X lf8_154 (by first | exact p_o | assumption) rfl dX8_next_276 ?_
        refine a_isub X dX8_next_279 ?_
        refine a_iconst (v := 3) X dX8_next_280 (by decide) ?_
        refine a_icmp_le (tgt := 288) X dX8_next_281 (by decide) (fun h_281 => ?_) (fun h_281 => ?_)
        · replace h := (if_pos h_281).symm.trans h
          refine a_iconst (v := 3) X dX8_next_288 (by decide) ?_
          exact Zw.to2 (J_289 _ _ _ _ h) rfl rfl rfl
        · replace h := (if_neg h_281).symm.trans h
          refine a_iconst (v := 1) X dX8_next_284 (by decide) ?_
          refine a_goto (tgt := 289) X dX8_next_285 (by decide) ?_
          exact Zw.to2 (J_289 _ _ _ _ h) rfl rfl rfl
      · replace h := (if_neg h_218).symm.trans h
        refine a_aload_n X dX8_next_221 rfl ?_
        refine a_geti X lf8_147 (by first | exact p_o | assumption) rfl dX8_next_222 ?_
        refine a_aload_n X dX8_next_225 rfl ?_
        refine a_geti X lf8_154 (by first | exact p_o | assumption) rfl dX8_next_226 ?_
        refine a_isub X dX8_next_229 ?_
        refine a_iconst (v := 3) X dX8_next_230 (by decide) ?_
        refine a_icmp_ge (tgt := 257) X dX8_next_231 (by decide) (fun h_231 => ?_) (fun h_231 => ?_)
        · replace h := (if_pos h_231).symm.trans h
          exact Zw.to2 (J_257 _ _ _ h) rfl rfl rfl
        · replace h := (if_neg h_231).symm.trans h
          refine a_aload_n X dX8_next_234 rfl ?_
          refine a_bipush (v := 10) X dX8_next_235 (by decide) ?_
          refine a_aload_n X dX8_next_237 rfl ?_
          refine a_geti X lf8_182 (by first | exact p_o | assumption) rfl dX8_next_238 ?_
          refine a_imul X dX8_next_241 ?_
          refine a_aload_n X dX8_next_242 rfl ?_
          refine a_aload_n X dX8_next_243 rfl ?_
          refine a_geti X lf8_147 (by first | exact p_o | assumption) rfl dX8_next_244 ?_
          obtain ⟨e_247, f_247, h⟩ := zBx h
          refine a_callVv X dX8_next_247 miX8_byteAt lm8_150 (t_X8_byteAt (by first | exact hP | assumption) f_247) (by first | exact p_o | assumption) rfl rfl rfl (Nat.le_of_ble_eq_true rfl) ⟨by decide, by decide, by decide, by decide⟩ ?_
          refine a_iadd X dX8_next_250 ?_
          refine a_bipush (v := 48) X dX8_next_251 (by decide) ?_
          refine a_isub X dX8_next_253 ?_
          obtain ⟨M_254, f_254, h⟩ := zLtx h
          refine d_puti X lf8_182 (by first | exact p_o | assumption) rfl dX8_next_254 f_254 ?_
          exact Zw.to2 (J_257 _ _ _ h) rfl rfl rfl
  have H_207 : ∀ (x1_207 : Int32) (M_207 : zMt) (N_207 : zNt), D_X8_next_207 P zFu M_207 N_207 = some r → Zw p l e { frames := 5, cells := 0, slots := 0, locals := 80 * (5) } s m args below meth c G b 2 (MQ below (zQ G b FQ) args s 0 0 (fun q : Nat => b ≤ q)) 0 0 207 [some (.ref (P)), some (.int x1_207)] [] (L, M_207, N_207) := L_207 zFu
  have J_171 : ∀ (x1_171 : Int32) (y1_171 : Int32) (M_171 : zMt) (N_171 : zNt), D_X8_next_171 P y1_171 M_171 N_171 = some r → Zw p l e { frames := 5, cells := 0, slots := 0, locals := 80 * (5) } s m args below meth c G b 2 (MQ below (zQ G b FQ) args s 0 0 (fun q : Nat => b ≤ q)) 0 0 171 [some (.ref (P)), some (.int x1_171)] [.int y1_171, .ref (P)] (L, M_171, N_171) := by
    intro x1_171 y1_171 M_171 N_171 h
    unfold D_X8_next_171 at h
    obtain ⟨M_171, f_171, h⟩ := zLtx h
    refine d_puti X lf8_160 (by first | exact p_o | assumption) rfl dX8_next_171 f_171 ?_
    refine a_aload_n X dX8_next_174 rfl ?_
    refine a_geti X lf8_160 (by first | exact p_o | assumption) rfl dX8_next_175 ?_
    refine a_iconst (v := 2) X dX8_next_178 (by decide) ?_
    refine a_icmp_ne (tgt := 320) X dX8_next_179 (by decide) (fun h_179 => ?_) (fun h_179 => ?_)
    · replace h := (if_neg h_179).symm.trans h
      exact Zw.to2 (J_320 _ _ _ h) rfl rfl rfl
    · replace h := (if_pos h_179).symm.trans h
      refine a_aload_n X dX8_next_182 rfl ?_
      refine a_aload_n X dX8_next_183 rfl ?_
      refine a_ldcS (i := 11) (q := ("TagDrawModel", 173, "unit hunter guest party asks law prefer guests ")) X rfl rfl rfl dX8_next_184 ?_
      obtain ⟨e_186, f_186, h⟩ := zBx h
      refine a_callVv X dX8_next_186 miX8_among lm8_175 (t_X8_among (by first | exact hP | assumption) (by first | assumption | decide) f_186) (by first | exact p_o | assumption) rfl rfl rfl (Nat.le_of_ble_eq_true rfl) ⟨by decide, by decide, by decide, by decide⟩ ?_
      obtain ⟨M_189, f_189, h⟩ := zLtx h
      refine d_puti X lf8_157 (by first | exact p_o | assumption) rfl dX8_next_189 f_189 ?_
      refine a_goto (tgt := 320) X dX8_next_192 (by decide) ?_
      exact Zw.to2 (J_320 _ _ _ h) rfl rfl rfl
  have L_86 : ∀ u : Nat, ∀ (x1_86 : Int32) (M_86 : zMt) (N_86 : zNt), D_X8_next_86 P u M_86 N_86 = some r → Zw p l e { frames := 5, cells := 0, slots := 0, locals := 80 * (5) } s m args below meth c G b 2 (MQ below (zQ G b FQ) args s 0 0 (fun q : Nat => b ≤ q)) 0 0 86 [some (.ref (P)), some (.int x1_86)] [] (L, M_86, N_86) := by
    intro u
    induction u with
    | zero => intro x1_86 M_86 N_86 h; cases (show none = some r from h)
    | succ u_86 ih_86 =>
      have J_138 : ∀ (x1_138 : Int32) (M_138 : zMt) (N_138 : zNt), D_X8_next_138 P (D_X8_next_86 P u_86) M_138 N_138 = some r → Zw p l e { frames := 5, cells := 0, slots := 0, locals := 80 * (5) } s m args below meth c G b 2 (MQ below (zQ G b FQ) args s 0 0 (fun q : Nat => b ≤ q)) 0 0 138 [some (.ref (P)), some (.int x1_138)] [] (L, M_138, N_138) := by
        intro x1_138 M_138 N_138 h
        unfold D_X8_next_138 at h
        refine a_aload_n X dX8_next_138 rfl ?_
        refine a_dup X dX8_next_139 rfl ?_
        refine a_geti X lf8_147 (by first | exact p_o | assumption) rfl dX8_next_140 ?_
        refine a_iconst (v := 1) X dX8_next_143 (by decide) ?_
        refine a_iadd X dX8_next_144 ?_
        obtain ⟨M_145, f_145, h⟩ := zLtx h
        refine d_puti X lf8_147 (by first | exact p_o | assumption) rfl dX8_next_145 f_145 ?_
        refine a_goto (tgt := 86) X dX8_next_148 (by decide) ?_
        exact Zw.to2 (ih_86 _ _ _ h) rfl rfl rfl
      intro x1_86 M_86 N_86 h
      rw [D_X8_next_86] at h
      refine a_aload_n X dX8_next_86 rfl ?_
      refine a_aload_n X dX8_next_87 rfl ?_
      refine a_geti X lf8_147 (by first | exact p_o | assumption) rfl dX8_next_88 ?_
      obtain ⟨e_91, f_91, h⟩ := zBx h
      refine a_callVv X dX8_next_91 miX8_byteAt lm8_150 (t_X8_byteAt (by first | exact hP | assumption) f_91) (by first | exact p_o | assumption) rfl rfl rfl (Nat.le_of_ble_eq_true rfl) ⟨by decide, by decide, by decide, by decide⟩ ?_
      obtain ⟨e_94, f_94, h⟩ := zBx h
      refine a_callSx X dX8_next_94 miX8_isLetter lm8_163 (t_X8_isLetter f_94) rfl rfl (Nat.le_of_ble_eq_true rfl) ⟨by decide, by decide, by decide, by decide⟩ (fun r_94 S_94 q_94 => ?_)
      obtain ⟨rfl, rfl, b_94⟩ := q_94
      refine a_if_eq (tgt := 151) X dX8_next_97 (by decide) (fun h_97 => ?_) (fun h_97 => ?_)
      · replace h := (if_pos h_97).symm.trans h
        refine a_aload_n X dX8_next_151 rfl ?_
        refine a_aload_n X dX8_next_152 rfl ?_
        refine a_geti X lf8_147 (by first | exact p_o | assumption) rfl dX8_next_153 ?_
        refine a_aload_n X dX8_next_156 rfl ?_
        refine a_geti X lf8_154 (by first | exact p_o | assumption) rfl dX8_next_157 ?_
        refine a_isub X dX8_next_160 ?_
        refine a_bipush (v := 8) X dX8_next_161 (by decide) ?_
        refine a_icmp_le (tgt := 170) X dX8_next_163 (by decide) (fun h_163 => ?_) (fun h_163 => ?_)
        · replace h := (if_pos h_163).symm.trans h
          refine a_iconst (v := 2) X dX8_next_170 (by decide) ?_
          exact Zw.to2 (J_171 _ _ _ _ h) rfl rfl rfl
        · replace h := (if_neg h_163).symm.trans h
          refine a_iconst (v := 1) X dX8_next_166 (by decide) ?_
          refine a_goto (tgt := 171) X dX8_next_167 (by decide) ?_
          exact Zw.to2 (J_171 _ _ _ _ h) rfl rfl rfl
      · replace h := (if_neg h_97).symm.trans h
        refine a_aload_n X dX8_next_100 rfl ?_
        refine a_geti X lf8_147 (by first | exact p_o | assumption) rfl dX8_next_101 ?_
        refine a_aload_n X dX8_next_104 rfl ?_
        refine a_geti X lf8_154 (by first | exact p_o | assumption) rfl dX8_next_105 ?_
        refine a_isub X dX8_next_108 ?_
        refine a_bipush (v := 8) X dX8_next_109 (by decide) ?_
        refine a_icmp_ge (tgt := 138) X dX8_next_111 (by decide) (fun h_111 => ?_) (fun h_111 => ?_)
        · replace h := (if_pos h_111).symm.trans h
          exact Zw.to2 (J_138 _ _ _ h) rfl rfl rfl
        · replace h := (if_neg h_111).symm.trans h
          refine a_aload_n X dX8_next_114 rfl ?_
          refine a_aload_n X dX8_next_115 rfl ?_
          refine a_getl X lf8_167 (by first | exact p_o | assumption) rfl dX8_next_116 ?_
          refine a_iconst (v := 5) X dX8_next_119 (by decide) ?_
          refine a_lshl X dX8_next_120 ?_
          refine a_aload_n X dX8_next_121 rfl ?_
          refine a_aload_n X dX8_next_122 rfl ?_
          refine a_geti X lf8_147 (by first | exact p_o | assumption) rfl dX8_next_123 ?_
          obtain ⟨e_126, f_126, h⟩ := zBx h
          refine a_callVv X dX8_next_126 miX8_byteAt lm8_150 (t_X8_byteAt (by first | exact hP | assumption) f_126) (by first | exact p_o | assumption) rfl rfl rfl (Nat.le_of_ble_eq_true rfl) ⟨by decide, by decide, by decide, by decide⟩ ?_
          refine a_i2l X dX8_next_129 ?_
          refine a_ldc2 X dX8_next_130 lk8_171 ?_
          refine a_lsub X dX8_next_133 ?_
          refine a_lor X dX8_next_134 ?_
          obtain ⟨N_135, f_135, h⟩ := zLtx h
          refine d_putl X lf8_167 (by first | exact p_o | assumption) rfl dX8_next_135 f_135 ?_
          exact Zw.to2 (J_138 _ _ _ h) rfl rfl rfl
  have H_86 : ∀ (x1_86 : Int32) (M_86 : zMt) (N_86 : zNt), D_X8_next_86 P zFu M_86 N_86 = some r → Zw p l e { frames := 5, cells := 0, slots := 0, locals := 80 * (5) } s m args below meth c G b 2 (MQ below (zQ G b FQ) args s 0 0 (fun q : Nat => b ≤ q)) 0 0 86 [some (.ref (P)), some (.int x1_86)] [] (L, M_86, N_86) := L_86 zFu
  have L_0 : ∀ u : Nat, ∀ (x1_0 : Option Value) (M_0 : zMt) (N_0 : zNt), D_X8_next_0 P u M_0 N_0 = some r → Zw p l e { frames := 5, cells := 0, slots := 0, locals := 80 * (5) } s m args below meth c G b 2 (MQ below (zQ G b FQ) args s 0 0 (fun q : Nat => b ≤ q)) 0 0 0 [some (.ref (P)), x1_0] [] (L, M_0, N_0) := by
    intro u
    induction u with
    | zero => intro x1_0 M_0 N_0 h; cases (show none = some r from h)
    | succ u_0 ih_0 =>
      have J_26 : ∀ (x1_26 : Option Value) (M_26 : zMt) (N_26 : zNt), D_X8_next_26 P (D_X8_next_0 P u_0) M_26 N_26 = some r → Zw p l e { frames := 5, cells := 0, slots := 0, locals := 80 * (5) } s m args below meth c G b 2 (MQ below (zQ G b FQ) args s 0 0 (fun q : Nat => b ≤ q)) 0 0 26 [some (.ref (P)), x1_26] [] (L, M_26, N_26) := by
        intro x1_26 M_26 N_26 h
        unfold D_X8_next_26 at h
        refine a_aload_n X dX8_next_26 rfl ?_
        refine a_dup X dX8_next_27 rfl ?_
        refine a_geti X lf8_147 (by first | exact p_o | assumption) rfl dX8_next_28 ?_
        refine a_iconst (v := 1) X dX8_next_31 (by decide) ?_
        refine a_iadd X dX8_next_32 ?_
        obtain ⟨M_33, f_33, h⟩ := zLtx h
        refine d_puti X lf8_147 (by first | exact p_o | assumption) rfl dX8_next_33 f_33 ?_
        refine a_goto (tgt := 0) X dX8_next_36 (by decide) ?_
        exact Zw.to2 (ih_0 _ _ _ h) rfl rfl rfl
      intro x1_0 M_0 N_0 h
      rw [D_X8_next_0] at h
      refine a_aload_n X dX8_next_0 rfl ?_
      refine a_aload_n X dX8_next_1 rfl ?_
      refine a_geti X lf8_147 (by first | exact p_o | assumption) rfl dX8_next_2 ?_
      obtain ⟨e_5, f_5, h⟩ := zBx h
      refine a_callVv X dX8_next_5 miX8_byteAt lm8_150 (t_X8_byteAt (by first | exact hP | assumption) f_5) (by first | exact p_o | assumption) rfl rfl rfl (Nat.le_of_ble_eq_true rfl) ⟨by decide, by decide, by decide, by decide⟩ ?_
      refine a_bipush (v := 32) X dX8_next_8 (by decide) ?_
      refine a_icmp_eq (tgt := 26) X dX8_next_10 (by decide) (fun h_10 => ?_) (fun h_10 => ?_)
      · replace h := (if_pos h_10).symm.trans h
        exact Zw.to2 (J_26 _ _ _ h) rfl rfl rfl
      · replace h := (if_neg h_10).symm.trans h
        refine a_aload_n X dX8_next_13 rfl ?_
        refine a_aload_n X dX8_next_14 rfl ?_
        refine a_geti X lf8_147 (by first | exact p_o | assumption) rfl dX8_next_15 ?_
        obtain ⟨e_18, f_18, h⟩ := zBx h
        refine a_callVv X dX8_next_18 miX8_byteAt lm8_150 (t_X8_byteAt (by first | exact hP | assumption) f_18) (by first | exact p_o | assumption) rfl rfl rfl (Nat.le_of_ble_eq_true rfl) ⟨by decide, by decide, by decide, by decide⟩ ?_
        refine a_bipush (v := 10) X dX8_next_21 (by decide) ?_
        refine a_icmp_ne (tgt := 39) X dX8_next_23 (by decide) (fun h_23 => ?_) (fun h_23 => ?_)
        · replace h := (if_neg h_23).symm.trans h
          refine a_aload_n X dX8_next_39 rfl ?_
          refine a_aload_n X dX8_next_40 rfl ?_
          refine a_geti X lf8_147 (by first | exact p_o | assumption) rfl dX8_next_41 ?_
          obtain ⟨M_44, f_44, h⟩ := zLtx h
          refine d_puti X lf8_154 (by first | exact p_o | assumption) rfl dX8_next_44 f_44 ?_
          refine a_aload_n X dX8_next_47 rfl ?_
          refine a_iconst (v := -1) X dX8_next_48 (by decide) ?_
          obtain ⟨M_49, f_49, h⟩ := zLtx h
          refine d_puti X lf8_157 (by first | exact p_o | assumption) rfl dX8_next_49 f_49 ?_
          refine a_aload_n X dX8_next_52 rfl ?_
          refine a_aload_n X dX8_next_53 rfl ?_
          refine a_geti X lf8_147 (by first | exact p_o | assumption) rfl dX8_next_54 ?_
          obtain ⟨e_57, f_57, h⟩ := zBx h
          refine a_callVv X dX8_next_57 miX8_byteAt lm8_150 (t_X8_byteAt (by first | exact hP | assumption) f_57) (by first | exact p_o | assumption) rfl rfl rfl (Nat.le_of_ble_eq_true rfl) ⟨by decide, by decide, by decide, by decide⟩ ?_
          refine a_istore_n X dX8_next_60 (by decide) ?_
          refine a_iload_n X dX8_next_61 rfl ?_
          refine a_iconst (v := -1) X dX8_next_62 (by decide) ?_
          refine a_icmp_ne (tgt := 74) X dX8_next_63 (by decide) (fun h_63 => ?_) (fun h_63 => ?_)
          · replace h := (if_neg h_63).symm.trans h
            refine a_iload_n X dX8_next_74 rfl ?_
            obtain ⟨e_75, f_75, h⟩ := zBx h
            refine a_callSx X dX8_next_75 miX8_isLetter lm8_163 (t_X8_isLetter f_75) rfl rfl (Nat.le_of_ble_eq_true rfl) ⟨by decide, by decide, by decide, by decide⟩ (fun r_75 S_75 q_75 => ?_)
            obtain ⟨rfl, rfl, b_75⟩ := q_75
            refine a_if_eq (tgt := 195) X dX8_next_78 (by decide) (fun h_78 => ?_) (fun h_78 => ?_)
            · replace h := (if_pos h_78).symm.trans h
              refine a_iload_n X dX8_next_195 rfl ?_
              obtain ⟨e_196, f_196, h⟩ := zBx h
              refine a_callSx X dX8_next_196 miX8_isDigit lm8_179 (t_X8_isDigit f_196) rfl rfl (Nat.le_of_ble_eq_true rfl) ⟨by decide, by decide, by decide, by decide⟩ (fun r_196 S_196 q_196 => ?_)
              obtain ⟨rfl, rfl, b_196⟩ := q_196
              refine a_if_eq (tgt := 295) X dX8_next_199 (by decide) (fun h_199 => ?_) (fun h_199 => ?_)
              · replace h := (if_pos h_199).symm.trans h
                refine a_aload_n X dX8_next_295 rfl ?_
                refine a_dup X dX8_next_296 rfl ?_
                refine a_geti X lf8_147 (by first | exact p_o | assumption) rfl dX8_next_297 ?_
                refine a_iconst (v := 1) X dX8_next_300 (by decide) ?_
                refine a_iadd X dX8_next_301 ?_
                obtain ⟨M_302, f_302, h⟩ := zLtx h
                refine d_puti X lf8_147 (by first | exact p_o | assumption) rfl dX8_next_302 f_302 ?_
                refine a_aload_n X dX8_next_305 rfl ?_
                refine a_iload_n X dX8_next_306 rfl ?_
                refine a_bipush (v := 59) X dX8_next_307 (by decide) ?_
                refine a_icmp_ne (tgt := 316) X dX8_next_309 (by decide) (fun h_309 => ?_) (fun h_309 => ?_)
                · replace h := (if_neg h_309).symm.trans h
                  refine a_iconst (v := 1) X dX8_next_316 (by decide) ?_
                  exact Zw.to2 (J_317 _ _ _ _ h) rfl rfl rfl
                · replace h := (if_pos h_309).symm.trans h
                  refine a_iconst (v := 4) X dX8_next_312 (by decide) ?_
                  refine a_goto (tgt := 317) X dX8_next_313 (by decide) ?_
                  exact Zw.to2 (J_317 _ _ _ _ h) rfl rfl rfl
              · replace h := (if_neg h_199).symm.trans h
                refine a_aload_n X dX8_next_202 rfl ?_
                refine a_iconst (v := 0) X dX8_next_203 (by decide) ?_
                obtain ⟨M_204, f_204, h⟩ := zLtx h
                refine d_puti X lf8_182 (by first | exact p_o | assumption) rfl dX8_next_204 f_204 ?_
                exact Zw.to2 (H_207 _ _ _ h) rfl rfl rfl
            · replace h := (if_neg h_78).symm.trans h
              refine a_aload_n X dX8_next_81 rfl ?_
              refine a_lconst (v := 0) X dX8_next_82 (by decide) ?_
              obtain ⟨N_83, f_83, h⟩ := zLtx h
              refine d_putl X lf8_167 (by first | exact p_o | assumption) rfl dX8_next_83 f_83 ?_
              exact Zw.to2 (H_86 _ _ _ h) rfl rfl rfl
          · replace h := (if_pos h_63).symm.trans h
            refine a_aload_n X dX8_next_66 rfl ?_
            refine a_iconst (v := 0) X dX8_next_67 (by decide) ?_
            obtain ⟨M_68, f_68, h⟩ := zLtx h
            refine d_puti X lf8_160 (by first | exact p_o | assumption) rfl dX8_next_68 f_68 ?_
            refine a_goto (tgt := 320) X dX8_next_71 (by decide) ?_
            exact Zw.to2 (J_320 _ _ _ h) rfl rfl rfl
        · replace h := (if_pos h_23).symm.trans h
          exact Zw.to2 (J_26 _ _ _ h) rfl rfl rfl
  have H_0 : ∀ (x1_0 : Option Value) (M_0 : zMt) (N_0 : zNt), D_X8_next_0 P zFu M_0 N_0 = some r → Zw p l e { frames := 5, cells := 0, slots := 0, locals := 80 * (5) } s m args below meth c G b 2 (MQ below (zQ G b FQ) args s 0 0 (fun q : Nat => b ≤ q)) 0 0 0 [some (.ref (P)), x1_0] [] (L, M_0, N_0) := L_0 zFu
  unfold D_X8_next at h
  exact Zw.to2 (H_0 _ _ _ h) rfl rfl rfl
noncomputable def D_X8_bad_14 (P : Nat) (y1_14 : Int32) (M_14 : zMt) : Option (Int32 × zMt) :=
  zLt (zu M_14 P 21 y1_14) fun M_14 =>
  zLt (zu M_14 P 22 (M_14 P 16)) fun M_22 =>
  some ((0 : Int32), M_22)
noncomputable def D_X8_bad (P : Nat) (v0 : Int32) (M : zMt) : Option (Int32 × zMt) :=
  if (M P 18) = (1 : Int32) then
    D_X8_bad_14 P (1 : Int32) M
  else
    D_X8_bad_14 P v0 M
set_option maxRecDepth 100000 in
set_option maxHeartbeats 4000000 in
theorem t_X8_bad {l : Launch} {G : zG} {b : Nat} {L : List zC} {M : zMt} {N : zNt} {P : Nat} {v0 : Int32} (hP : LX8 L P) {r : Int32 × zMt} (h : D_X8_bad P v0 M = some r) : zM l G b yX8_bad cX8_bad 2 (some .boolean) 0 0 0 [.ref P, .int v0] (L, M, N) (fun r2 z => r2 = some (.int r.1) ∧ z = (L, r.2, N) ∧ (r.1 = 0 ∨ r.1 = 1)) := by
  refine zM.of miX8_bad (Nat.le_of_ble_eq_true rfl) ?_
  intro p e s m args below meth c X hr hname
  generalize hF : ((fun r2 z => r2 = some (.int r.1) ∧ z = (L, r.2, N) ∧ (r.1 = 0 ∨ r.1 = 1)) : Option Value → zS → Prop) = FQ
  change Zw p l e { frames := 0, cells := 0, slots := 0, locals := 80 * (0) } s m args below meth c G b 2 (MQ below (zQ G b FQ) args s 0 0 (fun q : Nat => b ≤ q)) 0 0 0 [some (.ref P), some (.int v0)] [] (L, M, N)
  have p_lt := hP.1
  have p_o := hP.2.1
  have J_14 : ∀ (x1_14 : Int32) (y1_14 : Int32) (M_14 : zMt), D_X8_bad_14 P y1_14 M_14 = some r → Zw p l e { frames := 0, cells := 0, slots := 0, locals := 80 * (0) } s m args below meth c G b 2 (MQ below (zQ G b FQ) args s 0 0 (fun q : Nat => b ≤ q)) 0 0 14 [some (.ref (P)), some (.int x1_14)] [.int y1_14, .ref (P)] (L, M_14, N) := by
    intro x1_14 y1_14 M_14 h
    unfold D_X8_bad_14 at h
    obtain ⟨M_14, f_14, h⟩ := zLtx h
    refine d_puti X lf8_195 (by first | exact p_o | assumption) rfl dX8_bad_14 f_14 ?_
    refine a_aload_n X dX8_bad_17 rfl ?_
    refine a_aload_n X dX8_bad_18 rfl ?_
    refine a_geti X lf8_154 (by first | exact p_o | assumption) rfl dX8_bad_19 ?_
    obtain ⟨M_22, f_22, h⟩ := zLtx h
    refine d_puti X lf8_198 (by first | exact p_o | assumption) rfl dX8_bad_22 f_22 ?_
    refine a_iconst (v := 0) X dX8_bad_25 (by decide) ?_
    refine a_zret X (by first | exact Or.inl rfl | exact Or.inr rfl | assumption) hr dX8_bad_26 ⟨by decide, by decide⟩ ?_
    subst hF
    rw [← Option.some.inj h]
    exact ⟨rfl, rfl, (by first | exact Or.inl rfl | exact Or.inr rfl | assumption)⟩
  unfold D_X8_bad at h
  refine a_aload_n X dX8_bad_0 rfl ?_
  refine a_aload_n X dX8_bad_1 rfl ?_
  refine a_geti X lf8_160 (by first | exact p_o | assumption) rfl dX8_bad_2 ?_
  refine a_iconst (v := 1) X dX8_bad_5 (by decide) ?_
  refine a_icmp_ne (tgt := 13) X dX8_bad_6 (by decide) (fun h_6 => ?_) (fun h_6 => ?_)
  · replace h := (if_neg h_6).symm.trans h
    refine a_iload_n X dX8_bad_13 rfl ?_
    exact Zw.to2 (J_14 _ _ _ h) rfl rfl rfl
  · replace h := (if_pos h_6).symm.trans h
    refine a_iconst (v := 1) X dX8_bad_9 (by decide) ?_
    refine a_goto (tgt := 14) X dX8_bad_10 (by decide) ?_
    exact Zw.to2 (J_14 _ _ _ h) rfl rfl rfl
noncomputable def D_X8_isName_21 (P : Nat) (M : zMt) (y0_21 : Int32) : Option (Int32) :=
  some (y0_21)
noncomputable def D_X8_isName_20 (P : Nat) (M : zMt)  : Option (Int32) :=
  D_X8_isName_21 P M (0 : Int32)
noncomputable def D_X8_isName (P : Nat) (M : zMt)  : Option (Int32) :=
  if (M P 18) = (2 : Int32) then
    if (M P 19) = (-1 : Int32) then
      D_X8_isName_21 P M (1 : Int32)
    else
      D_X8_isName_20 P M
  else
    D_X8_isName_20 P M
set_option maxRecDepth 100000 in
set_option maxHeartbeats 4000000 in
theorem t_X8_isName {l : Launch} {G : zG} {b : Nat} {L : List zC} {M : zMt} {N : zNt} {P : Nat}  (hP : LX8 L P) {r : Int32} (h : D_X8_isName P M = some r) : zM l G b yX8_isName cX8_isName 1 (some .boolean) 0 0 0 [.ref P] (L, M, N) (fun r2 z => r2 = some (.int r) ∧ z = (L, M, N) ∧ (r = 0 ∨ r = 1)) := by
  refine zM.of miX8_isName (Nat.le_of_ble_eq_true rfl) ?_
  intro p e s m args below meth c X hr hname
  generalize hF : ((fun r2 z => r2 = some (.int r) ∧ z = (L, M, N) ∧ (r = 0 ∨ r = 1)) : Option Value → zS → Prop) = FQ
  change Zw p l e { frames := 0, cells := 0, slots := 0, locals := 80 * (0) } s m args below meth c G b 1 (MQ below (zQ G b FQ) args s 0 0 (fun q : Nat => b ≤ q)) 0 0 0 [some (.ref P)] [] (L, M, N)
  have p_lt := hP.1
  have p_o := hP.2.1
  have J_21 : ∀ (y0_21 : Int32), (y0_21 = 0 ∨ y0_21 = 1) → D_X8_isName_21 P M y0_21 = some r → Zw p l e { frames := 0, cells := 0, slots := 0, locals := 80 * (0) } s m args below meth c G b 1 (MQ below (zQ G b FQ) args s 0 0 (fun q : Nat => b ≤ q)) 0 0 21 [some (.ref (P))] [.int y0_21] (L, M, N) := by
    intro y0_21 fb_y0_21 h
    unfold D_X8_isName_21 at h
    refine a_zret X (by first | exact Or.inl rfl | exact Or.inr rfl | assumption) hr dX8_isName_21 ⟨by decide, by decide⟩ ?_
    subst hF
    rw [← Option.some.inj h]
    exact ⟨rfl, rfl, (by first | exact Or.inl rfl | exact Or.inr rfl | assumption)⟩
  have J_20 : D_X8_isName_20 P M = some r → Zw p l e { frames := 0, cells := 0, slots := 0, locals := 80 * (0) } s m args below meth c G b 1 (MQ below (zQ G b FQ) args s 0 0 (fun q : Nat => b ≤ q)) 0 0 20 [some (.ref (P))] [] (L, M, N) := by
    intro h
    unfold D_X8_isName_20 at h
    refine a_iconst (v := 0) X dX8_isName_20 (by decide) ?_
    exact Zw.to2 (J_21 _ (by first | exact Or.inl rfl | exact Or.inr rfl | assumption) h) rfl rfl rfl
  unfold D_X8_isName at h
  refine a_aload_n X dX8_isName_0 rfl ?_
  refine a_geti X lf8_160 (by first | exact p_o | assumption) rfl dX8_isName_1 ?_
  refine a_iconst (v := 2) X dX8_isName_4 (by decide) ?_
  refine a_icmp_ne (tgt := 20) X dX8_isName_5 (by decide) (fun h_5 => ?_) (fun h_5 => ?_)
  · replace h := (if_neg h_5).symm.trans h
    exact Zw.to2 (J_20 h) rfl rfl rfl
  · replace h := (if_pos h_5).symm.trans h
    refine a_aload_n X dX8_isName_8 rfl ?_
    refine a_geti X lf8_157 (by first | exact p_o | assumption) rfl dX8_isName_9 ?_
    refine a_iconst (v := -1) X dX8_isName_12 (by decide) ?_
    refine a_icmp_ne (tgt := 20) X dX8_isName_13 (by decide) (fun h_13 => ?_) (fun h_13 => ?_)
    · replace h := (if_neg h_13).symm.trans h
      exact Zw.to2 (J_20 h) rfl rfl rfl
    · replace h := (if_pos h_13).symm.trans h
      refine a_iconst (v := 1) X dX8_isName_16 (by decide) ?_
      refine a_goto (tgt := 21) X dX8_isName_17 (by decide) ?_
      exact Zw.to2 (J_21 _ (by first | exact Or.inl rfl | exact Or.inr rfl | assumption) h) rfl rfl rfl
noncomputable def D_X8_found_3 (Q : Nat) (nQ : Nat) (N : zNt) : Nat → Int32 → Int64 → Int32 → Option (Int32)
  | 0, _, _, _ => none
  | n + 1, x1_3, x2_3, x4_3 =>
    if x1_3 ≤ x4_3 then
      some ((-1 : Int32))
    else
      zI x4_3 nQ <|
      if (lg_cmp (N Q x4_3.toNatClampNeg) x2_3) = 0 then
        some (x4_3)
      else
        (D_X8_found_3 Q nQ N n) x1_3 x2_3 (x4_3 + 1)
noncomputable def D_X8_found (Q : Nat) (nQ : Nat) (N : zNt) (v0 : Int32) (v1 : Int64) : Option (Int32) :=
  D_X8_found_3 Q nQ N zFu v0 v1 (0 : Int32)
set_option maxRecDepth 100000 in
set_option maxHeartbeats 4000000 in
theorem t_X8_found {l : Launch} {G : zG} {b : Nat} {L : List zC} {M : zMt} {N : zNt} {Q : Nat} {nQ : Nat} {v0 : Int32} {v1 : Int64} (hQ : L[Q]? = some (3, nQ, [])) (lQ : nQ < 2 ^ 31) {r : Int32} (h : D_X8_found Q nQ N v0 v1 = some r) : zM l G b yX8_found cX8_found 5 (some .int) 0 0 0 [.ref Q, .int v0, .long v1] (L, M, N) (fun r2 z => r2 = some (.int r) ∧ z = (L, M, N)) := by
  refine zM.of miX8_found (Nat.le_of_ble_eq_true rfl) ?_
  intro p e s m args below meth c X hr hname
  generalize hF : ((fun r2 z => r2 = some (.int r) ∧ z = (L, M, N)) : Option Value → zS → Prop) = FQ
  change Zw p l e { frames := 0, cells := 0, slots := 0, locals := 80 * (0) } s m args below meth c G b 5 (MQ below (zQ G b FQ) args s 0 0 (fun q : Nat => b ≤ q)) 0 0 0 [some (.ref Q), some (.int v0), some (.long v1), none, none] [] (L, M, N)
  have L_3 : ∀ u : Nat, ∀ (x1_3 : Int32) (x2_3 : Int64) (x4_3 : Int32), D_X8_found_3 Q nQ N u x1_3 x2_3 x4_3 = some r → Zw p l e { frames := 0, cells := 0, slots := 0, locals := 80 * (0) } s m args below meth c G b 5 (MQ below (zQ G b FQ) args s 0 0 (fun q : Nat => b ≤ q)) 0 0 3 [some (.ref (Q)), some (.int x1_3), some (.long x2_3), none, some (.int x4_3)] [] (L, M, N) := by
    intro u
    induction u with
    | zero => intro x1_3 x2_3 x4_3 h; cases (show none = some r from h)
    | succ u_3 ih_3 =>
      intro x1_3 x2_3 x4_3 h
      rw [D_X8_found_3] at h
      refine a_iload X dX8_found_3 rfl ?_
      refine a_iload_n X dX8_found_5 rfl ?_
      refine a_icmp_ge (tgt := 27) X dX8_found_6 (by decide) (fun h_6 => ?_) (fun h_6 => ?_)
      · replace h := (if_pos h_6).symm.trans h
        refine a_iconst (v := -1) X dX8_found_27 (by decide) ?_
        refine a_iret X hr dX8_found_28 ⟨by decide, by decide⟩ ?_
        subst hF
        rw [← Option.some.inj h]
        exact ⟨rfl, rfl⟩
      · replace h := (if_neg h_6).symm.trans h
        refine a_aload_n X dX8_found_9 rfl ?_
        refine a_iload X dX8_found_10 rfl ?_
        obtain ⟨g_12, h⟩ := zIx h
        refine a_laload X (by first | exact hQ | assumption) g_12 dX8_found_12 ?_
        refine a_lload_n X dX8_found_13 rfl ?_
        refine a_lcmp X dX8_found_14 ?_
        refine a_if_ne (tgt := 21) X dX8_found_15 (by decide) (fun h_15 => ?_) (fun h_15 => ?_)
        · replace h := (if_neg h_15).symm.trans h
          refine a_iinc (v := x4_3 + 1) X dX8_found_21 (by decide) rfl zi_1 ?_
          refine a_goto (tgt := 3) X dX8_found_24 (by decide) ?_
          exact Zw.to2 (ih_3 _ _ _ h) rfl rfl rfl
        · replace h := (if_pos h_15).symm.trans h
          refine a_iload X dX8_found_18 rfl ?_
          refine a_iret X hr dX8_found_20 ⟨by decide, by decide⟩ ?_
          subst hF
          rw [← Option.some.inj h]
          exact ⟨rfl, rfl⟩
  have H_3 : ∀ (x1_3 : Int32) (x2_3 : Int64) (x4_3 : Int32), D_X8_found_3 Q nQ N zFu x1_3 x2_3 x4_3 = some r → Zw p l e { frames := 0, cells := 0, slots := 0, locals := 80 * (0) } s m args below meth c G b 5 (MQ below (zQ G b FQ) args s 0 0 (fun q : Nat => b ≤ q)) 0 0 3 [some (.ref (Q)), some (.int x1_3), some (.long x2_3), none, some (.int x4_3)] [] (L, M, N) := L_3 zFu
  unfold D_X8_found at h
  refine a_iconst (v := 0) X dX8_found_0 (by decide) ?_
  refine a_istore X dX8_found_1 (by decide) ?_
  exact Zw.to2 (H_3 _ _ _ h) rfl rfl rfl
noncomputable def D_X8_isTaken_62 (P : Nat) (M : zMt) (N : zNt) (y0_62 : Int32) : Option (Int32) :=
  some (y0_62)
noncomputable def D_X8_isTaken_57 (P : Nat) (M : zMt) (N : zNt)  : Option (Int32) :=
  D_X8_isTaken_62 P M N (1 : Int32)
noncomputable def D_X8_isTaken (P : Nat) (M : zMt) (N : zNt)  : Option (Int32) :=
  zB (D_X8_found (P + 8) 5 N (M P 28) (N P 24)) fun e_12 =>
  if e_12 = (-1 : Int32) then
    zB (D_X8_found (P + 9) 10 N (M P 29) (N P 24)) fun e_31 =>
    if e_31 = (-1 : Int32) then
      zB (D_X8_found (P + 10) 4 N (M P 30) (N P 24)) fun e_50 =>
      if e_50 = (-1 : Int32) then
        D_X8_isTaken_62 P M N (0 : Int32)
      else
        D_X8_isTaken_57 P M N
    else
      D_X8_isTaken_57 P M N
  else
    D_X8_isTaken_57 P M N
set_option maxRecDepth 100000 in
set_option maxHeartbeats 4000000 in
theorem t_X8_isTaken {l : Launch} {G : zG} {b : Nat} {L : List zC} {M : zMt} {N : zNt} {P : Nat}  (hP : LX8 L P) {r : Int32} (h : D_X8_isTaken P M N = some r) : zM l G b yX8_isTaken cX8_isTaken 1 (some .boolean) 1 0 0 [.ref P] (L, M, N) (fun r2 z => r2 = some (.int r) ∧ z = (L, M, N) ∧ (r = 0 ∨ r = 1)) := by
  refine zM.of miX8_isTaken (Nat.le_of_ble_eq_true rfl) ?_
  intro p e s m args below meth c X hr hname
  generalize hF : ((fun r2 z => r2 = some (.int r) ∧ z = (L, M, N) ∧ (r = 0 ∨ r = 1)) : Option Value → zS → Prop) = FQ
  change Zw p l e { frames := 1, cells := 0, slots := 0, locals := 80 * (1) } s m args below meth c G b 1 (MQ below (zQ G b FQ) args s 0 0 (fun q : Nat => b ≤ q)) 0 0 0 [some (.ref P)] [] (L, M, N)
  have p_lt := hP.1
  have p_o := hP.2.1
  have p_unitName := hP.2.2.2.2.2.2.2.2.2.1
  have p_hunterName := hP.2.2.2.2.2.2.2.2.2.2.1
  have p_partyName := hP.2.2.2.2.2.2.2.2.2.2.2.1
  have J_62 : ∀ (y0_62 : Int32), (y0_62 = 0 ∨ y0_62 = 1) → D_X8_isTaken_62 P M N y0_62 = some r → Zw p l e { frames := 1, cells := 0, slots := 0, locals := 80 * (1) } s m args below meth c G b 1 (MQ below (zQ G b FQ) args s 0 0 (fun q : Nat => b ≤ q)) 0 0 62 [some (.ref (P))] [.int y0_62] (L, M, N) := by
    intro y0_62 fb_y0_62 h
    unfold D_X8_isTaken_62 at h
    refine a_zret X (by first | exact Or.inl rfl | exact Or.inr rfl | assumption) hr dX8_isTaken_62 ⟨by decide, by decide⟩ ?_
    subst hF
    rw [← Option.some.inj h]
    exact ⟨rfl, rfl, (by first | exact Or.inl rfl | exact Or.inr rfl | assumption)⟩
  have J_57 : D_X8_isTaken_57 P M N = some r → Zw p l e { frames := 1, cells := 0, slots := 0, locals := 80 * (1) } s m args below meth c G b 1 (MQ below (zQ G b FQ) args s 0 0 (fun q : Nat => b ≤ q)) 0 0 57 [some (.ref (P))] [] (L, M, N) := by
    intro h
    unfold D_X8_isTaken_57 at h
    refine a_iconst (v := 1) X dX8_isTaken_57 (by decide) ?_
    refine a_goto (tgt := 62) X dX8_isTaken_58 (by decide) ?_
    exact Zw.to2 (J_62 _ (by first | exact Or.inl rfl | exact Or.inr rfl | assumption) h) rfl rfl rfl
  unfold D_X8_isTaken at h
  refine a_aload_n X dX8_isTaken_0 rfl ?_
  refine a_getr X lf8_39 (by first | exact p_o | assumption) rfl (by omega) dX8_isTaken_1 ?_
  refine a_aload_n X dX8_isTaken_4 rfl ?_
  refine a_geti X lf8_201 (by first | exact p_o | assumption) rfl dX8_isTaken_5 ?_
  refine a_aload_n X dX8_isTaken_8 rfl ?_
  refine a_getl X lf8_167 (by first | exact p_o | assumption) rfl dX8_isTaken_9 ?_
  obtain ⟨e_12, f_12, h⟩ := zBx h
  refine a_callSv X dX8_isTaken_12 miX8_found lm8_204 (t_X8_found (by first | exact p_unitName | assumption) (by decide) f_12) rfl rfl (Nat.le_of_ble_eq_true rfl) ⟨by decide, by decide, by decide, by decide⟩ ?_
  refine a_iconst (v := -1) X dX8_isTaken_15 (by decide) ?_
  refine a_icmp_ne (tgt := 57) X dX8_isTaken_16 (by decide) (fun h_16 => ?_) (fun h_16 => ?_)
  · replace h := (if_neg h_16).symm.trans h
    exact Zw.to2 (J_57 h) rfl rfl rfl
  · replace h := (if_pos h_16).symm.trans h
    refine a_aload_n X dX8_isTaken_19 rfl ?_
    refine a_getr X lf8_43 (by first | exact p_o | assumption) rfl (by omega) dX8_isTaken_20 ?_
    refine a_aload_n X dX8_isTaken_23 rfl ?_
    refine a_geti X lf8_208 (by first | exact p_o | assumption) rfl dX8_isTaken_24 ?_
    refine a_aload_n X dX8_isTaken_27 rfl ?_
    refine a_getl X lf8_167 (by first | exact p_o | assumption) rfl dX8_isTaken_28 ?_
    obtain ⟨e_31, f_31, h⟩ := zBx h
    refine a_callSv X dX8_isTaken_31 miX8_found lm8_204 (t_X8_found (by first | exact p_hunterName | assumption) (by decide) f_31) rfl rfl (Nat.le_of_ble_eq_true rfl) ⟨by decide, by decide, by decide, by decide⟩ ?_
    refine a_iconst (v := -1) X dX8_isTaken_34 (by decide) ?_
    refine a_icmp_ne (tgt := 57) X dX8_isTaken_35 (by decide) (fun h_35 => ?_) (fun h_35 => ?_)
    · replace h := (if_neg h_35).symm.trans h
      exact Zw.to2 (J_57 h) rfl rfl rfl
    · replace h := (if_pos h_35).symm.trans h
      refine a_aload_n X dX8_isTaken_38 rfl ?_
      refine a_getr X lf8_46 (by first | exact p_o | assumption) rfl (by omega) dX8_isTaken_39 ?_
      refine a_aload_n X dX8_isTaken_42 rfl ?_
      refine a_geti X lf8_211 (by first | exact p_o | assumption) rfl dX8_isTaken_43 ?_
      refine a_aload_n X dX8_isTaken_46 rfl ?_
      refine a_getl X lf8_167 (by first | exact p_o | assumption) rfl dX8_isTaken_47 ?_
      obtain ⟨e_50, f_50, h⟩ := zBx h
      refine a_callSv X dX8_isTaken_50 miX8_found lm8_204 (t_X8_found (by first | exact p_partyName | assumption) (by decide) f_50) rfl rfl (Nat.le_of_ble_eq_true rfl) ⟨by decide, by decide, by decide, by decide⟩ ?_
      refine a_iconst (v := -1) X dX8_isTaken_53 (by decide) ?_
      refine a_icmp_eq (tgt := 61) X dX8_isTaken_54 (by decide) (fun h_54 => ?_) (fun h_54 => ?_)
      · replace h := (if_pos h_54).symm.trans h
        refine a_iconst (v := 0) X dX8_isTaken_61 (by decide) ?_
        exact Zw.to2 (J_62 _ (by first | exact Or.inl rfl | exact Or.inr rfl | assumption) h) rfl rfl rfl
      · replace h := (if_neg h_54).symm.trans h
        exact Zw.to2 (J_57 h) rfl rfl rfl
noncomputable def D_X8_number (P : Nat) (v0 : Int32) (v1 : Int32) (M : zMt) (N : zNt) : Option (Int32 × zMt × zNt) :=
  if (M P 18) = (3 : Int32) then
    zB (D_X8_isFrom (Int32.toInt64 (M P 20)) (Int32.toInt64 v0) (Int32.toInt64 v1)) fun e_23 =>
    if e_23 = 0 then
      zB (D_X8_bad P (3 : Int32) M) fun e_31 =>
      some (e_31.1, e_31.2, N)
    else
      zLt (zu M P 31 (M P 20)) fun M_40 =>
      zB (D_X8_next P M_40 N) fun e_44 =>
      some (e_44.1, e_44.2.1, e_44.2.2)
  else
    zB (D_X8_bad P (2 : Int32) M) fun e_10 =>
    some (e_10.1, e_10.2, N)
set_option maxRecDepth 100000 in
set_option maxHeartbeats 4000000 in
theorem t_X8_number {l : Launch} {G : zG} {b : Nat} {L : List zC} {M : zMt} {N : zNt} {P : Nat} {v0 : Int32} {v1 : Int32} (hP : LX8 L P) {r : Int32 × zMt × zNt} (h : D_X8_number P v0 v1 M N = some r) : zM l G b yX8_number cX8_number 3 (some .boolean) 6 0 0 [.ref P, .int v0, .int v1] (L, M, N) (fun r2 z => r2 = some (.int r.1) ∧ z = (L, r.2.1, r.2.2) ∧ (r.1 = 0 ∨ r.1 = 1)) := by
  refine zM.of miX8_number (Nat.le_of_ble_eq_true rfl) ?_
  intro p e s m args below meth c X hr hname
  generalize hF : ((fun r2 z => r2 = some (.int r.1) ∧ z = (L, r.2.1, r.2.2) ∧ (r.1 = 0 ∨ r.1 = 1)) : Option Value → zS → Prop) = FQ
  change Zw p l e { frames := 6, cells := 0, slots := 0, locals := 80 * (6) } s m args below meth c G b 3 (MQ below (zQ G b FQ) args s 0 0 (fun q : Nat => b ≤ q)) 0 0 0 [some (.ref P), some (.int v0), some (.int v1)] [] (L, M, N)
  have p_lt := hP.1
  have p_o := hP.2.1
  unfold D_X8_number at h
  refine a_aload_n X dX8_number_0 rfl ?_
  refine a_geti X lf8_160 (by first | exact p_o | assumption) rfl dX8_number_1 ?_
  refine a_iconst (v := 3) X dX8_number_4 (by decide) ?_
  refine a_icmp_eq (tgt := 14) X dX8_number_5 (by decide) (fun h_5 => ?_) (fun h_5 => ?_)
  · replace h := (if_pos h_5).symm.trans h
    refine a_aload_n X dX8_number_14 rfl ?_
    refine a_geti X lf8_182 (by first | exact p_o | assumption) rfl dX8_number_15 ?_
    refine a_i2l X dX8_number_18 ?_
    refine a_iload_n X dX8_number_19 rfl ?_
    refine a_i2l X dX8_number_20 ?_
    refine a_iload_n X dX8_number_21 rfl ?_
    refine a_i2l X dX8_number_22 ?_
    obtain ⟨e_23, f_23, h⟩ := zBx h
    refine a_callSx X dX8_number_23 miX8_isFrom lm8_128 (t_X8_isFrom f_23) rfl rfl (Nat.le_of_ble_eq_true rfl) ⟨by decide, by decide, by decide, by decide⟩ (fun r_23 S_23 q_23 => ?_)
    obtain ⟨rfl, rfl, b_23⟩ := q_23
    refine a_if_ne (tgt := 35) X dX8_number_26 (by decide) (fun h_26 => ?_) (fun h_26 => ?_)
    · replace h := (if_neg h_26).symm.trans h
      refine a_aload_n X dX8_number_35 rfl ?_
      refine a_aload_n X dX8_number_36 rfl ?_
      refine a_geti X lf8_182 (by first | exact p_o | assumption) rfl dX8_number_37 ?_
      obtain ⟨M_40, f_40, h⟩ := zLtx h
      refine d_puti X lf8_217 (by first | exact p_o | assumption) rfl dX8_number_40 f_40 ?_
      refine a_aload_n X dX8_number_43 rfl ?_
      obtain ⟨e_44, f_44, h⟩ := zBx h
      refine a_callVx X dX8_number_44 miX8_next lm8_220 (t_X8_next (by first | exact hP | assumption) f_44) (by first | exact p_o | assumption) rfl rfl rfl (Nat.le_of_ble_eq_true rfl) ⟨by decide, by decide, by decide, by decide⟩ (fun r_44 S_44 q_44 => ?_)
      obtain ⟨rfl, rfl, b_44⟩ := q_44
      refine a_zret X (by first | exact Or.inl rfl | exact Or.inr rfl | assumption) hr dX8_number_47 ⟨by decide, by decide⟩ ?_
      subst hF
      rw [← Option.some.inj h]
      exact ⟨rfl, rfl, (by first | exact Or.inl rfl | exact Or.inr rfl | assumption)⟩
    · replace h := (if_pos h_26).symm.trans h
      refine a_aload_n X dX8_number_29 rfl ?_
      refine a_iconst (v := 3) X dX8_number_30 (by decide) ?_
      obtain ⟨e_31, f_31, h⟩ := zBx h
      refine a_callVx X dX8_number_31 miX8_bad lm8_214 (t_X8_bad (by first | exact hP | assumption) f_31) (by first | exact p_o | assumption) rfl rfl rfl (Nat.le_of_ble_eq_true rfl) ⟨by decide, by decide, by decide, by decide⟩ (fun r_31 S_31 q_31 => ?_)
      obtain ⟨rfl, rfl, b_31⟩ := q_31
      refine a_zret X (by first | exact Or.inl rfl | exact Or.inr rfl | assumption) hr dX8_number_34 ⟨by decide, by decide⟩ ?_
      subst hF
      rw [← Option.some.inj h]
      exact ⟨rfl, rfl, (by first | exact Or.inl rfl | exact Or.inr rfl | assumption)⟩
  · replace h := (if_neg h_5).symm.trans h
    refine a_aload_n X dX8_number_8 rfl ?_
    refine a_iconst (v := 2) X dX8_number_9 (by decide) ?_
    obtain ⟨e_10, f_10, h⟩ := zBx h
    refine a_callVx X dX8_number_10 miX8_bad lm8_214 (t_X8_bad (by first | exact hP | assumption) f_10) (by first | exact p_o | assumption) rfl rfl rfl (Nat.le_of_ble_eq_true rfl) ⟨by decide, by decide, by decide, by decide⟩ (fun r_10 S_10 q_10 => ?_)
    obtain ⟨rfl, rfl, b_10⟩ := q_10
    refine a_zret X (by first | exact Or.inl rfl | exact Or.inr rfl | assumption) hr dX8_number_13 ⟨by decide, by decide⟩ ?_
    subst hF
    rw [← Option.some.inj h]
    exact ⟨rfl, rfl, (by first | exact Or.inl rfl | exact Or.inr rfl | assumption)⟩
noncomputable def D_X8_newName (P : Nat) (M : zMt) (N : zNt) : Option (Int32 × zMt × zNt) :=
  zB (D_X8_isName P M) fun e_1 =>
  if e_1 = 0 then
    zB (D_X8_bad P (2 : Int32) M) fun e_9 =>
    some (e_9.1, e_9.2, N)
  else
    zB (D_X8_isTaken P M N) fun e_14 =>
    if e_14 = 0 then
      zLt (zu N P 32 (N P 24)) fun N_31 =>
      zB (D_X8_next P M N_31) fun e_35 =>
      some (e_35.1, e_35.2.1, e_35.2.2)
    else
      zB (D_X8_bad P (4 : Int32) M) fun e_22 =>
      some (e_22.1, e_22.2, N)
set_option maxRecDepth 100000 in
set_option maxHeartbeats 4000000 in
theorem t_X8_newName {l : Launch} {G : zG} {b : Nat} {L : List zC} {M : zMt} {N : zNt} {P : Nat}  (hP : LX8 L P) {r : Int32 × zMt × zNt} (h : D_X8_newName P M N = some r) : zM l G b yX8_newName cX8_newName 1 (some .boolean) 6 0 0 [.ref P] (L, M, N) (fun r2 z => r2 = some (.int r.1) ∧ z = (L, r.2.1, r.2.2) ∧ (r.1 = 0 ∨ r.1 = 1)) := by
  refine zM.of miX8_newName (Nat.le_of_ble_eq_true rfl) ?_
  intro p e s m args below meth c X hr hname
  generalize hF : ((fun r2 z => r2 = some (.int r.1) ∧ z = (L, r.2.1, r.2.2) ∧ (r.1 = 0 ∨ r.1 = 1)) : Option Value → zS → Prop) = FQ
  change Zw p l e { frames := 6, cells := 0, slots := 0, locals := 80 * (6) } s m args below meth c G b 1 (MQ below (zQ G b FQ) args s 0 0 (fun q : Nat => b ≤ q)) 0 0 0 [some (.ref P)] [] (L, M, N)
  have p_lt := hP.1
  have p_o := hP.2.1
  unfold D_X8_newName at h
  refine a_aload_n X dX8_newName_0 rfl ?_
  obtain ⟨e_1, f_1, h⟩ := zBx h
  refine a_callVx X dX8_newName_1 miX8_isName lm8_224 (t_X8_isName (by first | exact hP | assumption) f_1) (by first | exact p_o | assumption) rfl rfl rfl (Nat.le_of_ble_eq_true rfl) ⟨by decide, by decide, by decide, by decide⟩ (fun r_1 S_1 q_1 => ?_)
  obtain ⟨rfl, rfl, b_1⟩ := q_1
  refine a_if_ne (tgt := 13) X dX8_newName_4 (by decide) (fun h_4 => ?_) (fun h_4 => ?_)
  · replace h := (if_neg h_4).symm.trans h
    refine a_aload_n X dX8_newName_13 rfl ?_
    obtain ⟨e_14, f_14, h⟩ := zBx h
    refine a_callVx X dX8_newName_14 miX8_isTaken lm8_227 (t_X8_isTaken (by first | exact hP | assumption) f_14) (by first | exact p_o | assumption) rfl rfl rfl (Nat.le_of_ble_eq_true rfl) ⟨by decide, by decide, by decide, by decide⟩ (fun r_14 S_14 q_14 => ?_)
    obtain ⟨rfl, rfl, b_14⟩ := q_14
    refine a_if_eq (tgt := 26) X dX8_newName_17 (by decide) (fun h_17 => ?_) (fun h_17 => ?_)
    · replace h := (if_pos h_17).symm.trans h
      refine a_aload_n X dX8_newName_26 rfl ?_
      refine a_aload_n X dX8_newName_27 rfl ?_
      refine a_getl X lf8_167 (by first | exact p_o | assumption) rfl dX8_newName_28 ?_
      obtain ⟨N_31, f_31, h⟩ := zLtx h
      refine d_putl X lf8_230 (by first | exact p_o | assumption) rfl dX8_newName_31 f_31 ?_
      refine a_aload_n X dX8_newName_34 rfl ?_
      obtain ⟨e_35, f_35, h⟩ := zBx h
      refine a_callVx X dX8_newName_35 miX8_next lm8_220 (t_X8_next (by first | exact hP | assumption) f_35) (by first | exact p_o | assumption) rfl rfl rfl (Nat.le_of_ble_eq_true rfl) ⟨by decide, by decide, by decide, by decide⟩ (fun r_35 S_35 q_35 => ?_)
      obtain ⟨rfl, rfl, b_35⟩ := q_35
      refine a_zret X (by first | exact Or.inl rfl | exact Or.inr rfl | assumption) hr dX8_newName_38 ⟨by decide, by decide⟩ ?_
      subst hF
      rw [← Option.some.inj h]
      exact ⟨rfl, rfl, (by first | exact Or.inl rfl | exact Or.inr rfl | assumption)⟩
    · replace h := (if_neg h_17).symm.trans h
      refine a_aload_n X dX8_newName_20 rfl ?_
      refine a_iconst (v := 4) X dX8_newName_21 (by decide) ?_
      obtain ⟨e_22, f_22, h⟩ := zBx h
      refine a_callVx X dX8_newName_22 miX8_bad lm8_214 (t_X8_bad (by first | exact hP | assumption) f_22) (by first | exact p_o | assumption) rfl rfl rfl (Nat.le_of_ble_eq_true rfl) ⟨by decide, by decide, by decide, by decide⟩ (fun r_22 S_22 q_22 => ?_)
      obtain ⟨rfl, rfl, b_22⟩ := q_22
      refine a_zret X (by first | exact Or.inl rfl | exact Or.inr rfl | assumption) hr dX8_newName_25 ⟨by decide, by decide⟩ ?_
      subst hF
      rw [← Option.some.inj h]
      exact ⟨rfl, rfl, (by first | exact Or.inl rfl | exact Or.inr rfl | assumption)⟩
  · replace h := (if_pos h_4).symm.trans h
    refine a_aload_n X dX8_newName_7 rfl ?_
    refine a_iconst (v := 2) X dX8_newName_8 (by decide) ?_
    obtain ⟨e_9, f_9, h⟩ := zBx h
    refine a_callVx X dX8_newName_9 miX8_bad lm8_214 (t_X8_bad (by first | exact hP | assumption) f_9) (by first | exact p_o | assumption) rfl rfl rfl (Nat.le_of_ble_eq_true rfl) ⟨by decide, by decide, by decide, by decide⟩ (fun r_9 S_9 q_9 => ?_)
    obtain ⟨rfl, rfl, b_9⟩ := q_9
    refine a_zret X (by first | exact Or.inl rfl | exact Or.inr rfl | assumption) hr dX8_newName_12 ⟨by decide, by decide⟩ ?_
    subst hF
    rw [← Option.some.inj h]
    exact ⟨rfl, rfl, (by first | exact Or.inl rfl | exact Or.inr rfl | assumption)⟩
noncomputable def D_X8_readUnit_38 (P : Nat) (M_38 : zMt) (N_38 : zNt) : Option (Int32 × zMt × zNt) :=
  some ((0 : Int32), M_38, N_38)
noncomputable def D_X8_readUnit (P : Nat) (M : zMt) (N : zNt) : Option (Int32 × zMt × zNt) :=
  if (M P 28) = (5 : Int32) then
    zB (D_X8_bad P (2 : Int32) M) fun e_10 =>
    some (e_10.1, e_10.2, N)
  else
    zB (D_X8_next P M N) fun e_15 =>
    if e_15.1 = 0 then
      D_X8_readUnit_38 P e_15.2.1 e_15.2.2
    else
      zB (D_X8_newName P e_15.2.1 e_15.2.2) fun e_22 =>
      if e_22.1 = 0 then
        D_X8_readUnit_38 P e_22.2.1 e_22.2.2
      else
        zB (D_X8_number P (0 : Int32) (20 : Int32) e_22.2.1 e_22.2.2) fun e_32 =>
        if e_32.1 = 0 then
          D_X8_readUnit_38 P e_32.2.1 e_32.2.2
        else
          zI (e_32.2.1 P 28) 5 <|
          zLt (zu e_32.2.2 (P + 8) (e_32.2.1 P 28).toNatClampNeg (e_32.2.2 P 32)) fun N_52 =>
          zI ((62 : Int32) + (e_32.2.1 P 28)) 82 <|
          zLt (zu e_32.2.1 (P + 2) ((62 : Int32) + (e_32.2.1 P 28)).toNatClampNeg (e_32.2.1 P 31)) fun M_68 =>
          zLt (zu M_68 P 28 ((M_68 P 28) + (1 : Int32))) fun M_76 =>
          some ((1 : Int32), M_76, N_52)
set_option maxRecDepth 100000 in
set_option maxHeartbeats 4000000 in
theorem t_X8_readUnit {l : Launch} {G : zG} {b : Nat} {L : List zC} {M : zMt} {N : zNt} {P : Nat}  (hP : LX8 L P) {r : Int32 × zMt × zNt} (h : D_X8_readUnit P M N = some r) : zM l G b yX8_readUnit cX8_readUnit 1 (some .boolean) 7 0 0 [.ref P] (L, M, N) (fun r2 z => r2 = some (.int r.1) ∧ z = (L, r.2.1, r.2.2) ∧ (r.1 = 0 ∨ r.1 = 1)) := by
  refine zM.of miX8_readUnit (Nat.le_of_ble_eq_true rfl) ?_
  intro p e s m args below meth c X hr hname
  generalize hF : ((fun r2 z => r2 = some (.int r.1) ∧ z = (L, r.2.1, r.2.2) ∧ (r.1 = 0 ∨ r.1 = 1)) : Option Value → zS → Prop) = FQ
  change Zw p l e { frames := 7, cells := 0, slots := 0, locals := 80 * (7) } s m args below meth c G b 1 (MQ below (zQ G b FQ) args s 0 0 (fun q : Nat => b ≤ q)) 0 0 0 [some (.ref P)] [] (L, M, N)
  have p_lt := hP.1
  have p_o := hP.2.1
  have p_read := hP.2.2.2.1
  have p_unitName := hP.2.2.2.2.2.2.2.2.2.1
  have J_38 : ∀ (M_38 : zMt) (N_38 : zNt), D_X8_readUnit_38 P M_38 N_38 = some r → Zw p l e { frames := 7, cells := 0, slots := 0, locals := 80 * (7) } s m args below meth c G b 1 (MQ below (zQ G b FQ) args s 0 0 (fun q : Nat => b ≤ q)) 0 0 38 [some (.ref (P))] [] (L, M_38, N_38) := by
    intro M_38 N_38 h
    unfold D_X8_readUnit_38 at h
    refine a_iconst (v := 0) X dX8_readUnit_38 (by decide) ?_
    refine a_zret X (by first | exact Or.inl rfl | exact Or.inr rfl | assumption) hr dX8_readUnit_39 ⟨by decide, by decide⟩ ?_
    subst hF
    rw [← Option.some.inj h]
    exact ⟨rfl, rfl, (by first | exact Or.inl rfl | exact Or.inr rfl | assumption)⟩
  unfold D_X8_readUnit at h
  refine a_aload_n X dX8_readUnit_0 rfl ?_
  refine a_geti X lf8_201 (by first | exact p_o | assumption) rfl dX8_readUnit_1 ?_
  refine a_iconst (v := 5) X dX8_readUnit_4 (by decide) ?_
  refine a_icmp_ne (tgt := 14) X dX8_readUnit_5 (by decide) (fun h_5 => ?_) (fun h_5 => ?_)
  · replace h := (if_neg h_5).symm.trans h
    refine a_aload_n X dX8_readUnit_14 rfl ?_
    obtain ⟨e_15, f_15, h⟩ := zBx h
    refine a_callVx X dX8_readUnit_15 miX8_next lm8_220 (t_X8_next (by first | exact hP | assumption) f_15) (by first | exact p_o | assumption) rfl rfl rfl (Nat.le_of_ble_eq_true rfl) ⟨by decide, by decide, by decide, by decide⟩ (fun r_15 S_15 q_15 => ?_)
    obtain ⟨rfl, rfl, b_15⟩ := q_15
    refine a_if_eq (tgt := 38) X dX8_readUnit_18 (by decide) (fun h_18 => ?_) (fun h_18 => ?_)
    · replace h := (if_pos h_18).symm.trans h
      exact Zw.to2 (J_38 _ _ h) rfl rfl rfl
    · replace h := (if_neg h_18).symm.trans h
      refine a_aload_n X dX8_readUnit_21 rfl ?_
      obtain ⟨e_22, f_22, h⟩ := zBx h
      refine a_callVx X dX8_readUnit_22 miX8_newName lm8_233 (t_X8_newName (by first | exact hP | assumption) f_22) (by first | exact p_o | assumption) rfl rfl rfl (Nat.le_of_ble_eq_true rfl) ⟨by decide, by decide, by decide, by decide⟩ (fun r_22 S_22 q_22 => ?_)
      obtain ⟨rfl, rfl, b_22⟩ := q_22
      refine a_if_eq (tgt := 38) X dX8_readUnit_25 (by decide) (fun h_25 => ?_) (fun h_25 => ?_)
      · replace h := (if_pos h_25).symm.trans h
        exact Zw.to2 (J_38 _ _ h) rfl rfl rfl
      · replace h := (if_neg h_25).symm.trans h
        refine a_aload_n X dX8_readUnit_28 rfl ?_
        refine a_iconst (v := 0) X dX8_readUnit_29 (by decide) ?_
        refine a_bipush (v := 20) X dX8_readUnit_30 (by decide) ?_
        obtain ⟨e_32, f_32, h⟩ := zBx h
        refine a_callVx X dX8_readUnit_32 miX8_number lm8_236 (t_X8_number (by first | exact hP | assumption) f_32) (by first | exact p_o | assumption) rfl rfl rfl (Nat.le_of_ble_eq_true rfl) ⟨by decide, by decide, by decide, by decide⟩ (fun r_32 S_32 q_32 => ?_)
        obtain ⟨rfl, rfl, b_32⟩ := q_32
        refine a_if_ne (tgt := 40) X dX8_readUnit_35 (by decide) (fun h_35 => ?_) (fun h_35 => ?_)
        · replace h := (if_neg h_35).symm.trans h
          refine a_aload_n X dX8_readUnit_40 rfl ?_
          refine a_getr X lf8_39 (by first | exact p_o | assumption) rfl (by omega) dX8_readUnit_41 ?_
          refine a_aload_n X dX8_readUnit_44 rfl ?_
          refine a_geti X lf8_201 (by first | exact p_o | assumption) rfl dX8_readUnit_45 ?_
          refine a_aload_n X dX8_readUnit_48 rfl ?_
          refine a_getl X lf8_230 (by first | exact p_o | assumption) rfl dX8_readUnit_49 ?_
          obtain ⟨g_52, h⟩ := zIx h
          obtain ⟨N_52, f_52, h⟩ := zLtx h
          refine d_lastore X (by first | exact p_unitName | assumption) g_52 dX8_readUnit_52 f_52 ?_
          refine a_aload_n X dX8_readUnit_53 rfl ?_
          refine a_getr X lf8_13 (by first | exact p_o | assumption) rfl (by omega) dX8_readUnit_54 ?_
          refine a_bipush (v := 62) X dX8_readUnit_57 (by decide) ?_
          refine a_aload_n X dX8_readUnit_59 rfl ?_
          refine a_geti X lf8_201 (by first | exact p_o | assumption) rfl dX8_readUnit_60 ?_
          refine a_iadd X dX8_readUnit_63 ?_
          refine a_aload_n X dX8_readUnit_64 rfl ?_
          refine a_geti X lf8_217 (by first | exact p_o | assumption) rfl dX8_readUnit_65 ?_
          obtain ⟨g_68, h⟩ := zIx h
          obtain ⟨M_68, f_68, h⟩ := zLtx h
          refine d_iastore X (by first | exact p_read | assumption) g_68 dX8_readUnit_68 f_68 ?_
          refine a_aload_n X dX8_readUnit_69 rfl ?_
          refine a_dup X dX8_readUnit_70 rfl ?_
          refine a_geti X lf8_201 (by first | exact p_o | assumption) rfl dX8_readUnit_71 ?_
          refine a_iconst (v := 1) X dX8_readUnit_74 (by decide) ?_
          refine a_iadd X dX8_readUnit_75 ?_
          obtain ⟨M_76, f_76, h⟩ := zLtx h
          refine d_puti X lf8_201 (by first | exact p_o | assumption) rfl dX8_readUnit_76 f_76 ?_
          refine a_iconst (v := 1) X dX8_readUnit_79 (by decide) ?_
          refine a_zret X (by first | exact Or.inl rfl | exact Or.inr rfl | assumption) hr dX8_readUnit_80 ⟨by decide, by decide⟩ ?_
          subst hF
          rw [← Option.some.inj h]
          exact ⟨rfl, rfl, (by first | exact Or.inl rfl | exact Or.inr rfl | assumption)⟩
        · replace h := (if_pos h_35).symm.trans h
          exact Zw.to2 (J_38 _ _ h) rfl rfl rfl
  · replace h := (if_pos h_5).symm.trans h
    refine a_aload_n X dX8_readUnit_8 rfl ?_
    refine a_iconst (v := 2) X dX8_readUnit_9 (by decide) ?_
    obtain ⟨e_10, f_10, h⟩ := zBx h
    refine a_callVx X dX8_readUnit_10 miX8_bad lm8_214 (t_X8_bad (by first | exact hP | assumption) f_10) (by first | exact p_o | assumption) rfl rfl rfl (Nat.le_of_ble_eq_true rfl) ⟨by decide, by decide, by decide, by decide⟩ (fun r_10 S_10 q_10 => ?_)
    obtain ⟨rfl, rfl, b_10⟩ := q_10
    refine a_zret X (by first | exact Or.inl rfl | exact Or.inr rfl | assumption) hr dX8_readUnit_13 ⟨by decide, by decide⟩ ?_
    subst hF
    rw [← Option.some.inj h]
    exact ⟨rfl, rfl, (by first | exact Or.inl rfl | exact Or.inr rfl | assumption)⟩
noncomputable def D_X8_readHunter_116 (P : Nat) (M_116 : zMt) (N_116 : zNt) : Option (Int32 × zMt × zNt) :=
  zLt (zu M_116 P 29 ((M_116 P 29) + (1 : Int32))) fun M_123 =>
  some ((1 : Int32), M_123, N_116)
noncomputable def D_X8_readHunter_98 (P : Nat) (y1_98 : Int32) (y2_98 : Int32) (M_98 : zMt) (N_98 : zNt) : Option (Int32 × zMt × zNt) :=
  zI y1_98 10 <|
  zLt (zu M_98 (P + 6) y1_98.toNatClampNeg y2_98) fun M_98 =>
  zI (M_98 P 29) 10 <|
  if (M_98 (P + 6) (M_98 P 29).toNatClampNeg) = 0 then
    D_X8_readHunter_116 P M_98 N_98
  else
    zB (D_X8_next P M_98 N_98) fun e_112 =>
    D_X8_readHunter_116 P e_112.2.1 e_112.2.2
noncomputable def D_X8_readHunter_97 (P : Nat) (y1_97 : Int32) (M_97 : zMt) (N_97 : zNt) : Option (Int32 × zMt × zNt) :=
  D_X8_readHunter_98 P y1_97 (0 : Int32) M_97 N_97
noncomputable def D_X8_readHunter_39 (P : Nat) (M_39 : zMt) (N_39 : zNt) : Option (Int32 × zMt × zNt) :=
  some ((0 : Int32), M_39, N_39)
noncomputable def D_X8_readHunter (P : Nat) (M : zMt) (N : zNt) : Option (Int32 × zMt × zNt) :=
  if (M P 29) = (10 : Int32) then
    zB (D_X8_bad P (2 : Int32) M) fun e_11 =>
    some (e_11.1, e_11.2, N)
  else
    zB (D_X8_next P M N) fun e_16 =>
    if e_16.1 = 0 then
      D_X8_readHunter_39 P e_16.2.1 e_16.2.2
    else
      zB (D_X8_newName P e_16.2.1 e_16.2.2) fun e_23 =>
      if e_23.1 = 0 then
        D_X8_readHunter_39 P e_23.2.1 e_23.2.2
      else
        zB (D_X8_number P (0 : Int32) (20 : Int32) e_23.2.1 e_23.2.2) fun e_33 =>
        if e_33.1 = 0 then
          D_X8_readHunter_39 P e_33.2.1 e_33.2.2
        else
          zI (e_33.2.1 P 29) 10 <|
          zLt (zu e_33.2.2 (P + 9) (e_33.2.1 P 29).toNatClampNeg (e_33.2.2 P 32)) fun N_53 =>
          zI ((0 : Int32) + (e_33.2.1 P 29)) 82 <|
          zLt (zu e_33.2.1 (P + 2) ((0 : Int32) + (e_33.2.1 P 29)).toNatClampNeg (e_33.2.1 P 31)) fun M_68 =>
          if (M_68 P 18) = (2 : Int32) then
            if (M_68 P 19) = (2 : Int32) then
              D_X8_readHunter_98 P (M_68 P 29) (1 : Int32) M_68 N_53
            else
              D_X8_readHunter_97 P (M_68 P 29) M_68 N_53
          else
            D_X8_readHunter_97 P (M_68 P 29) M_68 N_53
set_option maxRecDepth 100000 in
set_option maxHeartbeats 4000000 in
theorem t_X8_readHunter {l : Launch} {G : zG} {b : Nat} {L : List zC} {M : zMt} {N : zNt} {P : Nat}  (hP : LX8 L P) {r : Int32 × zMt × zNt} (h : D_X8_readHunter P M N = some r) : zM l G b yX8_readHunter cX8_readHunter 1 (some .boolean) 7 0 0 [.ref P] (L, M, N) (fun r2 z => r2 = some (.int r.1) ∧ z = (L, r.2.1, r.2.2) ∧ (r.1 = 0 ∨ r.1 = 1)) := by
  refine zM.of miX8_readHunter (Nat.le_of_ble_eq_true rfl) ?_
  intro p e s m args below meth c X hr hname
  generalize hF : ((fun r2 z => r2 = some (.int r.1) ∧ z = (L, r.2.1, r.2.2) ∧ (r.1 = 0 ∨ r.1 = 1)) : Option Value → zS → Prop) = FQ
  change Zw p l e { frames := 7, cells := 0, slots := 0, locals := 80 * (7) } s m args below meth c G b 1 (MQ below (zQ G b FQ) args s 0 0 (fun q : Nat => b ≤ q)) 0 0 0 [some (.ref P)] [] (L, M, N)
  have p_lt := hP.1
  have p_o := hP.2.1
  have p_read := hP.2.2.2.1
  have p_readGuest := hP.2.2.2.2.2.2.2.1
  have p_hunterName := hP.2.2.2.2.2.2.2.2.2.2.1
  have J_116 : ∀ (M_116 : zMt) (N_116 : zNt), D_X8_readHunter_116 P M_116 N_116 = some r → Zw p l e { frames := 7, cells := 0, slots := 0, locals := 80 * (7) } s m args below meth c G b 1 (MQ below (zQ G b FQ) args s 0 0 (fun q : Nat => b ≤ q)) 0 0 116 [some (.ref (P))] [] (L, M_116, N_116) := by
    intro M_116 N_116 h
    unfold D_X8_readHunter_116 at h
    refine a_aload_n X dX8_readHunter_116 rfl ?_
    refine a_dup X dX8_readHunter_117 rfl ?_
    refine a_geti X lf8_208 (by first | exact p_o | assumption) rfl dX8_readHunter_118 ?_
    refine a_iconst (v := 1) X dX8_readHunter_121 (by decide) ?_
    refine a_iadd X dX8_readHunter_122 ?_
    obtain ⟨M_123, f_123, h⟩ := zLtx h
    refine d_puti X lf8_208 (by first | exact p_o | assumption) rfl dX8_readHunter_123 f_123 ?_
    refine a_iconst (v := 1) X dX8_readHunter_126 (by decide) ?_
    refine a_zret X (by first | exact Or.inl rfl | exact Or.inr rfl | assumption) hr dX8_readHunter_127 ⟨by decide, by decide⟩ ?_
    subst hF
    rw [← Option.some.inj h]
    exact ⟨rfl, rfl, (by first | exact Or.inl rfl | exact Or.inr rfl | assumption)⟩
  have J_98 : ∀ (y1_98 : Int32) (y2_98 : Int32) (M_98 : zMt) (N_98 : zNt), (y2_98 = 0 ∨ y2_98 = 1) → D_X8_readHunter_98 P y1_98 y2_98 M_98 N_98 = some r → Zw p l e { frames := 7, cells := 0, slots := 0, locals := 80 * (7) } s m args below meth c G b 1 (MQ below (zQ G b FQ) args s 0 0 (fun q : Nat => b ≤ q)) 0 0 98 [some (.ref (P))] [.int y2_98, .int y1_98, .ref (P + 6)] (L, M_98, N_98) := by
    intro y1_98 y2_98 M_98 N_98 fb_y2_98 h
    unfold D_X8_readHunter_98 at h
    obtain ⟨g_98, h⟩ := zIx h
    obtain ⟨M_98, f_98, h⟩ := zLtx h
    refine d_bastore X (by first | exact Or.inl rfl | exact Or.inr rfl | assumption) (by first | exact p_readGuest | assumption) g_98 dX8_readHunter_98 f_98 ?_
    refine a_aload_n X dX8_readHunter_99 rfl ?_
    refine a_getr X lf8_26 (by first | exact p_o | assumption) rfl (by omega) dX8_readHunter_100 ?_
    refine a_aload_n X dX8_readHunter_103 rfl ?_
    refine a_geti X lf8_208 (by first | exact p_o | assumption) rfl dX8_readHunter_104 ?_
    obtain ⟨g_107, h⟩ := zIx h
    refine a_baload X (by first | exact p_readGuest | assumption) g_107 dX8_readHunter_107 ?_
    refine a_if_eq (tgt := 116) X dX8_readHunter_108 (by decide) (fun h_108 => ?_) (fun h_108 => ?_)
    · replace h := (if_pos h_108).symm.trans h
      exact Zw.to2 (J_116 _ _ h) rfl rfl rfl
    · replace h := (if_neg h_108).symm.trans h
      refine a_aload_n X dX8_readHunter_111 rfl ?_
      obtain ⟨e_112, f_112, h⟩ := zBx h
      refine a_callVx X dX8_readHunter_112 miX8_next lm8_220 (t_X8_next (by first | exact hP | assumption) f_112) (by first | exact p_o | assumption) rfl rfl rfl (Nat.le_of_ble_eq_true rfl) ⟨by decide, by decide, by decide, by decide⟩ (fun r_112 S_112 q_112 => ?_)
      obtain ⟨rfl, rfl, b_112⟩ := q_112
      refine a_pop X dX8_readHunter_115 rfl ?_
      exact Zw.to2 (J_116 _ _ h) rfl rfl rfl
  have J_97 : ∀ (y1_97 : Int32) (M_97 : zMt) (N_97 : zNt), D_X8_readHunter_97 P y1_97 M_97 N_97 = some r → Zw p l e { frames := 7, cells := 0, slots := 0, locals := 80 * (7) } s m args below meth c G b 1 (MQ below (zQ G b FQ) args s 0 0 (fun q : Nat => b ≤ q)) 0 0 97 [some (.ref (P))] [.int y1_97, .ref (P + 6)] (L, M_97, N_97) := by
    intro y1_97 M_97 N_97 h
    unfold D_X8_readHunter_97 at h
    refine a_iconst (v := 0) X dX8_readHunter_97 (by decide) ?_
    exact Zw.to2 (J_98 _ _ _ _ (by first | exact Or.inl rfl | exact Or.inr rfl | assumption) h) rfl rfl rfl
  have J_39 : ∀ (M_39 : zMt) (N_39 : zNt), D_X8_readHunter_39 P M_39 N_39 = some r → Zw p l e { frames := 7, cells := 0, slots := 0, locals := 80 * (7) } s m args below meth c G b 1 (MQ below (zQ G b FQ) args s 0 0 (fun q : Nat => b ≤ q)) 0 0 39 [some (.ref (P))] [] (L, M_39, N_39) := by
    intro M_39 N_39 h
    unfold D_X8_readHunter_39 at h
    refine a_iconst (v := 0) X dX8_readHunter_39 (by decide) ?_
    refine a_zret X (by first | exact Or.inl rfl | exact Or.inr rfl | assumption) hr dX8_readHunter_40 ⟨by decide, by decide⟩ ?_
    subst hF
    rw [← Option.some.inj h]
    exact ⟨rfl, rfl, (by first | exact Or.inl rfl | exact Or.inr rfl | assumption)⟩
  unfold D_X8_readHunter at h
  refine a_aload_n X dX8_readHunter_0 rfl ?_
  refine a_geti X lf8_208 (by first | exact p_o | assumption) rfl dX8_readHunter_1 ?_
  refine a_bipush (v := 10) X dX8_readHunter_4 (by decide) ?_
  refine a_icmp_ne (tgt := 15) X dX8_readHunter_6 (by decide) (fun h_6 => ?_) (fun h_6 => ?_)
  · replace h := (if_neg h_6).symm.trans h
    refine a_aload_n X dX8_readHunter_15 rfl ?_
    obtain ⟨e_16, f_16, h⟩ := zBx h
    refine a_callVx X dX8_readHunter_16 miX8_next lm8_220 (t_X8_next (by first | exact hP | assumption) f_16) (by first | exact p_o | assumption) rfl rfl rfl (Nat.le_of_ble_eq_true rfl) ⟨by decide, by decide, by decide, by decide⟩ (fun r_16 S_16 q_16 => ?_)
    obtain ⟨rfl, rfl, b_16⟩ := q_16
    refine a_if_eq (tgt := 39) X dX8_readHunter_19 (by decide) (fun h_19 => ?_) (fun h_19 => ?_)
    · replace h := (if_pos h_19).symm.trans h
      exact Zw.to2 (J_39 _ _ h) rfl rfl rfl
    · replace h := (if_neg h_19).symm.trans h
      refine a_aload_n X dX8_readHunter_22 rfl ?_
      obtain ⟨e_23, f_23, h⟩ := zBx h
      refine a_callVx X dX8_readHunter_23 miX8_newName lm8_233 (t_X8_newName (by first | exact hP | assumption) f_23) (by first | exact p_o | assumption) rfl rfl rfl (Nat.le_of_ble_eq_true rfl) ⟨by decide, by decide, by decide, by decide⟩ (fun r_23 S_23 q_23 => ?_)
      obtain ⟨rfl, rfl, b_23⟩ := q_23
      refine a_if_eq (tgt := 39) X dX8_readHunter_26 (by decide) (fun h_26 => ?_) (fun h_26 => ?_)
      · replace h := (if_pos h_26).symm.trans h
        exact Zw.to2 (J_39 _ _ h) rfl rfl rfl
      · replace h := (if_neg h_26).symm.trans h
        refine a_aload_n X dX8_readHunter_29 rfl ?_
        refine a_iconst (v := 0) X dX8_readHunter_30 (by decide) ?_
        refine a_bipush (v := 20) X dX8_readHunter_31 (by decide) ?_
        obtain ⟨e_33, f_33, h⟩ := zBx h
        refine a_callVx X dX8_readHunter_33 miX8_number lm8_236 (t_X8_number (by first | exact hP | assumption) f_33) (by first | exact p_o | assumption) rfl rfl rfl (Nat.le_of_ble_eq_true rfl) ⟨by decide, by decide, by decide, by decide⟩ (fun r_33 S_33 q_33 => ?_)
        obtain ⟨rfl, rfl, b_33⟩ := q_33
        refine a_if_ne (tgt := 41) X dX8_readHunter_36 (by decide) (fun h_36 => ?_) (fun h_36 => ?_)
        · replace h := (if_neg h_36).symm.trans h
          refine a_aload_n X dX8_readHunter_41 rfl ?_
          refine a_getr X lf8_43 (by first | exact p_o | assumption) rfl (by omega) dX8_readHunter_42 ?_
          refine a_aload_n X dX8_readHunter_45 rfl ?_
          refine a_geti X lf8_208 (by first | exact p_o | assumption) rfl dX8_readHunter_46 ?_
          refine a_aload_n X dX8_readHunter_49 rfl ?_
          refine a_getl X lf8_230 (by first | exact p_o | assumption) rfl dX8_readHunter_50 ?_
          obtain ⟨g_53, h⟩ := zIx h
          obtain ⟨N_53, f_53, h⟩ := zLtx h
          refine d_lastore X (by first | exact p_hunterName | assumption) g_53 dX8_readHunter_53 f_53 ?_
          refine a_aload_n X dX8_readHunter_54 rfl ?_
          refine a_getr X lf8_13 (by first | exact p_o | assumption) rfl (by omega) dX8_readHunter_55 ?_
          refine a_iconst (v := 0) X dX8_readHunter_58 (by decide) ?_
          refine a_aload_n X dX8_readHunter_59 rfl ?_
          refine a_geti X lf8_208 (by first | exact p_o | assumption) rfl dX8_readHunter_60 ?_
          refine a_iadd X dX8_readHunter_63 ?_
          refine a_aload_n X dX8_readHunter_64 rfl ?_
          refine a_geti X lf8_217 (by first | exact p_o | assumption) rfl dX8_readHunter_65 ?_
          obtain ⟨g_68, h⟩ := zIx h
          obtain ⟨M_68, f_68, h⟩ := zLtx h
          refine d_iastore X (by first | exact p_read | assumption) g_68 dX8_readHunter_68 f_68 ?_
          refine a_aload_n X dX8_readHunter_69 rfl ?_
          refine a_getr X lf8_26 (by first | exact p_o | assumption) rfl (by omega) dX8_readHunter_70 ?_
          refine a_aload_n X dX8_readHunter_73 rfl ?_
          refine a_geti X lf8_208 (by first | exact p_o | assumption) rfl dX8_readHunter_74 ?_
          refine a_aload_n X dX8_readHunter_77 rfl ?_
          refine a_geti X lf8_160 (by first | exact p_o | assumption) rfl dX8_readHunter_78 ?_
          refine a_iconst (v := 2) X dX8_readHunter_81 (by decide) ?_
          refine a_icmp_ne (tgt := 97) X dX8_readHunter_82 (by decide) (fun h_82 => ?_) (fun h_82 => ?_)
          · replace h := (if_neg h_82).symm.trans h
            exact Zw.to2 (J_97 _ _ _ h) rfl rfl rfl
          · replace h := (if_pos h_82).symm.trans h
            refine a_aload_n X dX8_readHunter_85 rfl ?_
            refine a_geti X lf8_157 (by first | exact p_o | assumption) rfl dX8_readHunter_86 ?_
            refine a_iconst (v := 2) X dX8_readHunter_89 (by decide) ?_
            refine a_icmp_ne (tgt := 97) X dX8_readHunter_90 (by decide) (fun h_90 => ?_) (fun h_90 => ?_)
            · replace h := (if_neg h_90).symm.trans h
              exact Zw.to2 (J_97 _ _ _ h) rfl rfl rfl
            · replace h := (if_pos h_90).symm.trans h
              refine a_iconst (v := 1) X dX8_readHunter_93 (by decide) ?_
              refine a_goto (tgt := 98) X dX8_readHunter_94 (by decide) ?_
              exact Zw.to2 (J_98 _ _ _ _ (by first | exact Or.inl rfl | exact Or.inr rfl | assumption) h) rfl rfl rfl
        · replace h := (if_pos h_36).symm.trans h
          exact Zw.to2 (J_39 _ _ h) rfl rfl rfl
  · replace h := (if_pos h_6).symm.trans h
    refine a_aload_n X dX8_readHunter_9 rfl ?_
    refine a_iconst (v := 2) X dX8_readHunter_10 (by decide) ?_
    obtain ⟨e_11, f_11, h⟩ := zBx h
    refine a_callVx X dX8_readHunter_11 miX8_bad lm8_214 (t_X8_bad (by first | exact hP | assumption) f_11) (by first | exact p_o | assumption) rfl rfl rfl (Nat.le_of_ble_eq_true rfl) ⟨by decide, by decide, by decide, by decide⟩ (fun r_11 S_11 q_11 => ?_)
    obtain ⟨rfl, rfl, b_11⟩ := q_11
    refine a_zret X (by first | exact Or.inl rfl | exact Or.inr rfl | assumption) hr dX8_readHunter_14 ⟨by decide, by decide⟩ ?_
    subst hF
    rw [← Option.some.inj h]
    exact ⟨rfl, rfl, (by first | exact Or.inl rfl | exact Or.inr rfl | assumption)⟩
noncomputable def D_X8_readParty_193 (P : Nat) (k161 : Int64 → Int32 → Int32 → zMt → zNt → Option (Int32 × zMt × zNt)) (x1_193 : Int64) (x3_193 : Int32) (x5_193 : Int32) (M_193 : zMt) (N_193 : zNt) : Option (Int32 × zMt × zNt) :=
  k161 x1_193 x3_193 (x5_193 + 1) M_193 N_193
noncomputable def D_X8_readParty_161 (P : Nat) : Nat → Int64 → Int32 → Int32 → zMt → zNt → Option (Int32 × zMt × zNt)
  | 0, _, _, _, _, _ => none
  | n + 1, x1_161, x3_161, x5_161, M_161, N_161 =>
    if (M_161 P 29) ≤ x5_161 then
      zI (M_161 P 30) 4 <|
      zLt (zu N_161 (P + 10) (M_161 P 30).toNatClampNeg x1_161) fun N_208 =>
      zLt (zu M_161 P 30 ((M_161 P 30) + (1 : Int32))) fun M_216 =>
      some ((1 : Int32), M_216, N_208)
    else
      zB (D_X8_has x3_161 x5_161) fun e_173 =>
      if e_173 = 0 then
        D_X8_readParty_193 P (D_X8_readParty_161 P n) x1_161 x3_161 x5_161 M_161 N_161
      else
        zI ((10 : Int32) + x5_161) 82 <|
        zLt (zu M_161 (P + 2) ((10 : Int32) + x5_161).toNatClampNeg (M_161 P 30)) fun M_192 =>
        D_X8_readParty_193 P (D_X8_readParty_161 P n) x1_161 x3_161 x5_161 M_192 N_161
noncomputable def D_X8_readParty_134 (P : Nat) (M_134 : zMt) (N_134 : zNt) : Option (Int32 × zMt × zNt) :=
  zB (D_X8_bad P (4 : Int32) M_134) fun e_136 =>
  some (e_136.1, e_136.2, N_134)
noncomputable def D_X8_readParty_66 (P : Nat) (M_66 : zMt) (N_66 : zNt) : Option (Int32 × zMt × zNt) :=
  zB (D_X8_bad P (2 : Int32) M_66) fun e_68 =>
  some (e_68.1, e_68.2, N_66)
noncomputable def D_X8_readParty_53 (P : Nat) (k40 : Int64 → Int32 → Int32 → zMt → zNt → Option (Int32 × zMt × zNt)) (x1_53 : Int64) (x3_53 : Int32) (x4_53 : Int32) (M_53 : zMt) (N_53 : zNt) : Option (Int32 × zMt × zNt) :=
  zB (D_X8_isName P M_53) fun e_54 =>
  if e_54 = 0 then
    D_X8_readParty_66 P M_53 N_53
  else
    if x4_53 = (4 : Int32) then
      D_X8_readParty_66 P M_53 N_53
    else
      zB (D_X8_found (P + 9) 10 N_53 (M_53 P 29) (N_53 P 24)) fun e_84 =>
      if e_84 = (-1 : Int32) then
        D_X8_readParty_134 P M_53 N_53
      else
        zI ((10 : Int32) + e_84) 82 <|
        if (M_53 (P + 2) ((10 : Int32) + e_84).toNatClampNeg) = (-1 : Int32) then
          zI ((20 : Int32) + ((3 : Int32) * e_84)) 82 <|
          if (M_53 (P + 2) ((20 : Int32) + ((3 : Int32) * e_84)).toNatClampNeg) = (-1 : Int32) then
            zB (D_X8_has x3_53 e_84) fun e_128 =>
            if e_128 = 0 then
              zB (D_X8_next P M_53 N_53) fun e_151 =>
              k40 x1_53 (x3_53 ||| ((1 : Int32) <<< (e_84 &&& 31))) (x4_53 + 1) e_151.2.1 e_151.2.2
            else
              D_X8_readParty_134 P M_53 N_53
          else
            D_X8_readParty_134 P M_53 N_53
        else
          D_X8_readParty_134 P M_53 N_53
noncomputable def D_X8_readParty_40 (P : Nat) : Nat → Int64 → Int32 → Int32 → zMt → zNt → Option (Int32 × zMt × zNt)
  | 0, _, _, _, _, _ => none
  | n + 1, x1_40, x3_40, x4_40, M_40, N_40 =>
    if x4_40 < (2 : Int32) then
      D_X8_readParty_53 P (D_X8_readParty_40 P n) x1_40 x3_40 x4_40 M_40 N_40
    else
      zB (D_X8_isName P M_40) fun e_47 =>
      if e_47 = 0 then
        D_X8_readParty_161 P zFu x1_40 x3_40 (0 : Int32) M_40 N_40
      else
        D_X8_readParty_53 P (D_X8_readParty_40 P n) x1_40 x3_40 x4_40 M_40 N_40
noncomputable def D_X8_readParty_28 (P : Nat) (M_28 : zMt) (N_28 : zNt) : Option (Int32 × zMt × zNt) :=
  some ((0 : Int32), M_28, N_28)
noncomputable def D_X8_readParty (P : Nat) (M : zMt) (N : zNt) : Option (Int32 × zMt × zNt) :=
  if (M P 30) = (4 : Int32) then
    zB (D_X8_bad P (2 : Int32) M) fun e_10 =>
    some (e_10.1, e_10.2, N)
  else
    zB (D_X8_next P M N) fun e_15 =>
    if e_15.1 = 0 then
      D_X8_readParty_28 P e_15.2.1 e_15.2.2
    else
      zB (D_X8_newName P e_15.2.1 e_15.2.2) fun e_22 =>
      if e_22.1 = 0 then
        D_X8_readParty_28 P e_22.2.1 e_22.2.2
      else
        D_X8_readParty_40 P zFu (e_22.2.2 P 32) (0 : Int32) (0 : Int32) e_22.2.1 e_22.2.2
set_option maxRecDepth 100000 in
set_option maxHeartbeats 4000000 in
theorem t_X8_readParty {l : Launch} {G : zG} {b : Nat} {L : List zC} {M : zMt} {N : zNt} {P : Nat}  (hP : LX8 L P) {r : Int32 × zMt × zNt} (h : D_X8_readParty P M N = some r) : zM l G b yX8_readParty cX8_readParty 6 (some .boolean) 7 0 0 [.ref P] (L, M, N) (fun r2 z => r2 = some (.int r.1) ∧ z = (L, r.2.1, r.2.2) ∧ (r.1 = 0 ∨ r.1 = 1)) := by
  refine zM.of miX8_readParty (Nat.le_of_ble_eq_true rfl) ?_
  intro p e s m args below meth c X hr hname
  generalize hF : ((fun r2 z => r2 = some (.int r.1) ∧ z = (L, r.2.1, r.2.2) ∧ (r.1 = 0 ∨ r.1 = 1)) : Option Value → zS → Prop) = FQ
  change Zw p l e { frames := 7, cells := 0, slots := 0, locals := 80 * (7) } s m args below meth c G b 6 (MQ below (zQ G b FQ) args s 0 0 (fun q : Nat => b ≤ q)) 0 0 0 [some (.ref P), none, none, none, none, none] [] (L, M, N)
  have p_lt := hP.1
  have p_o := hP.2.1
  have p_read := hP.2.2.2.1
  have p_hunterName := hP.2.2.2.2.2.2.2.2.2.2.1
  have p_partyName := hP.2.2.2.2.2.2.2.2.2.2.2.1
  have L_161 : ∀ u : Nat, ∀ (x1_161 : Int64) (x3_161 : Int32) (x4_161 : Int32) (x5_161 : Int32) (M_161 : zMt) (N_161 : zNt), D_X8_readParty_161 P u x1_161 x3_161 x5_161 M_161 N_161 = some r → Zw p l e { frames := 7, cells := 0, slots := 0, locals := 80 * (7) } s m args below meth c G b 6 (MQ below (zQ G b FQ) args s 0 0 (fun q : Nat => b ≤ q)) 0 0 161 [some (.ref (P)), some (.long x1_161), none, some (.int x3_161), some (.int x4_161), some (.int x5_161)] [] (L, M_161, N_161) := by
    intro u
    induction u with
    | zero => intro x1_161 x3_161 x4_161 x5_161 M_161 N_161 h; cases (show none = some r from h)
    | succ u_161 ih_161 =>
      have J_193 : ∀ (x1_193 : Int64) (x3_193 : Int32) (x4_193 : Int32) (x5_193 : Int32) (M_193 : zMt) (N_193 : zNt), D_X8_readParty_193 P (D_X8_readParty_161 P u_161) x1_193 x3_193 x5_193 M_193 N_193 = some r → Zw p l e { frames := 7, cells := 0, slots := 0, locals := 80 * (7) } s m args below meth c G b 6 (MQ below (zQ G b FQ) args s 0 0 (fun q : Nat => b ≤ q)) 0 0 193 [some (.ref (P)), some (.long x1_193), none, some (.int x3_193), some (.int x4_193), some (.int x5_193)] [] (L, M_193, N_193) := by
        intro x1_193 x3_193 x4_193 x5_193 M_193 N_193 h
        unfold D_X8_readParty_193 at h
        refine a_iinc (v := x5_193 + 1) X dX8_readParty_193 (by decide) rfl zi_1 ?_
        refine a_goto (tgt := 161) X dX8_readParty_196 (by decide) ?_
        exact Zw.to2 (ih_161 _ _ _ _ _ _ h) rfl rfl rfl
      intro x1_161 x3_161 x4_161 x5_161 M_161 N_161 h
      rw [D_X8_readParty_161] at h
      refine a_iload X dX8_readParty_161 rfl ?_
      refine a_aload_n X dX8_readParty_163 rfl ?_
      refine a_geti X lf8_208 (by first | exact p_o | assumption) rfl dX8_readParty_164 ?_
      refine a_icmp_ge (tgt := 199) X dX8_readParty_167 (by decide) (fun h_167 => ?_) (fun h_167 => ?_)
      · replace h := (if_pos h_167).symm.trans h
        refine a_aload_n X dX8_readParty_199 rfl ?_
        refine a_getr X lf8_46 (by first | exact p_o | assumption) rfl (by omega) dX8_readParty_200 ?_
        refine a_aload_n X dX8_readParty_203 rfl ?_
        refine a_geti X lf8_211 (by first | exact p_o | assumption) rfl dX8_readParty_204 ?_
        refine a_lload_n X dX8_readParty_207 rfl ?_
        obtain ⟨g_208, h⟩ := zIx h
        obtain ⟨N_208, f_208, h⟩ := zLtx h
        refine d_lastore X (by first | exact p_partyName | assumption) g_208 dX8_readParty_208 f_208 ?_
        refine a_aload_n X dX8_readParty_209 rfl ?_
        refine a_dup X dX8_readParty_210 rfl ?_
        refine a_geti X lf8_211 (by first | exact p_o | assumption) rfl dX8_readParty_211 ?_
        refine a_iconst (v := 1) X dX8_readParty_214 (by decide) ?_
        refine a_iadd X dX8_readParty_215 ?_
        obtain ⟨M_216, f_216, h⟩ := zLtx h
        refine d_puti X lf8_211 (by first | exact p_o | assumption) rfl dX8_readParty_216 f_216 ?_
        refine a_iconst (v := 1) X dX8_readParty_219 (by decide) ?_
        refine a_zret X (by first | exact Or.inl rfl | exact Or.inr rfl | assumption) hr dX8_readParty_220 ⟨by decide, by decide⟩ ?_
        subst hF
        rw [← Option.some.inj h]
        exact ⟨rfl, rfl, (by first | exact Or.inl rfl | exact Or.inr rfl | assumption)⟩
      · replace h := (if_neg h_167).symm.trans h
        refine a_iload_n X dX8_readParty_170 rfl ?_
        refine a_iload X dX8_readParty_171 rfl ?_
        obtain ⟨e_173, f_173, h⟩ := zBx h
        refine a_callSx X dX8_readParty_173 miX8_has lm8_240 (t_X8_has f_173) rfl rfl (Nat.le_of_ble_eq_true rfl) ⟨by decide, by decide, by decide, by decide⟩ (fun r_173 S_173 q_173 => ?_)
        obtain ⟨rfl, rfl, b_173⟩ := q_173
        refine a_if_eq (tgt := 193) X dX8_readParty_176 (by decide) (fun h_176 => ?_) (fun h_176 => ?_)
        · replace h := (if_pos h_176).symm.trans h
          exact Zw.to2 (J_193 _ _ _ _ _ _ h) rfl rfl rfl
        · replace h := (if_neg h_176).symm.trans h
          refine a_aload_n X dX8_readParty_179 rfl ?_
          refine a_getr X lf8_13 (by first | exact p_o | assumption) rfl (by omega) dX8_readParty_180 ?_
          refine a_bipush (v := 10) X dX8_readParty_183 (by decide) ?_
          refine a_iload X dX8_readParty_185 rfl ?_
          refine a_iadd X dX8_readParty_187 ?_
          refine a_aload_n X dX8_readParty_188 rfl ?_
          refine a_geti X lf8_211 (by first | exact p_o | assumption) rfl dX8_readParty_189 ?_
          obtain ⟨g_192, h⟩ := zIx h
          obtain ⟨M_192, f_192, h⟩ := zLtx h
          refine d_iastore X (by first | exact p_read | assumption) g_192 dX8_readParty_192 f_192 ?_
          exact Zw.to2 (J_193 _ _ _ _ _ _ h) rfl rfl rfl
  have H_161 : ∀ (x1_161 : Int64) (x3_161 : Int32) (x4_161 : Int32) (x5_161 : Int32) (M_161 : zMt) (N_161 : zNt), D_X8_readParty_161 P zFu x1_161 x3_161 x5_161 M_161 N_161 = some r → Zw p l e { frames := 7, cells := 0, slots := 0, locals := 80 * (7) } s m args below meth c G b 6 (MQ below (zQ G b FQ) args s 0 0 (fun q : Nat => b ≤ q)) 0 0 161 [some (.ref (P)), some (.long x1_161), none, some (.int x3_161), some (.int x4_161), some (.int x5_161)] [] (L, M_161, N_161) := L_161 zFu
  have J_134 : ∀ (x1_134 : Int64) (x3_134 : Int32) (x4_134 : Int32) (x5_134 : Int32) (M_134 : zMt) (N_134 : zNt), D_X8_readParty_134 P M_134 N_134 = some r → Zw p l e { frames := 7, cells := 0, slots := 0, locals := 80 * (7) } s m args below meth c G b 6 (MQ below (zQ G b FQ) args s 0 0 (fun q : Nat => b ≤ q)) 0 0 134 [some (.ref (P)), some (.long x1_134), none, some (.int x3_134), some (.int x4_134), some (.int x5_134)] [] (L, M_134, N_134) := by
    intro x1_134 x3_134 x4_134 x5_134 M_134 N_134 h
    unfold D_X8_readParty_134 at h
    refine a_aload_n X dX8_readParty_134 rfl ?_
    refine a_iconst (v := 4) X dX8_readParty_135 (by decide) ?_
    obtain ⟨e_136, f_136, h⟩ := zBx h
    refine a_callVx X dX8_readParty_136 miX8_bad lm8_214 (t_X8_bad (by first | exact hP | assumption) f_136) (by first | exact p_o | assumption) rfl rfl rfl (Nat.le_of_ble_eq_true rfl) ⟨by decide, by decide, by decide, by decide⟩ (fun r_136 S_136 q_136 => ?_)
    obtain ⟨rfl, rfl, b_136⟩ := q_136
    refine a_zret X (by first | exact Or.inl rfl | exact Or.inr rfl | assumption) hr dX8_readParty_139 ⟨by decide, by decide⟩ ?_
    subst hF
    rw [← Option.some.inj h]
    exact ⟨rfl, rfl, (by first | exact Or.inl rfl | exact Or.inr rfl | assumption)⟩
  have J_66 : ∀ (x1_66 : Int64) (x3_66 : Int32) (x4_66 : Int32) (x5_66 : Option Value) (M_66 : zMt) (N_66 : zNt), D_X8_readParty_66 P M_66 N_66 = some r → Zw p l e { frames := 7, cells := 0, slots := 0, locals := 80 * (7) } s m args below meth c G b 6 (MQ below (zQ G b FQ) args s 0 0 (fun q : Nat => b ≤ q)) 0 0 66 [some (.ref (P)), some (.long x1_66), none, some (.int x3_66), some (.int x4_66), x5_66] [] (L, M_66, N_66) := by
    intro x1_66 x3_66 x4_66 x5_66 M_66 N_66 h
    unfold D_X8_readParty_66 at h
    refine a_aload_n X dX8_readParty_66 rfl ?_
    refine a_iconst (v := 2) X dX8_readParty_67 (by decide) ?_
    obtain ⟨e_68, f_68, h⟩ := zBx h
    refine a_callVx X dX8_readParty_68 miX8_bad lm8_214 (t_X8_bad (by first | exact hP | assumption) f_68) (by first | exact p_o | assumption) rfl rfl rfl (Nat.le_of_ble_eq_true rfl) ⟨by decide, by decide, by decide, by decide⟩ (fun r_68 S_68 q_68 => ?_)
    obtain ⟨rfl, rfl, b_68⟩ := q_68
    refine a_zret X (by first | exact Or.inl rfl | exact Or.inr rfl | assumption) hr dX8_readParty_71 ⟨by decide, by decide⟩ ?_
    subst hF
    rw [← Option.some.inj h]
    exact ⟨rfl, rfl, (by first | exact Or.inl rfl | exact Or.inr rfl | assumption)⟩
  have L_40 : ∀ u : Nat, ∀ (x1_40 : Int64) (x3_40 : Int32) (x4_40 : Int32) (x5_40 : Option Value) (M_40 : zMt) (N_40 : zNt), D_X8_readParty_40 P u x1_40 x3_40 x4_40 M_40 N_40 = some r → Zw p l e { frames := 7, cells := 0, slots := 0, locals := 80 * (7) } s m args below meth c G b 6 (MQ below (zQ G b FQ) args s 0 0 (fun q : Nat => b ≤ q)) 0 0 40 [some (.ref (P)), some (.long x1_40), none, some (.int x3_40), some (.int x4_40), x5_40] [] (L, M_40, N_40) := by
    intro u
    induction u with
    | zero => intro x1_40 x3_40 x4_40 x5_40 M_40 N_40 h; cases (show none = some r from h)
    | succ u_40 ih_40 =>
      have J_53 : ∀ (x1_53 : Int64) (x3_53 : Int32) (x4_53 : Int32) (x5_53 : Option Value) (M_53 : zMt) (N_53 : zNt), D_X8_readParty_53 P (D_X8_readParty_40 P u_40) x1_53 x3_53 x4_53 M_53 N_53 = some r → Zw p l e { frames := 7, cells := 0, slots := 0, locals := 80 * (7) } s m args below meth c G b 6 (MQ below (zQ G b FQ) args s 0 0 (fun q : Nat => b ≤ q)) 0 0 53 [some (.ref (P)), some (.long x1_53), none, some (.int x3_53), some (.int x4_53), x5_53] [] (L, M_53, N_53) := by
        intro x1_53 x3_53 x4_53 x5_53 M_53 N_53 h
        unfold D_X8_readParty_53 at h
        refine a_aload_n X dX8_readParty_53 rfl ?_
        obtain ⟨e_54, f_54, h⟩ := zBx h
        refine a_callVx X dX8_readParty_54 miX8_isName lm8_224 (t_X8_isName (by first | exact hP | assumption) f_54) (by first | exact p_o | assumption) rfl rfl rfl (Nat.le_of_ble_eq_true rfl) ⟨by decide, by decide, by decide, by decide⟩ (fun r_54 S_54 q_54 => ?_)
        obtain ⟨rfl, rfl, b_54⟩ := q_54
        refine a_if_eq (tgt := 66) X dX8_readParty_57 (by decide) (fun h_57 => ?_) (fun h_57 => ?_)
        · replace h := (if_pos h_57).symm.trans h
          exact Zw.to2 (J_66 _ _ _ _ _ _ h) rfl rfl rfl
        · replace h := (if_neg h_57).symm.trans h
          refine a_iload X dX8_readParty_60 rfl ?_
          refine a_iconst (v := 4) X dX8_readParty_62 (by decide) ?_
          refine a_icmp_ne (tgt := 72) X dX8_readParty_63 (by decide) (fun h_63 => ?_) (fun h_63 => ?_)
          · replace h := (if_neg h_63).symm.trans h
            refine a_aload_n X dX8_readParty_72 rfl ?_
            refine a_getr X lf8_43 (by first | exact p_o | assumption) rfl (by omega) dX8_readParty_73 ?_
            refine a_aload_n X dX8_readParty_76 rfl ?_
            refine a_geti X lf8_208 (by first | exact p_o | assumption) rfl dX8_readParty_77 ?_
            refine a_aload_n X dX8_readParty_80 rfl ?_
            refine a_getl X lf8_167 (by first | exact p_o | assumption) rfl dX8_readParty_81 ?_
            obtain ⟨e_84, f_84, h⟩ := zBx h
            refine a_callSv X dX8_readParty_84 miX8_found lm8_204 (t_X8_found (by first | exact p_hunterName | assumption) (by decide) f_84) rfl rfl (Nat.le_of_ble_eq_true rfl) ⟨by decide, by decide, by decide, by decide⟩ ?_
            refine a_istore X dX8_readParty_87 (by decide) ?_
            refine a_iload X dX8_readParty_89 rfl ?_
            refine a_iconst (v := -1) X dX8_readParty_91 (by decide) ?_
            refine a_icmp_eq (tgt := 134) X dX8_readParty_92 (by decide) (fun h_92 => ?_) (fun h_92 => ?_)
            · replace h := (if_pos h_92).symm.trans h
              exact Zw.to2 (J_134 _ _ _ _ _ _ h) rfl rfl rfl
            · replace h := (if_neg h_92).symm.trans h
              refine a_aload_n X dX8_readParty_95 rfl ?_
              refine a_getr X lf8_13 (by first | exact p_o | assumption) rfl (by omega) dX8_readParty_96 ?_
              refine a_bipush (v := 10) X dX8_readParty_99 (by decide) ?_
              refine a_iload X dX8_readParty_101 rfl ?_
              refine a_iadd X dX8_readParty_103 ?_
              obtain ⟨g_104, h⟩ := zIx h
              refine a_iaload X (by first | exact p_read | assumption) g_104 dX8_readParty_104 ?_
              refine a_iconst (v := -1) X dX8_readParty_105 (by decide) ?_
              refine a_icmp_ne (tgt := 134) X dX8_readParty_106 (by decide) (fun h_106 => ?_) (fun h_106 => ?_)
              · replace h := (if_neg h_106).symm.trans h
                exact Zw.to2 (J_134 _ _ _ _ _ _ h) rfl rfl rfl
              · replace h := (if_pos h_106).symm.trans h
                refine a_aload_n X dX8_readParty_109 rfl ?_
                refine a_getr X lf8_13 (by first | exact p_o | assumption) rfl (by omega) dX8_readParty_110 ?_
                refine a_bipush (v := 20) X dX8_readParty_113 (by decide) ?_
                refine a_iconst (v := 3) X dX8_readParty_115 (by decide) ?_
                refine a_iload X dX8_readParty_116 rfl ?_
                refine a_imul X dX8_readParty_118 ?_
                refine a_iadd X dX8_readParty_119 ?_
                obtain ⟨g_120, h⟩ := zIx h
                refine a_iaload X (by first | exact p_read | assumption) g_120 dX8_readParty_120 ?_
                refine a_iconst (v := -1) X dX8_readParty_121 (by decide) ?_
                refine a_icmp_ne (tgt := 134) X dX8_readParty_122 (by decide) (fun h_122 => ?_) (fun h_122 => ?_)
                · replace h := (if_neg h_122).symm.trans h
                  exact Zw.to2 (J_134 _ _ _ _ _ _ h) rfl rfl rfl
                · replace h := (if_pos h_122).symm.trans h
                  refine a_iload_n X dX8_readParty_125 rfl ?_
                  refine a_iload X dX8_readParty_126 rfl ?_
                  obtain ⟨e_128, f_128, h⟩ := zBx h
                  refine a_callSx X dX8_readParty_128 miX8_has lm8_240 (t_X8_has f_128) rfl rfl (Nat.le_of_ble_eq_true rfl) ⟨by decide, by decide, by decide, by decide⟩ (fun r_128 S_128 q_128 => ?_)
                  obtain ⟨rfl, rfl, b_128⟩ := q_128
                  refine a_if_eq (tgt := 140) X dX8_readParty_131 (by decide) (fun h_131 => ?_) (fun h_131 => ?_)
                  · replace h := (if_pos h_131).symm.trans h
                    refine a_iload_n X dX8_readParty_140 rfl ?_
                    refine a_iconst (v := 1) X dX8_readParty_141 (by decide) ?_
                    refine a_iload X dX8_readParty_142 rfl ?_
                    refine a_ishl X dX8_readParty_144 ?_
                    refine a_ior X dX8_readParty_145 ?_
                    refine a_istore_n X dX8_readParty_146 (by decide) ?_
                    refine a_iinc (v := x4_53 + 1) X dX8_readParty_147 (by decide) rfl zi_1 ?_
                    refine a_aload_n X dX8_readParty_150 rfl ?_
                    obtain ⟨e_151, f_151, h⟩ := zBx h
                    refine a_callVx X dX8_readParty_151 miX8_next lm8_220 (t_X8_next (by first | exact hP | assumption) f_151) (by first | exact p_o | assumption) rfl rfl rfl (Nat.le_of_ble_eq_true rfl) ⟨by decide, by decide, by decide, by decide⟩ (fun r_151 S_151 q_151 => ?_)
                    obtain ⟨rfl, rfl, b_151⟩ := q_151
                    refine a_pop X dX8_readParty_154 rfl ?_
                    refine a_goto (tgt := 40) X dX8_readParty_155 (by decide) ?_
                    exact Zw.to2 (ih_40 _ _ _ _ _ _ h) rfl rfl rfl
                  · replace h := (if_neg h_131).symm.trans h
                    exact Zw.to2 (J_134 _ _ _ _ _ _ h) rfl rfl rfl
          · replace h := (if_pos h_63).symm.trans h
            exact Zw.to2 (J_66 _ _ _ _ _ _ h) rfl rfl rfl
      intro x1_40 x3_40 x4_40 x5_40 M_40 N_40 h
      rw [D_X8_readParty_40] at h
      refine a_iload X dX8_readParty_40 rfl ?_
      refine a_iconst (v := 2) X dX8_readParty_42 (by decide) ?_
      refine a_icmp_lt (tgt := 53) X dX8_readParty_43 (by decide) (fun h_43 => ?_) (fun h_43 => ?_)
      · replace h := (if_pos h_43).symm.trans h
        exact Zw.to2 (J_53 _ _ _ _ _ _ h) rfl rfl rfl
      · replace h := (if_neg h_43).symm.trans h
        refine a_aload_n X dX8_readParty_46 rfl ?_
        obtain ⟨e_47, f_47, h⟩ := zBx h
        refine a_callVx X dX8_readParty_47 miX8_isName lm8_224 (t_X8_isName (by first | exact hP | assumption) f_47) (by first | exact p_o | assumption) rfl rfl rfl (Nat.le_of_ble_eq_true rfl) ⟨by decide, by decide, by decide, by decide⟩ (fun r_47 S_47 q_47 => ?_)
        obtain ⟨rfl, rfl, b_47⟩ := q_47
        refine a_if_eq (tgt := 158) X dX8_readParty_50 (by decide) (fun h_50 => ?_) (fun h_50 => ?_)
        · replace h := (if_pos h_50).symm.trans h
          refine a_iconst (v := 0) X dX8_readParty_158 (by decide) ?_
          refine a_istore X dX8_readParty_159 (by decide) ?_
          exact Zw.to2 (H_161 _ _ _ _ _ _ h) rfl rfl rfl
        · replace h := (if_neg h_50).symm.trans h
          exact Zw.to2 (J_53 _ _ _ _ _ _ h) rfl rfl rfl
  have H_40 : ∀ (x1_40 : Int64) (x3_40 : Int32) (x4_40 : Int32) (x5_40 : Option Value) (M_40 : zMt) (N_40 : zNt), D_X8_readParty_40 P zFu x1_40 x3_40 x4_40 M_40 N_40 = some r → Zw p l e { frames := 7, cells := 0, slots := 0, locals := 80 * (7) } s m args below meth c G b 6 (MQ below (zQ G b FQ) args s 0 0 (fun q : Nat => b ≤ q)) 0 0 40 [some (.ref (P)), some (.long x1_40), none, some (.int x3_40), some (.int x4_40), x5_40] [] (L, M_40, N_40) := L_40 zFu
  have J_28 : ∀ (x1_28 : Option Value) (x2_28 : Option Value) (x3_28 : Option Value) (x4_28 : Option Value) (x5_28 : Option Value) (M_28 : zMt) (N_28 : zNt), D_X8_readParty_28 P M_28 N_28 = some r → Zw p l e { frames := 7, cells := 0, slots := 0, locals := 80 * (7) } s m args below meth c G b 6 (MQ below (zQ G b FQ) args s 0 0 (fun q : Nat => b ≤ q)) 0 0 28 [some (.ref (P)), x1_28, x2_28, x3_28, x4_28, x5_28] [] (L, M_28, N_28) := by
    intro x1_28 x2_28 x3_28 x4_28 x5_28 M_28 N_28 h
    unfold D_X8_readParty_28 at h
    refine a_iconst (v := 0) X dX8_readParty_28 (by decide) ?_
    refine a_zret X (by first | exact Or.inl rfl | exact Or.inr rfl | assumption) hr dX8_readParty_29 ⟨by decide, by decide⟩ ?_
    subst hF
    rw [← Option.some.inj h]
    exact ⟨rfl, rfl, (by first | exact Or.inl rfl | exact Or.inr rfl | assumption)⟩
  unfold D_X8_readParty at h
  refine a_aload_n X dX8_readParty_0 rfl ?_
  refine a_geti X lf8_211 (by first | exact p_o | assumption) rfl dX8_readParty_1 ?_
  refine a_iconst (v := 4) X dX8_readParty_4 (by decide) ?_
  refine a_icmp_ne (tgt := 14) X dX8_readParty_5 (by decide) (fun h_5 => ?_) (fun h_5 => ?_)
  · replace h := (if_neg h_5).symm.trans h
    refine a_aload_n X dX8_readParty_14 rfl ?_
    obtain ⟨e_15, f_15, h⟩ := zBx h
    refine a_callVx X dX8_readParty_15 miX8_next lm8_220 (t_X8_next (by first | exact hP | assumption) f_15) (by first | exact p_o | assumption) rfl rfl rfl (Nat.le_of_ble_eq_true rfl) ⟨by decide, by decide, by decide, by decide⟩ (fun r_15 S_15 q_15 => ?_)
    obtain ⟨rfl, rfl, b_15⟩ := q_15
    refine a_if_eq (tgt := 28) X dX8_readParty_18 (by decide) (fun h_18 => ?_) (fun h_18 => ?_)
    · replace h := (if_pos h_18).symm.trans h
      exact Zw.to2 (J_28 _ _ _ _ _ _ _ h) rfl rfl rfl
    · replace h := (if_neg h_18).symm.trans h
      refine a_aload_n X dX8_readParty_21 rfl ?_
      obtain ⟨e_22, f_22, h⟩ := zBx h
      refine a_callVx X dX8_readParty_22 miX8_newName lm8_233 (t_X8_newName (by first | exact hP | assumption) f_22) (by first | exact p_o | assumption) rfl rfl rfl (Nat.le_of_ble_eq_true rfl) ⟨by decide, by decide, by decide, by decide⟩ (fun r_22 S_22 q_22 => ?_)
      obtain ⟨rfl, rfl, b_22⟩ := q_22
      refine a_if_ne (tgt := 30) X dX8_readParty_25 (by decide) (fun h_25 => ?_) (fun h_25 => ?_)
      · replace h := (if_neg h_25).symm.trans h
        refine a_aload_n X dX8_readParty_30 rfl ?_
        refine a_getl X lf8_230 (by first | exact p_o | assumption) rfl dX8_readParty_31 ?_
        refine a_lstore_n X dX8_readParty_34 (by decide) ?_
        refine a_iconst (v := 0) X dX8_readParty_35 (by decide) ?_
        refine a_istore_n X dX8_readParty_36 (by decide) ?_
        refine a_iconst (v := 0) X dX8_readParty_37 (by decide) ?_
        refine a_istore X dX8_readParty_38 (by decide) ?_
        exact Zw.to2 (H_40 _ _ _ _ _ _ h) rfl rfl rfl
      · replace h := (if_pos h_25).symm.trans h
        exact Zw.to2 (J_28 _ _ _ _ _ _ _ h) rfl rfl rfl
  · replace h := (if_pos h_5).symm.trans h
    refine a_aload_n X dX8_readParty_8 rfl ?_
    refine a_iconst (v := 2) X dX8_readParty_9 (by decide) ?_
    obtain ⟨e_10, f_10, h⟩ := zBx h
    refine a_callVx X dX8_readParty_10 miX8_bad lm8_214 (t_X8_bad (by first | exact hP | assumption) f_10) (by first | exact p_o | assumption) rfl rfl rfl (Nat.le_of_ble_eq_true rfl) ⟨by decide, by decide, by decide, by decide⟩ (fun r_10 S_10 q_10 => ?_)
    obtain ⟨rfl, rfl, b_10⟩ := q_10
    refine a_zret X (by first | exact Or.inl rfl | exact Or.inr rfl | assumption) hr dX8_readParty_13 ⟨by decide, by decide⟩ ?_
    subst hF
    rw [← Option.some.inj h]
    exact ⟨rfl, rfl, (by first | exact Or.inl rfl | exact Or.inr rfl | assumption)⟩
noncomputable def D_X8_readAsks_149 (P : Nat) (M_149 : zMt) (N_149 : zNt) : Option (Int32 × zMt × zNt) :=
  zB (D_X8_bad P (2 : Int32) M_149) fun e_151 =>
  some (e_151.1, e_151.2, N_149)
noncomputable def D_X8_readAsks_187 (P : Nat) (k124 : Int32 → Int32 → zMt → zNt → Option (Int32 × zMt × zNt)) : Nat → Int32 → Int32 → Int32 → Int32 → zMt → zNt → Option (Int32 × zMt × zNt)
  | 0, _, _, _, _, _, _ => none
  | n + 1, x3_187, x4_187, x5_187, x6_187, M_187, N_187 =>
    if x4_187 ≤ x6_187 then
      zI (x3_187 + x4_187) 82 <|
      zLt (zu M_187 (P + 2) (x3_187 + x4_187).toNatClampNeg x5_187) fun M_230 =>
      zB (D_X8_next P M_230 N_187) fun e_235 =>
      k124 x3_187 (x4_187 + 1) e_235.2.1 e_235.2.2
    else
      zI (x3_187 + x6_187) 82 <|
      if (M_187 (P + 2) (x3_187 + x6_187).toNatClampNeg) = x5_187 then
        zB (D_X8_bad P (4 : Int32) M_187) fun e_210 =>
        some (e_210.1, e_210.2, N_187)
      else
        (D_X8_readAsks_187 P k124 n) x3_187 x4_187 x5_187 (x6_187 + 1) M_187 N_187
noncomputable def D_X8_readAsks_136 (P : Nat) (k124 : Int32 → Int32 → zMt → zNt → Option (Int32 × zMt × zNt)) (x3_136 : Int32) (x4_136 : Int32) (M_136 : zMt) (N_136 : zNt) : Option (Int32 × zMt × zNt) :=
  zB (D_X8_isName P M_136) fun e_137 =>
  if e_137 = 0 then
    D_X8_readAsks_149 P M_136 N_136
  else
    if x4_136 = (3 : Int32) then
      D_X8_readAsks_149 P M_136 N_136
    else
      zB (D_X8_found (P + 8) 5 N_136 (M_136 P 28) (N_136 P 24)) fun e_167 =>
      if e_167 = (-1 : Int32) then
        zB (D_X8_bad P (4 : Int32) M_136) fun e_180 =>
        some (e_180.1, e_180.2, N_136)
      else
        D_X8_readAsks_187 P k124 zFu x3_136 x4_136 e_167 (0 : Int32) M_136 N_136
noncomputable def D_X8_readAsks_124 (P : Nat) : Nat → Int32 → Int32 → zMt → zNt → Option (Int32 × zMt × zNt)
  | 0, _, _, _, _ => none
  | n + 1, x3_124, x4_124, M_124, N_124 =>
    if x4_124 = 0 then
      D_X8_readAsks_136 P (D_X8_readAsks_124 P n) x3_124 x4_124 M_124 N_124
    else
      zB (D_X8_isName P M_124) fun e_130 =>
      if e_130 = 0 then
        some ((1 : Int32), M_124, N_124)
      else
        D_X8_readAsks_136 P (D_X8_readAsks_124 P n) x3_124 x4_124 M_124 N_124
noncomputable def D_X8_readAsks_99 (P : Nat) (y0_99 : Int32) (M_99 : zMt) (N_99 : zNt) : Option (Int32 × zMt × zNt) :=
  zI y0_99 82 <|
  if (M_99 (P + 2) y0_99.toNatClampNeg) = (-1 : Int32) then
    zB (D_X8_next P M_99 N_99) fun e_117 =>
    D_X8_readAsks_124 P zFu y0_99 (0 : Int32) e_117.2.1 e_117.2.2
  else
    zB (D_X8_bad P (4 : Int32) M_99) fun e_112 =>
    some (e_112.1, e_112.2, N_99)
noncomputable def D_X8_readAsks_79 (P : Nat) (x1_79 : Int32) (x2_79 : Int32) (M_79 : zMt) (N_79 : zNt) : Option (Int32 × zMt × zNt) :=
  if x2_79 = (-1 : Int32) then
    D_X8_readAsks_99 P ((20 : Int32) + ((3 : Int32) * x1_79)) M_79 N_79
  else
    D_X8_readAsks_99 P ((50 : Int32) + ((3 : Int32) * x2_79)) M_79 N_79
noncomputable def D_X8_readAsks_73 (P : Nat) (M_73 : zMt) (N_73 : zNt) : Option (Int32 × zMt × zNt) :=
  zB (D_X8_bad P (4 : Int32) M_73) fun e_75 =>
  some (e_75.1, e_75.2, N_73)
noncomputable def D_X8_readAsks (P : Nat) (M : zMt) (N : zNt) : Option (Int32 × zMt × zNt) :=
  zB (D_X8_next P M N) fun e_1 =>
  zB (D_X8_isName P e_1.2.1) fun e_6 =>
  if e_6 = 0 then
    zB (D_X8_bad P (2 : Int32) e_1.2.1) fun e_14 =>
    some (e_14.1, e_14.2, e_1.2.2)
  else
    zB (D_X8_found (P + 9) 10 e_1.2.2 (e_1.2.1 P 29) (e_1.2.2 P 24)) fun e_30 =>
    zB (D_X8_found (P + 10) 4 e_1.2.2 (e_1.2.1 P 30) (e_1.2.2 P 24)) fun e_46 =>
    if e_46 = (-1 : Int32) then
      if e_30 = (-1 : Int32) then
        D_X8_readAsks_73 P e_1.2.1 e_1.2.2
      else
        zI ((10 : Int32) + e_30) 82 <|
        if (e_1.2.1 (P + 2) ((10 : Int32) + e_30).toNatClampNeg) = (-1 : Int32) then
          D_X8_readAsks_79 P e_30 e_46 e_1.2.1 e_1.2.2
        else
          D_X8_readAsks_73 P e_1.2.1 e_1.2.2
    else
      D_X8_readAsks_79 P e_30 e_46 e_1.2.1 e_1.2.2
set_option maxRecDepth 100000 in
set_option maxHeartbeats 4000000 in
theorem t_X8_readAsks {l : Launch} {G : zG} {b : Nat} {L : List zC} {M : zMt} {N : zNt} {P : Nat}  (hP : LX8 L P) {r : Int32 × zMt × zNt} (h : D_X8_readAsks P M N = some r) : zM l G b yX8_readAsks cX8_readAsks 7 (some .boolean) 6 0 0 [.ref P] (L, M, N) (fun r2 z => r2 = some (.int r.1) ∧ z = (L, r.2.1, r.2.2) ∧ (r.1 = 0 ∨ r.1 = 1)) := by
  refine zM.of miX8_readAsks (Nat.le_of_ble_eq_true rfl) ?_
  intro p e s m args below meth c X hr hname
  generalize hF : ((fun r2 z => r2 = some (.int r.1) ∧ z = (L, r.2.1, r.2.2) ∧ (r.1 = 0 ∨ r.1 = 1)) : Option Value → zS → Prop) = FQ
  change Zw p l e { frames := 6, cells := 0, slots := 0, locals := 80 * (6) } s m args below meth c G b 7 (MQ below (zQ G b FQ) args s 0 0 (fun q : Nat => b ≤ q)) 0 0 0 [some (.ref P), none, none, none, none, none, none] [] (L, M, N)
  have p_lt := hP.1
  have p_o := hP.2.1
  have p_read := hP.2.2.2.1
  have p_unitName := hP.2.2.2.2.2.2.2.2.2.1
  have p_hunterName := hP.2.2.2.2.2.2.2.2.2.2.1
  have p_partyName := hP.2.2.2.2.2.2.2.2.2.2.2.1
  have J_149 : ∀ (x1_149 : Int32) (x2_149 : Int32) (x3_149 : Int32) (x4_149 : Int32) (x5_149 : Option Value) (x6_149 : Option Value) (M_149 : zMt) (N_149 : zNt), D_X8_readAsks_149 P M_149 N_149 = some r → Zw p l e { frames := 6, cells := 0, slots := 0, locals := 80 * (6) } s m args below meth c G b 7 (MQ below (zQ G b FQ) args s 0 0 (fun q : Nat => b ≤ q)) 0 0 149 [some (.ref (P)), some (.int x1_149), some (.int x2_149), some (.int x3_149), some (.int x4_149), x5_149, x6_149] [] (L, M_149, N_149) := by
    intro x1_149 x2_149 x3_149 x4_149 x5_149 x6_149 M_149 N_149 h
    unfold D_X8_readAsks_149 at h
    refine a_aload_n X dX8_readAsks_149 rfl ?_
    refine a_iconst (v := 2) X dX8_readAsks_150 (by decide) ?_
    obtain ⟨e_151, f_151, h⟩ := zBx h
    refine a_callVx X dX8_readAsks_151 miX8_bad lm8_214 (t_X8_bad (by first | exact hP | assumption) f_151) (by first | exact p_o | assumption) rfl rfl rfl (Nat.le_of_ble_eq_true rfl) ⟨by decide, by decide, by decide, by decide⟩ (fun r_151 S_151 q_151 => ?_)
    obtain ⟨rfl, rfl, b_151⟩ := q_151
    refine a_zret X (by first | exact Or.inl rfl | exact Or.inr rfl | assumption) hr dX8_readAsks_154 ⟨by decide, by decide⟩ ?_
    subst hF
    rw [← Option.some.inj h]
    exact ⟨rfl, rfl, (by first | exact Or.inl rfl | exact Or.inr rfl | assumption)⟩
  have L_124 : ∀ u : Nat, ∀ (x1_124 : Int32) (x2_124 : Int32) (x3_124 : Int32) (x4_124 : Int32) (x5_124 : Option Value) (x6_124 : Option Value) (M_124 : zMt) (N_124 : zNt), D_X8_readAsks_124 P u x3_124 x4_124 M_124 N_124 = some r → Zw p l e { frames := 6, cells := 0, slots := 0, locals := 80 * (6) } s m args below meth c G b 7 (MQ below (zQ G b FQ) args s 0 0 (fun q : Nat => b ≤ q)) 0 0 124 [some (.ref (P)), some (.int x1_124), some (.int x2_124), some (.int x3_124), some (.int x4_124), x5_124, x6_124] [] (L, M_124, N_124) := by
    intro u
    induction u with
    | zero => intro x1_124 x2_124 x3_124 x4_124 x5_124 x6_124 M_124 N_124 h; cases (show none = some r from h)
    | succ u_124 ih_124 =>
      have L_187 : ∀ u : Nat, ∀ (x1_187 : Int32) (x2_187 : Int32) (x3_187 : Int32) (x4_187 : Int32) (x5_187 : Int32) (x6_187 : Int32) (M_187 : zMt) (N_187 : zNt), D_X8_readAsks_187 P (D_X8_readAsks_124 P u_124) u x3_187 x4_187 x5_187 x6_187 M_187 N_187 = some r → Zw p l e { frames := 6, cells := 0, slots := 0, locals := 80 * (6) } s m args below meth c G b 7 (MQ below (zQ G b FQ) args s 0 0 (fun q : Nat => b ≤ q)) 0 0 187 [some (.ref (P)), some (.int x1_187), some (.int x2_187), some (.int x3_187), some (.int x4_187), some (.int x5_187), some (.int x6_187)] [] (L, M_187, N_187) := by
        intro u
        induction u with
        | zero => intro x1_187 x2_187 x3_187 x4_187 x5_187 x6_187 M_187 N_187 h; cases (show none = some r from h)
        | succ u_187 ih_187 =>
          intro x1_187 x2_187 x3_187 x4_187 x5_187 x6_187 M_187 N_187 h
          rw [D_X8_readAsks_187] at h
          refine a_iload X dX8_readAsks_187 rfl ?_
          refine a_iload X dX8_readAsks_189 rfl ?_
          refine a_icmp_ge (tgt := 220) X dX8_readAsks_191 (by decide) (fun h_191 => ?_) (fun h_191 => ?_)
          · replace h := (if_pos h_191).symm.trans h
            refine a_aload_n X dX8_readAsks_220 rfl ?_
            refine a_getr X lf8_13 (by first | exact p_o | assumption) rfl (by omega) dX8_readAsks_221 ?_
            refine a_iload_n X dX8_readAsks_224 rfl ?_
            refine a_iload X dX8_readAsks_225 rfl ?_
            refine a_iadd X dX8_readAsks_227 ?_
            refine a_iload X dX8_readAsks_228 rfl ?_
            obtain ⟨g_230, h⟩ := zIx h
            obtain ⟨M_230, f_230, h⟩ := zLtx h
            refine d_iastore X (by first | exact p_read | assumption) g_230 dX8_readAsks_230 f_230 ?_
            refine a_iinc (v := x4_187 + 1) X dX8_readAsks_231 (by decide) rfl zi_1 ?_
            refine a_aload_n X dX8_readAsks_234 rfl ?_
            obtain ⟨e_235, f_235, h⟩ := zBx h
            refine a_callVx X dX8_readAsks_235 miX8_next lm8_220 (t_X8_next (by first | exact hP | assumption) f_235) (by first | exact p_o | assumption) rfl rfl rfl (Nat.le_of_ble_eq_true rfl) ⟨by decide, by decide, by decide, by decide⟩ (fun r_235 S_235 q_235 => ?_)
            obtain ⟨rfl, rfl, b_235⟩ := q_235
            refine a_pop X dX8_readAsks_238 rfl ?_
            refine a_goto (tgt := 124) X dX8_readAsks_239 (by decide) ?_
            exact Zw.to2 (ih_124 _ _ _ _ _ _ _ _ h) rfl rfl rfl
          · replace h := (if_neg h_191).symm.trans h
            refine a_aload_n X dX8_readAsks_194 rfl ?_
            refine a_getr X lf8_13 (by first | exact p_o | assumption) rfl (by omega) dX8_readAsks_195 ?_
            refine a_iload_n X dX8_readAsks_198 rfl ?_
            refine a_iload X dX8_readAsks_199 rfl ?_
            refine a_iadd X dX8_readAsks_201 ?_
            obtain ⟨g_202, h⟩ := zIx h
            refine a_iaload X (by first | exact p_read | assumption) g_202 dX8_readAsks_202 ?_
            refine a_iload X dX8_readAsks_203 rfl ?_
            refine a_icmp_ne (tgt := 214) X dX8_readAsks_205 (by decide) (fun h_205 => ?_) (fun h_205 => ?_)
            · replace h := (if_neg h_205).symm.trans h
              refine a_iinc (v := x6_187 + 1) X dX8_readAsks_214 (by decide) rfl zi_1 ?_
              refine a_goto (tgt := 187) X dX8_readAsks_217 (by decide) ?_
              exact Zw.to2 (ih_187 _ _ _ _ _ _ _ _ h) rfl rfl rfl
            · replace h := (if_pos h_205).symm.trans h
              refine a_aload_n X dX8_readAsks_208 rfl ?_
              refine a_iconst (v := 4) X dX8_readAsks_209 (by decide) ?_
              obtain ⟨e_210, f_210, h⟩ := zBx h
              refine a_callVx X dX8_readAsks_210 miX8_bad lm8_214 (t_X8_bad (by first | exact hP | assumption) f_210) (by first | exact p_o | assumption) rfl rfl rfl (Nat.le_of_ble_eq_true rfl) ⟨by decide, by decide, by decide, by decide⟩ (fun r_210 S_210 q_210 => ?_)
              obtain ⟨rfl, rfl, b_210⟩ := q_210
              refine a_zret X (by first | exact Or.inl rfl | exact Or.inr rfl | assumption) hr dX8_readAsks_213 ⟨by decide, by decide⟩ ?_
              subst hF
              rw [← Option.some.inj h]
              exact ⟨rfl, rfl, (by first | exact Or.inl rfl | exact Or.inr rfl | assumption)⟩
      have H_187 : ∀ (x1_187 : Int32) (x2_187 : Int32) (x3_187 : Int32) (x4_187 : Int32) (x5_187 : Int32) (x6_187 : Int32) (M_187 : zMt) (N_187 : zNt), D_X8_readAsks_187 P (D_X8_readAsks_124 P u_124) zFu x3_187 x4_187 x5_187 x6_187 M_187 N_187 = some r → Zw p l e { frames := 6, cells := 0, slots := 0, locals := 80 * (6) } s m args below meth c G b 7 (MQ below (zQ G b FQ) args s 0 0 (fun q : Nat => b ≤ q)) 0 0 187 [some (.ref (P)), some (.int x1_187), some (.int x2_187), some (.int x3_187), some (.int x4_187), some (.int x5_187), some (.int x6_187)] [] (L, M_187, N_187) := L_187 zFu
      have J_136 : ∀ (x1_136 : Int32) (x2_136 : Int32) (x3_136 : Int32) (x4_136 : Int32) (x5_136 : Option Value) (x6_136 : Option Value) (M_136 : zMt) (N_136 : zNt), D_X8_readAsks_136 P (D_X8_readAsks_124 P u_124) x3_136 x4_136 M_136 N_136 = some r → Zw p l e { frames := 6, cells := 0, slots := 0, locals := 80 * (6) } s m args below meth c G b 7 (MQ below (zQ G b FQ) args s 0 0 (fun q : Nat => b ≤ q)) 0 0 136 [some (.ref (P)), some (.int x1_136), some (.int x2_136), some (.int x3_136), some (.int x4_136), x5_136, x6_136] [] (L, M_136, N_136) := by
        intro x1_136 x2_136 x3_136 x4_136 x5_136 x6_136 M_136 N_136 h
        unfold D_X8_readAsks_136 at h
        refine a_aload_n X dX8_readAsks_136 rfl ?_
        obtain ⟨e_137, f_137, h⟩ := zBx h
        refine a_callVx X dX8_readAsks_137 miX8_isName lm8_224 (t_X8_isName (by first | exact hP | assumption) f_137) (by first | exact p_o | assumption) rfl rfl rfl (Nat.le_of_ble_eq_true rfl) ⟨by decide, by decide, by decide, by decide⟩ (fun r_137 S_137 q_137 => ?_)
        obtain ⟨rfl, rfl, b_137⟩ := q_137
        refine a_if_eq (tgt := 149) X dX8_readAsks_140 (by decide) (fun h_140 => ?_) (fun h_140 => ?_)
        · replace h := (if_pos h_140).symm.trans h
          exact Zw.to2 (J_149 _ _ _ _ _ _ _ _ h) rfl rfl rfl
        · replace h := (if_neg h_140).symm.trans h
          refine a_iload X dX8_readAsks_143 rfl ?_
          refine a_iconst (v := 3) X dX8_readAsks_145 (by decide) ?_
          refine a_icmp_ne (tgt := 155) X dX8_readAsks_146 (by decide) (fun h_146 => ?_) (fun h_146 => ?_)
          · replace h := (if_neg h_146).symm.trans h
            refine a_aload_n X dX8_readAsks_155 rfl ?_
            refine a_getr X lf8_39 (by first | exact p_o | assumption) rfl (by omega) dX8_readAsks_156 ?_
            refine a_aload_n X dX8_readAsks_159 rfl ?_
            refine a_geti X lf8_201 (by first | exact p_o | assumption) rfl dX8_readAsks_160 ?_
            refine a_aload_n X dX8_readAsks_163 rfl ?_
            refine a_getl X lf8_167 (by first | exact p_o | assumption) rfl dX8_readAsks_164 ?_
            obtain ⟨e_167, f_167, h⟩ := zBx h
            refine a_callSv X dX8_readAsks_167 miX8_found lm8_204 (t_X8_found (by first | exact p_unitName | assumption) (by decide) f_167) rfl rfl (Nat.le_of_ble_eq_true rfl) ⟨by decide, by decide, by decide, by decide⟩ ?_
            refine a_istore X dX8_readAsks_170 (by decide) ?_
            refine a_iload X dX8_readAsks_172 rfl ?_
            refine a_iconst (v := -1) X dX8_readAsks_174 (by decide) ?_
            refine a_icmp_ne (tgt := 184) X dX8_readAsks_175 (by decide) (fun h_175 => ?_) (fun h_175 => ?_)
            · replace h := (if_neg h_175).symm.trans h
              refine a_iconst (v := 0) X dX8_readAsks_184 (by decide) ?_
              refine a_istore X dX8_readAsks_185 (by decide) ?_
              exact Zw.to2 (H_187 _ _ _ _ _ _ _ _ h) rfl rfl rfl
            · replace h := (if_pos h_175).symm.trans h
              refine a_aload_n X dX8_readAsks_178 rfl ?_
              refine a_iconst (v := 4) X dX8_readAsks_179 (by decide) ?_
              obtain ⟨e_180, f_180, h⟩ := zBx h
              refine a_callVx X dX8_readAsks_180 miX8_bad lm8_214 (t_X8_bad (by first | exact hP | assumption) f_180) (by first | exact p_o | assumption) rfl rfl rfl (Nat.le_of_ble_eq_true rfl) ⟨by decide, by decide, by decide, by decide⟩ (fun r_180 S_180 q_180 => ?_)
              obtain ⟨rfl, rfl, b_180⟩ := q_180
              refine a_zret X (by first | exact Or.inl rfl | exact Or.inr rfl | assumption) hr dX8_readAsks_183 ⟨by decide, by decide⟩ ?_
              subst hF
              rw [← Option.some.inj h]
              exact ⟨rfl, rfl, (by first | exact Or.inl rfl | exact Or.inr rfl | assumption)⟩
          · replace h := (if_pos h_146).symm.trans h
            exact Zw.to2 (J_149 _ _ _ _ _ _ _ _ h) rfl rfl rfl
      intro x1_124 x2_124 x3_124 x4_124 x5_124 x6_124 M_124 N_124 h
      rw [D_X8_readAsks_124] at h
      refine a_iload X dX8_readAsks_124 rfl ?_
      refine a_if_eq (tgt := 136) X dX8_readAsks_126 (by decide) (fun h_126 => ?_) (fun h_126 => ?_)
      · replace h := (if_pos h_126).symm.trans h
        exact Zw.to2 (J_136 _ _ _ _ _ _ _ _ h) rfl rfl rfl
      · replace h := (if_neg h_126).symm.trans h
        refine a_aload_n X dX8_readAsks_129 rfl ?_
        obtain ⟨e_130, f_130, h⟩ := zBx h
        refine a_callVx X dX8_readAsks_130 miX8_isName lm8_224 (t_X8_isName (by first | exact hP | assumption) f_130) (by first | exact p_o | assumption) rfl rfl rfl (Nat.le_of_ble_eq_true rfl) ⟨by decide, by decide, by decide, by decide⟩ (fun r_130 S_130 q_130 => ?_)
        obtain ⟨rfl, rfl, b_130⟩ := q_130
        refine a_if_eq (tgt := 242) X dX8_readAsks_133 (by decide) (fun h_133 => ?_) (fun h_133 => ?_)
        · replace h := (if_pos h_133).symm.trans h
          refine a_iconst (v := 1) X dX8_readAsks_242 (by decide) ?_
          refine a_zret X (by first | exact Or.inl rfl | exact Or.inr rfl | assumption) hr dX8_readAsks_243 ⟨by decide, by decide⟩ ?_
          subst hF
          rw [← Option.some.inj h]
          exact ⟨rfl, rfl, (by first | exact Or.inl rfl | exact Or.inr rfl | assumption)⟩
        · replace h := (if_neg h_133).symm.trans h
          exact Zw.to2 (J_136 _ _ _ _ _ _ _ _ h) rfl rfl rfl
  have H_124 : ∀ (x1_124 : Int32) (x2_124 : Int32) (x3_124 : Int32) (x4_124 : Int32) (x5_124 : Option Value) (x6_124 : Option Value) (M_124 : zMt) (N_124 : zNt), D_X8_readAsks_124 P zFu x3_124 x4_124 M_124 N_124 = some r → Zw p l e { frames := 6, cells := 0, slots := 0, locals := 80 * (6) } s m args below meth c G b 7 (MQ below (zQ G b FQ) args s 0 0 (fun q : Nat => b ≤ q)) 0 0 124 [some (.ref (P)), some (.int x1_124), some (.int x2_124), some (.int x3_124), some (.int x4_124), x5_124, x6_124] [] (L, M_124, N_124) := L_124 zFu
  have J_99 : ∀ (x1_99 : Int32) (x2_99 : Int32) (x3_99 : Option Value) (x4_99 : Option Value) (x5_99 : Option Value) (x6_99 : Option Value) (y0_99 : Int32) (M_99 : zMt) (N_99 : zNt), D_X8_readAsks_99 P y0_99 M_99 N_99 = some r → Zw p l e { frames := 6, cells := 0, slots := 0, locals := 80 * (6) } s m args below meth c G b 7 (MQ below (zQ G b FQ) args s 0 0 (fun q : Nat => b ≤ q)) 0 0 99 [some (.ref (P)), some (.int x1_99), some (.int x2_99), x3_99, x4_99, x5_99, x6_99] [.int y0_99] (L, M_99, N_99) := by
    intro x1_99 x2_99 x3_99 x4_99 x5_99 x6_99 y0_99 M_99 N_99 h
    unfold D_X8_readAsks_99 at h
    refine a_istore_n X dX8_readAsks_99 (by decide) ?_
    refine a_aload_n X dX8_readAsks_100 rfl ?_
    refine a_getr X lf8_13 (by first | exact p_o | assumption) rfl (by omega) dX8_readAsks_101 ?_
    refine a_iload_n X dX8_readAsks_104 rfl ?_
    obtain ⟨g_105, h⟩ := zIx h
    refine a_iaload X (by first | exact p_read | assumption) g_105 dX8_readAsks_105 ?_
    refine a_iconst (v := -1) X dX8_readAsks_106 (by decide) ?_
    refine a_icmp_eq (tgt := 116) X dX8_readAsks_107 (by decide) (fun h_107 => ?_) (fun h_107 => ?_)
    · replace h := (if_pos h_107).symm.trans h
      refine a_aload_n X dX8_readAsks_116 rfl ?_
      obtain ⟨e_117, f_117, h⟩ := zBx h
      refine a_callVx X dX8_readAsks_117 miX8_next lm8_220 (t_X8_next (by first | exact hP | assumption) f_117) (by first | exact p_o | assumption) rfl rfl rfl (Nat.le_of_ble_eq_true rfl) ⟨by decide, by decide, by decide, by decide⟩ (fun r_117 S_117 q_117 => ?_)
      obtain ⟨rfl, rfl, b_117⟩ := q_117
      refine a_pop X dX8_readAsks_120 rfl ?_
      refine a_iconst (v := 0) X dX8_readAsks_121 (by decide) ?_
      refine a_istore X dX8_readAsks_122 (by decide) ?_
      exact Zw.to2 (H_124 _ _ _ _ _ _ _ _ h) rfl rfl rfl
    · replace h := (if_neg h_107).symm.trans h
      refine a_aload_n X dX8_readAsks_110 rfl ?_
      refine a_iconst (v := 4) X dX8_readAsks_111 (by decide) ?_
      obtain ⟨e_112, f_112, h⟩ := zBx h
      refine a_callVx X dX8_readAsks_112 miX8_bad lm8_214 (t_X8_bad (by first | exact hP | assumption) f_112) (by first | exact p_o | assumption) rfl rfl rfl (Nat.le_of_ble_eq_true rfl) ⟨by decide, by decide, by decide, by decide⟩ (fun r_112 S_112 q_112 => ?_)
      obtain ⟨rfl, rfl, b_112⟩ := q_112
      refine a_zret X (by first | exact Or.inl rfl | exact Or.inr rfl | assumption) hr dX8_readAsks_115 ⟨by decide, by decide⟩ ?_
      subst hF
      rw [← Option.some.inj h]
      exact ⟨rfl, rfl, (by first | exact Or.inl rfl | exact Or.inr rfl | assumption)⟩
  have J_79 : ∀ (x1_79 : Int32) (x2_79 : Int32) (x3_79 : Option Value) (x4_79 : Option Value) (x5_79 : Option Value) (x6_79 : Option Value) (M_79 : zMt) (N_79 : zNt), D_X8_readAsks_79 P x1_79 x2_79 M_79 N_79 = some r → Zw p l e { frames := 6, cells := 0, slots := 0, locals := 80 * (6) } s m args below meth c G b 7 (MQ below (zQ G b FQ) args s 0 0 (fun q : Nat => b ≤ q)) 0 0 79 [some (.ref (P)), some (.int x1_79), some (.int x2_79), x3_79, x4_79, x5_79, x6_79] [] (L, M_79, N_79) := by
    intro x1_79 x2_79 x3_79 x4_79 x5_79 x6_79 M_79 N_79 h
    unfold D_X8_readAsks_79 at h
    refine a_iload_n X dX8_readAsks_79 rfl ?_
    refine a_iconst (v := -1) X dX8_readAsks_80 (by decide) ?_
    refine a_icmp_eq (tgt := 93) X dX8_readAsks_81 (by decide) (fun h_81 => ?_) (fun h_81 => ?_)
    · replace h := (if_pos h_81).symm.trans h
      refine a_bipush (v := 20) X dX8_readAsks_93 (by decide) ?_
      refine a_iconst (v := 3) X dX8_readAsks_95 (by decide) ?_
      refine a_iload_n X dX8_readAsks_96 rfl ?_
      refine a_imul X dX8_readAsks_97 ?_
      refine a_iadd X dX8_readAsks_98 ?_
      exact Zw.to2 (J_99 _ _ _ _ _ _ _ _ _ h) rfl rfl rfl
    · replace h := (if_neg h_81).symm.trans h
      refine a_bipush (v := 50) X dX8_readAsks_84 (by decide) ?_
      refine a_iconst (v := 3) X dX8_readAsks_86 (by decide) ?_
      refine a_iload_n X dX8_readAsks_87 rfl ?_
      refine a_imul X dX8_readAsks_88 ?_
      refine a_iadd X dX8_readAsks_89 ?_
      refine a_goto (tgt := 99) X dX8_readAsks_90 (by decide) ?_
      exact Zw.to2 (J_99 _ _ _ _ _ _ _ _ _ h) rfl rfl rfl
  have J_73 : ∀ (x1_73 : Int32) (x2_73 : Int32) (x3_73 : Option Value) (x4_73 : Option Value) (x5_73 : Option Value) (x6_73 : Option Value) (M_73 : zMt) (N_73 : zNt), D_X8_readAsks_73 P M_73 N_73 = some r → Zw p l e { frames := 6, cells := 0, slots := 0, locals := 80 * (6) } s m args below meth c G b 7 (MQ below (zQ G b FQ) args s 0 0 (fun q : Nat => b ≤ q)) 0 0 73 [some (.ref (P)), some (.int x1_73), some (.int x2_73), x3_73, x4_73, x5_73, x6_73] [] (L, M_73, N_73) := by
    intro x1_73 x2_73 x3_73 x4_73 x5_73 x6_73 M_73 N_73 h
    unfold D_X8_readAsks_73 at h
    refine a_aload_n X dX8_readAsks_73 rfl ?_
    refine a_iconst (v := 4) X dX8_readAsks_74 (by decide) ?_
    obtain ⟨e_75, f_75, h⟩ := zBx h
    refine a_callVx X dX8_readAsks_75 miX8_bad lm8_214 (t_X8_bad (by first | exact hP | assumption) f_75) (by first | exact p_o | assumption) rfl rfl rfl (Nat.le_of_ble_eq_true rfl) ⟨by decide, by decide, by decide, by decide⟩ (fun r_75 S_75 q_75 => ?_)
    obtain ⟨rfl, rfl, b_75⟩ := q_75
    refine a_zret X (by first | exact Or.inl rfl | exact Or.inr rfl | assumption) hr dX8_readAsks_78 ⟨by decide, by decide⟩ ?_
    subst hF
    rw [← Option.some.inj h]
    exact ⟨rfl, rfl, (by first | exact Or.inl rfl | exact Or.inr rfl | assumption)⟩
  unfold D_X8_readAsks at h
  refine a_aload_n X dX8_readAsks_0 rfl ?_
  obtain ⟨e_1, f_1, h⟩ := zBx h
  refine a_callVx X dX8_readAsks_1 miX8_next lm8_220 (t_X8_next (by first | exact hP | assumption) f_1) (by first | exact p_o | assumption) rfl rfl rfl (Nat.le_of_ble_eq_true rfl) ⟨by decide, by decide, by decide, by decide⟩ (fun r_1 S_1 q_1 => ?_)
  obtain ⟨rfl, rfl, b_1⟩ := q_1
  refine a_pop X dX8_readAsks_4 rfl ?_
  refine a_aload_n X dX8_readAsks_5 rfl ?_
  obtain ⟨e_6, f_6, h⟩ := zBx h
  refine a_callVx X dX8_readAsks_6 miX8_isName lm8_224 (t_X8_isName (by first | exact hP | assumption) f_6) (by first | exact p_o | assumption) rfl rfl rfl (Nat.le_of_ble_eq_true rfl) ⟨by decide, by decide, by decide, by decide⟩ (fun r_6 S_6 q_6 => ?_)
  obtain ⟨rfl, rfl, b_6⟩ := q_6
  refine a_if_ne (tgt := 18) X dX8_readAsks_9 (by decide) (fun h_9 => ?_) (fun h_9 => ?_)
  · replace h := (if_neg h_9).symm.trans h
    refine a_aload_n X dX8_readAsks_18 rfl ?_
    refine a_getr X lf8_43 (by first | exact p_o | assumption) rfl (by omega) dX8_readAsks_19 ?_
    refine a_aload_n X dX8_readAsks_22 rfl ?_
    refine a_geti X lf8_208 (by first | exact p_o | assumption) rfl dX8_readAsks_23 ?_
    refine a_aload_n X dX8_readAsks_26 rfl ?_
    refine a_getl X lf8_167 (by first | exact p_o | assumption) rfl dX8_readAsks_27 ?_
    obtain ⟨e_30, f_30, h⟩ := zBx h
    refine a_callSv X dX8_readAsks_30 miX8_found lm8_204 (t_X8_found (by first | exact p_hunterName | assumption) (by decide) f_30) rfl rfl (Nat.le_of_ble_eq_true rfl) ⟨by decide, by decide, by decide, by decide⟩ ?_
    refine a_istore_n X dX8_readAsks_33 (by decide) ?_
    refine a_aload_n X dX8_readAsks_34 rfl ?_
    refine a_getr X lf8_46 (by first | exact p_o | assumption) rfl (by omega) dX8_readAsks_35 ?_
    refine a_aload_n X dX8_readAsks_38 rfl ?_
    refine a_geti X lf8_211 (by first | exact p_o | assumption) rfl dX8_readAsks_39 ?_
    refine a_aload_n X dX8_readAsks_42 rfl ?_
    refine a_getl X lf8_167 (by first | exact p_o | assumption) rfl dX8_readAsks_43 ?_
    obtain ⟨e_46, f_46, h⟩ := zBx h
    refine a_callSv X dX8_readAsks_46 miX8_found lm8_204 (t_X8_found (by first | exact p_partyName | assumption) (by decide) f_46) rfl rfl (Nat.le_of_ble_eq_true rfl) ⟨by decide, by decide, by decide, by decide⟩ ?_
    refine a_istore_n X dX8_readAsks_49 (by decide) ?_
    refine a_iload_n X dX8_readAsks_50 rfl ?_
    refine a_iconst (v := -1) X dX8_readAsks_51 (by decide) ?_
    refine a_icmp_ne (tgt := 79) X dX8_readAsks_52 (by decide) (fun h_52 => ?_) (fun h_52 => ?_)
    · replace h := (if_neg h_52).symm.trans h
      exact Zw.to2 (J_79 _ _ _ _ _ _ _ _ h) rfl rfl rfl
    · replace h := (if_pos h_52).symm.trans h
      refine a_iload_n X dX8_readAsks_55 rfl ?_
      refine a_iconst (v := -1) X dX8_readAsks_56 (by decide) ?_
      refine a_icmp_eq (tgt := 73) X dX8_readAsks_57 (by decide) (fun h_57 => ?_) (fun h_57 => ?_)
      · replace h := (if_pos h_57).symm.trans h
        exact Zw.to2 (J_73 _ _ _ _ _ _ _ _ h) rfl rfl rfl
      · replace h := (if_neg h_57).symm.trans h
        refine a_aload_n X dX8_readAsks_60 rfl ?_
        refine a_getr X lf8_13 (by first | exact p_o | assumption) rfl (by omega) dX8_readAsks_61 ?_
        refine a_bipush (v := 10) X dX8_readAsks_64 (by decide) ?_
        refine a_iload_n X dX8_readAsks_66 rfl ?_
        refine a_iadd X dX8_readAsks_67 ?_
        obtain ⟨g_68, h⟩ := zIx h
        refine a_iaload X (by first | exact p_read | assumption) g_68 dX8_readAsks_68 ?_
        refine a_iconst (v := -1) X dX8_readAsks_69 (by decide) ?_
        refine a_icmp_eq (tgt := 79) X dX8_readAsks_70 (by decide) (fun h_70 => ?_) (fun h_70 => ?_)
        · replace h := (if_pos h_70).symm.trans h
          exact Zw.to2 (J_79 _ _ _ _ _ _ _ _ h) rfl rfl rfl
        · replace h := (if_neg h_70).symm.trans h
          exact Zw.to2 (J_73 _ _ _ _ _ _ _ _ h) rfl rfl rfl
  · replace h := (if_pos h_9).symm.trans h
    refine a_aload_n X dX8_readAsks_12 rfl ?_
    refine a_iconst (v := 2) X dX8_readAsks_13 (by decide) ?_
    obtain ⟨e_14, f_14, h⟩ := zBx h
    refine a_callVx X dX8_readAsks_14 miX8_bad lm8_214 (t_X8_bad (by first | exact hP | assumption) f_14) (by first | exact p_o | assumption) rfl rfl rfl (Nat.le_of_ble_eq_true rfl) ⟨by decide, by decide, by decide, by decide⟩ (fun r_14 S_14 q_14 => ?_)
    obtain ⟨rfl, rfl, b_14⟩ := q_14
    refine a_zret X (by first | exact Or.inl rfl | exact Or.inr rfl | assumption) hr dX8_readAsks_17 ⟨by decide, by decide⟩ ?_
    subst hF
    rw [← Option.some.inj h]
    exact ⟨rfl, rfl, (by first | exact Or.inl rfl | exact Or.inr rfl | assumption)⟩
noncomputable def D_X8_readOnce_111 (P : Nat) (y1_111 : Int32) (M_111 : zMt) (N_111 : zNt) : Option (Int32 × zMt × zNt) :=
  zI y1_111 82 <|
  zLt (zu M_111 (P + 2) y1_111.toNatClampNeg (M_111 P 31)) fun M_115 =>
  some ((1 : Int32), M_115, N_111)
noncomputable def D_X8_readOnce_57 (P : Nat) (y0_57 : Int32) (M_57 : zMt) (N_57 : zNt) : Option (Int32 × zMt × zNt) :=
  if y0_57 = (-1 : Int32) then
    zB (D_X8_bad P (2 : Int32) M_57) fun e_65 =>
    some (e_65.1, e_65.2, N_57)
  else
    zI (67 : Int32) 82 <|
    zLt (zu M_57 (P + 2) (67 : Int32).toNatClampNeg y0_57) fun M_76 =>
    zB (D_X8_next P M_76 N_57) fun e_78 =>
    some (e_78.1, e_78.2.1, e_78.2.2)
noncomputable def D_X8_readOnce (P : Nat) (v0 : Int32) (M : zMt) (N : zNt) : Option (Int32 × zMt × zNt) :=
  zB (D_X8_has (M P 23) v0) fun e_5 =>
  if e_5 = 0 then
    zLt (zu M P 23 ((M P 23) ||| ((1 : Int32) <<< (v0 &&& 31)))) fun M_26 =>
    zB (D_X8_next P M_26 N) fun e_30 =>
    if v0 = (5 : Int32) then
      if (e_30.2.1 P 18) = (2 : Int32) then
        zB (D_X8_among P 12 e_30.2.2) fun e_50 =>
        D_X8_readOnce_57 P e_50 e_30.2.1 e_30.2.2
      else
        D_X8_readOnce_57 P (-1 : Int32) e_30.2.1 e_30.2.2
    else
      zB (D_X8_number P (0 : Int32) (100 : Int32) e_30.2.1 e_30.2.2) fun e_86 =>
      if e_86.1 = 0 then
        some ((0 : Int32), e_86.2.1, e_86.2.2)
      else
        if v0 = (6 : Int32) then
          D_X8_readOnce_111 P (68 : Int32) e_86.2.1 e_86.2.2
        else
          D_X8_readOnce_111 P (69 : Int32) e_86.2.1 e_86.2.2
  else
    zB (D_X8_bad P (2 : Int32) M) fun e_13 =>
    some (e_13.1, e_13.2, N)
set_option maxRecDepth 100000 in
set_option maxHeartbeats 4000000 in
theorem t_X8_readOnce {l : Launch} {G : zG} {b : Nat} {L : List zC} {M : zMt} {N : zNt} {P : Nat} {v0 : Int32} (hP : LX8 L P) {r : Int32 × zMt × zNt} (h : D_X8_readOnce P v0 M N = some r) : zM l G b yX8_readOnce cX8_readOnce 3 (some .boolean) 7 0 0 [.ref P, .int v0] (L, M, N) (fun r2 z => r2 = some (.int r.1) ∧ z = (L, r.2.1, r.2.2) ∧ (r.1 = 0 ∨ r.1 = 1)) := by
  refine zM.of miX8_readOnce (Nat.le_of_ble_eq_true rfl) ?_
  intro p e s m args below meth c X hr hname
  generalize hF : ((fun r2 z => r2 = some (.int r.1) ∧ z = (L, r.2.1, r.2.2) ∧ (r.1 = 0 ∨ r.1 = 1)) : Option Value → zS → Prop) = FQ
  change Zw p l e { frames := 7, cells := 0, slots := 0, locals := 80 * (7) } s m args below meth c G b 3 (MQ below (zQ G b FQ) args s 0 0 (fun q : Nat => b ≤ q)) 0 0 0 [some (.ref P), some (.int v0), none] [] (L, M, N)
  have p_lt := hP.1
  have p_o := hP.2.1
  have p_read := hP.2.2.2.1
  have J_111 : ∀ (x1_111 : Int32) (x2_111 : Option Value) (y1_111 : Int32) (M_111 : zMt) (N_111 : zNt), D_X8_readOnce_111 P y1_111 M_111 N_111 = some r → Zw p l e { frames := 7, cells := 0, slots := 0, locals := 80 * (7) } s m args below meth c G b 3 (MQ below (zQ G b FQ) args s 0 0 (fun q : Nat => b ≤ q)) 0 0 111 [some (.ref (P)), some (.int x1_111), x2_111] [.int y1_111, .ref (P + 2)] (L, M_111, N_111) := by
    intro x1_111 x2_111 y1_111 M_111 N_111 h
    unfold D_X8_readOnce_111 at h
    refine a_aload_n X dX8_readOnce_111 rfl ?_
    refine a_geti X lf8_217 (by first | exact p_o | assumption) rfl dX8_readOnce_112 ?_
    obtain ⟨g_115, h⟩ := zIx h
    obtain ⟨M_115, f_115, h⟩ := zLtx h
    refine d_iastore X (by first | exact p_read | assumption) g_115 dX8_readOnce_115 f_115 ?_
    refine a_iconst (v := 1) X dX8_readOnce_116 (by decide) ?_
    refine a_zret X (by first | exact Or.inl rfl | exact Or.inr rfl | assumption) hr dX8_readOnce_117 ⟨by decide, by decide⟩ ?_
    subst hF
    rw [← Option.some.inj h]
    exact ⟨rfl, rfl, (by first | exact Or.inl rfl | exact Or.inr rfl | assumption)⟩
  have J_57 : ∀ (x1_57 : Int32) (x2_57 : Option Value) (y0_57 : Int32) (M_57 : zMt) (N_57 : zNt), D_X8_readOnce_57 P y0_57 M_57 N_57 = some r → Zw p l e { frames := 7, cells := 0, slots := 0, locals := 80 * (7) } s m args below meth c G b 3 (MQ below (zQ G b FQ) args s 0 0 (fun q : Nat => b ≤ q)) 0 0 57 [some (.ref (P)), some (.int x1_57), x2_57] [.int y0_57] (L, M_57, N_57) := by
    intro x1_57 x2_57 y0_57 M_57 N_57 h
    unfold D_X8_readOnce_57 at h
    refine a_istore_n X dX8_readOnce_57 (by decide) ?_
    refine a_iload_n X dX8_readOnce_58 rfl ?_
    refine a_iconst (v := -1) X dX8_readOnce_59 (by decide) ?_
    refine a_icmp_ne (tgt := 69) X dX8_readOnce_60 (by decide) (fun h_60 => ?_) (fun h_60 => ?_)
    · replace h := (if_neg h_60).symm.trans h
      refine a_aload_n X dX8_readOnce_69 rfl ?_
      refine a_getr X lf8_13 (by first | exact p_o | assumption) rfl (by omega) dX8_readOnce_70 ?_
      refine a_bipush (v := 67) X dX8_readOnce_73 (by decide) ?_
      refine a_iload_n X dX8_readOnce_75 rfl ?_
      obtain ⟨g_76, h⟩ := zIx h
      obtain ⟨M_76, f_76, h⟩ := zLtx h
      refine d_iastore X (by first | exact p_read | assumption) g_76 dX8_readOnce_76 f_76 ?_
      refine a_aload_n X dX8_readOnce_77 rfl ?_
      obtain ⟨e_78, f_78, h⟩ := zBx h
      refine a_callVx X dX8_readOnce_78 miX8_next lm8_220 (t_X8_next (by first | exact hP | assumption) f_78) (by first | exact p_o | assumption) rfl rfl rfl (Nat.le_of_ble_eq_true rfl) ⟨by decide, by decide, by decide, by decide⟩ (fun r_78 S_78 q_78 => ?_)
      obtain ⟨rfl, rfl, b_78⟩ := q_78
      refine a_zret X (by first | exact Or.inl rfl | exact Or.inr rfl | assumption) hr dX8_readOnce_81 ⟨by decide, by decide⟩ ?_
      subst hF
      rw [← Option.some.inj h]
      exact ⟨rfl, rfl, (by first | exact Or.inl rfl | exact Or.inr rfl | assumption)⟩
    · replace h := (if_pos h_60).symm.trans h
      refine a_aload_n X dX8_readOnce_63 rfl ?_
      refine a_iconst (v := 2) X dX8_readOnce_64 (by decide) ?_
      obtain ⟨e_65, f_65, h⟩ := zBx h
      refine a_callVx X dX8_readOnce_65 miX8_bad lm8_214 (t_X8_bad (by first | exact hP | assumption) f_65) (by first | exact p_o | assumption) rfl rfl rfl (Nat.le_of_ble_eq_true rfl) ⟨by decide, by decide, by decide, by decide⟩ (fun r_65 S_65 q_65 => ?_)
      obtain ⟨rfl, rfl, b_65⟩ := q_65
      refine a_zret X (by first | exact Or.inl rfl | exact Or.inr rfl | assumption) hr dX8_readOnce_68 ⟨by decide, by decide⟩ ?_
      subst hF
      rw [← Option.some.inj h]
      exact ⟨rfl, rfl, (by first | exact Or.inl rfl | exact Or.inr rfl | assumption)⟩
  unfold D_X8_readOnce at h
  refine a_aload_n X dX8_readOnce_0 rfl ?_
  refine a_geti X lf8_243 (by first | exact p_o | assumption) rfl dX8_readOnce_1 ?_
  refine a_iload_n X dX8_readOnce_4 rfl ?_
  obtain ⟨e_5, f_5, h⟩ := zBx h
  refine a_callSx X dX8_readOnce_5 miX8_has lm8_240 (t_X8_has f_5) rfl rfl (Nat.le_of_ble_eq_true rfl) ⟨by decide, by decide, by decide, by decide⟩ (fun r_5 S_5 q_5 => ?_)
  obtain ⟨rfl, rfl, b_5⟩ := q_5
  refine a_if_eq (tgt := 17) X dX8_readOnce_8 (by decide) (fun h_8 => ?_) (fun h_8 => ?_)
  · replace h := (if_pos h_8).symm.trans h
    refine a_aload_n X dX8_readOnce_17 rfl ?_
    refine a_dup X dX8_readOnce_18 rfl ?_
    refine a_geti X lf8_243 (by first | exact p_o | assumption) rfl dX8_readOnce_19 ?_
    refine a_iconst (v := 1) X dX8_readOnce_22 (by decide) ?_
    refine a_iload_n X dX8_readOnce_23 rfl ?_
    refine a_ishl X dX8_readOnce_24 ?_
    refine a_ior X dX8_readOnce_25 ?_
    obtain ⟨M_26, f_26, h⟩ := zLtx h
    refine d_puti X lf8_243 (by first | exact p_o | assumption) rfl dX8_readOnce_26 f_26 ?_
    refine a_aload_n X dX8_readOnce_29 rfl ?_
    obtain ⟨e_30, f_30, h⟩ := zBx h
    refine a_callVx X dX8_readOnce_30 miX8_next lm8_220 (t_X8_next (by first | exact hP | assumption) f_30) (by first | exact p_o | assumption) rfl rfl rfl (Nat.le_of_ble_eq_true rfl) ⟨by decide, by decide, by decide, by decide⟩ (fun r_30 S_30 q_30 => ?_)
    obtain ⟨rfl, rfl, b_30⟩ := q_30
    refine a_pop X dX8_readOnce_33 rfl ?_
    refine a_iload_n X dX8_readOnce_34 rfl ?_
    refine a_iconst (v := 5) X dX8_readOnce_35 (by decide) ?_
    refine a_icmp_ne (tgt := 82) X dX8_readOnce_36 (by decide) (fun h_36 => ?_) (fun h_36 => ?_)
    · replace h := (if_neg h_36).symm.trans h
      refine a_aload_n X dX8_readOnce_82 rfl ?_
      refine a_iconst (v := 0) X dX8_readOnce_83 (by decide) ?_
      refine a_bipush (v := 100) X dX8_readOnce_84 (by decide) ?_
      obtain ⟨e_86, f_86, h⟩ := zBx h
      refine a_callVx X dX8_readOnce_86 miX8_number lm8_236 (t_X8_number (by first | exact hP | assumption) f_86) (by first | exact p_o | assumption) rfl rfl rfl (Nat.le_of_ble_eq_true rfl) ⟨by decide, by decide, by decide, by decide⟩ (fun r_86 S_86 q_86 => ?_)
      obtain ⟨rfl, rfl, b_86⟩ := q_86
      refine a_if_ne (tgt := 94) X dX8_readOnce_89 (by decide) (fun h_89 => ?_) (fun h_89 => ?_)
      · replace h := (if_neg h_89).symm.trans h
        refine a_aload_n X dX8_readOnce_94 rfl ?_
        refine a_getr X lf8_13 (by first | exact p_o | assumption) rfl (by omega) dX8_readOnce_95 ?_
        refine a_iload_n X dX8_readOnce_98 rfl ?_
        refine a_bipush (v := 6) X dX8_readOnce_99 (by decide) ?_
        refine a_icmp_ne (tgt := 109) X dX8_readOnce_101 (by decide) (fun h_101 => ?_) (fun h_101 => ?_)
        · replace h := (if_neg h_101).symm.trans h
          refine a_bipush (v := 69) X dX8_readOnce_109 (by decide) ?_
          exact Zw.to2 (J_111 _ _ _ _ _ h) rfl rfl rfl
        · replace h := (if_pos h_101).symm.trans h
          refine a_bipush (v := 68) X dX8_readOnce_104 (by decide) ?_
          refine a_goto (tgt := 111) X dX8_readOnce_106 (by decide) ?_
          exact Zw.to2 (J_111 _ _ _ _ _ h) rfl rfl rfl
      · replace h := (if_pos h_89).symm.trans h
        refine a_iconst (v := 0) X dX8_readOnce_92 (by decide) ?_
        refine a_zret X (by first | exact Or.inl rfl | exact Or.inr rfl | assumption) hr dX8_readOnce_93 ⟨by decide, by decide⟩ ?_
        subst hF
        rw [← Option.some.inj h]
        exact ⟨rfl, rfl, (by first | exact Or.inl rfl | exact Or.inr rfl | assumption)⟩
    · replace h := (if_pos h_36).symm.trans h
      refine a_aload_n X dX8_readOnce_39 rfl ?_
      refine a_geti X lf8_160 (by first | exact p_o | assumption) rfl dX8_readOnce_40 ?_
      refine a_iconst (v := 2) X dX8_readOnce_43 (by decide) ?_
      refine a_icmp_ne (tgt := 56) X dX8_readOnce_44 (by decide) (fun h_44 => ?_) (fun h_44 => ?_)
      · replace h := (if_neg h_44).symm.trans h
        refine a_iconst (v := -1) X dX8_readOnce_56 (by decide) ?_
        exact Zw.to2 (J_57 _ _ _ _ _ h) rfl rfl rfl
      · replace h := (if_pos h_44).symm.trans h
        refine a_aload_n X dX8_readOnce_47 rfl ?_
        refine a_ldcS (i := 12) (q := ("TagDrawModel", 246, "plain line square ")) X rfl rfl rfl dX8_readOnce_48 ?_
        obtain ⟨e_50, f_50, h⟩ := zBx h
        refine a_callVv X dX8_readOnce_50 miX8_among lm8_175 (t_X8_among (by first | exact hP | assumption) (by first | assumption | decide) f_50) (by first | exact p_o | assumption) rfl rfl rfl (Nat.le_of_ble_eq_true rfl) ⟨by decide, by decide, by decide, by decide⟩ ?_
        refine a_goto (tgt := 57) X dX8_readOnce_53 (by decide) ?_
        exact Zw.to2 (J_57 _ _ _ _ _ h) rfl rfl rfl
  · replace h := (if_neg h_8).symm.trans h
    refine a_aload_n X dX8_readOnce_11 rfl ?_
    refine a_iconst (v := 2) X dX8_readOnce_12 (by decide) ?_
    obtain ⟨e_13, f_13, h⟩ := zBx h
    refine a_callVx X dX8_readOnce_13 miX8_bad lm8_214 (t_X8_bad (by first | exact hP | assumption) f_13) (by first | exact p_o | assumption) rfl rfl rfl (Nat.le_of_ble_eq_true rfl) ⟨by decide, by decide, by decide, by decide⟩ (fun r_13 S_13 q_13 => ?_)
    obtain ⟨rfl, rfl, b_13⟩ := q_13
    refine a_zret X (by first | exact Or.inl rfl | exact Or.inr rfl | assumption) hr dX8_readOnce_16 ⟨by decide, by decide⟩ ?_
    subst hF
    rw [← Option.some.inj h]
    exact ⟨rfl, rfl, (by first | exact Or.inl rfl | exact Or.inr rfl | assumption)⟩
noncomputable def D_X8_readLine_140 (P : Nat) (y0_140 : Int32) (M_140 : zMt) (N_140 : zNt) : Option (Int32 × zMt × zNt) :=
  some (y0_140, M_140, N_140)
noncomputable def D_X8_readLine_114 (P : Nat) (x1_114 : Int32) (M_114 : zMt) (N_114 : zNt) : Option (Int32 × zMt × zNt) :=
  if x1_114 = 0 then
    some ((0 : Int32), M_114, N_114)
  else
    if (M_114 P 18) = (4 : Int32) then
      zB (D_X8_next P M_114 N_114) fun e_129 =>
      D_X8_readLine_140 P e_129.1 e_129.2.1 e_129.2.2
    else
      zB (D_X8_bad P (2 : Int32) M_114) fun e_137 =>
      D_X8_readLine_140 P e_137.1 e_137.2 N_114
noncomputable def D_X8_readLine_108 (P : Nat) (M_108 : zMt) (N_108 : zNt) : Option (Int32 × zMt × zNt) :=
  zB (D_X8_bad P (2 : Int32) M_108) fun e_110 =>
  some (e_110.1, e_110.2, N_108)
noncomputable def D_X8_readLine_96 (P : Nat) (M_96 : zMt) (N_96 : zNt) : Option (Int32 × zMt × zNt) :=
  zB (D_X8_readOnce P (M_96 P 19) M_96 N_96) fun e_101 =>
  D_X8_readLine_114 P e_101.1 e_101.2.1 e_101.2.2
noncomputable def D_X8_readLine_16 (P : Nat) (y0_16 : Int32) (M_16 : zMt) (N_16 : zNt) : Option (Int32 × zMt × zNt) :=
  if Int32.toInt y0_16 = 0 then
    zB (D_X8_readUnit P M_16 N_16) fun e_65 =>
    D_X8_readLine_114 P e_65.1 e_65.2.1 e_65.2.2
  else
  if Int32.toInt y0_16 = 1 then
    zB (D_X8_readHunter P M_16 N_16) fun e_73 =>
    D_X8_readLine_114 P e_73.1 e_73.2.1 e_73.2.2
  else
  if Int32.toInt y0_16 = 2 then
    D_X8_readLine_108 P M_16 N_16
  else
  if Int32.toInt y0_16 = 3 then
    zB (D_X8_readParty P M_16 N_16) fun e_81 =>
    D_X8_readLine_114 P e_81.1 e_81.2.1 e_81.2.2
  else
  if Int32.toInt y0_16 = 4 then
    zB (D_X8_readAsks P M_16 N_16) fun e_89 =>
    D_X8_readLine_114 P e_89.1 e_89.2.1 e_89.2.2
  else
  if Int32.toInt y0_16 = 5 then
    D_X8_readLine_96 P M_16 N_16
  else
  if Int32.toInt y0_16 = 6 then
    D_X8_readLine_96 P M_16 N_16
  else
  if Int32.toInt y0_16 = 7 then
    D_X8_readLine_96 P M_16 N_16
  else
    D_X8_readLine_108 P M_16 N_16
noncomputable def D_X8_readLine (P : Nat) (M : zMt) (N : zNt) : Option (Int32 × zMt × zNt) :=
  if (M P 18) = (2 : Int32) then
    D_X8_readLine_16 P (M P 19) M N
  else
    D_X8_readLine_16 P (-1 : Int32) M N
set_option maxRecDepth 100000 in
set_option maxHeartbeats 4000000 in
theorem t_X8_readLine {l : Launch} {G : zG} {b : Nat} {L : List zC} {M : zMt} {N : zNt} {P : Nat}  (hP : LX8 L P) {r : Int32 × zMt × zNt} (h : D_X8_readLine P M N = some r) : zM l G b yX8_readLine cX8_readLine 2 (some .boolean) 8 0 0 [.ref P] (L, M, N) (fun r2 z => r2 = some (.int r.1) ∧ z = (L, r.2.1, r.2.2) ∧ (r.1 = 0 ∨ r.1 = 1)) := by
  refine zM.of miX8_readLine (Nat.le_of_ble_eq_true rfl) ?_
  intro p e s m args below meth c X hr hname
  generalize hF : ((fun r2 z => r2 = some (.int r.1) ∧ z = (L, r.2.1, r.2.2) ∧ (r.1 = 0 ∨ r.1 = 1)) : Option Value → zS → Prop) = FQ
  change Zw p l e { frames := 8, cells := 0, slots := 0, locals := 80 * (8) } s m args below meth c G b 2 (MQ below (zQ G b FQ) args s 0 0 (fun q : Nat => b ≤ q)) 0 0 0 [some (.ref P), none] [] (L, M, N)
  have p_lt := hP.1
  have p_o := hP.2.1
  have J_140 : ∀ (x1_140 : Int32) (y0_140 : Int32) (M_140 : zMt) (N_140 : zNt), (y0_140 = 0 ∨ y0_140 = 1) → D_X8_readLine_140 P y0_140 M_140 N_140 = some r → Zw p l e { frames := 8, cells := 0, slots := 0, locals := 80 * (8) } s m args below meth c G b 2 (MQ below (zQ G b FQ) args s 0 0 (fun q : Nat => b ≤ q)) 0 0 140 [some (.ref (P)), some (.int x1_140)] [.int y0_140] (L, M_140, N_140) := by
    intro x1_140 y0_140 M_140 N_140 fb_y0_140 h
    unfold D_X8_readLine_140 at h
    refine a_zret X (by first | exact Or.inl rfl | exact Or.inr rfl | assumption) hr dX8_readLine_140 ⟨by decide, by decide⟩ ?_
    subst hF
    rw [← Option.some.inj h]
    exact ⟨rfl, rfl, (by first | exact Or.inl rfl | exact Or.inr rfl | assumption)⟩
  have J_114 : ∀ (x1_114 : Int32) (M_114 : zMt) (N_114 : zNt), (x1_114 = 0 ∨ x1_114 = 1) → D_X8_readLine_114 P x1_114 M_114 N_114 = some r → Zw p l e { frames := 8, cells := 0, slots := 0, locals := 80 * (8) } s m args below meth c G b 2 (MQ below (zQ G b FQ) args s 0 0 (fun q : Nat => b ≤ q)) 0 0 114 [some (.ref (P)), some (.int x1_114)] [] (L, M_114, N_114) := by
    intro x1_114 M_114 N_114 fb_x1_114 h
    unfold D_X8_readLine_114 at h
    refine a_iload_n X dX8_readLine_114 rfl ?_
    refine a_if_ne (tgt := 120) X dX8_readLine_115 (by decide) (fun h_115 => ?_) (fun h_115 => ?_)
    · replace h := (if_neg h_115).symm.trans h
      refine a_aload_n X dX8_readLine_120 rfl ?_
      refine a_geti X lf8_160 (by first | exact p_o | assumption) rfl dX8_readLine_121 ?_
      refine a_iconst (v := 4) X dX8_readLine_124 (by decide) ?_
      refine a_icmp_ne (tgt := 135) X dX8_readLine_125 (by decide) (fun h_125 => ?_) (fun h_125 => ?_)
      · replace h := (if_neg h_125).symm.trans h
        refine a_aload_n X dX8_readLine_135 rfl ?_
        refine a_iconst (v := 2) X dX8_readLine_136 (by decide) ?_
        obtain ⟨e_137, f_137, h⟩ := zBx h
        refine a_callVx X dX8_readLine_137 miX8_bad lm8_214 (t_X8_bad (by first | exact hP | assumption) f_137) (by first | exact p_o | assumption) rfl rfl rfl (Nat.le_of_ble_eq_true rfl) ⟨by decide, by decide, by decide, by decide⟩ (fun r_137 S_137 q_137 => ?_)
        obtain ⟨rfl, rfl, b_137⟩ := q_137
        exact Zw.to2 (J_140 _ _ _ _ (by first | exact Or.inl rfl | exact Or.inr rfl | assumption) h) rfl rfl rfl
      · replace h := (if_pos h_125).symm.trans h
        refine a_aload_n X dX8_readLine_128 rfl ?_
        obtain ⟨e_129, f_129, h⟩ := zBx h
        refine a_callVx X dX8_readLine_129 miX8_next lm8_220 (t_X8_next (by first | exact hP | assumption) f_129) (by first | exact p_o | assumption) rfl rfl rfl (Nat.le_of_ble_eq_true rfl) ⟨by decide, by decide, by decide, by decide⟩ (fun r_129 S_129 q_129 => ?_)
        obtain ⟨rfl, rfl, b_129⟩ := q_129
        refine a_goto (tgt := 140) X dX8_readLine_132 (by decide) ?_
        exact Zw.to2 (J_140 _ _ _ _ (by first | exact Or.inl rfl | exact Or.inr rfl | assumption) h) rfl rfl rfl
    · replace h := (if_pos h_115).symm.trans h
      refine a_iconst (v := 0) X dX8_readLine_118 (by decide) ?_
      refine a_zret X (by first | exact Or.inl rfl | exact Or.inr rfl | assumption) hr dX8_readLine_119 ⟨by decide, by decide⟩ ?_
      subst hF
      rw [← Option.some.inj h]
      exact ⟨rfl, rfl, (by first | exact Or.inl rfl | exact Or.inr rfl | assumption)⟩
  have J_108 : ∀ (x1_108 : Option Value) (M_108 : zMt) (N_108 : zNt), D_X8_readLine_108 P M_108 N_108 = some r → Zw p l e { frames := 8, cells := 0, slots := 0, locals := 80 * (8) } s m args below meth c G b 2 (MQ below (zQ G b FQ) args s 0 0 (fun q : Nat => b ≤ q)) 0 0 108 [some (.ref (P)), x1_108] [] (L, M_108, N_108) := by
    intro x1_108 M_108 N_108 h
    unfold D_X8_readLine_108 at h
    refine a_aload_n X dX8_readLine_108 rfl ?_
    refine a_iconst (v := 2) X dX8_readLine_109 (by decide) ?_
    obtain ⟨e_110, f_110, h⟩ := zBx h
    refine a_callVx X dX8_readLine_110 miX8_bad lm8_214 (t_X8_bad (by first | exact hP | assumption) f_110) (by first | exact p_o | assumption) rfl rfl rfl (Nat.le_of_ble_eq_true rfl) ⟨by decide, by decide, by decide, by decide⟩ (fun r_110 S_110 q_110 => ?_)
    obtain ⟨rfl, rfl, b_110⟩ := q_110
    refine a_zret X (by first | exact Or.inl rfl | exact Or.inr rfl | assumption) hr dX8_readLine_113 ⟨by decide, by decide⟩ ?_
    subst hF
    rw [← Option.some.inj h]
    exact ⟨rfl, rfl, (by first | exact Or.inl rfl | exact Or.inr rfl | assumption)⟩
  have J_96 : ∀ (x1_96 : Option Value) (M_96 : zMt) (N_96 : zNt), D_X8_readLine_96 P M_96 N_96 = some r → Zw p l e { frames := 8, cells := 0, slots := 0, locals := 80 * (8) } s m args below meth c G b 2 (MQ below (zQ G b FQ) args s 0 0 (fun q : Nat => b ≤ q)) 0 0 96 [some (.ref (P)), x1_96] [] (L, M_96, N_96) := by
    intro x1_96 M_96 N_96 h
    unfold D_X8_readLine_96 at h
    refine a_aload_n X dX8_readLine_96 rfl ?_
    refine a_aload_n X dX8_readLine_97 rfl ?_
    refine a_geti X lf8_157 (by first | exact p_o | assumption) rfl dX8_readLine_98 ?_
    obtain ⟨e_101, f_101, h⟩ := zBx h
    refine a_callVx X dX8_readLine_101 miX8_readOnce lm8_260 (t_X8_readOnce (by first | exact hP | assumption) f_101) (by first | exact p_o | assumption) rfl rfl rfl (Nat.le_of_ble_eq_true rfl) ⟨by decide, by decide, by decide, by decide⟩ (fun r_101 S_101 q_101 => ?_)
    obtain ⟨rfl, rfl, b_101⟩ := q_101
    refine a_istore_n X dX8_readLine_104 (by decide) ?_
    refine a_goto (tgt := 114) X dX8_readLine_105 (by decide) ?_
    exact Zw.to2 (J_114 _ _ _ (by first | exact Or.inl rfl | exact Or.inr rfl | assumption) h) rfl rfl rfl
  have J_16 : ∀ (x1_16 : Option Value) (y0_16 : Int32) (M_16 : zMt) (N_16 : zNt), D_X8_readLine_16 P y0_16 M_16 N_16 = some r → Zw p l e { frames := 8, cells := 0, slots := 0, locals := 80 * (8) } s m args below meth c G b 2 (MQ below (zQ G b FQ) args s 0 0 (fun q : Nat => b ≤ q)) 0 0 16 [some (.ref (P)), x1_16] [.int y0_16] (L, M_16, N_16) := by
    intro x1_16 y0_16 M_16 N_16 h
    unfold D_X8_readLine_16 at h
    refine a_tsw (tg := [64, 72, 108, 80, 88, 96, 96, 96]) (td := 108) X dX8_readLine_16 (by decide +kernel) (by decide) (by decide) (fun k_16 t_16 ht_16 hx_16 => ?_) (fun hx_16 => ?_)
    · match k_16, ht_16, hx_16 with
      | 0, ht_16, hx_16 =>
        cases ht_16
        replace h := (if_pos (by omega)).symm.trans h
        refine a_aload_n X dX8_readLine_64 rfl ?_
        obtain ⟨e_65, f_65, h⟩ := zBx h
        refine a_callVx X dX8_readLine_65 miX8_readUnit lm8_248 (t_X8_readUnit (by first | exact hP | assumption) f_65) (by first | exact p_o | assumption) rfl rfl rfl (Nat.le_of_ble_eq_true rfl) ⟨by decide, by decide, by decide, by decide⟩ (fun r_65 S_65 q_65 => ?_)
        obtain ⟨rfl, rfl, b_65⟩ := q_65
        refine a_istore_n X dX8_readLine_68 (by decide) ?_
        refine a_goto (tgt := 114) X dX8_readLine_69 (by decide) ?_
        exact Zw.to2 (J_114 _ _ _ (by first | exact Or.inl rfl | exact Or.inr rfl | assumption) h) rfl rfl rfl
      | 1, ht_16, hx_16 =>
        cases ht_16
        replace h := (if_neg (by omega)).symm.trans h
        replace h := (if_pos (by omega)).symm.trans h
        refine a_aload_n X dX8_readLine_72 rfl ?_
        obtain ⟨e_73, f_73, h⟩ := zBx h
        refine a_callVx X dX8_readLine_73 miX8_readHunter lm8_251 (t_X8_readHunter (by first | exact hP | assumption) f_73) (by first | exact p_o | assumption) rfl rfl rfl (Nat.le_of_ble_eq_true rfl) ⟨by decide, by decide, by decide, by decide⟩ (fun r_73 S_73 q_73 => ?_)
        obtain ⟨rfl, rfl, b_73⟩ := q_73
        refine a_istore_n X dX8_readLine_76 (by decide) ?_
        refine a_goto (tgt := 114) X dX8_readLine_77 (by decide) ?_
        exact Zw.to2 (J_114 _ _ _ (by first | exact Or.inl rfl | exact Or.inr rfl | assumption) h) rfl rfl rfl
      | 2, ht_16, hx_16 =>
        cases ht_16
        replace h := (if_neg (by omega)).symm.trans h
        replace h := (if_neg (by omega)).symm.trans h
        replace h := (if_pos (by omega)).symm.trans h
        exact Zw.to2 (J_108 _ _ _ h) rfl rfl rfl
      | 3, ht_16, hx_16 =>
        cases ht_16
        replace h := (if_neg (by omega)).symm.trans h
        replace h := (if_neg (by omega)).symm.trans h
        replace h := (if_neg (by omega)).symm.trans h
        replace h := (if_pos (by omega)).symm.trans h
        refine a_aload_n X dX8_readLine_80 rfl ?_
        obtain ⟨e_81, f_81, h⟩ := zBx h
        refine a_callVx X dX8_readLine_81 miX8_readParty lm8_254 (t_X8_readParty (by first | exact hP | assumption) f_81) (by first | exact p_o | assumption) rfl rfl rfl (Nat.le_of_ble_eq_true rfl) ⟨by decide, by decide, by decide, by decide⟩ (fun r_81 S_81 q_81 => ?_)
        obtain ⟨rfl, rfl, b_81⟩ := q_81
        refine a_istore_n X dX8_readLine_84 (by decide) ?_
        refine a_goto (tgt := 114) X dX8_readLine_85 (by decide) ?_
        exact Zw.to2 (J_114 _ _ _ (by first | exact Or.inl rfl | exact Or.inr rfl | assumption) h) rfl rfl rfl
      | 4, ht_16, hx_16 =>
        cases ht_16
        replace h := (if_neg (by omega)).symm.trans h
        replace h := (if_neg (by omega)).symm.trans h
        replace h := (if_neg (by omega)).symm.trans h
        replace h := (if_neg (by omega)).symm.trans h
        replace h := (if_pos (by omega)).symm.trans h
        refine a_aload_n X dX8_readLine_88 rfl ?_
        obtain ⟨e_89, f_89, h⟩ := zBx h
        refine a_callVx X dX8_readLine_89 miX8_readAsks lm8_257 (t_X8_readAsks (by first | exact hP | assumption) f_89) (by first | exact p_o | assumption) rfl rfl rfl (Nat.le_of_ble_eq_true rfl) ⟨by decide, by decide, by decide, by decide⟩ (fun r_89 S_89 q_89 => ?_)
        obtain ⟨rfl, rfl, b_89⟩ := q_89
        refine a_istore_n X dX8_readLine_92 (by decide) ?_
        refine a_goto (tgt := 114) X dX8_readLine_93 (by decide) ?_
        exact Zw.to2 (J_114 _ _ _ (by first | exact Or.inl rfl | exact Or.inr rfl | assumption) h) rfl rfl rfl
      | 5, ht_16, hx_16 =>
        cases ht_16
        replace h := (if_neg (by omega)).symm.trans h
        replace h := (if_neg (by omega)).symm.trans h
        replace h := (if_neg (by omega)).symm.trans h
        replace h := (if_neg (by omega)).symm.trans h
        replace h := (if_neg (by omega)).symm.trans h
        replace h := (if_pos (by omega)).symm.trans h
        exact Zw.to2 (J_96 _ _ _ h) rfl rfl rfl
      | 6, ht_16, hx_16 =>
        cases ht_16
        replace h := (if_neg (by omega)).symm.trans h
        replace h := (if_neg (by omega)).symm.trans h
        replace h := (if_neg (by omega)).symm.trans h
        replace h := (if_neg (by omega)).symm.trans h
        replace h := (if_neg (by omega)).symm.trans h
        replace h := (if_neg (by omega)).symm.trans h
        replace h := (if_pos (by omega)).symm.trans h
        exact Zw.to2 (J_96 _ _ _ h) rfl rfl rfl
      | 7, ht_16, hx_16 =>
        cases ht_16
        replace h := (if_neg (by omega)).symm.trans h
        replace h := (if_neg (by omega)).symm.trans h
        replace h := (if_neg (by omega)).symm.trans h
        replace h := (if_neg (by omega)).symm.trans h
        replace h := (if_neg (by omega)).symm.trans h
        replace h := (if_neg (by omega)).symm.trans h
        replace h := (if_neg (by omega)).symm.trans h
        replace h := (if_pos (by omega)).symm.trans h
        exact Zw.to2 (J_96 _ _ _ h) rfl rfl rfl
    · skip
      replace h := (if_neg (by omega)).symm.trans h
      replace h := (if_neg (by omega)).symm.trans h
      replace h := (if_neg (by omega)).symm.trans h
      replace h := (if_neg (by omega)).symm.trans h
      replace h := (if_neg (by omega)).symm.trans h
      replace h := (if_neg (by omega)).symm.trans h
      replace h := (if_neg (by omega)).symm.trans h
      replace h := (if_neg (by omega)).symm.trans h
      exact Zw.to2 (J_108 _ _ _ h) rfl rfl rfl
  unfold D_X8_readLine at h
  refine a_aload_n X dX8_readLine_0 rfl ?_
  refine a_geti X lf8_160 (by first | exact p_o | assumption) rfl dX8_readLine_1 ?_
  refine a_iconst (v := 2) X dX8_readLine_4 (by decide) ?_
  refine a_icmp_ne (tgt := 15) X dX8_readLine_5 (by decide) (fun h_5 => ?_) (fun h_5 => ?_)
  · replace h := (if_neg h_5).symm.trans h
    refine a_iconst (v := -1) X dX8_readLine_15 (by decide) ?_
    exact Zw.to2 (J_16 _ _ _ _ h) rfl rfl rfl
  · replace h := (if_pos h_5).symm.trans h
    refine a_aload_n X dX8_readLine_8 rfl ?_
    refine a_geti X lf8_157 (by first | exact p_o | assumption) rfl dX8_readLine_9 ?_
    refine a_goto (tgt := 16) X dX8_readLine_12 (by decide) ?_
    exact Zw.to2 (J_16 _ _ _ _ h) rfl rfl rfl
noncomputable def D_X8_load_197 (P : Nat) (k164 : Int32 → zMt → zNt → Option (Int32 × zMt × zNt)) (x3_197 : Int32) (y1_197 : Int32) (y2_197 : Int32) (M_197 : zMt) (N_197 : zNt) : Option (Int32 × zMt × zNt) :=
  zI y1_197 10 <|
  zLt (zu M_197 (P + 5) y1_197.toNatClampNeg y2_197) fun M_197 =>
  k164 (x3_197 + 1) M_197 N_197
noncomputable def D_X8_load_196 (P : Nat) (k164 : Int32 → zMt → zNt → Option (Int32 × zMt × zNt)) (x3_196 : Int32) (y1_196 : Int32) (M_196 : zMt) (N_196 : zNt) : Option (Int32 × zMt × zNt) :=
  D_X8_load_197 P k164 x3_196 y1_196 (0 : Int32) M_196 N_196
noncomputable def D_X8_load_164 (P : Nat) : Nat → Int32 → zMt → zNt → Option (Int32 × zMt × zNt)
  | 0, _, _, _ => none
  | n + 1, x3_164, M_164, N_164 =>
    if (10 : Int32) ≤ x3_164 then
      zLt (zu M_164 P 7 (M_164 P 28)) fun M_209 =>
      zLt (zu M_209 P 8 (M_209 P 29)) fun M_217 =>
      zLt (zu M_217 P 9 (0 : Int32)) fun M_222 =>
      zB (D_X8_gives P (M_222 P 8) M_222) fun e_230 =>
      some (e_230.1, e_230.2, N_164)
    else
      if (M_164 P 29) ≤ x3_164 then
        D_X8_load_196 P (D_X8_load_164 P n) x3_164 x3_164 M_164 N_164
      else
        zI x3_164 10 <|
        if (M_164 (P + 6) x3_164.toNatClampNeg) = 0 then
          D_X8_load_196 P (D_X8_load_164 P n) x3_164 x3_164 M_164 N_164
        else
          D_X8_load_197 P (D_X8_load_164 P n) x3_164 x3_164 (1 : Int32) M_164 N_164
noncomputable def D_X8_load_138 (P : Nat) : Nat → Int32 → zMt → zNt → Option (Int32 × zMt × zNt)
  | 0, _, _, _ => none
  | n + 1, x3_138, M_138, N_138 =>
    if (82 : Int32) ≤ x3_138 then
      D_X8_load_164 P zFu (0 : Int32) M_138 N_138
    else
      zI x3_138 82 <|
      zI x3_138 82 <|
      zLt (zu M_138 (P + 1) x3_138.toNatClampNeg (M_138 (P + 2) x3_138.toNatClampNeg)) fun M_155 =>
      (D_X8_load_138 P n) (x3_138 + 1) M_155 N_138
noncomputable def D_X8_load_98 (P : Nat) (x2_98 : Int32) (M_98 : zMt) (N_98 : zNt) : Option (Int32 × zMt × zNt) :=
  zLt (zu M_98 P 13 (M_98 P 21)) fun M_103 =>
  zLt (zu M_103 P 14 (M_103 P 22)) fun M_111 =>
  if x2_98 = 0 then
    zB (D_X8_refuse P (9 : Int32) M_111) fun e_121 =>
    some (e_121.1, e_121.2, N_98)
  else
    zI (70 : Int32) 82 <|
    zLt (zu M_111 (P + 2) (70 : Int32).toNatClampNeg (M_111 P 30)) fun M_135 =>
    D_X8_load_138 P zFu (0 : Int32) M_135 N_98
noncomputable def D_X8_load_79 (P : Nat) : Nat → Int32 → zMt → zNt → Option (Int32 × zMt × zNt)
  | 0, _, _, _ => none
  | n + 1, x2_79, M_79, N_79 =>
    if x2_79 = 0 then
      D_X8_load_98 P x2_79 M_79 N_79
    else
      if (M_79 P 18) = 0 then
        D_X8_load_98 P x2_79 M_79 N_79
      else
        zB (D_X8_readLine P M_79 N_79) fun e_91 =>
        (D_X8_load_79 P n) e_91.1 e_91.2.1 e_91.2.2
noncomputable def D_X8_load (P : Nat) (v0 : Int32) (M : zMt) (N : zNt) : Option (Int32 × zMt × zNt) :=
  zB (D_X8_isFrom (Int32.toInt64 v0) (0 : Int64) (Int32.toInt64 (M P 11))) fun e_8 =>
  if e_8 = 0 then
    zB (D_X8_refuse P (1 : Int32) M) fun e_16 =>
    some (e_16.1, e_16.2, N)
  else
    zLt (zu M P 15 v0) fun M_22 =>
    zLt (zu M_22 P 11 (0 : Int32)) fun M_27 =>
    zLt (zu M_27 P 17 (0 : Int32)) fun M_32 =>
    zLt (zu M_32 P 21 (0 : Int32)) fun M_37 =>
    zLt (zu M_37 P 22 (-1 : Int32)) fun M_42 =>
    zLt (zu M_42 P 23 (0 : Int32)) fun M_47 =>
    zLt (zu M_47 P 28 (0 : Int32)) fun M_52 =>
    zLt (zu M_52 P 29 (0 : Int32)) fun M_57 =>
    zLt (zu M_57 P 30 (0 : Int32)) fun M_62 =>
    zB (D_X8_begins (P + 2) 82 M_62) fun e_69 =>
    zB (D_X8_next P e_69 N) fun e_73 =>
    D_X8_load_79 P zFu (1 : Int32) e_73.2.1 e_73.2.2
set_option maxRecDepth 100000 in
set_option maxHeartbeats 4000000 in
theorem t_X8_load {l : Launch} {G : zG} {b : Nat} {L : List zC} {M : zMt} {N : zNt} {P : Nat} {v0 : Int32} (hP : LX8 L P) {r : Int32 × zMt × zNt} (h : D_X8_load P v0 M N = some r) : zM l G b yX8_load cX8_load 4 (some .int) 9 0 0 [.ref P, .int v0] (L, M, N) (fun r2 z => r2 = some (.int r.1) ∧ z = (L, r.2.1, r.2.2)) := by
  refine zM.of miX8_load (Nat.le_of_ble_eq_true rfl) ?_
  intro p e s m args below meth c X hr hname
  generalize hF : ((fun r2 z => r2 = some (.int r.1) ∧ z = (L, r.2.1, r.2.2)) : Option Value → zS → Prop) = FQ
  change Zw p l e { frames := 9, cells := 0, slots := 0, locals := 80 * (9) } s m args below meth c G b 4 (MQ below (zQ G b FQ) args s 0 0 (fun q : Nat => b ≤ q)) 0 0 0 [some (.ref P), some (.int v0), none, none] [] (L, M, N)
  have p_lt := hP.1
  have p_o := hP.2.1
  have p_s := hP.2.2.1
  have p_read := hP.2.2.2.1
  have p_guest := hP.2.2.2.2.2.2.1
  have p_readGuest := hP.2.2.2.2.2.2.2.1
  have L_164 : ∀ u : Nat, ∀ (x1_164 : Int32) (x2_164 : Int32) (x3_164 : Int32) (M_164 : zMt) (N_164 : zNt), D_X8_load_164 P u x3_164 M_164 N_164 = some r → Zw p l e { frames := 9, cells := 0, slots := 0, locals := 80 * (9) } s m args below meth c G b 4 (MQ below (zQ G b FQ) args s 0 0 (fun q : Nat => b ≤ q)) 0 0 164 [some (.ref (P)), some (.int x1_164), some (.int x2_164), some (.int x3_164)] [] (L, M_164, N_164) := by
    intro u
    induction u with
    | zero => intro x1_164 x2_164 x3_164 M_164 N_164 h; cases (show none = some r from h)
    | succ u_164 ih_164 =>
      have J_197 : ∀ (x1_197 : Int32) (x2_197 : Int32) (x3_197 : Int32) (y1_197 : Int32) (y2_197 : Int32) (M_197 : zMt) (N_197 : zNt), (y2_197 = 0 ∨ y2_197 = 1) → D_X8_load_197 P (D_X8_load_164 P u_164) x3_197 y1_197 y2_197 M_197 N_197 = some r → Zw p l e { frames := 9, cells := 0, slots := 0, locals := 80 * (9) } s m args below meth c G b 4 (MQ below (zQ G b FQ) args s 0 0 (fun q : Nat => b ≤ q)) 0 0 197 [some (.ref (P)), some (.int x1_197), some (.int x2_197), some (.int x3_197)] [.int y2_197, .int y1_197, .ref (P + 5)] (L, M_197, N_197) := by
        intro x1_197 x2_197 x3_197 y1_197 y2_197 M_197 N_197 fb_y2_197 h
        unfold D_X8_load_197 at h
        obtain ⟨g_197, h⟩ := zIx h
        obtain ⟨M_197, f_197, h⟩ := zLtx h
        refine d_bastore X (by first | exact Or.inl rfl | exact Or.inr rfl | assumption) (by first | exact p_guest | assumption) g_197 dX8_load_197 f_197 ?_
        refine a_iinc (v := x3_197 + 1) X dX8_load_198 (by decide) rfl zi_1 ?_
        refine a_goto (tgt := 164) X dX8_load_201 (by decide) ?_
        exact Zw.to2 (ih_164 _ _ _ _ _ h) rfl rfl rfl
      have J_196 : ∀ (x1_196 : Int32) (x2_196 : Int32) (x3_196 : Int32) (y1_196 : Int32) (M_196 : zMt) (N_196 : zNt), D_X8_load_196 P (D_X8_load_164 P u_164) x3_196 y1_196 M_196 N_196 = some r → Zw p l e { frames := 9, cells := 0, slots := 0, locals := 80 * (9) } s m args below meth c G b 4 (MQ below (zQ G b FQ) args s 0 0 (fun q : Nat => b ≤ q)) 0 0 196 [some (.ref (P)), some (.int x1_196), some (.int x2_196), some (.int x3_196)] [.int y1_196, .ref (P + 5)] (L, M_196, N_196) := by
        intro x1_196 x2_196 x3_196 y1_196 M_196 N_196 h
        unfold D_X8_load_196 at h
        refine a_iconst (v := 0) X dX8_load_196 (by decide) ?_
        exact Zw.to2 (J_197 _ _ _ _ _ _ _ (by first | exact Or.inl rfl | exact Or.inr rfl | assumption) h) rfl rfl rfl
      intro x1_164 x2_164 x3_164 M_164 N_164 h
      rw [D_X8_load_164] at h
      refine a_iload_n X dX8_load_164 rfl ?_
      refine a_bipush (v := 10) X dX8_load_165 (by decide) ?_
      refine a_icmp_ge (tgt := 204) X dX8_load_167 (by decide) (fun h_167 => ?_) (fun h_167 => ?_)
      · replace h := (if_pos h_167).symm.trans h
        refine a_aload_n X dX8_load_204 rfl ?_
        refine a_aload_n X dX8_load_205 rfl ?_
        refine a_geti X lf8_201 (by first | exact p_o | assumption) rfl dX8_load_206 ?_
        obtain ⟨M_209, f_209, h⟩ := zLtx h
        refine d_puti X lf8_125 (by first | exact p_o | assumption) rfl dX8_load_209 f_209 ?_
        refine a_aload_n X dX8_load_212 rfl ?_
        refine a_aload_n X dX8_load_213 rfl ?_
        refine a_geti X lf8_208 (by first | exact p_o | assumption) rfl dX8_load_214 ?_
        obtain ⟨M_217, f_217, h⟩ := zLtx h
        refine d_puti X lf8_132 (by first | exact p_o | assumption) rfl dX8_load_217 f_217 ?_
        refine a_aload_n X dX8_load_220 rfl ?_
        refine a_iconst (v := 0) X dX8_load_221 (by decide) ?_
        obtain ⟨M_222, f_222, h⟩ := zLtx h
        refine d_puti X lf8_269 (by first | exact p_o | assumption) rfl dX8_load_222 f_222 ?_
        refine a_aload_n X dX8_load_225 rfl ?_
        refine a_aload_n X dX8_load_226 rfl ?_
        refine a_geti X lf8_132 (by first | exact p_o | assumption) rfl dX8_load_227 ?_
        obtain ⟨e_230, f_230, h⟩ := zBx h
        refine a_callVv X dX8_load_230 miX8_gives lm8_272 (t_X8_gives (by first | exact hP | assumption) f_230) (by first | exact p_o | assumption) rfl rfl rfl (Nat.le_of_ble_eq_true rfl) ⟨by decide, by decide, by decide, by decide⟩ ?_
        refine a_iret X hr dX8_load_233 ⟨by decide, by decide⟩ ?_
        subst hF
        rw [← Option.some.inj h]
        exact ⟨rfl, rfl⟩
      · replace h := (if_neg h_167).symm.trans h
        refine a_aload_n X dX8_load_170 rfl ?_
        refine a_getr X lf8_22 (by first | exact p_o | assumption) rfl (by omega) dX8_load_171 ?_
        refine a_iload_n X dX8_load_174 rfl ?_
        refine a_iload_n X dX8_load_175 rfl ?_
        refine a_aload_n X dX8_load_176 rfl ?_
        refine a_geti X lf8_208 (by first | exact p_o | assumption) rfl dX8_load_177 ?_
        refine a_icmp_ge (tgt := 196) X dX8_load_180 (by decide) (fun h_180 => ?_) (fun h_180 => ?_)
        · replace h := (if_pos h_180).symm.trans h
          exact Zw.to2 (J_196 _ _ _ _ _ _ h) rfl rfl rfl
        · replace h := (if_neg h_180).symm.trans h
          refine a_aload_n X dX8_load_183 rfl ?_
          refine a_getr X lf8_26 (by first | exact p_o | assumption) rfl (by omega) dX8_load_184 ?_
          refine a_iload_n X dX8_load_187 rfl ?_
          obtain ⟨g_188, h⟩ := zIx h
          refine a_baload X (by first | exact p_readGuest | assumption) g_188 dX8_load_188 ?_
          refine a_if_eq (tgt := 196) X dX8_load_189 (by decide) (fun h_189 => ?_) (fun h_189 => ?_)
          · replace h := (if_pos h_189).symm.trans h
            exact Zw.to2 (J_196 _ _ _ _ _ _ h) rfl rfl rfl
          · replace h := (if_neg h_189).symm.trans h
            refine a_iconst (v := 1) X dX8_load_192 (by decide) ?_
            refine a_goto (tgt := 197) X dX8_load_193 (by decide) ?_
            exact Zw.to2 (J_197 _ _ _ _ _ _ _ (by first | exact Or.inl rfl | exact Or.inr rfl | assumption) h) rfl rfl rfl
  have H_164 : ∀ (x1_164 : Int32) (x2_164 : Int32) (x3_164 : Int32) (M_164 : zMt) (N_164 : zNt), D_X8_load_164 P zFu x3_164 M_164 N_164 = some r → Zw p l e { frames := 9, cells := 0, slots := 0, locals := 80 * (9) } s m args below meth c G b 4 (MQ below (zQ G b FQ) args s 0 0 (fun q : Nat => b ≤ q)) 0 0 164 [some (.ref (P)), some (.int x1_164), some (.int x2_164), some (.int x3_164)] [] (L, M_164, N_164) := L_164 zFu
  have L_138 : ∀ u : Nat, ∀ (x1_138 : Int32) (x2_138 : Int32) (x3_138 : Int32) (M_138 : zMt) (N_138 : zNt), D_X8_load_138 P u x3_138 M_138 N_138 = some r → Zw p l e { frames := 9, cells := 0, slots := 0, locals := 80 * (9) } s m args below meth c G b 4 (MQ below (zQ G b FQ) args s 0 0 (fun q : Nat => b ≤ q)) 0 0 138 [some (.ref (P)), some (.int x1_138), some (.int x2_138), some (.int x3_138)] [] (L, M_138, N_138) := by
    intro u
    induction u with
    | zero => intro x1_138 x2_138 x3_138 M_138 N_138 h; cases (show none = some r from h)
    | succ u_138 ih_138 =>
      intro x1_138 x2_138 x3_138 M_138 N_138 h
      rw [D_X8_load_138] at h
      refine a_iload_n X dX8_load_138 rfl ?_
      refine a_bipush (v := 82) X dX8_load_139 (by decide) ?_
      refine a_icmp_ge (tgt := 162) X dX8_load_141 (by decide) (fun h_141 => ?_) (fun h_141 => ?_)
      · replace h := (if_pos h_141).symm.trans h
        refine a_iconst (v := 0) X dX8_load_162 (by decide) ?_
        refine a_istore_n X dX8_load_163 (by decide) ?_
        exact Zw.to2 (H_164 _ _ _ _ _ h) rfl rfl rfl
      · replace h := (if_neg h_141).symm.trans h
        refine a_aload_n X dX8_load_144 rfl ?_
        refine a_getr X lf8_7 (by first | exact p_o | assumption) rfl (by omega) dX8_load_145 ?_
        refine a_iload_n X dX8_load_148 rfl ?_
        refine a_aload_n X dX8_load_149 rfl ?_
        refine a_getr X lf8_13 (by first | exact p_o | assumption) rfl (by omega) dX8_load_150 ?_
        refine a_iload_n X dX8_load_153 rfl ?_
        obtain ⟨g_154, h⟩ := zIx h
        refine a_iaload X (by first | exact p_read | assumption) g_154 dX8_load_154 ?_
        obtain ⟨g_155, h⟩ := zIx h
        obtain ⟨M_155, f_155, h⟩ := zLtx h
        refine d_iastore X (by first | exact p_s | assumption) g_155 dX8_load_155 f_155 ?_
        refine a_iinc (v := x3_138 + 1) X dX8_load_156 (by decide) rfl zi_1 ?_
        refine a_goto (tgt := 138) X dX8_load_159 (by decide) ?_
        exact Zw.to2 (ih_138 _ _ _ _ _ h) rfl rfl rfl
  have H_138 : ∀ (x1_138 : Int32) (x2_138 : Int32) (x3_138 : Int32) (M_138 : zMt) (N_138 : zNt), D_X8_load_138 P zFu x3_138 M_138 N_138 = some r → Zw p l e { frames := 9, cells := 0, slots := 0, locals := 80 * (9) } s m args below meth c G b 4 (MQ below (zQ G b FQ) args s 0 0 (fun q : Nat => b ≤ q)) 0 0 138 [some (.ref (P)), some (.int x1_138), some (.int x2_138), some (.int x3_138)] [] (L, M_138, N_138) := L_138 zFu
  have J_98 : ∀ (x1_98 : Int32) (x2_98 : Int32) (x3_98 : Option Value) (M_98 : zMt) (N_98 : zNt), (x2_98 = 0 ∨ x2_98 = 1) → D_X8_load_98 P x2_98 M_98 N_98 = some r → Zw p l e { frames := 9, cells := 0, slots := 0, locals := 80 * (9) } s m args below meth c G b 4 (MQ below (zQ G b FQ) args s 0 0 (fun q : Nat => b ≤ q)) 0 0 98 [some (.ref (P)), some (.int x1_98), some (.int x2_98), x3_98] [] (L, M_98, N_98) := by
    intro x1_98 x2_98 x3_98 M_98 N_98 fb_x2_98 h
    unfold D_X8_load_98 at h
    refine a_aload_n X dX8_load_98 rfl ?_
    refine a_aload_n X dX8_load_99 rfl ?_
    refine a_geti X lf8_195 (by first | exact p_o | assumption) rfl dX8_load_100 ?_
    obtain ⟨M_103, f_103, h⟩ := zLtx h
    refine d_puti X lf8_32 (by first | exact p_o | assumption) rfl dX8_load_103 f_103 ?_
    refine a_aload_n X dX8_load_106 rfl ?_
    refine a_aload_n X dX8_load_107 rfl ?_
    refine a_geti X lf8_198 (by first | exact p_o | assumption) rfl dX8_load_108 ?_
    obtain ⟨M_111, f_111, h⟩ := zLtx h
    refine d_puti X lf8_36 (by first | exact p_o | assumption) rfl dX8_load_111 f_111 ?_
    refine a_iload_n X dX8_load_114 rfl ?_
    refine a_if_ne (tgt := 125) X dX8_load_115 (by decide) (fun h_115 => ?_) (fun h_115 => ?_)
    · replace h := (if_neg h_115).symm.trans h
      refine a_aload_n X dX8_load_125 rfl ?_
      refine a_getr X lf8_13 (by first | exact p_o | assumption) rfl (by omega) dX8_load_126 ?_
      refine a_bipush (v := 70) X dX8_load_129 (by decide) ?_
      refine a_aload_n X dX8_load_131 rfl ?_
      refine a_geti X lf8_211 (by first | exact p_o | assumption) rfl dX8_load_132 ?_
      obtain ⟨g_135, h⟩ := zIx h
      obtain ⟨M_135, f_135, h⟩ := zLtx h
      refine d_iastore X (by first | exact p_read | assumption) g_135 dX8_load_135 f_135 ?_
      refine a_iconst (v := 0) X dX8_load_136 (by decide) ?_
      refine a_istore_n X dX8_load_137 (by decide) ?_
      exact Zw.to2 (H_138 _ _ _ _ _ h) rfl rfl rfl
    · replace h := (if_pos h_115).symm.trans h
      refine a_aload_n X dX8_load_118 rfl ?_
      refine a_bipush (v := 9) X dX8_load_119 (by decide) ?_
      obtain ⟨e_121, f_121, h⟩ := zBx h
      refine a_callVv X dX8_load_121 miX8_refuse lm8_263 (t_X8_refuse (by first | exact hP | assumption) f_121) (by first | exact p_o | assumption) rfl rfl rfl (Nat.le_of_ble_eq_true rfl) ⟨by decide, by decide, by decide, by decide⟩ ?_
      refine a_iret X hr dX8_load_124 ⟨by decide, by decide⟩ ?_
      subst hF
      rw [← Option.some.inj h]
      exact ⟨rfl, rfl⟩
  have L_79 : ∀ u : Nat, ∀ (x1_79 : Int32) (x2_79 : Int32) (x3_79 : Option Value) (M_79 : zMt) (N_79 : zNt), (x2_79 = 0 ∨ x2_79 = 1) → D_X8_load_79 P u x2_79 M_79 N_79 = some r → Zw p l e { frames := 9, cells := 0, slots := 0, locals := 80 * (9) } s m args below meth c G b 4 (MQ below (zQ G b FQ) args s 0 0 (fun q : Nat => b ≤ q)) 0 0 79 [some (.ref (P)), some (.int x1_79), some (.int x2_79), x3_79] [] (L, M_79, N_79) := by
    intro u
    induction u with
    | zero => intro x1_79 x2_79 x3_79 M_79 N_79 fb_x2_79 h; cases (show none = some r from h)
    | succ u_79 ih_79 =>
      intro x1_79 x2_79 x3_79 M_79 N_79 fb_x2_79 h
      rw [D_X8_load_79] at h
      refine a_iload_n X dX8_load_79 rfl ?_
      refine a_if_eq (tgt := 98) X dX8_load_80 (by decide) (fun h_80 => ?_) (fun h_80 => ?_)
      · replace h := (if_pos h_80).symm.trans h
        exact Zw.to2 (J_98 _ _ _ _ _ (by first | exact Or.inl rfl | exact Or.inr rfl | assumption) h) rfl rfl rfl
      · replace h := (if_neg h_80).symm.trans h
        refine a_aload_n X dX8_load_83 rfl ?_
        refine a_geti X lf8_160 (by first | exact p_o | assumption) rfl dX8_load_84 ?_
        refine a_if_eq (tgt := 98) X dX8_load_87 (by decide) (fun h_87 => ?_) (fun h_87 => ?_)
        · replace h := (if_pos h_87).symm.trans h
          exact Zw.to2 (J_98 _ _ _ _ _ (by first | exact Or.inl rfl | exact Or.inr rfl | assumption) h) rfl rfl rfl
        · replace h := (if_neg h_87).symm.trans h
          refine a_aload_n X dX8_load_90 rfl ?_
          obtain ⟨e_91, f_91, h⟩ := zBx h
          refine a_callVx X dX8_load_91 miX8_readLine lm8_266 (t_X8_readLine (by first | exact hP | assumption) f_91) (by first | exact p_o | assumption) rfl rfl rfl (Nat.le_of_ble_eq_true rfl) ⟨by decide, by decide, by decide, by decide⟩ (fun r_91 S_91 q_91 => ?_)
          obtain ⟨rfl, rfl, b_91⟩ := q_91
          refine a_istore_n X dX8_load_94 (by decide) ?_
          refine a_goto (tgt := 79) X dX8_load_95 (by decide) ?_
          exact Zw.to2 (ih_79 _ _ _ _ _ (by first | exact Or.inl rfl | exact Or.inr rfl | assumption) h) rfl rfl rfl
  have H_79 : ∀ (x1_79 : Int32) (x2_79 : Int32) (x3_79 : Option Value) (M_79 : zMt) (N_79 : zNt), (x2_79 = 0 ∨ x2_79 = 1) → D_X8_load_79 P zFu x2_79 M_79 N_79 = some r → Zw p l e { frames := 9, cells := 0, slots := 0, locals := 80 * (9) } s m args below meth c G b 4 (MQ below (zQ G b FQ) args s 0 0 (fun q : Nat => b ≤ q)) 0 0 79 [some (.ref (P)), some (.int x1_79), some (.int x2_79), x3_79] [] (L, M_79, N_79) := L_79 zFu
  unfold D_X8_load at h
  refine a_iload_n X dX8_load_0 rfl ?_
  refine a_i2l X dX8_load_1 ?_
  refine a_lconst (v := 0) X dX8_load_2 (by decide) ?_
  refine a_aload_n X dX8_load_3 rfl ?_
  refine a_geti X lf8_137 (by first | exact p_o | assumption) rfl dX8_load_4 ?_
  refine a_i2l X dX8_load_7 ?_
  obtain ⟨e_8, f_8, h⟩ := zBx h
  refine a_callSx X dX8_load_8 miX8_isFrom lm8_128 (t_X8_isFrom f_8) rfl rfl (Nat.le_of_ble_eq_true rfl) ⟨by decide, by decide, by decide, by decide⟩ (fun r_8 S_8 q_8 => ?_)
  obtain ⟨rfl, rfl, b_8⟩ := q_8
  refine a_if_ne (tgt := 20) X dX8_load_11 (by decide) (fun h_11 => ?_) (fun h_11 => ?_)
  · replace h := (if_neg h_11).symm.trans h
    refine a_aload_n X dX8_load_20 rfl ?_
    refine a_iload_n X dX8_load_21 rfl ?_
    obtain ⟨M_22, f_22, h⟩ := zLtx h
    refine d_puti X lf8_144 (by first | exact p_o | assumption) rfl dX8_load_22 f_22 ?_
    refine a_aload_n X dX8_load_25 rfl ?_
    refine a_iconst (v := 0) X dX8_load_26 (by decide) ?_
    obtain ⟨M_27, f_27, h⟩ := zLtx h
    refine d_puti X lf8_137 (by first | exact p_o | assumption) rfl dX8_load_27 f_27 ?_
    refine a_aload_n X dX8_load_30 rfl ?_
    refine a_iconst (v := 0) X dX8_load_31 (by decide) ?_
    obtain ⟨M_32, f_32, h⟩ := zLtx h
    refine d_puti X lf8_147 (by first | exact p_o | assumption) rfl dX8_load_32 f_32 ?_
    refine a_aload_n X dX8_load_35 rfl ?_
    refine a_iconst (v := 0) X dX8_load_36 (by decide) ?_
    obtain ⟨M_37, f_37, h⟩ := zLtx h
    refine d_puti X lf8_195 (by first | exact p_o | assumption) rfl dX8_load_37 f_37 ?_
    refine a_aload_n X dX8_load_40 rfl ?_
    refine a_iconst (v := -1) X dX8_load_41 (by decide) ?_
    obtain ⟨M_42, f_42, h⟩ := zLtx h
    refine d_puti X lf8_198 (by first | exact p_o | assumption) rfl dX8_load_42 f_42 ?_
    refine a_aload_n X dX8_load_45 rfl ?_
    refine a_iconst (v := 0) X dX8_load_46 (by decide) ?_
    obtain ⟨M_47, f_47, h⟩ := zLtx h
    refine d_puti X lf8_243 (by first | exact p_o | assumption) rfl dX8_load_47 f_47 ?_
    refine a_aload_n X dX8_load_50 rfl ?_
    refine a_iconst (v := 0) X dX8_load_51 (by decide) ?_
    obtain ⟨M_52, f_52, h⟩ := zLtx h
    refine d_puti X lf8_201 (by first | exact p_o | assumption) rfl dX8_load_52 f_52 ?_
    refine a_aload_n X dX8_load_55 rfl ?_
    refine a_iconst (v := 0) X dX8_load_56 (by decide) ?_
    obtain ⟨M_57, f_57, h⟩ := zLtx h
    refine d_puti X lf8_208 (by first | exact p_o | assumption) rfl dX8_load_57 f_57 ?_
    refine a_aload_n X dX8_load_60 rfl ?_
    refine a_iconst (v := 0) X dX8_load_61 (by decide) ?_
    obtain ⟨M_62, f_62, h⟩ := zLtx h
    refine d_puti X lf8_211 (by first | exact p_o | assumption) rfl dX8_load_62 f_62 ?_
    refine a_aload_n X dX8_load_65 rfl ?_
    refine a_getr X lf8_13 (by first | exact p_o | assumption) rfl (by omega) dX8_load_66 ?_
    obtain ⟨e_69, f_69, h⟩ := zBx h
    refine a_callSu X dX8_load_69 miX8_begins lm8_115 (t_X8_begins (by first | exact p_read | assumption) (by decide) f_69) rfl rfl (Nat.le_of_ble_eq_true rfl) ⟨by decide, by decide, by decide, by decide⟩ ?_
    refine a_aload_n X dX8_load_72 rfl ?_
    obtain ⟨e_73, f_73, h⟩ := zBx h
    refine a_callVx X dX8_load_73 miX8_next lm8_220 (t_X8_next (by first | exact hP | assumption) f_73) (by first | exact p_o | assumption) rfl rfl rfl (Nat.le_of_ble_eq_true rfl) ⟨by decide, by decide, by decide, by decide⟩ (fun r_73 S_73 q_73 => ?_)
    obtain ⟨rfl, rfl, b_73⟩ := q_73
    refine a_pop X dX8_load_76 rfl ?_
    refine a_iconst (v := 1) X dX8_load_77 (by decide) ?_
    refine a_istore_n X dX8_load_78 (by decide) ?_
    exact Zw.to2 (H_79 _ _ _ _ _ (by first | exact Or.inl rfl | exact Or.inr rfl | assumption) h) rfl rfl rfl
  · replace h := (if_pos h_11).symm.trans h
    refine a_aload_n X dX8_load_14 rfl ?_
    refine a_iconst (v := 1) X dX8_load_15 (by decide) ?_
    obtain ⟨e_16, f_16, h⟩ := zBx h
    refine a_callVv X dX8_load_16 miX8_refuse lm8_263 (t_X8_refuse (by first | exact hP | assumption) f_16) (by first | exact p_o | assumption) rfl rfl rfl (Nat.le_of_ble_eq_true rfl) ⟨by decide, by decide, by decide, by decide⟩ ?_
    refine a_iret X hr dX8_load_19 ⟨by decide, by decide⟩ ?_
    subst hF
    rw [← Option.some.inj h]
    exact ⟨rfl, rfl⟩
noncomputable def D_X8_fault_29 (P : Nat) (y0_29 : Int32) (M_29 : zMt) : Option (Int32 × zMt) :=
  some (y0_29, M_29)
noncomputable def D_X8_fault (P : Nat) (v0 : Int32) (M : zMt) : Option (Int32 × zMt) :=
  zLt (zu M P 6 (0 : Int32)) fun M_2 =>
  if v0 = 0 then
    D_X8_fault_29 P (M_2 P 13) M_2
  else
    if v0 = (1 : Int32) then
      D_X8_fault_29 P (M_2 P 14) M_2
    else
      D_X8_fault_29 P (-1 : Int32) M_2
set_option maxRecDepth 100000 in
set_option maxHeartbeats 4000000 in
theorem t_X8_fault {l : Launch} {G : zG} {b : Nat} {L : List zC} {M : zMt} {N : zNt} {P : Nat} {v0 : Int32} (hP : LX8 L P) {r : Int32 × zMt} (h : D_X8_fault P v0 M = some r) : zM l G b yX8_fault cX8_fault 2 (some .int) 0 0 0 [.ref P, .int v0] (L, M, N) (fun r2 z => r2 = some (.int r.1) ∧ z = (L, r.2, N)) := by
  refine zM.of miX8_fault (Nat.le_of_ble_eq_true rfl) ?_
  intro p e s m args below meth c X hr hname
  generalize hF : ((fun r2 z => r2 = some (.int r.1) ∧ z = (L, r.2, N)) : Option Value → zS → Prop) = FQ
  change Zw p l e { frames := 0, cells := 0, slots := 0, locals := 80 * (0) } s m args below meth c G b 2 (MQ below (zQ G b FQ) args s 0 0 (fun q : Nat => b ≤ q)) 0 0 0 [some (.ref P), some (.int v0)] [] (L, M, N)
  have p_lt := hP.1
  have p_o := hP.2.1
  have J_29 : ∀ (x1_29 : Int32) (y0_29 : Int32) (M_29 : zMt), D_X8_fault_29 P y0_29 M_29 = some r → Zw p l e { frames := 0, cells := 0, slots := 0, locals := 80 * (0) } s m args below meth c G b 2 (MQ below (zQ G b FQ) args s 0 0 (fun q : Nat => b ≤ q)) 0 0 29 [some (.ref (P)), some (.int x1_29)] [.int y0_29] (L, M_29, N) := by
    intro x1_29 y0_29 M_29 h
    unfold D_X8_fault_29 at h
    refine a_iret X hr dX8_fault_29 ⟨by decide, by decide⟩ ?_
    subst hF
    rw [← Option.some.inj h]
    exact ⟨rfl, rfl⟩
  unfold D_X8_fault at h
  refine a_aload_n X dX8_fault_0 rfl ?_
  refine a_iconst (v := 0) X dX8_fault_1 (by decide) ?_
  obtain ⟨M_2, f_2, h⟩ := zLtx h
  refine d_puti X lf8_119 (by first | exact p_o | assumption) rfl dX8_fault_2 f_2 ?_
  refine a_iload_n X dX8_fault_5 rfl ?_
  refine a_if_ne (tgt := 16) X dX8_fault_6 (by decide) (fun h_6 => ?_) (fun h_6 => ?_)
  · replace h := (if_neg h_6).symm.trans h
    refine a_iload_n X dX8_fault_16 rfl ?_
    refine a_iconst (v := 1) X dX8_fault_17 (by decide) ?_
    refine a_icmp_ne (tgt := 28) X dX8_fault_18 (by decide) (fun h_18 => ?_) (fun h_18 => ?_)
    · replace h := (if_neg h_18).symm.trans h
      refine a_iconst (v := -1) X dX8_fault_28 (by decide) ?_
      exact Zw.to2 (J_29 _ _ _ h) rfl rfl rfl
    · replace h := (if_pos h_18).symm.trans h
      refine a_aload_n X dX8_fault_21 rfl ?_
      refine a_geti X lf8_36 (by first | exact p_o | assumption) rfl dX8_fault_22 ?_
      refine a_goto (tgt := 29) X dX8_fault_25 (by decide) ?_
      exact Zw.to2 (J_29 _ _ _ h) rfl rfl rfl
  · replace h := (if_pos h_6).symm.trans h
    refine a_aload_n X dX8_fault_9 rfl ?_
    refine a_geti X lf8_32 (by first | exact p_o | assumption) rfl dX8_fault_10 ?_
    refine a_goto (tgt := 29) X dX8_fault_13 (by decide) ?_
    exact Zw.to2 (J_29 _ _ _ h) rfl rfl rfl
noncomputable def D_X8_laysOne_162 (P : Nat) (y1_162 : Int32) (y2_162 : Int32) (M_162 : zMt) : Option (zMt) :=
  zI y1_162 10 <|
  zLt (zu M_162 (P + 17) y1_162.toNatClampNeg y2_162) fun M_162 =>
  some (M_162)
noncomputable def D_X8_laysOne_86 (P : Nat) (k18 : Int32 → Int32 → Int32 → zMt → Option (zMt)) (x1_86 : Int32) (x2_86 : Int32) (x3_86 : Int32) (M_86 : zMt) : Option (zMt) :=
  k18 x1_86 x2_86 (x3_86 + 1) M_86
noncomputable def D_X8_laysOne_73 (P : Nat) (k18 : Int32 → Int32 → Int32 → zMt → Option (zMt)) (x1_73 : Int32) (x2_73 : Int32) (x3_73 : Int32) (y1_73 : Int32) (y2_73 : Int32) (y3_73 : Int32) (M_73 : zMt) : Option (zMt) :=
  zI y1_73 10 <|
  zLt (zu M_73 (P + 15) y1_73.toNatClampNeg (y2_73 + y3_73)) fun M_74 =>
  zI ((0 : Int32) + x3_73) 82 <|
  D_X8_laysOne_86 P k18 x1_73 (x2_73 + (M_74 (P + 1) ((0 : Int32) + x3_73).toNatClampNeg)) x3_73 M_74
noncomputable def D_X8_laysOne_18 (P : Nat) : Nat → Int32 → Int32 → Int32 → zMt → Option (zMt)
  | 0, _, _, _, _ => none
  | n + 1, x1_18, x2_18, x3_18, M_18 =>
    if (M_18 P 8) ≤ x3_18 then
      zI x1_18 10 <|
      zZ (M_18 (P + 14) x1_18.toNatClampNeg) <|
      zI x1_18 10 <|
      zLt (zu M_18 (P + 16) x1_18.toNatClampNeg (x2_18 / (M_18 (P + 14) x1_18.toNatClampNeg))) fun M_105 =>
      zI (67 : Int32) 82 <|
      if (M_105 (P + 1) (67 : Int32).toNatClampNeg) = 0 then
        D_X8_laysOne_162 P x1_18 (1 : Int32) M_105
      else
        zI (67 : Int32) 82 <|
        if (M_105 (P + 1) (67 : Int32).toNatClampNeg) = (1 : Int32) then
          zI x1_18 10 <|
          D_X8_laysOne_162 P x1_18 ((1 : Int32) + (M_105 (P + 16) x1_18.toNatClampNeg)) M_105
        else
          zI x1_18 10 <|
          zI x1_18 10 <|
          D_X8_laysOne_162 P x1_18 ((1 : Int32) + ((M_105 (P + 16) x1_18.toNatClampNeg) * (M_105 (P + 16) x1_18.toNatClampNeg))) M_105
    else
      zI x1_18 10 <|
      zB (D_X8_has (M_18 (P + 11) x1_18.toNatClampNeg) x3_18) fun e_33 =>
      if e_33 = 0 then
        D_X8_laysOne_86 P (D_X8_laysOne_18 P n) x1_18 x2_18 x3_18 M_18
      else
        zI x1_18 10 <|
        zI x1_18 10 <|
        zLt (zu M_18 (P + 14) x1_18.toNatClampNeg ((M_18 (P + 14) x1_18.toNatClampNeg) + (1 : Int32))) fun M_51 =>
        zI x1_18 10 <|
        zI x3_18 10 <|
        if (M_51 (P + 5) x3_18.toNatClampNeg) = 0 then
          D_X8_laysOne_73 P (D_X8_laysOne_18 P n) x1_18 x2_18 x3_18 x1_18 (M_51 (P + 15) x1_18.toNatClampNeg) (0 : Int32) M_51
        else
          D_X8_laysOne_73 P (D_X8_laysOne_18 P n) x1_18 x2_18 x3_18 x1_18 (M_51 (P + 15) x1_18.toNatClampNeg) (1 : Int32) M_51
noncomputable def D_X8_laysOne (P : Nat) (v0 : Int32) (M : zMt) : Option (zMt) :=
  zI v0 10 <|
  zLt (zu M (P + 14) v0.toNatClampNeg (0 : Int32)) fun M_6 =>
  zI v0 10 <|
  zLt (zu M_6 (P + 15) v0.toNatClampNeg (0 : Int32)) fun M_13 =>
  D_X8_laysOne_18 P zFu v0 (0 : Int32) (0 : Int32) M_13
set_option maxRecDepth 100000 in
set_option maxHeartbeats 4000000 in
theorem t_X8_laysOne {l : Launch} {G : zG} {b : Nat} {L : List zC} {M : zMt} {N : zNt} {P : Nat} {v0 : Int32} (hP : LX8 L P) {r : zMt} (h : D_X8_laysOne P v0 M = some r) : zM l G b yX8_laysOne cX8_laysOne 4 none 1 0 0 [.ref P, .int v0] (L, M, N) (fun r2 z => r2 = none ∧ z = (L, r, N)) := by
  refine zM.of miX8_laysOne (Nat.le_of_ble_eq_true rfl) ?_
  intro p e s m args below meth c X hr hname
  generalize hF : ((fun r2 z => r2 = none ∧ z = (L, r, N)) : Option Value → zS → Prop) = FQ
  change Zw p l e { frames := 1, cells := 0, slots := 0, locals := 80 * (1) } s m args below meth c G b 4 (MQ below (zQ G b FQ) args s 0 0 (fun q : Nat => b ≤ q)) 0 0 0 [some (.ref P), some (.int v0), none, none] [] (L, M, N)
  have p_lt := hP.1
  have p_o := hP.2.1
  have p_s := hP.2.2.1
  have p_guest := hP.2.2.2.2.2.2.1
  have p_bits := hP.2.2.2.2.2.2.2.2.2.2.2.2.1
  have p_sizes := hP.2.2.2.2.2.2.2.2.2.2.2.2.2.2.2.1
  have p_guestMany := hP.2.2.2.2.2.2.2.2.2.2.2.2.2.2.2.2.1
  have p_pointsOf := hP.2.2.2.2.2.2.2.2.2.2.2.2.2.2.2.2.2.1
  have p_ticketsOf := hP.2.2.2.2.2.2.2.2.2.2.2.2.2.2.2.2.2.2.1
  have J_162 : ∀ (x1_162 : Int32) (x2_162 : Int32) (x3_162 : Int32) (y1_162 : Int32) (y2_162 : Int32) (M_162 : zMt), D_X8_laysOne_162 P y1_162 y2_162 M_162 = some r → Zw p l e { frames := 1, cells := 0, slots := 0, locals := 80 * (1) } s m args below meth c G b 4 (MQ below (zQ G b FQ) args s 0 0 (fun q : Nat => b ≤ q)) 0 0 162 [some (.ref (P)), some (.int x1_162), some (.int x2_162), some (.int x3_162)] [.int y2_162, .int y1_162, .ref (P + 17)] (L, M_162, N) := by
    intro x1_162 x2_162 x3_162 y1_162 y2_162 M_162 h
    unfold D_X8_laysOne_162 at h
    obtain ⟨g_162, h⟩ := zIx h
    obtain ⟨M_162, f_162, h⟩ := zLtx h
    refine d_iastore X (by first | exact p_ticketsOf | assumption) g_162 dX8_laysOne_162 f_162 ?_
    refine a_vret X hr dX8_laysOne_163 ⟨by decide, by decide⟩ ?_
    subst hF
    rw [← Option.some.inj h]
    exact ⟨rfl, rfl⟩
  have L_18 : ∀ u : Nat, ∀ (x1_18 : Int32) (x2_18 : Int32) (x3_18 : Int32) (M_18 : zMt), D_X8_laysOne_18 P u x1_18 x2_18 x3_18 M_18 = some r → Zw p l e { frames := 1, cells := 0, slots := 0, locals := 80 * (1) } s m args below meth c G b 4 (MQ below (zQ G b FQ) args s 0 0 (fun q : Nat => b ≤ q)) 0 0 18 [some (.ref (P)), some (.int x1_18), some (.int x2_18), some (.int x3_18)] [] (L, M_18, N) := by
    intro u
    induction u with
    | zero => intro x1_18 x2_18 x3_18 M_18 h; cases (show none = some r from h)
    | succ u_18 ih_18 =>
      have J_86 : ∀ (x1_86 : Int32) (x2_86 : Int32) (x3_86 : Int32) (M_86 : zMt), D_X8_laysOne_86 P (D_X8_laysOne_18 P u_18) x1_86 x2_86 x3_86 M_86 = some r → Zw p l e { frames := 1, cells := 0, slots := 0, locals := 80 * (1) } s m args below meth c G b 4 (MQ below (zQ G b FQ) args s 0 0 (fun q : Nat => b ≤ q)) 0 0 86 [some (.ref (P)), some (.int x1_86), some (.int x2_86), some (.int x3_86)] [] (L, M_86, N) := by
        intro x1_86 x2_86 x3_86 M_86 h
        unfold D_X8_laysOne_86 at h
        refine a_iinc (v := x3_86 + 1) X dX8_laysOne_86 (by decide) rfl zi_1 ?_
        refine a_goto (tgt := 18) X dX8_laysOne_89 (by decide) ?_
        exact Zw.to2 (ih_18 _ _ _ _ h) rfl rfl rfl
      have J_73 : ∀ (x1_73 : Int32) (x2_73 : Int32) (x3_73 : Int32) (y1_73 : Int32) (y2_73 : Int32) (y3_73 : Int32) (M_73 : zMt), (y3_73 = 0 ∨ y3_73 = 1) → D_X8_laysOne_73 P (D_X8_laysOne_18 P u_18) x1_73 x2_73 x3_73 y1_73 y2_73 y3_73 M_73 = some r → Zw p l e { frames := 1, cells := 0, slots := 0, locals := 80 * (1) } s m args below meth c G b 4 (MQ below (zQ G b FQ) args s 0 0 (fun q : Nat => b ≤ q)) 0 0 73 [some (.ref (P)), some (.int x1_73), some (.int x2_73), some (.int x3_73)] [.int y3_73, .int y2_73, .int y1_73, .ref (P + 15)] (L, M_73, N) := by
        intro x1_73 x2_73 x3_73 y1_73 y2_73 y3_73 M_73 fb_y3_73 h
        unfold D_X8_laysOne_73 at h
        refine a_iadd X dX8_laysOne_73 ?_
        obtain ⟨g_74, h⟩ := zIx h
        obtain ⟨M_74, f_74, h⟩ := zLtx h
        refine d_iastore X (by first | exact p_guestMany | assumption) g_74 dX8_laysOne_74 f_74 ?_
        refine a_iload_n X dX8_laysOne_75 rfl ?_
        refine a_aload_n X dX8_laysOne_76 rfl ?_
        refine a_getr X lf8_7 (by first | exact p_o | assumption) rfl (by omega) dX8_laysOne_77 ?_
        refine a_iconst (v := 0) X dX8_laysOne_80 (by decide) ?_
        refine a_iload_n X dX8_laysOne_81 rfl ?_
        refine a_iadd X dX8_laysOne_82 ?_
        obtain ⟨g_83, h⟩ := zIx h
        refine a_iaload X (by first | exact p_s | assumption) g_83 dX8_laysOne_83 ?_
        refine a_iadd X dX8_laysOne_84 ?_
        refine a_istore_n X dX8_laysOne_85 (by decide) ?_
        exact Zw.to2 (J_86 _ _ _ _ h) rfl rfl rfl
      intro x1_18 x2_18 x3_18 M_18 h
      rw [D_X8_laysOne_18] at h
      refine a_iload_n X dX8_laysOne_18 rfl ?_
      refine a_aload_n X dX8_laysOne_19 rfl ?_
      refine a_geti X lf8_132 (by first | exact p_o | assumption) rfl dX8_laysOne_20 ?_
      refine a_icmp_ge (tgt := 92) X dX8_laysOne_23 (by decide) (fun h_23 => ?_) (fun h_23 => ?_)
      · replace h := (if_pos h_23).symm.trans h
        refine a_aload_n X dX8_laysOne_92 rfl ?_
        refine a_getr X lf8_64 (by first | exact p_o | assumption) rfl (by omega) dX8_laysOne_93 ?_
        refine a_iload_n X dX8_laysOne_96 rfl ?_
        refine a_iload_n X dX8_laysOne_97 rfl ?_
        refine a_aload_n X dX8_laysOne_98 rfl ?_
        refine a_getr X lf8_58 (by first | exact p_o | assumption) rfl (by omega) dX8_laysOne_99 ?_
        refine a_iload_n X dX8_laysOne_102 rfl ?_
        obtain ⟨g_103, h⟩ := zIx h
        refine a_iaload X (by first | exact p_sizes | assumption) g_103 dX8_laysOne_103 ?_
        obtain ⟨z_104, h⟩ := zZx h
        refine a_idiv X dX8_laysOne_104 (z_104) ?_
        obtain ⟨g_105, h⟩ := zIx h
        obtain ⟨M_105, f_105, h⟩ := zLtx h
        refine d_iastore X (by first | exact p_pointsOf | assumption) g_105 dX8_laysOne_105 f_105 ?_
        refine a_aload_n X dX8_laysOne_106 rfl ?_
        refine a_getr X lf8_67 (by first | exact p_o | assumption) rfl (by omega) dX8_laysOne_107 ?_
        refine a_iload_n X dX8_laysOne_110 rfl ?_
        refine a_aload_n X dX8_laysOne_111 rfl ?_
        refine a_getr X lf8_7 (by first | exact p_o | assumption) rfl (by omega) dX8_laysOne_112 ?_
        refine a_bipush (v := 67) X dX8_laysOne_115 (by decide) ?_
        obtain ⟨g_117, h⟩ := zIx h
        refine a_iaload X (by first | exact p_s | assumption) g_117 dX8_laysOne_117 ?_
        refine a_if_ne (tgt := 125) X dX8_laysOne_118 (by decide) (fun h_118 => ?_) (fun h_118 => ?_)
        · replace h := (if_neg h_118).symm.trans h
          refine a_aload_n X dX8_laysOne_125 rfl ?_
          refine a_getr X lf8_7 (by first | exact p_o | assumption) rfl (by omega) dX8_laysOne_126 ?_
          refine a_bipush (v := 67) X dX8_laysOne_129 (by decide) ?_
          obtain ⟨g_131, h⟩ := zIx h
          refine a_iaload X (by first | exact p_s | assumption) g_131 dX8_laysOne_131 ?_
          refine a_iconst (v := 1) X dX8_laysOne_132 (by decide) ?_
          refine a_icmp_ne (tgt := 147) X dX8_laysOne_133 (by decide) (fun h_133 => ?_) (fun h_133 => ?_)
          · replace h := (if_neg h_133).symm.trans h
            refine a_iconst (v := 1) X dX8_laysOne_147 (by decide) ?_
            refine a_aload_n X dX8_laysOne_148 rfl ?_
            refine a_getr X lf8_64 (by first | exact p_o | assumption) rfl (by omega) dX8_laysOne_149 ?_
            refine a_iload_n X dX8_laysOne_152 rfl ?_
            obtain ⟨g_153, h⟩ := zIx h
            refine a_iaload X (by first | exact p_pointsOf | assumption) g_153 dX8_laysOne_153 ?_
            refine a_aload_n X dX8_laysOne_154 rfl ?_
            refine a_getr X lf8_64 (by first | exact p_o | assumption) rfl (by omega) dX8_laysOne_155 ?_
            refine a_iload_n X dX8_laysOne_158 rfl ?_
            obtain ⟨g_159, h⟩ := zIx h
            refine a_iaload X (by first | exact p_pointsOf | assumption) g_159 dX8_laysOne_159 ?_
            refine a_imul X dX8_laysOne_160 ?_
            refine a_iadd X dX8_laysOne_161 ?_
            exact Zw.to2 (J_162 _ _ _ _ _ _ h) rfl rfl rfl
          · replace h := (if_pos h_133).symm.trans h
            refine a_iconst (v := 1) X dX8_laysOne_136 (by decide) ?_
            refine a_aload_n X dX8_laysOne_137 rfl ?_
            refine a_getr X lf8_64 (by first | exact p_o | assumption) rfl (by omega) dX8_laysOne_138 ?_
            refine a_iload_n X dX8_laysOne_141 rfl ?_
            obtain ⟨g_142, h⟩ := zIx h
            refine a_iaload X (by first | exact p_pointsOf | assumption) g_142 dX8_laysOne_142 ?_
            refine a_iadd X dX8_laysOne_143 ?_
            refine a_goto (tgt := 162) X dX8_laysOne_144 (by decide) ?_
            exact Zw.to2 (J_162 _ _ _ _ _ _ h) rfl rfl rfl
        · replace h := (if_pos h_118).symm.trans h
          refine a_iconst (v := 1) X dX8_laysOne_121 (by decide) ?_
          refine a_goto (tgt := 162) X dX8_laysOne_122 (by decide) ?_
          exact Zw.to2 (J_162 _ _ _ _ _ _ h) rfl rfl rfl
      · replace h := (if_neg h_23).symm.trans h
        refine a_aload_n X dX8_laysOne_26 rfl ?_
        refine a_getr X lf8_49 (by first | exact p_o | assumption) rfl (by omega) dX8_laysOne_27 ?_
        refine a_iload_n X dX8_laysOne_30 rfl ?_
        obtain ⟨g_31, h⟩ := zIx h
        refine a_iaload X (by first | exact p_bits | assumption) g_31 dX8_laysOne_31 ?_
        refine a_iload_n X dX8_laysOne_32 rfl ?_
        obtain ⟨e_33, f_33, h⟩ := zBx h
        refine a_callSx X dX8_laysOne_33 miX8_has lm8_240 (t_X8_has f_33) rfl rfl (Nat.le_of_ble_eq_true rfl) ⟨by decide, by decide, by decide, by decide⟩ (fun r_33 S_33 q_33 => ?_)
        obtain ⟨rfl, rfl, b_33⟩ := q_33
        refine a_if_ne (tgt := 42) X dX8_laysOne_36 (by decide) (fun h_36 => ?_) (fun h_36 => ?_)
        · replace h := (if_neg h_36).symm.trans h
          refine a_aload_n X dX8_laysOne_42 rfl ?_
          refine a_getr X lf8_58 (by first | exact p_o | assumption) rfl (by omega) dX8_laysOne_43 ?_
          refine a_iload_n X dX8_laysOne_46 rfl ?_
          refine a_dup2 X dX8_laysOne_47 rfl rfl ?_
          obtain ⟨g_48, h⟩ := zIx h
          refine a_iaload X (by first | exact p_sizes | assumption) g_48 dX8_laysOne_48 ?_
          refine a_iconst (v := 1) X dX8_laysOne_49 (by decide) ?_
          refine a_iadd X dX8_laysOne_50 ?_
          obtain ⟨g_51, h⟩ := zIx h
          obtain ⟨M_51, f_51, h⟩ := zLtx h
          refine d_iastore X (by first | exact p_sizes | assumption) g_51 dX8_laysOne_51 f_51 ?_
          refine a_aload_n X dX8_laysOne_52 rfl ?_
          refine a_getr X lf8_61 (by first | exact p_o | assumption) rfl (by omega) dX8_laysOne_53 ?_
          refine a_iload_n X dX8_laysOne_56 rfl ?_
          refine a_dup2 X dX8_laysOne_57 rfl rfl ?_
          obtain ⟨g_58, h⟩ := zIx h
          refine a_iaload X (by first | exact p_guestMany | assumption) g_58 dX8_laysOne_58 ?_
          refine a_aload_n X dX8_laysOne_59 rfl ?_
          refine a_getr X lf8_22 (by first | exact p_o | assumption) rfl (by omega) dX8_laysOne_60 ?_
          refine a_iload_n X dX8_laysOne_63 rfl ?_
          obtain ⟨g_64, h⟩ := zIx h
          refine a_baload X (by first | exact p_guest | assumption) g_64 dX8_laysOne_64 ?_
          refine a_if_eq (tgt := 72) X dX8_laysOne_65 (by decide) (fun h_65 => ?_) (fun h_65 => ?_)
          · replace h := (if_pos h_65).symm.trans h
            refine a_iconst (v := 0) X dX8_laysOne_72 (by decide) ?_
            exact Zw.to2 (J_73 _ _ _ _ _ _ _ (by first | exact Or.inl rfl | exact Or.inr rfl | assumption) h) rfl rfl rfl
          · replace h := (if_neg h_65).symm.trans h
            refine a_iconst (v := 1) X dX8_laysOne_68 (by decide) ?_
            refine a_goto (tgt := 73) X dX8_laysOne_69 (by decide) ?_
            exact Zw.to2 (J_73 _ _ _ _ _ _ _ (by first | exact Or.inl rfl | exact Or.inr rfl | assumption) h) rfl rfl rfl
        · replace h := (if_pos h_36).symm.trans h
          refine a_goto (tgt := 86) X dX8_laysOne_39 (by decide) ?_
          exact Zw.to2 (J_86 _ _ _ _ h) rfl rfl rfl
  have H_18 : ∀ (x1_18 : Int32) (x2_18 : Int32) (x3_18 : Int32) (M_18 : zMt), D_X8_laysOne_18 P zFu x1_18 x2_18 x3_18 M_18 = some r → Zw p l e { frames := 1, cells := 0, slots := 0, locals := 80 * (1) } s m args below meth c G b 4 (MQ below (zQ G b FQ) args s 0 0 (fun q : Nat => b ≤ q)) 0 0 18 [some (.ref (P)), some (.int x1_18), some (.int x2_18), some (.int x3_18)] [] (L, M_18, N) := L_18 zFu
  unfold D_X8_laysOne at h
  refine a_aload_n X dX8_laysOne_0 rfl ?_
  refine a_getr X lf8_58 (by first | exact p_o | assumption) rfl (by omega) dX8_laysOne_1 ?_
  refine a_iload_n X dX8_laysOne_4 rfl ?_
  refine a_iconst (v := 0) X dX8_laysOne_5 (by decide) ?_
  obtain ⟨g_6, h⟩ := zIx h
  obtain ⟨M_6, f_6, h⟩ := zLtx h
  refine d_iastore X (by first | exact p_sizes | assumption) g_6 dX8_laysOne_6 f_6 ?_
  refine a_aload_n X dX8_laysOne_7 rfl ?_
  refine a_getr X lf8_61 (by first | exact p_o | assumption) rfl (by omega) dX8_laysOne_8 ?_
  refine a_iload_n X dX8_laysOne_11 rfl ?_
  refine a_iconst (v := 0) X dX8_laysOne_12 (by decide) ?_
  obtain ⟨g_13, h⟩ := zIx h
  obtain ⟨M_13, f_13, h⟩ := zLtx h
  refine d_iastore X (by first | exact p_guestMany | assumption) g_13 dX8_laysOne_13 f_13 ?_
  refine a_iconst (v := 0) X dX8_laysOne_14 (by decide) ?_
  refine a_istore_n X dX8_laysOne_15 (by decide) ?_
  refine a_iconst (v := 0) X dX8_laysOne_16 (by decide) ?_
  refine a_istore_n X dX8_laysOne_17 (by decide) ?_
  exact Zw.to2 (H_18 _ _ _ _ h) rfl rfl rfl
noncomputable def D_X8_laysApplicants_198 (P : Nat) : Nat → Int32 → zMt → Option (zMt)
  | 0, _, _ => none
  | n + 1, x1_198, M_198 =>
    if (M_198 P 33) ≤ x1_198 then
      some (M_198)
    else
      zB (D_X8_laysOne P x1_198 M_198) fun e_208 =>
      (D_X8_laysApplicants_198 P n) (x1_198 + 1) e_208
noncomputable def D_X8_laysApplicants_147 (P : Nat) (k86 : Int32 → zMt → Option (zMt)) (k109 : Int32 → Int32 → zMt → Option (zMt)) (x1_147 : Int32) (x2_147 : Int32) (y1_147 : Int32) (y2_147 : Int32) (y3_147 : Int32) (M_147 : zMt) : Option (zMt) :=
  zI y1_147 10 <|
  zLt (zu M_147 (P + 11) y1_147.toNatClampNeg (y2_147 ||| y3_147)) fun M_148 =>
  k109 x1_147 (x2_147 + 1) M_148
noncomputable def D_X8_laysApplicants_109 (P : Nat) (k86 : Int32 → zMt → Option (zMt)) : Nat → Int32 → Int32 → zMt → Option (zMt)
  | 0, _, _, _ => none
  | n + 1, x1_109, x2_109, M_109 =>
    if (M_109 P 8) ≤ x2_109 then
      zI (M_109 P 33) 10 <|
      zLt (zu M_109 (P + 12) (M_109 P 33).toNatClampNeg x1_109) fun M_164 =>
      zI (M_164 P 33) 10 <|
      zLt (zu M_164 (P + 13) (M_164 P 33).toNatClampNeg ((50 : Int32) + ((3 : Int32) * x1_109))) fun M_179 =>
      zLt (zu M_179 P 33 ((M_179 P 33) + (1 : Int32))) fun M_187 =>
      k86 (x1_109 + 1) M_187
    else
      zI (M_109 P 33) 10 <|
      zI ((10 : Int32) + x2_109) 82 <|
      if (M_109 (P + 1) ((10 : Int32) + x2_109).toNatClampNeg) = x1_109 then
        D_X8_laysApplicants_147 P k86 (D_X8_laysApplicants_109 P k86 n) x1_109 x2_109 (M_109 P 33) (M_109 (P + 11) (M_109 P 33).toNatClampNeg) ((1 : Int32) <<< (x2_109 &&& 31)) M_109
      else
        D_X8_laysApplicants_147 P k86 (D_X8_laysApplicants_109 P k86 n) x1_109 x2_109 (M_109 P 33) (M_109 (P + 11) (M_109 P 33).toNatClampNeg) (0 : Int32) M_109
noncomputable def D_X8_laysApplicants_86 (P : Nat) : Nat → Int32 → zMt → Option (zMt)
  | 0, _, _ => none
  | n + 1, x1_86, M_86 =>
    zI (70 : Int32) 82 <|
    if (M_86 (P + 1) (70 : Int32).toNatClampNeg) ≤ x1_86 then
      D_X8_laysApplicants_198 P zFu (0 : Int32) M_86
    else
      zI (M_86 P 33) 10 <|
      zLt (zu M_86 (P + 11) (M_86 P 33).toNatClampNeg (0 : Int32)) fun M_106 =>
      D_X8_laysApplicants_109 P (D_X8_laysApplicants_86 P n) zFu x1_86 (0 : Int32) M_106
noncomputable def D_X8_laysApplicants_78 (P : Nat) (k7 : Int32 → zMt → Option (zMt)) (x1_78 : Int32) (M_78 : zMt) : Option (zMt) :=
  k7 (x1_78 + 1) M_78
noncomputable def D_X8_laysApplicants_7 (P : Nat) : Nat → Int32 → zMt → Option (zMt)
  | 0, _, _ => none
  | n + 1, x1_7, M_7 =>
    if (M_7 P 8) ≤ x1_7 then
      D_X8_laysApplicants_86 P zFu (0 : Int32) M_7
    else
      zI ((10 : Int32) + x1_7) 82 <|
      if (M_7 (P + 1) ((10 : Int32) + x1_7).toNatClampNeg) = (-1 : Int32) then
        zI (M_7 P 33) 10 <|
        zLt (zu M_7 (P + 11) (M_7 P 33).toNatClampNeg ((1 : Int32) <<< (x1_7 &&& 31))) fun M_42 =>
        zI (M_42 P 33) 10 <|
        zLt (zu M_42 (P + 12) (M_42 P 33).toNatClampNeg (-1 : Int32)) fun M_52 =>
        zI (M_52 P 33) 10 <|
        zLt (zu M_52 (P + 13) (M_52 P 33).toNatClampNeg ((20 : Int32) + ((3 : Int32) * x1_7))) fun M_67 =>
        zLt (zu M_67 P 33 ((M_67 P 33) + (1 : Int32))) fun M_75 =>
        D_X8_laysApplicants_78 P (D_X8_laysApplicants_7 P n) x1_7 M_75
      else
        D_X8_laysApplicants_78 P (D_X8_laysApplicants_7 P n) x1_7 M_7
noncomputable def D_X8_laysApplicants (P : Nat) (M : zMt) : Option (zMt) :=
  zLt (zu M P 33 (0 : Int32)) fun M_2 =>
  D_X8_laysApplicants_7 P zFu (0 : Int32) M_2
set_option maxRecDepth 100000 in
set_option maxHeartbeats 4000000 in
theorem t_X8_laysApplicants {l : Launch} {G : zG} {b : Nat} {L : List zC} {M : zMt} {N : zNt} {P : Nat}  (hP : LX8 L P) {r : zMt} (h : D_X8_laysApplicants P M = some r) : zM l G b yX8_laysApplicants cX8_laysApplicants 3 none 2 0 0 [.ref P] (L, M, N) (fun r2 z => r2 = none ∧ z = (L, r, N)) := by
  refine zM.of miX8_laysApplicants (Nat.le_of_ble_eq_true rfl) ?_
  intro p e s m args below meth c X hr hname
  generalize hF : ((fun r2 z => r2 = none ∧ z = (L, r, N)) : Option Value → zS → Prop) = FQ
  change Zw p l e { frames := 2, cells := 0, slots := 0, locals := 80 * (2) } s m args below meth c G b 3 (MQ below (zQ G b FQ) args s 0 0 (fun q : Nat => b ≤ q)) 0 0 0 [some (.ref P), none, none] [] (L, M, N)
  have p_lt := hP.1
  have p_o := hP.2.1
  have p_s := hP.2.2.1
  have p_bits := hP.2.2.2.2.2.2.2.2.2.2.2.2.1
  have p_partyOf := hP.2.2.2.2.2.2.2.2.2.2.2.2.2.1
  have p_choiceAt := hP.2.2.2.2.2.2.2.2.2.2.2.2.2.2.1
  have L_198 : ∀ u : Nat, ∀ (x1_198 : Int32) (x2_198 : Option Value) (M_198 : zMt), D_X8_laysApplicants_198 P u x1_198 M_198 = some r → Zw p l e { frames := 2, cells := 0, slots := 0, locals := 80 * (2) } s m args below meth c G b 3 (MQ below (zQ G b FQ) args s 0 0 (fun q : Nat => b ≤ q)) 0 0 198 [some (.ref (P)), some (.int x1_198), x2_198] [] (L, M_198, N) := by
    intro u
    induction u with
    | zero => intro x1_198 x2_198 M_198 h; cases (show none = some r from h)
    | succ u_198 ih_198 =>
      intro x1_198 x2_198 M_198 h
      rw [D_X8_laysApplicants_198] at h
      refine a_iload_n X dX8_laysApplicants_198 rfl ?_
      refine a_aload_n X dX8_laysApplicants_199 rfl ?_
      refine a_geti X lf8_275 (by first | exact p_o | assumption) rfl dX8_laysApplicants_200 ?_
      refine a_icmp_ge (tgt := 217) X dX8_laysApplicants_203 (by decide) (fun h_203 => ?_) (fun h_203 => ?_)
      · replace h := (if_pos h_203).symm.trans h
        refine a_vret X hr dX8_laysApplicants_217 ⟨by decide, by decide⟩ ?_
        subst hF
        rw [← Option.some.inj h]
        exact ⟨rfl, rfl⟩
      · replace h := (if_neg h_203).symm.trans h
        refine a_aload_n X dX8_laysApplicants_206 rfl ?_
        refine a_iload_n X dX8_laysApplicants_207 rfl ?_
        obtain ⟨e_208, f_208, h⟩ := zBx h
        refine a_callVu X dX8_laysApplicants_208 miX8_laysOne lm8_278 (t_X8_laysOne (by first | exact hP | assumption) f_208) (by first | exact p_o | assumption) rfl rfl rfl (Nat.le_of_ble_eq_true rfl) ⟨by decide, by decide, by decide, by decide⟩ ?_
        refine a_iinc (v := x1_198 + 1) X dX8_laysApplicants_211 (by decide) rfl zi_1 ?_
        refine a_goto (tgt := 198) X dX8_laysApplicants_214 (by decide) ?_
        exact Zw.to2 (ih_198 _ _ _ h) rfl rfl rfl
  have H_198 : ∀ (x1_198 : Int32) (x2_198 : Option Value) (M_198 : zMt), D_X8_laysApplicants_198 P zFu x1_198 M_198 = some r → Zw p l e { frames := 2, cells := 0, slots := 0, locals := 80 * (2) } s m args below meth c G b 3 (MQ below (zQ G b FQ) args s 0 0 (fun q : Nat => b ≤ q)) 0 0 198 [some (.ref (P)), some (.int x1_198), x2_198] [] (L, M_198, N) := L_198 zFu
  have L_86 : ∀ u : Nat, ∀ (x1_86 : Int32) (x2_86 : Option Value) (M_86 : zMt), D_X8_laysApplicants_86 P u x1_86 M_86 = some r → Zw p l e { frames := 2, cells := 0, slots := 0, locals := 80 * (2) } s m args below meth c G b 3 (MQ below (zQ G b FQ) args s 0 0 (fun q : Nat => b ≤ q)) 0 0 86 [some (.ref (P)), some (.int x1_86), x2_86] [] (L, M_86, N) := by
    intro u
    induction u with
    | zero => intro x1_86 x2_86 M_86 h; cases (show none = some r from h)
    | succ u_86 ih_86 =>
      have L_109 : ∀ u : Nat, ∀ (x1_109 : Int32) (x2_109 : Int32) (M_109 : zMt), D_X8_laysApplicants_109 P (D_X8_laysApplicants_86 P u_86) u x1_109 x2_109 M_109 = some r → Zw p l e { frames := 2, cells := 0, slots := 0, locals := 80 * (2) } s m args below meth c G b 3 (MQ below (zQ G b FQ) args s 0 0 (fun q : Nat => b ≤ q)) 0 0 109 [some (.ref (P)), some (.int x1_109), some (.int x2_109)] [] (L, M_109, N) := by
        intro u
        induction u with
        | zero => intro x1_109 x2_109 M_109 h; cases (show none = some r from h)
        | succ u_109 ih_109 =>
          have J_147 : ∀ (x1_147 : Int32) (x2_147 : Int32) (y1_147 : Int32) (y2_147 : Int32) (y3_147 : Int32) (M_147 : zMt), D_X8_laysApplicants_147 P (D_X8_laysApplicants_86 P u_86) (D_X8_laysApplicants_109 P (D_X8_laysApplicants_86 P u_86) u_109) x1_147 x2_147 y1_147 y2_147 y3_147 M_147 = some r → Zw p l e { frames := 2, cells := 0, slots := 0, locals := 80 * (2) } s m args below meth c G b 3 (MQ below (zQ G b FQ) args s 0 0 (fun q : Nat => b ≤ q)) 0 0 147 [some (.ref (P)), some (.int x1_147), some (.int x2_147)] [.int y3_147, .int y2_147, .int y1_147, .ref (P + 11)] (L, M_147, N) := by
            intro x1_147 x2_147 y1_147 y2_147 y3_147 M_147 h
            unfold D_X8_laysApplicants_147 at h
            refine a_ior X dX8_laysApplicants_147 ?_
            obtain ⟨g_148, h⟩ := zIx h
            obtain ⟨M_148, f_148, h⟩ := zLtx h
            refine d_iastore X (by first | exact p_bits | assumption) g_148 dX8_laysApplicants_148 f_148 ?_
            refine a_iinc (v := x2_147 + 1) X dX8_laysApplicants_149 (by decide) rfl zi_1 ?_
            refine a_goto (tgt := 109) X dX8_laysApplicants_152 (by decide) ?_
            exact Zw.to2 (ih_109 _ _ _ h) rfl rfl rfl
          intro x1_109 x2_109 M_109 h
          rw [D_X8_laysApplicants_109] at h
          refine a_iload_n X dX8_laysApplicants_109 rfl ?_
          refine a_aload_n X dX8_laysApplicants_110 rfl ?_
          refine a_geti X lf8_132 (by first | exact p_o | assumption) rfl dX8_laysApplicants_111 ?_
          refine a_icmp_ge (tgt := 155) X dX8_laysApplicants_114 (by decide) (fun h_114 => ?_) (fun h_114 => ?_)
          · replace h := (if_pos h_114).symm.trans h
            refine a_aload_n X dX8_laysApplicants_155 rfl ?_
            refine a_getr X lf8_52 (by first | exact p_o | assumption) rfl (by omega) dX8_laysApplicants_156 ?_
            refine a_aload_n X dX8_laysApplicants_159 rfl ?_
            refine a_geti X lf8_275 (by first | exact p_o | assumption) rfl dX8_laysApplicants_160 ?_
            refine a_iload_n X dX8_laysApplicants_163 rfl ?_
            obtain ⟨g_164, h⟩ := zIx h
            obtain ⟨M_164, f_164, h⟩ := zLtx h
            refine d_iastore X (by first | exact p_partyOf | assumption) g_164 dX8_laysApplicants_164 f_164 ?_
            refine a_aload_n X dX8_laysApplicants_165 rfl ?_
            refine a_getr X lf8_55 (by first | exact p_o | assumption) rfl (by omega) dX8_laysApplicants_166 ?_
            refine a_aload_n X dX8_laysApplicants_169 rfl ?_
            refine a_geti X lf8_275 (by first | exact p_o | assumption) rfl dX8_laysApplicants_170 ?_
            refine a_bipush (v := 50) X dX8_laysApplicants_173 (by decide) ?_
            refine a_iconst (v := 3) X dX8_laysApplicants_175 (by decide) ?_
            refine a_iload_n X dX8_laysApplicants_176 rfl ?_
            refine a_imul X dX8_laysApplicants_177 ?_
            refine a_iadd X dX8_laysApplicants_178 ?_
            obtain ⟨g_179, h⟩ := zIx h
            obtain ⟨M_179, f_179, h⟩ := zLtx h
            refine d_iastore X (by first | exact p_choiceAt | assumption) g_179 dX8_laysApplicants_179 f_179 ?_
            refine a_aload_n X dX8_laysApplicants_180 rfl ?_
            refine a_dup X dX8_laysApplicants_181 rfl ?_
            refine a_geti X lf8_275 (by first | exact p_o | assumption) rfl dX8_laysApplicants_182 ?_
            refine a_iconst (v := 1) X dX8_laysApplicants_185 (by decide) ?_
            refine a_iadd X dX8_laysApplicants_186 ?_
            obtain ⟨M_187, f_187, h⟩ := zLtx h
            refine d_puti X lf8_275 (by first | exact p_o | assumption) rfl dX8_laysApplicants_187 f_187 ?_
            refine a_iinc (v := x1_109 + 1) X dX8_laysApplicants_190 (by decide) rfl zi_1 ?_
            refine a_goto (tgt := 86) X dX8_laysApplicants_193 (by decide) ?_
            exact Zw.to2 (ih_86 _ _ _ h) rfl rfl rfl
          · replace h := (if_neg h_114).symm.trans h
            refine a_aload_n X dX8_laysApplicants_117 rfl ?_
            refine a_getr X lf8_49 (by first | exact p_o | assumption) rfl (by omega) dX8_laysApplicants_118 ?_
            refine a_aload_n X dX8_laysApplicants_121 rfl ?_
            refine a_geti X lf8_275 (by first | exact p_o | assumption) rfl dX8_laysApplicants_122 ?_
            refine a_dup2 X dX8_laysApplicants_125 rfl rfl ?_
            obtain ⟨g_126, h⟩ := zIx h
            refine a_iaload X (by first | exact p_bits | assumption) g_126 dX8_laysApplicants_126 ?_
            refine a_aload_n X dX8_laysApplicants_127 rfl ?_
            refine a_getr X lf8_7 (by first | exact p_o | assumption) rfl (by omega) dX8_laysApplicants_128 ?_
            refine a_bipush (v := 10) X dX8_laysApplicants_131 (by decide) ?_
            refine a_iload_n X dX8_laysApplicants_133 rfl ?_
            refine a_iadd X dX8_laysApplicants_134 ?_
            obtain ⟨g_135, h⟩ := zIx h
            refine a_iaload X (by first | exact p_s | assumption) g_135 dX8_laysApplicants_135 ?_
            refine a_iload_n X dX8_laysApplicants_136 rfl ?_
            refine a_icmp_ne (tgt := 146) X dX8_laysApplicants_137 (by decide) (fun h_137 => ?_) (fun h_137 => ?_)
            · replace h := (if_neg h_137).symm.trans h
              refine a_iconst (v := 0) X dX8_laysApplicants_146 (by decide) ?_
              exact Zw.to2 (J_147 _ _ _ _ _ _ h) rfl rfl rfl
            · replace h := (if_pos h_137).symm.trans h
              refine a_iconst (v := 1) X dX8_laysApplicants_140 (by decide) ?_
              refine a_iload_n X dX8_laysApplicants_141 rfl ?_
              refine a_ishl X dX8_laysApplicants_142 ?_
              refine a_goto (tgt := 147) X dX8_laysApplicants_143 (by decide) ?_
              exact Zw.to2 (J_147 _ _ _ _ _ _ h) rfl rfl rfl
      have H_109 : ∀ (x1_109 : Int32) (x2_109 : Int32) (M_109 : zMt), D_X8_laysApplicants_109 P (D_X8_laysApplicants_86 P u_86) zFu x1_109 x2_109 M_109 = some r → Zw p l e { frames := 2, cells := 0, slots := 0, locals := 80 * (2) } s m args below meth c G b 3 (MQ below (zQ G b FQ) args s 0 0 (fun q : Nat => b ≤ q)) 0 0 109 [some (.ref (P)), some (.int x1_109), some (.int x2_109)] [] (L, M_109, N) := L_109 zFu
      intro x1_86 x2_86 M_86 h
      rw [D_X8_laysApplicants_86] at h
      refine a_iload_n X dX8_laysApplicants_86 rfl ?_
      refine a_aload_n X dX8_laysApplicants_87 rfl ?_
      refine a_getr X lf8_7 (by first | exact p_o | assumption) rfl (by omega) dX8_laysApplicants_88 ?_
      refine a_bipush (v := 70) X dX8_laysApplicants_91 (by decide) ?_
      obtain ⟨g_93, h⟩ := zIx h
      refine a_iaload X (by first | exact p_s | assumption) g_93 dX8_laysApplicants_93 ?_
      refine a_icmp_ge (tgt := 196) X dX8_laysApplicants_94 (by decide) (fun h_94 => ?_) (fun h_94 => ?_)
      · replace h := (if_pos h_94).symm.trans h
        refine a_iconst (v := 0) X dX8_laysApplicants_196 (by decide) ?_
        refine a_istore_n X dX8_laysApplicants_197 (by decide) ?_
        exact Zw.to2 (H_198 _ _ _ h) rfl rfl rfl
      · replace h := (if_neg h_94).symm.trans h
        refine a_aload_n X dX8_laysApplicants_97 rfl ?_
        refine a_getr X lf8_49 (by first | exact p_o | assumption) rfl (by omega) dX8_laysApplicants_98 ?_
        refine a_aload_n X dX8_laysApplicants_101 rfl ?_
        refine a_geti X lf8_275 (by first | exact p_o | assumption) rfl dX8_laysApplicants_102 ?_
        refine a_iconst (v := 0) X dX8_laysApplicants_105 (by decide) ?_
        obtain ⟨g_106, h⟩ := zIx h
        obtain ⟨M_106, f_106, h⟩ := zLtx h
        refine d_iastore X (by first | exact p_bits | assumption) g_106 dX8_laysApplicants_106 f_106 ?_
        refine a_iconst (v := 0) X dX8_laysApplicants_107 (by decide) ?_
        refine a_istore_n X dX8_laysApplicants_108 (by decide) ?_
        exact Zw.to2 (H_109 _ _ _ h) rfl rfl rfl
  have H_86 : ∀ (x1_86 : Int32) (x2_86 : Option Value) (M_86 : zMt), D_X8_laysApplicants_86 P zFu x1_86 M_86 = some r → Zw p l e { frames := 2, cells := 0, slots := 0, locals := 80 * (2) } s m args below meth c G b 3 (MQ below (zQ G b FQ) args s 0 0 (fun q : Nat => b ≤ q)) 0 0 86 [some (.ref (P)), some (.int x1_86), x2_86] [] (L, M_86, N) := L_86 zFu
  have L_7 : ∀ u : Nat, ∀ (x1_7 : Int32) (x2_7 : Option Value) (M_7 : zMt), D_X8_laysApplicants_7 P u x1_7 M_7 = some r → Zw p l e { frames := 2, cells := 0, slots := 0, locals := 80 * (2) } s m args below meth c G b 3 (MQ below (zQ G b FQ) args s 0 0 (fun q : Nat => b ≤ q)) 0 0 7 [some (.ref (P)), some (.int x1_7), x2_7] [] (L, M_7, N) := by
    intro u
    induction u with
    | zero => intro x1_7 x2_7 M_7 h; cases (show none = some r from h)
    | succ u_7 ih_7 =>
      have J_78 : ∀ (x1_78 : Int32) (x2_78 : Option Value) (M_78 : zMt), D_X8_laysApplicants_78 P (D_X8_laysApplicants_7 P u_7) x1_78 M_78 = some r → Zw p l e { frames := 2, cells := 0, slots := 0, locals := 80 * (2) } s m args below meth c G b 3 (MQ below (zQ G b FQ) args s 0 0 (fun q : Nat => b ≤ q)) 0 0 78 [some (.ref (P)), some (.int x1_78), x2_78] [] (L, M_78, N) := by
        intro x1_78 x2_78 M_78 h
        unfold D_X8_laysApplicants_78 at h
        refine a_iinc (v := x1_78 + 1) X dX8_laysApplicants_78 (by decide) rfl zi_1 ?_
        refine a_goto (tgt := 7) X dX8_laysApplicants_81 (by decide) ?_
        exact Zw.to2 (ih_7 _ _ _ h) rfl rfl rfl
      intro x1_7 x2_7 M_7 h
      rw [D_X8_laysApplicants_7] at h
      refine a_iload_n X dX8_laysApplicants_7 rfl ?_
      refine a_aload_n X dX8_laysApplicants_8 rfl ?_
      refine a_geti X lf8_132 (by first | exact p_o | assumption) rfl dX8_laysApplicants_9 ?_
      refine a_icmp_ge (tgt := 84) X dX8_laysApplicants_12 (by decide) (fun h_12 => ?_) (fun h_12 => ?_)
      · replace h := (if_pos h_12).symm.trans h
        refine a_iconst (v := 0) X dX8_laysApplicants_84 (by decide) ?_
        refine a_istore_n X dX8_laysApplicants_85 (by decide) ?_
        exact Zw.to2 (H_86 _ _ _ h) rfl rfl rfl
      · replace h := (if_neg h_12).symm.trans h
        refine a_aload_n X dX8_laysApplicants_15 rfl ?_
        refine a_getr X lf8_7 (by first | exact p_o | assumption) rfl (by omega) dX8_laysApplicants_16 ?_
        refine a_bipush (v := 10) X dX8_laysApplicants_19 (by decide) ?_
        refine a_iload_n X dX8_laysApplicants_21 rfl ?_
        refine a_iadd X dX8_laysApplicants_22 ?_
        obtain ⟨g_23, h⟩ := zIx h
        refine a_iaload X (by first | exact p_s | assumption) g_23 dX8_laysApplicants_23 ?_
        refine a_iconst (v := -1) X dX8_laysApplicants_24 (by decide) ?_
        refine a_icmp_eq (tgt := 31) X dX8_laysApplicants_25 (by decide) (fun h_25 => ?_) (fun h_25 => ?_)
        · replace h := (if_pos h_25).symm.trans h
          refine a_aload_n X dX8_laysApplicants_31 rfl ?_
          refine a_getr X lf8_49 (by first | exact p_o | assumption) rfl (by omega) dX8_laysApplicants_32 ?_
          refine a_aload_n X dX8_laysApplicants_35 rfl ?_
          refine a_geti X lf8_275 (by first | exact p_o | assumption) rfl dX8_laysApplicants_36 ?_
          refine a_iconst (v := 1) X dX8_laysApplicants_39 (by decide) ?_
          refine a_iload_n X dX8_laysApplicants_40 rfl ?_
          refine a_ishl X dX8_laysApplicants_41 ?_
          obtain ⟨g_42, h⟩ := zIx h
          obtain ⟨M_42, f_42, h⟩ := zLtx h
          refine d_iastore X (by first | exact p_bits | assumption) g_42 dX8_laysApplicants_42 f_42 ?_
          refine a_aload_n X dX8_laysApplicants_43 rfl ?_
          refine a_getr X lf8_52 (by first | exact p_o | assumption) rfl (by omega) dX8_laysApplicants_44 ?_
          refine a_aload_n X dX8_laysApplicants_47 rfl ?_
          refine a_geti X lf8_275 (by first | exact p_o | assumption) rfl dX8_laysApplicants_48 ?_
          refine a_iconst (v := -1) X dX8_laysApplicants_51 (by decide) ?_
          obtain ⟨g_52, h⟩ := zIx h
          obtain ⟨M_52, f_52, h⟩ := zLtx h
          refine d_iastore X (by first | exact p_partyOf | assumption) g_52 dX8_laysApplicants_52 f_52 ?_
          refine a_aload_n X dX8_laysApplicants_53 rfl ?_
          refine a_getr X lf8_55 (by first | exact p_o | assumption) rfl (by omega) dX8_laysApplicants_54 ?_
          refine a_aload_n X dX8_laysApplicants_57 rfl ?_
          refine a_geti X lf8_275 (by first | exact p_o | assumption) rfl dX8_laysApplicants_58 ?_
          refine a_bipush (v := 20) X dX8_laysApplicants_61 (by decide) ?_
          refine a_iconst (v := 3) X dX8_laysApplicants_63 (by decide) ?_
          refine a_iload_n X dX8_laysApplicants_64 rfl ?_
          refine a_imul X dX8_laysApplicants_65 ?_
          refine a_iadd X dX8_laysApplicants_66 ?_
          obtain ⟨g_67, h⟩ := zIx h
          obtain ⟨M_67, f_67, h⟩ := zLtx h
          refine d_iastore X (by first | exact p_choiceAt | assumption) g_67 dX8_laysApplicants_67 f_67 ?_
          refine a_aload_n X dX8_laysApplicants_68 rfl ?_
          refine a_dup X dX8_laysApplicants_69 rfl ?_
          refine a_geti X lf8_275 (by first | exact p_o | assumption) rfl dX8_laysApplicants_70 ?_
          refine a_iconst (v := 1) X dX8_laysApplicants_73 (by decide) ?_
          refine a_iadd X dX8_laysApplicants_74 ?_
          obtain ⟨M_75, f_75, h⟩ := zLtx h
          refine d_puti X lf8_275 (by first | exact p_o | assumption) rfl dX8_laysApplicants_75 f_75 ?_
          exact Zw.to2 (J_78 _ _ _ h) rfl rfl rfl
        · replace h := (if_neg h_25).symm.trans h
          refine a_goto (tgt := 78) X dX8_laysApplicants_28 (by decide) ?_
          exact Zw.to2 (J_78 _ _ _ h) rfl rfl rfl
  have H_7 : ∀ (x1_7 : Int32) (x2_7 : Option Value) (M_7 : zMt), D_X8_laysApplicants_7 P zFu x1_7 M_7 = some r → Zw p l e { frames := 2, cells := 0, slots := 0, locals := 80 * (2) } s m args below meth c G b 3 (MQ below (zQ G b FQ) args s 0 0 (fun q : Nat => b ≤ q)) 0 0 7 [some (.ref (P)), some (.int x1_7), x2_7] [] (L, M_7, N) := L_7 zFu
  unfold D_X8_laysApplicants at h
  refine a_aload_n X dX8_laysApplicants_0 rfl ?_
  refine a_iconst (v := 0) X dX8_laysApplicants_1 (by decide) ?_
  obtain ⟨M_2, f_2, h⟩ := zLtx h
  refine d_puti X lf8_275 (by first | exact p_o | assumption) rfl dX8_laysApplicants_2 f_2 ?_
  refine a_iconst (v := 0) X dX8_laysApplicants_5 (by decide) ?_
  refine a_istore_n X dX8_laysApplicants_6 (by decide) ?_
  exact Zw.to2 (H_7 _ _ _ h) rfl rfl rfl
noncomputable def D_X8_isApplicant (P : Nat) (v0 : Int32) (M : zMt) : Option (Int32 × zMt) :=
  zB (D_X8_laysApplicants P M) fun e_1 =>
  zB (D_X8_isFrom (Int32.toInt64 v0) (0 : Int64) (Int32.toInt64 ((e_1 P 33) - (1 : Int32)))) fun e_14 =>
  some (e_14, e_1)
set_option maxRecDepth 100000 in
set_option maxHeartbeats 4000000 in
theorem t_X8_isApplicant {l : Launch} {G : zG} {b : Nat} {L : List zC} {M : zMt} {N : zNt} {P : Nat} {v0 : Int32} (hP : LX8 L P) {r : Int32 × zMt} (h : D_X8_isApplicant P v0 M = some r) : zM l G b yX8_isApplicant cX8_isApplicant 2 (some .boolean) 3 0 0 [.ref P, .int v0] (L, M, N) (fun r2 z => r2 = some (.int r.1) ∧ z = (L, r.2, N) ∧ (r.1 = 0 ∨ r.1 = 1)) := by
  refine zM.of miX8_isApplicant (Nat.le_of_ble_eq_true rfl) ?_
  intro p e s m args below meth c X hr hname
  generalize hF : ((fun r2 z => r2 = some (.int r.1) ∧ z = (L, r.2, N) ∧ (r.1 = 0 ∨ r.1 = 1)) : Option Value → zS → Prop) = FQ
  change Zw p l e { frames := 3, cells := 0, slots := 0, locals := 80 * (3) } s m args below meth c G b 2 (MQ below (zQ G b FQ) args s 0 0 (fun q : Nat => b ≤ q)) 0 0 0 [some (.ref P), some (.int v0)] [] (L, M, N)
  have p_lt := hP.1
  have p_o := hP.2.1
  unfold D_X8_isApplicant at h
  refine a_aload_n X dX8_isApplicant_0 rfl ?_
  obtain ⟨e_1, f_1, h⟩ := zBx h
  refine a_callVu X dX8_isApplicant_1 miX8_laysApplicants lm8_281 (t_X8_laysApplicants (by first | exact hP | assumption) f_1) (by first | exact p_o | assumption) rfl rfl rfl (Nat.le_of_ble_eq_true rfl) ⟨by decide, by decide, by decide, by decide⟩ ?_
  refine a_iload_n X dX8_isApplicant_4 rfl ?_
  refine a_i2l X dX8_isApplicant_5 ?_
  refine a_lconst (v := 0) X dX8_isApplicant_6 (by decide) ?_
  refine a_aload_n X dX8_isApplicant_7 rfl ?_
  refine a_geti X lf8_275 (by first | exact p_o | assumption) rfl dX8_isApplicant_8 ?_
  refine a_iconst (v := 1) X dX8_isApplicant_11 (by decide) ?_
  refine a_isub X dX8_isApplicant_12 ?_
  refine a_i2l X dX8_isApplicant_13 ?_
  obtain ⟨e_14, f_14, h⟩ := zBx h
  refine a_callSx X dX8_isApplicant_14 miX8_isFrom lm8_128 (t_X8_isFrom f_14) rfl rfl (Nat.le_of_ble_eq_true rfl) ⟨by decide, by decide, by decide, by decide⟩ (fun r_14 S_14 q_14 => ?_)
  obtain ⟨rfl, rfl, b_14⟩ := q_14
  refine a_zret X (by first | exact Or.inl rfl | exact Or.inr rfl | assumption) hr dX8_isApplicant_17 ⟨by decide, by decide⟩ ?_
  subst hF
  rw [← Option.some.inj h]
  exact ⟨rfl, rfl, (by first | exact Or.inl rfl | exact Or.inr rfl | assumption)⟩
noncomputable def D_X8_choiceOf_22 (P : Nat) (M : zMt) (y0_22 : Int32) : Option (Int32) :=
  some (y0_22)
noncomputable def D_X8_choiceOf (P : Nat) (M : zMt) (v0 : Int32) (v1 : Int32) : Option (Int32) :=
  if (3 : Int32) ≤ v1 then
    D_X8_choiceOf_22 P M (-1 : Int32)
  else
    zI v0 10 <|
    zI ((M (P + 13) v0.toNatClampNeg) + v1) 82 <|
    D_X8_choiceOf_22 P M (M (P + 1) ((M (P + 13) v0.toNatClampNeg) + v1).toNatClampNeg)
set_option maxRecDepth 100000 in
set_option maxHeartbeats 4000000 in
theorem t_X8_choiceOf {l : Launch} {G : zG} {b : Nat} {L : List zC} {M : zMt} {N : zNt} {P : Nat} {v0 : Int32} {v1 : Int32} (hP : LX8 L P) {r : Int32} (h : D_X8_choiceOf P M v0 v1 = some r) : zM l G b yX8_choiceOf cX8_choiceOf 3 (some .int) 0 0 0 [.ref P, .int v0, .int v1] (L, M, N) (fun r2 z => r2 = some (.int r) ∧ z = (L, M, N)) := by
  refine zM.of miX8_choiceOf (Nat.le_of_ble_eq_true rfl) ?_
  intro p e s m args below meth c X hr hname
  generalize hF : ((fun r2 z => r2 = some (.int r) ∧ z = (L, M, N)) : Option Value → zS → Prop) = FQ
  change Zw p l e { frames := 0, cells := 0, slots := 0, locals := 80 * (0) } s m args below meth c G b 3 (MQ below (zQ G b FQ) args s 0 0 (fun q : Nat => b ≤ q)) 0 0 0 [some (.ref P), some (.int v0), some (.int v1)] [] (L, M, N)
  have p_lt := hP.1
  have p_o := hP.2.1
  have p_s := hP.2.2.1
  have p_choiceAt := hP.2.2.2.2.2.2.2.2.2.2.2.2.2.2.1
  have J_22 : ∀ (x1_22 : Int32) (x2_22 : Int32) (y0_22 : Int32), D_X8_choiceOf_22 P M y0_22 = some r → Zw p l e { frames := 0, cells := 0, slots := 0, locals := 80 * (0) } s m args below meth c G b 3 (MQ below (zQ G b FQ) args s 0 0 (fun q : Nat => b ≤ q)) 0 0 22 [some (.ref (P)), some (.int x1_22), some (.int x2_22)] [.int y0_22] (L, M, N) := by
    intro x1_22 x2_22 y0_22 h
    unfold D_X8_choiceOf_22 at h
    refine a_iret X hr dX8_choiceOf_22 ⟨by decide, by decide⟩ ?_
    subst hF
    rw [← Option.some.inj h]
    exact ⟨rfl, rfl⟩
  unfold D_X8_choiceOf at h
  refine a_iload_n X dX8_choiceOf_0 rfl ?_
  refine a_iconst (v := 3) X dX8_choiceOf_1 (by decide) ?_
  refine a_icmp_ge (tgt := 21) X dX8_choiceOf_2 (by decide) (fun h_2 => ?_) (fun h_2 => ?_)
  · replace h := (if_pos h_2).symm.trans h
    refine a_iconst (v := -1) X dX8_choiceOf_21 (by decide) ?_
    exact Zw.to2 (J_22 _ _ _ h) rfl rfl rfl
  · replace h := (if_neg h_2).symm.trans h
    refine a_aload_n X dX8_choiceOf_5 rfl ?_
    refine a_getr X lf8_7 (by first | exact p_o | assumption) rfl (by omega) dX8_choiceOf_6 ?_
    refine a_aload_n X dX8_choiceOf_9 rfl ?_
    refine a_getr X lf8_55 (by first | exact p_o | assumption) rfl (by omega) dX8_choiceOf_10 ?_
    refine a_iload_n X dX8_choiceOf_13 rfl ?_
    obtain ⟨g_14, h⟩ := zIx h
    refine a_iaload X (by first | exact p_choiceAt | assumption) g_14 dX8_choiceOf_14 ?_
    refine a_iload_n X dX8_choiceOf_15 rfl ?_
    refine a_iadd X dX8_choiceOf_16 ?_
    obtain ⟨g_17, h⟩ := zIx h
    refine a_iaload X (by first | exact p_s | assumption) g_17 dX8_choiceOf_17 ?_
    refine a_goto (tgt := 22) X dX8_choiceOf_18 (by decide) ?_
    exact Zw.to2 (J_22 _ _ _ h) rfl rfl rfl
noncomputable def D_X8_choiceMany_2 (P : Nat) (M : zMt) : Nat → Int32 → Int32 → Option (Int32)
  | 0, _, _ => none
  | n + 1, x1_2, x2_2 =>
    zB (D_X8_choiceOf P M x1_2 x2_2) fun e_5 =>
    if e_5 = (-1 : Int32) then
      some (x2_2)
    else
      (D_X8_choiceMany_2 P M n) x1_2 (x2_2 + 1)
noncomputable def D_X8_choiceMany (P : Nat) (M : zMt) (v0 : Int32) : Option (Int32) :=
  D_X8_choiceMany_2 P M zFu v0 (0 : Int32)
set_option maxRecDepth 100000 in
set_option maxHeartbeats 4000000 in
theorem t_X8_choiceMany {l : Launch} {G : zG} {b : Nat} {L : List zC} {M : zMt} {N : zNt} {P : Nat} {v0 : Int32} (hP : LX8 L P) {r : Int32} (h : D_X8_choiceMany P M v0 = some r) : zM l G b yX8_choiceMany cX8_choiceMany 3 (some .int) 1 0 0 [.ref P, .int v0] (L, M, N) (fun r2 z => r2 = some (.int r) ∧ z = (L, M, N)) := by
  refine zM.of miX8_choiceMany (Nat.le_of_ble_eq_true rfl) ?_
  intro p e s m args below meth c X hr hname
  generalize hF : ((fun r2 z => r2 = some (.int r) ∧ z = (L, M, N)) : Option Value → zS → Prop) = FQ
  change Zw p l e { frames := 1, cells := 0, slots := 0, locals := 80 * (1) } s m args below meth c G b 3 (MQ below (zQ G b FQ) args s 0 0 (fun q : Nat => b ≤ q)) 0 0 0 [some (.ref P), some (.int v0), none] [] (L, M, N)
  have p_lt := hP.1
  have p_o := hP.2.1
  have L_2 : ∀ u : Nat, ∀ (x1_2 : Int32) (x2_2 : Int32), D_X8_choiceMany_2 P M u x1_2 x2_2 = some r → Zw p l e { frames := 1, cells := 0, slots := 0, locals := 80 * (1) } s m args below meth c G b 3 (MQ below (zQ G b FQ) args s 0 0 (fun q : Nat => b ≤ q)) 0 0 2 [some (.ref (P)), some (.int x1_2), some (.int x2_2)] [] (L, M, N) := by
    intro u
    induction u with
    | zero => intro x1_2 x2_2 h; cases (show none = some r from h)
    | succ u_2 ih_2 =>
      intro x1_2 x2_2 h
      rw [D_X8_choiceMany_2] at h
      refine a_aload_n X dX8_choiceMany_2 rfl ?_
      refine a_iload_n X dX8_choiceMany_3 rfl ?_
      refine a_iload_n X dX8_choiceMany_4 rfl ?_
      obtain ⟨e_5, f_5, h⟩ := zBx h
      refine a_callVv X dX8_choiceMany_5 miX8_choiceOf lm8_284 (t_X8_choiceOf (by first | exact hP | assumption) f_5) (by first | exact p_o | assumption) rfl rfl rfl (Nat.le_of_ble_eq_true rfl) ⟨by decide, by decide, by decide, by decide⟩ ?_
      refine a_iconst (v := -1) X dX8_choiceMany_8 (by decide) ?_
      refine a_icmp_eq (tgt := 18) X dX8_choiceMany_9 (by decide) (fun h_9 => ?_) (fun h_9 => ?_)
      · replace h := (if_pos h_9).symm.trans h
        refine a_iload_n X dX8_choiceMany_18 rfl ?_
        refine a_iret X hr dX8_choiceMany_19 ⟨by decide, by decide⟩ ?_
        subst hF
        rw [← Option.some.inj h]
        exact ⟨rfl, rfl⟩
      · replace h := (if_neg h_9).symm.trans h
        refine a_iinc (v := x2_2 + 1) X dX8_choiceMany_12 (by decide) rfl zi_1 ?_
        refine a_goto (tgt := 2) X dX8_choiceMany_15 (by decide) ?_
        exact Zw.to2 (ih_2 _ _ h) rfl rfl rfl
  have H_2 : ∀ (x1_2 : Int32) (x2_2 : Int32), D_X8_choiceMany_2 P M zFu x1_2 x2_2 = some r → Zw p l e { frames := 1, cells := 0, slots := 0, locals := 80 * (1) } s m args below meth c G b 3 (MQ below (zQ G b FQ) args s 0 0 (fun q : Nat => b ≤ q)) 0 0 2 [some (.ref (P)), some (.int x1_2), some (.int x2_2)] [] (L, M, N) := L_2 zFu
  unfold D_X8_choiceMany at h
  refine a_iconst (v := 0) X dX8_choiceMany_0 (by decide) ?_
  refine a_istore_n X dX8_choiceMany_1 (by decide) ?_
  exact Zw.to2 (H_2 _ _ h) rfl rfl rfl
noncomputable def D_X8_placeOf_2 (P : Nat) (M : zMt) : Nat → Int32 → Int32 → Int32 → Option (Int32)
  | 0, _, _, _ => none
  | n + 1, x1_2, x2_2, x3_2 =>
    zB (D_X8_choiceMany P M x1_2) fun e_5 =>
    if e_5 ≤ x3_2 then
      some ((-1 : Int32))
    else
      zB (D_X8_choiceOf P M x1_2 x3_2) fun e_14 =>
      if e_14 = x2_2 then
        some (x3_2)
      else
        (D_X8_placeOf_2 P M n) x1_2 x2_2 (x3_2 + 1)
noncomputable def D_X8_placeOf (P : Nat) (M : zMt) (v0 : Int32) (v1 : Int32) : Option (Int32) :=
  D_X8_placeOf_2 P M zFu v0 v1 (0 : Int32)
set_option maxRecDepth 100000 in
set_option maxHeartbeats 4000000 in
theorem t_X8_placeOf {l : Launch} {G : zG} {b : Nat} {L : List zC} {M : zMt} {N : zNt} {P : Nat} {v0 : Int32} {v1 : Int32} (hP : LX8 L P) {r : Int32} (h : D_X8_placeOf P M v0 v1 = some r) : zM l G b yX8_placeOf cX8_placeOf 4 (some .int) 2 0 0 [.ref P, .int v0, .int v1] (L, M, N) (fun r2 z => r2 = some (.int r) ∧ z = (L, M, N)) := by
  refine zM.of miX8_placeOf (Nat.le_of_ble_eq_true rfl) ?_
  intro p e s m args below meth c X hr hname
  generalize hF : ((fun r2 z => r2 = some (.int r) ∧ z = (L, M, N)) : Option Value → zS → Prop) = FQ
  change Zw p l e { frames := 2, cells := 0, slots := 0, locals := 80 * (2) } s m args below meth c G b 4 (MQ below (zQ G b FQ) args s 0 0 (fun q : Nat => b ≤ q)) 0 0 0 [some (.ref P), some (.int v0), some (.int v1), none] [] (L, M, N)
  have p_lt := hP.1
  have p_o := hP.2.1
  have L_2 : ∀ u : Nat, ∀ (x1_2 : Int32) (x2_2 : Int32) (x3_2 : Int32), D_X8_placeOf_2 P M u x1_2 x2_2 x3_2 = some r → Zw p l e { frames := 2, cells := 0, slots := 0, locals := 80 * (2) } s m args below meth c G b 4 (MQ below (zQ G b FQ) args s 0 0 (fun q : Nat => b ≤ q)) 0 0 2 [some (.ref (P)), some (.int x1_2), some (.int x2_2), some (.int x3_2)] [] (L, M, N) := by
    intro u
    induction u with
    | zero => intro x1_2 x2_2 x3_2 h; cases (show none = some r from h)
    | succ u_2 ih_2 =>
      intro x1_2 x2_2 x3_2 h
      rw [D_X8_placeOf_2] at h
      refine a_iload_n X dX8_placeOf_2 rfl ?_
      refine a_aload_n X dX8_placeOf_3 rfl ?_
      refine a_iload_n X dX8_placeOf_4 rfl ?_
      obtain ⟨e_5, f_5, h⟩ := zBx h
      refine a_callVv X dX8_placeOf_5 miX8_choiceMany lm8_288 (t_X8_choiceMany (by first | exact hP | assumption) f_5) (by first | exact p_o | assumption) rfl rfl rfl (Nat.le_of_ble_eq_true rfl) ⟨by decide, by decide, by decide, by decide⟩ ?_
      refine a_icmp_ge (tgt := 29) X dX8_placeOf_8 (by decide) (fun h_8 => ?_) (fun h_8 => ?_)
      · replace h := (if_pos h_8).symm.trans h
        refine a_iconst (v := -1) X dX8_placeOf_29 (by decide) ?_
        refine a_iret X hr dX8_placeOf_30 ⟨by decide, by decide⟩ ?_
        subst hF
        rw [← Option.some.inj h]
        exact ⟨rfl, rfl⟩
      · replace h := (if_neg h_8).symm.trans h
        refine a_aload_n X dX8_placeOf_11 rfl ?_
        refine a_iload_n X dX8_placeOf_12 rfl ?_
        refine a_iload_n X dX8_placeOf_13 rfl ?_
        obtain ⟨e_14, f_14, h⟩ := zBx h
        refine a_callVv X dX8_placeOf_14 miX8_choiceOf lm8_284 (t_X8_choiceOf (by first | exact hP | assumption) f_14) (by first | exact p_o | assumption) rfl rfl rfl (Nat.le_of_ble_eq_true rfl) ⟨by decide, by decide, by decide, by decide⟩ ?_
        refine a_iload_n X dX8_placeOf_17 rfl ?_
        refine a_icmp_ne (tgt := 23) X dX8_placeOf_18 (by decide) (fun h_18 => ?_) (fun h_18 => ?_)
        · replace h := (if_neg h_18).symm.trans h
          refine a_iinc (v := x3_2 + 1) X dX8_placeOf_23 (by decide) rfl zi_1 ?_
          refine a_goto (tgt := 2) X dX8_placeOf_26 (by decide) ?_
          exact Zw.to2 (ih_2 _ _ _ h) rfl rfl rfl
        · replace h := (if_pos h_18).symm.trans h
          refine a_iload_n X dX8_placeOf_21 rfl ?_
          refine a_iret X hr dX8_placeOf_22 ⟨by decide, by decide⟩ ?_
          subst hF
          rw [← Option.some.inj h]
          exact ⟨rfl, rfl⟩
  have H_2 : ∀ (x1_2 : Int32) (x2_2 : Int32) (x3_2 : Int32), D_X8_placeOf_2 P M zFu x1_2 x2_2 x3_2 = some r → Zw p l e { frames := 2, cells := 0, slots := 0, locals := 80 * (2) } s m args below meth c G b 4 (MQ below (zQ G b FQ) args s 0 0 (fun q : Nat => b ≤ q)) 0 0 2 [some (.ref (P)), some (.int x1_2), some (.int x2_2), some (.int x3_2)] [] (L, M, N) := L_2 zFu
  unfold D_X8_placeOf at h
  refine a_iconst (v := 0) X dX8_placeOf_0 (by decide) ?_
  refine a_istore_n X dX8_placeOf_1 (by decide) ?_
  exact Zw.to2 (H_2 _ _ _ h) rfl rfl rfl
noncomputable def D_X8_applicantOf_6 (P : Nat) : Nat → Int32 → Int32 → zMt → Option (Int32 × zMt)
  | 0, _, _, _ => none
  | n + 1, x1_6, x2_6, M_6 =>
    zI x2_6 10 <|
    zB (D_X8_has (M_6 (P + 11) x2_6.toNatClampNeg) x1_6) fun e_13 =>
    if e_13 = 0 then
      (D_X8_applicantOf_6 P n) x1_6 (x2_6 + 1) M_6
    else
      some (x2_6, M_6)
noncomputable def D_X8_applicantOf (P : Nat) (v0 : Int32) (M : zMt) : Option (Int32 × zMt) :=
  zB (D_X8_laysApplicants P M) fun e_1 =>
  D_X8_applicantOf_6 P zFu v0 (0 : Int32) e_1
set_option maxRecDepth 100000 in
set_option maxHeartbeats 4000000 in
theorem t_X8_applicantOf {l : Launch} {G : zG} {b : Nat} {L : List zC} {M : zMt} {N : zNt} {P : Nat} {v0 : Int32} (hP : LX8 L P) {r : Int32 × zMt} (h : D_X8_applicantOf P v0 M = some r) : zM l G b yX8_applicantOf cX8_applicantOf 3 (some .int) 3 0 0 [.ref P, .int v0] (L, M, N) (fun r2 z => r2 = some (.int r.1) ∧ z = (L, r.2, N)) := by
  refine zM.of miX8_applicantOf (Nat.le_of_ble_eq_true rfl) ?_
  intro p e s m args below meth c X hr hname
  generalize hF : ((fun r2 z => r2 = some (.int r.1) ∧ z = (L, r.2, N)) : Option Value → zS → Prop) = FQ
  change Zw p l e { frames := 3, cells := 0, slots := 0, locals := 80 * (3) } s m args below meth c G b 3 (MQ below (zQ G b FQ) args s 0 0 (fun q : Nat => b ≤ q)) 0 0 0 [some (.ref P), some (.int v0), none] [] (L, M, N)
  have p_lt := hP.1
  have p_o := hP.2.1
  have p_bits := hP.2.2.2.2.2.2.2.2.2.2.2.2.1
  have L_6 : ∀ u : Nat, ∀ (x1_6 : Int32) (x2_6 : Int32) (M_6 : zMt), D_X8_applicantOf_6 P u x1_6 x2_6 M_6 = some r → Zw p l e { frames := 3, cells := 0, slots := 0, locals := 80 * (3) } s m args below meth c G b 3 (MQ below (zQ G b FQ) args s 0 0 (fun q : Nat => b ≤ q)) 0 0 6 [some (.ref (P)), some (.int x1_6), some (.int x2_6)] [] (L, M_6, N) := by
    intro u
    induction u with
    | zero => intro x1_6 x2_6 M_6 h; cases (show none = some r from h)
    | succ u_6 ih_6 =>
      intro x1_6 x2_6 M_6 h
      rw [D_X8_applicantOf_6] at h
      refine a_aload_n X dX8_applicantOf_6 rfl ?_
      refine a_getr X lf8_49 (by first | exact p_o | assumption) rfl (by omega) dX8_applicantOf_7 ?_
      refine a_iload_n X dX8_applicantOf_10 rfl ?_
      obtain ⟨g_11, h⟩ := zIx h
      refine a_iaload X (by first | exact p_bits | assumption) g_11 dX8_applicantOf_11 ?_
      refine a_iload_n X dX8_applicantOf_12 rfl ?_
      obtain ⟨e_13, f_13, h⟩ := zBx h
      refine a_callSx X dX8_applicantOf_13 miX8_has lm8_240 (t_X8_has f_13) rfl rfl (Nat.le_of_ble_eq_true rfl) ⟨by decide, by decide, by decide, by decide⟩ (fun r_13 S_13 q_13 => ?_)
      obtain ⟨rfl, rfl, b_13⟩ := q_13
      refine a_if_ne (tgt := 25) X dX8_applicantOf_16 (by decide) (fun h_16 => ?_) (fun h_16 => ?_)
      · replace h := (if_neg h_16).symm.trans h
        refine a_iload_n X dX8_applicantOf_25 rfl ?_
        refine a_iret X hr dX8_applicantOf_26 ⟨by decide, by decide⟩ ?_
        subst hF
        rw [← Option.some.inj h]
        exact ⟨rfl, rfl⟩
      · replace h := (if_pos h_16).symm.trans h
        refine a_iinc (v := x2_6 + 1) X dX8_applicantOf_19 (by decide) rfl zi_1 ?_
        refine a_goto (tgt := 6) X dX8_applicantOf_22 (by decide) ?_
        exact Zw.to2 (ih_6 _ _ _ h) rfl rfl rfl
  have H_6 : ∀ (x1_6 : Int32) (x2_6 : Int32) (M_6 : zMt), D_X8_applicantOf_6 P zFu x1_6 x2_6 M_6 = some r → Zw p l e { frames := 3, cells := 0, slots := 0, locals := 80 * (3) } s m args below meth c G b 3 (MQ below (zQ G b FQ) args s 0 0 (fun q : Nat => b ≤ q)) 0 0 6 [some (.ref (P)), some (.int x1_6), some (.int x2_6)] [] (L, M_6, N) := L_6 zFu
  unfold D_X8_applicantOf at h
  refine a_aload_n X dX8_applicantOf_0 rfl ?_
  obtain ⟨e_1, f_1, h⟩ := zBx h
  refine a_callVu X dX8_applicantOf_1 miX8_laysApplicants lm8_281 (t_X8_laysApplicants (by first | exact hP | assumption) f_1) (by first | exact p_o | assumption) rfl rfl rfl (Nat.le_of_ble_eq_true rfl) ⟨by decide, by decide, by decide, by decide⟩ ?_
  refine a_iconst (v := 0) X dX8_applicantOf_4 (by decide) ?_
  refine a_istore_n X dX8_applicantOf_5 (by decide) ?_
  exact Zw.to2 (H_6 _ _ _ h) rfl rfl rfl
noncomputable def D_X8_many_219 (P : Nat) (k196 : Int32 → Int32 → zMt → Option (Int32 × zMt)) (x3_219 : Int32) (y0_219 : Int32) (y1_219 : Int32) (M_219 : zMt) : Option (Int32 × zMt) :=
  k196 (y0_219 + y1_219) (x3_219 + 1) M_219
noncomputable def D_X8_many_196 (P : Nat) : Nat → Int32 → Int32 → zMt → Option (Int32 × zMt)
  | 0, _, _, _ => none
  | n + 1, x2_196, x3_196, M_196 =>
    if (M_196 P 8) ≤ x3_196 then
      zB (D_X8_gives P x2_196 M_196) fun e_229 =>
      some (e_229.1, e_229.2)
    else
      zI x3_196 10 <|
      if (M_196 (P + 5) x3_196.toNatClampNeg) = 0 then
        D_X8_many_219 P (D_X8_many_196 P n) x3_196 x2_196 (0 : Int32) M_196
      else
        D_X8_many_219 P (D_X8_many_196 P n) x3_196 x2_196 (1 : Int32) M_196
noncomputable def D_X8_many_162 (P : Nat) : Nat → Int32 → Int32 → zMt → Option (Int32 × zMt)
  | 0, _, _, _ => none
  | n + 1, x2_162, x3_162, M_162 =>
    if (M_162 P 7) ≤ x3_162 then
      zB (D_X8_gives P x2_162 M_162) fun e_190 =>
      some (e_190.1, e_190.2)
    else
      zI ((62 : Int32) + x3_162) 82 <|
      (D_X8_many_162 P n) (x2_162 + (M_162 (P + 1) ((62 : Int32) + x3_162).toNatClampNeg)) (x3_162 + 1) M_162
noncomputable def D_X8_many (P : Nat) (v0 : Int32) (M : zMt) : Option (Int32 × zMt) :=
  zB (D_X8_laysApplicants P M) fun e_1 =>
  if Int32.toInt v0 = 0 then
    zB (D_X8_gives P (e_1 P 7) e_1) fun e_69 =>
    some (e_69.1, e_69.2)
  else
  if Int32.toInt v0 = 1 then
    zB (D_X8_gives P (e_1 P 8) e_1) fun e_78 =>
    some (e_78.1, e_78.2)
  else
  if Int32.toInt v0 = 2 then
    zI (70 : Int32) 82 <|
    zB (D_X8_gives P (e_1 (P + 1) (70 : Int32).toNatClampNeg) e_1) fun e_90 =>
    some (e_90.1, e_90.2)
  else
  if Int32.toInt v0 = 3 then
    zB (D_X8_gives P (e_1 P 33) e_1) fun e_99 =>
    some (e_99.1, e_99.2)
  else
  if Int32.toInt v0 = 4 then
    zI (67 : Int32) 82 <|
    zB (D_X8_gives P (e_1 (P + 1) (67 : Int32).toNatClampNeg) e_1) fun e_111 =>
    some (e_111.1, e_111.2)
  else
  if Int32.toInt v0 = 5 then
    zI (68 : Int32) 82 <|
    zB (D_X8_gives P (e_1 (P + 1) (68 : Int32).toNatClampNeg) e_1) fun e_123 =>
    some (e_123.1, e_123.2)
  else
  if Int32.toInt v0 = 6 then
    zI (69 : Int32) 82 <|
    zB (D_X8_gives P (e_1 (P + 1) (69 : Int32).toNatClampNeg) e_1) fun e_135 =>
    some (e_135.1, e_135.2)
  else
  if Int32.toInt v0 = 7 then
    zI (71 : Int32) 82 <|
    zB (D_X8_gives P (e_1 (P + 1) (71 : Int32).toNatClampNeg) e_1) fun e_147 =>
    some (e_147.1, e_147.2)
  else
  if Int32.toInt v0 = 8 then
    zB (D_X8_gives P (e_1 P 9) e_1) fun e_156 =>
    some (e_156.1, e_156.2)
  else
  if Int32.toInt v0 = 9 then
    D_X8_many_162 P zFu (0 : Int32) (0 : Int32) e_1
  else
  if Int32.toInt v0 = 10 then
    D_X8_many_196 P zFu (0 : Int32) (0 : Int32) e_1
  else
    zB (D_X8_refuse P (1 : Int32) e_1) fun e_235 =>
    some (e_235.1, e_235.2)
set_option maxRecDepth 100000 in
set_option maxHeartbeats 4000000 in
theorem t_X8_many {l : Launch} {G : zG} {b : Nat} {L : List zC} {M : zMt} {N : zNt} {P : Nat} {v0 : Int32} (hP : LX8 L P) {r : Int32 × zMt} (h : D_X8_many P v0 M = some r) : zM l G b yX8_many cX8_many 4 (some .int) 3 0 0 [.ref P, .int v0] (L, M, N) (fun r2 z => r2 = some (.int r.1) ∧ z = (L, r.2, N)) := by
  refine zM.of miX8_many (Nat.le_of_ble_eq_true rfl) ?_
  intro p e s m args below meth c X hr hname
  generalize hF : ((fun r2 z => r2 = some (.int r.1) ∧ z = (L, r.2, N)) : Option Value → zS → Prop) = FQ
  change Zw p l e { frames := 3, cells := 0, slots := 0, locals := 80 * (3) } s m args below meth c G b 4 (MQ below (zQ G b FQ) args s 0 0 (fun q : Nat => b ≤ q)) 0 0 0 [some (.ref P), some (.int v0), none, none] [] (L, M, N)
  have p_lt := hP.1
  have p_o := hP.2.1
  have p_s := hP.2.2.1
  have p_guest := hP.2.2.2.2.2.2.1
  have L_196 : ∀ u : Nat, ∀ (x1_196 : Int32) (x2_196 : Int32) (x3_196 : Int32) (M_196 : zMt), D_X8_many_196 P u x2_196 x3_196 M_196 = some r → Zw p l e { frames := 3, cells := 0, slots := 0, locals := 80 * (3) } s m args below meth c G b 4 (MQ below (zQ G b FQ) args s 0 0 (fun q : Nat => b ≤ q)) 0 0 196 [some (.ref (P)), some (.int x1_196), some (.int x2_196), some (.int x3_196)] [] (L, M_196, N) := by
    intro u
    induction u with
    | zero => intro x1_196 x2_196 x3_196 M_196 h; cases (show none = some r from h)
    | succ u_196 ih_196 =>
      have J_219 : ∀ (x1_219 : Int32) (x2_219 : Int32) (x3_219 : Int32) (y0_219 : Int32) (y1_219 : Int32) (M_219 : zMt), (y1_219 = 0 ∨ y1_219 = 1) → D_X8_many_219 P (D_X8_many_196 P u_196) x3_219 y0_219 y1_219 M_219 = some r → Zw p l e { frames := 3, cells := 0, slots := 0, locals := 80 * (3) } s m args below meth c G b 4 (MQ below (zQ G b FQ) args s 0 0 (fun q : Nat => b ≤ q)) 0 0 219 [some (.ref (P)), some (.int x1_219), some (.int x2_219), some (.int x3_219)] [.int y1_219, .int y0_219] (L, M_219, N) := by
        intro x1_219 x2_219 x3_219 y0_219 y1_219 M_219 fb_y1_219 h
        unfold D_X8_many_219 at h
        refine a_iadd X dX8_many_219 ?_
        refine a_istore_n X dX8_many_220 (by decide) ?_
        refine a_iinc (v := x3_219 + 1) X dX8_many_221 (by decide) rfl zi_1 ?_
        refine a_goto (tgt := 196) X dX8_many_224 (by decide) ?_
        exact Zw.to2 (ih_196 _ _ _ _ h) rfl rfl rfl
      intro x1_196 x2_196 x3_196 M_196 h
      rw [D_X8_many_196] at h
      refine a_iload_n X dX8_many_196 rfl ?_
      refine a_aload_n X dX8_many_197 rfl ?_
      refine a_geti X lf8_132 (by first | exact p_o | assumption) rfl dX8_many_198 ?_
      refine a_icmp_ge (tgt := 227) X dX8_many_201 (by decide) (fun h_201 => ?_) (fun h_201 => ?_)
      · replace h := (if_pos h_201).symm.trans h
        refine a_aload_n X dX8_many_227 rfl ?_
        refine a_iload_n X dX8_many_228 rfl ?_
        obtain ⟨e_229, f_229, h⟩ := zBx h
        refine a_callVv X dX8_many_229 miX8_gives lm8_272 (t_X8_gives (by first | exact hP | assumption) f_229) (by first | exact p_o | assumption) rfl rfl rfl (Nat.le_of_ble_eq_true rfl) ⟨by decide, by decide, by decide, by decide⟩ ?_
        refine a_iret X hr dX8_many_232 ⟨by decide, by decide⟩ ?_
        subst hF
        rw [← Option.some.inj h]
        exact ⟨rfl, rfl⟩
      · replace h := (if_neg h_201).symm.trans h
        refine a_iload_n X dX8_many_204 rfl ?_
        refine a_aload_n X dX8_many_205 rfl ?_
        refine a_getr X lf8_22 (by first | exact p_o | assumption) rfl (by omega) dX8_many_206 ?_
        refine a_iload_n X dX8_many_209 rfl ?_
        obtain ⟨g_210, h⟩ := zIx h
        refine a_baload X (by first | exact p_guest | assumption) g_210 dX8_many_210 ?_
        refine a_if_eq (tgt := 218) X dX8_many_211 (by decide) (fun h_211 => ?_) (fun h_211 => ?_)
        · replace h := (if_pos h_211).symm.trans h
          refine a_iconst (v := 0) X dX8_many_218 (by decide) ?_
          exact Zw.to2 (J_219 _ _ _ _ _ _ (by first | exact Or.inl rfl | exact Or.inr rfl | assumption) h) rfl rfl rfl
        · replace h := (if_neg h_211).symm.trans h
          refine a_iconst (v := 1) X dX8_many_214 (by decide) ?_
          refine a_goto (tgt := 219) X dX8_many_215 (by decide) ?_
          exact Zw.to2 (J_219 _ _ _ _ _ _ (by first | exact Or.inl rfl | exact Or.inr rfl | assumption) h) rfl rfl rfl
  have H_196 : ∀ (x1_196 : Int32) (x2_196 : Int32) (x3_196 : Int32) (M_196 : zMt), D_X8_many_196 P zFu x2_196 x3_196 M_196 = some r → Zw p l e { frames := 3, cells := 0, slots := 0, locals := 80 * (3) } s m args below meth c G b 4 (MQ below (zQ G b FQ) args s 0 0 (fun q : Nat => b ≤ q)) 0 0 196 [some (.ref (P)), some (.int x1_196), some (.int x2_196), some (.int x3_196)] [] (L, M_196, N) := L_196 zFu
  have L_162 : ∀ u : Nat, ∀ (x1_162 : Int32) (x2_162 : Int32) (x3_162 : Int32) (M_162 : zMt), D_X8_many_162 P u x2_162 x3_162 M_162 = some r → Zw p l e { frames := 3, cells := 0, slots := 0, locals := 80 * (3) } s m args below meth c G b 4 (MQ below (zQ G b FQ) args s 0 0 (fun q : Nat => b ≤ q)) 0 0 162 [some (.ref (P)), some (.int x1_162), some (.int x2_162), some (.int x3_162)] [] (L, M_162, N) := by
    intro u
    induction u with
    | zero => intro x1_162 x2_162 x3_162 M_162 h; cases (show none = some r from h)
    | succ u_162 ih_162 =>
      intro x1_162 x2_162 x3_162 M_162 h
      rw [D_X8_many_162] at h
      refine a_iload_n X dX8_many_162 rfl ?_
      refine a_aload_n X dX8_many_163 rfl ?_
      refine a_geti X lf8_125 (by first | exact p_o | assumption) rfl dX8_many_164 ?_
      refine a_icmp_ge (tgt := 188) X dX8_many_167 (by decide) (fun h_167 => ?_) (fun h_167 => ?_)
      · replace h := (if_pos h_167).symm.trans h
        refine a_aload_n X dX8_many_188 rfl ?_
        refine a_iload_n X dX8_many_189 rfl ?_
        obtain ⟨e_190, f_190, h⟩ := zBx h
        refine a_callVv X dX8_many_190 miX8_gives lm8_272 (t_X8_gives (by first | exact hP | assumption) f_190) (by first | exact p_o | assumption) rfl rfl rfl (Nat.le_of_ble_eq_true rfl) ⟨by decide, by decide, by decide, by decide⟩ ?_
        refine a_iret X hr dX8_many_193 ⟨by decide, by decide⟩ ?_
        subst hF
        rw [← Option.some.inj h]
        exact ⟨rfl, rfl⟩
      · replace h := (if_neg h_167).symm.trans h
        refine a_iload_n X dX8_many_170 rfl ?_
        refine a_aload_n X dX8_many_171 rfl ?_
        refine a_getr X lf8_7 (by first | exact p_o | assumption) rfl (by omega) dX8_many_172 ?_
        refine a_bipush (v := 62) X dX8_many_175 (by decide) ?_
        refine a_iload_n X dX8_many_177 rfl ?_
        refine a_iadd X dX8_many_178 ?_
        obtain ⟨g_179, h⟩ := zIx h
        refine a_iaload X (by first | exact p_s | assumption) g_179 dX8_many_179 ?_
        refine a_iadd X dX8_many_180 ?_
        refine a_istore_n X dX8_many_181 (by decide) ?_
        refine a_iinc (v := x3_162 + 1) X dX8_many_182 (by decide) rfl zi_1 ?_
        refine a_goto (tgt := 162) X dX8_many_185 (by decide) ?_
        exact Zw.to2 (ih_162 _ _ _ _ h) rfl rfl rfl
  have H_162 : ∀ (x1_162 : Int32) (x2_162 : Int32) (x3_162 : Int32) (M_162 : zMt), D_X8_many_162 P zFu x2_162 x3_162 M_162 = some r → Zw p l e { frames := 3, cells := 0, slots := 0, locals := 80 * (3) } s m args below meth c G b 4 (MQ below (zQ G b FQ) args s 0 0 (fun q : Nat => b ≤ q)) 0 0 162 [some (.ref (P)), some (.int x1_162), some (.int x2_162), some (.int x3_162)] [] (L, M_162, N) := L_162 zFu
  unfold D_X8_many at h
  refine a_aload_n X dX8_many_0 rfl ?_
  obtain ⟨e_1, f_1, h⟩ := zBx h
  refine a_callVu X dX8_many_1 miX8_laysApplicants lm8_281 (t_X8_laysApplicants (by first | exact hP | assumption) f_1) (by first | exact p_o | assumption) rfl rfl rfl (Nat.le_of_ble_eq_true rfl) ⟨by decide, by decide, by decide, by decide⟩ ?_
  refine a_iconst (v := 0) X dX8_many_4 (by decide) ?_
  refine a_istore_n X dX8_many_5 (by decide) ?_
  refine a_iload_n X dX8_many_6 rfl ?_
  refine a_tsw (tg := [64, 73, 82, 94, 103, 115, 127, 139, 151, 160, 194]) (td := 233) X dX8_many_7 (by decide +kernel) (by decide) (by decide) (fun k_7 t_7 ht_7 hx_7 => ?_) (fun hx_7 => ?_)
  · match k_7, ht_7, hx_7 with
    | 0, ht_7, hx_7 =>
      cases ht_7
      replace h := (if_pos (by omega)).symm.trans h
      refine a_aload_n X dX8_many_64 rfl ?_
      refine a_aload_n X dX8_many_65 rfl ?_
      refine a_geti X lf8_125 (by first | exact p_o | assumption) rfl dX8_many_66 ?_
      obtain ⟨e_69, f_69, h⟩ := zBx h
      refine a_callVv X dX8_many_69 miX8_gives lm8_272 (t_X8_gives (by first | exact hP | assumption) f_69) (by first | exact p_o | assumption) rfl rfl rfl (Nat.le_of_ble_eq_true rfl) ⟨by decide, by decide, by decide, by decide⟩ ?_
      refine a_iret X hr dX8_many_72 ⟨by decide, by decide⟩ ?_
      subst hF
      rw [← Option.some.inj h]
      exact ⟨rfl, rfl⟩
    | 1, ht_7, hx_7 =>
      cases ht_7
      replace h := (if_neg (by omega)).symm.trans h
      replace h := (if_pos (by omega)).symm.trans h
      refine a_aload_n X dX8_many_73 rfl ?_
      refine a_aload_n X dX8_many_74 rfl ?_
      refine a_geti X lf8_132 (by first | exact p_o | assumption) rfl dX8_many_75 ?_
      obtain ⟨e_78, f_78, h⟩ := zBx h
      refine a_callVv X dX8_many_78 miX8_gives lm8_272 (t_X8_gives (by first | exact hP | assumption) f_78) (by first | exact p_o | assumption) rfl rfl rfl (Nat.le_of_ble_eq_true rfl) ⟨by decide, by decide, by decide, by decide⟩ ?_
      refine a_iret X hr dX8_many_81 ⟨by decide, by decide⟩ ?_
      subst hF
      rw [← Option.some.inj h]
      exact ⟨rfl, rfl⟩
    | 2, ht_7, hx_7 =>
      cases ht_7
      replace h := (if_neg (by omega)).symm.trans h
      replace h := (if_neg (by omega)).symm.trans h
      replace h := (if_pos (by omega)).symm.trans h
      refine a_aload_n X dX8_many_82 rfl ?_
      refine a_aload_n X dX8_many_83 rfl ?_
      refine a_getr X lf8_7 (by first | exact p_o | assumption) rfl (by omega) dX8_many_84 ?_
      refine a_bipush (v := 70) X dX8_many_87 (by decide) ?_
      obtain ⟨g_89, h⟩ := zIx h
      refine a_iaload X (by first | exact p_s | assumption) g_89 dX8_many_89 ?_
      obtain ⟨e_90, f_90, h⟩ := zBx h
      refine a_callVv X dX8_many_90 miX8_gives lm8_272 (t_X8_gives (by first | exact hP | assumption) f_90) (by first | exact p_o | assumption) rfl rfl rfl (Nat.le_of_ble_eq_true rfl) ⟨by decide, by decide, by decide, by decide⟩ ?_
      refine a_iret X hr dX8_many_93 ⟨by decide, by decide⟩ ?_
      subst hF
      rw [← Option.some.inj h]
      exact ⟨rfl, rfl⟩
    | 3, ht_7, hx_7 =>
      cases ht_7
      replace h := (if_neg (by omega)).symm.trans h
      replace h := (if_neg (by omega)).symm.trans h
      replace h := (if_neg (by omega)).symm.trans h
      replace h := (if_pos (by omega)).symm.trans h
      refine a_aload_n X dX8_many_94 rfl ?_
      refine a_aload_n X dX8_many_95 rfl ?_
      refine a_geti X lf8_275 (by first | exact p_o | assumption) rfl dX8_many_96 ?_
      obtain ⟨e_99, f_99, h⟩ := zBx h
      refine a_callVv X dX8_many_99 miX8_gives lm8_272 (t_X8_gives (by first | exact hP | assumption) f_99) (by first | exact p_o | assumption) rfl rfl rfl (Nat.le_of_ble_eq_true rfl) ⟨by decide, by decide, by decide, by decide⟩ ?_
      refine a_iret X hr dX8_many_102 ⟨by decide, by decide⟩ ?_
      subst hF
      rw [← Option.some.inj h]
      exact ⟨rfl, rfl⟩
    | 4, ht_7, hx_7 =>
      cases ht_7
      replace h := (if_neg (by omega)).symm.trans h
      replace h := (if_neg (by omega)).symm.trans h
      replace h := (if_neg (by omega)).symm.trans h
      replace h := (if_neg (by omega)).symm.trans h
      replace h := (if_pos (by omega)).symm.trans h
      refine a_aload_n X dX8_many_103 rfl ?_
      refine a_aload_n X dX8_many_104 rfl ?_
      refine a_getr X lf8_7 (by first | exact p_o | assumption) rfl (by omega) dX8_many_105 ?_
      refine a_bipush (v := 67) X dX8_many_108 (by decide) ?_
      obtain ⟨g_110, h⟩ := zIx h
      refine a_iaload X (by first | exact p_s | assumption) g_110 dX8_many_110 ?_
      obtain ⟨e_111, f_111, h⟩ := zBx h
      refine a_callVv X dX8_many_111 miX8_gives lm8_272 (t_X8_gives (by first | exact hP | assumption) f_111) (by first | exact p_o | assumption) rfl rfl rfl (Nat.le_of_ble_eq_true rfl) ⟨by decide, by decide, by decide, by decide⟩ ?_
      refine a_iret X hr dX8_many_114 ⟨by decide, by decide⟩ ?_
      subst hF
      rw [← Option.some.inj h]
      exact ⟨rfl, rfl⟩
    | 5, ht_7, hx_7 =>
      cases ht_7
      replace h := (if_neg (by omega)).symm.trans h
      replace h := (if_neg (by omega)).symm.trans h
      replace h := (if_neg (by omega)).symm.trans h
      replace h := (if_neg (by omega)).symm.trans h
      replace h := (if_neg (by omega)).symm.trans h
      replace h := (if_pos (by omega)).symm.trans h
      refine a_aload_n X dX8_many_115 rfl ?_
      refine a_aload_n X dX8_many_116 rfl ?_
      refine a_getr X lf8_7 (by first | exact p_o | assumption) rfl (by omega) dX8_many_117 ?_
      refine a_bipush (v := 68) X dX8_many_120 (by decide) ?_
      obtain ⟨g_122, h⟩ := zIx h
      refine a_iaload X (by first | exact p_s | assumption) g_122 dX8_many_122 ?_
      obtain ⟨e_123, f_123, h⟩ := zBx h
      refine a_callVv X dX8_many_123 miX8_gives lm8_272 (t_X8_gives (by first | exact hP | assumption) f_123) (by first | exact p_o | assumption) rfl rfl rfl (Nat.le_of_ble_eq_true rfl) ⟨by decide, by decide, by decide, by decide⟩ ?_
      refine a_iret X hr dX8_many_126 ⟨by decide, by decide⟩ ?_
      subst hF
      rw [← Option.some.inj h]
      exact ⟨rfl, rfl⟩
    | 6, ht_7, hx_7 =>
      cases ht_7
      replace h := (if_neg (by omega)).symm.trans h
      replace h := (if_neg (by omega)).symm.trans h
      replace h := (if_neg (by omega)).symm.trans h
      replace h := (if_neg (by omega)).symm.trans h
      replace h := (if_neg (by omega)).symm.trans h
      replace h := (if_neg (by omega)).symm.trans h
      replace h := (if_pos (by omega)).symm.trans h
      refine a_aload_n X dX8_many_127 rfl ?_
      refine a_aload_n X dX8_many_128 rfl ?_
      refine a_getr X lf8_7 (by first | exact p_o | assumption) rfl (by omega) dX8_many_129 ?_
      refine a_bipush (v := 69) X dX8_many_132 (by decide) ?_
      obtain ⟨g_134, h⟩ := zIx h
      refine a_iaload X (by first | exact p_s | assumption) g_134 dX8_many_134 ?_
      obtain ⟨e_135, f_135, h⟩ := zBx h
      refine a_callVv X dX8_many_135 miX8_gives lm8_272 (t_X8_gives (by first | exact hP | assumption) f_135) (by first | exact p_o | assumption) rfl rfl rfl (Nat.le_of_ble_eq_true rfl) ⟨by decide, by decide, by decide, by decide⟩ ?_
      refine a_iret X hr dX8_many_138 ⟨by decide, by decide⟩ ?_
      subst hF
      rw [← Option.some.inj h]
      exact ⟨rfl, rfl⟩
    | 7, ht_7, hx_7 =>
      cases ht_7
      replace h := (if_neg (by omega)).symm.trans h
      replace h := (if_neg (by omega)).symm.trans h
      replace h := (if_neg (by omega)).symm.trans h
      replace h := (if_neg (by omega)).symm.trans h
      replace h := (if_neg (by omega)).symm.trans h
      replace h := (if_neg (by omega)).symm.trans h
      replace h := (if_neg (by omega)).symm.trans h
      replace h := (if_pos (by omega)).symm.trans h
      refine a_aload_n X dX8_many_139 rfl ?_
      refine a_aload_n X dX8_many_140 rfl ?_
      refine a_getr X lf8_7 (by first | exact p_o | assumption) rfl (by omega) dX8_many_141 ?_
      refine a_bipush (v := 71) X dX8_many_144 (by decide) ?_
      obtain ⟨g_146, h⟩ := zIx h
      refine a_iaload X (by first | exact p_s | assumption) g_146 dX8_many_146 ?_
      obtain ⟨e_147, f_147, h⟩ := zBx h
      refine a_callVv X dX8_many_147 miX8_gives lm8_272 (t_X8_gives (by first | exact hP | assumption) f_147) (by first | exact p_o | assumption) rfl rfl rfl (Nat.le_of_ble_eq_true rfl) ⟨by decide, by decide, by decide, by decide⟩ ?_
      refine a_iret X hr dX8_many_150 ⟨by decide, by decide⟩ ?_
      subst hF
      rw [← Option.some.inj h]
      exact ⟨rfl, rfl⟩
    | 8, ht_7, hx_7 =>
      cases ht_7
      replace h := (if_neg (by omega)).symm.trans h
      replace h := (if_neg (by omega)).symm.trans h
      replace h := (if_neg (by omega)).symm.trans h
      replace h := (if_neg (by omega)).symm.trans h
      replace h := (if_neg (by omega)).symm.trans h
      replace h := (if_neg (by omega)).symm.trans h
      replace h := (if_neg (by omega)).symm.trans h
      replace h := (if_neg (by omega)).symm.trans h
      replace h := (if_pos (by omega)).symm.trans h
      refine a_aload_n X dX8_many_151 rfl ?_
      refine a_aload_n X dX8_many_152 rfl ?_
      refine a_geti X lf8_269 (by first | exact p_o | assumption) rfl dX8_many_153 ?_
      obtain ⟨e_156, f_156, h⟩ := zBx h
      refine a_callVv X dX8_many_156 miX8_gives lm8_272 (t_X8_gives (by first | exact hP | assumption) f_156) (by first | exact p_o | assumption) rfl rfl rfl (Nat.le_of_ble_eq_true rfl) ⟨by decide, by decide, by decide, by decide⟩ ?_
      refine a_iret X hr dX8_many_159 ⟨by decide, by decide⟩ ?_
      subst hF
      rw [← Option.some.inj h]
      exact ⟨rfl, rfl⟩
    | 9, ht_7, hx_7 =>
      cases ht_7
      replace h := (if_neg (by omega)).symm.trans h
      replace h := (if_neg (by omega)).symm.trans h
      replace h := (if_neg (by omega)).symm.trans h
      replace h := (if_neg (by omega)).symm.trans h
      replace h := (if_neg (by omega)).symm.trans h
      replace h := (if_neg (by omega)).symm.trans h
      replace h := (if_neg (by omega)).symm.trans h
      replace h := (if_neg (by omega)).symm.trans h
      replace h := (if_neg (by omega)).symm.trans h
      replace h := (if_pos (by omega)).symm.trans h
      refine a_iconst (v := 0) X dX8_many_160 (by decide) ?_
      refine a_istore_n X dX8_many_161 (by decide) ?_
      exact Zw.to2 (H_162 _ _ _ _ h) rfl rfl rfl
    | 10, ht_7, hx_7 =>
      cases ht_7
      replace h := (if_neg (by omega)).symm.trans h
      replace h := (if_neg (by omega)).symm.trans h
      replace h := (if_neg (by omega)).symm.trans h
      replace h := (if_neg (by omega)).symm.trans h
      replace h := (if_neg (by omega)).symm.trans h
      replace h := (if_neg (by omega)).symm.trans h
      replace h := (if_neg (by omega)).symm.trans h
      replace h := (if_neg (by omega)).symm.trans h
      replace h := (if_neg (by omega)).symm.trans h
      replace h := (if_neg (by omega)).symm.trans h
      replace h := (if_pos (by omega)).symm.trans h
      refine a_iconst (v := 0) X dX8_many_194 (by decide) ?_
      refine a_istore_n X dX8_many_195 (by decide) ?_
      exact Zw.to2 (H_196 _ _ _ _ h) rfl rfl rfl
  · skip
    replace h := (if_neg (by omega)).symm.trans h
    replace h := (if_neg (by omega)).symm.trans h
    replace h := (if_neg (by omega)).symm.trans h
    replace h := (if_neg (by omega)).symm.trans h
    replace h := (if_neg (by omega)).symm.trans h
    replace h := (if_neg (by omega)).symm.trans h
    replace h := (if_neg (by omega)).symm.trans h
    replace h := (if_neg (by omega)).symm.trans h
    replace h := (if_neg (by omega)).symm.trans h
    replace h := (if_neg (by omega)).symm.trans h
    replace h := (if_neg (by omega)).symm.trans h
    refine a_aload_n X dX8_many_233 rfl ?_
    refine a_iconst (v := 1) X dX8_many_234 (by decide) ?_
    obtain ⟨e_235, f_235, h⟩ := zBx h
    refine a_callVv X dX8_many_235 miX8_refuse lm8_263 (t_X8_refuse (by first | exact hP | assumption) f_235) (by first | exact p_o | assumption) rfl rfl rfl (Nat.le_of_ble_eq_true rfl) ⟨by decide, by decide, by decide, by decide⟩ ?_
    refine a_iret X hr dX8_many_238 ⟨by decide, by decide⟩ ?_
    subst hF
    rw [← Option.some.inj h]
    exact ⟨rfl, rfl⟩
noncomputable def D_X8_hunter_92 (P : Nat) (y1_92 : Int32) (M_92 : zMt) : Option (Int32 × zMt) :=
  zB (D_X8_gives P y1_92 M_92) fun e_92 =>
  some (e_92.1, e_92.2)
noncomputable def D_X8_hunter (P : Nat) (v0 : Int32) (v1 : Int32) (M : zMt) : Option (Int32 × zMt) :=
  zB (D_X8_isFrom (Int32.toInt64 v1) (0 : Int64) (4 : Int64)) fun e_6 =>
  if e_6 = 0 then
    zB (D_X8_refuse P (1 : Int32) M) fun e_14 =>
    some (e_14.1, e_14.2)
  else
    zB (D_X8_isHunter P M v0) fun e_20 =>
    if e_20 = 0 then
      zB (D_X8_refuse P (2 : Int32) M) fun e_28 =>
      some (e_28.1, e_28.2)
    else
      if Int32.toInt v1 = 0 then
        zI ((0 : Int32) + v0) 82 <|
        zB (D_X8_gives P (M (P + 1) ((0 : Int32) + v0).toNatClampNeg) M) fun e_73 =>
        some (e_73.1, e_73.2)
      else
      if Int32.toInt v1 = 1 then
        zI v0 10 <|
        if (M (P + 5) v0.toNatClampNeg) = 0 then
          D_X8_hunter_92 P (0 : Int32) M
        else
          D_X8_hunter_92 P (1 : Int32) M
      else
      if Int32.toInt v1 = 2 then
        zI ((10 : Int32) + v0) 82 <|
        zB (D_X8_gives P (M (P + 1) ((10 : Int32) + v0).toNatClampNeg) M) fun e_106 =>
        some (e_106.1, e_106.2)
      else
      if Int32.toInt v1 = 3 then
        zB (D_X8_applicantOf P v0 M) fun e_113 =>
        zB (D_X8_gives P e_113.1 e_113.2) fun e_116 =>
        some (e_116.1, e_116.2)
      else
        zI ((72 : Int32) + v0) 82 <|
        zB (D_X8_gives P (M (P + 1) ((72 : Int32) + v0).toNatClampNeg) M) fun e_130 =>
        some (e_130.1, e_130.2)
set_option maxRecDepth 100000 in
set_option maxHeartbeats 4000000 in
theorem t_X8_hunter {l : Launch} {G : zG} {b : Nat} {L : List zC} {M : zMt} {N : zNt} {P : Nat} {v0 : Int32} {v1 : Int32} (hP : LX8 L P) {r : Int32 × zMt} (h : D_X8_hunter P v0 v1 M = some r) : zM l G b yX8_hunter cX8_hunter 3 (some .int) 4 0 0 [.ref P, .int v0, .int v1] (L, M, N) (fun r2 z => r2 = some (.int r.1) ∧ z = (L, r.2, N)) := by
  refine zM.of miX8_hunter (Nat.le_of_ble_eq_true rfl) ?_
  intro p e s m args below meth c X hr hname
  generalize hF : ((fun r2 z => r2 = some (.int r.1) ∧ z = (L, r.2, N)) : Option Value → zS → Prop) = FQ
  change Zw p l e { frames := 4, cells := 0, slots := 0, locals := 80 * (4) } s m args below meth c G b 3 (MQ below (zQ G b FQ) args s 0 0 (fun q : Nat => b ≤ q)) 0 0 0 [some (.ref P), some (.int v0), some (.int v1)] [] (L, M, N)
  have p_lt := hP.1
  have p_o := hP.2.1
  have p_s := hP.2.2.1
  have p_guest := hP.2.2.2.2.2.2.1
  have J_92 : ∀ (x1_92 : Int32) (x2_92 : Int32) (y1_92 : Int32) (M_92 : zMt), (y1_92 = 0 ∨ y1_92 = 1) → D_X8_hunter_92 P y1_92 M_92 = some r → Zw p l e { frames := 4, cells := 0, slots := 0, locals := 80 * (4) } s m args below meth c G b 3 (MQ below (zQ G b FQ) args s 0 0 (fun q : Nat => b ≤ q)) 0 0 92 [some (.ref (P)), some (.int x1_92), some (.int x2_92)] [.int y1_92, .ref (P)] (L, M_92, N) := by
    intro x1_92 x2_92 y1_92 M_92 fb_y1_92 h
    unfold D_X8_hunter_92 at h
    obtain ⟨e_92, f_92, h⟩ := zBx h
    refine a_callVv X dX8_hunter_92 miX8_gives lm8_272 (t_X8_gives (by first | exact hP | assumption) f_92) (by first | exact p_o | assumption) rfl rfl rfl (Nat.le_of_ble_eq_true rfl) ⟨by decide, by decide, by decide, by decide⟩ ?_
    refine a_iret X hr dX8_hunter_95 ⟨by decide, by decide⟩ ?_
    subst hF
    rw [← Option.some.inj h]
    exact ⟨rfl, rfl⟩
  unfold D_X8_hunter at h
  refine a_iload_n X dX8_hunter_0 rfl ?_
  refine a_i2l X dX8_hunter_1 ?_
  refine a_lconst (v := 0) X dX8_hunter_2 (by decide) ?_
  refine a_ldc2 X dX8_hunter_3 lk8_291 ?_
  obtain ⟨e_6, f_6, h⟩ := zBx h
  refine a_callSx X dX8_hunter_6 miX8_isFrom lm8_128 (t_X8_isFrom f_6) rfl rfl (Nat.le_of_ble_eq_true rfl) ⟨by decide, by decide, by decide, by decide⟩ (fun r_6 S_6 q_6 => ?_)
  obtain ⟨rfl, rfl, b_6⟩ := q_6
  refine a_if_ne (tgt := 18) X dX8_hunter_9 (by decide) (fun h_9 => ?_) (fun h_9 => ?_)
  · replace h := (if_neg h_9).symm.trans h
    refine a_aload_n X dX8_hunter_18 rfl ?_
    refine a_iload_n X dX8_hunter_19 rfl ?_
    obtain ⟨e_20, f_20, h⟩ := zBx h
    refine a_callVx X dX8_hunter_20 miX8_isHunter lm8_293 (t_X8_isHunter (by first | exact hP | assumption) f_20) (by first | exact p_o | assumption) rfl rfl rfl (Nat.le_of_ble_eq_true rfl) ⟨by decide, by decide, by decide, by decide⟩ (fun r_20 S_20 q_20 => ?_)
    obtain ⟨rfl, rfl, b_20⟩ := q_20
    refine a_if_ne (tgt := 32) X dX8_hunter_23 (by decide) (fun h_23 => ?_) (fun h_23 => ?_)
    · replace h := (if_neg h_23).symm.trans h
      refine a_iload_n X dX8_hunter_32 rfl ?_
      refine a_tsw (tg := [64, 77, 96, 110]) (td := 120) X dX8_hunter_33 (by decide +kernel) (by decide) (by decide) (fun k_33 t_33 ht_33 hx_33 => ?_) (fun hx_33 => ?_)
      · match k_33, ht_33, hx_33 with
        | 0, ht_33, hx_33 =>
          cases ht_33
          replace h := (if_pos (by omega)).symm.trans h
          refine a_aload_n X dX8_hunter_64 rfl ?_
          refine a_aload_n X dX8_hunter_65 rfl ?_
          refine a_getr X lf8_7 (by first | exact p_o | assumption) rfl (by omega) dX8_hunter_66 ?_
          refine a_iconst (v := 0) X dX8_hunter_69 (by decide) ?_
          refine a_iload_n X dX8_hunter_70 rfl ?_
          refine a_iadd X dX8_hunter_71 ?_
          obtain ⟨g_72, h⟩ := zIx h
          refine a_iaload X (by first | exact p_s | assumption) g_72 dX8_hunter_72 ?_
          obtain ⟨e_73, f_73, h⟩ := zBx h
          refine a_callVv X dX8_hunter_73 miX8_gives lm8_272 (t_X8_gives (by first | exact hP | assumption) f_73) (by first | exact p_o | assumption) rfl rfl rfl (Nat.le_of_ble_eq_true rfl) ⟨by decide, by decide, by decide, by decide⟩ ?_
          refine a_iret X hr dX8_hunter_76 ⟨by decide, by decide⟩ ?_
          subst hF
          rw [← Option.some.inj h]
          exact ⟨rfl, rfl⟩
        | 1, ht_33, hx_33 =>
          cases ht_33
          replace h := (if_neg (by omega)).symm.trans h
          replace h := (if_pos (by omega)).symm.trans h
          refine a_aload_n X dX8_hunter_77 rfl ?_
          refine a_aload_n X dX8_hunter_78 rfl ?_
          refine a_getr X lf8_22 (by first | exact p_o | assumption) rfl (by omega) dX8_hunter_79 ?_
          refine a_iload_n X dX8_hunter_82 rfl ?_
          obtain ⟨g_83, h⟩ := zIx h
          refine a_baload X (by first | exact p_guest | assumption) g_83 dX8_hunter_83 ?_
          refine a_if_eq (tgt := 91) X dX8_hunter_84 (by decide) (fun h_84 => ?_) (fun h_84 => ?_)
          · replace h := (if_pos h_84).symm.trans h
            refine a_iconst (v := 0) X dX8_hunter_91 (by decide) ?_
            exact Zw.to2 (J_92 _ _ _ _ (by first | exact Or.inl rfl | exact Or.inr rfl | assumption) h) rfl rfl rfl
          · replace h := (if_neg h_84).symm.trans h
            refine a_iconst (v := 1) X dX8_hunter_87 (by decide) ?_
            refine a_goto (tgt := 92) X dX8_hunter_88 (by decide) ?_
            exact Zw.to2 (J_92 _ _ _ _ (by first | exact Or.inl rfl | exact Or.inr rfl | assumption) h) rfl rfl rfl
        | 2, ht_33, hx_33 =>
          cases ht_33
          replace h := (if_neg (by omega)).symm.trans h
          replace h := (if_neg (by omega)).symm.trans h
          replace h := (if_pos (by omega)).symm.trans h
          refine a_aload_n X dX8_hunter_96 rfl ?_
          refine a_aload_n X dX8_hunter_97 rfl ?_
          refine a_getr X lf8_7 (by first | exact p_o | assumption) rfl (by omega) dX8_hunter_98 ?_
          refine a_bipush (v := 10) X dX8_hunter_101 (by decide) ?_
          refine a_iload_n X dX8_hunter_103 rfl ?_
          refine a_iadd X dX8_hunter_104 ?_
          obtain ⟨g_105, h⟩ := zIx h
          refine a_iaload X (by first | exact p_s | assumption) g_105 dX8_hunter_105 ?_
          obtain ⟨e_106, f_106, h⟩ := zBx h
          refine a_callVv X dX8_hunter_106 miX8_gives lm8_272 (t_X8_gives (by first | exact hP | assumption) f_106) (by first | exact p_o | assumption) rfl rfl rfl (Nat.le_of_ble_eq_true rfl) ⟨by decide, by decide, by decide, by decide⟩ ?_
          refine a_iret X hr dX8_hunter_109 ⟨by decide, by decide⟩ ?_
          subst hF
          rw [← Option.some.inj h]
          exact ⟨rfl, rfl⟩
        | 3, ht_33, hx_33 =>
          cases ht_33
          replace h := (if_neg (by omega)).symm.trans h
          replace h := (if_neg (by omega)).symm.trans h
          replace h := (if_neg (by omega)).symm.trans h
          replace h := (if_pos (by omega)).symm.trans h
          refine a_aload_n X dX8_hunter_110 rfl ?_
          refine a_aload_n X dX8_hunter_111 rfl ?_
          refine a_iload_n X dX8_hunter_112 rfl ?_
          obtain ⟨e_113, f_113, h⟩ := zBx h
          refine a_callVv X dX8_hunter_113 miX8_applicantOf lm8_296 (t_X8_applicantOf (by first | exact hP | assumption) f_113) (by first | exact p_o | assumption) rfl rfl rfl (Nat.le_of_ble_eq_true rfl) ⟨by decide, by decide, by decide, by decide⟩ ?_
          obtain ⟨e_116, f_116, h⟩ := zBx h
          refine a_callVv X dX8_hunter_116 miX8_gives lm8_272 (t_X8_gives (by first | exact hP | assumption) f_116) (by first | exact p_o | assumption) rfl rfl rfl (Nat.le_of_ble_eq_true rfl) ⟨by decide, by decide, by decide, by decide⟩ ?_
          refine a_iret X hr dX8_hunter_119 ⟨by decide, by decide⟩ ?_
          subst hF
          rw [← Option.some.inj h]
          exact ⟨rfl, rfl⟩
      · skip
        replace h := (if_neg (by omega)).symm.trans h
        replace h := (if_neg (by omega)).symm.trans h
        replace h := (if_neg (by omega)).symm.trans h
        replace h := (if_neg (by omega)).symm.trans h
        refine a_aload_n X dX8_hunter_120 rfl ?_
        refine a_aload_n X dX8_hunter_121 rfl ?_
        refine a_getr X lf8_7 (by first | exact p_o | assumption) rfl (by omega) dX8_hunter_122 ?_
        refine a_bipush (v := 72) X dX8_hunter_125 (by decide) ?_
        refine a_iload_n X dX8_hunter_127 rfl ?_
        refine a_iadd X dX8_hunter_128 ?_
        obtain ⟨g_129, h⟩ := zIx h
        refine a_iaload X (by first | exact p_s | assumption) g_129 dX8_hunter_129 ?_
        obtain ⟨e_130, f_130, h⟩ := zBx h
        refine a_callVv X dX8_hunter_130 miX8_gives lm8_272 (t_X8_gives (by first | exact hP | assumption) f_130) (by first | exact p_o | assumption) rfl rfl rfl (Nat.le_of_ble_eq_true rfl) ⟨by decide, by decide, by decide, by decide⟩ ?_
        refine a_iret X hr dX8_hunter_133 ⟨by decide, by decide⟩ ?_
        subst hF
        rw [← Option.some.inj h]
        exact ⟨rfl, rfl⟩
    · replace h := (if_pos h_23).symm.trans h
      refine a_aload_n X dX8_hunter_26 rfl ?_
      refine a_iconst (v := 2) X dX8_hunter_27 (by decide) ?_
      obtain ⟨e_28, f_28, h⟩ := zBx h
      refine a_callVv X dX8_hunter_28 miX8_refuse lm8_263 (t_X8_refuse (by first | exact hP | assumption) f_28) (by first | exact p_o | assumption) rfl rfl rfl (Nat.le_of_ble_eq_true rfl) ⟨by decide, by decide, by decide, by decide⟩ ?_
      refine a_iret X hr dX8_hunter_31 ⟨by decide, by decide⟩ ?_
      subst hF
      rw [← Option.some.inj h]
      exact ⟨rfl, rfl⟩
  · replace h := (if_pos h_9).symm.trans h
    refine a_aload_n X dX8_hunter_12 rfl ?_
    refine a_iconst (v := 1) X dX8_hunter_13 (by decide) ?_
    obtain ⟨e_14, f_14, h⟩ := zBx h
    refine a_callVv X dX8_hunter_14 miX8_refuse lm8_263 (t_X8_refuse (by first | exact hP | assumption) f_14) (by first | exact p_o | assumption) rfl rfl rfl (Nat.le_of_ble_eq_true rfl) ⟨by decide, by decide, by decide, by decide⟩ ?_
    refine a_iret X hr dX8_hunter_17 ⟨by decide, by decide⟩ ?_
    subst hF
    rw [← Option.some.inj h]
    exact ⟨rfl, rfl⟩
noncomputable def D_X8_preferred (P : Nat) (M : zMt) (v0 : Int32) : Option (Int32) :=
  zI ((62 : Int32) + v0) 82 <|
  zI (68 : Int32) 82 <|
  some ((((M (P + 1) ((62 : Int32) + v0).toNatClampNeg) * (M (P + 1) (68 : Int32).toNatClampNeg)) / (100 : Int32)))
set_option maxRecDepth 100000 in
set_option maxHeartbeats 4000000 in
theorem t_X8_preferred {l : Launch} {G : zG} {b : Nat} {L : List zC} {M : zMt} {N : zNt} {P : Nat} {v0 : Int32} (hP : LX8 L P) {r : Int32} (h : D_X8_preferred P M v0 = some r) : zM l G b yX8_preferred cX8_preferred 2 (some .int) 0 0 0 [.ref P, .int v0] (L, M, N) (fun r2 z => r2 = some (.int r) ∧ z = (L, M, N)) := by
  refine zM.of miX8_preferred (Nat.le_of_ble_eq_true rfl) ?_
  intro p e s m args below meth c X hr hname
  generalize hF : ((fun r2 z => r2 = some (.int r) ∧ z = (L, M, N)) : Option Value → zS → Prop) = FQ
  change Zw p l e { frames := 0, cells := 0, slots := 0, locals := 80 * (0) } s m args below meth c G b 2 (MQ below (zQ G b FQ) args s 0 0 (fun q : Nat => b ≤ q)) 0 0 0 [some (.ref P), some (.int v0)] [] (L, M, N)
  have p_lt := hP.1
  have p_o := hP.2.1
  have p_s := hP.2.2.1
  unfold D_X8_preferred at h
  refine a_aload_n X dX8_preferred_0 rfl ?_
  refine a_getr X lf8_7 (by first | exact p_o | assumption) rfl (by omega) dX8_preferred_1 ?_
  refine a_bipush (v := 62) X dX8_preferred_4 (by decide) ?_
  refine a_iload_n X dX8_preferred_6 rfl ?_
  refine a_iadd X dX8_preferred_7 ?_
  obtain ⟨g_8, h⟩ := zIx h
  refine a_iaload X (by first | exact p_s | assumption) g_8 dX8_preferred_8 ?_
  refine a_aload_n X dX8_preferred_9 rfl ?_
  refine a_getr X lf8_7 (by first | exact p_o | assumption) rfl (by omega) dX8_preferred_10 ?_
  refine a_bipush (v := 68) X dX8_preferred_13 (by decide) ?_
  obtain ⟨g_15, h⟩ := zIx h
  refine a_iaload X (by first | exact p_s | assumption) g_15 dX8_preferred_15 ?_
  refine a_imul X dX8_preferred_16 ?_
  refine a_bipush (v := 100) X dX8_preferred_17 (by decide) ?_
  refine a_idiv X dX8_preferred_19 (by decide) ?_
  refine a_iret X hr dX8_preferred_20 ⟨by decide, by decide⟩ ?_
  subst hF
  rw [← Option.some.inj h]
  exact ⟨rfl, rfl⟩
noncomputable def D_X8_forGuests (P : Nat) (M : zMt) (v0 : Int32) : Option (Int32) :=
  zI ((62 : Int32) + v0) 82 <|
  zI (69 : Int32) 82 <|
  some ((((M (P + 1) ((62 : Int32) + v0).toNatClampNeg) * (M (P + 1) (69 : Int32).toNatClampNeg)) / (100 : Int32)))
set_option maxRecDepth 100000 in
set_option maxHeartbeats 4000000 in
theorem t_X8_forGuests {l : Launch} {G : zG} {b : Nat} {L : List zC} {M : zMt} {N : zNt} {P : Nat} {v0 : Int32} (hP : LX8 L P) {r : Int32} (h : D_X8_forGuests P M v0 = some r) : zM l G b yX8_forGuests cX8_forGuests 2 (some .int) 0 0 0 [.ref P, .int v0] (L, M, N) (fun r2 z => r2 = some (.int r) ∧ z = (L, M, N)) := by
  refine zM.of miX8_forGuests (Nat.le_of_ble_eq_true rfl) ?_
  intro p e s m args below meth c X hr hname
  generalize hF : ((fun r2 z => r2 = some (.int r) ∧ z = (L, M, N)) : Option Value → zS → Prop) = FQ
  change Zw p l e { frames := 0, cells := 0, slots := 0, locals := 80 * (0) } s m args below meth c G b 2 (MQ below (zQ G b FQ) args s 0 0 (fun q : Nat => b ≤ q)) 0 0 0 [some (.ref P), some (.int v0)] [] (L, M, N)
  have p_lt := hP.1
  have p_o := hP.2.1
  have p_s := hP.2.2.1
  unfold D_X8_forGuests at h
  refine a_aload_n X dX8_forGuests_0 rfl ?_
  refine a_getr X lf8_7 (by first | exact p_o | assumption) rfl (by omega) dX8_forGuests_1 ?_
  refine a_bipush (v := 62) X dX8_forGuests_4 (by decide) ?_
  refine a_iload_n X dX8_forGuests_6 rfl ?_
  refine a_iadd X dX8_forGuests_7 ?_
  obtain ⟨g_8, h⟩ := zIx h
  refine a_iaload X (by first | exact p_s | assumption) g_8 dX8_forGuests_8 ?_
  refine a_aload_n X dX8_forGuests_9 rfl ?_
  refine a_getr X lf8_7 (by first | exact p_o | assumption) rfl (by omega) dX8_forGuests_10 ?_
  refine a_bipush (v := 69) X dX8_forGuests_13 (by decide) ?_
  obtain ⟨g_15, h⟩ := zIx h
  refine a_iaload X (by first | exact p_s | assumption) g_15 dX8_forGuests_15 ?_
  refine a_imul X dX8_forGuests_16 ?_
  refine a_bipush (v := 100) X dX8_forGuests_17 (by decide) ?_
  refine a_idiv X dX8_forGuests_19 (by decide) ?_
  refine a_iret X hr dX8_forGuests_20 ⟨by decide, by decide⟩ ?_
  subst hF
  rw [← Option.some.inj h]
  exact ⟨rfl, rfl⟩
noncomputable def D_X8_unit_162 (P : Nat) (k85 : Int32 → Int32 → Int32 → Int32 → zMt → Option (Int32 × zMt)) (x1_162 : Int32) (x2_162 : Int32) (x4_162 : Int32) (y0_162 : Int32) (y1_162 : Int32) (M_162 : zMt) : Option (Int32 × zMt) :=
  k85 x1_162 x2_162 (y0_162 + y1_162) (x4_162 + 1) M_162
noncomputable def D_X8_unit_134 (P : Nat) (k85 : Int32 → Int32 → Int32 → Int32 → zMt → Option (Int32 × zMt)) (x1_134 : Int32) (x2_134 : Int32) (x3_134 : Int32) (x4_134 : Int32) (y0_134 : Int32) (M_134 : zMt) : Option (Int32 × zMt) :=
  if y0_134 = 0 then
    D_X8_unit_162 P k85 x1_134 x2_134 x4_134 x3_134 (0 : Int32) M_134
  else
    if x2_134 = (4 : Int32) then
      zI x4_134 10 <|
      D_X8_unit_162 P k85 x1_134 x2_134 x4_134 x3_134 (M_134 (P + 14) x4_134.toNatClampNeg) M_134
    else
      D_X8_unit_162 P k85 x1_134 x2_134 x4_134 x3_134 (1 : Int32) M_134
noncomputable def D_X8_unit_85 (P : Nat) : Nat → Int32 → Int32 → Int32 → Int32 → zMt → Option (Int32 × zMt)
  | 0, _, _, _, _, _ => none
  | n + 1, x1_85, x2_85, x3_85, x4_85, M_85 =>
    if (M_85 P 33) ≤ x4_85 then
      zB (D_X8_gives P x3_85 M_85) fun e_172 =>
      some (e_172.1, e_172.2)
    else
      if x2_85 = (5 : Int32) then
        zB (D_X8_placeOf P M_85 x4_85 x1_85) fun e_103 =>
        if e_103 = (-1 : Int32) then
          D_X8_unit_134 P (D_X8_unit_85 P n) x1_85 x2_85 x3_85 x4_85 (0 : Int32) M_85
        else
          D_X8_unit_134 P (D_X8_unit_85 P n) x1_85 x2_85 x3_85 x4_85 (1 : Int32) M_85
      else
        zB (D_X8_choiceOf P M_85 x4_85 (0 : Int32)) fun e_122 =>
        if e_122 = x1_85 then
          D_X8_unit_134 P (D_X8_unit_85 P n) x1_85 x2_85 x3_85 x4_85 (1 : Int32) M_85
        else
          D_X8_unit_134 P (D_X8_unit_85 P n) x1_85 x2_85 x3_85 x4_85 (0 : Int32) M_85
noncomputable def D_X8_unit_72 (P : Nat) (y1_72 : Int32) (M_72 : zMt) : Option (Int32 × zMt) :=
  zB (D_X8_gives P y1_72 M_72) fun e_72 =>
  some (e_72.1, e_72.2)
noncomputable def D_X8_unit (P : Nat) (v0 : Int32) (v1 : Int32) (M : zMt) : Option (Int32 × zMt) :=
  zB (D_X8_isFrom (Int32.toInt64 v1) (0 : Int64) (5 : Int64)) fun e_6 =>
  if e_6 = 0 then
    zB (D_X8_refuse P (1 : Int32) M) fun e_14 =>
    some (e_14.1, e_14.2)
  else
    zB (D_X8_isUnit P M v0) fun e_20 =>
    if e_20 = 0 then
      zB (D_X8_refuse P (2 : Int32) M) fun e_28 =>
      some (e_28.1, e_28.2)
    else
      if (3 : Int32) ≤ v1 then
        zB (D_X8_laysApplicants P M) fun e_77 =>
        D_X8_unit_85 P zFu v0 v1 (0 : Int32) (0 : Int32) e_77
      else
        if v1 = 0 then
          zI ((62 : Int32) + v0) 82 <|
          D_X8_unit_72 P (M (P + 1) ((62 : Int32) + v0).toNatClampNeg) M
        else
          if v1 = (1 : Int32) then
            zB (D_X8_preferred P M v0) fun e_61 =>
            D_X8_unit_72 P e_61 M
          else
            zB (D_X8_forGuests P M v0) fun e_69 =>
            D_X8_unit_72 P e_69 M
set_option maxRecDepth 100000 in
set_option maxHeartbeats 4000000 in
theorem t_X8_unit {l : Launch} {G : zG} {b : Nat} {L : List zC} {M : zMt} {N : zNt} {P : Nat} {v0 : Int32} {v1 : Int32} (hP : LX8 L P) {r : Int32 × zMt} (h : D_X8_unit P v0 v1 M = some r) : zM l G b yX8_unit cX8_unit 6 (some .int) 3 0 0 [.ref P, .int v0, .int v1] (L, M, N) (fun r2 z => r2 = some (.int r.1) ∧ z = (L, r.2, N)) := by
  refine zM.of miX8_unit (Nat.le_of_ble_eq_true rfl) ?_
  intro p e s m args below meth c X hr hname
  generalize hF : ((fun r2 z => r2 = some (.int r.1) ∧ z = (L, r.2, N)) : Option Value → zS → Prop) = FQ
  change Zw p l e { frames := 3, cells := 0, slots := 0, locals := 80 * (3) } s m args below meth c G b 6 (MQ below (zQ G b FQ) args s 0 0 (fun q : Nat => b ≤ q)) 0 0 0 [some (.ref P), some (.int v0), some (.int v1), none, none, none] [] (L, M, N)
  have p_lt := hP.1
  have p_o := hP.2.1
  have p_s := hP.2.2.1
  have p_sizes := hP.2.2.2.2.2.2.2.2.2.2.2.2.2.2.2.1
  have L_85 : ∀ u : Nat, ∀ (x1_85 : Int32) (x2_85 : Int32) (x3_85 : Int32) (x4_85 : Int32) (x5_85 : Option Value) (M_85 : zMt), D_X8_unit_85 P u x1_85 x2_85 x3_85 x4_85 M_85 = some r → Zw p l e { frames := 3, cells := 0, slots := 0, locals := 80 * (3) } s m args below meth c G b 6 (MQ below (zQ G b FQ) args s 0 0 (fun q : Nat => b ≤ q)) 0 0 85 [some (.ref (P)), some (.int x1_85), some (.int x2_85), some (.int x3_85), some (.int x4_85), x5_85] [] (L, M_85, N) := by
    intro u
    induction u with
    | zero => intro x1_85 x2_85 x3_85 x4_85 x5_85 M_85 h; cases (show none = some r from h)
    | succ u_85 ih_85 =>
      have J_162 : ∀ (x1_162 : Int32) (x2_162 : Int32) (x3_162 : Int32) (x4_162 : Int32) (x5_162 : Int32) (y0_162 : Int32) (y1_162 : Int32) (M_162 : zMt), D_X8_unit_162 P (D_X8_unit_85 P u_85) x1_162 x2_162 x4_162 y0_162 y1_162 M_162 = some r → Zw p l e { frames := 3, cells := 0, slots := 0, locals := 80 * (3) } s m args below meth c G b 6 (MQ below (zQ G b FQ) args s 0 0 (fun q : Nat => b ≤ q)) 0 0 162 [some (.ref (P)), some (.int x1_162), some (.int x2_162), some (.int x3_162), some (.int x4_162), some (.int x5_162)] [.int y1_162, .int y0_162] (L, M_162, N) := by
        intro x1_162 x2_162 x3_162 x4_162 x5_162 y0_162 y1_162 M_162 h
        unfold D_X8_unit_162 at h
        refine a_iadd X dX8_unit_162 ?_
        refine a_istore_n X dX8_unit_163 (by decide) ?_
        refine a_iinc (v := x4_162 + 1) X dX8_unit_164 (by decide) rfl zi_1 ?_
        refine a_goto (tgt := 85) X dX8_unit_167 (by decide) ?_
        exact Zw.to2 (ih_85 _ _ _ _ _ _ h) rfl rfl rfl
      have J_134 : ∀ (x1_134 : Int32) (x2_134 : Int32) (x3_134 : Int32) (x4_134 : Int32) (x5_134 : Option Value) (y0_134 : Int32) (M_134 : zMt), (y0_134 = 0 ∨ y0_134 = 1) → D_X8_unit_134 P (D_X8_unit_85 P u_85) x1_134 x2_134 x3_134 x4_134 y0_134 M_134 = some r → Zw p l e { frames := 3, cells := 0, slots := 0, locals := 80 * (3) } s m args below meth c G b 6 (MQ below (zQ G b FQ) args s 0 0 (fun q : Nat => b ≤ q)) 0 0 134 [some (.ref (P)), some (.int x1_134), some (.int x2_134), some (.int x3_134), some (.int x4_134), x5_134] [.int y0_134] (L, M_134, N) := by
        intro x1_134 x2_134 x3_134 x4_134 x5_134 y0_134 M_134 fb_y0_134 h
        unfold D_X8_unit_134 at h
        refine a_istore X dX8_unit_134 (by decide) ?_
        refine a_iload_n X dX8_unit_136 rfl ?_
        refine a_iload X dX8_unit_137 rfl ?_
        refine a_if_eq (tgt := 161) X dX8_unit_139 (by decide) (fun h_139 => ?_) (fun h_139 => ?_)
        · replace h := (if_pos h_139).symm.trans h
          refine a_iconst (v := 0) X dX8_unit_161 (by decide) ?_
          exact Zw.to2 (J_162 _ _ _ _ _ _ _ _ h) rfl rfl rfl
        · replace h := (if_neg h_139).symm.trans h
          refine a_iload_n X dX8_unit_142 rfl ?_
          refine a_iconst (v := 4) X dX8_unit_143 (by decide) ?_
          refine a_icmp_ne (tgt := 157) X dX8_unit_144 (by decide) (fun h_144 => ?_) (fun h_144 => ?_)
          · replace h := (if_neg h_144).symm.trans h
            refine a_iconst (v := 1) X dX8_unit_157 (by decide) ?_
            refine a_goto (tgt := 162) X dX8_unit_158 (by decide) ?_
            exact Zw.to2 (J_162 _ _ _ _ _ _ _ _ h) rfl rfl rfl
          · replace h := (if_pos h_144).symm.trans h
            refine a_aload_n X dX8_unit_147 rfl ?_
            refine a_getr X lf8_58 (by first | exact p_o | assumption) rfl (by omega) dX8_unit_148 ?_
            refine a_iload X dX8_unit_151 rfl ?_
            obtain ⟨g_153, h⟩ := zIx h
            refine a_iaload X (by first | exact p_sizes | assumption) g_153 dX8_unit_153 ?_
            refine a_goto (tgt := 162) X dX8_unit_154 (by decide) ?_
            exact Zw.to2 (J_162 _ _ _ _ _ _ _ _ h) rfl rfl rfl
      intro x1_85 x2_85 x3_85 x4_85 x5_85 M_85 h
      rw [D_X8_unit_85] at h
      refine a_iload X dX8_unit_85 rfl ?_
      refine a_aload_n X dX8_unit_87 rfl ?_
      refine a_geti X lf8_275 (by first | exact p_o | assumption) rfl dX8_unit_88 ?_
      refine a_icmp_ge (tgt := 170) X dX8_unit_91 (by decide) (fun h_91 => ?_) (fun h_91 => ?_)
      · replace h := (if_pos h_91).symm.trans h
        refine a_aload_n X dX8_unit_170 rfl ?_
        refine a_iload_n X dX8_unit_171 rfl ?_
        obtain ⟨e_172, f_172, h⟩ := zBx h
        refine a_callVv X dX8_unit_172 miX8_gives lm8_272 (t_X8_gives (by first | exact hP | assumption) f_172) (by first | exact p_o | assumption) rfl rfl rfl (Nat.le_of_ble_eq_true rfl) ⟨by decide, by decide, by decide, by decide⟩ ?_
        refine a_iret X hr dX8_unit_175 ⟨by decide, by decide⟩ ?_
        subst hF
        rw [← Option.some.inj h]
        exact ⟨rfl, rfl⟩
      · replace h := (if_neg h_91).symm.trans h
        refine a_iload_n X dX8_unit_94 rfl ?_
        refine a_iconst (v := 5) X dX8_unit_95 (by decide) ?_
        refine a_icmp_ne (tgt := 118) X dX8_unit_96 (by decide) (fun h_96 => ?_) (fun h_96 => ?_)
        · replace h := (if_neg h_96).symm.trans h
          refine a_aload_n X dX8_unit_118 rfl ?_
          refine a_iload X dX8_unit_119 rfl ?_
          refine a_iconst (v := 0) X dX8_unit_121 (by decide) ?_
          obtain ⟨e_122, f_122, h⟩ := zBx h
          refine a_callVv X dX8_unit_122 miX8_choiceOf lm8_284 (t_X8_choiceOf (by first | exact hP | assumption) f_122) (by first | exact p_o | assumption) rfl rfl rfl (Nat.le_of_ble_eq_true rfl) ⟨by decide, by decide, by decide, by decide⟩ ?_
          refine a_iload_n X dX8_unit_125 rfl ?_
          refine a_icmp_ne (tgt := 133) X dX8_unit_126 (by decide) (fun h_126 => ?_) (fun h_126 => ?_)
          · replace h := (if_neg h_126).symm.trans h
            refine a_iconst (v := 0) X dX8_unit_133 (by decide) ?_
            exact Zw.to2 (J_134 _ _ _ _ _ _ _ (by first | exact Or.inl rfl | exact Or.inr rfl | assumption) h) rfl rfl rfl
          · replace h := (if_pos h_126).symm.trans h
            refine a_iconst (v := 1) X dX8_unit_129 (by decide) ?_
            refine a_goto (tgt := 134) X dX8_unit_130 (by decide) ?_
            exact Zw.to2 (J_134 _ _ _ _ _ _ _ (by first | exact Or.inl rfl | exact Or.inr rfl | assumption) h) rfl rfl rfl
        · replace h := (if_pos h_96).symm.trans h
          refine a_aload_n X dX8_unit_99 rfl ?_
          refine a_iload X dX8_unit_100 rfl ?_
          refine a_iload_n X dX8_unit_102 rfl ?_
          obtain ⟨e_103, f_103, h⟩ := zBx h
          refine a_callVv X dX8_unit_103 miX8_placeOf lm8_310 (t_X8_placeOf (by first | exact hP | assumption) f_103) (by first | exact p_o | assumption) rfl rfl rfl (Nat.le_of_ble_eq_true rfl) ⟨by decide, by decide, by decide, by decide⟩ ?_
          refine a_iconst (v := -1) X dX8_unit_106 (by decide) ?_
          refine a_icmp_eq (tgt := 114) X dX8_unit_107 (by decide) (fun h_107 => ?_) (fun h_107 => ?_)
          · replace h := (if_pos h_107).symm.trans h
            refine a_iconst (v := 0) X dX8_unit_114 (by decide) ?_
            refine a_goto (tgt := 134) X dX8_unit_115 (by decide) ?_
            exact Zw.to2 (J_134 _ _ _ _ _ _ _ (by first | exact Or.inl rfl | exact Or.inr rfl | assumption) h) rfl rfl rfl
          · replace h := (if_neg h_107).symm.trans h
            refine a_iconst (v := 1) X dX8_unit_110 (by decide) ?_
            refine a_goto (tgt := 134) X dX8_unit_111 (by decide) ?_
            exact Zw.to2 (J_134 _ _ _ _ _ _ _ (by first | exact Or.inl rfl | exact Or.inr rfl | assumption) h) rfl rfl rfl
  have H_85 : ∀ (x1_85 : Int32) (x2_85 : Int32) (x3_85 : Int32) (x4_85 : Int32) (x5_85 : Option Value) (M_85 : zMt), D_X8_unit_85 P zFu x1_85 x2_85 x3_85 x4_85 M_85 = some r → Zw p l e { frames := 3, cells := 0, slots := 0, locals := 80 * (3) } s m args below meth c G b 6 (MQ below (zQ G b FQ) args s 0 0 (fun q : Nat => b ≤ q)) 0 0 85 [some (.ref (P)), some (.int x1_85), some (.int x2_85), some (.int x3_85), some (.int x4_85), x5_85] [] (L, M_85, N) := L_85 zFu
  have J_72 : ∀ (x1_72 : Int32) (x2_72 : Int32) (x3_72 : Option Value) (x4_72 : Option Value) (x5_72 : Option Value) (y1_72 : Int32) (M_72 : zMt), D_X8_unit_72 P y1_72 M_72 = some r → Zw p l e { frames := 3, cells := 0, slots := 0, locals := 80 * (3) } s m args below meth c G b 6 (MQ below (zQ G b FQ) args s 0 0 (fun q : Nat => b ≤ q)) 0 0 72 [some (.ref (P)), some (.int x1_72), some (.int x2_72), x3_72, x4_72, x5_72] [.int y1_72, .ref (P)] (L, M_72, N) := by
    intro x1_72 x2_72 x3_72 x4_72 x5_72 y1_72 M_72 h
    unfold D_X8_unit_72 at h
    obtain ⟨e_72, f_72, h⟩ := zBx h
    refine a_callVv X dX8_unit_72 miX8_gives lm8_272 (t_X8_gives (by first | exact hP | assumption) f_72) (by first | exact p_o | assumption) rfl rfl rfl (Nat.le_of_ble_eq_true rfl) ⟨by decide, by decide, by decide, by decide⟩ ?_
    refine a_iret X hr dX8_unit_75 ⟨by decide, by decide⟩ ?_
    subst hF
    rw [← Option.some.inj h]
    exact ⟨rfl, rfl⟩
  unfold D_X8_unit at h
  refine a_iload_n X dX8_unit_0 rfl ?_
  refine a_i2l X dX8_unit_1 ?_
  refine a_lconst (v := 0) X dX8_unit_2 (by decide) ?_
  refine a_ldc2 X dX8_unit_3 lk8_299 ?_
  obtain ⟨e_6, f_6, h⟩ := zBx h
  refine a_callSx X dX8_unit_6 miX8_isFrom lm8_128 (t_X8_isFrom f_6) rfl rfl (Nat.le_of_ble_eq_true rfl) ⟨by decide, by decide, by decide, by decide⟩ (fun r_6 S_6 q_6 => ?_)
  obtain ⟨rfl, rfl, b_6⟩ := q_6
  refine a_if_ne (tgt := 18) X dX8_unit_9 (by decide) (fun h_9 => ?_) (fun h_9 => ?_)
  · replace h := (if_neg h_9).symm.trans h
    refine a_aload_n X dX8_unit_18 rfl ?_
    refine a_iload_n X dX8_unit_19 rfl ?_
    obtain ⟨e_20, f_20, h⟩ := zBx h
    refine a_callVx X dX8_unit_20 miX8_isUnit lm8_301 (t_X8_isUnit (by first | exact hP | assumption) f_20) (by first | exact p_o | assumption) rfl rfl rfl (Nat.le_of_ble_eq_true rfl) ⟨by decide, by decide, by decide, by decide⟩ (fun r_20 S_20 q_20 => ?_)
    obtain ⟨rfl, rfl, b_20⟩ := q_20
    refine a_if_ne (tgt := 32) X dX8_unit_23 (by decide) (fun h_23 => ?_) (fun h_23 => ?_)
    · replace h := (if_neg h_23).symm.trans h
      refine a_iload_n X dX8_unit_32 rfl ?_
      refine a_iconst (v := 3) X dX8_unit_33 (by decide) ?_
      refine a_icmp_ge (tgt := 76) X dX8_unit_34 (by decide) (fun h_34 => ?_) (fun h_34 => ?_)
      · replace h := (if_pos h_34).symm.trans h
        refine a_aload_n X dX8_unit_76 rfl ?_
        obtain ⟨e_77, f_77, h⟩ := zBx h
        refine a_callVu X dX8_unit_77 miX8_laysApplicants lm8_281 (t_X8_laysApplicants (by first | exact hP | assumption) f_77) (by first | exact p_o | assumption) rfl rfl rfl (Nat.le_of_ble_eq_true rfl) ⟨by decide, by decide, by decide, by decide⟩ ?_
        refine a_iconst (v := 0) X dX8_unit_80 (by decide) ?_
        refine a_istore_n X dX8_unit_81 (by decide) ?_
        refine a_iconst (v := 0) X dX8_unit_82 (by decide) ?_
        refine a_istore X dX8_unit_83 (by decide) ?_
        exact Zw.to2 (H_85 _ _ _ _ _ _ h) rfl rfl rfl
      · replace h := (if_neg h_34).symm.trans h
        refine a_aload_n X dX8_unit_37 rfl ?_
        refine a_iload_n X dX8_unit_38 rfl ?_
        refine a_if_ne (tgt := 54) X dX8_unit_39 (by decide) (fun h_39 => ?_) (fun h_39 => ?_)
        · replace h := (if_neg h_39).symm.trans h
          refine a_iload_n X dX8_unit_54 rfl ?_
          refine a_iconst (v := 1) X dX8_unit_55 (by decide) ?_
          refine a_icmp_ne (tgt := 67) X dX8_unit_56 (by decide) (fun h_56 => ?_) (fun h_56 => ?_)
          · replace h := (if_neg h_56).symm.trans h
            refine a_aload_n X dX8_unit_67 rfl ?_
            refine a_iload_n X dX8_unit_68 rfl ?_
            obtain ⟨e_69, f_69, h⟩ := zBx h
            refine a_callVv X dX8_unit_69 miX8_forGuests lm8_307 (t_X8_forGuests (by first | exact hP | assumption) f_69) (by first | exact p_o | assumption) rfl rfl rfl (Nat.le_of_ble_eq_true rfl) ⟨by decide, by decide, by decide, by decide⟩ ?_
            exact Zw.to2 (J_72 _ _ _ _ _ _ _ h) rfl rfl rfl
          · replace h := (if_pos h_56).symm.trans h
            refine a_aload_n X dX8_unit_59 rfl ?_
            refine a_iload_n X dX8_unit_60 rfl ?_
            obtain ⟨e_61, f_61, h⟩ := zBx h
            refine a_callVv X dX8_unit_61 miX8_preferred lm8_304 (t_X8_preferred (by first | exact hP | assumption) f_61) (by first | exact p_o | assumption) rfl rfl rfl (Nat.le_of_ble_eq_true rfl) ⟨by decide, by decide, by decide, by decide⟩ ?_
            refine a_goto (tgt := 72) X dX8_unit_64 (by decide) ?_
            exact Zw.to2 (J_72 _ _ _ _ _ _ _ h) rfl rfl rfl
        · replace h := (if_pos h_39).symm.trans h
          refine a_aload_n X dX8_unit_42 rfl ?_
          refine a_getr X lf8_7 (by first | exact p_o | assumption) rfl (by omega) dX8_unit_43 ?_
          refine a_bipush (v := 62) X dX8_unit_46 (by decide) ?_
          refine a_iload_n X dX8_unit_48 rfl ?_
          refine a_iadd X dX8_unit_49 ?_
          obtain ⟨g_50, h⟩ := zIx h
          refine a_iaload X (by first | exact p_s | assumption) g_50 dX8_unit_50 ?_
          refine a_goto (tgt := 72) X dX8_unit_51 (by decide) ?_
          exact Zw.to2 (J_72 _ _ _ _ _ _ _ h) rfl rfl rfl
    · replace h := (if_pos h_23).symm.trans h
      refine a_aload_n X dX8_unit_26 rfl ?_
      refine a_iconst (v := 2) X dX8_unit_27 (by decide) ?_
      obtain ⟨e_28, f_28, h⟩ := zBx h
      refine a_callVv X dX8_unit_28 miX8_refuse lm8_263 (t_X8_refuse (by first | exact hP | assumption) f_28) (by first | exact p_o | assumption) rfl rfl rfl (Nat.le_of_ble_eq_true rfl) ⟨by decide, by decide, by decide, by decide⟩ ?_
      refine a_iret X hr dX8_unit_31 ⟨by decide, by decide⟩ ?_
      subst hF
      rw [← Option.some.inj h]
      exact ⟨rfl, rfl⟩
  · replace h := (if_pos h_9).symm.trans h
    refine a_aload_n X dX8_unit_12 rfl ?_
    refine a_iconst (v := 1) X dX8_unit_13 (by decide) ?_
    obtain ⟨e_14, f_14, h⟩ := zBx h
    refine a_callVv X dX8_unit_14 miX8_refuse lm8_263 (t_X8_refuse (by first | exact hP | assumption) f_14) (by first | exact p_o | assumption) rfl rfl rfl (Nat.le_of_ble_eq_true rfl) ⟨by decide, by decide, by decide, by decide⟩ ?_
    refine a_iret X hr dX8_unit_17 ⟨by decide, by decide⟩ ?_
    subst hF
    rw [← Option.some.inj h]
    exact ⟨rfl, rfl⟩
noncomputable def D_X8_applicant (P : Nat) (v0 : Int32) (v1 : Int32) (M : zMt) : Option (Int32 × zMt) :=
  zB (D_X8_isFrom (Int32.toInt64 v1) (0 : Int64) (6 : Int64)) fun e_6 =>
  if e_6 = 0 then
    zB (D_X8_refuse P (1 : Int32) M) fun e_14 =>
    some (e_14.1, e_14.2)
  else
    zB (D_X8_isApplicant P v0 M) fun e_20 =>
    if e_20.1 = 0 then
      zB (D_X8_refuse P (2 : Int32) e_20.2) fun e_28 =>
      some (e_28.1, e_28.2)
    else
      if Int32.toInt v1 = 0 then
        zI v0 10 <|
        zB (D_X8_gives P (e_20.2 (P + 14) v0.toNatClampNeg) e_20.2) fun e_79 =>
        some (e_79.1, e_79.2)
      else
      if Int32.toInt v1 = 1 then
        zI v0 10 <|
        zB (D_X8_gives P (e_20.2 (P + 15) v0.toNatClampNeg) e_20.2) fun e_90 =>
        some (e_90.1, e_90.2)
      else
      if Int32.toInt v1 = 2 then
        zI v0 10 <|
        zB (D_X8_gives P (e_20.2 (P + 16) v0.toNatClampNeg) e_20.2) fun e_101 =>
        some (e_101.1, e_101.2)
      else
      if Int32.toInt v1 = 3 then
        zI v0 10 <|
        zB (D_X8_gives P (e_20.2 (P + 17) v0.toNatClampNeg) e_20.2) fun e_112 =>
        some (e_112.1, e_112.2)
      else
      if Int32.toInt v1 = 4 then
        zB (D_X8_choiceMany P e_20.2 v0) fun e_119 =>
        zB (D_X8_gives P e_119 e_20.2) fun e_122 =>
        some (e_122.1, e_122.2)
      else
      if Int32.toInt v1 = 5 then
        zI v0 10 <|
        zB (D_X8_gives P (e_20.2 (P + 11) v0.toNatClampNeg) e_20.2) fun e_133 =>
        some (e_133.1, e_133.2)
      else
        zI v0 10 <|
        zB (D_X8_gives P (e_20.2 (P + 12) v0.toNatClampNeg) e_20.2) fun e_144 =>
        some (e_144.1, e_144.2)
set_option maxRecDepth 100000 in
set_option maxHeartbeats 4000000 in
theorem t_X8_applicant {l : Launch} {G : zG} {b : Nat} {L : List zC} {M : zMt} {N : zNt} {P : Nat} {v0 : Int32} {v1 : Int32} (hP : LX8 L P) {r : Int32 × zMt} (h : D_X8_applicant P v0 v1 M = some r) : zM l G b yX8_applicant cX8_applicant 3 (some .int) 4 0 0 [.ref P, .int v0, .int v1] (L, M, N) (fun r2 z => r2 = some (.int r.1) ∧ z = (L, r.2, N)) := by
  refine zM.of miX8_applicant (Nat.le_of_ble_eq_true rfl) ?_
  intro p e s m args below meth c X hr hname
  generalize hF : ((fun r2 z => r2 = some (.int r.1) ∧ z = (L, r.2, N)) : Option Value → zS → Prop) = FQ
  change Zw p l e { frames := 4, cells := 0, slots := 0, locals := 80 * (4) } s m args below meth c G b 3 (MQ below (zQ G b FQ) args s 0 0 (fun q : Nat => b ≤ q)) 0 0 0 [some (.ref P), some (.int v0), some (.int v1)] [] (L, M, N)
  have p_lt := hP.1
  have p_o := hP.2.1
  have p_bits := hP.2.2.2.2.2.2.2.2.2.2.2.2.1
  have p_partyOf := hP.2.2.2.2.2.2.2.2.2.2.2.2.2.1
  have p_sizes := hP.2.2.2.2.2.2.2.2.2.2.2.2.2.2.2.1
  have p_guestMany := hP.2.2.2.2.2.2.2.2.2.2.2.2.2.2.2.2.1
  have p_pointsOf := hP.2.2.2.2.2.2.2.2.2.2.2.2.2.2.2.2.2.1
  have p_ticketsOf := hP.2.2.2.2.2.2.2.2.2.2.2.2.2.2.2.2.2.2.1
  unfold D_X8_applicant at h
  refine a_iload_n X dX8_applicant_0 rfl ?_
  refine a_i2l X dX8_applicant_1 ?_
  refine a_lconst (v := 0) X dX8_applicant_2 (by decide) ?_
  refine a_ldc2 X dX8_applicant_3 lk8_313 ?_
  obtain ⟨e_6, f_6, h⟩ := zBx h
  refine a_callSx X dX8_applicant_6 miX8_isFrom lm8_128 (t_X8_isFrom f_6) rfl rfl (Nat.le_of_ble_eq_true rfl) ⟨by decide, by decide, by decide, by decide⟩ (fun r_6 S_6 q_6 => ?_)
  obtain ⟨rfl, rfl, b_6⟩ := q_6
  refine a_if_ne (tgt := 18) X dX8_applicant_9 (by decide) (fun h_9 => ?_) (fun h_9 => ?_)
  · replace h := (if_neg h_9).symm.trans h
    refine a_aload_n X dX8_applicant_18 rfl ?_
    refine a_iload_n X dX8_applicant_19 rfl ?_
    obtain ⟨e_20, f_20, h⟩ := zBx h
    refine a_callVx X dX8_applicant_20 miX8_isApplicant lm8_315 (t_X8_isApplicant (by first | exact hP | assumption) f_20) (by first | exact p_o | assumption) rfl rfl rfl (Nat.le_of_ble_eq_true rfl) ⟨by decide, by decide, by decide, by decide⟩ (fun r_20 S_20 q_20 => ?_)
    obtain ⟨rfl, rfl, b_20⟩ := q_20
    refine a_if_ne (tgt := 32) X dX8_applicant_23 (by decide) (fun h_23 => ?_) (fun h_23 => ?_)
    · replace h := (if_neg h_23).symm.trans h
      refine a_iload_n X dX8_applicant_32 rfl ?_
      refine a_tsw (tg := [72, 83, 94, 105, 116, 126]) (td := 137) X dX8_applicant_33 (by decide +kernel) (by decide) (by decide) (fun k_33 t_33 ht_33 hx_33 => ?_) (fun hx_33 => ?_)
      · match k_33, ht_33, hx_33 with
        | 0, ht_33, hx_33 =>
          cases ht_33
          replace h := (if_pos (by omega)).symm.trans h
          refine a_aload_n X dX8_applicant_72 rfl ?_
          refine a_aload_n X dX8_applicant_73 rfl ?_
          refine a_getr X lf8_58 (by first | exact p_o | assumption) rfl (by omega) dX8_applicant_74 ?_
          refine a_iload_n X dX8_applicant_77 rfl ?_
          obtain ⟨g_78, h⟩ := zIx h
          refine a_iaload X (by first | exact p_sizes | assumption) g_78 dX8_applicant_78 ?_
          obtain ⟨e_79, f_79, h⟩ := zBx h
          refine a_callVv X dX8_applicant_79 miX8_gives lm8_272 (t_X8_gives (by first | exact hP | assumption) f_79) (by first | exact p_o | assumption) rfl rfl rfl (Nat.le_of_ble_eq_true rfl) ⟨by decide, by decide, by decide, by decide⟩ ?_
          refine a_iret X hr dX8_applicant_82 ⟨by decide, by decide⟩ ?_
          subst hF
          rw [← Option.some.inj h]
          exact ⟨rfl, rfl⟩
        | 1, ht_33, hx_33 =>
          cases ht_33
          replace h := (if_neg (by omega)).symm.trans h
          replace h := (if_pos (by omega)).symm.trans h
          refine a_aload_n X dX8_applicant_83 rfl ?_
          refine a_aload_n X dX8_applicant_84 rfl ?_
          refine a_getr X lf8_61 (by first | exact p_o | assumption) rfl (by omega) dX8_applicant_85 ?_
          refine a_iload_n X dX8_applicant_88 rfl ?_
          obtain ⟨g_89, h⟩ := zIx h
          refine a_iaload X (by first | exact p_guestMany | assumption) g_89 dX8_applicant_89 ?_
          obtain ⟨e_90, f_90, h⟩ := zBx h
          refine a_callVv X dX8_applicant_90 miX8_gives lm8_272 (t_X8_gives (by first | exact hP | assumption) f_90) (by first | exact p_o | assumption) rfl rfl rfl (Nat.le_of_ble_eq_true rfl) ⟨by decide, by decide, by decide, by decide⟩ ?_
          refine a_iret X hr dX8_applicant_93 ⟨by decide, by decide⟩ ?_
          subst hF
          rw [← Option.some.inj h]
          exact ⟨rfl, rfl⟩
        | 2, ht_33, hx_33 =>
          cases ht_33
          replace h := (if_neg (by omega)).symm.trans h
          replace h := (if_neg (by omega)).symm.trans h
          replace h := (if_pos (by omega)).symm.trans h
          refine a_aload_n X dX8_applicant_94 rfl ?_
          refine a_aload_n X dX8_applicant_95 rfl ?_
          refine a_getr X lf8_64 (by first | exact p_o | assumption) rfl (by omega) dX8_applicant_96 ?_
          refine a_iload_n X dX8_applicant_99 rfl ?_
          obtain ⟨g_100, h⟩ := zIx h
          refine a_iaload X (by first | exact p_pointsOf | assumption) g_100 dX8_applicant_100 ?_
          obtain ⟨e_101, f_101, h⟩ := zBx h
          refine a_callVv X dX8_applicant_101 miX8_gives lm8_272 (t_X8_gives (by first | exact hP | assumption) f_101) (by first | exact p_o | assumption) rfl rfl rfl (Nat.le_of_ble_eq_true rfl) ⟨by decide, by decide, by decide, by decide⟩ ?_
          refine a_iret X hr dX8_applicant_104 ⟨by decide, by decide⟩ ?_
          subst hF
          rw [← Option.some.inj h]
          exact ⟨rfl, rfl⟩
        | 3, ht_33, hx_33 =>
          cases ht_33
          replace h := (if_neg (by omega)).symm.trans h
          replace h := (if_neg (by omega)).symm.trans h
          replace h := (if_neg (by omega)).symm.trans h
          replace h := (if_pos (by omega)).symm.trans h
          refine a_aload_n X dX8_applicant_105 rfl ?_
          refine a_aload_n X dX8_applicant_106 rfl ?_
          refine a_getr X lf8_67 (by first | exact p_o | assumption) rfl (by omega) dX8_applicant_107 ?_
          refine a_iload_n X dX8_applicant_110 rfl ?_
          obtain ⟨g_111, h⟩ := zIx h
          refine a_iaload X (by first | exact p_ticketsOf | assumption) g_111 dX8_applicant_111 ?_
          obtain ⟨e_112, f_112, h⟩ := zBx h
          refine a_callVv X dX8_applicant_112 miX8_gives lm8_272 (t_X8_gives (by first | exact hP | assumption) f_112) (by first | exact p_o | assumption) rfl rfl rfl (Nat.le_of_ble_eq_true rfl) ⟨by decide, by decide, by decide, by decide⟩ ?_
          refine a_iret X hr dX8_applicant_115 ⟨by decide, by decide⟩ ?_
          subst hF
          rw [← Option.some.inj h]
          exact ⟨rfl, rfl⟩
        | 4, ht_33, hx_33 =>
          cases ht_33
          replace h := (if_neg (by omega)).symm.trans h
          replace h := (if_neg (by omega)).symm.trans h
          replace h := (if_neg (by omega)).symm.trans h
          replace h := (if_neg (by omega)).symm.trans h
          replace h := (if_pos (by omega)).symm.trans h
          refine a_aload_n X dX8_applicant_116 rfl ?_
          refine a_aload_n X dX8_applicant_117 rfl ?_
          refine a_iload_n X dX8_applicant_118 rfl ?_
          obtain ⟨e_119, f_119, h⟩ := zBx h
          refine a_callVv X dX8_applicant_119 miX8_choiceMany lm8_288 (t_X8_choiceMany (by first | exact hP | assumption) f_119) (by first | exact p_o | assumption) rfl rfl rfl (Nat.le_of_ble_eq_true rfl) ⟨by decide, by decide, by decide, by decide⟩ ?_
          obtain ⟨e_122, f_122, h⟩ := zBx h
          refine a_callVv X dX8_applicant_122 miX8_gives lm8_272 (t_X8_gives (by first | exact hP | assumption) f_122) (by first | exact p_o | assumption) rfl rfl rfl (Nat.le_of_ble_eq_true rfl) ⟨by decide, by decide, by decide, by decide⟩ ?_
          refine a_iret X hr dX8_applicant_125 ⟨by decide, by decide⟩ ?_
          subst hF
          rw [← Option.some.inj h]
          exact ⟨rfl, rfl⟩
        | 5, ht_33, hx_33 =>
          cases ht_33
          replace h := (if_neg (by omega)).symm.trans h
          replace h := (if_neg (by omega)).symm.trans h
          replace h := (if_neg (by omega)).symm.trans h
          replace h := (if_neg (by omega)).symm.trans h
          replace h := (if_neg (by omega)).symm.trans h
          replace h := (if_pos (by omega)).symm.trans h
          refine a_aload_n X dX8_applicant_126 rfl ?_
          refine a_aload_n X dX8_applicant_127 rfl ?_
          refine a_getr X lf8_49 (by first | exact p_o | assumption) rfl (by omega) dX8_applicant_128 ?_
          refine a_iload_n X dX8_applicant_131 rfl ?_
          obtain ⟨g_132, h⟩ := zIx h
          refine a_iaload X (by first | exact p_bits | assumption) g_132 dX8_applicant_132 ?_
          obtain ⟨e_133, f_133, h⟩ := zBx h
          refine a_callVv X dX8_applicant_133 miX8_gives lm8_272 (t_X8_gives (by first | exact hP | assumption) f_133) (by first | exact p_o | assumption) rfl rfl rfl (Nat.le_of_ble_eq_true rfl) ⟨by decide, by decide, by decide, by decide⟩ ?_
          refine a_iret X hr dX8_applicant_136 ⟨by decide, by decide⟩ ?_
          subst hF
          rw [← Option.some.inj h]
          exact ⟨rfl, rfl⟩
      · skip
        replace h := (if_neg (by omega)).symm.trans h
        replace h := (if_neg (by omega)).symm.trans h
        replace h := (if_neg (by omega)).symm.trans h
        replace h := (if_neg (by omega)).symm.trans h
        replace h := (if_neg (by omega)).symm.trans h
        replace h := (if_neg (by omega)).symm.trans h
        refine a_aload_n X dX8_applicant_137 rfl ?_
        refine a_aload_n X dX8_applicant_138 rfl ?_
        refine a_getr X lf8_52 (by first | exact p_o | assumption) rfl (by omega) dX8_applicant_139 ?_
        refine a_iload_n X dX8_applicant_142 rfl ?_
        obtain ⟨g_143, h⟩ := zIx h
        refine a_iaload X (by first | exact p_partyOf | assumption) g_143 dX8_applicant_143 ?_
        obtain ⟨e_144, f_144, h⟩ := zBx h
        refine a_callVv X dX8_applicant_144 miX8_gives lm8_272 (t_X8_gives (by first | exact hP | assumption) f_144) (by first | exact p_o | assumption) rfl rfl rfl (Nat.le_of_ble_eq_true rfl) ⟨by decide, by decide, by decide, by decide⟩ ?_
        refine a_iret X hr dX8_applicant_147 ⟨by decide, by decide⟩ ?_
        subst hF
        rw [← Option.some.inj h]
        exact ⟨rfl, rfl⟩
    · replace h := (if_pos h_23).symm.trans h
      refine a_aload_n X dX8_applicant_26 rfl ?_
      refine a_iconst (v := 2) X dX8_applicant_27 (by decide) ?_
      obtain ⟨e_28, f_28, h⟩ := zBx h
      refine a_callVv X dX8_applicant_28 miX8_refuse lm8_263 (t_X8_refuse (by first | exact hP | assumption) f_28) (by first | exact p_o | assumption) rfl rfl rfl (Nat.le_of_ble_eq_true rfl) ⟨by decide, by decide, by decide, by decide⟩ ?_
      refine a_iret X hr dX8_applicant_31 ⟨by decide, by decide⟩ ?_
      subst hF
      rw [← Option.some.inj h]
      exact ⟨rfl, rfl⟩
  · replace h := (if_pos h_9).symm.trans h
    refine a_aload_n X dX8_applicant_12 rfl ?_
    refine a_iconst (v := 1) X dX8_applicant_13 (by decide) ?_
    obtain ⟨e_14, f_14, h⟩ := zBx h
    refine a_callVv X dX8_applicant_14 miX8_refuse lm8_263 (t_X8_refuse (by first | exact hP | assumption) f_14) (by first | exact p_o | assumption) rfl rfl rfl (Nat.le_of_ble_eq_true rfl) ⟨by decide, by decide, by decide, by decide⟩ ?_
    refine a_iret X hr dX8_applicant_17 ⟨by decide, by decide⟩ ?_
    subst hF
    rw [← Option.some.inj h]
    exact ⟨rfl, rfl⟩
noncomputable def D_X8_choice_51 (P : Nat) (y0_51 : Int32) (M_51 : zMt) : Option (Int32 × zMt) :=
  some (y0_51, M_51)
noncomputable def D_X8_choice (P : Nat) (v0 : Int32) (v1 : Int32) (M : zMt) : Option (Int32 × zMt) :=
  if 0 ≤ v1 then
    zB (D_X8_isApplicant P v0 M) fun e_12 =>
    if e_12.1 = 0 then
      zB (D_X8_refuse P (2 : Int32) e_12.2) fun e_20 =>
      some (e_20.1, e_20.2)
    else
      zB (D_X8_choiceMany P e_12.2 v0) fun e_27 =>
      if e_27 ≤ v1 then
        zB (D_X8_refuse P (5 : Int32) e_12.2) fun e_48 =>
        D_X8_choice_51 P e_48.1 e_48.2
      else
        zB (D_X8_choiceOf P e_12.2 v0 v1) fun e_37 =>
        zB (D_X8_gives P e_37 e_12.2) fun e_40 =>
        D_X8_choice_51 P e_40.1 e_40.2
  else
    zB (D_X8_refuse P (1 : Int32) M) fun e_6 =>
    some (e_6.1, e_6.2)
set_option maxRecDepth 100000 in
set_option maxHeartbeats 4000000 in
theorem t_X8_choice {l : Launch} {G : zG} {b : Nat} {L : List zC} {M : zMt} {N : zNt} {P : Nat} {v0 : Int32} {v1 : Int32} (hP : LX8 L P) {r : Int32 × zMt} (h : D_X8_choice P v0 v1 M = some r) : zM l G b yX8_choice cX8_choice 3 (some .int) 4 0 0 [.ref P, .int v0, .int v1] (L, M, N) (fun r2 z => r2 = some (.int r.1) ∧ z = (L, r.2, N)) := by
  refine zM.of miX8_choice (Nat.le_of_ble_eq_true rfl) ?_
  intro p e s m args below meth c X hr hname
  generalize hF : ((fun r2 z => r2 = some (.int r.1) ∧ z = (L, r.2, N)) : Option Value → zS → Prop) = FQ
  change Zw p l e { frames := 4, cells := 0, slots := 0, locals := 80 * (4) } s m args below meth c G b 3 (MQ below (zQ G b FQ) args s 0 0 (fun q : Nat => b ≤ q)) 0 0 0 [some (.ref P), some (.int v0), some (.int v1)] [] (L, M, N)
  have p_lt := hP.1
  have p_o := hP.2.1
  have J_51 : ∀ (x1_51 : Int32) (x2_51 : Int32) (y0_51 : Int32) (M_51 : zMt), D_X8_choice_51 P y0_51 M_51 = some r → Zw p l e { frames := 4, cells := 0, slots := 0, locals := 80 * (4) } s m args below meth c G b 3 (MQ below (zQ G b FQ) args s 0 0 (fun q : Nat => b ≤ q)) 0 0 51 [some (.ref (P)), some (.int x1_51), some (.int x2_51)] [.int y0_51] (L, M_51, N) := by
    intro x1_51 x2_51 y0_51 M_51 h
    unfold D_X8_choice_51 at h
    refine a_iret X hr dX8_choice_51 ⟨by decide, by decide⟩ ?_
    subst hF
    rw [← Option.some.inj h]
    exact ⟨rfl, rfl⟩
  unfold D_X8_choice at h
  refine a_iload_n X dX8_choice_0 rfl ?_
  refine a_if_ge (tgt := 10) X dX8_choice_1 (by decide) (fun h_1 => ?_) (fun h_1 => ?_)
  · replace h := (if_pos h_1).symm.trans h
    refine a_aload_n X dX8_choice_10 rfl ?_
    refine a_iload_n X dX8_choice_11 rfl ?_
    obtain ⟨e_12, f_12, h⟩ := zBx h
    refine a_callVx X dX8_choice_12 miX8_isApplicant lm8_315 (t_X8_isApplicant (by first | exact hP | assumption) f_12) (by first | exact p_o | assumption) rfl rfl rfl (Nat.le_of_ble_eq_true rfl) ⟨by decide, by decide, by decide, by decide⟩ (fun r_12 S_12 q_12 => ?_)
    obtain ⟨rfl, rfl, b_12⟩ := q_12
    refine a_if_ne (tgt := 24) X dX8_choice_15 (by decide) (fun h_15 => ?_) (fun h_15 => ?_)
    · replace h := (if_neg h_15).symm.trans h
      refine a_iload_n X dX8_choice_24 rfl ?_
      refine a_aload_n X dX8_choice_25 rfl ?_
      refine a_iload_n X dX8_choice_26 rfl ?_
      obtain ⟨e_27, f_27, h⟩ := zBx h
      refine a_callVv X dX8_choice_27 miX8_choiceMany lm8_288 (t_X8_choiceMany (by first | exact hP | assumption) f_27) (by first | exact p_o | assumption) rfl rfl rfl (Nat.le_of_ble_eq_true rfl) ⟨by decide, by decide, by decide, by decide⟩ ?_
      refine a_icmp_ge (tgt := 46) X dX8_choice_30 (by decide) (fun h_30 => ?_) (fun h_30 => ?_)
      · replace h := (if_pos h_30).symm.trans h
        refine a_aload_n X dX8_choice_46 rfl ?_
        refine a_iconst (v := 5) X dX8_choice_47 (by decide) ?_
        obtain ⟨e_48, f_48, h⟩ := zBx h
        refine a_callVv X dX8_choice_48 miX8_refuse lm8_263 (t_X8_refuse (by first | exact hP | assumption) f_48) (by first | exact p_o | assumption) rfl rfl rfl (Nat.le_of_ble_eq_true rfl) ⟨by decide, by decide, by decide, by decide⟩ ?_
        exact Zw.to2 (J_51 _ _ _ _ h) rfl rfl rfl
      · replace h := (if_neg h_30).symm.trans h
        refine a_aload_n X dX8_choice_33 rfl ?_
        refine a_aload_n X dX8_choice_34 rfl ?_
        refine a_iload_n X dX8_choice_35 rfl ?_
        refine a_iload_n X dX8_choice_36 rfl ?_
        obtain ⟨e_37, f_37, h⟩ := zBx h
        refine a_callVv X dX8_choice_37 miX8_choiceOf lm8_284 (t_X8_choiceOf (by first | exact hP | assumption) f_37) (by first | exact p_o | assumption) rfl rfl rfl (Nat.le_of_ble_eq_true rfl) ⟨by decide, by decide, by decide, by decide⟩ ?_
        obtain ⟨e_40, f_40, h⟩ := zBx h
        refine a_callVv X dX8_choice_40 miX8_gives lm8_272 (t_X8_gives (by first | exact hP | assumption) f_40) (by first | exact p_o | assumption) rfl rfl rfl (Nat.le_of_ble_eq_true rfl) ⟨by decide, by decide, by decide, by decide⟩ ?_
        refine a_goto (tgt := 51) X dX8_choice_43 (by decide) ?_
        exact Zw.to2 (J_51 _ _ _ _ h) rfl rfl rfl
    · replace h := (if_pos h_15).symm.trans h
      refine a_aload_n X dX8_choice_18 rfl ?_
      refine a_iconst (v := 2) X dX8_choice_19 (by decide) ?_
      obtain ⟨e_20, f_20, h⟩ := zBx h
      refine a_callVv X dX8_choice_20 miX8_refuse lm8_263 (t_X8_refuse (by first | exact hP | assumption) f_20) (by first | exact p_o | assumption) rfl rfl rfl (Nat.le_of_ble_eq_true rfl) ⟨by decide, by decide, by decide, by decide⟩ ?_
      refine a_iret X hr dX8_choice_23 ⟨by decide, by decide⟩ ?_
      subst hF
      rw [← Option.some.inj h]
      exact ⟨rfl, rfl⟩
  · replace h := (if_neg h_1).symm.trans h
    refine a_aload_n X dX8_choice_4 rfl ?_
    refine a_iconst (v := 1) X dX8_choice_5 (by decide) ?_
    obtain ⟨e_6, f_6, h⟩ := zBx h
    refine a_callVv X dX8_choice_6 miX8_refuse lm8_263 (t_X8_refuse (by first | exact hP | assumption) f_6) (by first | exact p_o | assumption) rfl rfl rfl (Nat.le_of_ble_eq_true rfl) ⟨by decide, by decide, by decide, by decide⟩ ?_
    refine a_iret X hr dX8_choice_9 ⟨by decide, by decide⟩ ?_
    subst hF
    rw [← Option.some.inj h]
    exact ⟨rfl, rfl⟩
noncomputable def D_X8_term_23 (P : Nat) (y1_23 : Int32) (M_23 : zMt) : Option (Int32 × zMt) :=
  zB (D_X8_gives P y1_23 M_23) fun e_23 =>
  some (e_23.1, e_23.2)
noncomputable def D_X8_term (P : Nat) (v0 : Int32) (v1 : Int32) (v2 : Int32) (M : zMt) : Option (Int32 × zMt) :=
  zB (D_X8_common v0 v1) fun e_2 =>
  if v2 = 0 then
    zZ e_2 <|
    D_X8_term_23 P (v0 / e_2) M
  else
    zZ e_2 <|
    D_X8_term_23 P (v1 / e_2) M
set_option maxRecDepth 100000 in
set_option maxHeartbeats 4000000 in
theorem t_X8_term {l : Launch} {G : zG} {b : Nat} {L : List zC} {M : zMt} {N : zNt} {P : Nat} {v0 : Int32} {v1 : Int32} {v2 : Int32} (hP : LX8 L P) {r : Int32 × zMt} (h : D_X8_term P v0 v1 v2 M = some r) : zM l G b yX8_term cX8_term 5 (some .int) 1 0 0 [.ref P, .int v0, .int v1, .int v2] (L, M, N) (fun r2 z => r2 = some (.int r.1) ∧ z = (L, r.2, N)) := by
  refine zM.of miX8_term (Nat.le_of_ble_eq_true rfl) ?_
  intro p e s m args below meth c X hr hname
  generalize hF : ((fun r2 z => r2 = some (.int r.1) ∧ z = (L, r.2, N)) : Option Value → zS → Prop) = FQ
  change Zw p l e { frames := 1, cells := 0, slots := 0, locals := 80 * (1) } s m args below meth c G b 5 (MQ below (zQ G b FQ) args s 0 0 (fun q : Nat => b ≤ q)) 0 0 0 [some (.ref P), some (.int v0), some (.int v1), some (.int v2), none] [] (L, M, N)
  have p_lt := hP.1
  have p_o := hP.2.1
  have J_23 : ∀ (x1_23 : Int32) (x2_23 : Int32) (x3_23 : Int32) (x4_23 : Int32) (y1_23 : Int32) (M_23 : zMt), D_X8_term_23 P y1_23 M_23 = some r → Zw p l e { frames := 1, cells := 0, slots := 0, locals := 80 * (1) } s m args below meth c G b 5 (MQ below (zQ G b FQ) args s 0 0 (fun q : Nat => b ≤ q)) 0 0 23 [some (.ref (P)), some (.int x1_23), some (.int x2_23), some (.int x3_23), some (.int x4_23)] [.int y1_23, .ref (P)] (L, M_23, N) := by
    intro x1_23 x2_23 x3_23 x4_23 y1_23 M_23 h
    unfold D_X8_term_23 at h
    obtain ⟨e_23, f_23, h⟩ := zBx h
    refine a_callVv X dX8_term_23 miX8_gives lm8_272 (t_X8_gives (by first | exact hP | assumption) f_23) (by first | exact p_o | assumption) rfl rfl rfl (Nat.le_of_ble_eq_true rfl) ⟨by decide, by decide, by decide, by decide⟩ ?_
    refine a_iret X hr dX8_term_26 ⟨by decide, by decide⟩ ?_
    subst hF
    rw [← Option.some.inj h]
    exact ⟨rfl, rfl⟩
  unfold D_X8_term at h
  refine a_iload_n X dX8_term_0 rfl ?_
  refine a_iload_n X dX8_term_1 rfl ?_
  obtain ⟨e_2, f_2, h⟩ := zBx h
  refine a_callSv X dX8_term_2 miX8_common lm8_318 (t_X8_common f_2) rfl rfl (Nat.le_of_ble_eq_true rfl) ⟨by decide, by decide, by decide, by decide⟩ ?_
  refine a_istore X dX8_term_5 (by decide) ?_
  refine a_aload_n X dX8_term_7 rfl ?_
  refine a_iload_n X dX8_term_8 rfl ?_
  refine a_if_ne (tgt := 19) X dX8_term_9 (by decide) (fun h_9 => ?_) (fun h_9 => ?_)
  · replace h := (if_neg h_9).symm.trans h
    refine a_iload_n X dX8_term_19 rfl ?_
    refine a_iload X dX8_term_20 rfl ?_
    obtain ⟨z_22, h⟩ := zZx h
    refine a_idiv X dX8_term_22 (z_22) ?_
    exact Zw.to2 (J_23 _ _ _ _ _ _ h) rfl rfl rfl
  · replace h := (if_pos h_9).symm.trans h
    refine a_iload_n X dX8_term_12 rfl ?_
    refine a_iload X dX8_term_13 rfl ?_
    obtain ⟨z_15, h⟩ := zZx h
    refine a_idiv X dX8_term_15 (z_15) ?_
    refine a_goto (tgt := 23) X dX8_term_16 (by decide) ?_
    exact Zw.to2 (J_23 _ _ _ _ _ _ h) rfl rfl rfl
noncomputable def D_X8_demand_89 (P : Nat) (k57 : Int32 → Int32 → Int32 → Int32 → zMt → Option (Int32 × zMt)) (x1_89 : Int32) (x2_89 : Int32) (x4_89 : Int32) (y0_89 : Int32) (y1_89 : Int32) (M_89 : zMt) : Option (Int32 × zMt) :=
  k57 x1_89 x2_89 (y0_89 + y1_89) (x4_89 + 1) M_89
noncomputable def D_X8_demand_57 (P : Nat) : Nat → Int32 → Int32 → Int32 → Int32 → zMt → Option (Int32 × zMt)
  | 0, _, _, _, _, _ => none
  | n + 1, x1_57, x2_57, x3_57, x4_57, M_57 =>
    if (M_57 P 33) ≤ x4_57 then
      zI ((62 : Int32) + x1_57) 82 <|
      zB (D_X8_term P x3_57 (M_57 (P + 1) ((62 : Int32) + x1_57).toNatClampNeg) x2_57 M_57) fun e_109 =>
      some (e_109.1, e_109.2)
    else
      zB (D_X8_choiceOf P M_57 x4_57 (0 : Int32)) fun e_71 =>
      if e_71 = x1_57 then
        zI x4_57 10 <|
        D_X8_demand_89 P (D_X8_demand_57 P n) x1_57 x2_57 x4_57 x3_57 (M_57 (P + 14) x4_57.toNatClampNeg) M_57
      else
        D_X8_demand_89 P (D_X8_demand_57 P n) x1_57 x2_57 x4_57 x3_57 (0 : Int32) M_57
noncomputable def D_X8_demand (P : Nat) (v0 : Int32) (v1 : Int32) (M : zMt) : Option (Int32 × zMt) :=
  zB (D_X8_isFrom (Int32.toInt64 v1) (0 : Int64) (1 : Int64)) fun e_4 =>
  if e_4 = 0 then
    zB (D_X8_refuse P (1 : Int32) M) fun e_12 =>
    some (e_12.1, e_12.2)
  else
    zB (D_X8_isUnit P M v0) fun e_18 =>
    if e_18 = 0 then
      zB (D_X8_refuse P (2 : Int32) M) fun e_26 =>
      some (e_26.1, e_26.2)
    else
      zI ((62 : Int32) + v0) 82 <|
      if (M (P + 1) ((62 : Int32) + v0).toNatClampNeg) = 0 then
        zB (D_X8_refuse P (5 : Int32) M) fun e_44 =>
        some (e_44.1, e_44.2)
      else
        zB (D_X8_laysApplicants P M) fun e_49 =>
        D_X8_demand_57 P zFu v0 v1 (0 : Int32) (0 : Int32) e_49
set_option maxRecDepth 100000 in
set_option maxHeartbeats 4000000 in
theorem t_X8_demand {l : Launch} {G : zG} {b : Nat} {L : List zC} {M : zMt} {N : zNt} {P : Nat} {v0 : Int32} {v1 : Int32} (hP : LX8 L P) {r : Int32 × zMt} (h : D_X8_demand P v0 v1 M = some r) : zM l G b yX8_demand cX8_demand 5 (some .int) 3 0 0 [.ref P, .int v0, .int v1] (L, M, N) (fun r2 z => r2 = some (.int r.1) ∧ z = (L, r.2, N)) := by
  refine zM.of miX8_demand (Nat.le_of_ble_eq_true rfl) ?_
  intro p e s m args below meth c X hr hname
  generalize hF : ((fun r2 z => r2 = some (.int r.1) ∧ z = (L, r.2, N)) : Option Value → zS → Prop) = FQ
  change Zw p l e { frames := 3, cells := 0, slots := 0, locals := 80 * (3) } s m args below meth c G b 5 (MQ below (zQ G b FQ) args s 0 0 (fun q : Nat => b ≤ q)) 0 0 0 [some (.ref P), some (.int v0), some (.int v1), none, none] [] (L, M, N)
  have p_lt := hP.1
  have p_o := hP.2.1
  have p_s := hP.2.2.1
  have p_sizes := hP.2.2.2.2.2.2.2.2.2.2.2.2.2.2.2.1
  have L_57 : ∀ u : Nat, ∀ (x1_57 : Int32) (x2_57 : Int32) (x3_57 : Int32) (x4_57 : Int32) (M_57 : zMt), D_X8_demand_57 P u x1_57 x2_57 x3_57 x4_57 M_57 = some r → Zw p l e { frames := 3, cells := 0, slots := 0, locals := 80 * (3) } s m args below meth c G b 5 (MQ below (zQ G b FQ) args s 0 0 (fun q : Nat => b ≤ q)) 0 0 57 [some (.ref (P)), some (.int x1_57), some (.int x2_57), some (.int x3_57), some (.int x4_57)] [] (L, M_57, N) := by
    intro u
    induction u with
    | zero => intro x1_57 x2_57 x3_57 x4_57 M_57 h; cases (show none = some r from h)
    | succ u_57 ih_57 =>
      have J_89 : ∀ (x1_89 : Int32) (x2_89 : Int32) (x3_89 : Int32) (x4_89 : Int32) (y0_89 : Int32) (y1_89 : Int32) (M_89 : zMt), D_X8_demand_89 P (D_X8_demand_57 P u_57) x1_89 x2_89 x4_89 y0_89 y1_89 M_89 = some r → Zw p l e { frames := 3, cells := 0, slots := 0, locals := 80 * (3) } s m args below meth c G b 5 (MQ below (zQ G b FQ) args s 0 0 (fun q : Nat => b ≤ q)) 0 0 89 [some (.ref (P)), some (.int x1_89), some (.int x2_89), some (.int x3_89), some (.int x4_89)] [.int y1_89, .int y0_89] (L, M_89, N) := by
        intro x1_89 x2_89 x3_89 x4_89 y0_89 y1_89 M_89 h
        unfold D_X8_demand_89 at h
        refine a_iadd X dX8_demand_89 ?_
        refine a_istore_n X dX8_demand_90 (by decide) ?_
        refine a_iinc (v := x4_89 + 1) X dX8_demand_91 (by decide) rfl zi_1 ?_
        refine a_goto (tgt := 57) X dX8_demand_94 (by decide) ?_
        exact Zw.to2 (ih_57 _ _ _ _ _ h) rfl rfl rfl
      intro x1_57 x2_57 x3_57 x4_57 M_57 h
      rw [D_X8_demand_57] at h
      refine a_iload X dX8_demand_57 rfl ?_
      refine a_aload_n X dX8_demand_59 rfl ?_
      refine a_geti X lf8_275 (by first | exact p_o | assumption) rfl dX8_demand_60 ?_
      refine a_icmp_ge (tgt := 97) X dX8_demand_63 (by decide) (fun h_63 => ?_) (fun h_63 => ?_)
      · replace h := (if_pos h_63).symm.trans h
        refine a_aload_n X dX8_demand_97 rfl ?_
        refine a_iload_n X dX8_demand_98 rfl ?_
        refine a_aload_n X dX8_demand_99 rfl ?_
        refine a_getr X lf8_7 (by first | exact p_o | assumption) rfl (by omega) dX8_demand_100 ?_
        refine a_bipush (v := 62) X dX8_demand_103 (by decide) ?_
        refine a_iload_n X dX8_demand_105 rfl ?_
        refine a_iadd X dX8_demand_106 ?_
        obtain ⟨g_107, h⟩ := zIx h
        refine a_iaload X (by first | exact p_s | assumption) g_107 dX8_demand_107 ?_
        refine a_iload_n X dX8_demand_108 rfl ?_
        obtain ⟨e_109, f_109, h⟩ := zBx h
        refine a_callVv X dX8_demand_109 miX8_term lm8_321 (t_X8_term (by first | exact hP | assumption) f_109) (by first | exact p_o | assumption) rfl rfl rfl (Nat.le_of_ble_eq_true rfl) ⟨by decide, by decide, by decide, by decide⟩ ?_
        refine a_iret X hr dX8_demand_112 ⟨by decide, by decide⟩ ?_
        subst hF
        rw [← Option.some.inj h]
        exact ⟨rfl, rfl⟩
      · replace h := (if_neg h_63).symm.trans h
        refine a_iload_n X dX8_demand_66 rfl ?_
        refine a_aload_n X dX8_demand_67 rfl ?_
        refine a_iload X dX8_demand_68 rfl ?_
        refine a_iconst (v := 0) X dX8_demand_70 (by decide) ?_
        obtain ⟨e_71, f_71, h⟩ := zBx h
        refine a_callVv X dX8_demand_71 miX8_choiceOf lm8_284 (t_X8_choiceOf (by first | exact hP | assumption) f_71) (by first | exact p_o | assumption) rfl rfl rfl (Nat.le_of_ble_eq_true rfl) ⟨by decide, by decide, by decide, by decide⟩ ?_
        refine a_iload_n X dX8_demand_74 rfl ?_
        refine a_icmp_ne (tgt := 88) X dX8_demand_75 (by decide) (fun h_75 => ?_) (fun h_75 => ?_)
        · replace h := (if_neg h_75).symm.trans h
          refine a_iconst (v := 0) X dX8_demand_88 (by decide) ?_
          exact Zw.to2 (J_89 _ _ _ _ _ _ _ h) rfl rfl rfl
        · replace h := (if_pos h_75).symm.trans h
          refine a_aload_n X dX8_demand_78 rfl ?_
          refine a_getr X lf8_58 (by first | exact p_o | assumption) rfl (by omega) dX8_demand_79 ?_
          refine a_iload X dX8_demand_82 rfl ?_
          obtain ⟨g_84, h⟩ := zIx h
          refine a_iaload X (by first | exact p_sizes | assumption) g_84 dX8_demand_84 ?_
          refine a_goto (tgt := 89) X dX8_demand_85 (by decide) ?_
          exact Zw.to2 (J_89 _ _ _ _ _ _ _ h) rfl rfl rfl
  have H_57 : ∀ (x1_57 : Int32) (x2_57 : Int32) (x3_57 : Int32) (x4_57 : Int32) (M_57 : zMt), D_X8_demand_57 P zFu x1_57 x2_57 x3_57 x4_57 M_57 = some r → Zw p l e { frames := 3, cells := 0, slots := 0, locals := 80 * (3) } s m args below meth c G b 5 (MQ below (zQ G b FQ) args s 0 0 (fun q : Nat => b ≤ q)) 0 0 57 [some (.ref (P)), some (.int x1_57), some (.int x2_57), some (.int x3_57), some (.int x4_57)] [] (L, M_57, N) := L_57 zFu
  unfold D_X8_demand at h
  refine a_iload_n X dX8_demand_0 rfl ?_
  refine a_i2l X dX8_demand_1 ?_
  refine a_lconst (v := 0) X dX8_demand_2 (by decide) ?_
  refine a_lconst (v := 1) X dX8_demand_3 (by decide) ?_
  obtain ⟨e_4, f_4, h⟩ := zBx h
  refine a_callSx X dX8_demand_4 miX8_isFrom lm8_128 (t_X8_isFrom f_4) rfl rfl (Nat.le_of_ble_eq_true rfl) ⟨by decide, by decide, by decide, by decide⟩ (fun r_4 S_4 q_4 => ?_)
  obtain ⟨rfl, rfl, b_4⟩ := q_4
  refine a_if_ne (tgt := 16) X dX8_demand_7 (by decide) (fun h_7 => ?_) (fun h_7 => ?_)
  · replace h := (if_neg h_7).symm.trans h
    refine a_aload_n X dX8_demand_16 rfl ?_
    refine a_iload_n X dX8_demand_17 rfl ?_
    obtain ⟨e_18, f_18, h⟩ := zBx h
    refine a_callVx X dX8_demand_18 miX8_isUnit lm8_301 (t_X8_isUnit (by first | exact hP | assumption) f_18) (by first | exact p_o | assumption) rfl rfl rfl (Nat.le_of_ble_eq_true rfl) ⟨by decide, by decide, by decide, by decide⟩ (fun r_18 S_18 q_18 => ?_)
    obtain ⟨rfl, rfl, b_18⟩ := q_18
    refine a_if_ne (tgt := 30) X dX8_demand_21 (by decide) (fun h_21 => ?_) (fun h_21 => ?_)
    · replace h := (if_neg h_21).symm.trans h
      refine a_aload_n X dX8_demand_30 rfl ?_
      refine a_getr X lf8_7 (by first | exact p_o | assumption) rfl (by omega) dX8_demand_31 ?_
      refine a_bipush (v := 62) X dX8_demand_34 (by decide) ?_
      refine a_iload_n X dX8_demand_36 rfl ?_
      refine a_iadd X dX8_demand_37 ?_
      obtain ⟨g_38, h⟩ := zIx h
      refine a_iaload X (by first | exact p_s | assumption) g_38 dX8_demand_38 ?_
      refine a_if_ne (tgt := 48) X dX8_demand_39 (by decide) (fun h_39 => ?_) (fun h_39 => ?_)
      · replace h := (if_neg h_39).symm.trans h
        refine a_aload_n X dX8_demand_48 rfl ?_
        obtain ⟨e_49, f_49, h⟩ := zBx h
        refine a_callVu X dX8_demand_49 miX8_laysApplicants lm8_281 (t_X8_laysApplicants (by first | exact hP | assumption) f_49) (by first | exact p_o | assumption) rfl rfl rfl (Nat.le_of_ble_eq_true rfl) ⟨by decide, by decide, by decide, by decide⟩ ?_
        refine a_iconst (v := 0) X dX8_demand_52 (by decide) ?_
        refine a_istore_n X dX8_demand_53 (by decide) ?_
        refine a_iconst (v := 0) X dX8_demand_54 (by decide) ?_
        refine a_istore X dX8_demand_55 (by decide) ?_
        exact Zw.to2 (H_57 _ _ _ _ _ h) rfl rfl rfl
      · replace h := (if_pos h_39).symm.trans h
        refine a_aload_n X dX8_demand_42 rfl ?_
        refine a_iconst (v := 5) X dX8_demand_43 (by decide) ?_
        obtain ⟨e_44, f_44, h⟩ := zBx h
        refine a_callVv X dX8_demand_44 miX8_refuse lm8_263 (t_X8_refuse (by first | exact hP | assumption) f_44) (by first | exact p_o | assumption) rfl rfl rfl (Nat.le_of_ble_eq_true rfl) ⟨by decide, by decide, by decide, by decide⟩ ?_
        refine a_iret X hr dX8_demand_47 ⟨by decide, by decide⟩ ?_
        subst hF
        rw [← Option.some.inj h]
        exact ⟨rfl, rfl⟩
    · replace h := (if_pos h_21).symm.trans h
      refine a_aload_n X dX8_demand_24 rfl ?_
      refine a_iconst (v := 2) X dX8_demand_25 (by decide) ?_
      obtain ⟨e_26, f_26, h⟩ := zBx h
      refine a_callVv X dX8_demand_26 miX8_refuse lm8_263 (t_X8_refuse (by first | exact hP | assumption) f_26) (by first | exact p_o | assumption) rfl rfl rfl (Nat.le_of_ble_eq_true rfl) ⟨by decide, by decide, by decide, by decide⟩ ?_
      refine a_iret X hr dX8_demand_29 ⟨by decide, by decide⟩ ?_
      subst hF
      rw [← Option.some.inj h]
      exact ⟨rfl, rfl⟩
  · replace h := (if_pos h_7).symm.trans h
    refine a_aload_n X dX8_demand_10 rfl ?_
    refine a_iconst (v := 1) X dX8_demand_11 (by decide) ?_
    obtain ⟨e_12, f_12, h⟩ := zBx h
    refine a_callVv X dX8_demand_12 miX8_refuse lm8_263 (t_X8_refuse (by first | exact hP | assumption) f_12) (by first | exact p_o | assumption) rfl rfl rfl (Nat.le_of_ble_eq_true rfl) ⟨by decide, by decide, by decide, by decide⟩ ?_
    refine a_iret X hr dX8_demand_15 ⟨by decide, by decide⟩ ?_
    subst hF
    rw [← Option.some.inj h]
    exact ⟨rfl, rfl⟩
noncomputable def D_X8_share_35 (P : Nat) : Nat → Int32 → Int32 → Int32 → Int32 → zMt → Option (Int32 × zMt)
  | 0, _, _, _, _, _ => none
  | n + 1, x1_35, x2_35, x3_35, x4_35, M_35 =>
    if (M_35 P 33) ≤ x4_35 then
      zI x1_35 10 <|
      zB (D_X8_term P (M_35 (P + 17) x1_35.toNatClampNeg) x3_35 x2_35 M_35) fun e_69 =>
      some (e_69.1, e_69.2)
    else
      zI x4_35 10 <|
      (D_X8_share_35 P n) x1_35 x2_35 (x3_35 + (M_35 (P + 17) x4_35.toNatClampNeg)) (x4_35 + 1) M_35
noncomputable def D_X8_share (P : Nat) (v0 : Int32) (v1 : Int32) (M : zMt) : Option (Int32 × zMt) :=
  zB (D_X8_isFrom (Int32.toInt64 v1) (0 : Int64) (1 : Int64)) fun e_4 =>
  if e_4 = 0 then
    zB (D_X8_refuse P (1 : Int32) M) fun e_12 =>
    some (e_12.1, e_12.2)
  else
    zB (D_X8_isApplicant P v0 M) fun e_18 =>
    if e_18.1 = 0 then
      zB (D_X8_refuse P (2 : Int32) e_18.2) fun e_26 =>
      some (e_26.1, e_26.2)
    else
      D_X8_share_35 P zFu v0 v1 (0 : Int32) (0 : Int32) e_18.2
set_option maxRecDepth 100000 in
set_option maxHeartbeats 4000000 in
theorem t_X8_share {l : Launch} {G : zG} {b : Nat} {L : List zC} {M : zMt} {N : zNt} {P : Nat} {v0 : Int32} {v1 : Int32} (hP : LX8 L P) {r : Int32 × zMt} (h : D_X8_share P v0 v1 M = some r) : zM l G b yX8_share cX8_share 5 (some .int) 4 0 0 [.ref P, .int v0, .int v1] (L, M, N) (fun r2 z => r2 = some (.int r.1) ∧ z = (L, r.2, N)) := by
  refine zM.of miX8_share (Nat.le_of_ble_eq_true rfl) ?_
  intro p e s m args below meth c X hr hname
  generalize hF : ((fun r2 z => r2 = some (.int r.1) ∧ z = (L, r.2, N)) : Option Value → zS → Prop) = FQ
  change Zw p l e { frames := 4, cells := 0, slots := 0, locals := 80 * (4) } s m args below meth c G b 5 (MQ below (zQ G b FQ) args s 0 0 (fun q : Nat => b ≤ q)) 0 0 0 [some (.ref P), some (.int v0), some (.int v1), none, none] [] (L, M, N)
  have p_lt := hP.1
  have p_o := hP.2.1
  have p_ticketsOf := hP.2.2.2.2.2.2.2.2.2.2.2.2.2.2.2.2.2.2.1
  have L_35 : ∀ u : Nat, ∀ (x1_35 : Int32) (x2_35 : Int32) (x3_35 : Int32) (x4_35 : Int32) (M_35 : zMt), D_X8_share_35 P u x1_35 x2_35 x3_35 x4_35 M_35 = some r → Zw p l e { frames := 4, cells := 0, slots := 0, locals := 80 * (4) } s m args below meth c G b 5 (MQ below (zQ G b FQ) args s 0 0 (fun q : Nat => b ≤ q)) 0 0 35 [some (.ref (P)), some (.int x1_35), some (.int x2_35), some (.int x3_35), some (.int x4_35)] [] (L, M_35, N) := by
    intro u
    induction u with
    | zero => intro x1_35 x2_35 x3_35 x4_35 M_35 h; cases (show none = some r from h)
    | succ u_35 ih_35 =>
      intro x1_35 x2_35 x3_35 x4_35 M_35 h
      rw [D_X8_share_35] at h
      refine a_iload X dX8_share_35 rfl ?_
      refine a_aload_n X dX8_share_37 rfl ?_
      refine a_geti X lf8_275 (by first | exact p_o | assumption) rfl dX8_share_38 ?_
      refine a_icmp_ge (tgt := 60) X dX8_share_41 (by decide) (fun h_41 => ?_) (fun h_41 => ?_)
      · replace h := (if_pos h_41).symm.trans h
        refine a_aload_n X dX8_share_60 rfl ?_
        refine a_aload_n X dX8_share_61 rfl ?_
        refine a_getr X lf8_67 (by first | exact p_o | assumption) rfl (by omega) dX8_share_62 ?_
        refine a_iload_n X dX8_share_65 rfl ?_
        obtain ⟨g_66, h⟩ := zIx h
        refine a_iaload X (by first | exact p_ticketsOf | assumption) g_66 dX8_share_66 ?_
        refine a_iload_n X dX8_share_67 rfl ?_
        refine a_iload_n X dX8_share_68 rfl ?_
        obtain ⟨e_69, f_69, h⟩ := zBx h
        refine a_callVv X dX8_share_69 miX8_term lm8_321 (t_X8_term (by first | exact hP | assumption) f_69) (by first | exact p_o | assumption) rfl rfl rfl (Nat.le_of_ble_eq_true rfl) ⟨by decide, by decide, by decide, by decide⟩ ?_
        refine a_iret X hr dX8_share_72 ⟨by decide, by decide⟩ ?_
        subst hF
        rw [← Option.some.inj h]
        exact ⟨rfl, rfl⟩
      · replace h := (if_neg h_41).symm.trans h
        refine a_iload_n X dX8_share_44 rfl ?_
        refine a_aload_n X dX8_share_45 rfl ?_
        refine a_getr X lf8_67 (by first | exact p_o | assumption) rfl (by omega) dX8_share_46 ?_
        refine a_iload X dX8_share_49 rfl ?_
        obtain ⟨g_51, h⟩ := zIx h
        refine a_iaload X (by first | exact p_ticketsOf | assumption) g_51 dX8_share_51 ?_
        refine a_iadd X dX8_share_52 ?_
        refine a_istore_n X dX8_share_53 (by decide) ?_
        refine a_iinc (v := x4_35 + 1) X dX8_share_54 (by decide) rfl zi_1 ?_
        refine a_goto (tgt := 35) X dX8_share_57 (by decide) ?_
        exact Zw.to2 (ih_35 _ _ _ _ _ h) rfl rfl rfl
  have H_35 : ∀ (x1_35 : Int32) (x2_35 : Int32) (x3_35 : Int32) (x4_35 : Int32) (M_35 : zMt), D_X8_share_35 P zFu x1_35 x2_35 x3_35 x4_35 M_35 = some r → Zw p l e { frames := 4, cells := 0, slots := 0, locals := 80 * (4) } s m args below meth c G b 5 (MQ below (zQ G b FQ) args s 0 0 (fun q : Nat => b ≤ q)) 0 0 35 [some (.ref (P)), some (.int x1_35), some (.int x2_35), some (.int x3_35), some (.int x4_35)] [] (L, M_35, N) := L_35 zFu
  unfold D_X8_share at h
  refine a_iload_n X dX8_share_0 rfl ?_
  refine a_i2l X dX8_share_1 ?_
  refine a_lconst (v := 0) X dX8_share_2 (by decide) ?_
  refine a_lconst (v := 1) X dX8_share_3 (by decide) ?_
  obtain ⟨e_4, f_4, h⟩ := zBx h
  refine a_callSx X dX8_share_4 miX8_isFrom lm8_128 (t_X8_isFrom f_4) rfl rfl (Nat.le_of_ble_eq_true rfl) ⟨by decide, by decide, by decide, by decide⟩ (fun r_4 S_4 q_4 => ?_)
  obtain ⟨rfl, rfl, b_4⟩ := q_4
  refine a_if_ne (tgt := 16) X dX8_share_7 (by decide) (fun h_7 => ?_) (fun h_7 => ?_)
  · replace h := (if_neg h_7).symm.trans h
    refine a_aload_n X dX8_share_16 rfl ?_
    refine a_iload_n X dX8_share_17 rfl ?_
    obtain ⟨e_18, f_18, h⟩ := zBx h
    refine a_callVx X dX8_share_18 miX8_isApplicant lm8_315 (t_X8_isApplicant (by first | exact hP | assumption) f_18) (by first | exact p_o | assumption) rfl rfl rfl (Nat.le_of_ble_eq_true rfl) ⟨by decide, by decide, by decide, by decide⟩ (fun r_18 S_18 q_18 => ?_)
    obtain ⟨rfl, rfl, b_18⟩ := q_18
    refine a_if_ne (tgt := 30) X dX8_share_21 (by decide) (fun h_21 => ?_) (fun h_21 => ?_)
    · replace h := (if_neg h_21).symm.trans h
      refine a_iconst (v := 0) X dX8_share_30 (by decide) ?_
      refine a_istore_n X dX8_share_31 (by decide) ?_
      refine a_iconst (v := 0) X dX8_share_32 (by decide) ?_
      refine a_istore X dX8_share_33 (by decide) ?_
      exact Zw.to2 (H_35 _ _ _ _ _ h) rfl rfl rfl
    · replace h := (if_pos h_21).symm.trans h
      refine a_aload_n X dX8_share_24 rfl ?_
      refine a_iconst (v := 2) X dX8_share_25 (by decide) ?_
      obtain ⟨e_26, f_26, h⟩ := zBx h
      refine a_callVv X dX8_share_26 miX8_refuse lm8_263 (t_X8_refuse (by first | exact hP | assumption) f_26) (by first | exact p_o | assumption) rfl rfl rfl (Nat.le_of_ble_eq_true rfl) ⟨by decide, by decide, by decide, by decide⟩ ?_
      refine a_iret X hr dX8_share_29 ⟨by decide, by decide⟩ ?_
      subst hF
      rw [← Option.some.inj h]
      exact ⟨rfl, rfl⟩
  · replace h := (if_pos h_7).symm.trans h
    refine a_aload_n X dX8_share_10 rfl ?_
    refine a_iconst (v := 1) X dX8_share_11 (by decide) ?_
    obtain ⟨e_12, f_12, h⟩ := zBx h
    refine a_callVv X dX8_share_12 miX8_refuse lm8_263 (t_X8_refuse (by first | exact hP | assumption) f_12) (by first | exact p_o | assumption) rfl rfl rfl (Nat.le_of_ble_eq_true rfl) ⟨by decide, by decide, by decide, by decide⟩ ?_
    refine a_iret X hr dX8_share_15 ⟨by decide, by decide⟩ ?_
    subst hF
    rw [← Option.some.inj h]
    exact ⟨rfl, rfl⟩
noncomputable def D_X8_gets (P : Nat) (v0 : Int32) (v1 : Int32) (v2 : Int32) (M : zMt) : Option (zMt) :=
  zI v0 10 <|
  zLt (zu M (P + 19) v0.toNatClampNeg v1) fun M_6 =>
  zI v0 10 <|
  zLt (zu M_6 (P + 20) v0.toNatClampNeg v2) fun M_13 =>
  zI v1 5 <|
  zI v0 10 <|
  zI v1 5 <|
  zLt (zu M_13 (P + 21) v1.toNatClampNeg ((M_13 (P + 21) v1.toNatClampNeg) - (M_13 (P + 14) v0.toNatClampNeg))) fun M_28 =>
  zI v1 5 <|
  zI v0 10 <|
  zI v1 5 <|
  zLt (zu M_28 (P + 22) v1.toNatClampNeg ((M_28 (P + 22) v1.toNatClampNeg) - (M_28 (P + 15) v0.toNatClampNeg))) fun M_43 =>
  some (M_43)
set_option maxRecDepth 100000 in
set_option maxHeartbeats 4000000 in
theorem t_X8_gets {l : Launch} {G : zG} {b : Nat} {L : List zC} {M : zMt} {N : zNt} {P : Nat} {v0 : Int32} {v1 : Int32} {v2 : Int32} (hP : LX8 L P) {r : zMt} (h : D_X8_gets P v0 v1 v2 M = some r) : zM l G b yX8_gets cX8_gets 4 none 0 0 0 [.ref P, .int v0, .int v1, .int v2] (L, M, N) (fun r2 z => r2 = none ∧ z = (L, r, N)) := by
  refine zM.of miX8_gets (Nat.le_of_ble_eq_true rfl) ?_
  intro p e s m args below meth c X hr hname
  generalize hF : ((fun r2 z => r2 = none ∧ z = (L, r, N)) : Option Value → zS → Prop) = FQ
  change Zw p l e { frames := 0, cells := 0, slots := 0, locals := 80 * (0) } s m args below meth c G b 4 (MQ below (zQ G b FQ) args s 0 0 (fun q : Nat => b ≤ q)) 0 0 0 [some (.ref P), some (.int v0), some (.int v1), some (.int v2)] [] (L, M, N)
  have p_lt := hP.1
  have p_o := hP.2.1
  have p_sizes := hP.2.2.2.2.2.2.2.2.2.2.2.2.2.2.2.1
  have p_guestMany := hP.2.2.2.2.2.2.2.2.2.2.2.2.2.2.2.2.1
  have p_given := hP.2.2.2.2.2.2.2.2.2.2.2.2.2.2.2.2.2.2.2.2.1
  have p_roundOf := hP.2.2.2.2.2.2.2.2.2.2.2.2.2.2.2.2.2.2.2.2.2.1
  have p_tags := hP.2.2.2.2.2.2.2.2.2.2.2.2.2.2.2.2.2.2.2.2.2.2.1
  have p_guestTags := hP.2.2.2.2.2.2.2.2.2.2.2.2.2.2.2.2.2.2.2.2.2.2.2.1
  unfold D_X8_gets at h
  refine a_aload_n X dX8_gets_0 rfl ?_
  refine a_getr X lf8_73 (by first | exact p_o | assumption) rfl (by omega) dX8_gets_1 ?_
  refine a_iload_n X dX8_gets_4 rfl ?_
  refine a_iload_n X dX8_gets_5 rfl ?_
  obtain ⟨g_6, h⟩ := zIx h
  obtain ⟨M_6, f_6, h⟩ := zLtx h
  refine d_iastore X (by first | exact p_given | assumption) g_6 dX8_gets_6 f_6 ?_
  refine a_aload_n X dX8_gets_7 rfl ?_
  refine a_getr X lf8_76 (by first | exact p_o | assumption) rfl (by omega) dX8_gets_8 ?_
  refine a_iload_n X dX8_gets_11 rfl ?_
  refine a_iload_n X dX8_gets_12 rfl ?_
  obtain ⟨g_13, h⟩ := zIx h
  obtain ⟨M_13, f_13, h⟩ := zLtx h
  refine d_iastore X (by first | exact p_roundOf | assumption) g_13 dX8_gets_13 f_13 ?_
  refine a_aload_n X dX8_gets_14 rfl ?_
  refine a_getr X lf8_79 (by first | exact p_o | assumption) rfl (by omega) dX8_gets_15 ?_
  refine a_iload_n X dX8_gets_18 rfl ?_
  refine a_dup2 X dX8_gets_19 rfl rfl ?_
  obtain ⟨g_20, h⟩ := zIx h
  refine a_iaload X (by first | exact p_tags | assumption) g_20 dX8_gets_20 ?_
  refine a_aload_n X dX8_gets_21 rfl ?_
  refine a_getr X lf8_58 (by first | exact p_o | assumption) rfl (by omega) dX8_gets_22 ?_
  refine a_iload_n X dX8_gets_25 rfl ?_
  obtain ⟨g_26, h⟩ := zIx h
  refine a_iaload X (by first | exact p_sizes | assumption) g_26 dX8_gets_26 ?_
  refine a_isub X dX8_gets_27 ?_
  obtain ⟨g_28, h⟩ := zIx h
  obtain ⟨M_28, f_28, h⟩ := zLtx h
  refine d_iastore X (by first | exact p_tags | assumption) g_28 dX8_gets_28 f_28 ?_
  refine a_aload_n X dX8_gets_29 rfl ?_
  refine a_getr X lf8_82 (by first | exact p_o | assumption) rfl (by omega) dX8_gets_30 ?_
  refine a_iload_n X dX8_gets_33 rfl ?_
  refine a_dup2 X dX8_gets_34 rfl rfl ?_
  obtain ⟨g_35, h⟩ := zIx h
  refine a_iaload X (by first | exact p_guestTags | assumption) g_35 dX8_gets_35 ?_
  refine a_aload_n X dX8_gets_36 rfl ?_
  refine a_getr X lf8_61 (by first | exact p_o | assumption) rfl (by omega) dX8_gets_37 ?_
  refine a_iload_n X dX8_gets_40 rfl ?_
  obtain ⟨g_41, h⟩ := zIx h
  refine a_iaload X (by first | exact p_guestMany | assumption) g_41 dX8_gets_41 ?_
  refine a_isub X dX8_gets_42 ?_
  obtain ⟨g_43, h⟩ := zIx h
  obtain ⟨M_43, f_43, h⟩ := zLtx h
  refine d_iastore X (by first | exact p_guestTags | assumption) g_43 dX8_gets_43 f_43 ?_
  refine a_vret X hr dX8_gets_44 ⟨by decide, by decide⟩ ?_
  subst hF
  rw [← Option.some.inj h]
  exact ⟨rfl, rfl⟩
noncomputable def D_X8_fits_30 (P : Nat) (M : zMt) (y0_30 : Int32) : Option (Int32) :=
  some (y0_30)
noncomputable def D_X8_fits_29 (P : Nat) (M : zMt)  : Option (Int32) :=
  D_X8_fits_30 P M (0 : Int32)
noncomputable def D_X8_fits (P : Nat) (M : zMt) (v0 : Int32) (v1 : Int32) (v2 : Int32) : Option (Int32) :=
  zI v0 10 <|
  if v2 < (M (P + 14) v0.toNatClampNeg) then
    D_X8_fits_29 P M
  else
    zI v0 10 <|
    zI v1 5 <|
    if (M (P + 22) v1.toNatClampNeg) < (M (P + 15) v0.toNatClampNeg) then
      D_X8_fits_29 P M
    else
      D_X8_fits_30 P M (1 : Int32)
set_option maxRecDepth 100000 in
set_option maxHeartbeats 4000000 in
theorem t_X8_fits {l : Launch} {G : zG} {b : Nat} {L : List zC} {M : zMt} {N : zNt} {P : Nat} {v0 : Int32} {v1 : Int32} {v2 : Int32} (hP : LX8 L P) {r : Int32} (h : D_X8_fits P M v0 v1 v2 = some r) : zM l G b yX8_fits cX8_fits 4 (some .boolean) 0 0 0 [.ref P, .int v0, .int v1, .int v2] (L, M, N) (fun r2 z => r2 = some (.int r) ∧ z = (L, M, N) ∧ (r = 0 ∨ r = 1)) := by
  refine zM.of miX8_fits (Nat.le_of_ble_eq_true rfl) ?_
  intro p e s m args below meth c X hr hname
  generalize hF : ((fun r2 z => r2 = some (.int r) ∧ z = (L, M, N) ∧ (r = 0 ∨ r = 1)) : Option Value → zS → Prop) = FQ
  change Zw p l e { frames := 0, cells := 0, slots := 0, locals := 80 * (0) } s m args below meth c G b 4 (MQ below (zQ G b FQ) args s 0 0 (fun q : Nat => b ≤ q)) 0 0 0 [some (.ref P), some (.int v0), some (.int v1), some (.int v2)] [] (L, M, N)
  have p_lt := hP.1
  have p_o := hP.2.1
  have p_sizes := hP.2.2.2.2.2.2.2.2.2.2.2.2.2.2.2.1
  have p_guestMany := hP.2.2.2.2.2.2.2.2.2.2.2.2.2.2.2.2.1
  have p_guestTags := hP.2.2.2.2.2.2.2.2.2.2.2.2.2.2.2.2.2.2.2.2.2.2.2.1
  have J_30 : ∀ (x1_30 : Int32) (x2_30 : Int32) (x3_30 : Int32) (y0_30 : Int32), (y0_30 = 0 ∨ y0_30 = 1) → D_X8_fits_30 P M y0_30 = some r → Zw p l e { frames := 0, cells := 0, slots := 0, locals := 80 * (0) } s m args below meth c G b 4 (MQ below (zQ G b FQ) args s 0 0 (fun q : Nat => b ≤ q)) 0 0 30 [some (.ref (P)), some (.int x1_30), some (.int x2_30), some (.int x3_30)] [.int y0_30] (L, M, N) := by
    intro x1_30 x2_30 x3_30 y0_30 fb_y0_30 h
    unfold D_X8_fits_30 at h
    refine a_zret X (by first | exact Or.inl rfl | exact Or.inr rfl | assumption) hr dX8_fits_30 ⟨by decide, by decide⟩ ?_
    subst hF
    rw [← Option.some.inj h]
    exact ⟨rfl, rfl, (by first | exact Or.inl rfl | exact Or.inr rfl | assumption)⟩
  have J_29 : ∀ (x1_29 : Int32) (x2_29 : Int32) (x3_29 : Int32), D_X8_fits_29 P M = some r → Zw p l e { frames := 0, cells := 0, slots := 0, locals := 80 * (0) } s m args below meth c G b 4 (MQ below (zQ G b FQ) args s 0 0 (fun q : Nat => b ≤ q)) 0 0 29 [some (.ref (P)), some (.int x1_29), some (.int x2_29), some (.int x3_29)] [] (L, M, N) := by
    intro x1_29 x2_29 x3_29 h
    unfold D_X8_fits_29 at h
    refine a_iconst (v := 0) X dX8_fits_29 (by decide) ?_
    exact Zw.to2 (J_30 _ _ _ _ (by first | exact Or.inl rfl | exact Or.inr rfl | assumption) h) rfl rfl rfl
  unfold D_X8_fits at h
  refine a_aload_n X dX8_fits_0 rfl ?_
  refine a_getr X lf8_58 (by first | exact p_o | assumption) rfl (by omega) dX8_fits_1 ?_
  refine a_iload_n X dX8_fits_4 rfl ?_
  obtain ⟨g_5, h⟩ := zIx h
  refine a_iaload X (by first | exact p_sizes | assumption) g_5 dX8_fits_5 ?_
  refine a_iload_n X dX8_fits_6 rfl ?_
  refine a_icmp_gt (tgt := 29) X dX8_fits_7 (by decide) (fun h_7 => ?_) (fun h_7 => ?_)
  · replace h := (if_pos h_7).symm.trans h
    exact Zw.to2 (J_29 _ _ _ h) rfl rfl rfl
  · replace h := (if_neg h_7).symm.trans h
    refine a_aload_n X dX8_fits_10 rfl ?_
    refine a_getr X lf8_61 (by first | exact p_o | assumption) rfl (by omega) dX8_fits_11 ?_
    refine a_iload_n X dX8_fits_14 rfl ?_
    obtain ⟨g_15, h⟩ := zIx h
    refine a_iaload X (by first | exact p_guestMany | assumption) g_15 dX8_fits_15 ?_
    refine a_aload_n X dX8_fits_16 rfl ?_
    refine a_getr X lf8_82 (by first | exact p_o | assumption) rfl (by omega) dX8_fits_17 ?_
    refine a_iload_n X dX8_fits_20 rfl ?_
    obtain ⟨g_21, h⟩ := zIx h
    refine a_iaload X (by first | exact p_guestTags | assumption) g_21 dX8_fits_21 ?_
    refine a_icmp_gt (tgt := 29) X dX8_fits_22 (by decide) (fun h_22 => ?_) (fun h_22 => ?_)
    · replace h := (if_pos h_22).symm.trans h
      exact Zw.to2 (J_29 _ _ _ h) rfl rfl rfl
    · replace h := (if_neg h_22).symm.trans h
      refine a_iconst (v := 1) X dX8_fits_25 (by decide) ?_
      refine a_goto (tgt := 30) X dX8_fits_26 (by decide) ?_
      exact Zw.to2 (J_30 _ _ _ _ (by first | exact Or.inl rfl | exact Or.inr rfl | assumption) h) rfl rfl rfl
