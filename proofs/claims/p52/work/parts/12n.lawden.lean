noncomputable def D_L_orders_142 (P : Nat) (Q : Nat) (k9 : Int64 → Int32 → Int32 → zMt → Option (zMt)) (k93 : Int64 → Int32 → Int32 → Int64 → Int32 → zMt → Option (zMt)) (x3_142 : Int64) (x5_142 : Int32) (x6_142 : Int32) (x10_142 : Int32) (y0_142 : Int64) (y1_142 : Int64) (M_142 : zMt) : Option (zMt) :=
  k93 x3_142 x5_142 x6_142 (y0_142 - y1_142) (x10_142 + 1) M_142
noncomputable def D_L_orders_118 (P : Nat) (Q : Nat) (k9 : Int64 → Int32 → Int32 → zMt → Option (zMt)) (k93 : Int64 → Int32 → Int32 → Int64 → Int32 → zMt → Option (zMt)) (x3_118 : Int64) (x5_118 : Int32) (x6_118 : Int32) (x8_118 : Int64) (x10_118 : Int32) (M_118 : zMt) : Option (zMt) :=
  if ((x5_118 >>> (x10_118 &&& 31)) &&& (1 : Int32)) = 0 then
    zB (D_X7_applicant Q x10_118 (3 : Int32) M_118) fun e_134 =>
    D_L_orders_142 P Q k9 k93 x3_118 x5_118 x6_118 x10_118 x8_118 (Int32.toInt64 e_134.1) e_134.2
  else
    D_L_orders_142 P Q k9 k93 x3_118 x5_118 x6_118 x10_118 x8_118 (0 : Int64) M_118
noncomputable def D_L_orders_93 (P : Nat) (Q : Nat) (k9 : Int64 → Int32 → Int32 → zMt → Option (zMt)) : Nat → Int64 → Int32 → Int32 → Int64 → Int32 → zMt → Option (zMt)
  | 0, _, _, _, _, _, _ => none
  | n + 1, x3_93, x5_93, x6_93, x8_93, x10_93, M_93 =>
    if ((x5_93 >>> (x10_93 &&& 31)) &&& (1 : Int32)) = (1 : Int32) then
      D_L_orders_118 P Q k9 (D_L_orders_93 P Q k9 n) x3_93 x5_93 x6_93 x8_93 x10_93 M_93
    else
      zB (D_X7_applicant Q x10_93 (3 : Int32) M_93) fun e_110 =>
      if (lg_cmp x8_93 (Int32.toInt64 e_110.1)) < 0 then
        zI x6_93 8 <|
        zLt (zu e_110.2 (P + 2) x6_93.toNatClampNeg x10_93) fun M_159 =>
        k9 x3_93 (x5_93 ||| ((1 : Int32) <<< (x10_93 &&& 31))) (x6_93 + 1) M_159
      else
        D_L_orders_118 P Q k9 (D_L_orders_93 P Q k9 n) x3_93 x5_93 x6_93 x8_93 x10_93 e_110.2
noncomputable def D_L_orders_56 (P : Nat) (Q : Nat) (k9 : Int64 → Int32 → Int32 → zMt → Option (zMt)) (k24 : Int64 → Int32 → Int32 → Int32 → Int32 → zMt → Option (zMt)) (x3_56 : Int64) (x5_56 : Int32) (x6_56 : Int32) (x8_56 : Int32) (y0_56 : Int32) (y1_56 : Int32) (M_56 : zMt) : Option (zMt) :=
  k24 x3_56 x5_56 x6_56 (y0_56 + y1_56) (x8_56 + 1) M_56
noncomputable def D_L_orders_24 (P : Nat) (Q : Nat) (k9 : Int64 → Int32 → Int32 → zMt → Option (zMt)) : Nat → Int64 → Int32 → Int32 → Int32 → Int32 → zMt → Option (zMt)
  | 0, _, _, _, _, _, _ => none
  | n + 1, x3_24, x5_24, x6_24, x7_24, x8_24, M_24 =>
    if (M_24 P 2) ≤ x8_24 then
      zZl (Int32.toInt64 x7_24) <|
      D_L_orders_93 P Q k9 zFu ((((1103515245 : Int64) * x3_24) + (12345 : Int64)) - (((1103515245 : Int64) * x3_24) + (12345 : Int64)) / (2147483648 : Int64) * (2147483648 : Int64)) x5_24 x6_24 ((((((1103515245 : Int64) * x3_24) + (12345 : Int64)) - (((1103515245 : Int64) * x3_24) + (12345 : Int64)) / (2147483648 : Int64) * (2147483648 : Int64)) / (65536 : Int64)) - (((((1103515245 : Int64) * x3_24) + (12345 : Int64)) - (((1103515245 : Int64) * x3_24) + (12345 : Int64)) / (2147483648 : Int64) * (2147483648 : Int64)) / (65536 : Int64)) / (Int32.toInt64 x7_24) * (Int32.toInt64 x7_24)) (0 : Int32) M_24
    else
      if ((x5_24 >>> (x8_24 &&& 31)) &&& (1 : Int32)) = 0 then
        zB (D_X7_applicant Q x8_24 (3 : Int32) M_24) fun e_49 =>
        D_L_orders_56 P Q k9 (D_L_orders_24 P Q k9 n) x3_24 x5_24 x6_24 x8_24 x7_24 e_49.1 e_49.2
      else
        D_L_orders_56 P Q k9 (D_L_orders_24 P Q k9 n) x3_24 x5_24 x6_24 x8_24 x7_24 (0 : Int32) M_24
noncomputable def D_L_orders_9 (P : Nat) (Q : Nat) : Nat → Int64 → Int32 → Int32 → zMt → Option (zMt)
  | 0, _, _, _, _ => none
  | n + 1, x3_9, x5_9, x6_9, M_9 =>
    if (M_9 P 2) ≤ x6_9 then
      some (M_9)
    else
      D_L_orders_24 P Q (D_L_orders_9 P Q n) zFu x3_9 x5_9 x6_9 (0 : Int32) (0 : Int32) M_9
noncomputable def D_L_orders (P : Nat) (Q : Nat) (v0 : Int32) (M : zMt) : Option (zMt) :=
  D_L_orders_9 P Q zFu (Int32.toInt64 v0) (0 : Int32) (0 : Int32) M
set_option maxRecDepth 100000 in
set_option maxHeartbeats 4000000 in
theorem t_L_orders {l : Launch} {G : zG} {b : Nat} {L : List zC} {M : zMt} {N : zNt} {P : Nat} {Q : Nat} {v0 : Int32} (hP : LX8 L P) (hQ : LX7 L Q) {r : zMt} (h : D_L_orders P Q v0 M = some r) : zM l G b yL_orders cL_orders 11 none 2 0 0 [.ref P, .ref Q, .int v0] (L, M, N) (fun r2 z => r2 = none ∧ z = (L, r, N)) := by
  refine zM.of miL_orders (Nat.le_of_ble_eq_true rfl) ?_
  intro p e s m args below meth c X hr hname
  generalize hF : ((fun r2 z => r2 = none ∧ z = (L, r, N)) : Option Value → zS → Prop) = FQ
  change Zw p l e { frames := 2, cells := 0, slots := 0, locals := 36 * (2) } s m args below meth c G b 11 (MQ below (zQ G b FQ) args s 0 0 (fun q : Nat => b ≤ q)) 0 0 0 [some (.ref P), some (.ref Q), some (.int v0), none, none, none, none, none, none, none, none] [] (L, M, N)
  have p_lt := hP.1
  obtain ⟨_, p_o⟩ := hP.2.1
  have p_ord := hP.2.2.1
  have q_lt := hQ.1
  have q_o := hQ.2.1
  have L_9 : ∀ u : Nat, ∀ (x2_9 : Int32) (x3_9 : Int64) (x5_9 : Int32) (x6_9 : Int32) (x7_9 : Option Value) (x8_9 : Option Value) (x9_9 : Option Value) (x10_9 : Option Value) (M_9 : zMt), D_L_orders_9 P Q u x3_9 x5_9 x6_9 M_9 = some r → Zw p l e { frames := 2, cells := 0, slots := 0, locals := 36 * (2) } s m args below meth c G b 11 (MQ below (zQ G b FQ) args s 0 0 (fun q : Nat => b ≤ q)) 0 0 9 [some (.ref (P)), some (.ref (Q)), some (.int x2_9), some (.long x3_9), none, some (.int x5_9), some (.int x6_9), x7_9, x8_9, x9_9, x10_9] [] (L, M_9, N) := by
    intro u
    induction u with
    | zero => intro x2_9 x3_9 x5_9 x6_9 x7_9 x8_9 x9_9 x10_9 M_9 h; cases (show none = some r from h)
    | succ u_9 ih_9 =>
      have L_93 : ∀ u : Nat, ∀ (x2_93 : Int32) (x3_93 : Int64) (x5_93 : Int32) (x6_93 : Int32) (x7_93 : Int32) (x8_93 : Int64) (x10_93 : Int32) (M_93 : zMt), D_L_orders_93 P Q (D_L_orders_9 P Q u_9) u x3_93 x5_93 x6_93 x8_93 x10_93 M_93 = some r → Zw p l e { frames := 2, cells := 0, slots := 0, locals := 36 * (2) } s m args below meth c G b 11 (MQ below (zQ G b FQ) args s 0 0 (fun q : Nat => b ≤ q)) 0 0 93 [some (.ref (P)), some (.ref (Q)), some (.int x2_93), some (.long x3_93), none, some (.int x5_93), some (.int x6_93), some (.int x7_93), some (.long x8_93), none, some (.int x10_93)] [] (L, M_93, N) := by
        intro u
        induction u with
        | zero => intro x2_93 x3_93 x5_93 x6_93 x7_93 x8_93 x10_93 M_93 h; cases (show none = some r from h)
        | succ u_93 ih_93 =>
          have J_142 : ∀ (x2_142 : Int32) (x3_142 : Int64) (x5_142 : Int32) (x6_142 : Int32) (x7_142 : Int32) (x8_142 : Int64) (x10_142 : Int32) (y0_142 : Int64) (y1_142 : Int64) (M_142 : zMt), D_L_orders_142 P Q (D_L_orders_9 P Q u_9) (D_L_orders_93 P Q (D_L_orders_9 P Q u_9) u_93) x3_142 x5_142 x6_142 x10_142 y0_142 y1_142 M_142 = some r → Zw p l e { frames := 2, cells := 0, slots := 0, locals := 36 * (2) } s m args below meth c G b 11 (MQ below (zQ G b FQ) args s 0 0 (fun q : Nat => b ≤ q)) 0 0 142 [some (.ref (P)), some (.ref (Q)), some (.int x2_142), some (.long x3_142), none, some (.int x5_142), some (.int x6_142), some (.int x7_142), some (.long x8_142), none, some (.int x10_142)] [.long y1_142, .long y0_142] (L, M_142, N) := by
            intro x2_142 x3_142 x5_142 x6_142 x7_142 x8_142 x10_142 y0_142 y1_142 M_142 h
            unfold D_L_orders_142 at h
            refine a_lsub X dL_orders_142 ?_
            refine a_lstore X dL_orders_143 (by decide) ?_
            refine a_iinc (v := x10_142 + 1) X dL_orders_145 (by decide) rfl zi_1 ?_
            refine a_goto (tgt := 93) X dL_orders_148 (by decide) ?_
            exact Zw.to2 (ih_93 _ _ _ _ _ _ _ _ h) rfl rfl rfl
          have J_118 : ∀ (x2_118 : Int32) (x3_118 : Int64) (x5_118 : Int32) (x6_118 : Int32) (x7_118 : Int32) (x8_118 : Int64) (x10_118 : Int32) (M_118 : zMt), D_L_orders_118 P Q (D_L_orders_9 P Q u_9) (D_L_orders_93 P Q (D_L_orders_9 P Q u_9) u_93) x3_118 x5_118 x6_118 x8_118 x10_118 M_118 = some r → Zw p l e { frames := 2, cells := 0, slots := 0, locals := 36 * (2) } s m args below meth c G b 11 (MQ below (zQ G b FQ) args s 0 0 (fun q : Nat => b ≤ q)) 0 0 118 [some (.ref (P)), some (.ref (Q)), some (.int x2_118), some (.long x3_118), none, some (.int x5_118), some (.int x6_118), some (.int x7_118), some (.long x8_118), none, some (.int x10_118)] [] (L, M_118, N) := by
            intro x2_118 x3_118 x5_118 x6_118 x7_118 x8_118 x10_118 M_118 h
            unfold D_L_orders_118 at h
            refine a_lload X dL_orders_118 rfl ?_
            refine a_iload X dL_orders_120 rfl ?_
            refine a_iload X dL_orders_122 rfl ?_
            refine a_ishr X dL_orders_124 ?_
            refine a_iconst (v := 1) X dL_orders_125 (by decide) ?_
            refine a_iand X dL_orders_126 ?_
            refine a_if_ne (tgt := 141) X dL_orders_127 (by decide) (fun h_127 => ?_) (fun h_127 => ?_)
            · replace h := (if_neg h_127).symm.trans h
              refine a_lconst (v := 0) X dL_orders_141 (by decide) ?_
              exact Zw.to2 (J_142 _ _ _ _ _ _ _ _ _ _ h) rfl rfl rfl
            · replace h := (if_pos h_127).symm.trans h
              refine a_aload_n X dL_orders_130 rfl ?_
              refine a_iload X dL_orders_131 rfl ?_
              refine a_iconst (v := 3) X dL_orders_133 (by decide) ?_
              obtain ⟨e_134, f_134, h⟩ := zBx h
              refine a_callVv X dL_orders_134 miX7_applicant lm8_109 (t_X7_applicant (by first | exact hQ | assumption) f_134) (by first | exact q_o | assumption) rfl rfl rfl (Nat.le_of_ble_eq_true rfl) ⟨by decide, by decide, by decide, by decide⟩ ?_
              refine a_i2l X dL_orders_137 ?_
              refine a_goto (tgt := 142) X dL_orders_138 (by decide) ?_
              exact Zw.to2 (J_142 _ _ _ _ _ _ _ _ _ _ h) rfl rfl rfl
          intro x2_93 x3_93 x5_93 x6_93 x7_93 x8_93 x10_93 M_93 h
          rw [D_L_orders_93] at h
          refine a_iload X dL_orders_93 rfl ?_
          refine a_iload X dL_orders_95 rfl ?_
          refine a_ishr X dL_orders_97 ?_
          refine a_iconst (v := 1) X dL_orders_98 (by decide) ?_
          refine a_iand X dL_orders_99 ?_
          refine a_iconst (v := 1) X dL_orders_100 (by decide) ?_
          refine a_icmp_eq (tgt := 118) X dL_orders_101 (by decide) (fun h_101 => ?_) (fun h_101 => ?_)
          · replace h := (if_pos h_101).symm.trans h
            exact Zw.to2 (J_118 _ _ _ _ _ _ _ _ h) rfl rfl rfl
          · replace h := (if_neg h_101).symm.trans h
            refine a_lload X dL_orders_104 rfl ?_
            refine a_aload_n X dL_orders_106 rfl ?_
            refine a_iload X dL_orders_107 rfl ?_
            refine a_iconst (v := 3) X dL_orders_109 (by decide) ?_
            obtain ⟨e_110, f_110, h⟩ := zBx h
            refine a_callVv X dL_orders_110 miX7_applicant lm8_109 (t_X7_applicant (by first | exact hQ | assumption) f_110) (by first | exact q_o | assumption) rfl rfl rfl (Nat.le_of_ble_eq_true rfl) ⟨by decide, by decide, by decide, by decide⟩ ?_
            refine a_i2l X dL_orders_113 ?_
            refine a_lcmp X dL_orders_114 ?_
            refine a_if_lt (tgt := 151) X dL_orders_115 (by decide) (fun h_115 => ?_) (fun h_115 => ?_)
            · replace h := (if_pos h_115).symm.trans h
              refine a_aload_n X dL_orders_151 rfl ?_
              refine a_getr X lf8_13 (by first | exact p_o | assumption) rfl (by omega) dL_orders_152 ?_
              refine a_iload X dL_orders_155 rfl ?_
              refine a_iload X dL_orders_157 rfl ?_
              obtain ⟨g_159, h⟩ := zIx h
              obtain ⟨M_159, f_159, h⟩ := zLtx h
              refine d_iastore X (by first | exact p_ord | assumption) g_159 dL_orders_159 f_159 ?_
              refine a_iload X dL_orders_160 rfl ?_
              refine a_iconst (v := 1) X dL_orders_162 (by decide) ?_
              refine a_iload X dL_orders_163 rfl ?_
              refine a_ishl X dL_orders_165 ?_
              refine a_ior X dL_orders_166 ?_
              refine a_istore X dL_orders_167 (by decide) ?_
              refine a_iinc (v := x6_93 + 1) X dL_orders_169 (by decide) rfl zi_1 ?_
              refine a_goto (tgt := 9) X dL_orders_172 (by decide) ?_
              exact Zw.to2 (ih_9 _ _ _ _ _ _ _ _ _ h) rfl rfl rfl
            · replace h := (if_neg h_115).symm.trans h
              exact Zw.to2 (J_118 _ _ _ _ _ _ _ _ h) rfl rfl rfl
      have H_93 : ∀ (x2_93 : Int32) (x3_93 : Int64) (x5_93 : Int32) (x6_93 : Int32) (x7_93 : Int32) (x8_93 : Int64) (x10_93 : Int32) (M_93 : zMt), D_L_orders_93 P Q (D_L_orders_9 P Q u_9) zFu x3_93 x5_93 x6_93 x8_93 x10_93 M_93 = some r → Zw p l e { frames := 2, cells := 0, slots := 0, locals := 36 * (2) } s m args below meth c G b 11 (MQ below (zQ G b FQ) args s 0 0 (fun q : Nat => b ≤ q)) 0 0 93 [some (.ref (P)), some (.ref (Q)), some (.int x2_93), some (.long x3_93), none, some (.int x5_93), some (.int x6_93), some (.int x7_93), some (.long x8_93), none, some (.int x10_93)] [] (L, M_93, N) := L_93 zFu
      have L_24 : ∀ u : Nat, ∀ (x2_24 : Int32) (x3_24 : Int64) (x5_24 : Int32) (x6_24 : Int32) (x7_24 : Int32) (x8_24 : Int32) (x9_24 : Option Value) (x10_24 : Option Value) (M_24 : zMt), D_L_orders_24 P Q (D_L_orders_9 P Q u_9) u x3_24 x5_24 x6_24 x7_24 x8_24 M_24 = some r → Zw p l e { frames := 2, cells := 0, slots := 0, locals := 36 * (2) } s m args below meth c G b 11 (MQ below (zQ G b FQ) args s 0 0 (fun q : Nat => b ≤ q)) 0 0 24 [some (.ref (P)), some (.ref (Q)), some (.int x2_24), some (.long x3_24), none, some (.int x5_24), some (.int x6_24), some (.int x7_24), some (.int x8_24), x9_24, x10_24] [] (L, M_24, N) := by
        intro u
        induction u with
        | zero => intro x2_24 x3_24 x5_24 x6_24 x7_24 x8_24 x9_24 x10_24 M_24 h; cases (show none = some r from h)
        | succ u_24 ih_24 =>
          have J_56 : ∀ (x2_56 : Int32) (x3_56 : Int64) (x5_56 : Int32) (x6_56 : Int32) (x7_56 : Int32) (x8_56 : Int32) (x9_56 : Option Value) (x10_56 : Option Value) (y0_56 : Int32) (y1_56 : Int32) (M_56 : zMt), D_L_orders_56 P Q (D_L_orders_9 P Q u_9) (D_L_orders_24 P Q (D_L_orders_9 P Q u_9) u_24) x3_56 x5_56 x6_56 x8_56 y0_56 y1_56 M_56 = some r → Zw p l e { frames := 2, cells := 0, slots := 0, locals := 36 * (2) } s m args below meth c G b 11 (MQ below (zQ G b FQ) args s 0 0 (fun q : Nat => b ≤ q)) 0 0 56 [some (.ref (P)), some (.ref (Q)), some (.int x2_56), some (.long x3_56), none, some (.int x5_56), some (.int x6_56), some (.int x7_56), some (.int x8_56), x9_56, x10_56] [.int y1_56, .int y0_56] (L, M_56, N) := by
            intro x2_56 x3_56 x5_56 x6_56 x7_56 x8_56 x9_56 x10_56 y0_56 y1_56 M_56 h
            unfold D_L_orders_56 at h
            refine a_iadd X dL_orders_56 ?_
            refine a_istore X dL_orders_57 (by decide) ?_
            refine a_iinc (v := x8_56 + 1) X dL_orders_59 (by decide) rfl zi_1 ?_
            refine a_goto (tgt := 24) X dL_orders_62 (by decide) ?_
            exact Zw.to2 (ih_24 _ _ _ _ _ _ _ _ _ h) rfl rfl rfl
          intro x2_24 x3_24 x5_24 x6_24 x7_24 x8_24 x9_24 x10_24 M_24 h
          rw [D_L_orders_24] at h
          refine a_iload X dL_orders_24 rfl ?_
          refine a_aload_n X dL_orders_26 rfl ?_
          refine a_geti X lf8_106 (by first | exact p_o | assumption) rfl dL_orders_27 ?_
          refine a_icmp_ge (tgt := 65) X dL_orders_30 (by decide) (fun h_30 => ?_) (fun h_30 => ?_)
          · replace h := (if_pos h_30).symm.trans h
            refine a_ldc2 X dL_orders_65 lk8_112 ?_
            refine a_lload_n X dL_orders_68 rfl ?_
            refine a_lmul X dL_orders_69 ?_
            refine a_ldc2 X dL_orders_70 lk8_114 ?_
            refine a_ladd X dL_orders_73 ?_
            refine a_ldc2 X dL_orders_74 lk8_116 ?_
            refine a_lrem X dL_orders_77 (by decide) ?_
            refine a_lstore_n X dL_orders_78 (by decide) ?_
            refine a_lload_n X dL_orders_79 rfl ?_
            refine a_ldc2 X dL_orders_80 lk8_118 ?_
            refine a_ldiv X dL_orders_83 (by decide) ?_
            refine a_iload X dL_orders_84 rfl ?_
            refine a_i2l X dL_orders_86 ?_
            obtain ⟨z_87, h⟩ := zZlx h
            refine a_lrem X dL_orders_87 (z_87) ?_
            refine a_lstore X dL_orders_88 (by decide) ?_
            refine a_iconst (v := 0) X dL_orders_90 (by decide) ?_
            refine a_istore X dL_orders_91 (by decide) ?_
            exact Zw.to2 (H_93 _ _ _ _ _ _ _ _ h) rfl rfl rfl
          · replace h := (if_neg h_30).symm.trans h
            refine a_iload X dL_orders_33 rfl ?_
            refine a_iload X dL_orders_35 rfl ?_
            refine a_iload X dL_orders_37 rfl ?_
            refine a_ishr X dL_orders_39 ?_
            refine a_iconst (v := 1) X dL_orders_40 (by decide) ?_
            refine a_iand X dL_orders_41 ?_
            refine a_if_ne (tgt := 55) X dL_orders_42 (by decide) (fun h_42 => ?_) (fun h_42 => ?_)
            · replace h := (if_neg h_42).symm.trans h
              refine a_iconst (v := 0) X dL_orders_55 (by decide) ?_
              exact Zw.to2 (J_56 _ _ _ _ _ _ _ _ _ _ _ h) rfl rfl rfl
            · replace h := (if_pos h_42).symm.trans h
              refine a_aload_n X dL_orders_45 rfl ?_
              refine a_iload X dL_orders_46 rfl ?_
              refine a_iconst (v := 3) X dL_orders_48 (by decide) ?_
              obtain ⟨e_49, f_49, h⟩ := zBx h
              refine a_callVv X dL_orders_49 miX7_applicant lm8_109 (t_X7_applicant (by first | exact hQ | assumption) f_49) (by first | exact q_o | assumption) rfl rfl rfl (Nat.le_of_ble_eq_true rfl) ⟨by decide, by decide, by decide, by decide⟩ ?_
              refine a_goto (tgt := 56) X dL_orders_52 (by decide) ?_
              exact Zw.to2 (J_56 _ _ _ _ _ _ _ _ _ _ _ h) rfl rfl rfl
      have H_24 : ∀ (x2_24 : Int32) (x3_24 : Int64) (x5_24 : Int32) (x6_24 : Int32) (x7_24 : Int32) (x8_24 : Int32) (x9_24 : Option Value) (x10_24 : Option Value) (M_24 : zMt), D_L_orders_24 P Q (D_L_orders_9 P Q u_9) zFu x3_24 x5_24 x6_24 x7_24 x8_24 M_24 = some r → Zw p l e { frames := 2, cells := 0, slots := 0, locals := 36 * (2) } s m args below meth c G b 11 (MQ below (zQ G b FQ) args s 0 0 (fun q : Nat => b ≤ q)) 0 0 24 [some (.ref (P)), some (.ref (Q)), some (.int x2_24), some (.long x3_24), none, some (.int x5_24), some (.int x6_24), some (.int x7_24), some (.int x8_24), x9_24, x10_24] [] (L, M_24, N) := L_24 zFu
      intro x2_9 x3_9 x5_9 x6_9 x7_9 x8_9 x9_9 x10_9 M_9 h
      rw [D_L_orders_9] at h
      refine a_iload X dL_orders_9 rfl ?_
      refine a_aload_n X dL_orders_11 rfl ?_
      refine a_geti X lf8_106 (by first | exact p_o | assumption) rfl dL_orders_12 ?_
      refine a_icmp_ge (tgt := 175) X dL_orders_15 (by decide) (fun h_15 => ?_) (fun h_15 => ?_)
      · replace h := (if_pos h_15).symm.trans h
        refine a_vret X hr dL_orders_175 ⟨by decide, by decide⟩ ?_
        subst hF
        rw [← Option.some.inj h]
        exact ⟨rfl, rfl⟩
      · replace h := (if_neg h_15).symm.trans h
        refine a_iconst (v := 0) X dL_orders_18 (by decide) ?_
        refine a_istore X dL_orders_19 (by decide) ?_
        refine a_iconst (v := 0) X dL_orders_21 (by decide) ?_
        refine a_istore X dL_orders_22 (by decide) ?_
        exact Zw.to2 (H_24 _ _ _ _ _ _ _ _ _ h) rfl rfl rfl
  have H_9 : ∀ (x2_9 : Int32) (x3_9 : Int64) (x5_9 : Int32) (x6_9 : Int32) (x7_9 : Option Value) (x8_9 : Option Value) (x9_9 : Option Value) (x10_9 : Option Value) (M_9 : zMt), D_L_orders_9 P Q zFu x3_9 x5_9 x6_9 M_9 = some r → Zw p l e { frames := 2, cells := 0, slots := 0, locals := 36 * (2) } s m args below meth c G b 11 (MQ below (zQ G b FQ) args s 0 0 (fun q : Nat => b ≤ q)) 0 0 9 [some (.ref (P)), some (.ref (Q)), some (.int x2_9), some (.long x3_9), none, some (.int x5_9), some (.int x6_9), x7_9, x8_9, x9_9, x10_9] [] (L, M_9, N) := L_9 zFu
  unfold D_L_orders at h
  refine a_iload_n X dL_orders_0 rfl ?_
  refine a_i2l X dL_orders_1 ?_
  refine a_lstore_n X dL_orders_2 (by decide) ?_
  refine a_iconst (v := 0) X dL_orders_3 (by decide) ?_
  refine a_istore X dL_orders_4 (by decide) ?_
  refine a_iconst (v := 0) X dL_orders_6 (by decide) ?_
  refine a_istore X dL_orders_7 (by decide) ?_
  exact Zw.to2 (H_9 _ _ _ _ _ _ _ _ _ h) rfl rfl rfl
noncomputable def D_L_results_444 (P : Nat) (Q : Nat) (A : Nat) (nA : Nat) (B : Nat) (nB : Nat) (k309 : Int32 → zMt → Option (zMt)) (x4_444 : Int32) (M_444 : zMt) : Option (zMt) :=
  k309 (x4_444 + 1) M_444
noncomputable def D_L_results_438 (P : Nat) (Q : Nat) (A : Nat) (nA : Nat) (B : Nat) (nB : Nat) (k309 : Int32 → zMt → Option (zMt)) (k330 : Int32 → Int32 → Int32 → zMt → Option (zMt)) (x4_438 : Int32) (x5_438 : Int32) (x6_438 : Int32) (M_438 : zMt) : Option (zMt) :=
  k330 x4_438 x5_438 (x6_438 + 1) M_438
noncomputable def D_L_results_330 (P : Nat) (Q : Nat) (A : Nat) (nA : Nat) (B : Nat) (nB : Nat) (k309 : Int32 → zMt → Option (zMt)) : Nat → Int32 → Int32 → Int32 → zMt → Option (zMt)
  | 0, _, _, _, _ => none
  | n + 1, x4_330, x5_330, x6_330, M_330 =>
    zB (D_X7_applicant Q x5_330 (4 : Int32) M_330) fun e_336 =>
    if e_336.1 ≤ x6_330 then
      D_L_results_444 P Q A nA B nB k309 x4_330 e_336.2
    else
      zI x5_330 8 <|
      if 0 ≤ (e_336.2 (P + 3) x5_330.toNatClampNeg) then
        D_L_results_444 P Q A nA B nB k309 x4_330 e_336.2
      else
        zB (D_X7_choice Q x5_330 x6_330 e_336.2) fun e_357 =>
        zB (D_X7_applicant Q x5_330 (0 : Int32) e_357.2) fun e_366 =>
        zI e_357.1 nA <|
        if (e_366.2 A e_357.1.toNatClampNeg) < e_366.1 then
          D_L_results_438 P Q A nA B nB k309 (D_L_results_330 P Q A nA B nB k309 n) x4_330 x5_330 x6_330 e_366.2
        else
          zB (D_X7_applicant Q x5_330 (1 : Int32) e_366.2) fun e_380 =>
          zI e_357.1 nB <|
          if e_380.1 ≤ (e_380.2 B e_357.1.toNatClampNeg) then
            zI e_357.1 nA <|
            zB (D_X7_applicant Q x5_330 (0 : Int32) e_380.2) fun e_402 =>
            zI e_357.1 nA <|
            zLt (zu e_402.2 A e_357.1.toNatClampNeg ((e_380.2 A e_357.1.toNatClampNeg) - e_402.1)) fun M_406 =>
            zI e_357.1 nB <|
            zB (D_X7_applicant Q x5_330 (1 : Int32) M_406) fun e_416 =>
            zI e_357.1 nB <|
            zLt (zu e_416.2 B e_357.1.toNatClampNeg ((M_406 B e_357.1.toNatClampNeg) - e_416.1)) fun M_420 =>
            zI x5_330 8 <|
            zLt (zu M_420 (P + 3) x5_330.toNatClampNeg e_357.1) fun M_429 =>
            zI x5_330 8 <|
            zLt (zu M_429 (P + 4) x5_330.toNatClampNeg (2 : Int32)) fun M_437 =>
            D_L_results_438 P Q A nA B nB k309 (D_L_results_330 P Q A nA B nB k309 n) x4_330 x5_330 x6_330 M_437
          else
            D_L_results_438 P Q A nA B nB k309 (D_L_results_330 P Q A nA B nB k309 n) x4_330 x5_330 x6_330 e_380.2
noncomputable def D_L_results_309 (P : Nat) (Q : Nat) (A : Nat) (nA : Nat) (B : Nat) (nB : Nat) : Nat → Int32 → zMt → Option (zMt)
  | 0, _, _ => none
  | n + 1, x4_309, M_309 =>
    if (M_309 P 2) ≤ x4_309 then
      some (M_309)
    else
      zI x4_309 8 <|
      D_L_results_330 P Q A nA B nB (D_L_results_309 P Q A nA B nB n) zFu x4_309 (M_309 (P + 2) x4_309.toNatClampNeg) (0 : Int32) M_309
noncomputable def D_L_results_278 (P : Nat) (Q : Nat) (A : Nat) (nA : Nat) (B : Nat) (nB : Nat) (k51 : Int32 → zMt → Option (zMt)) (x4_278 : Int32) (M_278 : zMt) : Option (zMt) :=
  zI x4_278 nA <|
  zB (D_X7_unit Q x4_278 (0 : Int32) M_278) fun e_287 =>
  zB (D_X7_unit Q x4_278 (1 : Int32) e_287.2) fun e_294 =>
  zI x4_278 nA <|
  zLt (zu e_294.2 A x4_278.toNatClampNeg ((M_278 A x4_278.toNatClampNeg) + (e_287.1 - e_294.1))) fun M_299 =>
  k51 (x4_278 + 1) M_299
noncomputable def D_L_results_272 (P : Nat) (Q : Nat) (A : Nat) (nA : Nat) (B : Nat) (nB : Nat) (k51 : Int32 → zMt → Option (zMt)) (k88 : Int32 → Int32 → Int32 → zMt → Option (zMt)) (x4_272 : Int32) (x5_272 : Int32) (x6_272 : Int32) (M_272 : zMt) : Option (zMt) :=
  k88 x4_272 x5_272 (x6_272 + 1) M_272
noncomputable def D_L_results_173 (P : Nat) (Q : Nat) (A : Nat) (nA : Nat) (B : Nat) (nB : Nat) (k51 : Int32 → zMt → Option (zMt)) (k88 : Int32 → Int32 → Int32 → zMt → Option (zMt)) (k103 : Int32 → Int32 → Int32 → Int32 → Int32 → zMt → Option (zMt)) (x4_173 : Int32) (x5_173 : Int32) (x6_173 : Int32) (x7_173 : Int32) (x8_173 : Int32) (M_173 : zMt) : Option (zMt) :=
  k103 x4_173 x5_173 x6_173 x7_173 (x8_173 + 1) M_173
noncomputable def D_L_results_169 (P : Nat) (Q : Nat) (A : Nat) (nA : Nat) (B : Nat) (nB : Nat) (k51 : Int32 → zMt → Option (zMt)) (k88 : Int32 → Int32 → Int32 → zMt → Option (zMt)) (k103 : Int32 → Int32 → Int32 → Int32 → Int32 → zMt → Option (zMt)) (x4_169 : Int32) (x5_169 : Int32) (x6_169 : Int32) (x8_169 : Int32) (x9_169 : Int32) (M_169 : zMt) : Option (zMt) :=
  D_L_results_173 P Q A nA B nB k51 k88 k103 x4_169 x5_169 x6_169 x9_169 x8_169 M_169
noncomputable def D_L_results_103 (P : Nat) (Q : Nat) (A : Nat) (nA : Nat) (B : Nat) (nB : Nat) (k51 : Int32 → zMt → Option (zMt)) (k88 : Int32 → Int32 → Int32 → zMt → Option (zMt)) : Nat → Int32 → Int32 → Int32 → Int32 → Int32 → zMt → Option (zMt)
  | 0, _, _, _, _, _, _ => none
  | n + 1, x4_103, x5_103, x6_103, x7_103, x8_103, M_103 =>
    if (M_103 P 2) ≤ x8_103 then
      if 0 ≤ x7_103 then
        zB (D_X7_applicant Q x7_103 (0 : Int32) M_103) fun e_200 =>
        zI x4_103 nA <|
        if (e_200.2 A x4_103.toNatClampNeg) < e_200.1 then
          D_L_results_272 P Q A nA B nB k51 k88 x4_103 (x5_103 ||| ((1 : Int32) <<< (x7_103 &&& 31))) x6_103 e_200.2
        else
          zB (D_X7_applicant Q x7_103 (1 : Int32) e_200.2) fun e_214 =>
          zI x4_103 nB <|
          if e_214.1 ≤ (e_214.2 B x4_103.toNatClampNeg) then
            zI x4_103 nA <|
            zB (D_X7_applicant Q x7_103 (0 : Int32) e_214.2) fun e_236 =>
            zI x4_103 nA <|
            zLt (zu e_236.2 A x4_103.toNatClampNeg ((e_214.2 A x4_103.toNatClampNeg) - e_236.1)) fun M_240 =>
            zI x4_103 nB <|
            zB (D_X7_applicant Q x7_103 (1 : Int32) M_240) fun e_250 =>
            zI x4_103 nB <|
            zLt (zu e_250.2 B x4_103.toNatClampNeg ((M_240 B x4_103.toNatClampNeg) - e_250.1)) fun M_254 =>
            zI x7_103 8 <|
            zLt (zu M_254 (P + 3) x7_103.toNatClampNeg x4_103) fun M_263 =>
            zI x7_103 8 <|
            zLt (zu M_263 (P + 4) x7_103.toNatClampNeg (1 : Int32)) fun M_271 =>
            D_L_results_272 P Q A nA B nB k51 k88 x4_103 (x5_103 ||| ((1 : Int32) <<< (x7_103 &&& 31))) x6_103 M_271
          else
            D_L_results_272 P Q A nA B nB k51 k88 x4_103 (x5_103 ||| ((1 : Int32) <<< (x7_103 &&& 31))) x6_103 e_214.2
      else
        D_L_results_278 P Q A nA B nB k51 x4_103 M_103
    else
      zI x8_103 8 <|
      if ((x5_103 >>> ((M_103 (P + 2) x8_103.toNatClampNeg) &&& 31)) &&& (1 : Int32)) = (1 : Int32) then
        D_L_results_173 P Q A nA B nB k51 k88 (D_L_results_103 P Q A nA B nB k51 k88 n) x4_103 x5_103 x6_103 x7_103 x8_103 M_103
      else
        zB (D_X7_choice Q (M_103 (P + 2) x8_103.toNatClampNeg) (0 : Int32) M_103) fun e_136 =>
        if e_136.1 = x4_103 then
          if x7_103 < 0 then
            D_L_results_169 P Q A nA B nB k51 k88 (D_L_results_103 P Q A nA B nB k51 k88 n) x4_103 x5_103 x6_103 x8_103 (M_103 (P + 2) x8_103.toNatClampNeg) e_136.2
          else
            zB (D_X7_applicant Q (M_103 (P + 2) x8_103.toNatClampNeg) (2 : Int32) e_136.2) fun e_156 =>
            zB (D_X7_applicant Q x7_103 (2 : Int32) e_156.2) fun e_163 =>
            if e_156.1 ≤ e_163.1 then
              D_L_results_173 P Q A nA B nB k51 k88 (D_L_results_103 P Q A nA B nB k51 k88 n) x4_103 x5_103 x6_103 x7_103 x8_103 e_163.2
            else
              D_L_results_169 P Q A nA B nB k51 k88 (D_L_results_103 P Q A nA B nB k51 k88 n) x4_103 x5_103 x6_103 x8_103 (M_103 (P + 2) x8_103.toNatClampNeg) e_163.2
        else
          D_L_results_173 P Q A nA B nB k51 k88 (D_L_results_103 P Q A nA B nB k51 k88 n) x4_103 x5_103 x6_103 x7_103 x8_103 e_136.2
noncomputable def D_L_results_88 (P : Nat) (Q : Nat) (A : Nat) (nA : Nat) (B : Nat) (nB : Nat) (k51 : Int32 → zMt → Option (zMt)) : Nat → Int32 → Int32 → Int32 → zMt → Option (zMt)
  | 0, _, _, _, _ => none
  | n + 1, x4_88, x5_88, x6_88, M_88 =>
    if (M_88 P 2) ≤ x6_88 then
      D_L_results_278 P Q A nA B nB k51 x4_88 M_88
    else
      D_L_results_103 P Q A nA B nB k51 (D_L_results_88 P Q A nA B nB k51 n) zFu x4_88 x5_88 x6_88 (-1 : Int32) (0 : Int32) M_88
noncomputable def D_L_results_51 (P : Nat) (Q : Nat) (A : Nat) (nA : Nat) (B : Nat) (nB : Nat) : Nat → Int32 → zMt → Option (zMt)
  | 0, _, _ => none
  | n + 1, x4_51, M_51 =>
    if (M_51 P 3) ≤ x4_51 then
      D_L_results_309 P Q A nA B nB zFu (0 : Int32) M_51
    else
      zB (D_X7_unit Q x4_51 (1 : Int32) M_51) fun e_67 =>
      zI x4_51 nA <|
      zLt (zu e_67.2 A x4_51.toNatClampNeg e_67.1) fun M_70 =>
      zB (D_X7_unit Q x4_51 (2 : Int32) M_70) fun e_78 =>
      zI x4_51 nB <|
      zLt (zu e_78.2 B x4_51.toNatClampNeg e_78.1) fun M_81 =>
      D_L_results_88 P Q A nA B nB (D_L_results_51 P Q A nA B nB n) zFu x4_51 (0 : Int32) (0 : Int32) M_81
noncomputable def D_L_results_17 (P : Nat) (Q : Nat) (A : Nat) (nA : Nat) (B : Nat) (nB : Nat) : Nat → Int32 → zMt → Option (zMt)
  | 0, _, _ => none
  | n + 1, x4_17, M_17 =>
    if (M_17 P 2) ≤ x4_17 then
      D_L_results_51 P Q A nA B nB zFu (0 : Int32) M_17
    else
      zI x4_17 8 <|
      zLt (zu M_17 (P + 3) x4_17.toNatClampNeg (-1 : Int32)) fun M_33 =>
      zI x4_17 8 <|
      zLt (zu M_33 (P + 4) x4_17.toNatClampNeg (0 : Int32)) fun M_41 =>
      (D_L_results_17 P Q A nA B nB n) (x4_17 + 1) M_41
noncomputable def D_L_results (P : Nat) (Q : Nat) (A : Nat) (nA : Nat) (B : Nat) (nB : Nat) (M : zMt) : Option (zMt) :=
  D_L_results_17 P Q A nA B nB zFu (0 : Int32) M
set_option maxRecDepth 100000 in
set_option maxHeartbeats 4000000 in
theorem s_L_results {l : Launch} {G : zG} {b : Nat} {L : List zC} {M : zMt} {N : zNt} {P : Nat} {Q : Nat} {A : Nat} {nA : Nat} {B : Nat} {nB : Nat}  (hP : LX8 L P) (hQ : LX7 L Q) (hA : L[A]? = some (1, nA, [])) (lA : nA < 2 ^ 31) (hB : L[B]? = some (1, nB, [])) (lB : nB < 2 ^ 31) {p : Program} {e : Env} {s : State} {m : MethodId} {args : Array Value} {below : List Frame} {meth : Method} {c : Code} (X : zOK p s m args meth c G b yL_results.cls cL_results 10) (hr : meth.sig.returnType = none) {r : zMt} {FQ : Option Value → zS → Prop} (hF : ((fun r2 z => r2 = none ∧ z = (L, r, N)) : Option Value → zS → Prop) = FQ) (h : D_L_results P Q A nA B nB M = some r) : Zw p l e { frames := 5, cells := 2, slots := 10, locals := 36 * (5) } s m args below meth c G b 10 (MQ below (zQ G b FQ) args s 2 10 (fun q : Nat => b ≤ q)) 2 10 14 [some (.ref P), some (.ref Q), some (.ref A), some (.ref B), none, none, none, none, none, none] [] (L, M, N) := by
  have p_lt := hP.1
  obtain ⟨_, p_o⟩ := hP.2.1
  have p_ord := hP.2.2.1
  have p_got := hP.2.2.2.1
  have p_round := hP.2.2.2.2
  have q_lt := hQ.1
  have q_o := hQ.2.1
  have L_309 : ∀ u : Nat, ∀ (x4_309 : Int32) (x5_309 : Option Value) (x6_309 : Option Value) (x7_309 : Option Value) (x8_309 : Option Value) (x9_309 : Option Value) (M_309 : zMt), D_L_results_309 P Q A nA B nB u x4_309 M_309 = some r → Zw p l e { frames := 5, cells := 2, slots := 10, locals := 36 * (5) } s m args below meth c G b 10 (MQ below (zQ G b FQ) args s 2 10 (fun q : Nat => b ≤ q)) 2 10 309 [some (.ref (P)), some (.ref (Q)), some (.ref (A)), some (.ref (B)), some (.int x4_309), x5_309, x6_309, x7_309, x8_309, x9_309] [] (L, M_309, N) := by
    intro u
    induction u with
    | zero => intro x4_309 x5_309 x6_309 x7_309 x8_309 x9_309 M_309 h; cases (show none = some r from h)
    | succ u_309 ih_309 =>
      have J_444 : ∀ (x4_444 : Int32) (x5_444 : Int32) (x6_444 : Int32) (x7_444 : Option Value) (x8_444 : Option Value) (x9_444 : Option Value) (M_444 : zMt), D_L_results_444 P Q A nA B nB (D_L_results_309 P Q A nA B nB u_309) x4_444 M_444 = some r → Zw p l e { frames := 5, cells := 2, slots := 10, locals := 36 * (5) } s m args below meth c G b 10 (MQ below (zQ G b FQ) args s 2 10 (fun q : Nat => b ≤ q)) 2 10 444 [some (.ref (P)), some (.ref (Q)), some (.ref (A)), some (.ref (B)), some (.int x4_444), some (.int x5_444), some (.int x6_444), x7_444, x8_444, x9_444] [] (L, M_444, N) := by
        intro x4_444 x5_444 x6_444 x7_444 x8_444 x9_444 M_444 h
        unfold D_L_results_444 at h
        refine a_iinc (v := x4_444 + 1) X dL_results_444 (by decide) rfl zi_1 ?_
        refine a_goto (tgt := 309) X dL_results_447 (by decide) ?_
        exact Zw.to2 (ih_309 _ _ _ _ _ _ _ h) rfl rfl rfl
      have L_330 : ∀ u : Nat, ∀ (x4_330 : Int32) (x5_330 : Int32) (x6_330 : Int32) (x7_330 : Option Value) (x8_330 : Option Value) (x9_330 : Option Value) (M_330 : zMt), D_L_results_330 P Q A nA B nB (D_L_results_309 P Q A nA B nB u_309) u x4_330 x5_330 x6_330 M_330 = some r → Zw p l e { frames := 5, cells := 2, slots := 10, locals := 36 * (5) } s m args below meth c G b 10 (MQ below (zQ G b FQ) args s 2 10 (fun q : Nat => b ≤ q)) 2 10 330 [some (.ref (P)), some (.ref (Q)), some (.ref (A)), some (.ref (B)), some (.int x4_330), some (.int x5_330), some (.int x6_330), x7_330, x8_330, x9_330] [] (L, M_330, N) := by
        intro u
        induction u with
        | zero => intro x4_330 x5_330 x6_330 x7_330 x8_330 x9_330 M_330 h; cases (show none = some r from h)
        | succ u_330 ih_330 =>
          have J_438 : ∀ (x4_438 : Int32) (x5_438 : Int32) (x6_438 : Int32) (x7_438 : Int32) (x8_438 : Option Value) (x9_438 : Option Value) (M_438 : zMt), D_L_results_438 P Q A nA B nB (D_L_results_309 P Q A nA B nB u_309) (D_L_results_330 P Q A nA B nB (D_L_results_309 P Q A nA B nB u_309) u_330) x4_438 x5_438 x6_438 M_438 = some r → Zw p l e { frames := 5, cells := 2, slots := 10, locals := 36 * (5) } s m args below meth c G b 10 (MQ below (zQ G b FQ) args s 2 10 (fun q : Nat => b ≤ q)) 2 10 438 [some (.ref (P)), some (.ref (Q)), some (.ref (A)), some (.ref (B)), some (.int x4_438), some (.int x5_438), some (.int x6_438), some (.int x7_438), x8_438, x9_438] [] (L, M_438, N) := by
            intro x4_438 x5_438 x6_438 x7_438 x8_438 x9_438 M_438 h
            unfold D_L_results_438 at h
            refine a_iinc (v := x6_438 + 1) X dL_results_438 (by decide) rfl zi_1 ?_
            refine a_goto (tgt := 330) X dL_results_441 (by decide) ?_
            exact Zw.to2 (ih_330 _ _ _ _ _ _ _ h) rfl rfl rfl
          intro x4_330 x5_330 x6_330 x7_330 x8_330 x9_330 M_330 h
          rw [D_L_results_330] at h
          refine a_iload X dL_results_330 rfl ?_
          refine a_aload_n X dL_results_332 rfl ?_
          refine a_iload X dL_results_333 rfl ?_
          refine a_iconst (v := 4) X dL_results_335 (by decide) ?_
          obtain ⟨e_336, f_336, h⟩ := zBx h
          refine a_callVv X dL_results_336 miX7_applicant lm8_109 (t_X7_applicant (by first | exact hQ | assumption) f_336) (by first | exact q_o | assumption) rfl rfl rfl (Nat.le_of_ble_eq_true rfl) ⟨by decide, by decide, by decide, by decide⟩ ?_
          refine a_icmp_ge (tgt := 444) X dL_results_339 (by decide) (fun h_339 => ?_) (fun h_339 => ?_)
          · replace h := (if_pos h_339).symm.trans h
            exact Zw.to2 (J_444 _ _ _ _ _ _ _ h) rfl rfl rfl
          · replace h := (if_neg h_339).symm.trans h
            refine a_aload_n X dL_results_342 rfl ?_
            refine a_getr X lf8_16 (by first | exact p_o | assumption) rfl (by omega) dL_results_343 ?_
            refine a_iload X dL_results_346 rfl ?_
            obtain ⟨g_348, h⟩ := zIx h
            refine a_iaload X (by first | exact p_got | assumption) g_348 dL_results_348 ?_
            refine a_if_ge (tgt := 444) X dL_results_349 (by decide) (fun h_349 => ?_) (fun h_349 => ?_)
            · replace h := (if_pos h_349).symm.trans h
              exact Zw.to2 (J_444 _ _ _ _ _ _ _ h) rfl rfl rfl
            · replace h := (if_neg h_349).symm.trans h
              refine a_aload_n X dL_results_352 rfl ?_
              refine a_iload X dL_results_353 rfl ?_
              refine a_iload X dL_results_355 rfl ?_
              obtain ⟨e_357, f_357, h⟩ := zBx h
              refine a_callVv X dL_results_357 miX7_choice lm8_126 (t_X7_choice (by first | exact hQ | assumption) f_357) (by first | exact q_o | assumption) rfl rfl rfl (Nat.le_of_ble_eq_true rfl) ⟨by decide, by decide, by decide, by decide⟩ ?_
              refine a_istore X dL_results_360 (by decide) ?_
              refine a_aload_n X dL_results_362 rfl ?_
              refine a_iload X dL_results_363 rfl ?_
              refine a_iconst (v := 0) X dL_results_365 (by decide) ?_
              obtain ⟨e_366, f_366, h⟩ := zBx h
              refine a_callVv X dL_results_366 miX7_applicant lm8_109 (t_X7_applicant (by first | exact hQ | assumption) f_366) (by first | exact q_o | assumption) rfl rfl rfl (Nat.le_of_ble_eq_true rfl) ⟨by decide, by decide, by decide, by decide⟩ ?_
              refine a_aload_n X dL_results_369 rfl ?_
              refine a_iload X dL_results_370 rfl ?_
              obtain ⟨g_372, h⟩ := zIx h
              refine a_iaload X (by first | exact hA | assumption) g_372 dL_results_372 ?_
              refine a_icmp_gt (tgt := 438) X dL_results_373 (by decide) (fun h_373 => ?_) (fun h_373 => ?_)
              · replace h := (if_pos h_373).symm.trans h
                exact Zw.to2 (J_438 _ _ _ _ _ _ _ h) rfl rfl rfl
              · replace h := (if_neg h_373).symm.trans h
                refine a_aload_n X dL_results_376 rfl ?_
                refine a_iload X dL_results_377 rfl ?_
                refine a_iconst (v := 1) X dL_results_379 (by decide) ?_
                obtain ⟨e_380, f_380, h⟩ := zBx h
                refine a_callVv X dL_results_380 miX7_applicant lm8_109 (t_X7_applicant (by first | exact hQ | assumption) f_380) (by first | exact q_o | assumption) rfl rfl rfl (Nat.le_of_ble_eq_true rfl) ⟨by decide, by decide, by decide, by decide⟩ ?_
                refine a_aload_n X dL_results_383 rfl ?_
                refine a_iload X dL_results_384 rfl ?_
                obtain ⟨g_386, h⟩ := zIx h
                refine a_iaload X (by first | exact hB | assumption) g_386 dL_results_386 ?_
                refine a_icmp_le (tgt := 393) X dL_results_387 (by decide) (fun h_387 => ?_) (fun h_387 => ?_)
                · replace h := (if_pos h_387).symm.trans h
                  refine a_aload_n X dL_results_393 rfl ?_
                  refine a_iload X dL_results_394 rfl ?_
                  refine a_dup2 X dL_results_396 rfl rfl ?_
                  obtain ⟨g_397, h⟩ := zIx h
                  refine a_iaload X (by first | exact hA | assumption) g_397 dL_results_397 ?_
                  refine a_aload_n X dL_results_398 rfl ?_
                  refine a_iload X dL_results_399 rfl ?_
                  refine a_iconst (v := 0) X dL_results_401 (by decide) ?_
                  obtain ⟨e_402, f_402, h⟩ := zBx h
                  refine a_callVv X dL_results_402 miX7_applicant lm8_109 (t_X7_applicant (by first | exact hQ | assumption) f_402) (by first | exact q_o | assumption) rfl rfl rfl (Nat.le_of_ble_eq_true rfl) ⟨by decide, by decide, by decide, by decide⟩ ?_
                  refine a_isub X dL_results_405 ?_
                  obtain ⟨g_406, h⟩ := zIx h
                  obtain ⟨M_406, f_406, h⟩ := zLtx h
                  refine d_iastore X (by first | exact hA | assumption) g_406 dL_results_406 f_406 ?_
                  refine a_aload_n X dL_results_407 rfl ?_
                  refine a_iload X dL_results_408 rfl ?_
                  refine a_dup2 X dL_results_410 rfl rfl ?_
                  obtain ⟨g_411, h⟩ := zIx h
                  refine a_iaload X (by first | exact hB | assumption) g_411 dL_results_411 ?_
                  refine a_aload_n X dL_results_412 rfl ?_
                  refine a_iload X dL_results_413 rfl ?_
                  refine a_iconst (v := 1) X dL_results_415 (by decide) ?_
                  obtain ⟨e_416, f_416, h⟩ := zBx h
                  refine a_callVv X dL_results_416 miX7_applicant lm8_109 (t_X7_applicant (by first | exact hQ | assumption) f_416) (by first | exact q_o | assumption) rfl rfl rfl (Nat.le_of_ble_eq_true rfl) ⟨by decide, by decide, by decide, by decide⟩ ?_
                  refine a_isub X dL_results_419 ?_
                  obtain ⟨g_420, h⟩ := zIx h
                  obtain ⟨M_420, f_420, h⟩ := zLtx h
                  refine d_iastore X (by first | exact hB | assumption) g_420 dL_results_420 f_420 ?_
                  refine a_aload_n X dL_results_421 rfl ?_
                  refine a_getr X lf8_16 (by first | exact p_o | assumption) rfl (by omega) dL_results_422 ?_
                  refine a_iload X dL_results_425 rfl ?_
                  refine a_iload X dL_results_427 rfl ?_
                  obtain ⟨g_429, h⟩ := zIx h
                  obtain ⟨M_429, f_429, h⟩ := zLtx h
                  refine d_iastore X (by first | exact p_got | assumption) g_429 dL_results_429 f_429 ?_
                  refine a_aload_n X dL_results_430 rfl ?_
                  refine a_getr X lf8_19 (by first | exact p_o | assumption) rfl (by omega) dL_results_431 ?_
                  refine a_iload X dL_results_434 rfl ?_
                  refine a_iconst (v := 2) X dL_results_436 (by decide) ?_
                  obtain ⟨g_437, h⟩ := zIx h
                  obtain ⟨M_437, f_437, h⟩ := zLtx h
                  refine d_iastore X (by first | exact p_round | assumption) g_437 dL_results_437 f_437 ?_
                  exact Zw.to2 (J_438 _ _ _ _ _ _ _ h) rfl rfl rfl
                · replace h := (if_neg h_387).symm.trans h
                  refine a_goto (tgt := 438) X dL_results_390 (by decide) ?_
                  exact Zw.to2 (J_438 _ _ _ _ _ _ _ h) rfl rfl rfl
      have H_330 : ∀ (x4_330 : Int32) (x5_330 : Int32) (x6_330 : Int32) (x7_330 : Option Value) (x8_330 : Option Value) (x9_330 : Option Value) (M_330 : zMt), D_L_results_330 P Q A nA B nB (D_L_results_309 P Q A nA B nB u_309) zFu x4_330 x5_330 x6_330 M_330 = some r → Zw p l e { frames := 5, cells := 2, slots := 10, locals := 36 * (5) } s m args below meth c G b 10 (MQ below (zQ G b FQ) args s 2 10 (fun q : Nat => b ≤ q)) 2 10 330 [some (.ref (P)), some (.ref (Q)), some (.ref (A)), some (.ref (B)), some (.int x4_330), some (.int x5_330), some (.int x6_330), x7_330, x8_330, x9_330] [] (L, M_330, N) := L_330 zFu
      intro x4_309 x5_309 x6_309 x7_309 x8_309 x9_309 M_309 h
      rw [D_L_results_309] at h
      refine a_iload X dL_results_309 rfl ?_
      refine a_aload_n X dL_results_311 rfl ?_
      refine a_geti X lf8_106 (by first | exact p_o | assumption) rfl dL_results_312 ?_
      refine a_icmp_ge (tgt := 450) X dL_results_315 (by decide) (fun h_315 => ?_) (fun h_315 => ?_)
      · replace h := (if_pos h_315).symm.trans h
        refine a_vret X hr dL_results_450 ⟨by decide, by decide⟩ ?_
        subst hF
        rw [← Option.some.inj h]
        exact ⟨rfl, rfl⟩
      · replace h := (if_neg h_315).symm.trans h
        refine a_aload_n X dL_results_318 rfl ?_
        refine a_getr X lf8_13 (by first | exact p_o | assumption) rfl (by omega) dL_results_319 ?_
        refine a_iload X dL_results_322 rfl ?_
        obtain ⟨g_324, h⟩ := zIx h
        refine a_iaload X (by first | exact p_ord | assumption) g_324 dL_results_324 ?_
        refine a_istore X dL_results_325 (by decide) ?_
        refine a_iconst (v := 0) X dL_results_327 (by decide) ?_
        refine a_istore X dL_results_328 (by decide) ?_
        exact Zw.to2 (H_330 _ _ _ _ _ _ _ h) rfl rfl rfl
  have H_309 : ∀ (x4_309 : Int32) (x5_309 : Option Value) (x6_309 : Option Value) (x7_309 : Option Value) (x8_309 : Option Value) (x9_309 : Option Value) (M_309 : zMt), D_L_results_309 P Q A nA B nB zFu x4_309 M_309 = some r → Zw p l e { frames := 5, cells := 2, slots := 10, locals := 36 * (5) } s m args below meth c G b 10 (MQ below (zQ G b FQ) args s 2 10 (fun q : Nat => b ≤ q)) 2 10 309 [some (.ref (P)), some (.ref (Q)), some (.ref (A)), some (.ref (B)), some (.int x4_309), x5_309, x6_309, x7_309, x8_309, x9_309] [] (L, M_309, N) := L_309 zFu
  have L_51 : ∀ u : Nat, ∀ (x4_51 : Int32) (x5_51 : Option Value) (x6_51 : Option Value) (x7_51 : Option Value) (x8_51 : Option Value) (x9_51 : Option Value) (M_51 : zMt), D_L_results_51 P Q A nA B nB u x4_51 M_51 = some r → Zw p l e { frames := 5, cells := 2, slots := 10, locals := 36 * (5) } s m args below meth c G b 10 (MQ below (zQ G b FQ) args s 2 10 (fun q : Nat => b ≤ q)) 2 10 51 [some (.ref (P)), some (.ref (Q)), some (.ref (A)), some (.ref (B)), some (.int x4_51), x5_51, x6_51, x7_51, x8_51, x9_51] [] (L, M_51, N) := by
    intro u
    induction u with
    | zero => intro x4_51 x5_51 x6_51 x7_51 x8_51 x9_51 M_51 h; cases (show none = some r from h)
    | succ u_51 ih_51 =>
      have J_278 : ∀ (x4_278 : Int32) (x5_278 : Int32) (x6_278 : Int32) (x7_278 : Option Value) (x8_278 : Option Value) (x9_278 : Option Value) (M_278 : zMt), D_L_results_278 P Q A nA B nB (D_L_results_51 P Q A nA B nB u_51) x4_278 M_278 = some r → Zw p l e { frames := 5, cells := 2, slots := 10, locals := 36 * (5) } s m args below meth c G b 10 (MQ below (zQ G b FQ) args s 2 10 (fun q : Nat => b ≤ q)) 2 10 278 [some (.ref (P)), some (.ref (Q)), some (.ref (A)), some (.ref (B)), some (.int x4_278), some (.int x5_278), some (.int x6_278), x7_278, x8_278, x9_278] [] (L, M_278, N) := by
        intro x4_278 x5_278 x6_278 x7_278 x8_278 x9_278 M_278 h
        unfold D_L_results_278 at h
        refine a_aload_n X dL_results_278 rfl ?_
        refine a_iload X dL_results_279 rfl ?_
        refine a_dup2 X dL_results_281 rfl rfl ?_
        obtain ⟨g_282, h⟩ := zIx h
        refine a_iaload X (by first | exact hA | assumption) g_282 dL_results_282 ?_
        refine a_aload_n X dL_results_283 rfl ?_
        refine a_iload X dL_results_284 rfl ?_
        refine a_iconst (v := 0) X dL_results_286 (by decide) ?_
        obtain ⟨e_287, f_287, h⟩ := zBx h
        refine a_callVv X dL_results_287 miX7_unit lm8_123 (t_X7_unit (by first | exact hQ | assumption) f_287) (by first | exact q_o | assumption) rfl rfl rfl (Nat.le_of_ble_eq_true rfl) ⟨by decide, by decide, by decide, by decide⟩ ?_
        refine a_aload_n X dL_results_290 rfl ?_
        refine a_iload X dL_results_291 rfl ?_
        refine a_iconst (v := 1) X dL_results_293 (by decide) ?_
        obtain ⟨e_294, f_294, h⟩ := zBx h
        refine a_callVv X dL_results_294 miX7_unit lm8_123 (t_X7_unit (by first | exact hQ | assumption) f_294) (by first | exact q_o | assumption) rfl rfl rfl (Nat.le_of_ble_eq_true rfl) ⟨by decide, by decide, by decide, by decide⟩ ?_
        refine a_isub X dL_results_297 ?_
        refine a_iadd X dL_results_298 ?_
        obtain ⟨g_299, h⟩ := zIx h
        obtain ⟨M_299, f_299, h⟩ := zLtx h
        refine d_iastore X (by first | exact hA | assumption) g_299 dL_results_299 f_299 ?_
        refine a_iinc (v := x4_278 + 1) X dL_results_300 (by decide) rfl zi_1 ?_
        refine a_goto (tgt := 51) X dL_results_303 (by decide) ?_
        exact Zw.to2 (ih_51 _ _ _ _ _ _ _ h) rfl rfl rfl
      have L_88 : ∀ u : Nat, ∀ (x4_88 : Int32) (x5_88 : Int32) (x6_88 : Int32) (x7_88 : Option Value) (x8_88 : Option Value) (x9_88 : Option Value) (M_88 : zMt), D_L_results_88 P Q A nA B nB (D_L_results_51 P Q A nA B nB u_51) u x4_88 x5_88 x6_88 M_88 = some r → Zw p l e { frames := 5, cells := 2, slots := 10, locals := 36 * (5) } s m args below meth c G b 10 (MQ below (zQ G b FQ) args s 2 10 (fun q : Nat => b ≤ q)) 2 10 88 [some (.ref (P)), some (.ref (Q)), some (.ref (A)), some (.ref (B)), some (.int x4_88), some (.int x5_88), some (.int x6_88), x7_88, x8_88, x9_88] [] (L, M_88, N) := by
        intro u
        induction u with
        | zero => intro x4_88 x5_88 x6_88 x7_88 x8_88 x9_88 M_88 h; cases (show none = some r from h)
        | succ u_88 ih_88 =>
          have J_272 : ∀ (x4_272 : Int32) (x5_272 : Int32) (x6_272 : Int32) (x7_272 : Int32) (x8_272 : Int32) (x9_272 : Option Value) (M_272 : zMt), D_L_results_272 P Q A nA B nB (D_L_results_51 P Q A nA B nB u_51) (D_L_results_88 P Q A nA B nB (D_L_results_51 P Q A nA B nB u_51) u_88) x4_272 x5_272 x6_272 M_272 = some r → Zw p l e { frames := 5, cells := 2, slots := 10, locals := 36 * (5) } s m args below meth c G b 10 (MQ below (zQ G b FQ) args s 2 10 (fun q : Nat => b ≤ q)) 2 10 272 [some (.ref (P)), some (.ref (Q)), some (.ref (A)), some (.ref (B)), some (.int x4_272), some (.int x5_272), some (.int x6_272), some (.int x7_272), some (.int x8_272), x9_272] [] (L, M_272, N) := by
            intro x4_272 x5_272 x6_272 x7_272 x8_272 x9_272 M_272 h
            unfold D_L_results_272 at h
            refine a_iinc (v := x6_272 + 1) X dL_results_272 (by decide) rfl zi_1 ?_
            refine a_goto (tgt := 88) X dL_results_275 (by decide) ?_
            exact Zw.to2 (ih_88 _ _ _ _ _ _ _ h) rfl rfl rfl
          have L_103 : ∀ u : Nat, ∀ (x4_103 : Int32) (x5_103 : Int32) (x6_103 : Int32) (x7_103 : Int32) (x8_103 : Int32) (x9_103 : Option Value) (M_103 : zMt), D_L_results_103 P Q A nA B nB (D_L_results_51 P Q A nA B nB u_51) (D_L_results_88 P Q A nA B nB (D_L_results_51 P Q A nA B nB u_51) u_88) u x4_103 x5_103 x6_103 x7_103 x8_103 M_103 = some r → Zw p l e { frames := 5, cells := 2, slots := 10, locals := 36 * (5) } s m args below meth c G b 10 (MQ below (zQ G b FQ) args s 2 10 (fun q : Nat => b ≤ q)) 2 10 103 [some (.ref (P)), some (.ref (Q)), some (.ref (A)), some (.ref (B)), some (.int x4_103), some (.int x5_103), some (.int x6_103), some (.int x7_103), some (.int x8_103), x9_103] [] (L, M_103, N) := by
            intro u
            induction u with
            | zero => intro x4_103 x5_103 x6_103 x7_103 x8_103 x9_103 M_103 h; cases (show none = some r from h)
            | succ u_103 ih_103 =>
              have J_173 : ∀ (x4_173 : Int32) (x5_173 : Int32) (x6_173 : Int32) (x7_173 : Int32) (x8_173 : Int32) (x9_173 : Int32) (M_173 : zMt), D_L_results_173 P Q A nA B nB (D_L_results_51 P Q A nA B nB u_51) (D_L_results_88 P Q A nA B nB (D_L_results_51 P Q A nA B nB u_51) u_88) (D_L_results_103 P Q A nA B nB (D_L_results_51 P Q A nA B nB u_51) (D_L_results_88 P Q A nA B nB (D_L_results_51 P Q A nA B nB u_51) u_88) u_103) x4_173 x5_173 x6_173 x7_173 x8_173 M_173 = some r → Zw p l e { frames := 5, cells := 2, slots := 10, locals := 36 * (5) } s m args below meth c G b 10 (MQ below (zQ G b FQ) args s 2 10 (fun q : Nat => b ≤ q)) 2 10 173 [some (.ref (P)), some (.ref (Q)), some (.ref (A)), some (.ref (B)), some (.int x4_173), some (.int x5_173), some (.int x6_173), some (.int x7_173), some (.int x8_173), some (.int x9_173)] [] (L, M_173, N) := by
                intro x4_173 x5_173 x6_173 x7_173 x8_173 x9_173 M_173 h
                unfold D_L_results_173 at h
                refine a_iinc (v := x8_173 + 1) X dL_results_173 (by decide) rfl zi_1 ?_
                refine a_goto (tgt := 103) X dL_results_176 (by decide) ?_
                exact Zw.to2 (ih_103 _ _ _ _ _ _ _ h) rfl rfl rfl
              have J_169 : ∀ (x4_169 : Int32) (x5_169 : Int32) (x6_169 : Int32) (x7_169 : Int32) (x8_169 : Int32) (x9_169 : Int32) (M_169 : zMt), D_L_results_169 P Q A nA B nB (D_L_results_51 P Q A nA B nB u_51) (D_L_results_88 P Q A nA B nB (D_L_results_51 P Q A nA B nB u_51) u_88) (D_L_results_103 P Q A nA B nB (D_L_results_51 P Q A nA B nB u_51) (D_L_results_88 P Q A nA B nB (D_L_results_51 P Q A nA B nB u_51) u_88) u_103) x4_169 x5_169 x6_169 x8_169 x9_169 M_169 = some r → Zw p l e { frames := 5, cells := 2, slots := 10, locals := 36 * (5) } s m args below meth c G b 10 (MQ below (zQ G b FQ) args s 2 10 (fun q : Nat => b ≤ q)) 2 10 169 [some (.ref (P)), some (.ref (Q)), some (.ref (A)), some (.ref (B)), some (.int x4_169), some (.int x5_169), some (.int x6_169), some (.int x7_169), some (.int x8_169), some (.int x9_169)] [] (L, M_169, N) := by
                intro x4_169 x5_169 x6_169 x7_169 x8_169 x9_169 M_169 h
                unfold D_L_results_169 at h
                refine a_iload X dL_results_169 rfl ?_
                refine a_istore X dL_results_171 (by decide) ?_
                exact Zw.to2 (J_173 _ _ _ _ _ _ _ h) rfl rfl rfl
              intro x4_103 x5_103 x6_103 x7_103 x8_103 x9_103 M_103 h
              rw [D_L_results_103] at h
              refine a_iload X dL_results_103 rfl ?_
              refine a_aload_n X dL_results_105 rfl ?_
              refine a_geti X lf8_106 (by first | exact p_o | assumption) rfl dL_results_106 ?_
              refine a_icmp_ge (tgt := 179) X dL_results_109 (by decide) (fun h_109 => ?_) (fun h_109 => ?_)
              · replace h := (if_pos h_109).symm.trans h
                refine a_iload X dL_results_179 rfl ?_
                refine a_if_ge (tgt := 187) X dL_results_181 (by decide) (fun h_181 => ?_) (fun h_181 => ?_)
                · replace h := (if_pos h_181).symm.trans h
                  refine a_iload X dL_results_187 rfl ?_
                  refine a_iconst (v := 1) X dL_results_189 (by decide) ?_
                  refine a_iload X dL_results_190 rfl ?_
                  refine a_ishl X dL_results_192 ?_
                  refine a_ior X dL_results_193 ?_
                  refine a_istore X dL_results_194 (by decide) ?_
                  refine a_aload_n X dL_results_196 rfl ?_
                  refine a_iload X dL_results_197 rfl ?_
                  refine a_iconst (v := 0) X dL_results_199 (by decide) ?_
                  obtain ⟨e_200, f_200, h⟩ := zBx h
                  refine a_callVv X dL_results_200 miX7_applicant lm8_109 (t_X7_applicant (by first | exact hQ | assumption) f_200) (by first | exact q_o | assumption) rfl rfl rfl (Nat.le_of_ble_eq_true rfl) ⟨by decide, by decide, by decide, by decide⟩ ?_
                  refine a_aload_n X dL_results_203 rfl ?_
                  refine a_iload X dL_results_204 rfl ?_
                  obtain ⟨g_206, h⟩ := zIx h
                  refine a_iaload X (by first | exact hA | assumption) g_206 dL_results_206 ?_
                  refine a_icmp_gt (tgt := 272) X dL_results_207 (by decide) (fun h_207 => ?_) (fun h_207 => ?_)
                  · replace h := (if_pos h_207).symm.trans h
                    exact Zw.to2 (J_272 _ _ _ _ _ _ _ h) rfl rfl rfl
                  · replace h := (if_neg h_207).symm.trans h
                    refine a_aload_n X dL_results_210 rfl ?_
                    refine a_iload X dL_results_211 rfl ?_
                    refine a_iconst (v := 1) X dL_results_213 (by decide) ?_
                    obtain ⟨e_214, f_214, h⟩ := zBx h
                    refine a_callVv X dL_results_214 miX7_applicant lm8_109 (t_X7_applicant (by first | exact hQ | assumption) f_214) (by first | exact q_o | assumption) rfl rfl rfl (Nat.le_of_ble_eq_true rfl) ⟨by decide, by decide, by decide, by decide⟩ ?_
                    refine a_aload_n X dL_results_217 rfl ?_
                    refine a_iload X dL_results_218 rfl ?_
                    obtain ⟨g_220, h⟩ := zIx h
                    refine a_iaload X (by first | exact hB | assumption) g_220 dL_results_220 ?_
                    refine a_icmp_le (tgt := 227) X dL_results_221 (by decide) (fun h_221 => ?_) (fun h_221 => ?_)
                    · replace h := (if_pos h_221).symm.trans h
                      refine a_aload_n X dL_results_227 rfl ?_
                      refine a_iload X dL_results_228 rfl ?_
                      refine a_dup2 X dL_results_230 rfl rfl ?_
                      obtain ⟨g_231, h⟩ := zIx h
                      refine a_iaload X (by first | exact hA | assumption) g_231 dL_results_231 ?_
                      refine a_aload_n X dL_results_232 rfl ?_
                      refine a_iload X dL_results_233 rfl ?_
                      refine a_iconst (v := 0) X dL_results_235 (by decide) ?_
                      obtain ⟨e_236, f_236, h⟩ := zBx h
                      refine a_callVv X dL_results_236 miX7_applicant lm8_109 (t_X7_applicant (by first | exact hQ | assumption) f_236) (by first | exact q_o | assumption) rfl rfl rfl (Nat.le_of_ble_eq_true rfl) ⟨by decide, by decide, by decide, by decide⟩ ?_
                      refine a_isub X dL_results_239 ?_
                      obtain ⟨g_240, h⟩ := zIx h
                      obtain ⟨M_240, f_240, h⟩ := zLtx h
                      refine d_iastore X (by first | exact hA | assumption) g_240 dL_results_240 f_240 ?_
                      refine a_aload_n X dL_results_241 rfl ?_
                      refine a_iload X dL_results_242 rfl ?_
                      refine a_dup2 X dL_results_244 rfl rfl ?_
                      obtain ⟨g_245, h⟩ := zIx h
                      refine a_iaload X (by first | exact hB | assumption) g_245 dL_results_245 ?_
                      refine a_aload_n X dL_results_246 rfl ?_
                      refine a_iload X dL_results_247 rfl ?_
                      refine a_iconst (v := 1) X dL_results_249 (by decide) ?_
                      obtain ⟨e_250, f_250, h⟩ := zBx h
                      refine a_callVv X dL_results_250 miX7_applicant lm8_109 (t_X7_applicant (by first | exact hQ | assumption) f_250) (by first | exact q_o | assumption) rfl rfl rfl (Nat.le_of_ble_eq_true rfl) ⟨by decide, by decide, by decide, by decide⟩ ?_
                      refine a_isub X dL_results_253 ?_
                      obtain ⟨g_254, h⟩ := zIx h
                      obtain ⟨M_254, f_254, h⟩ := zLtx h
                      refine d_iastore X (by first | exact hB | assumption) g_254 dL_results_254 f_254 ?_
                      refine a_aload_n X dL_results_255 rfl ?_
                      refine a_getr X lf8_16 (by first | exact p_o | assumption) rfl (by omega) dL_results_256 ?_
                      refine a_iload X dL_results_259 rfl ?_
                      refine a_iload X dL_results_261 rfl ?_
                      obtain ⟨g_263, h⟩ := zIx h
                      obtain ⟨M_263, f_263, h⟩ := zLtx h
                      refine d_iastore X (by first | exact p_got | assumption) g_263 dL_results_263 f_263 ?_
                      refine a_aload_n X dL_results_264 rfl ?_
                      refine a_getr X lf8_19 (by first | exact p_o | assumption) rfl (by omega) dL_results_265 ?_
                      refine a_iload X dL_results_268 rfl ?_
                      refine a_iconst (v := 1) X dL_results_270 (by decide) ?_
                      obtain ⟨g_271, h⟩ := zIx h
                      obtain ⟨M_271, f_271, h⟩ := zLtx h
                      refine d_iastore X (by first | exact p_round | assumption) g_271 dL_results_271 f_271 ?_
                      exact Zw.to2 (J_272 _ _ _ _ _ _ _ h) rfl rfl rfl
                    · replace h := (if_neg h_221).symm.trans h
                      refine a_goto (tgt := 272) X dL_results_224 (by decide) ?_
                      exact Zw.to2 (J_272 _ _ _ _ _ _ _ h) rfl rfl rfl
                · replace h := (if_neg h_181).symm.trans h
                  refine a_goto (tgt := 278) X dL_results_184 (by decide) ?_
                  exact Zw.to2 (J_278 _ _ _ _ _ _ _ h) rfl rfl rfl
              · replace h := (if_neg h_109).symm.trans h
                refine a_aload_n X dL_results_112 rfl ?_
                refine a_getr X lf8_13 (by first | exact p_o | assumption) rfl (by omega) dL_results_113 ?_
                refine a_iload X dL_results_116 rfl ?_
                obtain ⟨g_118, h⟩ := zIx h
                refine a_iaload X (by first | exact p_ord | assumption) g_118 dL_results_118 ?_
                refine a_istore X dL_results_119 (by decide) ?_
                refine a_iload X dL_results_121 rfl ?_
                refine a_iload X dL_results_123 rfl ?_
                refine a_ishr X dL_results_125 ?_
                refine a_iconst (v := 1) X dL_results_126 (by decide) ?_
                refine a_iand X dL_results_127 ?_
                refine a_iconst (v := 1) X dL_results_128 (by decide) ?_
                refine a_icmp_eq (tgt := 173) X dL_results_129 (by decide) (fun h_129 => ?_) (fun h_129 => ?_)
                · replace h := (if_pos h_129).symm.trans h
                  exact Zw.to2 (J_173 _ _ _ _ _ _ _ h) rfl rfl rfl
                · replace h := (if_neg h_129).symm.trans h
                  refine a_aload_n X dL_results_132 rfl ?_
                  refine a_iload X dL_results_133 rfl ?_
                  refine a_iconst (v := 0) X dL_results_135 (by decide) ?_
                  obtain ⟨e_136, f_136, h⟩ := zBx h
                  refine a_callVv X dL_results_136 miX7_choice lm8_126 (t_X7_choice (by first | exact hQ | assumption) f_136) (by first | exact q_o | assumption) rfl rfl rfl (Nat.le_of_ble_eq_true rfl) ⟨by decide, by decide, by decide, by decide⟩ ?_
                  refine a_iload X dL_results_139 rfl ?_
                  refine a_icmp_eq (tgt := 147) X dL_results_141 (by decide) (fun h_141 => ?_) (fun h_141 => ?_)
                  · replace h := (if_pos h_141).symm.trans h
                    refine a_iload X dL_results_147 rfl ?_
                    refine a_if_lt (tgt := 169) X dL_results_149 (by decide) (fun h_149 => ?_) (fun h_149 => ?_)
                    · replace h := (if_pos h_149).symm.trans h
                      exact Zw.to2 (J_169 _ _ _ _ _ _ _ h) rfl rfl rfl
                    · replace h := (if_neg h_149).symm.trans h
                      refine a_aload_n X dL_results_152 rfl ?_
                      refine a_iload X dL_results_153 rfl ?_
                      refine a_iconst (v := 2) X dL_results_155 (by decide) ?_
                      obtain ⟨e_156, f_156, h⟩ := zBx h
                      refine a_callVv X dL_results_156 miX7_applicant lm8_109 (t_X7_applicant (by first | exact hQ | assumption) f_156) (by first | exact q_o | assumption) rfl rfl rfl (Nat.le_of_ble_eq_true rfl) ⟨by decide, by decide, by decide, by decide⟩ ?_
                      refine a_aload_n X dL_results_159 rfl ?_
                      refine a_iload X dL_results_160 rfl ?_
                      refine a_iconst (v := 2) X dL_results_162 (by decide) ?_
                      obtain ⟨e_163, f_163, h⟩ := zBx h
                      refine a_callVv X dL_results_163 miX7_applicant lm8_109 (t_X7_applicant (by first | exact hQ | assumption) f_163) (by first | exact q_o | assumption) rfl rfl rfl (Nat.le_of_ble_eq_true rfl) ⟨by decide, by decide, by decide, by decide⟩ ?_
                      refine a_icmp_le (tgt := 173) X dL_results_166 (by decide) (fun h_166 => ?_) (fun h_166 => ?_)
                      · replace h := (if_pos h_166).symm.trans h
                        exact Zw.to2 (J_173 _ _ _ _ _ _ _ h) rfl rfl rfl
                      · replace h := (if_neg h_166).symm.trans h
                        exact Zw.to2 (J_169 _ _ _ _ _ _ _ h) rfl rfl rfl
                  · replace h := (if_neg h_141).symm.trans h
                    refine a_goto (tgt := 173) X dL_results_144 (by decide) ?_
                    exact Zw.to2 (J_173 _ _ _ _ _ _ _ h) rfl rfl rfl
          have H_103 : ∀ (x4_103 : Int32) (x5_103 : Int32) (x6_103 : Int32) (x7_103 : Int32) (x8_103 : Int32) (x9_103 : Option Value) (M_103 : zMt), D_L_results_103 P Q A nA B nB (D_L_results_51 P Q A nA B nB u_51) (D_L_results_88 P Q A nA B nB (D_L_results_51 P Q A nA B nB u_51) u_88) zFu x4_103 x5_103 x6_103 x7_103 x8_103 M_103 = some r → Zw p l e { frames := 5, cells := 2, slots := 10, locals := 36 * (5) } s m args below meth c G b 10 (MQ below (zQ G b FQ) args s 2 10 (fun q : Nat => b ≤ q)) 2 10 103 [some (.ref (P)), some (.ref (Q)), some (.ref (A)), some (.ref (B)), some (.int x4_103), some (.int x5_103), some (.int x6_103), some (.int x7_103), some (.int x8_103), x9_103] [] (L, M_103, N) := L_103 zFu
          intro x4_88 x5_88 x6_88 x7_88 x8_88 x9_88 M_88 h
          rw [D_L_results_88] at h
          refine a_iload X dL_results_88 rfl ?_
          refine a_aload_n X dL_results_90 rfl ?_
          refine a_geti X lf8_106 (by first | exact p_o | assumption) rfl dL_results_91 ?_
          refine a_icmp_ge (tgt := 278) X dL_results_94 (by decide) (fun h_94 => ?_) (fun h_94 => ?_)
          · replace h := (if_pos h_94).symm.trans h
            exact Zw.to2 (J_278 _ _ _ _ _ _ _ h) rfl rfl rfl
          · replace h := (if_neg h_94).symm.trans h
            refine a_iconst (v := -1) X dL_results_97 (by decide) ?_
            refine a_istore X dL_results_98 (by decide) ?_
            refine a_iconst (v := 0) X dL_results_100 (by decide) ?_
            refine a_istore X dL_results_101 (by decide) ?_
            exact Zw.to2 (H_103 _ _ _ _ _ _ _ h) rfl rfl rfl
      have H_88 : ∀ (x4_88 : Int32) (x5_88 : Int32) (x6_88 : Int32) (x7_88 : Option Value) (x8_88 : Option Value) (x9_88 : Option Value) (M_88 : zMt), D_L_results_88 P Q A nA B nB (D_L_results_51 P Q A nA B nB u_51) zFu x4_88 x5_88 x6_88 M_88 = some r → Zw p l e { frames := 5, cells := 2, slots := 10, locals := 36 * (5) } s m args below meth c G b 10 (MQ below (zQ G b FQ) args s 2 10 (fun q : Nat => b ≤ q)) 2 10 88 [some (.ref (P)), some (.ref (Q)), some (.ref (A)), some (.ref (B)), some (.int x4_88), some (.int x5_88), some (.int x6_88), x7_88, x8_88, x9_88] [] (L, M_88, N) := L_88 zFu
      intro x4_51 x5_51 x6_51 x7_51 x8_51 x9_51 M_51 h
      rw [D_L_results_51] at h
      refine a_iload X dL_results_51 rfl ?_
      refine a_aload_n X dL_results_53 rfl ?_
      refine a_geti X lf8_120 (by first | exact p_o | assumption) rfl dL_results_54 ?_
      refine a_icmp_ge (tgt := 306) X dL_results_57 (by decide) (fun h_57 => ?_) (fun h_57 => ?_)
      · replace h := (if_pos h_57).symm.trans h
        refine a_iconst (v := 0) X dL_results_306 (by decide) ?_
        refine a_istore X dL_results_307 (by decide) ?_
        exact Zw.to2 (H_309 _ _ _ _ _ _ _ h) rfl rfl rfl
      · replace h := (if_neg h_57).symm.trans h
        refine a_aload_n X dL_results_60 rfl ?_
        refine a_iload X dL_results_61 rfl ?_
        refine a_aload_n X dL_results_63 rfl ?_
        refine a_iload X dL_results_64 rfl ?_
        refine a_iconst (v := 1) X dL_results_66 (by decide) ?_
        obtain ⟨e_67, f_67, h⟩ := zBx h
        refine a_callVv X dL_results_67 miX7_unit lm8_123 (t_X7_unit (by first | exact hQ | assumption) f_67) (by first | exact q_o | assumption) rfl rfl rfl (Nat.le_of_ble_eq_true rfl) ⟨by decide, by decide, by decide, by decide⟩ ?_
        obtain ⟨g_70, h⟩ := zIx h
        obtain ⟨M_70, f_70, h⟩ := zLtx h
        refine d_iastore X (by first | exact hA | assumption) g_70 dL_results_70 f_70 ?_
        refine a_aload_n X dL_results_71 rfl ?_
        refine a_iload X dL_results_72 rfl ?_
        refine a_aload_n X dL_results_74 rfl ?_
        refine a_iload X dL_results_75 rfl ?_
        refine a_iconst (v := 2) X dL_results_77 (by decide) ?_
        obtain ⟨e_78, f_78, h⟩ := zBx h
        refine a_callVv X dL_results_78 miX7_unit lm8_123 (t_X7_unit (by first | exact hQ | assumption) f_78) (by first | exact q_o | assumption) rfl rfl rfl (Nat.le_of_ble_eq_true rfl) ⟨by decide, by decide, by decide, by decide⟩ ?_
        obtain ⟨g_81, h⟩ := zIx h
        obtain ⟨M_81, f_81, h⟩ := zLtx h
        refine d_iastore X (by first | exact hB | assumption) g_81 dL_results_81 f_81 ?_
        refine a_iconst (v := 0) X dL_results_82 (by decide) ?_
        refine a_istore X dL_results_83 (by decide) ?_
        refine a_iconst (v := 0) X dL_results_85 (by decide) ?_
        refine a_istore X dL_results_86 (by decide) ?_
        exact Zw.to2 (H_88 _ _ _ _ _ _ _ h) rfl rfl rfl
  have H_51 : ∀ (x4_51 : Int32) (x5_51 : Option Value) (x6_51 : Option Value) (x7_51 : Option Value) (x8_51 : Option Value) (x9_51 : Option Value) (M_51 : zMt), D_L_results_51 P Q A nA B nB zFu x4_51 M_51 = some r → Zw p l e { frames := 5, cells := 2, slots := 10, locals := 36 * (5) } s m args below meth c G b 10 (MQ below (zQ G b FQ) args s 2 10 (fun q : Nat => b ≤ q)) 2 10 51 [some (.ref (P)), some (.ref (Q)), some (.ref (A)), some (.ref (B)), some (.int x4_51), x5_51, x6_51, x7_51, x8_51, x9_51] [] (L, M_51, N) := L_51 zFu
  have L_17 : ∀ u : Nat, ∀ (x4_17 : Int32) (x5_17 : Option Value) (x6_17 : Option Value) (x7_17 : Option Value) (x8_17 : Option Value) (x9_17 : Option Value) (M_17 : zMt), D_L_results_17 P Q A nA B nB u x4_17 M_17 = some r → Zw p l e { frames := 5, cells := 2, slots := 10, locals := 36 * (5) } s m args below meth c G b 10 (MQ below (zQ G b FQ) args s 2 10 (fun q : Nat => b ≤ q)) 2 10 17 [some (.ref (P)), some (.ref (Q)), some (.ref (A)), some (.ref (B)), some (.int x4_17), x5_17, x6_17, x7_17, x8_17, x9_17] [] (L, M_17, N) := by
    intro u
    induction u with
    | zero => intro x4_17 x5_17 x6_17 x7_17 x8_17 x9_17 M_17 h; cases (show none = some r from h)
    | succ u_17 ih_17 =>
      intro x4_17 x5_17 x6_17 x7_17 x8_17 x9_17 M_17 h
      rw [D_L_results_17] at h
      refine a_iload X dL_results_17 rfl ?_
      refine a_aload_n X dL_results_19 rfl ?_
      refine a_geti X lf8_106 (by first | exact p_o | assumption) rfl dL_results_20 ?_
      refine a_icmp_ge (tgt := 48) X dL_results_23 (by decide) (fun h_23 => ?_) (fun h_23 => ?_)
      · replace h := (if_pos h_23).symm.trans h
        refine a_iconst (v := 0) X dL_results_48 (by decide) ?_
        refine a_istore X dL_results_49 (by decide) ?_
        exact Zw.to2 (H_51 _ _ _ _ _ _ _ h) rfl rfl rfl
      · replace h := (if_neg h_23).symm.trans h
        refine a_aload_n X dL_results_26 rfl ?_
        refine a_getr X lf8_16 (by first | exact p_o | assumption) rfl (by omega) dL_results_27 ?_
        refine a_iload X dL_results_30 rfl ?_
        refine a_iconst (v := -1) X dL_results_32 (by decide) ?_
        obtain ⟨g_33, h⟩ := zIx h
        obtain ⟨M_33, f_33, h⟩ := zLtx h
        refine d_iastore X (by first | exact p_got | assumption) g_33 dL_results_33 f_33 ?_
        refine a_aload_n X dL_results_34 rfl ?_
        refine a_getr X lf8_19 (by first | exact p_o | assumption) rfl (by omega) dL_results_35 ?_
        refine a_iload X dL_results_38 rfl ?_
        refine a_iconst (v := 0) X dL_results_40 (by decide) ?_
        obtain ⟨g_41, h⟩ := zIx h
        obtain ⟨M_41, f_41, h⟩ := zLtx h
        refine d_iastore X (by first | exact p_round | assumption) g_41 dL_results_41 f_41 ?_
        refine a_iinc (v := x4_17 + 1) X dL_results_42 (by decide) rfl zi_1 ?_
        refine a_goto (tgt := 17) X dL_results_45 (by decide) ?_
        exact Zw.to2 (ih_17 _ _ _ _ _ _ _ h) rfl rfl rfl
  have H_17 : ∀ (x4_17 : Int32) (x5_17 : Option Value) (x6_17 : Option Value) (x7_17 : Option Value) (x8_17 : Option Value) (x9_17 : Option Value) (M_17 : zMt), D_L_results_17 P Q A nA B nB zFu x4_17 M_17 = some r → Zw p l e { frames := 5, cells := 2, slots := 10, locals := 36 * (5) } s m args below meth c G b 10 (MQ below (zQ G b FQ) args s 2 10 (fun q : Nat => b ≤ q)) 2 10 17 [some (.ref (P)), some (.ref (Q)), some (.ref (A)), some (.ref (B)), some (.int x4_17), x5_17, x6_17, x7_17, x8_17, x9_17] [] (L, M_17, N) := L_17 zFu
  unfold D_L_results at h
  refine a_iconst (v := 0) X dL_results_14 (by decide) ?_
  refine a_istore X dL_results_15 (by decide) ?_
  exact Zw.to2 (H_17 _ _ _ _ _ _ _ h) rfl rfl rfl
noncomputable def D_L_isAs_341 (P : Nat) (Q : Nat) (A : Nat) (nA : Nat) (k243 : Int32 → Int32 → Int32 → zMt → Option (Int32 × zMt)) (x2_341 : Int32) (x3_341 : Int32) (x6_341 : Int32) (y0_341 : Int32) (M_341 : zMt) : Option (Int32 × zMt) :=
  zB (D_X7_behind Q x3_341 x6_341 M_341) fun e_347 =>
  if e_347.1 = y0_341 then
    k243 x2_341 x3_341 (x6_341 + 1) e_347.2
  else
    some ((0 : Int32), e_347.2)
noncomputable def D_L_isAs_313 (P : Nat) (Q : Nat) (A : Nat) (nA : Nat) (k243 : Int32 → Int32 → Int32 → zMt → Option (Int32 × zMt)) (x2_313 : Int32) (x3_313 : Int32) (x6_313 : Int32) (x8_313 : Int32) (M_313 : zMt) : Option (Int32 × zMt) :=
  D_L_isAs_341 P Q A nA k243 x2_313 x3_313 x6_313 x8_313 M_313
noncomputable def D_L_isAs_282 (P : Nat) (Q : Nat) (A : Nat) (nA : Nat) (k243 : Int32 → Int32 → Int32 → zMt → Option (Int32 × zMt)) (x2_282 : Int32) (x3_282 : Int32) (x6_282 : Int32) (x7_282 : Int32) (x8_282 : Int32) (y0_282 : Int32) (M_282 : zMt) : Option (Int32 × zMt) :=
  zI x7_282 8 <|
  if 0 ≤ (M_282 (P + 3) x7_282.toNatClampNeg) then
    zI x7_282 8 <|
    zB (D_X7_choice Q x7_282 (0 : Int32) M_282) fun e_329 =>
    if (M_282 (P + 3) x7_282.toNatClampNeg) = e_329.1 then
      D_L_isAs_341 P Q A nA k243 x2_282 x3_282 x6_282 (0 : Int32) e_329.2
    else
      D_L_isAs_341 P Q A nA k243 x2_282 x3_282 x6_282 x8_282 e_329.2
  else
    if y0_282 = 0 then
      D_L_isAs_313 P Q A nA k243 x2_282 x3_282 x6_282 x8_282 M_282
    else
      if (20 : Int32) ≤ x8_282 then
        D_L_isAs_313 P Q A nA k243 x2_282 x3_282 x6_282 x8_282 M_282
      else
        D_L_isAs_341 P Q A nA k243 x2_282 x3_282 x6_282 (x8_282 + (1 : Int32)) M_282
noncomputable def D_L_isAs_243 (P : Nat) (Q : Nat) (A : Nat) (nA : Nat) : Nat → Int32 → Int32 → Int32 → zMt → Option (Int32 × zMt)
  | 0, _, _, _, _ => none
  | n + 1, x2_243, x3_243, x6_243, M_243 =>
    if x2_243 ≤ x6_243 then
      some ((1 : Int32), M_243)
    else
      zB (D_X7_hunter Q x6_243 (3 : Int32) M_243) fun e_253 =>
      zB (D_X7_hunter Q x6_243 (0 : Int32) e_253.2) fun e_262 =>
      zB (D_X7_applicant Q e_253.1 (4 : Int32) e_262.2) fun e_271 =>
      if e_271.1 ≤ 0 then
        D_L_isAs_282 P Q A nA (D_L_isAs_243 P Q A nA n) x2_243 x3_243 x6_243 e_253.1 e_262.1 (0 : Int32) e_271.2
      else
        D_L_isAs_282 P Q A nA (D_L_isAs_243 P Q A nA n) x2_243 x3_243 x6_243 e_253.1 e_262.1 (1 : Int32) e_271.2
noncomputable def D_L_isAs_207 (P : Nat) (Q : Nat) (A : Nat) (nA : Nat) : Nat → Int32 → Int32 → Int32 → zMt → Option (Int32 × zMt)
  | 0, _, _, _, _ => none
  | n + 1, x2_207, x3_207, x6_207, M_207 =>
    if (M_207 P 3) ≤ x6_207 then
      D_L_isAs_243 P Q A nA zFu x2_207 x3_207 (0 : Int32) M_207
    else
      zB (D_X7_left Q x3_207 x6_207 (0 : Int32) M_207) fun e_221 =>
      zI x6_207 nA <|
      if e_221.1 = (e_221.2 A x6_207.toNatClampNeg) then
        (D_L_isAs_207 P Q A nA n) x2_207 x3_207 (x6_207 + 1) e_221.2
      else
        some ((0 : Int32), e_221.2)
noncomputable def D_L_isAs_120 (P : Nat) (Q : Nat) (A : Nat) (nA : Nat) (M_120 : zMt) : Option (Int32 × zMt) :=
  some ((0 : Int32), M_120)
noncomputable def D_L_isAs_186 (P : Nat) (Q : Nat) (A : Nat) (nA : Nat) (k55 : Int32 → Int32 → Int32 → Int32 → zMt → Option (Int32 × zMt)) (x2_186 : Int32) (x3_186 : Int32) (x4_186 : Int32) (x6_186 : Int32) (M_186 : zMt) : Option (Int32 × zMt) :=
  k55 x2_186 x3_186 x4_186 (x6_186 + 1) M_186
noncomputable def D_L_isAs_122 (P : Nat) (Q : Nat) (A : Nat) (nA : Nat) (k55 : Int32 → Int32 → Int32 → Int32 → zMt → Option (Int32 × zMt)) (x2_122 : Int32) (x3_122 : Int32) (x4_122 : Int32) (x6_122 : Int32) (x7_122 : Int32) (M_122 : zMt) : Option (Int32 × zMt) :=
  zI x7_122 8 <|
  if 0 ≤ (M_122 (P + 3) x7_122.toNatClampNeg) then
    zB (D_X7_round Q x3_122 x7_122 M_122) fun e_139 =>
    zI x7_122 8 <|
    if e_139.1 = (e_139.2 (P + 4) x7_122.toNatClampNeg) then
      zB (D_X7_applicant Q x7_122 (5 : Int32) e_139.2) fun e_160 =>
      zI x7_122 8 <|
      zI (e_160.2 (P + 3) x7_122.toNatClampNeg) nA <|
      zB (D_X7_applicant Q x7_122 (0 : Int32) e_160.2) fun e_181 =>
      zI (e_160.2 (P + 3) x7_122.toNatClampNeg) nA <|
      zLt (zu e_181.2 A (e_160.2 (P + 3) x7_122.toNatClampNeg).toNatClampNeg ((e_160.2 A (e_160.2 (P + 3) x7_122.toNatClampNeg).toNatClampNeg) - e_181.1)) fun M_185 =>
      D_L_isAs_186 P Q A nA k55 x2_122 x3_122 (x4_122 ||| e_160.1) x6_122 M_185
    else
      some ((0 : Int32), e_139.2)
  else
    D_L_isAs_186 P Q A nA k55 x2_122 x3_122 x4_122 x6_122 M_122
noncomputable def D_L_isAs_55 (P : Nat) (Q : Nat) (A : Nat) (nA : Nat) : Nat → Int32 → Int32 → Int32 → Int32 → zMt → Option (Int32 × zMt)
  | 0, _, _, _, _, _ => none
  | n + 1, x2_55, x3_55, x4_55, x6_55, M_55 =>
    if (M_55 P 2) ≤ x6_55 then
      zB (D_X7_winners Q x3_55 M_55) fun e_194 =>
      if e_194.1 = x4_55 then
        D_L_isAs_207 P Q A nA zFu x2_55 x3_55 (0 : Int32) e_194.2
      else
        some ((0 : Int32), e_194.2)
    else
      zI x6_55 8 <|
      zB (D_X7_order Q x3_55 x6_55 M_55) fun e_77 =>
      if e_77.1 = (M_55 (P + 2) x6_55.toNatClampNeg) then
        zB (D_X7_drawn Q x3_55 (M_55 (P + 2) x6_55.toNatClampNeg) e_77.2) fun e_89 =>
        zI (M_55 (P + 2) x6_55.toNatClampNeg) 8 <|
        if e_89.1 = (e_89.2 (P + 3) (M_55 (P + 2) x6_55.toNatClampNeg).toNatClampNeg) then
          zI (M_55 (P + 2) x6_55.toNatClampNeg) 8 <|
          if 0 ≤ (e_89.2 (P + 3) (M_55 (P + 2) x6_55.toNatClampNeg).toNatClampNeg) then
            D_L_isAs_122 P Q A nA (D_L_isAs_55 P Q A nA n) x2_55 x3_55 x4_55 x6_55 (M_55 (P + 2) x6_55.toNatClampNeg) e_89.2
          else
            zB (D_X7_status Q e_89.2) fun e_113 =>
            if e_113 = (5 : Int32) then
              D_L_isAs_122 P Q A nA (D_L_isAs_55 P Q A nA n) x2_55 x3_55 x4_55 x6_55 (M_55 (P + 2) x6_55.toNatClampNeg) e_89.2
            else
              D_L_isAs_120 P Q A nA e_89.2
        else
          D_L_isAs_120 P Q A nA e_89.2
      else
        D_L_isAs_120 P Q A nA e_77.2
noncomputable def D_L_isAs_25 (P : Nat) (Q : Nat) (A : Nat) (nA : Nat) : Nat → Int32 → Int32 → Int32 → Int32 → zMt → Option (Int32 × zMt)
  | 0, _, _, _, _, _ => none
  | n + 1, x2_25, x3_25, x4_25, x6_25, M_25 =>
    if (M_25 P 3) ≤ x6_25 then
      D_L_isAs_55 P Q A nA zFu x2_25 x3_25 x4_25 (0 : Int32) M_25
    else
      zB (D_X7_unit Q x6_25 (0 : Int32) M_25) fun e_42 =>
      zI x6_25 nA <|
      zLt (zu e_42.2 A x6_25.toNatClampNeg e_42.1) fun M_45 =>
      (D_L_isAs_25 P Q A nA n) x2_25 x3_25 x4_25 (x6_25 + 1) M_45
noncomputable def D_L_isAs (P : Nat) (Q : Nat) (A : Nat) (nA : Nat) (v0 : Int32) (v1 : Int32) (v2 : Int32) (M : zMt) : Option (Int32 × zMt) :=
  D_L_isAs_25 P Q A nA zFu v0 v1 v2 (0 : Int32) M
set_option maxRecDepth 100000 in
set_option maxHeartbeats 4000000 in
theorem s_L_isAs {l : Launch} {G : zG} {b : Nat} {L : List zC} {M : zMt} {N : zNt} {P : Nat} {Q : Nat} {A : Nat} {nA : Nat} {v0 : Int32} {v1 : Int32} {v2 : Int32} (hP : LX8 L P) (hQ : LX7 L Q) (hA : L[A]? = some (1, nA, [])) (lA : nA < 2 ^ 31) {p : Program} {e : Env} {s : State} {m : MethodId} {args : Array Value} {below : List Frame} {meth : Method} {c : Code} (X : zOK p s m args meth c G b yL_isAs.cls cL_isAs 11) (hr : meth.sig.returnType = (some .boolean)) {r : Int32 × zMt} {FQ : Option Value → zS → Prop} (hF : ((fun r2 z => r2 = some (.int r.1) ∧ z = (L, r.2, N) ∧ (r.1 = 0 ∨ r.1 = 1)) : Option Value → zS → Prop) = FQ) (h : D_L_isAs P Q A nA v0 v1 v2 M = some r) : Zw p l e { frames := 6, cells := 3, slots := 15, locals := 36 * (6) } s m args below meth c G b 11 (MQ below (zQ G b FQ) args s 3 15 (fun q : Nat => b ≤ q)) 3 15 22 [some (.ref P), some (.ref Q), some (.int v0), some (.int v1), some (.int v2), some (.ref A), none, none, none, none, none] [] (L, M, N) := by
  have p_lt := hP.1
  obtain ⟨_, p_o⟩ := hP.2.1
  have p_ord := hP.2.2.1
  have p_got := hP.2.2.2.1
  have p_round := hP.2.2.2.2
  have q_lt := hQ.1
  have q_o := hQ.2.1
  have L_243 : ∀ u : Nat, ∀ (x2_243 : Int32) (x3_243 : Int32) (x4_243 : Int32) (x6_243 : Int32) (x7_243 : Option Value) (x8_243 : Option Value) (x9_243 : Option Value) (x10_243 : Option Value) (M_243 : zMt), D_L_isAs_243 P Q A nA u x2_243 x3_243 x6_243 M_243 = some r → Zw p l e { frames := 6, cells := 3, slots := 15, locals := 36 * (6) } s m args below meth c G b 11 (MQ below (zQ G b FQ) args s 3 15 (fun q : Nat => b ≤ q)) 3 15 243 [some (.ref (P)), some (.ref (Q)), some (.int x2_243), some (.int x3_243), some (.int x4_243), some (.ref (A)), some (.int x6_243), x7_243, x8_243, x9_243, x10_243] [] (L, M_243, N) := by
    intro u
    induction u with
    | zero => intro x2_243 x3_243 x4_243 x6_243 x7_243 x8_243 x9_243 x10_243 M_243 h; cases (show none = some r from h)
    | succ u_243 ih_243 =>
      have J_341 : ∀ (x2_341 : Int32) (x3_341 : Int32) (x4_341 : Int32) (x6_341 : Int32) (x7_341 : Int32) (x8_341 : Int32) (x9_341 : Int32) (x10_341 : Option Value) (y0_341 : Int32) (M_341 : zMt), D_L_isAs_341 P Q A nA (D_L_isAs_243 P Q A nA u_243) x2_341 x3_341 x6_341 y0_341 M_341 = some r → Zw p l e { frames := 6, cells := 3, slots := 15, locals := 36 * (6) } s m args below meth c G b 11 (MQ below (zQ G b FQ) args s 3 15 (fun q : Nat => b ≤ q)) 3 15 341 [some (.ref (P)), some (.ref (Q)), some (.int x2_341), some (.int x3_341), some (.int x4_341), some (.ref (A)), some (.int x6_341), some (.int x7_341), some (.int x8_341), some (.int x9_341), x10_341] [.int y0_341] (L, M_341, N) := by
        intro x2_341 x3_341 x4_341 x6_341 x7_341 x8_341 x9_341 x10_341 y0_341 M_341 h
        unfold D_L_isAs_341 at h
        refine a_istore X dL_isAs_341 (by decide) ?_
        refine a_aload_n X dL_isAs_343 rfl ?_
        refine a_iload_n X dL_isAs_344 rfl ?_
        refine a_iload X dL_isAs_345 rfl ?_
        obtain ⟨e_347, f_347, h⟩ := zBx h
        refine a_callVv X dL_isAs_347 miX7_behind lm8_174 (t_X7_behind (by first | exact hQ | assumption) f_347) (by first | exact q_o | assumption) rfl rfl rfl (Nat.le_of_ble_eq_true rfl) ⟨by decide, by decide, by decide, by decide⟩ ?_
        refine a_iload X dL_isAs_350 rfl ?_
        refine a_icmp_eq (tgt := 357) X dL_isAs_352 (by decide) (fun h_352 => ?_) (fun h_352 => ?_)
        · replace h := (if_pos h_352).symm.trans h
          refine a_iinc (v := x6_341 + 1) X dL_isAs_357 (by decide) rfl zi_1 ?_
          refine a_goto (tgt := 243) X dL_isAs_360 (by decide) ?_
          exact Zw.to2 (ih_243 _ _ _ _ _ _ _ _ _ h) rfl rfl rfl
        · replace h := (if_neg h_352).symm.trans h
          refine a_iconst (v := 0) X dL_isAs_355 (by decide) ?_
          refine a_zret X (by first | exact Or.inl rfl | exact Or.inr rfl | assumption) hr dL_isAs_356 ⟨by decide, by decide⟩ ?_
          subst hF
          rw [← Option.some.inj h]
          exact ⟨rfl, rfl, (by first | exact Or.inl rfl | exact Or.inr rfl | assumption)⟩
      have J_313 : ∀ (x2_313 : Int32) (x3_313 : Int32) (x4_313 : Int32) (x6_313 : Int32) (x7_313 : Int32) (x8_313 : Int32) (x9_313 : Int32) (x10_313 : Option Value) (M_313 : zMt), D_L_isAs_313 P Q A nA (D_L_isAs_243 P Q A nA u_243) x2_313 x3_313 x6_313 x8_313 M_313 = some r → Zw p l e { frames := 6, cells := 3, slots := 15, locals := 36 * (6) } s m args below meth c G b 11 (MQ below (zQ G b FQ) args s 3 15 (fun q : Nat => b ≤ q)) 3 15 313 [some (.ref (P)), some (.ref (Q)), some (.int x2_313), some (.int x3_313), some (.int x4_313), some (.ref (A)), some (.int x6_313), some (.int x7_313), some (.int x8_313), some (.int x9_313), x10_313] [] (L, M_313, N) := by
        intro x2_313 x3_313 x4_313 x6_313 x7_313 x8_313 x9_313 x10_313 M_313 h
        unfold D_L_isAs_313 at h
        refine a_iload X dL_isAs_313 rfl ?_
        refine a_goto (tgt := 341) X dL_isAs_315 (by decide) ?_
        exact Zw.to2 (J_341 _ _ _ _ _ _ _ _ _ _ h) rfl rfl rfl
      have J_282 : ∀ (x2_282 : Int32) (x3_282 : Int32) (x4_282 : Int32) (x6_282 : Int32) (x7_282 : Int32) (x8_282 : Int32) (x9_282 : Option Value) (x10_282 : Option Value) (y0_282 : Int32) (M_282 : zMt), (y0_282 = 0 ∨ y0_282 = 1) → D_L_isAs_282 P Q A nA (D_L_isAs_243 P Q A nA u_243) x2_282 x3_282 x6_282 x7_282 x8_282 y0_282 M_282 = some r → Zw p l e { frames := 6, cells := 3, slots := 15, locals := 36 * (6) } s m args below meth c G b 11 (MQ below (zQ G b FQ) args s 3 15 (fun q : Nat => b ≤ q)) 3 15 282 [some (.ref (P)), some (.ref (Q)), some (.int x2_282), some (.int x3_282), some (.int x4_282), some (.ref (A)), some (.int x6_282), some (.int x7_282), some (.int x8_282), x9_282, x10_282] [.int y0_282] (L, M_282, N) := by
        intro x2_282 x3_282 x4_282 x6_282 x7_282 x8_282 x9_282 x10_282 y0_282 M_282 fb_y0_282 h
        unfold D_L_isAs_282 at h
        refine a_istore X dL_isAs_282 (by decide) ?_
        refine a_aload_n X dL_isAs_284 rfl ?_
        refine a_getr X lf8_16 (by first | exact p_o | assumption) rfl (by omega) dL_isAs_285 ?_
        refine a_iload X dL_isAs_288 rfl ?_
        obtain ⟨g_290, h⟩ := zIx h
        refine a_iaload X (by first | exact p_got | assumption) g_290 dL_isAs_290 ?_
        refine a_if_ge (tgt := 318) X dL_isAs_291 (by decide) (fun h_291 => ?_) (fun h_291 => ?_)
        · replace h := (if_pos h_291).symm.trans h
          refine a_aload_n X dL_isAs_318 rfl ?_
          refine a_getr X lf8_16 (by first | exact p_o | assumption) rfl (by omega) dL_isAs_319 ?_
          refine a_iload X dL_isAs_322 rfl ?_
          obtain ⟨g_324, h⟩ := zIx h
          refine a_iaload X (by first | exact p_got | assumption) g_324 dL_isAs_324 ?_
          refine a_aload_n X dL_isAs_325 rfl ?_
          refine a_iload X dL_isAs_326 rfl ?_
          refine a_iconst (v := 0) X dL_isAs_328 (by decide) ?_
          obtain ⟨e_329, f_329, h⟩ := zBx h
          refine a_callVv X dL_isAs_329 miX7_choice lm8_126 (t_X7_choice (by first | exact hQ | assumption) f_329) (by first | exact q_o | assumption) rfl rfl rfl (Nat.le_of_ble_eq_true rfl) ⟨by decide, by decide, by decide, by decide⟩ ?_
          refine a_icmp_ne (tgt := 339) X dL_isAs_332 (by decide) (fun h_332 => ?_) (fun h_332 => ?_)
          · replace h := (if_neg h_332).symm.trans h
            refine a_iload X dL_isAs_339 rfl ?_
            exact Zw.to2 (J_341 _ _ _ _ _ _ _ _ _ _ h) rfl rfl rfl
          · replace h := (if_pos h_332).symm.trans h
            refine a_iconst (v := 0) X dL_isAs_335 (by decide) ?_
            refine a_goto (tgt := 341) X dL_isAs_336 (by decide) ?_
            exact Zw.to2 (J_341 _ _ _ _ _ _ _ _ _ _ h) rfl rfl rfl
        · replace h := (if_neg h_291).symm.trans h
          refine a_iload X dL_isAs_294 rfl ?_
          refine a_if_eq (tgt := 313) X dL_isAs_296 (by decide) (fun h_296 => ?_) (fun h_296 => ?_)
          · replace h := (if_pos h_296).symm.trans h
            exact Zw.to2 (J_313 _ _ _ _ _ _ _ _ _ h) rfl rfl rfl
          · replace h := (if_neg h_296).symm.trans h
            refine a_iload X dL_isAs_299 rfl ?_
            refine a_bipush (v := 20) X dL_isAs_301 (by decide) ?_
            refine a_icmp_ge (tgt := 313) X dL_isAs_303 (by decide) (fun h_303 => ?_) (fun h_303 => ?_)
            · replace h := (if_pos h_303).symm.trans h
              exact Zw.to2 (J_313 _ _ _ _ _ _ _ _ _ h) rfl rfl rfl
            · replace h := (if_neg h_303).symm.trans h
              refine a_iload X dL_isAs_306 rfl ?_
              refine a_iconst (v := 1) X dL_isAs_308 (by decide) ?_
              refine a_iadd X dL_isAs_309 ?_
              refine a_goto (tgt := 341) X dL_isAs_310 (by decide) ?_
              exact Zw.to2 (J_341 _ _ _ _ _ _ _ _ _ _ h) rfl rfl rfl
      intro x2_243 x3_243 x4_243 x6_243 x7_243 x8_243 x9_243 x10_243 M_243 h
      rw [D_L_isAs_243] at h
      refine a_iload X dL_isAs_243 rfl ?_
      refine a_iload_n X dL_isAs_245 rfl ?_
      refine a_icmp_ge (tgt := 363) X dL_isAs_246 (by decide) (fun h_246 => ?_) (fun h_246 => ?_)
      · replace h := (if_pos h_246).symm.trans h
        refine a_iconst (v := 1) X dL_isAs_363 (by decide) ?_
        refine a_zret X (by first | exact Or.inl rfl | exact Or.inr rfl | assumption) hr dL_isAs_364 ⟨by decide, by decide⟩ ?_
        subst hF
        rw [← Option.some.inj h]
        exact ⟨rfl, rfl, (by first | exact Or.inl rfl | exact Or.inr rfl | assumption)⟩
      · replace h := (if_neg h_246).symm.trans h
        refine a_aload_n X dL_isAs_249 rfl ?_
        refine a_iload X dL_isAs_250 rfl ?_
        refine a_iconst (v := 3) X dL_isAs_252 (by decide) ?_
        obtain ⟨e_253, f_253, h⟩ := zBx h
        refine a_callVv X dL_isAs_253 miX7_hunter lm8_171 (t_X7_hunter (by first | exact hQ | assumption) f_253) (by first | exact q_o | assumption) rfl rfl rfl (Nat.le_of_ble_eq_true rfl) ⟨by decide, by decide, by decide, by decide⟩ ?_
        refine a_istore X dL_isAs_256 (by decide) ?_
        refine a_aload_n X dL_isAs_258 rfl ?_
        refine a_iload X dL_isAs_259 rfl ?_
        refine a_iconst (v := 0) X dL_isAs_261 (by decide) ?_
        obtain ⟨e_262, f_262, h⟩ := zBx h
        refine a_callVv X dL_isAs_262 miX7_hunter lm8_171 (t_X7_hunter (by first | exact hQ | assumption) f_262) (by first | exact q_o | assumption) rfl rfl rfl (Nat.le_of_ble_eq_true rfl) ⟨by decide, by decide, by decide, by decide⟩ ?_
        refine a_istore X dL_isAs_265 (by decide) ?_
        refine a_aload_n X dL_isAs_267 rfl ?_
        refine a_iload X dL_isAs_268 rfl ?_
        refine a_iconst (v := 4) X dL_isAs_270 (by decide) ?_
        obtain ⟨e_271, f_271, h⟩ := zBx h
        refine a_callVv X dL_isAs_271 miX7_applicant lm8_109 (t_X7_applicant (by first | exact hQ | assumption) f_271) (by first | exact q_o | assumption) rfl rfl rfl (Nat.le_of_ble_eq_true rfl) ⟨by decide, by decide, by decide, by decide⟩ ?_
        refine a_if_le (tgt := 281) X dL_isAs_274 (by decide) (fun h_274 => ?_) (fun h_274 => ?_)
        · replace h := (if_pos h_274).symm.trans h
          refine a_iconst (v := 0) X dL_isAs_281 (by decide) ?_
          exact Zw.to2 (J_282 _ _ _ _ _ _ _ _ _ _ (by first | exact Or.inl rfl | exact Or.inr rfl | assumption) h) rfl rfl rfl
        · replace h := (if_neg h_274).symm.trans h
          refine a_iconst (v := 1) X dL_isAs_277 (by decide) ?_
          refine a_goto (tgt := 282) X dL_isAs_278 (by decide) ?_
          exact Zw.to2 (J_282 _ _ _ _ _ _ _ _ _ _ (by first | exact Or.inl rfl | exact Or.inr rfl | assumption) h) rfl rfl rfl
  have H_243 : ∀ (x2_243 : Int32) (x3_243 : Int32) (x4_243 : Int32) (x6_243 : Int32) (x7_243 : Option Value) (x8_243 : Option Value) (x9_243 : Option Value) (x10_243 : Option Value) (M_243 : zMt), D_L_isAs_243 P Q A nA zFu x2_243 x3_243 x6_243 M_243 = some r → Zw p l e { frames := 6, cells := 3, slots := 15, locals := 36 * (6) } s m args below meth c G b 11 (MQ below (zQ G b FQ) args s 3 15 (fun q : Nat => b ≤ q)) 3 15 243 [some (.ref (P)), some (.ref (Q)), some (.int x2_243), some (.int x3_243), some (.int x4_243), some (.ref (A)), some (.int x6_243), x7_243, x8_243, x9_243, x10_243] [] (L, M_243, N) := L_243 zFu
  have L_207 : ∀ u : Nat, ∀ (x2_207 : Int32) (x3_207 : Int32) (x4_207 : Int32) (x6_207 : Int32) (x7_207 : Option Value) (x8_207 : Option Value) (x9_207 : Option Value) (x10_207 : Option Value) (M_207 : zMt), D_L_isAs_207 P Q A nA u x2_207 x3_207 x6_207 M_207 = some r → Zw p l e { frames := 6, cells := 3, slots := 15, locals := 36 * (6) } s m args below meth c G b 11 (MQ below (zQ G b FQ) args s 3 15 (fun q : Nat => b ≤ q)) 3 15 207 [some (.ref (P)), some (.ref (Q)), some (.int x2_207), some (.int x3_207), some (.int x4_207), some (.ref (A)), some (.int x6_207), x7_207, x8_207, x9_207, x10_207] [] (L, M_207, N) := by
    intro u
    induction u with
    | zero => intro x2_207 x3_207 x4_207 x6_207 x7_207 x8_207 x9_207 x10_207 M_207 h; cases (show none = some r from h)
    | succ u_207 ih_207 =>
      intro x2_207 x3_207 x4_207 x6_207 x7_207 x8_207 x9_207 x10_207 M_207 h
      rw [D_L_isAs_207] at h
      refine a_iload X dL_isAs_207 rfl ?_
      refine a_aload_n X dL_isAs_209 rfl ?_
      refine a_geti X lf8_120 (by first | exact p_o | assumption) rfl dL_isAs_210 ?_
      refine a_icmp_ge (tgt := 240) X dL_isAs_213 (by decide) (fun h_213 => ?_) (fun h_213 => ?_)
      · replace h := (if_pos h_213).symm.trans h
        refine a_iconst (v := 0) X dL_isAs_240 (by decide) ?_
        refine a_istore X dL_isAs_241 (by decide) ?_
        exact Zw.to2 (H_243 _ _ _ _ _ _ _ _ _ h) rfl rfl rfl
      · replace h := (if_neg h_213).symm.trans h
        refine a_aload_n X dL_isAs_216 rfl ?_
        refine a_iload_n X dL_isAs_217 rfl ?_
        refine a_iload X dL_isAs_218 rfl ?_
        refine a_iconst (v := 0) X dL_isAs_220 (by decide) ?_
        obtain ⟨e_221, f_221, h⟩ := zBx h
        refine a_callVv X dL_isAs_221 miX7_left lm8_167 (t_X7_left (by first | exact hQ | assumption) f_221) (by first | exact q_o | assumption) rfl rfl rfl (Nat.le_of_ble_eq_true rfl) ⟨by decide, by decide, by decide, by decide⟩ ?_
        refine a_aload X dL_isAs_224 rfl ?_
        refine a_iload X dL_isAs_226 rfl ?_
        obtain ⟨g_228, h⟩ := zIx h
        refine a_iaload X (by first | exact hA | assumption) g_228 dL_isAs_228 ?_
        refine a_icmp_eq (tgt := 234) X dL_isAs_229 (by decide) (fun h_229 => ?_) (fun h_229 => ?_)
        · replace h := (if_pos h_229).symm.trans h
          refine a_iinc (v := x6_207 + 1) X dL_isAs_234 (by decide) rfl zi_1 ?_
          refine a_goto (tgt := 207) X dL_isAs_237 (by decide) ?_
          exact Zw.to2 (ih_207 _ _ _ _ _ _ _ _ _ h) rfl rfl rfl
        · replace h := (if_neg h_229).symm.trans h
          refine a_iconst (v := 0) X dL_isAs_232 (by decide) ?_
          refine a_zret X (by first | exact Or.inl rfl | exact Or.inr rfl | assumption) hr dL_isAs_233 ⟨by decide, by decide⟩ ?_
          subst hF
          rw [← Option.some.inj h]
          exact ⟨rfl, rfl, (by first | exact Or.inl rfl | exact Or.inr rfl | assumption)⟩
  have H_207 : ∀ (x2_207 : Int32) (x3_207 : Int32) (x4_207 : Int32) (x6_207 : Int32) (x7_207 : Option Value) (x8_207 : Option Value) (x9_207 : Option Value) (x10_207 : Option Value) (M_207 : zMt), D_L_isAs_207 P Q A nA zFu x2_207 x3_207 x6_207 M_207 = some r → Zw p l e { frames := 6, cells := 3, slots := 15, locals := 36 * (6) } s m args below meth c G b 11 (MQ below (zQ G b FQ) args s 3 15 (fun q : Nat => b ≤ q)) 3 15 207 [some (.ref (P)), some (.ref (Q)), some (.int x2_207), some (.int x3_207), some (.int x4_207), some (.ref (A)), some (.int x6_207), x7_207, x8_207, x9_207, x10_207] [] (L, M_207, N) := L_207 zFu
  have J_120 : ∀ (x2_120 : Int32) (x3_120 : Int32) (x4_120 : Int32) (x6_120 : Int32) (x7_120 : Int32) (x8_120 : Option Value) (x9_120 : Option Value) (x10_120 : Option Value) (M_120 : zMt), D_L_isAs_120 P Q A nA M_120 = some r → Zw p l e { frames := 6, cells := 3, slots := 15, locals := 36 * (6) } s m args below meth c G b 11 (MQ below (zQ G b FQ) args s 3 15 (fun q : Nat => b ≤ q)) 3 15 120 [some (.ref (P)), some (.ref (Q)), some (.int x2_120), some (.int x3_120), some (.int x4_120), some (.ref (A)), some (.int x6_120), some (.int x7_120), x8_120, x9_120, x10_120] [] (L, M_120, N) := by
    intro x2_120 x3_120 x4_120 x6_120 x7_120 x8_120 x9_120 x10_120 M_120 h
    unfold D_L_isAs_120 at h
    refine a_iconst (v := 0) X dL_isAs_120 (by decide) ?_
    refine a_zret X (by first | exact Or.inl rfl | exact Or.inr rfl | assumption) hr dL_isAs_121 ⟨by decide, by decide⟩ ?_
    subst hF
    rw [← Option.some.inj h]
    exact ⟨rfl, rfl, (by first | exact Or.inl rfl | exact Or.inr rfl | assumption)⟩
  have L_55 : ∀ u : Nat, ∀ (x2_55 : Int32) (x3_55 : Int32) (x4_55 : Int32) (x6_55 : Int32) (x7_55 : Option Value) (x8_55 : Option Value) (x9_55 : Option Value) (x10_55 : Option Value) (M_55 : zMt), D_L_isAs_55 P Q A nA u x2_55 x3_55 x4_55 x6_55 M_55 = some r → Zw p l e { frames := 6, cells := 3, slots := 15, locals := 36 * (6) } s m args below meth c G b 11 (MQ below (zQ G b FQ) args s 3 15 (fun q : Nat => b ≤ q)) 3 15 55 [some (.ref (P)), some (.ref (Q)), some (.int x2_55), some (.int x3_55), some (.int x4_55), some (.ref (A)), some (.int x6_55), x7_55, x8_55, x9_55, x10_55] [] (L, M_55, N) := by
    intro u
    induction u with
    | zero => intro x2_55 x3_55 x4_55 x6_55 x7_55 x8_55 x9_55 x10_55 M_55 h; cases (show none = some r from h)
    | succ u_55 ih_55 =>
      have J_186 : ∀ (x2_186 : Int32) (x3_186 : Int32) (x4_186 : Int32) (x6_186 : Int32) (x7_186 : Int32) (x8_186 : Option Value) (x9_186 : Option Value) (x10_186 : Option Value) (M_186 : zMt), D_L_isAs_186 P Q A nA (D_L_isAs_55 P Q A nA u_55) x2_186 x3_186 x4_186 x6_186 M_186 = some r → Zw p l e { frames := 6, cells := 3, slots := 15, locals := 36 * (6) } s m args below meth c G b 11 (MQ below (zQ G b FQ) args s 3 15 (fun q : Nat => b ≤ q)) 3 15 186 [some (.ref (P)), some (.ref (Q)), some (.int x2_186), some (.int x3_186), some (.int x4_186), some (.ref (A)), some (.int x6_186), some (.int x7_186), x8_186, x9_186, x10_186] [] (L, M_186, N) := by
        intro x2_186 x3_186 x4_186 x6_186 x7_186 x8_186 x9_186 x10_186 M_186 h
        unfold D_L_isAs_186 at h
        refine a_iinc (v := x6_186 + 1) X dL_isAs_186 (by decide) rfl zi_1 ?_
        refine a_goto (tgt := 55) X dL_isAs_189 (by decide) ?_
        exact Zw.to2 (ih_55 _ _ _ _ _ _ _ _ _ h) rfl rfl rfl
      have J_122 : ∀ (x2_122 : Int32) (x3_122 : Int32) (x4_122 : Int32) (x6_122 : Int32) (x7_122 : Int32) (x8_122 : Option Value) (x9_122 : Option Value) (x10_122 : Option Value) (M_122 : zMt), D_L_isAs_122 P Q A nA (D_L_isAs_55 P Q A nA u_55) x2_122 x3_122 x4_122 x6_122 x7_122 M_122 = some r → Zw p l e { frames := 6, cells := 3, slots := 15, locals := 36 * (6) } s m args below meth c G b 11 (MQ below (zQ G b FQ) args s 3 15 (fun q : Nat => b ≤ q)) 3 15 122 [some (.ref (P)), some (.ref (Q)), some (.int x2_122), some (.int x3_122), some (.int x4_122), some (.ref (A)), some (.int x6_122), some (.int x7_122), x8_122, x9_122, x10_122] [] (L, M_122, N) := by
        intro x2_122 x3_122 x4_122 x6_122 x7_122 x8_122 x9_122 x10_122 M_122 h
        unfold D_L_isAs_122 at h
        refine a_aload_n X dL_isAs_122 rfl ?_
        refine a_getr X lf8_16 (by first | exact p_o | assumption) rfl (by omega) dL_isAs_123 ?_
        refine a_iload X dL_isAs_126 rfl ?_
        obtain ⟨g_128, h⟩ := zIx h
        refine a_iaload X (by first | exact p_got | assumption) g_128 dL_isAs_128 ?_
        refine a_if_ge (tgt := 135) X dL_isAs_129 (by decide) (fun h_129 => ?_) (fun h_129 => ?_)
        · replace h := (if_pos h_129).symm.trans h
          refine a_aload_n X dL_isAs_135 rfl ?_
          refine a_iload_n X dL_isAs_136 rfl ?_
          refine a_iload X dL_isAs_137 rfl ?_
          obtain ⟨e_139, f_139, h⟩ := zBx h
          refine a_callVv X dL_isAs_139 miX7_round lm8_165 (t_X7_round (by first | exact hQ | assumption) f_139) (by first | exact q_o | assumption) rfl rfl rfl (Nat.le_of_ble_eq_true rfl) ⟨by decide, by decide, by decide, by decide⟩ ?_
          refine a_aload_n X dL_isAs_142 rfl ?_
          refine a_getr X lf8_19 (by first | exact p_o | assumption) rfl (by omega) dL_isAs_143 ?_
          refine a_iload X dL_isAs_146 rfl ?_
          obtain ⟨g_148, h⟩ := zIx h
          refine a_iaload X (by first | exact p_round | assumption) g_148 dL_isAs_148 ?_
          refine a_icmp_eq (tgt := 154) X dL_isAs_149 (by decide) (fun h_149 => ?_) (fun h_149 => ?_)
          · replace h := (if_pos h_149).symm.trans h
            refine a_iload X dL_isAs_154 rfl ?_
            refine a_aload_n X dL_isAs_156 rfl ?_
            refine a_iload X dL_isAs_157 rfl ?_
            refine a_iconst (v := 5) X dL_isAs_159 (by decide) ?_
            obtain ⟨e_160, f_160, h⟩ := zBx h
            refine a_callVv X dL_isAs_160 miX7_applicant lm8_109 (t_X7_applicant (by first | exact hQ | assumption) f_160) (by first | exact q_o | assumption) rfl rfl rfl (Nat.le_of_ble_eq_true rfl) ⟨by decide, by decide, by decide, by decide⟩ ?_
            refine a_ior X dL_isAs_163 ?_
            refine a_istore X dL_isAs_164 (by decide) ?_
            refine a_aload X dL_isAs_166 rfl ?_
            refine a_aload_n X dL_isAs_168 rfl ?_
            refine a_getr X lf8_16 (by first | exact p_o | assumption) rfl (by omega) dL_isAs_169 ?_
            refine a_iload X dL_isAs_172 rfl ?_
            obtain ⟨g_174, h⟩ := zIx h
            refine a_iaload X (by first | exact p_got | assumption) g_174 dL_isAs_174 ?_
            refine a_dup2 X dL_isAs_175 rfl rfl ?_
            obtain ⟨g_176, h⟩ := zIx h
            refine a_iaload X (by first | exact hA | assumption) g_176 dL_isAs_176 ?_
            refine a_aload_n X dL_isAs_177 rfl ?_
            refine a_iload X dL_isAs_178 rfl ?_
            refine a_iconst (v := 0) X dL_isAs_180 (by decide) ?_
            obtain ⟨e_181, f_181, h⟩ := zBx h
            refine a_callVv X dL_isAs_181 miX7_applicant lm8_109 (t_X7_applicant (by first | exact hQ | assumption) f_181) (by first | exact q_o | assumption) rfl rfl rfl (Nat.le_of_ble_eq_true rfl) ⟨by decide, by decide, by decide, by decide⟩ ?_
            refine a_isub X dL_isAs_184 ?_
            obtain ⟨g_185, h⟩ := zIx h
            obtain ⟨M_185, f_185, h⟩ := zLtx h
            refine d_iastore X (by first | exact hA | assumption) g_185 dL_isAs_185 f_185 ?_
            exact Zw.to2 (J_186 _ _ _ _ _ _ _ _ _ h) rfl rfl rfl
          · replace h := (if_neg h_149).symm.trans h
            refine a_iconst (v := 0) X dL_isAs_152 (by decide) ?_
            refine a_zret X (by first | exact Or.inl rfl | exact Or.inr rfl | assumption) hr dL_isAs_153 ⟨by decide, by decide⟩ ?_
            subst hF
            rw [← Option.some.inj h]
            exact ⟨rfl, rfl, (by first | exact Or.inl rfl | exact Or.inr rfl | assumption)⟩
        · replace h := (if_neg h_129).symm.trans h
          refine a_goto (tgt := 186) X dL_isAs_132 (by decide) ?_
          exact Zw.to2 (J_186 _ _ _ _ _ _ _ _ _ h) rfl rfl rfl
      intro x2_55 x3_55 x4_55 x6_55 x7_55 x8_55 x9_55 x10_55 M_55 h
      rw [D_L_isAs_55] at h
      refine a_iload X dL_isAs_55 rfl ?_
      refine a_aload_n X dL_isAs_57 rfl ?_
      refine a_geti X lf8_106 (by first | exact p_o | assumption) rfl dL_isAs_58 ?_
      refine a_icmp_ge (tgt := 192) X dL_isAs_61 (by decide) (fun h_61 => ?_) (fun h_61 => ?_)
      · replace h := (if_pos h_61).symm.trans h
        refine a_aload_n X dL_isAs_192 rfl ?_
        refine a_iload_n X dL_isAs_193 rfl ?_
        obtain ⟨e_194, f_194, h⟩ := zBx h
        refine a_callVv X dL_isAs_194 miX7_winners lm8_154 (t_X7_winners (by first | exact hQ | assumption) f_194) (by first | exact q_o | assumption) rfl rfl rfl (Nat.le_of_ble_eq_true rfl) ⟨by decide, by decide, by decide, by decide⟩ ?_
        refine a_iload X dL_isAs_197 rfl ?_
        refine a_icmp_eq (tgt := 204) X dL_isAs_199 (by decide) (fun h_199 => ?_) (fun h_199 => ?_)
        · replace h := (if_pos h_199).symm.trans h
          refine a_iconst (v := 0) X dL_isAs_204 (by decide) ?_
          refine a_istore X dL_isAs_205 (by decide) ?_
          exact Zw.to2 (H_207 _ _ _ _ _ _ _ _ _ h) rfl rfl rfl
        · replace h := (if_neg h_199).symm.trans h
          refine a_iconst (v := 0) X dL_isAs_202 (by decide) ?_
          refine a_zret X (by first | exact Or.inl rfl | exact Or.inr rfl | assumption) hr dL_isAs_203 ⟨by decide, by decide⟩ ?_
          subst hF
          rw [← Option.some.inj h]
          exact ⟨rfl, rfl, (by first | exact Or.inl rfl | exact Or.inr rfl | assumption)⟩
      · replace h := (if_neg h_61).symm.trans h
        refine a_aload_n X dL_isAs_64 rfl ?_
        refine a_getr X lf8_13 (by first | exact p_o | assumption) rfl (by omega) dL_isAs_65 ?_
        refine a_iload X dL_isAs_68 rfl ?_
        obtain ⟨g_70, h⟩ := zIx h
        refine a_iaload X (by first | exact p_ord | assumption) g_70 dL_isAs_70 ?_
        refine a_istore X dL_isAs_71 (by decide) ?_
        refine a_aload_n X dL_isAs_73 rfl ?_
        refine a_iload_n X dL_isAs_74 rfl ?_
        refine a_iload X dL_isAs_75 rfl ?_
        obtain ⟨e_77, f_77, h⟩ := zBx h
        refine a_callVv X dL_isAs_77 miX7_order lm8_148 (t_X7_order (by first | exact hQ | assumption) f_77) (by first | exact q_o | assumption) rfl rfl rfl (Nat.le_of_ble_eq_true rfl) ⟨by decide, by decide, by decide, by decide⟩ ?_
        refine a_iload X dL_isAs_80 rfl ?_
        refine a_icmp_ne (tgt := 120) X dL_isAs_82 (by decide) (fun h_82 => ?_) (fun h_82 => ?_)
        · replace h := (if_neg h_82).symm.trans h
          exact Zw.to2 (J_120 _ _ _ _ _ _ _ _ _ h) rfl rfl rfl
        · replace h := (if_pos h_82).symm.trans h
          refine a_aload_n X dL_isAs_85 rfl ?_
          refine a_iload_n X dL_isAs_86 rfl ?_
          refine a_iload X dL_isAs_87 rfl ?_
          obtain ⟨e_89, f_89, h⟩ := zBx h
          refine a_callVv X dL_isAs_89 miX7_drawn lm8_151 (t_X7_drawn (by first | exact hQ | assumption) f_89) (by first | exact q_o | assumption) rfl rfl rfl (Nat.le_of_ble_eq_true rfl) ⟨by decide, by decide, by decide, by decide⟩ ?_
          refine a_aload_n X dL_isAs_92 rfl ?_
          refine a_getr X lf8_16 (by first | exact p_o | assumption) rfl (by omega) dL_isAs_93 ?_
          refine a_iload X dL_isAs_96 rfl ?_
          obtain ⟨g_98, h⟩ := zIx h
          refine a_iaload X (by first | exact p_got | assumption) g_98 dL_isAs_98 ?_
          refine a_icmp_ne (tgt := 120) X dL_isAs_99 (by decide) (fun h_99 => ?_) (fun h_99 => ?_)
          · replace h := (if_neg h_99).symm.trans h
            exact Zw.to2 (J_120 _ _ _ _ _ _ _ _ _ h) rfl rfl rfl
          · replace h := (if_pos h_99).symm.trans h
            refine a_aload_n X dL_isAs_102 rfl ?_
            refine a_getr X lf8_16 (by first | exact p_o | assumption) rfl (by omega) dL_isAs_103 ?_
            refine a_iload X dL_isAs_106 rfl ?_
            obtain ⟨g_108, h⟩ := zIx h
            refine a_iaload X (by first | exact p_got | assumption) g_108 dL_isAs_108 ?_
            refine a_if_ge (tgt := 122) X dL_isAs_109 (by decide) (fun h_109 => ?_) (fun h_109 => ?_)
            · replace h := (if_pos h_109).symm.trans h
              exact Zw.to2 (J_122 _ _ _ _ _ _ _ _ _ h) rfl rfl rfl
            · replace h := (if_neg h_109).symm.trans h
              refine a_aload_n X dL_isAs_112 rfl ?_
              obtain ⟨e_113, f_113, h⟩ := zBx h
              refine a_callVv X dL_isAs_113 miX7_status lm8_138 (t_X7_status (by first | exact hQ | assumption) f_113) (by first | exact q_o | assumption) rfl rfl rfl (Nat.le_of_ble_eq_true rfl) ⟨by decide, by decide, by decide, by decide⟩ ?_
              refine a_iconst (v := 5) X dL_isAs_116 (by decide) ?_
              refine a_icmp_eq (tgt := 122) X dL_isAs_117 (by decide) (fun h_117 => ?_) (fun h_117 => ?_)
              · replace h := (if_pos h_117).symm.trans h
                exact Zw.to2 (J_122 _ _ _ _ _ _ _ _ _ h) rfl rfl rfl
              · replace h := (if_neg h_117).symm.trans h
                exact Zw.to2 (J_120 _ _ _ _ _ _ _ _ _ h) rfl rfl rfl
  have H_55 : ∀ (x2_55 : Int32) (x3_55 : Int32) (x4_55 : Int32) (x6_55 : Int32) (x7_55 : Option Value) (x8_55 : Option Value) (x9_55 : Option Value) (x10_55 : Option Value) (M_55 : zMt), D_L_isAs_55 P Q A nA zFu x2_55 x3_55 x4_55 x6_55 M_55 = some r → Zw p l e { frames := 6, cells := 3, slots := 15, locals := 36 * (6) } s m args below meth c G b 11 (MQ below (zQ G b FQ) args s 3 15 (fun q : Nat => b ≤ q)) 3 15 55 [some (.ref (P)), some (.ref (Q)), some (.int x2_55), some (.int x3_55), some (.int x4_55), some (.ref (A)), some (.int x6_55), x7_55, x8_55, x9_55, x10_55] [] (L, M_55, N) := L_55 zFu
  have L_25 : ∀ u : Nat, ∀ (x2_25 : Int32) (x3_25 : Int32) (x4_25 : Int32) (x6_25 : Int32) (x7_25 : Option Value) (x8_25 : Option Value) (x9_25 : Option Value) (x10_25 : Option Value) (M_25 : zMt), D_L_isAs_25 P Q A nA u x2_25 x3_25 x4_25 x6_25 M_25 = some r → Zw p l e { frames := 6, cells := 3, slots := 15, locals := 36 * (6) } s m args below meth c G b 11 (MQ below (zQ G b FQ) args s 3 15 (fun q : Nat => b ≤ q)) 3 15 25 [some (.ref (P)), some (.ref (Q)), some (.int x2_25), some (.int x3_25), some (.int x4_25), some (.ref (A)), some (.int x6_25), x7_25, x8_25, x9_25, x10_25] [] (L, M_25, N) := by
    intro u
    induction u with
    | zero => intro x2_25 x3_25 x4_25 x6_25 x7_25 x8_25 x9_25 x10_25 M_25 h; cases (show none = some r from h)
    | succ u_25 ih_25 =>
      intro x2_25 x3_25 x4_25 x6_25 x7_25 x8_25 x9_25 x10_25 M_25 h
      rw [D_L_isAs_25] at h
      refine a_iload X dL_isAs_25 rfl ?_
      refine a_aload_n X dL_isAs_27 rfl ?_
      refine a_geti X lf8_120 (by first | exact p_o | assumption) rfl dL_isAs_28 ?_
      refine a_icmp_ge (tgt := 52) X dL_isAs_31 (by decide) (fun h_31 => ?_) (fun h_31 => ?_)
      · replace h := (if_pos h_31).symm.trans h
        refine a_iconst (v := 0) X dL_isAs_52 (by decide) ?_
        refine a_istore X dL_isAs_53 (by decide) ?_
        exact Zw.to2 (H_55 _ _ _ _ _ _ _ _ _ h) rfl rfl rfl
      · replace h := (if_neg h_31).symm.trans h
        refine a_aload X dL_isAs_34 rfl ?_
        refine a_iload X dL_isAs_36 rfl ?_
        refine a_aload_n X dL_isAs_38 rfl ?_
        refine a_iload X dL_isAs_39 rfl ?_
        refine a_iconst (v := 0) X dL_isAs_41 (by decide) ?_
        obtain ⟨e_42, f_42, h⟩ := zBx h
        refine a_callVv X dL_isAs_42 miX7_unit lm8_123 (t_X7_unit (by first | exact hQ | assumption) f_42) (by first | exact q_o | assumption) rfl rfl rfl (Nat.le_of_ble_eq_true rfl) ⟨by decide, by decide, by decide, by decide⟩ ?_
        obtain ⟨g_45, h⟩ := zIx h
        obtain ⟨M_45, f_45, h⟩ := zLtx h
        refine d_iastore X (by first | exact hA | assumption) g_45 dL_isAs_45 f_45 ?_
        refine a_iinc (v := x6_25 + 1) X dL_isAs_46 (by decide) rfl zi_1 ?_
        refine a_goto (tgt := 25) X dL_isAs_49 (by decide) ?_
        exact Zw.to2 (ih_25 _ _ _ _ _ _ _ _ _ h) rfl rfl rfl
  have H_25 : ∀ (x2_25 : Int32) (x3_25 : Int32) (x4_25 : Int32) (x6_25 : Int32) (x7_25 : Option Value) (x8_25 : Option Value) (x9_25 : Option Value) (x10_25 : Option Value) (M_25 : zMt), D_L_isAs_25 P Q A nA zFu x2_25 x3_25 x4_25 x6_25 M_25 = some r → Zw p l e { frames := 6, cells := 3, slots := 15, locals := 36 * (6) } s m args below meth c G b 11 (MQ below (zQ G b FQ) args s 3 15 (fun q : Nat => b ≤ q)) 3 15 25 [some (.ref (P)), some (.ref (Q)), some (.int x2_25), some (.int x3_25), some (.int x4_25), some (.ref (A)), some (.int x6_25), x7_25, x8_25, x9_25, x10_25] [] (L, M_25, N) := L_25 zFu
  unfold D_L_isAs at h
  refine a_iconst (v := 0) X dL_isAs_22 (by decide) ?_
  refine a_istore X dL_isAs_23 (by decide) ?_
  exact Zw.to2 (H_25 _ _ _ _ _ _ _ _ _ h) rfl rfl rfl
