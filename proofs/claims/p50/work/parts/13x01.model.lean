theorem v_X8_behindNow {P : Nat} {M : zMt} {v0 : Int32} (p_jB : jB P M) (p_jS : jS P M) (p_jL : jL P M) (p_jH : jH P M) (p_jR : jR P M) (i_5 : 0 ≤ Int32.toInt v0) (i_6 : Int32.toInt v0 < Int32.toInt (M P 8)) : ∃ r, D_X8_behindNow P M v0 = some r ∧ ((0 ≤ Int32.toInt r) ∧ (Int32.toInt r ≤ 20)) := by
  obtain ⟨b1, b2, b3, b4, b5, b6⟩ := id p_jB
  obtain ⟨h, hh, hlt⟩ : ∃ h : Nat, v0 = nI h ∧ (h : Int) = v0.toInt := ⟨v0.toInt.toNat, z_toN i_5, by omega⟩
  subst hh
  obtain ⟨a, a1, a2, a3⟩ := z_scan (h := h) p_jB p_jH (by omega)
  have z0 : (0 : Int32) + nI h = nI h := by rw [show (0 : Int32) = nI 0 from rfl, nI_add, Nat.zero_add]
  have hs := p_jS.1 h (by omega)
  have vh : vp_in (nI h) 82 := vp_in_nI (by omega) (by decide)
  have ch : (nI h).toNatClampNeg = h := nI_clamp (by omega)
  have va : vp_in (nI a) 10 := vp_in_nI (by omega) (by decide)
  have ta : (nI a).toInt = a := nI_toInt (by omega)
  have o1 : (1 : Int32).toInt = 1 := by decide
  have o20 : (20 : Int32).toInt = 20 := by decide
  have L : ∀ (u x : Nat), x ≤ a → a - x < u → ∃ r, D_X8_behindNow_2 P M u (nI h) (nI x) = some r ∧ ((0 ≤ Int32.toInt r) ∧ (Int32.toInt r ≤ 20)) := by
    intro u
    induction u with
    | zero => intro x h1 h2; omega
    | succ u ih =>
      intro x h1 h2
      rw [D_X8_behindNow_2]
      refine vI (vp_in_nI (n := x) (by omega) (by decide)) ?_
      rw [nI_clamp (n := x) (by omega)]
      refine vB v_X8_has (fun e f q => ?_)
      refine vIf (fun h0 => ?_) (fun h0 => ?_)
      · have hx : x ≠ a := fun z => by
          subst z
          rcases q.2 with ⟨q2, _⟩ | ⟨_, q2⟩
          · rw [q2] at h0; exact absurd h0 (by decide)
          · exact absurd a2 q2
        rw [nI_1]
        exact ih (x + 1) (by omega) (by omega)
      · have hx : x = a := by
          rcases q.2 with ⟨_, q2⟩ | ⟨q2, _⟩
          · by_cases z : x = a
            · exact z
            · exact absurd q2 (a3 x (by omega))
          · exact absurd q2 h0
        subst hx
        refine vI va ?_
        refine vIf (fun _ => ?_) (fun _ => ?_)
        · refine vB (v_X8_choiceMany p_jB p_jS p_jL (by omega) (by omega)) (fun e2 f2 q2 => ?_)
          refine vIf (fun _ => ?_) (fun _ => ?_)
          · rw [z0, ch]
            exact vI vh ⟨_, rfl, hs⟩
          · rw [z0, ch]
            refine vI vh ⟨_, rfl, ?_⟩
            have e1 := z_add (x := M (P + 1) h) (y := 1) (by omega) (by omega)
            split
            · rename_i hc
              have := Int32.lt_iff_toInt_lt.mp hc
              omega
            · rw [o20]; omega
        · refine vI va ?_
          refine vB (v_X8_choiceOf p_jB p_jS p_jL (by omega) (by omega) (by decide)) (fun e2 f2 q2 => ?_)
          refine vIf (fun _ => ⟨_, rfl, by decide, by decide⟩) (fun _ => ?_)
          rw [z0, ch]
          exact vI vh ⟨_, rfl, hs⟩
  unfold D_X8_behindNow
  exact L zFu 0 (Nat.zero_le _) (by unfold zFu; omega)
def WM_X8_behind (P : Nat) (a j : Nat) : Prop := (P + 11 ≤ a ∧ a < P + 23) ∨ (a = P ∧ (j = 6 ∨ j = 12 ∨ j = 33))
def WN_X8_behind (P : Nat) (a j : Nat) : Prop := (a = P ∧ (j = 46))
theorem wz_M_X8_refuse_X8_behind {P a j : Nat} (h : ¬ WM_X8_behind P a j) : ¬ WM_X8_refuse P a j := by unfold WM_X8_refuse; unfold WM_X8_behind at h; omega
theorem wz_M_X8_laysResult_X8_behind {P a j : Nat} (h : ¬ WM_X8_behind P a j) : ¬ WM_X8_laysResult P a j := by unfold WM_X8_laysResult; unfold WM_X8_behind at h; omega
theorem wz_N_X8_laysResult_X8_behind {P a j : Nat} (h : ¬ WN_X8_behind P a j) : ¬ WN_X8_laysResult P a j := by unfold WN_X8_laysResult; unfold WN_X8_behind at h; omega
theorem wz_M_X8_gives_X8_behind {P a j : Nat} (h : ¬ WM_X8_behind P a j) : ¬ WM_X8_gives P a j := by unfold WM_X8_gives; unfold WM_X8_behind at h; omega
set_option maxRecDepth 100000 in
set_option maxHeartbeats 4000000 in
theorem v_X8_behind {P : Nat} {v0 : Int32} {v1 : Int32} {M0 : zMt} {N0 : zNt}  (p_jB : jB P M0) (p_jS : jS P M0) (p_jR : jR P M0) (p_jK : jK P M0) (p_jT : jT P M0) : ∃ r, D_X8_behind P v0 v1 M0 N0 = some r ∧ ((∀ a j, ¬ WM_X8_behind P a j → r.2.1 a j = M0 a j) ∧ (∀ a j, ¬ WN_X8_behind P a j → r.2.2 a j = N0 a j) ∧ ((jB P r.2.1) ∧ (jS P r.2.1) ∧ (jR P r.2.1) ∧ (jK P r.2.1) ∧ (jT P r.2.1))) := by
  obtain ⟨u0_jB, u1_jB, u2_jB, u3_jB, u4_jB, u5_jB⟩ := id p_jB
  obtain ⟨u0_jS, u1_jS, u2_jS, u3_jS, u4_jS, u5_jS, u6_jS, u7_jS⟩ := jS.ints p_jS
  obtain ⟨u0_jT, u1_jT, u2_jT, u3_jT, u4_jT, u5_jT⟩ := id p_jT
  unfold D_X8_behind
  refine vB (v_X8_isSeed) (fun e_1 f_1 q_1 => ?_)
  have b_1 := q_1.1
  have x0_1 := q_1.2
  (try simp only [Int32.toInt_add, Int32.toInt_sub, Int32.toInt_mul, Int32.toInt_toInt64, Int64.toInt_add, z_m1, Int32.reduceToInt, Int64.reduceToInt, Int32.reduceToNatClampNeg, Int.bmod_def] at x0_1)
  refine vIf (fun h_4 => ?_) (fun h_4 => ?_)
  · have i_4 := congrArg Int32.toInt h_4
    (try simp only [Int32.toInt_add, Int32.toInt_sub, Int32.toInt_mul, Int32.toInt_toInt64, Int64.toInt_add, z_m1, Int32.reduceToInt, Int64.reduceToInt, Int32.reduceToNatClampNeg, Int.bmod_def] at i_4)
    refine vB (v_X8_refuse) (fun e_9 f_9 q_9 => ?_)
    have k_9 : ∀ a j, ¬ WM_X8_behind P a j → e_9.2 a j = M0 a j := fun a j h => (q_9 a j (wz_M_X8_refuse_X8_behind h))
    have c7_9 : Int32.toInt (e_9.2 P 7) = Int32.toInt (M0 P 7) := congrArg Int32.toInt (q_9 P 7 (wc_X8_refuse_7))
    have c8_9 : Int32.toInt (e_9.2 P 8) = Int32.toInt (M0 P 8) := congrArg Int32.toInt (q_9 P 8 (wc_X8_refuse_8))
    have c33_9 : Int32.toInt (e_9.2 P 33) = Int32.toInt (M0 P 33) := congrArg Int32.toInt (q_9 P 33 (wc_X8_refuse_33))
    have n_9 : nA P e_9.2 = nA P M0 := nA_congr (fun a j h => q_9 a j (wf_nA_X8_refuse h))
    have p_jB_9 : jB P e_9.2 := jB.mono p_jB (fun a j h => q_9 a j (wf_jB_X8_refuse h))
    obtain ⟨u0_jB_9, u1_jB_9, u2_jB_9, u3_jB_9, u4_jB_9, u5_jB_9⟩ := id p_jB_9
    have p_jS_9 : jS P e_9.2 := jS.mono p_jS (fun a j h => q_9 a j (wf_jS_X8_refuse h))
    obtain ⟨u0_jS_9, u1_jS_9, u2_jS_9, u3_jS_9, u4_jS_9, u5_jS_9, u6_jS_9, u7_jS_9⟩ := jS.ints p_jS_9
    have p_jR_9 : jR P e_9.2 := jR.mono p_jR (fun a j h => q_9 a j (wf_jR_X8_refuse h))
    have p_jK_9 : jK P e_9.2 := jK.mono p_jK (fun a j h => q_9 a j (wf_jK_X8_refuse h))
    have p_jT_9 : jT P e_9.2 := jT.mono p_jT (fun a j h => q_9 a j (wf_jT_X8_refuse h))
    obtain ⟨u0_jT_9, u1_jT_9, u2_jT_9, u3_jT_9, u4_jT_9, u5_jT_9⟩ := id p_jT_9
    exact ⟨_, rfl, k_9, (fun _ _ _ => rfl), ⟨p_jB_9, p_jS_9, p_jR_9, p_jK_9, p_jT_9⟩⟩
  · have i_4 : ¬ Int32.toInt e_1 = Int32.toInt (0 : Int32) := fun q => h_4 (Int32.toInt_inj.mp q)
    (try simp only [Int32.toInt_add, Int32.toInt_sub, Int32.toInt_mul, Int32.toInt_toInt64, Int64.toInt_add, z_m1, Int32.reduceToInt, Int64.reduceToInt, Int32.reduceToNatClampNeg, Int.bmod_def] at i_4)
    refine vB (v_X8_isHunter p_jB) (fun e_15 f_15 q_15 => ?_)
    have b_15 := q_15.1
    have x0_15 := q_15.2
    (try simp only [Int32.toInt_add, Int32.toInt_sub, Int32.toInt_mul, Int32.toInt_toInt64, Int64.toInt_add, z_m1, Int32.reduceToInt, Int64.reduceToInt, Int32.reduceToNatClampNeg, Int.bmod_def] at x0_15)
    refine vIf (fun h_18 => ?_) (fun h_18 => ?_)
    · have i_18 := congrArg Int32.toInt h_18
      (try simp only [Int32.toInt_add, Int32.toInt_sub, Int32.toInt_mul, Int32.toInt_toInt64, Int64.toInt_add, z_m1, Int32.reduceToInt, Int64.reduceToInt, Int32.reduceToNatClampNeg, Int.bmod_def] at i_18)
      refine vB (v_X8_refuse) (fun e_23 f_23 q_23 => ?_)
      have k_23 : ∀ a j, ¬ WM_X8_behind P a j → e_23.2 a j = M0 a j := fun a j h => (q_23 a j (wz_M_X8_refuse_X8_behind h))
      have c7_23 : Int32.toInt (e_23.2 P 7) = Int32.toInt (M0 P 7) := congrArg Int32.toInt (q_23 P 7 (wc_X8_refuse_7))
      have c8_23 : Int32.toInt (e_23.2 P 8) = Int32.toInt (M0 P 8) := congrArg Int32.toInt (q_23 P 8 (wc_X8_refuse_8))
      have c33_23 : Int32.toInt (e_23.2 P 33) = Int32.toInt (M0 P 33) := congrArg Int32.toInt (q_23 P 33 (wc_X8_refuse_33))
      have n_23 : nA P e_23.2 = nA P M0 := nA_congr (fun a j h => q_23 a j (wf_nA_X8_refuse h))
      have p_jB_23 : jB P e_23.2 := jB.mono p_jB (fun a j h => q_23 a j (wf_jB_X8_refuse h))
      obtain ⟨u0_jB_23, u1_jB_23, u2_jB_23, u3_jB_23, u4_jB_23, u5_jB_23⟩ := id p_jB_23
      have p_jS_23 : jS P e_23.2 := jS.mono p_jS (fun a j h => q_23 a j (wf_jS_X8_refuse h))
      obtain ⟨u0_jS_23, u1_jS_23, u2_jS_23, u3_jS_23, u4_jS_23, u5_jS_23, u6_jS_23, u7_jS_23⟩ := jS.ints p_jS_23
      have p_jR_23 : jR P e_23.2 := jR.mono p_jR (fun a j h => q_23 a j (wf_jR_X8_refuse h))
      have p_jK_23 : jK P e_23.2 := jK.mono p_jK (fun a j h => q_23 a j (wf_jK_X8_refuse h))
      have p_jT_23 : jT P e_23.2 := jT.mono p_jT (fun a j h => q_23 a j (wf_jT_X8_refuse h))
      obtain ⟨u0_jT_23, u1_jT_23, u2_jT_23, u3_jT_23, u4_jT_23, u5_jT_23⟩ := id p_jT_23
      exact ⟨_, rfl, k_23, (fun _ _ _ => rfl), ⟨p_jB_23, p_jS_23, p_jR_23, p_jK_23, p_jT_23⟩⟩
    · have i_18 : ¬ Int32.toInt e_15 = Int32.toInt (0 : Int32) := fun q => h_18 (Int32.toInt_inj.mp q)
      (try simp only [Int32.toInt_add, Int32.toInt_sub, Int32.toInt_mul, Int32.toInt_toInt64, Int64.toInt_add, z_m1, Int32.reduceToInt, Int64.reduceToInt, Int32.reduceToNatClampNeg, Int.bmod_def] at i_18)
      refine vB (v_X8_laysResult p_jB p_jS p_jR (by first | omega | (simp only [Int32.toInt_add, Int32.toInt_sub, Int32.toInt_mul, Int32.toInt_toInt64, Int64.toInt_add, z_m1, Int32.reduceToInt, Int64.reduceToInt, Int32.reduceToNatClampNeg, Int.bmod_def, or_true, true_or, and_true, true_and] <;> omega))) (fun e_29 f_29 q_29 => ?_)
      have k_29 : ∀ a j, ¬ WM_X8_behind P a j → e_29.1 a j = M0 a j := fun a j h => (q_29.1 a j (wz_M_X8_laysResult_X8_behind h))
      have kn_29 : ∀ a j, ¬ WN_X8_behind P a j → e_29.2 a j = N0 a j := fun a j h => (q_29.2.1 a j (wz_N_X8_laysResult_X8_behind h))
      have c7_29 : Int32.toInt (e_29.1 P 7) = Int32.toInt (M0 P 7) := congrArg Int32.toInt (q_29.1 P 7 (wc_X8_laysResult_7))
      have c8_29 : Int32.toInt (e_29.1 P 8) = Int32.toInt (M0 P 8) := congrArg Int32.toInt (q_29.1 P 8 (wc_X8_laysResult_8))
      have n_29 : nA P e_29.1 = nA P M0 := nA_congr (fun a j h => q_29.1 a j (wf_nA_X8_laysResult h))
      have p_jS_29 : jS P e_29.1 := jS.mono p_jS (fun a j h => q_29.1 a j (wf_jS_X8_laysResult h))
      obtain ⟨u0_jS_29, u1_jS_29, u2_jS_29, u3_jS_29, u4_jS_29, u5_jS_29, u6_jS_29, u7_jS_29⟩ := jS.ints p_jS_29
      have p_jK_29 : jK P e_29.1 := jK.mono p_jK (fun a j h => q_29.1 a j (wf_jK_X8_laysResult h))
      have p_jT_29 : jT P e_29.1 := jT.mono p_jT (fun a j h => q_29.1 a j (wf_jT_X8_laysResult h))
      obtain ⟨u0_jT_29, u1_jT_29, u2_jT_29, u3_jT_29, u4_jT_29, u5_jT_29⟩ := id p_jT_29
      obtain ⟨x0_29, x1_29, x2_29, x3_29, x4_29, x5_29⟩ := q_29.2.2
      obtain ⟨u0_jB_29, u1_jB_29, u2_jB_29, u3_jB_29, u4_jB_29, u5_jB_29⟩ := id x0_29
      (try simp only [Int32.toInt_add, Int32.toInt_sub, Int32.toInt_mul, Int32.toInt_toInt64, Int64.toInt_add, z_m1, Int32.reduceToInt, Int64.reduceToInt, Int32.reduceToNatClampNeg, Int.bmod_def] at x5_29)
      refine vB (v_X8_behindNow x0_29 p_jS_29 x1_29 x2_29 x4_29 (by first | omega | (simp only [Int32.toInt_add, Int32.toInt_sub, Int32.toInt_mul, Int32.toInt_toInt64, Int64.toInt_add, z_m1, Int32.reduceToInt, Int64.reduceToInt, Int32.reduceToNatClampNeg, Int.bmod_def, or_true, true_or, and_true, true_and] <;> omega)) (by first | omega | (simp only [Int32.toInt_add, Int32.toInt_sub, Int32.toInt_mul, Int32.toInt_toInt64, Int64.toInt_add, z_m1, Int32.reduceToInt, Int64.reduceToInt, Int32.reduceToNatClampNeg, Int.bmod_def, or_true, true_or, and_true, true_and] <;> omega))) (fun e_35 f_35 q_35 => ?_)
      obtain ⟨x0_35, x1_35⟩ := q_35
      (try simp only [Int32.toInt_add, Int32.toInt_sub, Int32.toInt_mul, Int32.toInt_toInt64, Int64.toInt_add, z_m1, Int32.reduceToInt, Int64.reduceToInt, Int32.reduceToNatClampNeg, Int.bmod_def] at x0_35)
      (try simp only [Int32.toInt_add, Int32.toInt_sub, Int32.toInt_mul, Int32.toInt_toInt64, Int64.toInt_add, z_m1, Int32.reduceToInt, Int64.reduceToInt, Int32.reduceToNatClampNeg, Int.bmod_def] at x1_35)
      refine vB (v_X8_gives) (fun e_38 f_38 q_38 => ?_)
      have k_38 : ∀ a j, ¬ WM_X8_behind P a j → e_38.2 a j = M0 a j := fun a j h => (q_38 a j (wz_M_X8_gives_X8_behind h)).trans (k_29 a j h)
      have c7_38 : Int32.toInt (e_38.2 P 7) = Int32.toInt (e_29.1 P 7) := congrArg Int32.toInt (q_38 P 7 (wc_X8_gives_7))
      have c8_38 : Int32.toInt (e_38.2 P 8) = Int32.toInt (e_29.1 P 8) := congrArg Int32.toInt (q_38 P 8 (wc_X8_gives_8))
      have c33_38 : Int32.toInt (e_38.2 P 33) = Int32.toInt (e_29.1 P 33) := congrArg Int32.toInt (q_38 P 33 (wc_X8_gives_33))
      have n_38 : nA P e_38.2 = nA P e_29.1 := nA_congr (fun a j h => q_38 a j (wf_nA_X8_gives h))
      have p_jS_38 : jS P e_38.2 := jS.mono p_jS_29 (fun a j h => q_38 a j (wf_jS_X8_gives h))
      obtain ⟨u0_jS_38, u1_jS_38, u2_jS_38, u3_jS_38, u4_jS_38, u5_jS_38, u6_jS_38, u7_jS_38⟩ := jS.ints p_jS_38
      have p_jK_38 : jK P e_38.2 := jK.mono p_jK_29 (fun a j h => q_38 a j (wf_jK_X8_gives h))
      have p_jT_38 : jT P e_38.2 := jT.mono p_jT_29 (fun a j h => q_38 a j (wf_jT_X8_gives h))
      obtain ⟨u0_jT_38, u1_jT_38, u2_jT_38, u3_jT_38, u4_jT_38, u5_jT_38⟩ := id p_jT_38
      have p_jB_38 : jB P e_38.2 := jB.mono x0_29 (fun a j h => q_38 a j (wf_jB_X8_gives h))
      obtain ⟨u0_jB_38, u1_jB_38, u2_jB_38, u3_jB_38, u4_jB_38, u5_jB_38⟩ := id p_jB_38
      have p_jL_38 : jL P e_38.2 := jL.mono x1_29 (fun a j h => q_38 a j (wf_jL_X8_gives h))
      have p_jH_38 : jH P e_38.2 := jH.mono x2_29 (fun a j h => q_38 a j (wf_jH_X8_gives h))
      have p_jO_38 : jO P e_38.2 := jO.mono x3_29 (fun a j h => q_38 a j (wf_jO_X8_gives h))
      have p_jR_38 : jR P e_38.2 := jR.mono x4_29 (fun a j h => q_38 a j (wf_jR_X8_gives h))
      exact ⟨_, rfl, k_38, kn_29, ⟨p_jB_38, p_jS_38, p_jR_38, p_jK_38, p_jT_38⟩⟩
set_option maxRecDepth 100000 in
set_option maxHeartbeats 4000000 in
theorem v_X8_hasFirst {P : Nat} {M : zMt} {v0 : Int32}  (p_jB : jB P M) (p_jS : jS P M) (p_jL : jL P M) (p_jR : jR P M) (i_4 : 0 ≤ Int32.toInt v0) (i_5 : Int32.toInt v0 < Int32.toInt (M P 33)) : ∃ r, D_X8_hasFirst P M v0 = some r ∧ ((r = 0 ∨ r = 1)) := by
  obtain ⟨u0_jB, u1_jB, u2_jB, u3_jB, u4_jB, u5_jB⟩ := id p_jB
  obtain ⟨u0_jS, u1_jS, u2_jS, u3_jS, u4_jS, u5_jS, u6_jS, u7_jS⟩ := jS.ints p_jS
  have T_30 : ∀ (y0_30 : Int32), (jB P M) → (jL P M) → (jR P M) → (jS P M) → (y0_30 = 0 ∨ y0_30 = 1) → ∃ r, D_X8_hasFirst_30 P M y0_30 = some r ∧ ((r = 0 ∨ r = 1)) := by
    intro y0_30 p_jB_30 p_jL_30 p_jR_30 p_jS_30 f0_30
    obtain ⟨u0_jB_30, u1_jB_30, u2_jB_30, u3_jB_30, u4_jB_30, u5_jB_30⟩ := id p_jB_30
    obtain ⟨u0_jS_30, u1_jS_30, u2_jS_30, u3_jS_30, u4_jS_30, u5_jS_30, u6_jS_30, u7_jS_30⟩ := jS.ints p_jS_30
    unfold D_X8_hasFirst_30
    exact ⟨_, rfl, (by first | exact Or.inl rfl | exact Or.inr rfl | assumption)⟩
  have T_29 : (jB P M) → (jL P M) → (jR P M) → (jS P M) → ∃ r, D_X8_hasFirst_29 P M = some r ∧ ((r = 0 ∨ r = 1)) := by
    intro  p_jB_29 p_jL_29 p_jR_29 p_jS_29
    obtain ⟨u0_jB_29, u1_jB_29, u2_jB_29, u3_jB_29, u4_jB_29, u5_jB_29⟩ := id p_jB_29
    obtain ⟨u0_jS_29, u1_jS_29, u2_jS_29, u3_jS_29, u4_jS_29, u5_jS_29, u6_jS_29, u7_jS_29⟩ := jS.ints p_jS_29
    unfold D_X8_hasFirst_29
    exact T_30 _ p_jB_29 p_jL_29 p_jR_29 p_jS_29 (by first | exact Or.inl rfl | exact Or.inr rfl | assumption)
  unfold D_X8_hasFirst
  refine vI (vp_of (by first | omega | (simp only [Int32.toInt_add, Int32.toInt_sub, Int32.toInt_mul, Int32.toInt_toInt64, Int64.toInt_add, z_m1, Int32.reduceToInt, Int64.reduceToInt, Int32.reduceToNatClampNeg, Int.bmod_def, or_true, true_or, and_true, true_and] <;> omega)) (by first | omega | (simp only [Int32.toInt_add, Int32.toInt_sub, Int32.toInt_mul, Int32.toInt_toInt64, Int64.toInt_add, z_m1, Int32.reduceToInt, Int64.reduceToInt, Int32.reduceToNatClampNeg, Int.bmod_def, or_true, true_or, and_true, true_and] <;> omega))) ?_
  obtain ⟨w0_5, w1_5⟩ := jR.el p_jR (x := v0) (by first | omega | (simp only [Int32.toInt_add, Int32.toInt_sub, Int32.toInt_mul, Int32.toInt_toInt64, Int64.toInt_add, z_m1, Int32.reduceToInt, Int64.reduceToInt, Int32.reduceToNatClampNeg, Int.bmod_def, or_true, true_or, and_true, true_and] <;> omega)) (by first | omega | (simp only [Int32.toInt_add, Int32.toInt_sub, Int32.toInt_mul, Int32.toInt_toInt64, Int64.toInt_add, z_m1, Int32.reduceToInt, Int64.reduceToInt, Int32.reduceToNatClampNeg, Int.bmod_def, or_true, true_or, and_true, true_and] <;> omega))
  refine vIf (fun h_7 => ?_) (fun h_7 => ?_)
  · have i_7 := congrArg Int32.toInt h_7
    (try simp only [Int32.toInt_add, Int32.toInt_sub, Int32.toInt_mul, Int32.toInt_toInt64, Int64.toInt_add, z_m1, Int32.reduceToInt, Int64.reduceToInt, Int32.reduceToNatClampNeg, Int.bmod_def] at i_7)
    exact T_29 p_jB p_jL p_jR p_jS
  · have i_7 : ¬ Int32.toInt (M (P + 19) v0.toNatClampNeg) = Int32.toInt (-1 : Int32) := fun q => h_7 (Int32.toInt_inj.mp q)
    (try simp only [Int32.toInt_add, Int32.toInt_sub, Int32.toInt_mul, Int32.toInt_toInt64, Int64.toInt_add, z_m1, Int32.reduceToInt, Int64.reduceToInt, Int32.reduceToNatClampNeg, Int.bmod_def] at i_7)
    refine vI (vp_of (by first | omega | (simp only [Int32.toInt_add, Int32.toInt_sub, Int32.toInt_mul, Int32.toInt_toInt64, Int64.toInt_add, z_m1, Int32.reduceToInt, Int64.reduceToInt, Int32.reduceToNatClampNeg, Int.bmod_def, or_true, true_or, and_true, true_and] <;> omega)) (by first | omega | (simp only [Int32.toInt_add, Int32.toInt_sub, Int32.toInt_mul, Int32.toInt_toInt64, Int64.toInt_add, z_m1, Int32.reduceToInt, Int64.reduceToInt, Int32.reduceToNatClampNeg, Int.bmod_def, or_true, true_or, and_true, true_and] <;> omega))) ?_
    obtain ⟨w0_15, w1_15⟩ := jR.el p_jR (x := v0) (by first | omega | (simp only [Int32.toInt_add, Int32.toInt_sub, Int32.toInt_mul, Int32.toInt_toInt64, Int64.toInt_add, z_m1, Int32.reduceToInt, Int64.reduceToInt, Int32.reduceToNatClampNeg, Int.bmod_def, or_true, true_or, and_true, true_and] <;> omega)) (by first | omega | (simp only [Int32.toInt_add, Int32.toInt_sub, Int32.toInt_mul, Int32.toInt_toInt64, Int64.toInt_add, z_m1, Int32.reduceToInt, Int64.reduceToInt, Int32.reduceToNatClampNeg, Int.bmod_def, or_true, true_or, and_true, true_and] <;> omega))
    refine vB (v_X8_choiceOf p_jB p_jS p_jL (by first | omega | (simp only [Int32.toInt_add, Int32.toInt_sub, Int32.toInt_mul, Int32.toInt_toInt64, Int64.toInt_add, z_m1, Int32.reduceToInt, Int64.reduceToInt, Int32.reduceToNatClampNeg, Int.bmod_def, or_true, true_or, and_true, true_and] <;> omega)) (by first | omega | (simp only [Int32.toInt_add, Int32.toInt_sub, Int32.toInt_mul, Int32.toInt_toInt64, Int64.toInt_add, z_m1, Int32.reduceToInt, Int64.reduceToInt, Int32.reduceToNatClampNeg, Int.bmod_def, or_true, true_or, and_true, true_and] <;> omega)) (by first | omega | (simp only [Int32.toInt_add, Int32.toInt_sub, Int32.toInt_mul, Int32.toInt_toInt64, Int64.toInt_add, z_m1, Int32.reduceToInt, Int64.reduceToInt, Int32.reduceToNatClampNeg, Int.bmod_def, or_true, true_or, and_true, true_and] <;> omega))) (fun e_19 f_19 q_19 => ?_)
    obtain ⟨x0_19, x1_19, x2_19⟩ := q_19
    (try simp only [Int32.toInt_add, Int32.toInt_sub, Int32.toInt_mul, Int32.toInt_toInt64, Int64.toInt_add, z_m1, Int32.reduceToInt, Int64.reduceToInt, Int32.reduceToNatClampNeg, Int.bmod_def] at x0_19)
    (try simp only [Int32.toInt_add, Int32.toInt_sub, Int32.toInt_mul, Int32.toInt_toInt64, Int64.toInt_add, z_m1, Int32.reduceToInt, Int64.reduceToInt, Int32.reduceToNatClampNeg, Int.bmod_def] at x1_19)
    (try simp only [Int32.toInt_add, Int32.toInt_sub, Int32.toInt_mul, Int32.toInt_toInt64, Int64.toInt_add, z_m1, Int32.reduceToInt, Int64.reduceToInt, Int32.reduceToNatClampNeg, Int.bmod_def] at x2_19)
    refine vIf (fun h_22 => ?_) (fun h_22 => ?_)
    · have i_22 := congrArg Int32.toInt h_22
      (try simp only [Int32.toInt_add, Int32.toInt_sub, Int32.toInt_mul, Int32.toInt_toInt64, Int64.toInt_add, z_m1, Int32.reduceToInt, Int64.reduceToInt, Int32.reduceToNatClampNeg, Int.bmod_def] at i_22)
      exact T_30 _ p_jB p_jL p_jR p_jS (by first | exact Or.inl rfl | exact Or.inr rfl | assumption)
    · have i_22 : ¬ Int32.toInt (M (P + 19) v0.toNatClampNeg) = Int32.toInt e_19 := fun q => h_22 (Int32.toInt_inj.mp q)
      (try simp only [Int32.toInt_add, Int32.toInt_sub, Int32.toInt_mul, Int32.toInt_toInt64, Int64.toInt_add, z_m1, Int32.reduceToInt, Int64.reduceToInt, Int32.reduceToNatClampNeg, Int.bmod_def] at i_22)
      exact T_29 p_jB p_jL p_jR p_jS
def WM_X8_lucky (P : Nat) (a j : Nat) : Prop := (P + 11 ≤ a ∧ a < P + 23) ∨ (a = P ∧ (j = 6 ∨ j = 12 ∨ j = 33))
def WN_X8_lucky (P : Nat) (a j : Nat) : Prop := (a = P ∧ (j = 46))
theorem wz_M_X8_refuse_X8_lucky {P a j : Nat} (h : ¬ WM_X8_lucky P a j) : ¬ WM_X8_refuse P a j := by unfold WM_X8_refuse; unfold WM_X8_lucky at h; omega
theorem wz_M_X8_laysResult_X8_lucky {P a j : Nat} (h : ¬ WM_X8_lucky P a j) : ¬ WM_X8_laysResult P a j := by unfold WM_X8_laysResult; unfold WM_X8_lucky at h; omega
theorem wz_N_X8_laysResult_X8_lucky {P a j : Nat} (h : ¬ WN_X8_lucky P a j) : ¬ WN_X8_laysResult P a j := by unfold WN_X8_laysResult; unfold WN_X8_lucky at h; omega
theorem wz_M_X8_gives_X8_lucky {P a j : Nat} (h : ¬ WM_X8_lucky P a j) : ¬ WM_X8_gives P a j := by unfold WM_X8_gives; unfold WM_X8_lucky at h; omega
theorem wz_M_X8_isApplicant_X8_lucky {P a j : Nat} (h : ¬ WM_X8_lucky P a j) : ¬ WM_X8_isApplicant P a j := by unfold WM_X8_isApplicant; unfold WM_X8_lucky at h; omega
set_option maxRecDepth 100000 in
set_option maxHeartbeats 4000000 in
theorem v_X8_lucky {P : Nat} {v0 : Int32} {v1 : Int32} {M0 : zMt} {N0 : zNt}  (p_jB : jB P M0) (p_jS : jS P M0) (p_jR : jR P M0) (p_jK : jK P M0) (p_jT : jT P M0) : ∃ r, D_X8_lucky P v0 v1 M0 N0 = some r ∧ ((∀ a j, ¬ WM_X8_lucky P a j → r.2.1 a j = M0 a j) ∧ (∀ a j, ¬ WN_X8_lucky P a j → r.2.2 a j = N0 a j) ∧ ((jB P r.2.1) ∧ (jS P r.2.1) ∧ (jR P r.2.1) ∧ (jK P r.2.1) ∧ (jT P r.2.1))) := by
  obtain ⟨u0_jB, u1_jB, u2_jB, u3_jB, u4_jB, u5_jB⟩ := id p_jB
  obtain ⟨u0_jS, u1_jS, u2_jS, u3_jS, u4_jS, u5_jS, u6_jS, u7_jS⟩ := jS.ints p_jS
  obtain ⟨u0_jT, u1_jT, u2_jT, u3_jT, u4_jT, u5_jT⟩ := id p_jT
  have TL_34 : ∀ u : Nat, ∀ (x1_34 : Int32) (x2_34 : Int32) (x3_34 : Int32) (M_34 : zMt) (N_34 : zNt), (∀ a j, ¬ WM_X8_lucky P a j → M_34 a j = M0 a j) → (∀ a j, ¬ WN_X8_lucky P a j → N_34 a j = N0 a j) → (jB P M_34) → (jH P M_34) → (jK P M_34) → (jL P M_34) → (jR P M_34) → (jS P M_34) → (jT P M_34) → (0 ≤ Int32.toInt x3_34) → (0 ≤ Int32.toInt x2_34) → (Int32.toInt x2_34 < nA P M_34) → (0 ≤ Int32.toInt x1_34 ∧ Int32.toInt x1_34 ≤ 999999949) → (2147483648 - Int32.toInt x3_34).toNat < u → ∃ r, D_X8_lucky_34 P u x1_34 x2_34 x3_34 M_34 N_34 = some r ∧ ((∀ a j, ¬ WM_X8_lucky P a j → r.2.1 a j = M0 a j) ∧ (∀ a j, ¬ WN_X8_lucky P a j → r.2.2 a j = N0 a j) ∧ ((jB P r.2.1) ∧ (jS P r.2.1) ∧ (jR P r.2.1) ∧ (jK P r.2.1) ∧ (jT P r.2.1))) := by
    intro u
    induction u with
    | zero => intro x1_34 x2_34 x3_34 M_34 N_34 k_34 kn_34 p_jB_34 p_jH_34 p_jK_34 p_jL_34 p_jR_34 p_jS_34 p_jT_34 f0_34 f1_34 f2_34 f3_34 hm_34; exact absurd hm_34 (Nat.not_lt_zero _)
    | succ u_34 ih_34 =>
      intro x1_34 x2_34 x3_34 M_34 N_34 k_34 kn_34 p_jB_34 p_jH_34 p_jK_34 p_jL_34 p_jR_34 p_jS_34 p_jT_34 f0_34 f1_34 f2_34 f3_34 hm_34
      obtain ⟨u0_jB_34, u1_jB_34, u2_jB_34, u3_jB_34, u4_jB_34, u5_jB_34⟩ := id p_jB_34
      obtain ⟨u0_jS_34, u1_jS_34, u2_jS_34, u3_jS_34, u4_jS_34, u5_jS_34, u6_jS_34, u7_jS_34⟩ := jS.ints p_jS_34
      obtain ⟨u0_jT_34, u1_jT_34, u2_jT_34, u3_jT_34, u4_jT_34, u5_jT_34⟩ := id p_jT_34
      rw [D_X8_lucky_34]
      refine vIf (fun h_39 => ?_) (fun h_39 => ?_)
      · have i_39 := Int32.le_iff_toInt_le.mp h_39
        (try simp only [Int32.toInt_add, Int32.toInt_sub, Int32.toInt_mul, Int32.toInt_toInt64, Int64.toInt_add, z_m1, Int32.reduceToInt, Int64.reduceToInt, Int32.reduceToNatClampNeg, Int.bmod_def] at i_39)
        refine vB (v_X8_refuse) (fun e_69 f_69 q_69 => ?_)
        have k_69 : ∀ a j, ¬ WM_X8_lucky P a j → e_69.2 a j = M0 a j := fun a j h => (q_69 a j (wz_M_X8_refuse_X8_lucky h)).trans (k_34 a j h)
        have c7_69 : Int32.toInt (e_69.2 P 7) = Int32.toInt (M_34 P 7) := congrArg Int32.toInt (q_69 P 7 (wc_X8_refuse_7))
        have c8_69 : Int32.toInt (e_69.2 P 8) = Int32.toInt (M_34 P 8) := congrArg Int32.toInt (q_69 P 8 (wc_X8_refuse_8))
        have c33_69 : Int32.toInt (e_69.2 P 33) = Int32.toInt (M_34 P 33) := congrArg Int32.toInt (q_69 P 33 (wc_X8_refuse_33))
        have n_69 : nA P e_69.2 = nA P M_34 := nA_congr (fun a j h => q_69 a j (wf_nA_X8_refuse h))
        have p_jB_69 : jB P e_69.2 := jB.mono p_jB_34 (fun a j h => q_69 a j (wf_jB_X8_refuse h))
        obtain ⟨u0_jB_69, u1_jB_69, u2_jB_69, u3_jB_69, u4_jB_69, u5_jB_69⟩ := id p_jB_69
        have p_jH_69 : jH P e_69.2 := jH.mono p_jH_34 (fun a j h => q_69 a j (wf_jH_X8_refuse h))
        have p_jK_69 : jK P e_69.2 := jK.mono p_jK_34 (fun a j h => q_69 a j (wf_jK_X8_refuse h))
        have p_jL_69 : jL P e_69.2 := jL.mono p_jL_34 (fun a j h => q_69 a j (wf_jL_X8_refuse h))
        have p_jR_69 : jR P e_69.2 := jR.mono p_jR_34 (fun a j h => q_69 a j (wf_jR_X8_refuse h))
        have p_jS_69 : jS P e_69.2 := jS.mono p_jS_34 (fun a j h => q_69 a j (wf_jS_X8_refuse h))
        obtain ⟨u0_jS_69, u1_jS_69, u2_jS_69, u3_jS_69, u4_jS_69, u5_jS_69, u6_jS_69, u7_jS_69⟩ := jS.ints p_jS_69
        have p_jT_69 : jT P e_69.2 := jT.mono p_jT_34 (fun a j h => q_69 a j (wf_jT_X8_refuse h))
        obtain ⟨u0_jT_69, u1_jT_69, u2_jT_69, u3_jT_69, u4_jT_69, u5_jT_69⟩ := id p_jT_69
        exact ⟨_, rfl, k_69, kn_34, ⟨p_jB_69, p_jS_69, p_jR_69, p_jK_69, p_jT_69⟩⟩
      · have i_39 := Int32.lt_iff_toInt_lt.mp (Int32.not_le.mp h_39)
        (try simp only [Int32.toInt_add, Int32.toInt_sub, Int32.toInt_mul, Int32.toInt_toInt64, Int64.toInt_add, z_m1, Int32.reduceToInt, Int64.reduceToInt, Int32.reduceToNatClampNeg, Int.bmod_def] at i_39)
        refine vB (v_X8_laysResult p_jB_34 p_jS_34 p_jR_34 (by first | omega | (simp only [Int32.toInt_add, Int32.toInt_sub, Int32.toInt_mul, Int32.toInt_toInt64, Int64.toInt_add, z_m1, Int32.reduceToInt, Int64.reduceToInt, Int32.reduceToNatClampNeg, Int.bmod_def, or_true, true_or, and_true, true_and] <;> omega))) (fun e_44 f_44 q_44 => ?_)
        have k_44 : ∀ a j, ¬ WM_X8_lucky P a j → e_44.1 a j = M0 a j := fun a j h => (q_44.1 a j (wz_M_X8_laysResult_X8_lucky h)).trans (k_34 a j h)
        have kn_44 : ∀ a j, ¬ WN_X8_lucky P a j → e_44.2 a j = N0 a j := fun a j h => (q_44.2.1 a j (wz_N_X8_laysResult_X8_lucky h)).trans (kn_34 a j h)
        have c7_44 : Int32.toInt (e_44.1 P 7) = Int32.toInt (M_34 P 7) := congrArg Int32.toInt (q_44.1 P 7 (wc_X8_laysResult_7))
        have c8_44 : Int32.toInt (e_44.1 P 8) = Int32.toInt (M_34 P 8) := congrArg Int32.toInt (q_44.1 P 8 (wc_X8_laysResult_8))
        have n_44 : nA P e_44.1 = nA P M_34 := nA_congr (fun a j h => q_44.1 a j (wf_nA_X8_laysResult h))
        have p_jK_44 : jK P e_44.1 := jK.mono p_jK_34 (fun a j h => q_44.1 a j (wf_jK_X8_laysResult h))
        have p_jS_44 : jS P e_44.1 := jS.mono p_jS_34 (fun a j h => q_44.1 a j (wf_jS_X8_laysResult h))
        obtain ⟨u0_jS_44, u1_jS_44, u2_jS_44, u3_jS_44, u4_jS_44, u5_jS_44, u6_jS_44, u7_jS_44⟩ := jS.ints p_jS_44
        have p_jT_44 : jT P e_44.1 := jT.mono p_jT_34 (fun a j h => q_44.1 a j (wf_jT_X8_laysResult h))
        obtain ⟨u0_jT_44, u1_jT_44, u2_jT_44, u3_jT_44, u4_jT_44, u5_jT_44⟩ := id p_jT_44
        obtain ⟨x0_44, x1_44, x2_44, x3_44, x4_44, x5_44⟩ := q_44.2.2
        obtain ⟨u0_jB_44, u1_jB_44, u2_jB_44, u3_jB_44, u4_jB_44, u5_jB_44⟩ := id x0_44
        (try simp only [Int32.toInt_add, Int32.toInt_sub, Int32.toInt_mul, Int32.toInt_toInt64, Int64.toInt_add, z_m1, Int32.reduceToInt, Int64.reduceToInt, Int32.reduceToNatClampNeg, Int.bmod_def] at x5_44)
        refine vB (v_X8_hasFirst x0_44 p_jS_44 x1_44 x4_44 (by first | omega | (simp only [Int32.toInt_add, Int32.toInt_sub, Int32.toInt_mul, Int32.toInt_toInt64, Int64.toInt_add, z_m1, Int32.reduceToInt, Int64.reduceToInt, Int32.reduceToNatClampNeg, Int.bmod_def, or_true, true_or, and_true, true_and] <;> omega)) (by first | omega | (simp only [Int32.toInt_add, Int32.toInt_sub, Int32.toInt_mul, Int32.toInt_toInt64, Int64.toInt_add, z_m1, Int32.reduceToInt, Int64.reduceToInt, Int32.reduceToNatClampNeg, Int.bmod_def, or_true, true_or, and_true, true_and] <;> omega))) (fun e_49 f_49 q_49 => ?_)
        have b_49 := q_49
        refine vIf (fun h_52 => ?_) (fun h_52 => ?_)
        · have i_52 := congrArg Int32.toInt h_52
          (try simp only [Int32.toInt_add, Int32.toInt_sub, Int32.toInt_mul, Int32.toInt_toInt64, Int64.toInt_add, z_m1, Int32.reduceToInt, Int64.reduceToInt, Int32.reduceToNatClampNeg, Int.bmod_def] at i_52)
          exact ih_34 _ _ _ _ _ k_44 kn_44 x0_44 x2_44 p_jK_44 x1_44 x4_44 p_jS_44 p_jT_44 (by first | omega | (simp only [Int32.toInt_add, Int32.toInt_sub, Int32.toInt_mul, Int32.toInt_toInt64, Int64.toInt_add, z_m1, Int32.reduceToInt, Int64.reduceToInt, Int32.reduceToNatClampNeg, Int.bmod_def, or_true, true_or, and_true, true_and] <;> omega)) (by first | omega | (simp only [Int32.toInt_add, Int32.toInt_sub, Int32.toInt_mul, Int32.toInt_toInt64, Int64.toInt_add, z_m1, Int32.reduceToInt, Int64.reduceToInt, Int32.reduceToNatClampNeg, Int.bmod_def, or_true, true_or, and_true, true_and] <;> omega)) (by first | omega | (simp only [Int32.toInt_add, Int32.toInt_sub, Int32.toInt_mul, Int32.toInt_toInt64, Int64.toInt_add, z_m1, Int32.reduceToInt, Int64.reduceToInt, Int32.reduceToNatClampNeg, Int.bmod_def, or_true, true_or, and_true, true_and] <;> omega)) (by first | omega | (simp only [Int32.toInt_add, Int32.toInt_sub, Int32.toInt_mul, Int32.toInt_toInt64, Int64.toInt_add, z_m1, Int32.reduceToInt, Int64.reduceToInt, Int32.reduceToNatClampNeg, Int.bmod_def, or_true, true_or, and_true, true_and] <;> omega)) (z_up1 (by first | assumption | exact z_lt (by assumption) | exact z_lt2 (by assumption) | exact z_lt3 (by assumption) (by first | assumption | decide)) hm_34)
        · have i_52 : ¬ Int32.toInt e_49 = Int32.toInt (0 : Int32) := fun q => h_52 (Int32.toInt_inj.mp q)
          (try simp only [Int32.toInt_add, Int32.toInt_sub, Int32.toInt_mul, Int32.toInt_toInt64, Int64.toInt_add, z_m1, Int32.reduceToInt, Int64.reduceToInt, Int32.reduceToNatClampNeg, Int.bmod_def] at i_52)
          refine vB (v_X8_gives) (fun e_57 f_57 q_57 => ?_)
          have k_57 : ∀ a j, ¬ WM_X8_lucky P a j → e_57.2 a j = M0 a j := fun a j h => (q_57 a j (wz_M_X8_gives_X8_lucky h)).trans (k_44 a j h)
          have c7_57 : Int32.toInt (e_57.2 P 7) = Int32.toInt (e_44.1 P 7) := congrArg Int32.toInt (q_57 P 7 (wc_X8_gives_7))
          have c8_57 : Int32.toInt (e_57.2 P 8) = Int32.toInt (e_44.1 P 8) := congrArg Int32.toInt (q_57 P 8 (wc_X8_gives_8))
          have c33_57 : Int32.toInt (e_57.2 P 33) = Int32.toInt (e_44.1 P 33) := congrArg Int32.toInt (q_57 P 33 (wc_X8_gives_33))
          have n_57 : nA P e_57.2 = nA P e_44.1 := nA_congr (fun a j h => q_57 a j (wf_nA_X8_gives h))
          have p_jK_57 : jK P e_57.2 := jK.mono p_jK_44 (fun a j h => q_57 a j (wf_jK_X8_gives h))
          have p_jS_57 : jS P e_57.2 := jS.mono p_jS_44 (fun a j h => q_57 a j (wf_jS_X8_gives h))
          obtain ⟨u0_jS_57, u1_jS_57, u2_jS_57, u3_jS_57, u4_jS_57, u5_jS_57, u6_jS_57, u7_jS_57⟩ := jS.ints p_jS_57
          have p_jT_57 : jT P e_57.2 := jT.mono p_jT_44 (fun a j h => q_57 a j (wf_jT_X8_gives h))
          obtain ⟨u0_jT_57, u1_jT_57, u2_jT_57, u3_jT_57, u4_jT_57, u5_jT_57⟩ := id p_jT_57
          have p_jB_57 : jB P e_57.2 := jB.mono x0_44 (fun a j h => q_57 a j (wf_jB_X8_gives h))
          obtain ⟨u0_jB_57, u1_jB_57, u2_jB_57, u3_jB_57, u4_jB_57, u5_jB_57⟩ := id p_jB_57
          have p_jL_57 : jL P e_57.2 := jL.mono x1_44 (fun a j h => q_57 a j (wf_jL_X8_gives h))
          have p_jH_57 : jH P e_57.2 := jH.mono x2_44 (fun a j h => q_57 a j (wf_jH_X8_gives h))
          have p_jO_57 : jO P e_57.2 := jO.mono x3_44 (fun a j h => q_57 a j (wf_jO_X8_gives h))
          have p_jR_57 : jR P e_57.2 := jR.mono x4_44 (fun a j h => q_57 a j (wf_jR_X8_gives h))
          exact ⟨_, rfl, k_57, kn_44, ⟨p_jB_57, p_jS_57, p_jR_57, p_jK_57, p_jT_57⟩⟩
  have T_34 : ∀ (x1_34 : Int32) (x2_34 : Int32) (x3_34 : Int32) (M_34 : zMt) (N_34 : zNt), (∀ a j, ¬ WM_X8_lucky P a j → M_34 a j = M0 a j) → (∀ a j, ¬ WN_X8_lucky P a j → N_34 a j = N0 a j) → (jB P M_34) → (jH P M_34) → (jK P M_34) → (jL P M_34) → (jR P M_34) → (jS P M_34) → (jT P M_34) → (0 ≤ Int32.toInt x3_34) → (0 ≤ Int32.toInt x2_34) → (Int32.toInt x2_34 < nA P M_34) → (0 ≤ Int32.toInt x1_34 ∧ Int32.toInt x1_34 ≤ 999999949) → ∃ r, D_X8_lucky_34 P zFu x1_34 x2_34 x3_34 M_34 N_34 = some r ∧ ((∀ a j, ¬ WM_X8_lucky P a j → r.2.1 a j = M0 a j) ∧ (∀ a j, ¬ WN_X8_lucky P a j → r.2.2 a j = N0 a j) ∧ ((jB P r.2.1) ∧ (jS P r.2.1) ∧ (jR P r.2.1) ∧ (jK P r.2.1) ∧ (jT P r.2.1))) := fun x1_34 x2_34 x3_34 M_34 N_34 k_34 kn_34 p_jB_34 p_jH_34 p_jK_34 p_jL_34 p_jR_34 p_jS_34 p_jT_34 f0_34 f1_34 f2_34 f3_34 => TL_34 zFu x1_34 x2_34 x3_34 M_34 N_34 k_34 kn_34 p_jB_34 p_jH_34 p_jK_34 p_jL_34 p_jR_34 p_jS_34 p_jT_34 f0_34 f1_34 f2_34 f3_34 (zFu_up _)
  unfold D_X8_lucky
  refine vB (v_X8_isFrom) (fun e_6 f_6 q_6 => ?_)
  have b_6 := q_6.1
  have x0_6 := q_6.2
  (try simp only [Int32.toInt_add, Int32.toInt_sub, Int32.toInt_mul, Int32.toInt_toInt64, Int64.toInt_add, z_m1, Int32.reduceToInt, Int64.reduceToInt, Int32.reduceToNatClampNeg, Int.bmod_def] at x0_6)
  refine vIf (fun h_9 => ?_) (fun h_9 => ?_)
  · have i_9 := congrArg Int32.toInt h_9
    (try simp only [Int32.toInt_add, Int32.toInt_sub, Int32.toInt_mul, Int32.toInt_toInt64, Int64.toInt_add, z_m1, Int32.reduceToInt, Int64.reduceToInt, Int32.reduceToNatClampNeg, Int.bmod_def] at i_9)
    refine vB (v_X8_refuse) (fun e_14 f_14 q_14 => ?_)
    have k_14 : ∀ a j, ¬ WM_X8_lucky P a j → e_14.2 a j = M0 a j := fun a j h => (q_14 a j (wz_M_X8_refuse_X8_lucky h))
    have c7_14 : Int32.toInt (e_14.2 P 7) = Int32.toInt (M0 P 7) := congrArg Int32.toInt (q_14 P 7 (wc_X8_refuse_7))
    have c8_14 : Int32.toInt (e_14.2 P 8) = Int32.toInt (M0 P 8) := congrArg Int32.toInt (q_14 P 8 (wc_X8_refuse_8))
    have c33_14 : Int32.toInt (e_14.2 P 33) = Int32.toInt (M0 P 33) := congrArg Int32.toInt (q_14 P 33 (wc_X8_refuse_33))
    have n_14 : nA P e_14.2 = nA P M0 := nA_congr (fun a j h => q_14 a j (wf_nA_X8_refuse h))
    have p_jB_14 : jB P e_14.2 := jB.mono p_jB (fun a j h => q_14 a j (wf_jB_X8_refuse h))
    obtain ⟨u0_jB_14, u1_jB_14, u2_jB_14, u3_jB_14, u4_jB_14, u5_jB_14⟩ := id p_jB_14
    have p_jS_14 : jS P e_14.2 := jS.mono p_jS (fun a j h => q_14 a j (wf_jS_X8_refuse h))
    obtain ⟨u0_jS_14, u1_jS_14, u2_jS_14, u3_jS_14, u4_jS_14, u5_jS_14, u6_jS_14, u7_jS_14⟩ := jS.ints p_jS_14
    have p_jR_14 : jR P e_14.2 := jR.mono p_jR (fun a j h => q_14 a j (wf_jR_X8_refuse h))
    have p_jK_14 : jK P e_14.2 := jK.mono p_jK (fun a j h => q_14 a j (wf_jK_X8_refuse h))
    have p_jT_14 : jT P e_14.2 := jT.mono p_jT (fun a j h => q_14 a j (wf_jT_X8_refuse h))
    obtain ⟨u0_jT_14, u1_jT_14, u2_jT_14, u3_jT_14, u4_jT_14, u5_jT_14⟩ := id p_jT_14
    exact ⟨_, rfl, k_14, (fun _ _ _ => rfl), ⟨p_jB_14, p_jS_14, p_jR_14, p_jK_14, p_jT_14⟩⟩
  · have i_9 : ¬ Int32.toInt e_6 = Int32.toInt (0 : Int32) := fun q => h_9 (Int32.toInt_inj.mp q)
    (try simp only [Int32.toInt_add, Int32.toInt_sub, Int32.toInt_mul, Int32.toInt_toInt64, Int64.toInt_add, z_m1, Int32.reduceToInt, Int64.reduceToInt, Int32.reduceToNatClampNeg, Int.bmod_def] at i_9)
    refine vB (v_X8_isApplicant p_jB p_jS) (fun e_20 f_20 q_20 => ?_)
    have k_20 : ∀ a j, ¬ WM_X8_lucky P a j → e_20.2 a j = M0 a j := fun a j h => (q_20.1 a j (wz_M_X8_isApplicant_X8_lucky h))
    have b_20 := q_20.2.1
    have c7_20 : Int32.toInt (e_20.2 P 7) = Int32.toInt (M0 P 7) := congrArg Int32.toInt (q_20.1 P 7 (wc_X8_isApplicant_7))
    have c8_20 : Int32.toInt (e_20.2 P 8) = Int32.toInt (M0 P 8) := congrArg Int32.toInt (q_20.1 P 8 (wc_X8_isApplicant_8))
    have n_20 : nA P e_20.2 = nA P M0 := nA_congr (fun a j h => q_20.1 a j (wf_nA_X8_isApplicant h))
    have p_jS_20 : jS P e_20.2 := jS.mono p_jS (fun a j h => q_20.1 a j (wf_jS_X8_isApplicant h))
    obtain ⟨u0_jS_20, u1_jS_20, u2_jS_20, u3_jS_20, u4_jS_20, u5_jS_20, u6_jS_20, u7_jS_20⟩ := jS.ints p_jS_20
    have p_jR_20 : jR P e_20.2 := jR.mono p_jR (fun a j h => q_20.1 a j (wf_jR_X8_isApplicant h))
    have p_jK_20 : jK P e_20.2 := jK.mono p_jK (fun a j h => q_20.1 a j (wf_jK_X8_isApplicant h))
    have p_jT_20 : jT P e_20.2 := jT.mono p_jT (fun a j h => q_20.1 a j (wf_jT_X8_isApplicant h))
    obtain ⟨u0_jT_20, u1_jT_20, u2_jT_20, u3_jT_20, u4_jT_20, u5_jT_20⟩ := id p_jT_20
    obtain ⟨x0_20, x1_20, x2_20, x3_20, x4_20⟩ := q_20.2.2
    obtain ⟨u0_jB_20, u1_jB_20, u2_jB_20, u3_jB_20, u4_jB_20, u5_jB_20⟩ := id x0_20
    (try simp only [Int32.toInt_add, Int32.toInt_sub, Int32.toInt_mul, Int32.toInt_toInt64, Int64.toInt_add, z_m1, Int32.reduceToInt, Int64.reduceToInt, Int32.reduceToNatClampNeg, Int.bmod_def] at x3_20)
    (try simp only [Int32.toInt_add, Int32.toInt_sub, Int32.toInt_mul, Int32.toInt_toInt64, Int64.toInt_add, z_m1, Int32.reduceToInt, Int64.reduceToInt, Int32.reduceToNatClampNeg, Int.bmod_def] at x4_20)
    refine vIf (fun h_23 => ?_) (fun h_23 => ?_)
    · have i_23 := congrArg Int32.toInt h_23
      (try simp only [Int32.toInt_add, Int32.toInt_sub, Int32.toInt_mul, Int32.toInt_toInt64, Int64.toInt_add, z_m1, Int32.reduceToInt, Int64.reduceToInt, Int32.reduceToNatClampNeg, Int.bmod_def] at i_23)
      refine vB (v_X8_refuse) (fun e_28 f_28 q_28 => ?_)
      have k_28 : ∀ a j, ¬ WM_X8_lucky P a j → e_28.2 a j = M0 a j := fun a j h => (q_28 a j (wz_M_X8_refuse_X8_lucky h)).trans (k_20 a j h)
      have c7_28 : Int32.toInt (e_28.2 P 7) = Int32.toInt (e_20.2 P 7) := congrArg Int32.toInt (q_28 P 7 (wc_X8_refuse_7))
      have c8_28 : Int32.toInt (e_28.2 P 8) = Int32.toInt (e_20.2 P 8) := congrArg Int32.toInt (q_28 P 8 (wc_X8_refuse_8))
      have c33_28 : Int32.toInt (e_28.2 P 33) = Int32.toInt (e_20.2 P 33) := congrArg Int32.toInt (q_28 P 33 (wc_X8_refuse_33))
      have n_28 : nA P e_28.2 = nA P e_20.2 := nA_congr (fun a j h => q_28 a j (wf_nA_X8_refuse h))
      have p_jS_28 : jS P e_28.2 := jS.mono p_jS_20 (fun a j h => q_28 a j (wf_jS_X8_refuse h))
      obtain ⟨u0_jS_28, u1_jS_28, u2_jS_28, u3_jS_28, u4_jS_28, u5_jS_28, u6_jS_28, u7_jS_28⟩ := jS.ints p_jS_28
      have p_jR_28 : jR P e_28.2 := jR.mono p_jR_20 (fun a j h => q_28 a j (wf_jR_X8_refuse h))
      have p_jK_28 : jK P e_28.2 := jK.mono p_jK_20 (fun a j h => q_28 a j (wf_jK_X8_refuse h))
      have p_jT_28 : jT P e_28.2 := jT.mono p_jT_20 (fun a j h => q_28 a j (wf_jT_X8_refuse h))
      obtain ⟨u0_jT_28, u1_jT_28, u2_jT_28, u3_jT_28, u4_jT_28, u5_jT_28⟩ := id p_jT_28
      have p_jB_28 : jB P e_28.2 := jB.mono x0_20 (fun a j h => q_28 a j (wf_jB_X8_refuse h))
      obtain ⟨u0_jB_28, u1_jB_28, u2_jB_28, u3_jB_28, u4_jB_28, u5_jB_28⟩ := id p_jB_28
      have p_jL_28 : jL P e_28.2 := jL.mono x1_20 (fun a j h => q_28 a j (wf_jL_X8_refuse h))
      have p_jH_28 : jH P e_28.2 := jH.mono x2_20 (fun a j h => q_28 a j (wf_jH_X8_refuse h))
      exact ⟨_, rfl, k_28, (fun _ _ _ => rfl), ⟨p_jB_28, p_jS_28, p_jR_28, p_jK_28, p_jT_28⟩⟩
    · have i_23 : ¬ Int32.toInt e_20.1 = Int32.toInt (0 : Int32) := fun q => h_23 (Int32.toInt_inj.mp q)
      (try simp only [Int32.toInt_add, Int32.toInt_sub, Int32.toInt_mul, Int32.toInt_toInt64, Int64.toInt_add, z_m1, Int32.reduceToInt, Int64.reduceToInt, Int32.reduceToNatClampNeg, Int.bmod_def] at i_23)
      exact T_34 _ _ _ _ _ k_20 (fun _ _ _ => rfl) x0_20 x2_20 p_jK_20 x1_20 p_jR_20 p_jS_20 p_jT_20 (by first | omega | (simp only [Int32.toInt_add, Int32.toInt_sub, Int32.toInt_mul, Int32.toInt_toInt64, Int64.toInt_add, z_m1, Int32.reduceToInt, Int64.reduceToInt, Int32.reduceToNatClampNeg, Int.bmod_def, or_true, true_or, and_true, true_and] <;> omega)) (by first | omega | (simp only [Int32.toInt_add, Int32.toInt_sub, Int32.toInt_mul, Int32.toInt_toInt64, Int64.toInt_add, z_m1, Int32.reduceToInt, Int64.reduceToInt, Int32.reduceToNatClampNeg, Int.bmod_def, or_true, true_or, and_true, true_and] <;> omega)) (by first | omega | (simp only [Int32.toInt_add, Int32.toInt_sub, Int32.toInt_mul, Int32.toInt_toInt64, Int64.toInt_add, z_m1, Int32.reduceToInt, Int64.reduceToInt, Int32.reduceToNatClampNeg, Int.bmod_def, or_true, true_or, and_true, true_and] <;> omega)) (by first | omega | (simp only [Int32.toInt_add, Int32.toInt_sub, Int32.toInt_mul, Int32.toInt_toInt64, Int64.toInt_add, z_m1, Int32.reduceToInt, Int64.reduceToInt, Int32.reduceToNatClampNeg, Int.bmod_def, or_true, true_or, and_true, true_and] <;> omega))
def WM_X8_adds (P : Nat) (a j : Nat) : Prop := (P + 29 ≤ a ∧ a < P + 30) ∨ (a = P ∧ (j = 54 ∨ j = 55 ∨ j = 56 ∨ j = 57))
def WN_X8_adds (P : Nat) (a j : Nat) : Prop := (P + 24 ≤ a ∧ a < P + 29) ∨ (a = P ∧ (j = 59))
theorem wq_X8_adds_N0_59 {P a j : Nat} (h : ¬ WN_X8_adds P a j) : ¬ (a = P ∧ j = 59) := by unfold WN_X8_adds at h; omega
theorem wq_X8_adds_M0_54 {P a j : Nat} (h : ¬ WM_X8_adds P a j) : ¬ (a = P ∧ j = 54) := by unfold WM_X8_adds at h; omega
theorem wf_nA_M0_54 {P a j : Nat} (h : (a = P + 1 ∨ (a = P ∧ j = 8))) : ¬ (a = P ∧ j = 54) := by omega
theorem wf_jB_M0_54 {P a j : Nat} (h : (a = P ∧ (j = 7 ∨ j = 8 ∨ j = 33))) : ¬ (a = P ∧ j = 54) := by omega
theorem wf_jL_M0_54 {P a j : Nat} (h : ((a = P ∧ j = 33) ∨ a = P + 13 ∨ a = P + 14 ∨ a = P + 17)) : ¬ (a = P ∧ j = 54) := by omega
theorem wf_jR_M0_54 {P a j : Nat} (h : a = P + 19) : ¬ (a = P ∧ j = 54) := by omega
theorem wf_jS_M0_54 {P a j : Nat} (h : (a = P + 1 ∨ (a = P ∧ (j = 7 ∨ j = 8)))) : ¬ (a = P ∧ j = 54) := by omega
theorem wq_X8_adds_M0_55 {P a j : Nat} (h : ¬ WM_X8_adds P a j) : ¬ (a = P ∧ j = 55) := by unfold WM_X8_adds at h; omega
theorem wf_nA_M0_55 {P a j : Nat} (h : (a = P + 1 ∨ (a = P ∧ j = 8))) : ¬ (a = P ∧ j = 55) := by omega
theorem wf_jB_M0_55 {P a j : Nat} (h : (a = P ∧ (j = 7 ∨ j = 8 ∨ j = 33))) : ¬ (a = P ∧ j = 55) := by omega
theorem wf_jL_M0_55 {P a j : Nat} (h : ((a = P ∧ j = 33) ∨ a = P + 13 ∨ a = P + 14 ∨ a = P + 17)) : ¬ (a = P ∧ j = 55) := by omega
theorem wf_jR_M0_55 {P a j : Nat} (h : a = P + 19) : ¬ (a = P ∧ j = 55) := by omega
theorem wf_jS_M0_55 {P a j : Nat} (h : (a = P + 1 ∨ (a = P ∧ (j = 7 ∨ j = 8)))) : ¬ (a = P ∧ j = 55) := by omega
theorem wq_X8_adds_M29_r {P a j : Nat} (h : ¬ WM_X8_adds P a j) : ¬ a = P + 29 := by unfold WM_X8_adds at h; omega
theorem wf_nA_M29_r {P a j : Nat} (h : (a = P + 1 ∨ (a = P ∧ j = 8))) : ¬ a = P + 29 := by omega
theorem wf_jB_M29_r {P a j : Nat} (h : (a = P ∧ (j = 7 ∨ j = 8 ∨ j = 33))) : ¬ a = P + 29 := by omega
theorem wf_jL_M29_r {P a j : Nat} (h : ((a = P ∧ j = 33) ∨ a = P + 13 ∨ a = P + 14 ∨ a = P + 17)) : ¬ a = P + 29 := by omega
theorem wf_jR_M29_r {P a : Nat} (h : a = P + 19) : ¬ a = P + 29 := by omega
theorem wf_jS_M29_r {P a j : Nat} (h : (a = P + 1 ∨ (a = P ∧ (j = 7 ∨ j = 8)))) : ¬ a = P + 29 := by omega
theorem wq_X8_adds_M0_56 {P a j : Nat} (h : ¬ WM_X8_adds P a j) : ¬ (a = P ∧ j = 56) := by unfold WM_X8_adds at h; omega
theorem wf_nA_M0_56 {P a j : Nat} (h : (a = P + 1 ∨ (a = P ∧ j = 8))) : ¬ (a = P ∧ j = 56) := by omega
theorem wf_jB_M0_56 {P a j : Nat} (h : (a = P ∧ (j = 7 ∨ j = 8 ∨ j = 33))) : ¬ (a = P ∧ j = 56) := by omega
theorem wf_jL_M0_56 {P a j : Nat} (h : ((a = P ∧ j = 33) ∨ a = P + 13 ∨ a = P + 14 ∨ a = P + 17)) : ¬ (a = P ∧ j = 56) := by omega
theorem wf_jR_M0_56 {P a j : Nat} (h : a = P + 19) : ¬ (a = P ∧ j = 56) := by omega
theorem wf_jS_M0_56 {P a j : Nat} (h : (a = P + 1 ∨ (a = P ∧ (j = 7 ∨ j = 8)))) : ¬ (a = P ∧ j = 56) := by omega
theorem wq_X8_adds_M0_57 {P a j : Nat} (h : ¬ WM_X8_adds P a j) : ¬ (a = P ∧ j = 57) := by unfold WM_X8_adds at h; omega
theorem wf_nA_M0_57 {P a j : Nat} (h : (a = P + 1 ∨ (a = P ∧ j = 8))) : ¬ (a = P ∧ j = 57) := by omega
theorem wf_jB_M0_57 {P a j : Nat} (h : (a = P ∧ (j = 7 ∨ j = 8 ∨ j = 33))) : ¬ (a = P ∧ j = 57) := by omega
theorem wf_jL_M0_57 {P a j : Nat} (h : ((a = P ∧ j = 33) ∨ a = P + 13 ∨ a = P + 14 ∨ a = P + 17)) : ¬ (a = P ∧ j = 57) := by omega
theorem wf_jR_M0_57 {P a j : Nat} (h : a = P + 19) : ¬ (a = P ∧ j = 57) := by omega
theorem wf_jS_M0_57 {P a j : Nat} (h : (a = P + 1 ∨ (a = P ∧ (j = 7 ∨ j = 8)))) : ¬ (a = P ∧ j = 57) := by omega
theorem wq_X8_adds_N27_r {P a j : Nat} (h : ¬ WN_X8_adds P a j) : ¬ a = P + 27 := by unfold WN_X8_adds at h; omega
theorem wq_X8_adds_N26_r {P a j : Nat} (h : ¬ WN_X8_adds P a j) : ¬ a = P + 26 := by unfold WN_X8_adds at h; omega
theorem wq_X8_adds_N28_r {P a j : Nat} (h : ¬ WN_X8_adds P a j) : ¬ a = P + 28 := by unfold WN_X8_adds at h; omega
theorem wq_X8_adds_N25_r {P a j : Nat} (h : ¬ WN_X8_adds P a j) : ¬ a = P + 25 := by unfold WN_X8_adds at h; omega
theorem wq_X8_adds_N24_r {P a j : Nat} (h : ¬ WN_X8_adds P a j) : ¬ a = P + 24 := by unfold WN_X8_adds at h; omega
set_option maxRecDepth 100000 in
set_option maxHeartbeats 4000000 in
theorem v_X8_adds {P : Nat} {v0 : Int64} {M0 : zMt} {N0 : zNt}  (p_jB : jB P M0) (p_jS : jS P M0) (p_jL : jL P M0) (p_jR : jR P M0) (i_4 : Int32.toInt (M0 P 33) ≤ 7) : ∃ r, D_X8_adds P v0 M0 N0 = some r ∧ ((∀ a j, ¬ WM_X8_adds P a j → r.1 a j = M0 a j) ∧ (∀ a j, ¬ WN_X8_adds P a j → r.2 a j = N0 a j)) := by
  obtain ⟨u0_jB, u1_jB, u2_jB, u3_jB, u4_jB, u5_jB⟩ := id p_jB
  obtain ⟨u0_jS, u1_jS, u2_jS, u3_jS, u4_jS, u5_jS, u6_jS, u7_jS⟩ := jS.ints p_jS
  have T_208 : ∀ (x3_208 : Int32) (y1_208 : Int64) (y2_208 : Int64) (M_208 : zMt) (N_208 : zNt), (∀ a j, ¬ WM_X8_adds P a j → M_208 a j = M0 a j) → (∀ a j, ¬ WN_X8_adds P a j → N_208 a j = N0 a j) → (jB P M_208) → (jL P M_208) → (jR P M_208) → (jS P M_208) → (0 ≤ Int32.toInt x3_208 ∧ Int32.toInt x3_208 ≤ 127) → (Int32.toInt (M_208 P 33) ≤ 7) → ∃ r, D_X8_adds_208 P x3_208 y1_208 y2_208 M_208 N_208 = some r ∧ ((∀ a j, ¬ WM_X8_adds P a j → r.1 a j = M0 a j) ∧ (∀ a j, ¬ WN_X8_adds P a j → r.2 a j = N0 a j)) := by
    intro x3_208 y1_208 y2_208 M_208 N_208 k_208 kn_208 p_jB_208 p_jL_208 p_jR_208 p_jS_208 f0_208 f1_208
    obtain ⟨u0_jB_208, u1_jB_208, u2_jB_208, u3_jB_208, u4_jB_208, u5_jB_208⟩ := id p_jB_208
    obtain ⟨u0_jS_208, u1_jS_208, u2_jS_208, u3_jS_208, u4_jS_208, u5_jS_208, u6_jS_208, u7_jS_208⟩ := jS.ints p_jS_208
    unfold D_X8_adds_208
    refine vLn (W := WN_X8_adds P) (fun a j h => (zu_ne (wq_X8_adds_N0_59 h)).trans (kn_208 a j h)) (fun N_209 f_209 kn_209 => ?_)
    refine vLm (W := WM_X8_adds P) (fun a j h => (zu_ne (wq_X8_adds_M0_54 h)).trans (k_208 a j h)) (fun M_219 f_219 k_219 => ?_)
    have c7_219 : Int32.toInt (M_219 P 7) = Int32.toInt (M_208 P 7) := congrArg Int32.toInt ((congrFun (congrFun f_219.symm P) 7).trans (zu_ne (fun z => absurd z.2 (by decide))))
    have c8_219 : Int32.toInt (M_219 P 8) = Int32.toInt (M_208 P 8) := congrArg Int32.toInt ((congrFun (congrFun f_219.symm P) 8).trans (zu_ne (fun z => absurd z.2 (by decide))))
    have c33_219 : Int32.toInt (M_219 P 33) = Int32.toInt (M_208 P 33) := congrArg Int32.toInt ((congrFun (congrFun f_219.symm P) 33).trans (zu_ne (fun z => absurd z.2 (by decide))))
    have n_219 : nA P M_219 = nA P M_208 := nA_congr (fun a j h => (congrFun (congrFun f_219.symm a) j).trans (zu_ne (wf_nA_M0_54 h)))
    have p_jB_219 : jB P M_219 := jB.mono p_jB_208 (fun a j h => (congrFun (congrFun f_219.symm a) j).trans (zu_ne (wf_jB_M0_54 h)))
    obtain ⟨u0_jB_219, u1_jB_219, u2_jB_219, u3_jB_219, u4_jB_219, u5_jB_219⟩ := id p_jB_219
    have p_jL_219 : jL P M_219 := jL.mono p_jL_208 (fun a j h => (congrFun (congrFun f_219.symm a) j).trans (zu_ne (wf_jL_M0_54 h)))
    have p_jR_219 : jR P M_219 := jR.mono p_jR_208 (fun a j h => (congrFun (congrFun f_219.symm a) j).trans (zu_ne (wf_jR_M0_54 h)))
    have p_jS_219 : jS P M_219 := jS.mono p_jS_208 (fun a j h => (congrFun (congrFun f_219.symm a) j).trans (zu_ne (wf_jS_M0_54 h)))
    obtain ⟨u0_jS_219, u1_jS_219, u2_jS_219, u3_jS_219, u4_jS_219, u5_jS_219, u6_jS_219, u7_jS_219⟩ := jS.ints p_jS_219
    refine vLm (W := WM_X8_adds P) (fun a j h => (zu_ne (wq_X8_adds_M0_55 h)).trans (k_219 a j h)) (fun M_229 f_229 k_229 => ?_)
    have c7_229 : Int32.toInt (M_229 P 7) = Int32.toInt (M_219 P 7) := congrArg Int32.toInt ((congrFun (congrFun f_229.symm P) 7).trans (zu_ne (fun z => absurd z.2 (by decide))))
    have c8_229 : Int32.toInt (M_229 P 8) = Int32.toInt (M_219 P 8) := congrArg Int32.toInt ((congrFun (congrFun f_229.symm P) 8).trans (zu_ne (fun z => absurd z.2 (by decide))))
    have c33_229 : Int32.toInt (M_229 P 33) = Int32.toInt (M_219 P 33) := congrArg Int32.toInt ((congrFun (congrFun f_229.symm P) 33).trans (zu_ne (fun z => absurd z.2 (by decide))))
    have n_229 : nA P M_229 = nA P M_219 := nA_congr (fun a j h => (congrFun (congrFun f_229.symm a) j).trans (zu_ne (wf_nA_M0_55 h)))
    have p_jB_229 : jB P M_229 := jB.mono p_jB_219 (fun a j h => (congrFun (congrFun f_229.symm a) j).trans (zu_ne (wf_jB_M0_55 h)))
    obtain ⟨u0_jB_229, u1_jB_229, u2_jB_229, u3_jB_229, u4_jB_229, u5_jB_229⟩ := id p_jB_229
    have p_jL_229 : jL P M_229 := jL.mono p_jL_219 (fun a j h => (congrFun (congrFun f_229.symm a) j).trans (zu_ne (wf_jL_M0_55 h)))
    have p_jR_229 : jR P M_229 := jR.mono p_jR_219 (fun a j h => (congrFun (congrFun f_229.symm a) j).trans (zu_ne (wf_jR_M0_55 h)))
    have p_jS_229 : jS P M_229 := jS.mono p_jS_219 (fun a j h => (congrFun (congrFun f_229.symm a) j).trans (zu_ne (wf_jS_M0_55 h)))
    obtain ⟨u0_jS_229, u1_jS_229, u2_jS_229, u3_jS_229, u4_jS_229, u5_jS_229, u6_jS_229, u7_jS_229⟩ := jS.ints p_jS_229
    refine vI (vp_of (by first | omega | (simp only [Int32.toInt_add, Int32.toInt_sub, Int32.toInt_mul, Int32.toInt_toInt64, Int64.toInt_add, z_m1, Int32.reduceToInt, Int64.reduceToInt, Int32.reduceToNatClampNeg, Int.bmod_def, or_true, true_or, and_true, true_and] <;> omega)) (by first | omega | (simp only [Int32.toInt_add, Int32.toInt_sub, Int32.toInt_mul, Int32.toInt_toInt64, Int64.toInt_add, z_m1, Int32.reduceToInt, Int64.reduceToInt, Int32.reduceToNatClampNeg, Int.bmod_def, or_true, true_or, and_true, true_and] <;> omega))) ?_
    refine vLm (W := WM_X8_adds P) (fun a j h => (zu_ne (fun z => wq_X8_adds_M29_r h z.1)).trans (k_229 a j h)) (fun M_238 f_238 k_238 => ?_)
    have c7_238 : Int32.toInt (M_238 P 7) = Int32.toInt (M_229 P 7) := congrArg Int32.toInt ((congrFun (congrFun f_238.symm P) 7).trans (zu_ne (fun z => wq_pne0 (by decide) z.1)))
    have c8_238 : Int32.toInt (M_238 P 8) = Int32.toInt (M_229 P 8) := congrArg Int32.toInt ((congrFun (congrFun f_238.symm P) 8).trans (zu_ne (fun z => wq_pne0 (by decide) z.1)))
    have c33_238 : Int32.toInt (M_238 P 33) = Int32.toInt (M_229 P 33) := congrArg Int32.toInt ((congrFun (congrFun f_238.symm P) 33).trans (zu_ne (fun z => wq_pne0 (by decide) z.1)))
    have n_238 : nA P M_238 = nA P M_229 := nA_congr (fun a j h => (congrFun (congrFun f_238.symm a) j).trans (zu_ne (fun z => wf_nA_M29_r h z.1)))
    have p_jB_238 : jB P M_238 := jB.mono p_jB_229 (fun a j h => (congrFun (congrFun f_238.symm a) j).trans (zu_ne (fun z => wf_jB_M29_r h z.1)))
    obtain ⟨u0_jB_238, u1_jB_238, u2_jB_238, u3_jB_238, u4_jB_238, u5_jB_238⟩ := id p_jB_238
    have p_jL_238 : jL P M_238 := jL.mono p_jL_229 (fun a j h => (congrFun (congrFun f_238.symm a) j).trans (zu_ne (fun z => wf_jL_M29_r h z.1)))
    have p_jR_238 : jR P M_238 := jR.mono p_jR_229 (fun a j h => (congrFun (congrFun f_238.symm a) j).trans (zu_ne (fun z => wf_jR_M29_r h z.1)))
    have p_jS_238 : jS P M_238 := jS.mono p_jS_229 (fun a j h => (congrFun (congrFun f_238.symm a) j).trans (zu_ne (fun z => wf_jS_M29_r h z.1)))
    obtain ⟨u0_jS_238, u1_jS_238, u2_jS_238, u3_jS_238, u4_jS_238, u5_jS_238, u6_jS_238, u7_jS_238⟩ := jS.ints p_jS_238
    refine vB (v_X8_givenTags p_jB_238) (fun e_245 f_245 q_245 => ?_)
    refine vLm (W := WM_X8_adds P) (fun a j h => (zu_ne (wq_X8_adds_M0_56 h)).trans (k_238 a j h)) (fun M_251 f_251 k_251 => ?_)
    have c7_251 : Int32.toInt (M_251 P 7) = Int32.toInt (M_238 P 7) := congrArg Int32.toInt ((congrFun (congrFun f_251.symm P) 7).trans (zu_ne (fun z => absurd z.2 (by decide))))
    have c8_251 : Int32.toInt (M_251 P 8) = Int32.toInt (M_238 P 8) := congrArg Int32.toInt ((congrFun (congrFun f_251.symm P) 8).trans (zu_ne (fun z => absurd z.2 (by decide))))
    have c33_251 : Int32.toInt (M_251 P 33) = Int32.toInt (M_238 P 33) := congrArg Int32.toInt ((congrFun (congrFun f_251.symm P) 33).trans (zu_ne (fun z => absurd z.2 (by decide))))
    have n_251 : nA P M_251 = nA P M_238 := nA_congr (fun a j h => (congrFun (congrFun f_251.symm a) j).trans (zu_ne (wf_nA_M0_56 h)))
    have p_jB_251 : jB P M_251 := jB.mono p_jB_238 (fun a j h => (congrFun (congrFun f_251.symm a) j).trans (zu_ne (wf_jB_M0_56 h)))
    obtain ⟨u0_jB_251, u1_jB_251, u2_jB_251, u3_jB_251, u4_jB_251, u5_jB_251⟩ := id p_jB_251
    have p_jL_251 : jL P M_251 := jL.mono p_jL_238 (fun a j h => (congrFun (congrFun f_251.symm a) j).trans (zu_ne (wf_jL_M0_56 h)))
    have p_jR_251 : jR P M_251 := jR.mono p_jR_238 (fun a j h => (congrFun (congrFun f_251.symm a) j).trans (zu_ne (wf_jR_M0_56 h)))
    have p_jS_251 : jS P M_251 := jS.mono p_jS_238 (fun a j h => (congrFun (congrFun f_251.symm a) j).trans (zu_ne (wf_jS_M0_56 h)))
    obtain ⟨u0_jS_251, u1_jS_251, u2_jS_251, u3_jS_251, u4_jS_251, u5_jS_251, u6_jS_251, u7_jS_251⟩ := jS.ints p_jS_251
    refine vB (v_X8_givenTags p_jB_251) (fun e_260 f_260 q_260 => ?_)
    refine vLm (W := WM_X8_adds P) (fun a j h => (zu_ne (wq_X8_adds_M0_57 h)).trans (k_251 a j h)) (fun M_266 f_266 k_266 => ?_)
    have c7_266 : Int32.toInt (M_266 P 7) = Int32.toInt (M_251 P 7) := congrArg Int32.toInt ((congrFun (congrFun f_266.symm P) 7).trans (zu_ne (fun z => absurd z.2 (by decide))))
    have c8_266 : Int32.toInt (M_266 P 8) = Int32.toInt (M_251 P 8) := congrArg Int32.toInt ((congrFun (congrFun f_266.symm P) 8).trans (zu_ne (fun z => absurd z.2 (by decide))))
    have c33_266 : Int32.toInt (M_266 P 33) = Int32.toInt (M_251 P 33) := congrArg Int32.toInt ((congrFun (congrFun f_266.symm P) 33).trans (zu_ne (fun z => absurd z.2 (by decide))))
    have n_266 : nA P M_266 = nA P M_251 := nA_congr (fun a j h => (congrFun (congrFun f_266.symm a) j).trans (zu_ne (wf_nA_M0_57 h)))
    have p_jB_266 : jB P M_266 := jB.mono p_jB_251 (fun a j h => (congrFun (congrFun f_266.symm a) j).trans (zu_ne (wf_jB_M0_57 h)))
    obtain ⟨u0_jB_266, u1_jB_266, u2_jB_266, u3_jB_266, u4_jB_266, u5_jB_266⟩ := id p_jB_266
    have p_jL_266 : jL P M_266 := jL.mono p_jL_251 (fun a j h => (congrFun (congrFun f_266.symm a) j).trans (zu_ne (wf_jL_M0_57 h)))
    have p_jR_266 : jR P M_266 := jR.mono p_jR_251 (fun a j h => (congrFun (congrFun f_266.symm a) j).trans (zu_ne (wf_jR_M0_57 h)))
    have p_jS_266 : jS P M_266 := jS.mono p_jS_251 (fun a j h => (congrFun (congrFun f_266.symm a) j).trans (zu_ne (wf_jS_M0_57 h)))
    obtain ⟨u0_jS_266, u1_jS_266, u2_jS_266, u3_jS_266, u4_jS_266, u5_jS_266, u6_jS_266, u7_jS_266⟩ := jS.ints p_jS_266
    exact ⟨_, rfl, k_266, kn_209⟩
  have TL_5 : ∀ u : Nat, ∀ (x1_5 : Int64) (x3_5 : Int32) (x4_5 : Int32) (M_5 : zMt) (N_5 : zNt), (∀ a j, ¬ WM_X8_adds P a j → M_5 a j = M0 a j) → (∀ a j, ¬ WN_X8_adds P a j → N_5 a j = N0 a j) → (jB P M_5) → (jL P M_5) → (jR P M_5) → (jS P M_5) → (0 ≤ Int32.toInt x4_5) → (Int32.toInt x4_5 ≤ 10) → (0 ≤ Int32.toInt x3_5 ∧ Int32.toInt x3_5 ≤ 127) → (Int32.toInt (M_5 P 33) ≤ 7) → (2147483648 - Int32.toInt x4_5).toNat < u → ∃ r, D_X8_adds_5 P u x1_5 x3_5 x4_5 M_5 N_5 = some r ∧ ((∀ a j, ¬ WM_X8_adds P a j → r.1 a j = M0 a j) ∧ (∀ a j, ¬ WN_X8_adds P a j → r.2 a j = N0 a j)) := by
    intro u
    induction u with
    | zero => intro x1_5 x3_5 x4_5 M_5 N_5 k_5 kn_5 p_jB_5 p_jL_5 p_jR_5 p_jS_5 f0_5 f1_5 f2_5 f3_5 hm_5; exact absurd hm_5 (Nat.not_lt_zero _)
    | succ u_5 ih_5 =>
      have T_181 : ∀ (x1_181 : Int64) (x3_181 : Int32) (x4_181 : Int32) (M_181 : zMt) (N_181 : zNt), (∀ a j, ¬ WM_X8_adds P a j → M_181 a j = M0 a j) → (∀ a j, ¬ WN_X8_adds P a j → N_181 a j = N0 a j) → (jB P M_181) → (jL P M_181) → (jR P M_181) → (jS P M_181) → (0 ≤ Int32.toInt x4_181) → (Int32.toInt x4_181 < Int32.toInt (M_181 P 33)) → ((2147483648 - Int32.toInt x4_181).toNat < u_5 + 1) → (Int32.toInt x4_181 < 2147483647) → (0 ≤ Int32.toInt x3_181 ∧ Int32.toInt x3_181 ≤ 127) → (Int32.toInt (M_181 P 33) ≤ 7) → ∃ r, D_X8_adds_181 P (D_X8_adds_5 P u_5) x1_181 x3_181 x4_181 M_181 N_181 = some r ∧ ((∀ a j, ¬ WM_X8_adds P a j → r.1 a j = M0 a j) ∧ (∀ a j, ¬ WN_X8_adds P a j → r.2 a j = N0 a j)) := by
        intro x1_181 x3_181 x4_181 M_181 N_181 k_181 kn_181 p_jB_181 p_jL_181 p_jR_181 p_jS_181 f0_181 f1_181 f2_181 f3_181 f4_181 f5_181
        obtain ⟨u0_jB_181, u1_jB_181, u2_jB_181, u3_jB_181, u4_jB_181, u5_jB_181⟩ := id p_jB_181
        obtain ⟨u0_jS_181, u1_jS_181, u2_jS_181, u3_jS_181, u4_jS_181, u5_jS_181, u6_jS_181, u7_jS_181⟩ := jS.ints p_jS_181
        unfold D_X8_adds_181
        exact ih_5 _ _ _ _ _ k_181 kn_181 p_jB_181 p_jL_181 p_jR_181 p_jS_181 (by first | omega | (simp only [Int32.toInt_add, Int32.toInt_sub, Int32.toInt_mul, Int32.toInt_toInt64, Int64.toInt_add, z_m1, Int32.reduceToInt, Int64.reduceToInt, Int32.reduceToNatClampNeg, Int.bmod_def, or_true, true_or, and_true, true_and] <;> omega)) (by first | omega | (simp only [Int32.toInt_add, Int32.toInt_sub, Int32.toInt_mul, Int32.toInt_toInt64, Int64.toInt_add, z_m1, Int32.reduceToInt, Int64.reduceToInt, Int32.reduceToNatClampNeg, Int.bmod_def, or_true, true_or, and_true, true_and] <;> omega)) (by first | assumption | exact z_set7 (by assumption) (by first | omega | (simp only [Int32.toInt_add, Int32.toInt_sub, Int32.toInt_mul, Int32.toInt_toInt64, Int64.toInt_add, z_m1, Int32.reduceToInt, Int64.reduceToInt, Int32.reduceToNatClampNeg, Int.bmod_def, or_true, true_or, and_true, true_and] <;> omega)) (by first | omega | (simp only [Int32.toInt_add, Int32.toInt_sub, Int32.toInt_mul, Int32.toInt_toInt64, Int64.toInt_add, z_m1, Int32.reduceToInt, Int64.reduceToInt, Int32.reduceToNatClampNeg, Int.bmod_def, or_true, true_or, and_true, true_and] <;> omega)) | exact (by first | omega | (simp only [Int32.toInt_add, Int32.toInt_sub, Int32.toInt_mul, Int32.toInt_toInt64, Int64.toInt_add, z_m1, Int32.reduceToInt, Int64.reduceToInt, Int32.reduceToNatClampNeg, Int.bmod_def, or_true, true_or, and_true, true_and] <;> omega))) (by first | omega | (simp only [Int32.toInt_add, Int32.toInt_sub, Int32.toInt_mul, Int32.toInt_toInt64, Int64.toInt_add, z_m1, Int32.reduceToInt, Int64.reduceToInt, Int32.reduceToNatClampNeg, Int.bmod_def, or_true, true_or, and_true, true_and] <;> omega)) (z_up1 f3_181 f2_181)
      have TL_134 : ∀ u : Nat, ∀ (x1_134 : Int64) (x3_134 : Int32) (x4_134 : Int32) (x5_134 : Int32) (M_134 : zMt) (N_134 : zNt), (∀ a j, ¬ WM_X8_adds P a j → M_134 a j = M0 a j) → (∀ a j, ¬ WN_X8_adds P a j → N_134 a j = N0 a j) → (jB P M_134) → (jL P M_134) → (jR P M_134) → (jS P M_134) → (0 ≤ Int32.toInt x4_134) → (Int32.toInt x4_134 < Int32.toInt (M_134 P 33)) → (0 ≤ Int32.toInt x5_134) → (Int32.toInt x5_134 ≤ 10) → ((2147483648 - Int32.toInt x4_134).toNat < u_5 + 1) → (Int32.toInt x4_134 < 2147483647) → (0 ≤ Int32.toInt x3_134 ∧ Int32.toInt x3_134 ≤ 127) → (Int32.toInt (M_134 P 33) ≤ 7) → (2147483648 - Int32.toInt x5_134).toNat < u → ∃ r, D_X8_adds_134 P (D_X8_adds_5 P u_5) u x1_134 x3_134 x4_134 x5_134 M_134 N_134 = some r ∧ ((∀ a j, ¬ WM_X8_adds P a j → r.1 a j = M0 a j) ∧ (∀ a j, ¬ WN_X8_adds P a j → r.2 a j = N0 a j)) := by
        intro u
        induction u with
        | zero => intro x1_134 x3_134 x4_134 x5_134 M_134 N_134 k_134 kn_134 p_jB_134 p_jL_134 p_jR_134 p_jS_134 f0_134 f1_134 f2_134 f3_134 f4_134 f5_134 f6_134 f7_134 hm_134; exact absurd hm_134 (Nat.not_lt_zero _)
        | succ u_134 ih_134 =>
          have T_173 : ∀ (x1_173 : Int64) (x3_173 : Int32) (x4_173 : Int32) (x5_173 : Int32) (y1_173 : Int32) (y2_173 : Int64) (y3_173 : Int64) (M_173 : zMt) (N_173 : zNt), (∀ a j, ¬ WM_X8_adds P a j → M_173 a j = M0 a j) → (∀ a j, ¬ WN_X8_adds P a j → N_173 a j = N0 a j) → (jB P M_173) → (jL P M_173) → (jR P M_173) → (jS P M_173) → (0 ≤ Int32.toInt x4_173) → (Int32.toInt x4_173 < Int32.toInt (M_173 P 33)) → (0 ≤ Int32.toInt x5_173) → (Int32.toInt x5_173 < Int32.toInt (M_173 P 33)) → ((2147483648 - Int32.toInt x4_173).toNat < u_5 + 1) → (Int32.toInt x4_173 < 2147483647) → ((2147483648 - Int32.toInt x5_173).toNat < u_134 + 1) → (Int32.toInt x5_173 < 2147483647) → (0 ≤ Int32.toInt x3_173 ∧ Int32.toInt x3_173 ≤ 127) → (Int32.toInt (M_173 P 33) ≤ 7) → (0 ≤ Int32.toInt y1_173 ∧ Int32.toInt y1_173 < 49) → ∃ r, D_X8_adds_173 P (D_X8_adds_5 P u_5) (D_X8_adds_134 P (D_X8_adds_5 P u_5) u_134) x1_173 x3_173 x4_173 x5_173 y1_173 y2_173 y3_173 M_173 N_173 = some r ∧ ((∀ a j, ¬ WM_X8_adds P a j → r.1 a j = M0 a j) ∧ (∀ a j, ¬ WN_X8_adds P a j → r.2 a j = N0 a j)) := by
            intro x1_173 x3_173 x4_173 x5_173 y1_173 y2_173 y3_173 M_173 N_173 k_173 kn_173 p_jB_173 p_jL_173 p_jR_173 p_jS_173 f0_173 f1_173 f2_173 f3_173 f4_173 f5_173 f6_173 f7_173 f8_173 f9_173 f10_173
            obtain ⟨u0_jB_173, u1_jB_173, u2_jB_173, u3_jB_173, u4_jB_173, u5_jB_173⟩ := id p_jB_173
            obtain ⟨u0_jS_173, u1_jS_173, u2_jS_173, u3_jS_173, u4_jS_173, u5_jS_173, u6_jS_173, u7_jS_173⟩ := jS.ints p_jS_173
            unfold D_X8_adds_173
            refine vI (vp_of (by first | omega | (simp only [Int32.toInt_add, Int32.toInt_sub, Int32.toInt_mul, Int32.toInt_toInt64, Int64.toInt_add, z_m1, Int32.reduceToInt, Int64.reduceToInt, Int32.reduceToNatClampNeg, Int.bmod_def, or_true, true_or, and_true, true_and] <;> omega)) (by first | omega | (simp only [Int32.toInt_add, Int32.toInt_sub, Int32.toInt_mul, Int32.toInt_toInt64, Int64.toInt_add, z_m1, Int32.reduceToInt, Int64.reduceToInt, Int32.reduceToNatClampNeg, Int.bmod_def, or_true, true_or, and_true, true_and] <;> omega))) ?_
            refine vLn (W := WN_X8_adds P) (fun a j h => (zu_ne (fun z => wq_X8_adds_N27_r h z.1)).trans (kn_173 a j h)) (fun N_174 f_174 kn_174 => ?_)
            exact ih_134 _ _ _ _ _ _ k_173 kn_174 p_jB_173 p_jL_173 p_jR_173 p_jS_173 (by first | omega | (simp only [Int32.toInt_add, Int32.toInt_sub, Int32.toInt_mul, Int32.toInt_toInt64, Int64.toInt_add, z_m1, Int32.reduceToInt, Int64.reduceToInt, Int32.reduceToNatClampNeg, Int.bmod_def, or_true, true_or, and_true, true_and] <;> omega)) (by first | omega | (simp only [Int32.toInt_add, Int32.toInt_sub, Int32.toInt_mul, Int32.toInt_toInt64, Int64.toInt_add, z_m1, Int32.reduceToInt, Int64.reduceToInt, Int32.reduceToNatClampNeg, Int.bmod_def, or_true, true_or, and_true, true_and] <;> omega)) (by first | omega | (simp only [Int32.toInt_add, Int32.toInt_sub, Int32.toInt_mul, Int32.toInt_toInt64, Int64.toInt_add, z_m1, Int32.reduceToInt, Int64.reduceToInt, Int32.reduceToNatClampNeg, Int.bmod_def, or_true, true_or, and_true, true_and] <;> omega)) (by first | omega | (simp only [Int32.toInt_add, Int32.toInt_sub, Int32.toInt_mul, Int32.toInt_toInt64, Int64.toInt_add, z_m1, Int32.reduceToInt, Int64.reduceToInt, Int32.reduceToNatClampNeg, Int.bmod_def, or_true, true_or, and_true, true_and] <;> omega)) f4_173 f5_173 (by first | assumption | exact z_set7 (by assumption) (by first | omega | (simp only [Int32.toInt_add, Int32.toInt_sub, Int32.toInt_mul, Int32.toInt_toInt64, Int64.toInt_add, z_m1, Int32.reduceToInt, Int64.reduceToInt, Int32.reduceToNatClampNeg, Int.bmod_def, or_true, true_or, and_true, true_and] <;> omega)) (by first | omega | (simp only [Int32.toInt_add, Int32.toInt_sub, Int32.toInt_mul, Int32.toInt_toInt64, Int64.toInt_add, z_m1, Int32.reduceToInt, Int64.reduceToInt, Int32.reduceToNatClampNeg, Int.bmod_def, or_true, true_or, and_true, true_and] <;> omega)) | exact (by first | omega | (simp only [Int32.toInt_add, Int32.toInt_sub, Int32.toInt_mul, Int32.toInt_toInt64, Int64.toInt_add, z_m1, Int32.reduceToInt, Int64.reduceToInt, Int32.reduceToNatClampNeg, Int.bmod_def, or_true, true_or, and_true, true_and] <;> omega))) (by first | omega | (simp only [Int32.toInt_add, Int32.toInt_sub, Int32.toInt_mul, Int32.toInt_toInt64, Int64.toInt_add, z_m1, Int32.reduceToInt, Int64.reduceToInt, Int32.reduceToNatClampNeg, Int.bmod_def, or_true, true_or, and_true, true_and] <;> omega)) (z_up1 f7_173 f6_173)
          intro x1_134 x3_134 x4_134 x5_134 M_134 N_134 k_134 kn_134 p_jB_134 p_jL_134 p_jR_134 p_jS_134 f0_134 f1_134 f2_134 f3_134 f4_134 f5_134 f6_134 f7_134 hm_134
          obtain ⟨u0_jB_134, u1_jB_134, u2_jB_134, u3_jB_134, u4_jB_134, u5_jB_134⟩ := id p_jB_134
          obtain ⟨u0_jS_134, u1_jS_134, u2_jS_134, u3_jS_134, u4_jS_134, u5_jS_134, u6_jS_134, u7_jS_134⟩ := jS.ints p_jS_134
          rw [D_X8_adds_134]
          refine vIf (fun h_140 => ?_) (fun h_140 => ?_)
          · have i_140 := Int32.le_iff_toInt_le.mp h_140
            (try simp only [Int32.toInt_add, Int32.toInt_sub, Int32.toInt_mul, Int32.toInt_toInt64, Int64.toInt_add, z_m1, Int32.reduceToInt, Int64.reduceToInt, Int32.reduceToNatClampNeg, Int.bmod_def] at i_140)
            exact T_181 _ _ _ _ _ k_134 kn_134 p_jB_134 p_jL_134 p_jR_134 p_jS_134 (by first | omega | (simp only [Int32.toInt_add, Int32.toInt_sub, Int32.toInt_mul, Int32.toInt_toInt64, Int64.toInt_add, z_m1, Int32.reduceToInt, Int64.reduceToInt, Int32.reduceToNatClampNeg, Int.bmod_def, or_true, true_or, and_true, true_and] <;> omega)) (by first | omega | (simp only [Int32.toInt_add, Int32.toInt_sub, Int32.toInt_mul, Int32.toInt_toInt64, Int64.toInt_add, z_m1, Int32.reduceToInt, Int64.reduceToInt, Int32.reduceToNatClampNeg, Int.bmod_def, or_true, true_or, and_true, true_and] <;> omega)) f4_134 f5_134 (by first | assumption | exact z_set7 (by assumption) (by first | omega | (simp only [Int32.toInt_add, Int32.toInt_sub, Int32.toInt_mul, Int32.toInt_toInt64, Int64.toInt_add, z_m1, Int32.reduceToInt, Int64.reduceToInt, Int32.reduceToNatClampNeg, Int.bmod_def, or_true, true_or, and_true, true_and] <;> omega)) (by first | omega | (simp only [Int32.toInt_add, Int32.toInt_sub, Int32.toInt_mul, Int32.toInt_toInt64, Int64.toInt_add, z_m1, Int32.reduceToInt, Int64.reduceToInt, Int32.reduceToNatClampNeg, Int.bmod_def, or_true, true_or, and_true, true_and] <;> omega)) | exact (by first | omega | (simp only [Int32.toInt_add, Int32.toInt_sub, Int32.toInt_mul, Int32.toInt_toInt64, Int64.toInt_add, z_m1, Int32.reduceToInt, Int64.reduceToInt, Int32.reduceToNatClampNeg, Int.bmod_def, or_true, true_or, and_true, true_and] <;> omega))) (by first | omega | (simp only [Int32.toInt_add, Int32.toInt_sub, Int32.toInt_mul, Int32.toInt_toInt64, Int64.toInt_add, z_m1, Int32.reduceToInt, Int64.reduceToInt, Int32.reduceToNatClampNeg, Int.bmod_def, or_true, true_or, and_true, true_and] <;> omega))
          · have i_140 := Int32.lt_iff_toInt_lt.mp (Int32.not_le.mp h_140)
            (try simp only [Int32.toInt_add, Int32.toInt_sub, Int32.toInt_mul, Int32.toInt_toInt64, Int64.toInt_add, z_m1, Int32.reduceToInt, Int64.reduceToInt, Int32.reduceToNatClampNeg, Int.bmod_def] at i_140)
            have th_156_0 : Int32.toInt ((7 : Int32) * x4_134) = Int32.toInt (7 : Int32) * Int32.toInt x4_134 := z_mul (by first | omega | (simp only [Int32.toInt_add, Int32.toInt_sub, Int32.toInt_mul, Int32.toInt_toInt64, Int64.toInt_add, z_m1, Int32.reduceToInt, Int64.reduceToInt, Int32.reduceToNatClampNeg, Int.bmod_def, or_true, true_or, and_true, true_and] <;> omega)) (by first | omega | (simp only [Int32.toInt_add, Int32.toInt_sub, Int32.toInt_mul, Int32.toInt_toInt64, Int64.toInt_add, z_m1, Int32.reduceToInt, Int64.reduceToInt, Int32.reduceToNatClampNeg, Int.bmod_def, or_true, true_or, and_true, true_and] <;> omega))
            (try simp only [Int32.reduceToInt, z_m1] at th_156_0)
            have th_156_2 : Int32.toInt (((7 : Int32) * x4_134) + x5_134) = Int32.toInt ((7 : Int32) * x4_134) + Int32.toInt x5_134 := z_add (by first | omega | (simp only [Int32.toInt_add, Int32.toInt_sub, Int32.toInt_mul, Int32.toInt_toInt64, Int64.toInt_add, z_m1, Int32.reduceToInt, Int64.reduceToInt, Int32.reduceToNatClampNeg, Int.bmod_def, or_true, true_or, and_true, true_and] <;> omega)) (by first | omega | (simp only [Int32.toInt_add, Int32.toInt_sub, Int32.toInt_mul, Int32.toInt_toInt64, Int64.toInt_add, z_m1, Int32.reduceToInt, Int64.reduceToInt, Int32.reduceToNatClampNeg, Int.bmod_def, or_true, true_or, and_true, true_and] <;> omega))
            (try simp only [Int32.reduceToInt, z_m1] at th_156_2)
            refine vI (vp_of (by first | omega | (simp only [Int32.toInt_add, Int32.toInt_sub, Int32.toInt_mul, Int32.toInt_toInt64, Int64.toInt_add, z_m1, Int32.reduceToInt, Int64.reduceToInt, Int32.reduceToNatClampNeg, Int.bmod_def, or_true, true_or, and_true, true_and] <;> omega)) (by first | omega | (simp only [Int32.toInt_add, Int32.toInt_sub, Int32.toInt_mul, Int32.toInt_toInt64, Int64.toInt_add, z_m1, Int32.reduceToInt, Int64.reduceToInt, Int32.reduceToNatClampNeg, Int.bmod_def, or_true, true_or, and_true, true_and] <;> omega))) ?_
            refine vI (vp_of (by first | omega | (simp only [Int32.toInt_add, Int32.toInt_sub, Int32.toInt_mul, Int32.toInt_toInt64, Int64.toInt_add, z_m1, Int32.reduceToInt, Int64.reduceToInt, Int32.reduceToNatClampNeg, Int.bmod_def, or_true, true_or, and_true, true_and] <;> omega)) (by first | omega | (simp only [Int32.toInt_add, Int32.toInt_sub, Int32.toInt_mul, Int32.toInt_toInt64, Int64.toInt_add, z_m1, Int32.reduceToInt, Int64.reduceToInt, Int32.reduceToNatClampNeg, Int.bmod_def, or_true, true_or, and_true, true_and] <;> omega))) ?_
            obtain ⟨w0_163, w1_163⟩ := jR.el p_jR_134 (x := x5_134) (by first | omega | (simp only [Int32.toInt_add, Int32.toInt_sub, Int32.toInt_mul, Int32.toInt_toInt64, Int64.toInt_add, z_m1, Int32.reduceToInt, Int64.reduceToInt, Int32.reduceToNatClampNeg, Int.bmod_def, or_true, true_or, and_true, true_and] <;> omega)) (by first | omega | (simp only [Int32.toInt_add, Int32.toInt_sub, Int32.toInt_mul, Int32.toInt_toInt64, Int64.toInt_add, z_m1, Int32.reduceToInt, Int64.reduceToInt, Int32.reduceToNatClampNeg, Int.bmod_def, or_true, true_or, and_true, true_and] <;> omega))
            refine vIf (fun h_165 => ?_) (fun h_165 => ?_)
            · have i_165 := congrArg Int32.toInt h_165
              (try simp only [Int32.toInt_add, Int32.toInt_sub, Int32.toInt_mul, Int32.toInt_toInt64, Int64.toInt_add, z_m1, Int32.reduceToInt, Int64.reduceToInt, Int32.reduceToNatClampNeg, Int.bmod_def] at i_165)
              exact T_173 _ _ _ _ _ _ _ _ _ k_134 kn_134 p_jB_134 p_jL_134 p_jR_134 p_jS_134 (by first | omega | (simp only [Int32.toInt_add, Int32.toInt_sub, Int32.toInt_mul, Int32.toInt_toInt64, Int64.toInt_add, z_m1, Int32.reduceToInt, Int64.reduceToInt, Int32.reduceToNatClampNeg, Int.bmod_def, or_true, true_or, and_true, true_and] <;> omega)) (by first | omega | (simp only [Int32.toInt_add, Int32.toInt_sub, Int32.toInt_mul, Int32.toInt_toInt64, Int64.toInt_add, z_m1, Int32.reduceToInt, Int64.reduceToInt, Int32.reduceToNatClampNeg, Int.bmod_def, or_true, true_or, and_true, true_and] <;> omega)) (by first | omega | (simp only [Int32.toInt_add, Int32.toInt_sub, Int32.toInt_mul, Int32.toInt_toInt64, Int64.toInt_add, z_m1, Int32.reduceToInt, Int64.reduceToInt, Int32.reduceToNatClampNeg, Int.bmod_def, or_true, true_or, and_true, true_and] <;> omega)) (by first | omega | (simp only [Int32.toInt_add, Int32.toInt_sub, Int32.toInt_mul, Int32.toInt_toInt64, Int64.toInt_add, z_m1, Int32.reduceToInt, Int64.reduceToInt, Int32.reduceToNatClampNeg, Int.bmod_def, or_true, true_or, and_true, true_and] <;> omega)) f4_134 f5_134 hm_134 (by first | assumption | exact z_lt (by assumption) | exact z_lt2 (by assumption) | exact z_lt3 (by assumption) (by first | assumption | decide)) (by first | assumption | exact z_set7 (by assumption) (by first | omega | (simp only [Int32.toInt_add, Int32.toInt_sub, Int32.toInt_mul, Int32.toInt_toInt64, Int64.toInt_add, z_m1, Int32.reduceToInt, Int64.reduceToInt, Int32.reduceToNatClampNeg, Int.bmod_def, or_true, true_or, and_true, true_and] <;> omega)) (by first | omega | (simp only [Int32.toInt_add, Int32.toInt_sub, Int32.toInt_mul, Int32.toInt_toInt64, Int64.toInt_add, z_m1, Int32.reduceToInt, Int64.reduceToInt, Int32.reduceToNatClampNeg, Int.bmod_def, or_true, true_or, and_true, true_and] <;> omega)) | exact (by first | omega | (simp only [Int32.toInt_add, Int32.toInt_sub, Int32.toInt_mul, Int32.toInt_toInt64, Int64.toInt_add, z_m1, Int32.reduceToInt, Int64.reduceToInt, Int32.reduceToNatClampNeg, Int.bmod_def, or_true, true_or, and_true, true_and] <;> omega))) (by first | omega | (simp only [Int32.toInt_add, Int32.toInt_sub, Int32.toInt_mul, Int32.toInt_toInt64, Int64.toInt_add, z_m1, Int32.reduceToInt, Int64.reduceToInt, Int32.reduceToNatClampNeg, Int.bmod_def, or_true, true_or, and_true, true_and] <;> omega)) (by first | omega | (simp only [Int32.toInt_add, Int32.toInt_sub, Int32.toInt_mul, Int32.toInt_toInt64, Int64.toInt_add, z_m1, Int32.reduceToInt, Int64.reduceToInt, Int32.reduceToNatClampNeg, Int.bmod_def, or_true, true_or, and_true, true_and] <;> omega))
            · have i_165 : ¬ Int32.toInt (M_134 (P + 19) x5_134.toNatClampNeg) = Int32.toInt (-1 : Int32) := fun q => h_165 (Int32.toInt_inj.mp q)
              (try simp only [Int32.toInt_add, Int32.toInt_sub, Int32.toInt_mul, Int32.toInt_toInt64, Int64.toInt_add, z_m1, Int32.reduceToInt, Int64.reduceToInt, Int32.reduceToNatClampNeg, Int.bmod_def] at i_165)
              exact T_173 _ _ _ _ _ _ _ _ _ k_134 kn_134 p_jB_134 p_jL_134 p_jR_134 p_jS_134 (by first | omega | (simp only [Int32.toInt_add, Int32.toInt_sub, Int32.toInt_mul, Int32.toInt_toInt64, Int64.toInt_add, z_m1, Int32.reduceToInt, Int64.reduceToInt, Int32.reduceToNatClampNeg, Int.bmod_def, or_true, true_or, and_true, true_and] <;> omega)) (by first | omega | (simp only [Int32.toInt_add, Int32.toInt_sub, Int32.toInt_mul, Int32.toInt_toInt64, Int64.toInt_add, z_m1, Int32.reduceToInt, Int64.reduceToInt, Int32.reduceToNatClampNeg, Int.bmod_def, or_true, true_or, and_true, true_and] <;> omega)) (by first | omega | (simp only [Int32.toInt_add, Int32.toInt_sub, Int32.toInt_mul, Int32.toInt_toInt64, Int64.toInt_add, z_m1, Int32.reduceToInt, Int64.reduceToInt, Int32.reduceToNatClampNeg, Int.bmod_def, or_true, true_or, and_true, true_and] <;> omega)) (by first | omega | (simp only [Int32.toInt_add, Int32.toInt_sub, Int32.toInt_mul, Int32.toInt_toInt64, Int64.toInt_add, z_m1, Int32.reduceToInt, Int64.reduceToInt, Int32.reduceToNatClampNeg, Int.bmod_def, or_true, true_or, and_true, true_and] <;> omega)) f4_134 f5_134 hm_134 (by first | assumption | exact z_lt (by assumption) | exact z_lt2 (by assumption) | exact z_lt3 (by assumption) (by first | assumption | decide)) (by first | assumption | exact z_set7 (by assumption) (by first | omega | (simp only [Int32.toInt_add, Int32.toInt_sub, Int32.toInt_mul, Int32.toInt_toInt64, Int64.toInt_add, z_m1, Int32.reduceToInt, Int64.reduceToInt, Int32.reduceToNatClampNeg, Int.bmod_def, or_true, true_or, and_true, true_and] <;> omega)) (by first | omega | (simp only [Int32.toInt_add, Int32.toInt_sub, Int32.toInt_mul, Int32.toInt_toInt64, Int64.toInt_add, z_m1, Int32.reduceToInt, Int64.reduceToInt, Int32.reduceToNatClampNeg, Int.bmod_def, or_true, true_or, and_true, true_and] <;> omega)) | exact (by first | omega | (simp only [Int32.toInt_add, Int32.toInt_sub, Int32.toInt_mul, Int32.toInt_toInt64, Int64.toInt_add, z_m1, Int32.reduceToInt, Int64.reduceToInt, Int32.reduceToNatClampNeg, Int.bmod_def, or_true, true_or, and_true, true_and] <;> omega))) (by first | omega | (simp only [Int32.toInt_add, Int32.toInt_sub, Int32.toInt_mul, Int32.toInt_toInt64, Int64.toInt_add, z_m1, Int32.reduceToInt, Int64.reduceToInt, Int32.reduceToNatClampNeg, Int.bmod_def, or_true, true_or, and_true, true_and] <;> omega)) (by first | omega | (simp only [Int32.toInt_add, Int32.toInt_sub, Int32.toInt_mul, Int32.toInt_toInt64, Int64.toInt_add, z_m1, Int32.reduceToInt, Int64.reduceToInt, Int32.reduceToNatClampNeg, Int.bmod_def, or_true, true_or, and_true, true_and] <;> omega))
      have T_134 : ∀ (x1_134 : Int64) (x3_134 : Int32) (x4_134 : Int32) (x5_134 : Int32) (M_134 : zMt) (N_134 : zNt), (∀ a j, ¬ WM_X8_adds P a j → M_134 a j = M0 a j) → (∀ a j, ¬ WN_X8_adds P a j → N_134 a j = N0 a j) → (jB P M_134) → (jL P M_134) → (jR P M_134) → (jS P M_134) → (0 ≤ Int32.toInt x4_134) → (Int32.toInt x4_134 < Int32.toInt (M_134 P 33)) → (0 ≤ Int32.toInt x5_134) → (Int32.toInt x5_134 ≤ 10) → ((2147483648 - Int32.toInt x4_134).toNat < u_5 + 1) → (Int32.toInt x4_134 < 2147483647) → (0 ≤ Int32.toInt x3_134 ∧ Int32.toInt x3_134 ≤ 127) → (Int32.toInt (M_134 P 33) ≤ 7) → ∃ r, D_X8_adds_134 P (D_X8_adds_5 P u_5) zFu x1_134 x3_134 x4_134 x5_134 M_134 N_134 = some r ∧ ((∀ a j, ¬ WM_X8_adds P a j → r.1 a j = M0 a j) ∧ (∀ a j, ¬ WN_X8_adds P a j → r.2 a j = N0 a j)) := fun x1_134 x3_134 x4_134 x5_134 M_134 N_134 k_134 kn_134 p_jB_134 p_jL_134 p_jR_134 p_jS_134 f0_134 f1_134 f2_134 f3_134 f4_134 f5_134 f6_134 f7_134 => TL_134 zFu x1_134 x3_134 x4_134 x5_134 M_134 N_134 k_134 kn_134 p_jB_134 p_jL_134 p_jR_134 p_jS_134 f0_134 f1_134 f2_134 f3_134 f4_134 f5_134 f6_134 f7_134 (zFu_up _)
      have T_104 : ∀ (x1_104 : Int64) (x3_104 : Int32) (x4_104 : Int32) (y1_104 : Int32) (y2_104 : Int64) (y3_104 : Int64) (M_104 : zMt) (N_104 : zNt), (∀ a j, ¬ WM_X8_adds P a j → M_104 a j = M0 a j) → (∀ a j, ¬ WN_X8_adds P a j → N_104 a j = N0 a j) → (jB P M_104) → (jL P M_104) → (jR P M_104) → (jS P M_104) → (0 ≤ Int32.toInt x4_104) → (Int32.toInt x4_104 < Int32.toInt (M_104 P 33)) → ((2147483648 - Int32.toInt x4_104).toNat < u_5 + 1) → (Int32.toInt x4_104 < 2147483647) → (0 ≤ Int32.toInt x3_104 ∧ Int32.toInt x3_104 ≤ 127) → (Int32.toInt y1_104 = Int32.toInt x4_104) → (0 ≤ Int32.toInt (M_104 (P + 19) x4_104.toNatClampNeg)) → (Int32.toInt (M_104 P 33) ≤ 7) → ∃ r, D_X8_adds_104 P (D_X8_adds_5 P u_5) x1_104 x3_104 x4_104 y1_104 y2_104 y3_104 M_104 N_104 = some r ∧ ((∀ a j, ¬ WM_X8_adds P a j → r.1 a j = M0 a j) ∧ (∀ a j, ¬ WN_X8_adds P a j → r.2 a j = N0 a j)) := by
        intro x1_104 x3_104 x4_104 y1_104 y2_104 y3_104 M_104 N_104 k_104 kn_104 p_jB_104 p_jL_104 p_jR_104 p_jS_104 f0_104 f1_104 f2_104 f3_104 f4_104 f5_104 f6_104 f7_104
        obtain ⟨u0_jB_104, u1_jB_104, u2_jB_104, u3_jB_104, u4_jB_104, u5_jB_104⟩ := id p_jB_104
        obtain ⟨u0_jS_104, u1_jS_104, u2_jS_104, u3_jS_104, u4_jS_104, u5_jS_104, u6_jS_104, u7_jS_104⟩ := jS.ints p_jS_104
        unfold D_X8_adds_104
        refine vI (vp_of (by first | omega | (simp only [Int32.toInt_add, Int32.toInt_sub, Int32.toInt_mul, Int32.toInt_toInt64, Int64.toInt_add, z_m1, Int32.reduceToInt, Int64.reduceToInt, Int32.reduceToNatClampNeg, Int.bmod_def, or_true, true_or, and_true, true_and] <;> omega)) (by first | omega | (simp only [Int32.toInt_add, Int32.toInt_sub, Int32.toInt_mul, Int32.toInt_toInt64, Int64.toInt_add, z_m1, Int32.reduceToInt, Int64.reduceToInt, Int32.reduceToNatClampNeg, Int.bmod_def, or_true, true_or, and_true, true_and] <;> omega))) ?_
        refine vLn (W := WN_X8_adds P) (fun a j h => (zu_ne (fun z => wq_X8_adds_N26_r h z.1)).trans (kn_104 a j h)) (fun N_105 f_105 kn_105 => ?_)
        refine vI (vp_of (by first | omega | (simp only [Int32.toInt_add, Int32.toInt_sub, Int32.toInt_mul, Int32.toInt_toInt64, Int64.toInt_add, z_m1, Int32.reduceToInt, Int64.reduceToInt, Int32.reduceToNatClampNeg, Int.bmod_def, or_true, true_or, and_true, true_and] <;> omega)) (by first | omega | (simp only [Int32.toInt_add, Int32.toInt_sub, Int32.toInt_mul, Int32.toInt_toInt64, Int64.toInt_add, z_m1, Int32.reduceToInt, Int64.reduceToInt, Int32.reduceToNatClampNeg, Int.bmod_def, or_true, true_or, and_true, true_and] <;> omega))) ?_
        obtain ⟨w0_116, w1_116⟩ := jR.el p_jR_104 (x := x4_104) (by first | omega | (simp only [Int32.toInt_add, Int32.toInt_sub, Int32.toInt_mul, Int32.toInt_toInt64, Int64.toInt_add, z_m1, Int32.reduceToInt, Int64.reduceToInt, Int32.reduceToNatClampNeg, Int.bmod_def, or_true, true_or, and_true, true_and] <;> omega)) (by first | omega | (simp only [Int32.toInt_add, Int32.toInt_sub, Int32.toInt_mul, Int32.toInt_toInt64, Int64.toInt_add, z_m1, Int32.reduceToInt, Int64.reduceToInt, Int32.reduceToNatClampNeg, Int.bmod_def, or_true, true_or, and_true, true_and] <;> omega))
        refine vI (vp_of (by first | omega | (simp only [Int32.toInt_add, Int32.toInt_sub, Int32.toInt_mul, Int32.toInt_toInt64, Int64.toInt_add, z_m1, Int32.reduceToInt, Int64.reduceToInt, Int32.reduceToNatClampNeg, Int.bmod_def, or_true, true_or, and_true, true_and] <;> omega)) (by first | omega | (simp only [Int32.toInt_add, Int32.toInt_sub, Int32.toInt_mul, Int32.toInt_toInt64, Int64.toInt_add, z_m1, Int32.reduceToInt, Int64.reduceToInt, Int32.reduceToNatClampNeg, Int.bmod_def, or_true, true_or, and_true, true_and] <;> omega))) ?_
        refine vI (vp_of (by first | omega | (simp only [Int32.toInt_add, Int32.toInt_sub, Int32.toInt_mul, Int32.toInt_toInt64, Int64.toInt_add, z_m1, Int32.reduceToInt, Int64.reduceToInt, Int32.reduceToNatClampNeg, Int.bmod_def, or_true, true_or, and_true, true_and] <;> omega)) (by first | omega | (simp only [Int32.toInt_add, Int32.toInt_sub, Int32.toInt_mul, Int32.toInt_toInt64, Int64.toInt_add, z_m1, Int32.reduceToInt, Int64.reduceToInt, Int32.reduceToNatClampNeg, Int.bmod_def, or_true, true_or, and_true, true_and] <;> omega))) ?_
        obtain ⟨w0_126, w1_126, w2_126, w3_126, w4_126, w5_126⟩ := jL.el p_jL_104 (x := x4_104) (by first | omega | (simp only [Int32.toInt_add, Int32.toInt_sub, Int32.toInt_mul, Int32.toInt_toInt64, Int64.toInt_add, z_m1, Int32.reduceToInt, Int64.reduceToInt, Int32.reduceToNatClampNeg, Int.bmod_def, or_true, true_or, and_true, true_and] <;> omega)) (by first | omega | (simp only [Int32.toInt_add, Int32.toInt_sub, Int32.toInt_mul, Int32.toInt_toInt64, Int64.toInt_add, z_m1, Int32.reduceToInt, Int64.reduceToInt, Int32.reduceToNatClampNeg, Int.bmod_def, or_true, true_or, and_true, true_and] <;> omega))
        refine vI (vp_of (by first | omega | (simp only [Int32.toInt_add, Int32.toInt_sub, Int32.toInt_mul, Int32.toInt_toInt64, Int64.toInt_add, z_m1, Int32.reduceToInt, Int64.reduceToInt, Int32.reduceToNatClampNeg, Int.bmod_def, or_true, true_or, and_true, true_and] <;> omega)) (by first | omega | (simp only [Int32.toInt_add, Int32.toInt_sub, Int32.toInt_mul, Int32.toInt_toInt64, Int64.toInt_add, z_m1, Int32.reduceToInt, Int64.reduceToInt, Int32.reduceToNatClampNeg, Int.bmod_def, or_true, true_or, and_true, true_and] <;> omega))) ?_
        refine vLn (W := WN_X8_adds P) (fun a j h => (zu_ne (fun z => wq_X8_adds_N28_r h z.1)).trans (kn_105 a j h)) (fun N_130 f_130 kn_130 => ?_)
        exact T_134 _ _ _ _ _ _ k_104 kn_130 p_jB_104 p_jL_104 p_jR_104 p_jS_104 (by first | omega | (simp only [Int32.toInt_add, Int32.toInt_sub, Int32.toInt_mul, Int32.toInt_toInt64, Int64.toInt_add, z_m1, Int32.reduceToInt, Int64.reduceToInt, Int32.reduceToNatClampNeg, Int.bmod_def, or_true, true_or, and_true, true_and] <;> omega)) (by first | omega | (simp only [Int32.toInt_add, Int32.toInt_sub, Int32.toInt_mul, Int32.toInt_toInt64, Int64.toInt_add, z_m1, Int32.reduceToInt, Int64.reduceToInt, Int32.reduceToNatClampNeg, Int.bmod_def, or_true, true_or, and_true, true_and] <;> omega)) (by first | omega | (simp only [Int32.toInt_add, Int32.toInt_sub, Int32.toInt_mul, Int32.toInt_toInt64, Int64.toInt_add, z_m1, Int32.reduceToInt, Int64.reduceToInt, Int32.reduceToNatClampNeg, Int.bmod_def, or_true, true_or, and_true, true_and] <;> omega)) (by first | omega | (simp only [Int32.toInt_add, Int32.toInt_sub, Int32.toInt_mul, Int32.toInt_toInt64, Int64.toInt_add, z_m1, Int32.reduceToInt, Int64.reduceToInt, Int32.reduceToNatClampNeg, Int.bmod_def, or_true, true_or, and_true, true_and] <;> omega)) f2_104 f3_104 (by first | assumption | exact z_set7 (by assumption) (by first | omega | (simp only [Int32.toInt_add, Int32.toInt_sub, Int32.toInt_mul, Int32.toInt_toInt64, Int64.toInt_add, z_m1, Int32.reduceToInt, Int64.reduceToInt, Int32.reduceToNatClampNeg, Int.bmod_def, or_true, true_or, and_true, true_and] <;> omega)) (by first | omega | (simp only [Int32.toInt_add, Int32.toInt_sub, Int32.toInt_mul, Int32.toInt_toInt64, Int64.toInt_add, z_m1, Int32.reduceToInt, Int64.reduceToInt, Int32.reduceToNatClampNeg, Int.bmod_def, or_true, true_or, and_true, true_and] <;> omega)) | exact (by first | omega | (simp only [Int32.toInt_add, Int32.toInt_sub, Int32.toInt_mul, Int32.toInt_toInt64, Int64.toInt_add, z_m1, Int32.reduceToInt, Int64.reduceToInt, Int32.reduceToNatClampNeg, Int.bmod_def, or_true, true_or, and_true, true_and] <;> omega))) (by first | omega | (simp only [Int32.toInt_add, Int32.toInt_sub, Int32.toInt_mul, Int32.toInt_toInt64, Int64.toInt_add, z_m1, Int32.reduceToInt, Int64.reduceToInt, Int32.reduceToNatClampNeg, Int.bmod_def, or_true, true_or, and_true, true_and] <;> omega))
      have T_78 : ∀ (x1_78 : Int64) (x3_78 : Int32) (x4_78 : Int32) (y1_78 : Int32) (y2_78 : Int64) (y3_78 : Int64) (M_78 : zMt) (N_78 : zNt), (∀ a j, ¬ WM_X8_adds P a j → M_78 a j = M0 a j) → (∀ a j, ¬ WN_X8_adds P a j → N_78 a j = N0 a j) → (jB P M_78) → (jL P M_78) → (jR P M_78) → (jS P M_78) → (0 ≤ Int32.toInt x4_78) → (Int32.toInt x4_78 < Int32.toInt (M_78 P 33)) → ((2147483648 - Int32.toInt x4_78).toNat < u_5 + 1) → (Int32.toInt x4_78 < 2147483647) → (0 ≤ Int32.toInt x3_78 ∧ Int32.toInt x3_78 ≤ 127) → (Int32.toInt y1_78 = Int32.toInt x4_78) → (0 ≤ Int32.toInt (M_78 (P + 19) x4_78.toNatClampNeg)) → (Int32.toInt (M_78 P 33) ≤ 7) → ∃ r, D_X8_adds_78 P (D_X8_adds_5 P u_5) x1_78 x3_78 x4_78 y1_78 y2_78 y3_78 M_78 N_78 = some r ∧ ((∀ a j, ¬ WM_X8_adds P a j → r.1 a j = M0 a j) ∧ (∀ a j, ¬ WN_X8_adds P a j → r.2 a j = N0 a j)) := by
        intro x1_78 x3_78 x4_78 y1_78 y2_78 y3_78 M_78 N_78 k_78 kn_78 p_jB_78 p_jL_78 p_jR_78 p_jS_78 f0_78 f1_78 f2_78 f3_78 f4_78 f5_78 f6_78 f7_78
        obtain ⟨u0_jB_78, u1_jB_78, u2_jB_78, u3_jB_78, u4_jB_78, u5_jB_78⟩ := id p_jB_78
        obtain ⟨u0_jS_78, u1_jS_78, u2_jS_78, u3_jS_78, u4_jS_78, u5_jS_78, u6_jS_78, u7_jS_78⟩ := jS.ints p_jS_78
        unfold D_X8_adds_78
        refine vI (vp_of (by first | omega | (simp only [Int32.toInt_add, Int32.toInt_sub, Int32.toInt_mul, Int32.toInt_toInt64, Int64.toInt_add, z_m1, Int32.reduceToInt, Int64.reduceToInt, Int32.reduceToNatClampNeg, Int.bmod_def, or_true, true_or, and_true, true_and] <;> omega)) (by first | omega | (simp only [Int32.toInt_add, Int32.toInt_sub, Int32.toInt_mul, Int32.toInt_toInt64, Int64.toInt_add, z_m1, Int32.reduceToInt, Int64.reduceToInt, Int32.reduceToNatClampNeg, Int.bmod_def, or_true, true_or, and_true, true_and] <;> omega))) ?_
        refine vLn (W := WN_X8_adds P) (fun a j h => (zu_ne (fun z => wq_X8_adds_N25_r h z.1)).trans (kn_78 a j h)) (fun N_79 f_79 kn_79 => ?_)
        refine vI (vp_of (by first | omega | (simp only [Int32.toInt_add, Int32.toInt_sub, Int32.toInt_mul, Int32.toInt_toInt64, Int64.toInt_add, z_m1, Int32.reduceToInt, Int64.reduceToInt, Int32.reduceToNatClampNeg, Int.bmod_def, or_true, true_or, and_true, true_and] <;> omega)) (by first | omega | (simp only [Int32.toInt_add, Int32.toInt_sub, Int32.toInt_mul, Int32.toInt_toInt64, Int64.toInt_add, z_m1, Int32.reduceToInt, Int64.reduceToInt, Int32.reduceToNatClampNeg, Int.bmod_def, or_true, true_or, and_true, true_and] <;> omega))) ?_
        refine vI (vp_of (by first | omega | (simp only [Int32.toInt_add, Int32.toInt_sub, Int32.toInt_mul, Int32.toInt_toInt64, Int64.toInt_add, z_m1, Int32.reduceToInt, Int64.reduceToInt, Int32.reduceToNatClampNeg, Int.bmod_def, or_true, true_or, and_true, true_and] <;> omega)) (by first | omega | (simp only [Int32.toInt_add, Int32.toInt_sub, Int32.toInt_mul, Int32.toInt_toInt64, Int64.toInt_add, z_m1, Int32.reduceToInt, Int64.reduceToInt, Int32.reduceToNatClampNeg, Int.bmod_def, or_true, true_or, and_true, true_and] <;> omega))) ?_
        refine vIf (fun h_96 => ?_) (fun h_96 => ?_)
        · have i_96 := congrArg Int32.toInt h_96
          (try simp only [Int32.toInt_add, Int32.toInt_sub, Int32.toInt_mul, Int32.toInt_toInt64, Int64.toInt_add, z_m1, Int32.reduceToInt, Int64.reduceToInt, Int32.reduceToNatClampNeg, Int.bmod_def] at i_96)
          exact T_104 _ _ _ _ _ _ _ _ k_78 kn_79 p_jB_78 p_jL_78 p_jR_78 p_jS_78 (by first | omega | (simp only [Int32.toInt_add, Int32.toInt_sub, Int32.toInt_mul, Int32.toInt_toInt64, Int64.toInt_add, z_m1, Int32.reduceToInt, Int64.reduceToInt, Int32.reduceToNatClampNeg, Int.bmod_def, or_true, true_or, and_true, true_and] <;> omega)) (by first | omega | (simp only [Int32.toInt_add, Int32.toInt_sub, Int32.toInt_mul, Int32.toInt_toInt64, Int64.toInt_add, z_m1, Int32.reduceToInt, Int64.reduceToInt, Int32.reduceToNatClampNeg, Int.bmod_def, or_true, true_or, and_true, true_and] <;> omega)) f2_78 f3_78 (by first | assumption | exact z_set7 (by assumption) (by first | omega | (simp only [Int32.toInt_add, Int32.toInt_sub, Int32.toInt_mul, Int32.toInt_toInt64, Int64.toInt_add, z_m1, Int32.reduceToInt, Int64.reduceToInt, Int32.reduceToNatClampNeg, Int.bmod_def, or_true, true_or, and_true, true_and] <;> omega)) (by first | omega | (simp only [Int32.toInt_add, Int32.toInt_sub, Int32.toInt_mul, Int32.toInt_toInt64, Int64.toInt_add, z_m1, Int32.reduceToInt, Int64.reduceToInt, Int32.reduceToNatClampNeg, Int.bmod_def, or_true, true_or, and_true, true_and] <;> omega)) | exact (by first | omega | (simp only [Int32.toInt_add, Int32.toInt_sub, Int32.toInt_mul, Int32.toInt_toInt64, Int64.toInt_add, z_m1, Int32.reduceToInt, Int64.reduceToInt, Int32.reduceToNatClampNeg, Int.bmod_def, or_true, true_or, and_true, true_and] <;> omega))) (by first | omega | (simp only [Int32.toInt_add, Int32.toInt_sub, Int32.toInt_mul, Int32.toInt_toInt64, Int64.toInt_add, z_m1, Int32.reduceToInt, Int64.reduceToInt, Int32.reduceToNatClampNeg, Int.bmod_def, or_true, true_or, and_true, true_and] <;> omega)) (by first | omega | (simp only [Int32.toInt_add, Int32.toInt_sub, Int32.toInt_mul, Int32.toInt_toInt64, Int64.toInt_add, z_m1, Int32.reduceToInt, Int64.reduceToInt, Int32.reduceToNatClampNeg, Int.bmod_def, or_true, true_or, and_true, true_and] <;> omega)) (by first | omega | (simp only [Int32.toInt_add, Int32.toInt_sub, Int32.toInt_mul, Int32.toInt_toInt64, Int64.toInt_add, z_m1, Int32.reduceToInt, Int64.reduceToInt, Int32.reduceToNatClampNeg, Int.bmod_def, or_true, true_or, and_true, true_and] <;> omega))
        · have i_96 : ¬ Int32.toInt (M_78 (P + 20) x4_78.toNatClampNeg) = Int32.toInt (1 : Int32) := fun q => h_96 (Int32.toInt_inj.mp q)
          (try simp only [Int32.toInt_add, Int32.toInt_sub, Int32.toInt_mul, Int32.toInt_toInt64, Int64.toInt_add, z_m1, Int32.reduceToInt, Int64.reduceToInt, Int32.reduceToNatClampNeg, Int.bmod_def] at i_96)
          exact T_104 _ _ _ _ _ _ _ _ k_78 kn_79 p_jB_78 p_jL_78 p_jR_78 p_jS_78 (by first | omega | (simp only [Int32.toInt_add, Int32.toInt_sub, Int32.toInt_mul, Int32.toInt_toInt64, Int64.toInt_add, z_m1, Int32.reduceToInt, Int64.reduceToInt, Int32.reduceToNatClampNeg, Int.bmod_def, or_true, true_or, and_true, true_and] <;> omega)) (by first | omega | (simp only [Int32.toInt_add, Int32.toInt_sub, Int32.toInt_mul, Int32.toInt_toInt64, Int64.toInt_add, z_m1, Int32.reduceToInt, Int64.reduceToInt, Int32.reduceToNatClampNeg, Int.bmod_def, or_true, true_or, and_true, true_and] <;> omega)) f2_78 f3_78 (by first | assumption | exact z_set7 (by assumption) (by first | omega | (simp only [Int32.toInt_add, Int32.toInt_sub, Int32.toInt_mul, Int32.toInt_toInt64, Int64.toInt_add, z_m1, Int32.reduceToInt, Int64.reduceToInt, Int32.reduceToNatClampNeg, Int.bmod_def, or_true, true_or, and_true, true_and] <;> omega)) (by first | omega | (simp only [Int32.toInt_add, Int32.toInt_sub, Int32.toInt_mul, Int32.toInt_toInt64, Int64.toInt_add, z_m1, Int32.reduceToInt, Int64.reduceToInt, Int32.reduceToNatClampNeg, Int.bmod_def, or_true, true_or, and_true, true_and] <;> omega)) | exact (by first | omega | (simp only [Int32.toInt_add, Int32.toInt_sub, Int32.toInt_mul, Int32.toInt_toInt64, Int64.toInt_add, z_m1, Int32.reduceToInt, Int64.reduceToInt, Int32.reduceToNatClampNeg, Int.bmod_def, or_true, true_or, and_true, true_and] <;> omega))) (by first | omega | (simp only [Int32.toInt_add, Int32.toInt_sub, Int32.toInt_mul, Int32.toInt_toInt64, Int64.toInt_add, z_m1, Int32.reduceToInt, Int64.reduceToInt, Int32.reduceToNatClampNeg, Int.bmod_def, or_true, true_or, and_true, true_and] <;> omega)) (by first | omega | (simp only [Int32.toInt_add, Int32.toInt_sub, Int32.toInt_mul, Int32.toInt_toInt64, Int64.toInt_add, z_m1, Int32.reduceToInt, Int64.reduceToInt, Int32.reduceToNatClampNeg, Int.bmod_def, or_true, true_or, and_true, true_and] <;> omega)) (by first | omega | (simp only [Int32.toInt_add, Int32.toInt_sub, Int32.toInt_mul, Int32.toInt_toInt64, Int64.toInt_add, z_m1, Int32.reduceToInt, Int64.reduceToInt, Int32.reduceToNatClampNeg, Int.bmod_def, or_true, true_or, and_true, true_and] <;> omega))
      intro x1_5 x3_5 x4_5 M_5 N_5 k_5 kn_5 p_jB_5 p_jL_5 p_jR_5 p_jS_5 f0_5 f1_5 f2_5 f3_5 hm_5
      obtain ⟨u0_jB_5, u1_jB_5, u2_jB_5, u3_jB_5, u4_jB_5, u5_jB_5⟩ := id p_jB_5
      obtain ⟨u0_jS_5, u1_jS_5, u2_jS_5, u3_jS_5, u4_jS_5, u5_jS_5, u6_jS_5, u7_jS_5⟩ := jS.ints p_jS_5
      rw [D_X8_adds_5]
      refine vIf (fun h_11 => ?_) (fun h_11 => ?_)
      · have i_11 := Int32.le_iff_toInt_le.mp h_11
        (try simp only [Int32.toInt_add, Int32.toInt_sub, Int32.toInt_mul, Int32.toInt_toInt64, Int64.toInt_add, z_m1, Int32.reduceToInt, Int64.reduceToInt, Int32.reduceToNatClampNeg, Int.bmod_def] at i_11)
        refine vIf (fun h_200 => ?_) (fun h_200 => ?_)
        · have i_200 := congrArg Int32.toInt h_200
          (try simp only [Int32.toInt_add, Int32.toInt_sub, Int32.toInt_mul, Int32.toInt_toInt64, Int64.toInt_add, z_m1, Int32.reduceToInt, Int64.reduceToInt, Int32.reduceToNatClampNeg, Int.bmod_def] at i_200)
          exact T_208 _ _ _ _ _ k_5 kn_5 p_jB_5 p_jL_5 p_jR_5 p_jS_5 (by first | assumption | exact z_set7 (by assumption) (by first | omega | (simp only [Int32.toInt_add, Int32.toInt_sub, Int32.toInt_mul, Int32.toInt_toInt64, Int64.toInt_add, z_m1, Int32.reduceToInt, Int64.reduceToInt, Int32.reduceToNatClampNeg, Int.bmod_def, or_true, true_or, and_true, true_and] <;> omega)) (by first | omega | (simp only [Int32.toInt_add, Int32.toInt_sub, Int32.toInt_mul, Int32.toInt_toInt64, Int64.toInt_add, z_m1, Int32.reduceToInt, Int64.reduceToInt, Int32.reduceToNatClampNeg, Int.bmod_def, or_true, true_or, and_true, true_and] <;> omega)) | exact (by first | omega | (simp only [Int32.toInt_add, Int32.toInt_sub, Int32.toInt_mul, Int32.toInt_toInt64, Int64.toInt_add, z_m1, Int32.reduceToInt, Int64.reduceToInt, Int32.reduceToNatClampNeg, Int.bmod_def, or_true, true_or, and_true, true_and] <;> omega))) (by first | omega | (simp only [Int32.toInt_add, Int32.toInt_sub, Int32.toInt_mul, Int32.toInt_toInt64, Int64.toInt_add, z_m1, Int32.reduceToInt, Int64.reduceToInt, Int32.reduceToNatClampNeg, Int.bmod_def, or_true, true_or, and_true, true_and] <;> omega))
        · have i_200 : ¬ Int32.toInt ((M_5 P 58) &&& (x3_5 ^^^ (-1 : Int32))) = Int32.toInt (0 : Int32) := fun q => h_200 (Int32.toInt_inj.mp q)
          (try simp only [Int32.toInt_add, Int32.toInt_sub, Int32.toInt_mul, Int32.toInt_toInt64, Int64.toInt_add, z_m1, Int32.reduceToInt, Int64.reduceToInt, Int32.reduceToNatClampNeg, Int.bmod_def] at i_200)
          exact T_208 _ _ _ _ _ k_5 kn_5 p_jB_5 p_jL_5 p_jR_5 p_jS_5 (by first | assumption | exact z_set7 (by assumption) (by first | omega | (simp only [Int32.toInt_add, Int32.toInt_sub, Int32.toInt_mul, Int32.toInt_toInt64, Int64.toInt_add, z_m1, Int32.reduceToInt, Int64.reduceToInt, Int32.reduceToNatClampNeg, Int.bmod_def, or_true, true_or, and_true, true_and] <;> omega)) (by first | omega | (simp only [Int32.toInt_add, Int32.toInt_sub, Int32.toInt_mul, Int32.toInt_toInt64, Int64.toInt_add, z_m1, Int32.reduceToInt, Int64.reduceToInt, Int32.reduceToNatClampNeg, Int.bmod_def, or_true, true_or, and_true, true_and] <;> omega)) | exact (by first | omega | (simp only [Int32.toInt_add, Int32.toInt_sub, Int32.toInt_mul, Int32.toInt_toInt64, Int64.toInt_add, z_m1, Int32.reduceToInt, Int64.reduceToInt, Int32.reduceToNatClampNeg, Int.bmod_def, or_true, true_or, and_true, true_and] <;> omega))) (by first | omega | (simp only [Int32.toInt_add, Int32.toInt_sub, Int32.toInt_mul, Int32.toInt_toInt64, Int64.toInt_add, z_m1, Int32.reduceToInt, Int64.reduceToInt, Int32.reduceToNatClampNeg, Int.bmod_def, or_true, true_or, and_true, true_and] <;> omega))
      · have i_11 := Int32.lt_iff_toInt_lt.mp (Int32.not_le.mp h_11)
        (try simp only [Int32.toInt_add, Int32.toInt_sub, Int32.toInt_mul, Int32.toInt_toInt64, Int64.toInt_add, z_m1, Int32.reduceToInt, Int64.reduceToInt, Int32.reduceToNatClampNeg, Int.bmod_def] at i_11)
        refine vI (vp_of (by first | omega | (simp only [Int32.toInt_add, Int32.toInt_sub, Int32.toInt_mul, Int32.toInt_toInt64, Int64.toInt_add, z_m1, Int32.reduceToInt, Int64.reduceToInt, Int32.reduceToNatClampNeg, Int.bmod_def, or_true, true_or, and_true, true_and] <;> omega)) (by first | omega | (simp only [Int32.toInt_add, Int32.toInt_sub, Int32.toInt_mul, Int32.toInt_toInt64, Int64.toInt_add, z_m1, Int32.reduceToInt, Int64.reduceToInt, Int32.reduceToNatClampNeg, Int.bmod_def, or_true, true_or, and_true, true_and] <;> omega))) ?_
        obtain ⟨w0_20, w1_20⟩ := jR.el p_jR_5 (x := x4_5) (by first | omega | (simp only [Int32.toInt_add, Int32.toInt_sub, Int32.toInt_mul, Int32.toInt_toInt64, Int64.toInt_add, z_m1, Int32.reduceToInt, Int64.reduceToInt, Int32.reduceToNatClampNeg, Int.bmod_def, or_true, true_or, and_true, true_and] <;> omega)) (by first | omega | (simp only [Int32.toInt_add, Int32.toInt_sub, Int32.toInt_mul, Int32.toInt_toInt64, Int64.toInt_add, z_m1, Int32.reduceToInt, Int64.reduceToInt, Int32.reduceToNatClampNeg, Int.bmod_def, or_true, true_or, and_true, true_and] <;> omega))
        refine vIf (fun h_22 => ?_) (fun h_22 => ?_)
        · have i_22 := congrArg Int32.toInt h_22
          (try simp only [Int32.toInt_add, Int32.toInt_sub, Int32.toInt_mul, Int32.toInt_toInt64, Int64.toInt_add, z_m1, Int32.reduceToInt, Int64.reduceToInt, Int32.reduceToNatClampNeg, Int.bmod_def] at i_22)
          exact T_181 _ _ _ _ _ k_5 kn_5 p_jB_5 p_jL_5 p_jR_5 p_jS_5 (by first | omega | (simp only [Int32.toInt_add, Int32.toInt_sub, Int32.toInt_mul, Int32.toInt_toInt64, Int64.toInt_add, z_m1, Int32.reduceToInt, Int64.reduceToInt, Int32.reduceToNatClampNeg, Int.bmod_def, or_true, true_or, and_true, true_and] <;> omega)) (by first | omega | (simp only [Int32.toInt_add, Int32.toInt_sub, Int32.toInt_mul, Int32.toInt_toInt64, Int64.toInt_add, z_m1, Int32.reduceToInt, Int64.reduceToInt, Int32.reduceToNatClampNeg, Int.bmod_def, or_true, true_or, and_true, true_and] <;> omega)) hm_5 (by first | assumption | exact z_lt (by assumption) | exact z_lt2 (by assumption) | exact z_lt3 (by assumption) (by first | assumption | decide)) (by first | assumption | exact z_set7 (by assumption) (by first | omega | (simp only [Int32.toInt_add, Int32.toInt_sub, Int32.toInt_mul, Int32.toInt_toInt64, Int64.toInt_add, z_m1, Int32.reduceToInt, Int64.reduceToInt, Int32.reduceToNatClampNeg, Int.bmod_def, or_true, true_or, and_true, true_and] <;> omega)) (by first | omega | (simp only [Int32.toInt_add, Int32.toInt_sub, Int32.toInt_mul, Int32.toInt_toInt64, Int64.toInt_add, z_m1, Int32.reduceToInt, Int64.reduceToInt, Int32.reduceToNatClampNeg, Int.bmod_def, or_true, true_or, and_true, true_and] <;> omega)) | exact (by first | omega | (simp only [Int32.toInt_add, Int32.toInt_sub, Int32.toInt_mul, Int32.toInt_toInt64, Int64.toInt_add, z_m1, Int32.reduceToInt, Int64.reduceToInt, Int32.reduceToNatClampNeg, Int.bmod_def, or_true, true_or, and_true, true_and] <;> omega))) (by first | omega | (simp only [Int32.toInt_add, Int32.toInt_sub, Int32.toInt_mul, Int32.toInt_toInt64, Int64.toInt_add, z_m1, Int32.reduceToInt, Int64.reduceToInt, Int32.reduceToNatClampNeg, Int.bmod_def, or_true, true_or, and_true, true_and] <;> omega))
        · have i_22 : ¬ Int32.toInt (M_5 (P + 19) x4_5.toNatClampNeg) = Int32.toInt (-1 : Int32) := fun q => h_22 (Int32.toInt_inj.mp q)
          (try simp only [Int32.toInt_add, Int32.toInt_sub, Int32.toInt_mul, Int32.toInt_toInt64, Int64.toInt_add, z_m1, Int32.reduceToInt, Int64.reduceToInt, Int32.reduceToNatClampNeg, Int.bmod_def] at i_22)
          refine vI (vp_of (by first | omega | (simp only [Int32.toInt_add, Int32.toInt_sub, Int32.toInt_mul, Int32.toInt_toInt64, Int64.toInt_add, z_m1, Int32.reduceToInt, Int64.reduceToInt, Int32.reduceToNatClampNeg, Int.bmod_def, or_true, true_or, and_true, true_and] <;> omega)) (by first | omega | (simp only [Int32.toInt_add, Int32.toInt_sub, Int32.toInt_mul, Int32.toInt_toInt64, Int64.toInt_add, z_m1, Int32.reduceToInt, Int64.reduceToInt, Int32.reduceToNatClampNeg, Int.bmod_def, or_true, true_or, and_true, true_and] <;> omega))) ?_
          obtain ⟨w0_49, w1_49⟩ := jR.el p_jR_5 (x := x4_5) (by first | omega | (simp only [Int32.toInt_add, Int32.toInt_sub, Int32.toInt_mul, Int32.toInt_toInt64, Int64.toInt_add, z_m1, Int32.reduceToInt, Int64.reduceToInt, Int32.reduceToNatClampNeg, Int.bmod_def, or_true, true_or, and_true, true_and] <;> omega)) (by first | omega | (simp only [Int32.toInt_add, Int32.toInt_sub, Int32.toInt_mul, Int32.toInt_toInt64, Int64.toInt_add, z_m1, Int32.reduceToInt, Int64.reduceToInt, Int32.reduceToNatClampNeg, Int.bmod_def, or_true, true_or, and_true, true_and] <;> omega))
          have th_52_0 : Int32.toInt ((5 : Int32) * x4_5) = Int32.toInt (5 : Int32) * Int32.toInt x4_5 := z_mul (by first | omega | (simp only [Int32.toInt_add, Int32.toInt_sub, Int32.toInt_mul, Int32.toInt_toInt64, Int64.toInt_add, z_m1, Int32.reduceToInt, Int64.reduceToInt, Int32.reduceToNatClampNeg, Int.bmod_def, or_true, true_or, and_true, true_and] <;> omega)) (by first | omega | (simp only [Int32.toInt_add, Int32.toInt_sub, Int32.toInt_mul, Int32.toInt_toInt64, Int64.toInt_add, z_m1, Int32.reduceToInt, Int64.reduceToInt, Int32.reduceToNatClampNeg, Int.bmod_def, or_true, true_or, and_true, true_and] <;> omega))
          (try simp only [Int32.reduceToInt, z_m1] at th_52_0)
          have th_52_2 : Int32.toInt (((5 : Int32) * x4_5) + (M_5 (P + 19) x4_5.toNatClampNeg)) = Int32.toInt ((5 : Int32) * x4_5) + Int32.toInt (M_5 (P + 19) x4_5.toNatClampNeg) := z_add (by first | omega | (simp only [Int32.toInt_add, Int32.toInt_sub, Int32.toInt_mul, Int32.toInt_toInt64, Int64.toInt_add, z_m1, Int32.reduceToInt, Int64.reduceToInt, Int32.reduceToNatClampNeg, Int.bmod_def, or_true, true_or, and_true, true_and] <;> omega)) (by first | omega | (simp only [Int32.toInt_add, Int32.toInt_sub, Int32.toInt_mul, Int32.toInt_toInt64, Int64.toInt_add, z_m1, Int32.reduceToInt, Int64.reduceToInt, Int32.reduceToNatClampNeg, Int.bmod_def, or_true, true_or, and_true, true_and] <;> omega))
          (try simp only [Int32.reduceToInt, z_m1] at th_52_2)
          refine vI (vp_of (by first | omega | (simp only [Int32.toInt_add, Int32.toInt_sub, Int32.toInt_mul, Int32.toInt_toInt64, Int64.toInt_add, z_m1, Int32.reduceToInt, Int64.reduceToInt, Int32.reduceToNatClampNeg, Int.bmod_def, or_true, true_or, and_true, true_and] <;> omega)) (by first | omega | (simp only [Int32.toInt_add, Int32.toInt_sub, Int32.toInt_mul, Int32.toInt_toInt64, Int64.toInt_add, z_m1, Int32.reduceToInt, Int64.reduceToInt, Int32.reduceToNatClampNeg, Int.bmod_def, or_true, true_or, and_true, true_and] <;> omega))) ?_
          refine vI (vp_of (by first | omega | (simp only [Int32.toInt_add, Int32.toInt_sub, Int32.toInt_mul, Int32.toInt_toInt64, Int64.toInt_add, z_m1, Int32.reduceToInt, Int64.reduceToInt, Int32.reduceToNatClampNeg, Int.bmod_def, or_true, true_or, and_true, true_and] <;> omega)) (by first | omega | (simp only [Int32.toInt_add, Int32.toInt_sub, Int32.toInt_mul, Int32.toInt_toInt64, Int64.toInt_add, z_m1, Int32.reduceToInt, Int64.reduceToInt, Int32.reduceToNatClampNeg, Int.bmod_def, or_true, true_or, and_true, true_and] <;> omega))) ?_
          refine vLn (W := WN_X8_adds P) (fun a j h => (zu_ne (fun z => wq_X8_adds_N24_r h z.1)).trans (kn_5 a j h)) (fun N_55 f_55 kn_55 => ?_)
          refine vI (vp_of (by first | omega | (simp only [Int32.toInt_add, Int32.toInt_sub, Int32.toInt_mul, Int32.toInt_toInt64, Int64.toInt_add, z_m1, Int32.reduceToInt, Int64.reduceToInt, Int32.reduceToNatClampNeg, Int.bmod_def, or_true, true_or, and_true, true_and] <;> omega)) (by first | omega | (simp only [Int32.toInt_add, Int32.toInt_sub, Int32.toInt_mul, Int32.toInt_toInt64, Int64.toInt_add, z_m1, Int32.reduceToInt, Int64.reduceToInt, Int32.reduceToNatClampNeg, Int.bmod_def, or_true, true_or, and_true, true_and] <;> omega))) ?_
          refine vB (v_X8_hasFirst p_jB_5 p_jS_5 p_jL_5 p_jR_5 (by first | omega | (simp only [Int32.toInt_add, Int32.toInt_sub, Int32.toInt_mul, Int32.toInt_toInt64, Int64.toInt_add, z_m1, Int32.reduceToInt, Int64.reduceToInt, Int32.reduceToNatClampNeg, Int.bmod_def, or_true, true_or, and_true, true_and] <;> omega)) (by first | omega | (simp only [Int32.toInt_add, Int32.toInt_sub, Int32.toInt_mul, Int32.toInt_toInt64, Int64.toInt_add, z_m1, Int32.reduceToInt, Int64.reduceToInt, Int32.reduceToNatClampNeg, Int.bmod_def, or_true, true_or, and_true, true_and] <;> omega))) (fun e_67 f_67 q_67 => ?_)
          have b_67 := q_67
          refine vIf (fun h_70 => ?_) (fun h_70 => ?_)
          · have i_70 := congrArg Int32.toInt h_70
            (try simp only [Int32.toInt_add, Int32.toInt_sub, Int32.toInt_mul, Int32.toInt_toInt64, Int64.toInt_add, z_m1, Int32.reduceToInt, Int64.reduceToInt, Int32.reduceToNatClampNeg, Int.bmod_def] at i_70)
            exact T_78 _ _ _ _ _ _ _ _ k_5 kn_55 p_jB_5 p_jL_5 p_jR_5 p_jS_5 (by first | omega | (simp only [Int32.toInt_add, Int32.toInt_sub, Int32.toInt_mul, Int32.toInt_toInt64, Int64.toInt_add, z_m1, Int32.reduceToInt, Int64.reduceToInt, Int32.reduceToNatClampNeg, Int.bmod_def, or_true, true_or, and_true, true_and] <;> omega)) (by first | omega | (simp only [Int32.toInt_add, Int32.toInt_sub, Int32.toInt_mul, Int32.toInt_toInt64, Int64.toInt_add, z_m1, Int32.reduceToInt, Int64.reduceToInt, Int32.reduceToNatClampNeg, Int.bmod_def, or_true, true_or, and_true, true_and] <;> omega)) hm_5 (by first | assumption | exact z_lt (by assumption) | exact z_lt2 (by assumption) | exact z_lt3 (by assumption) (by first | assumption | decide)) (by first | assumption | exact z_set7 (by assumption) (by first | omega | (simp only [Int32.toInt_add, Int32.toInt_sub, Int32.toInt_mul, Int32.toInt_toInt64, Int64.toInt_add, z_m1, Int32.reduceToInt, Int64.reduceToInt, Int32.reduceToNatClampNeg, Int.bmod_def, or_true, true_or, and_true, true_and] <;> omega)) (by first | omega | (simp only [Int32.toInt_add, Int32.toInt_sub, Int32.toInt_mul, Int32.toInt_toInt64, Int64.toInt_add, z_m1, Int32.reduceToInt, Int64.reduceToInt, Int32.reduceToNatClampNeg, Int.bmod_def, or_true, true_or, and_true, true_and] <;> omega)) | exact (by first | omega | (simp only [Int32.toInt_add, Int32.toInt_sub, Int32.toInt_mul, Int32.toInt_toInt64, Int64.toInt_add, z_m1, Int32.reduceToInt, Int64.reduceToInt, Int32.reduceToNatClampNeg, Int.bmod_def, or_true, true_or, and_true, true_and] <;> omega))) (by first | omega | (simp only [Int32.toInt_add, Int32.toInt_sub, Int32.toInt_mul, Int32.toInt_toInt64, Int64.toInt_add, z_m1, Int32.reduceToInt, Int64.reduceToInt, Int32.reduceToNatClampNeg, Int.bmod_def, or_true, true_or, and_true, true_and] <;> omega)) (by first | omega | (simp only [Int32.toInt_add, Int32.toInt_sub, Int32.toInt_mul, Int32.toInt_toInt64, Int64.toInt_add, z_m1, Int32.reduceToInt, Int64.reduceToInt, Int32.reduceToNatClampNeg, Int.bmod_def, or_true, true_or, and_true, true_and] <;> omega)) (by first | omega | (simp only [Int32.toInt_add, Int32.toInt_sub, Int32.toInt_mul, Int32.toInt_toInt64, Int64.toInt_add, z_m1, Int32.reduceToInt, Int64.reduceToInt, Int32.reduceToNatClampNeg, Int.bmod_def, or_true, true_or, and_true, true_and] <;> omega))
          · have i_70 : ¬ Int32.toInt e_67 = Int32.toInt (0 : Int32) := fun q => h_70 (Int32.toInt_inj.mp q)
            (try simp only [Int32.toInt_add, Int32.toInt_sub, Int32.toInt_mul, Int32.toInt_toInt64, Int64.toInt_add, z_m1, Int32.reduceToInt, Int64.reduceToInt, Int32.reduceToNatClampNeg, Int.bmod_def] at i_70)
            exact T_78 _ _ _ _ _ _ _ _ k_5 kn_55 p_jB_5 p_jL_5 p_jR_5 p_jS_5 (by first | omega | (simp only [Int32.toInt_add, Int32.toInt_sub, Int32.toInt_mul, Int32.toInt_toInt64, Int64.toInt_add, z_m1, Int32.reduceToInt, Int64.reduceToInt, Int32.reduceToNatClampNeg, Int.bmod_def, or_true, true_or, and_true, true_and] <;> omega)) (by first | omega | (simp only [Int32.toInt_add, Int32.toInt_sub, Int32.toInt_mul, Int32.toInt_toInt64, Int64.toInt_add, z_m1, Int32.reduceToInt, Int64.reduceToInt, Int32.reduceToNatClampNeg, Int.bmod_def, or_true, true_or, and_true, true_and] <;> omega)) hm_5 (by first | assumption | exact z_lt (by assumption) | exact z_lt2 (by assumption) | exact z_lt3 (by assumption) (by first | assumption | decide)) (by first | assumption | exact z_set7 (by assumption) (by first | omega | (simp only [Int32.toInt_add, Int32.toInt_sub, Int32.toInt_mul, Int32.toInt_toInt64, Int64.toInt_add, z_m1, Int32.reduceToInt, Int64.reduceToInt, Int32.reduceToNatClampNeg, Int.bmod_def, or_true, true_or, and_true, true_and] <;> omega)) (by first | omega | (simp only [Int32.toInt_add, Int32.toInt_sub, Int32.toInt_mul, Int32.toInt_toInt64, Int64.toInt_add, z_m1, Int32.reduceToInt, Int64.reduceToInt, Int32.reduceToNatClampNeg, Int.bmod_def, or_true, true_or, and_true, true_and] <;> omega)) | exact (by first | omega | (simp only [Int32.toInt_add, Int32.toInt_sub, Int32.toInt_mul, Int32.toInt_toInt64, Int64.toInt_add, z_m1, Int32.reduceToInt, Int64.reduceToInt, Int32.reduceToNatClampNeg, Int.bmod_def, or_true, true_or, and_true, true_and] <;> omega))) (by first | omega | (simp only [Int32.toInt_add, Int32.toInt_sub, Int32.toInt_mul, Int32.toInt_toInt64, Int64.toInt_add, z_m1, Int32.reduceToInt, Int64.reduceToInt, Int32.reduceToNatClampNeg, Int.bmod_def, or_true, true_or, and_true, true_and] <;> omega)) (by first | omega | (simp only [Int32.toInt_add, Int32.toInt_sub, Int32.toInt_mul, Int32.toInt_toInt64, Int64.toInt_add, z_m1, Int32.reduceToInt, Int64.reduceToInt, Int32.reduceToNatClampNeg, Int.bmod_def, or_true, true_or, and_true, true_and] <;> omega)) (by first | omega | (simp only [Int32.toInt_add, Int32.toInt_sub, Int32.toInt_mul, Int32.toInt_toInt64, Int64.toInt_add, z_m1, Int32.reduceToInt, Int64.reduceToInt, Int32.reduceToNatClampNeg, Int.bmod_def, or_true, true_or, and_true, true_and] <;> omega))
  have T_5 : ∀ (x1_5 : Int64) (x3_5 : Int32) (x4_5 : Int32) (M_5 : zMt) (N_5 : zNt), (∀ a j, ¬ WM_X8_adds P a j → M_5 a j = M0 a j) → (∀ a j, ¬ WN_X8_adds P a j → N_5 a j = N0 a j) → (jB P M_5) → (jL P M_5) → (jR P M_5) → (jS P M_5) → (0 ≤ Int32.toInt x4_5) → (Int32.toInt x4_5 ≤ 10) → (0 ≤ Int32.toInt x3_5 ∧ Int32.toInt x3_5 ≤ 127) → (Int32.toInt (M_5 P 33) ≤ 7) → ∃ r, D_X8_adds_5 P zFu x1_5 x3_5 x4_5 M_5 N_5 = some r ∧ ((∀ a j, ¬ WM_X8_adds P a j → r.1 a j = M0 a j) ∧ (∀ a j, ¬ WN_X8_adds P a j → r.2 a j = N0 a j)) := fun x1_5 x3_5 x4_5 M_5 N_5 k_5 kn_5 p_jB_5 p_jL_5 p_jR_5 p_jS_5 f0_5 f1_5 f2_5 f3_5 => TL_5 zFu x1_5 x3_5 x4_5 M_5 N_5 k_5 kn_5 p_jB_5 p_jL_5 p_jR_5 p_jS_5 f0_5 f1_5 f2_5 f3_5 (zFu_up _)
  unfold D_X8_adds
  exact T_5 _ _ _ _ _ (fun _ _ _ => rfl) (fun _ _ _ => rfl) p_jB p_jL p_jR p_jS (by first | omega | (simp only [Int32.toInt_add, Int32.toInt_sub, Int32.toInt_mul, Int32.toInt_toInt64, Int64.toInt_add, z_m1, Int32.reduceToInt, Int64.reduceToInt, Int32.reduceToNatClampNeg, Int.bmod_def, or_true, true_or, and_true, true_and] <;> omega)) (by first | omega | (simp only [Int32.toInt_add, Int32.toInt_sub, Int32.toInt_mul, Int32.toInt_toInt64, Int64.toInt_add, z_m1, Int32.reduceToInt, Int64.reduceToInt, Int32.reduceToNatClampNeg, Int.bmod_def, or_true, true_or, and_true, true_and] <;> omega)) (by first | assumption | exact z_set7 (by assumption) (by first | omega | (simp only [Int32.toInt_add, Int32.toInt_sub, Int32.toInt_mul, Int32.toInt_toInt64, Int64.toInt_add, z_m1, Int32.reduceToInt, Int64.reduceToInt, Int32.reduceToNatClampNeg, Int.bmod_def, or_true, true_or, and_true, true_and] <;> omega)) (by first | omega | (simp only [Int32.toInt_add, Int32.toInt_sub, Int32.toInt_mul, Int32.toInt_toInt64, Int64.toInt_add, z_m1, Int32.reduceToInt, Int64.reduceToInt, Int32.reduceToNatClampNeg, Int.bmod_def, or_true, true_or, and_true, true_and] <;> omega)) | exact (by first | omega | (simp only [Int32.toInt_add, Int32.toInt_sub, Int32.toInt_mul, Int32.toInt_toInt64, Int64.toInt_add, z_m1, Int32.reduceToInt, Int64.reduceToInt, Int32.reduceToNatClampNeg, Int.bmod_def, or_true, true_or, and_true, true_and] <;> omega))) (by first | omega | (simp only [Int32.toInt_add, Int32.toInt_sub, Int32.toInt_mul, Int32.toInt_toInt64, Int64.toInt_add, z_m1, Int32.reduceToInt, Int64.reduceToInt, Int32.reduceToNatClampNeg, Int.bmod_def, or_true, true_or, and_true, true_and] <;> omega))
def WM_X8_areMany (P : Nat) (a j : Nat) : Prop := (P + 11 ≤ a ∧ a < P + 18) ∨ (a = P ∧ (j = 33))
theorem wz_M_X8_laysApplicants_X8_areMany {P a j : Nat} (h : ¬ WM_X8_areMany P a j) : ¬ WM_X8_laysApplicants P a j := by unfold WM_X8_laysApplicants; unfold WM_X8_areMany at h; omega
set_option maxRecDepth 100000 in
set_option maxHeartbeats 4000000 in
theorem v_X8_areMany {P : Nat}  {M0 : zMt}  (p_jB : jB P M0) (p_jS : jS P M0) : ∃ r, D_X8_areMany P M0 = some r ∧ ((∀ a j, ¬ WM_X8_areMany P a j → r.2 a j = M0 a j) ∧ (r.1 = 0 ∨ r.1 = 1) ∧ ((jB P r.2) ∧ (jL P r.2) ∧ (jH P r.2) ∧ (Int32.toInt (r.2 P 33) = nA P r.2) ∧ ((Int32.toInt r.1 = 0 ∧ nA P r.2 ≤ 7) ∨ (Int32.toInt r.1 = 1 ∧ 7 < nA P r.2)))) := by
  obtain ⟨u0_jB, u1_jB, u2_jB, u3_jB, u4_jB, u5_jB⟩ := id p_jB
  obtain ⟨u0_jS, u1_jS, u2_jS, u3_jS, u4_jS, u5_jS, u6_jS, u7_jS⟩ := jS.ints p_jS
  have T_18 : ∀ (y0_18 : Int32) (M_18 : zMt), (∀ a j, ¬ WM_X8_areMany P a j → M_18 a j = M0 a j) → (jB P M_18) → (jH P M_18) → (jL P M_18) → (jS P M_18) → (y0_18 = 0 ∨ y0_18 = 1) → ((Int32.toInt y0_18 = 0 ∧ nA P M_18 ≤ 7) ∨ (Int32.toInt y0_18 = 1 ∧ 7 < nA P M_18)) → (Int32.toInt (M_18 P 33) = nA P M_18) → ∃ r, D_X8_areMany_18 P y0_18 M_18 = some r ∧ ((∀ a j, ¬ WM_X8_areMany P a j → r.2 a j = M0 a j) ∧ (r.1 = 0 ∨ r.1 = 1) ∧ ((jB P r.2) ∧ (jL P r.2) ∧ (jH P r.2) ∧ (Int32.toInt (r.2 P 33) = nA P r.2) ∧ ((Int32.toInt r.1 = 0 ∧ nA P r.2 ≤ 7) ∨ (Int32.toInt r.1 = 1 ∧ 7 < nA P r.2)))) := by
    intro y0_18 M_18 k_18 p_jB_18 p_jH_18 p_jL_18 p_jS_18 f0_18 f1_18 f2_18
    obtain ⟨u0_jB_18, u1_jB_18, u2_jB_18, u3_jB_18, u4_jB_18, u5_jB_18⟩ := id p_jB_18
    obtain ⟨u0_jS_18, u1_jS_18, u2_jS_18, u3_jS_18, u4_jS_18, u5_jS_18, u6_jS_18, u7_jS_18⟩ := jS.ints p_jS_18
    unfold D_X8_areMany_18
    exact ⟨_, rfl, k_18, (by first | exact Or.inl rfl | exact Or.inr rfl | assumption), ⟨p_jB_18, p_jL_18, p_jH_18, (by first | omega | (simp only [Int32.toInt_add, Int32.toInt_sub, Int32.toInt_mul, Int32.toInt_toInt64, Int64.toInt_add, z_m1, Int32.reduceToInt, Int64.reduceToInt, Int32.reduceToNatClampNeg, Int.bmod_def, or_true, true_or, and_true, true_and] <;> omega)), (by first | omega | (simp only [Int32.toInt_add, Int32.toInt_sub, Int32.toInt_mul, Int32.toInt_toInt64, Int64.toInt_add, z_m1, Int32.reduceToInt, Int64.reduceToInt, Int32.reduceToNatClampNeg, Int.bmod_def, or_true, true_or, and_true, true_and] <;> omega))⟩⟩
  unfold D_X8_areMany
  refine vB (v_X8_laysApplicants p_jB p_jS) (fun e_1 f_1 q_1 => ?_)
  have k_1 : ∀ a j, ¬ WM_X8_areMany P a j → e_1 a j = M0 a j := fun a j h => (q_1.1 a j (wz_M_X8_laysApplicants_X8_areMany h))
  have c7_1 : Int32.toInt (e_1 P 7) = Int32.toInt (M0 P 7) := congrArg Int32.toInt (q_1.1 P 7 (wc_X8_laysApplicants_7))
  have c8_1 : Int32.toInt (e_1 P 8) = Int32.toInt (M0 P 8) := congrArg Int32.toInt (q_1.1 P 8 (wc_X8_laysApplicants_8))
  have n_1 : nA P e_1 = nA P M0 := nA_congr (fun a j h => q_1.1 a j (wf_nA_X8_laysApplicants h))
  have p_jS_1 : jS P e_1 := jS.mono p_jS (fun a j h => q_1.1 a j (wf_jS_X8_laysApplicants h))
  obtain ⟨u0_jS_1, u1_jS_1, u2_jS_1, u3_jS_1, u4_jS_1, u5_jS_1, u6_jS_1, u7_jS_1⟩ := jS.ints p_jS_1
  obtain ⟨x0_1, x1_1, x2_1, x3_1⟩ := q_1.2
  obtain ⟨u0_jB_1, u1_jB_1, u2_jB_1, u3_jB_1, u4_jB_1, u5_jB_1⟩ := id x0_1
  (try simp only [Int32.toInt_add, Int32.toInt_sub, Int32.toInt_mul, Int32.toInt_toInt64, Int64.toInt_add, z_m1, Int32.reduceToInt, Int64.reduceToInt, Int32.reduceToNatClampNeg, Int.bmod_def] at x3_1)
  refine vIf (fun h_10 => ?_) (fun h_10 => ?_)
  · have i_10 := Int32.le_iff_toInt_le.mp h_10
    (try simp only [Int32.toInt_add, Int32.toInt_sub, Int32.toInt_mul, Int32.toInt_toInt64, Int64.toInt_add, z_m1, Int32.reduceToInt, Int64.reduceToInt, Int32.reduceToNatClampNeg, Int.bmod_def] at i_10)
    exact T_18 _ _ k_1 x0_1 x2_1 x1_1 p_jS_1 (by first | exact Or.inl rfl | exact Or.inr rfl | assumption) (by first | omega | (simp only [Int32.toInt_add, Int32.toInt_sub, Int32.toInt_mul, Int32.toInt_toInt64, Int64.toInt_add, z_m1, Int32.reduceToInt, Int64.reduceToInt, Int32.reduceToNatClampNeg, Int.bmod_def, or_true, true_or, and_true, true_and] <;> omega)) (by first | omega | (simp only [Int32.toInt_add, Int32.toInt_sub, Int32.toInt_mul, Int32.toInt_toInt64, Int64.toInt_add, z_m1, Int32.reduceToInt, Int64.reduceToInt, Int32.reduceToNatClampNeg, Int.bmod_def, or_true, true_or, and_true, true_and] <;> omega))
  · have i_10 := Int32.lt_iff_toInt_lt.mp (Int32.not_le.mp h_10)
    (try simp only [Int32.toInt_add, Int32.toInt_sub, Int32.toInt_mul, Int32.toInt_toInt64, Int64.toInt_add, z_m1, Int32.reduceToInt, Int64.reduceToInt, Int32.reduceToNatClampNeg, Int.bmod_def] at i_10)
    exact T_18 _ _ k_1 x0_1 x2_1 x1_1 p_jS_1 (by first | exact Or.inl rfl | exact Or.inr rfl | assumption) (by first | omega | (simp only [Int32.toInt_add, Int32.toInt_sub, Int32.toInt_mul, Int32.toInt_toInt64, Int64.toInt_add, z_m1, Int32.reduceToInt, Int64.reduceToInt, Int32.reduceToNatClampNeg, Int.bmod_def, or_true, true_or, and_true, true_and] <;> omega)) (by first | omega | (simp only [Int32.toInt_add, Int32.toInt_sub, Int32.toInt_mul, Int32.toInt_toInt64, Int64.toInt_add, z_m1, Int32.reduceToInt, Int64.reduceToInt, Int32.reduceToNatClampNeg, Int.bmod_def, or_true, true_or, and_true, true_and] <;> omega))
set_option maxRecDepth 100000 in
set_option maxHeartbeats 4000000 in
theorem v_X8_chanceOf {P : Nat} {M : zMt} {N : zNt} {v0 : Int32}  (p_jB : jB P M) (i_1 : 0 ≤ Int32.toInt v0) (i_2 : Int32.toInt v0 < 7) : ∃ r, D_X8_chanceOf P M N v0 = some r ∧ (True) := by
  obtain ⟨u0_jB, u1_jB, u2_jB, u3_jB, u4_jB, u5_jB⟩ := id p_jB
  have TL_5 : ∀ u : Nat, ∀ (x1_5 : Int32) (x2_5 : Int64) (x4_5 : Int32), (jB P M) → (0 ≤ Int32.toInt x4_5) → (Int32.toInt x4_5 ≤ 5) → (0 ≤ Int32.toInt x1_5 ∧ Int32.toInt x1_5 < 7) → (2147483648 - Int32.toInt x4_5).toNat < u → ∃ r, D_X8_chanceOf_5 P M N u x1_5 x2_5 x4_5 = some r ∧ (True) := by
    intro u
    induction u with
    | zero => intro x1_5 x2_5 x4_5 p_jB_5 f0_5 f1_5 f2_5 hm_5; exact absurd hm_5 (Nat.not_lt_zero _)
    | succ u_5 ih_5 =>
      intro x1_5 x2_5 x4_5 p_jB_5 f0_5 f1_5 f2_5 hm_5
      obtain ⟨u0_jB_5, u1_jB_5, u2_jB_5, u3_jB_5, u4_jB_5, u5_jB_5⟩ := id p_jB_5
      rw [D_X8_chanceOf_5]
      refine vIf (fun h_11 => ?_) (fun h_11 => ?_)
      · have i_11 := Int32.le_iff_toInt_le.mp h_11
        (try simp only [Int32.toInt_add, Int32.toInt_sub, Int32.toInt_mul, Int32.toInt_toInt64, Int64.toInt_add, z_m1, Int32.reduceToInt, Int64.reduceToInt, Int32.reduceToNatClampNeg, Int.bmod_def] at i_11)
        exact ⟨_, rfl, trivial⟩
      · have i_11 := Int32.lt_iff_toInt_lt.mp (Int32.not_le.mp h_11)
        (try simp only [Int32.toInt_add, Int32.toInt_sub, Int32.toInt_mul, Int32.toInt_toInt64, Int64.toInt_add, z_m1, Int32.reduceToInt, Int64.reduceToInt, Int32.reduceToNatClampNeg, Int.bmod_def] at i_11)
        have th_25_0 : Int32.toInt ((5 : Int32) * x1_5) = Int32.toInt (5 : Int32) * Int32.toInt x1_5 := z_mul (by first | omega | (simp only [Int32.toInt_add, Int32.toInt_sub, Int32.toInt_mul, Int32.toInt_toInt64, Int64.toInt_add, z_m1, Int32.reduceToInt, Int64.reduceToInt, Int32.reduceToNatClampNeg, Int.bmod_def, or_true, true_or, and_true, true_and] <;> omega)) (by first | omega | (simp only [Int32.toInt_add, Int32.toInt_sub, Int32.toInt_mul, Int32.toInt_toInt64, Int64.toInt_add, z_m1, Int32.reduceToInt, Int64.reduceToInt, Int32.reduceToNatClampNeg, Int.bmod_def, or_true, true_or, and_true, true_and] <;> omega))
        (try simp only [Int32.reduceToInt, z_m1] at th_25_0)
        have th_25_2 : Int32.toInt (((5 : Int32) * x1_5) + x4_5) = Int32.toInt ((5 : Int32) * x1_5) + Int32.toInt x4_5 := z_add (by first | omega | (simp only [Int32.toInt_add, Int32.toInt_sub, Int32.toInt_mul, Int32.toInt_toInt64, Int64.toInt_add, z_m1, Int32.reduceToInt, Int64.reduceToInt, Int32.reduceToNatClampNeg, Int.bmod_def, or_true, true_or, and_true, true_and] <;> omega)) (by first | omega | (simp only [Int32.toInt_add, Int32.toInt_sub, Int32.toInt_mul, Int32.toInt_toInt64, Int64.toInt_add, z_m1, Int32.reduceToInt, Int64.reduceToInt, Int32.reduceToNatClampNeg, Int.bmod_def, or_true, true_or, and_true, true_and] <;> omega))
        (try simp only [Int32.reduceToInt, z_m1] at th_25_2)
        refine vI (vp_of (by first | omega | (simp only [Int32.toInt_add, Int32.toInt_sub, Int32.toInt_mul, Int32.toInt_toInt64, Int64.toInt_add, z_m1, Int32.reduceToInt, Int64.reduceToInt, Int32.reduceToNatClampNeg, Int.bmod_def, or_true, true_or, and_true, true_and] <;> omega)) (by first | omega | (simp only [Int32.toInt_add, Int32.toInt_sub, Int32.toInt_mul, Int32.toInt_toInt64, Int64.toInt_add, z_m1, Int32.reduceToInt, Int64.reduceToInt, Int32.reduceToNatClampNeg, Int.bmod_def, or_true, true_or, and_true, true_and] <;> omega))) ?_
        exact ih_5 _ _ _ p_jB_5 (by first | omega | (simp only [Int32.toInt_add, Int32.toInt_sub, Int32.toInt_mul, Int32.toInt_toInt64, Int64.toInt_add, z_m1, Int32.reduceToInt, Int64.reduceToInt, Int32.reduceToNatClampNeg, Int.bmod_def, or_true, true_or, and_true, true_and] <;> omega)) (by first | omega | (simp only [Int32.toInt_add, Int32.toInt_sub, Int32.toInt_mul, Int32.toInt_toInt64, Int64.toInt_add, z_m1, Int32.reduceToInt, Int64.reduceToInt, Int32.reduceToNatClampNeg, Int.bmod_def, or_true, true_or, and_true, true_and] <;> omega)) (by first | omega | (simp only [Int32.toInt_add, Int32.toInt_sub, Int32.toInt_mul, Int32.toInt_toInt64, Int64.toInt_add, z_m1, Int32.reduceToInt, Int64.reduceToInt, Int32.reduceToNatClampNeg, Int.bmod_def, or_true, true_or, and_true, true_and] <;> omega)) (z_up1 (by first | assumption | exact z_lt (by assumption) | exact z_lt2 (by assumption) | exact z_lt3 (by assumption) (by first | assumption | decide)) hm_5)
  have T_5 : ∀ (x1_5 : Int32) (x2_5 : Int64) (x4_5 : Int32), (jB P M) → (0 ≤ Int32.toInt x4_5) → (Int32.toInt x4_5 ≤ 5) → (0 ≤ Int32.toInt x1_5 ∧ Int32.toInt x1_5 < 7) → ∃ r, D_X8_chanceOf_5 P M N zFu x1_5 x2_5 x4_5 = some r ∧ (True) := fun x1_5 x2_5 x4_5 p_jB_5 f0_5 f1_5 f2_5 => TL_5 zFu x1_5 x2_5 x4_5 p_jB_5 f0_5 f1_5 f2_5 (zFu_up _)
  unfold D_X8_chanceOf
  exact T_5 _ _ _ p_jB (by first | omega | (simp only [Int32.toInt_add, Int32.toInt_sub, Int32.toInt_mul, Int32.toInt_toInt64, Int64.toInt_add, z_m1, Int32.reduceToInt, Int64.reduceToInt, Int32.reduceToNatClampNeg, Int.bmod_def, or_true, true_or, and_true, true_and] <;> omega)) (by first | omega | (simp only [Int32.toInt_add, Int32.toInt_sub, Int32.toInt_mul, Int32.toInt_toInt64, Int64.toInt_add, z_m1, Int32.reduceToInt, Int64.reduceToInt, Int32.reduceToNatClampNeg, Int.bmod_def, or_true, true_or, and_true, true_and] <;> omega)) (by first | omega | (simp only [Int32.toInt_add, Int32.toInt_sub, Int32.toInt_mul, Int32.toInt_toInt64, Int64.toInt_add, z_m1, Int32.reduceToInt, Int64.reduceToInt, Int32.reduceToNatClampNeg, Int.bmod_def, or_true, true_or, and_true, true_and] <;> omega))
theorem v_X8_unitNow {P : Nat} {M : zMt} {v0 : Int32} (p_jB : jB P M) (p_jH : jH P M) (p_jR : jR P M) (i_5 : 0 ≤ Int32.toInt v0) (i_6 : Int32.toInt v0 < Int32.toInt (M P 8)) : ∃ r, D_X8_unitNow P M v0 = some r ∧ ((-1 ≤ Int32.toInt r) ∧ (Int32.toInt r ≤ 4)) := by
  obtain ⟨b1, b2, b3, b4, b5, b6⟩ := id p_jB
  obtain ⟨h, hh, hlt⟩ : ∃ h : Nat, v0 = nI h ∧ (h : Int) = v0.toInt := ⟨v0.toInt.toNat, z_toN i_5, by omega⟩
  subst hh
  obtain ⟨a, a1, a2, a3⟩ := z_scan (h := h) p_jB p_jH (by omega)
  have L : ∀ (u x : Nat), x ≤ a → a - x < u → ∃ r, D_X8_unitNow_2 P M u (nI h) (nI x) = some r ∧ ((-1 ≤ Int32.toInt r) ∧ (Int32.toInt r ≤ 4)) := by
    intro u
    induction u with
    | zero => intro x h1 h2; omega
    | succ u ih =>
      intro x h1 h2
      rw [D_X8_unitNow_2]
      refine vI (vp_in_nI (n := x) (by omega) (by decide)) ?_
      rw [nI_clamp (n := x) (by omega)]
      refine vB v_X8_has (fun e f q => ?_)
      refine vIf (fun h0 => ?_) (fun h0 => ?_)
      · have hx : x ≠ a := fun z => by
          subst z
          rcases q.2 with ⟨q2, _⟩ | ⟨_, q2⟩
          · rw [q2] at h0; exact absurd h0 (by decide)
          · exact absurd a2 q2
        rw [nI_1]
        exact ih (x + 1) (by omega) (by omega)
      · exact vI (vp_in_nI (n := x) (by omega) (by decide)) ⟨_, rfl, p_jR x (by omega)⟩
  unfold D_X8_unitNow
  exact L zFu 0 (Nat.zero_le _) (by unfold zFu; omega)
set_option maxRecDepth 100000 in
set_option maxHeartbeats 4000000 in
theorem v_X8_areYears  {v0 : Int32} {v1 : Int32}  : ∃ r, D_X8_areYears v0 v1 = some r ∧ ((r = 0 ∨ r = 1) ∧ ((Int32.toInt r = 0 ∨ (0 ≤ Int32.toInt v0 ∧ 1 ≤ Int32.toInt v1 ∧ Int32.toInt v1 ≤ 30 ∧ Int32.toInt v0 + Int32.toInt v1 ≤ 999999999)))) := by
  have T_39 : ∀ (y0_39 : Int32), (y0_39 = 0 ∨ y0_39 = 1) → (Int32.toInt y0_39 = 0 ∨ (0 ≤ Int32.toInt v0 ∧ 1 ≤ Int32.toInt v1 ∧ Int32.toInt v1 ≤ 30 ∧ Int32.toInt v0 + Int32.toInt v1 ≤ 999999999)) → ∃ r, D_X8_areYears_39 y0_39 = some r ∧ ((r = 0 ∨ r = 1) ∧ ((Int32.toInt r = 0 ∨ (0 ≤ Int32.toInt v0 ∧ 1 ≤ Int32.toInt v1 ∧ Int32.toInt v1 ≤ 30 ∧ Int32.toInt v0 + Int32.toInt v1 ≤ 999999999)))) := by
    intro y0_39 f0_39 f1_39
    unfold D_X8_areYears_39
    exact ⟨_, rfl, (by first | exact Or.inl rfl | exact Or.inr rfl | assumption), (by first | omega | (simp only [Int32.toInt_add, Int32.toInt_sub, Int32.toInt_mul, Int32.toInt_toInt64, Int64.toInt_add, z_m1, Int32.reduceToInt, Int64.reduceToInt, Int32.reduceToNatClampNeg, Int.bmod_def, or_true, true_or, and_true, true_and] <;> omega))⟩
  have T_38 : ∃ r, D_X8_areYears_38 = some r ∧ ((r = 0 ∨ r = 1) ∧ ((Int32.toInt r = 0 ∨ (0 ≤ Int32.toInt v0 ∧ 1 ≤ Int32.toInt v1 ∧ Int32.toInt v1 ≤ 30 ∧ Int32.toInt v0 + Int32.toInt v1 ≤ 999999999)))) := by
    unfold D_X8_areYears_38
    exact T_39 _ (by first | exact Or.inl rfl | exact Or.inr rfl | assumption) (by first | omega | (simp only [Int32.toInt_add, Int32.toInt_sub, Int32.toInt_mul, Int32.toInt_toInt64, Int64.toInt_add, z_m1, Int32.reduceToInt, Int64.reduceToInt, Int32.reduceToNatClampNeg, Int.bmod_def, or_true, true_or, and_true, true_and] <;> omega))
  unfold D_X8_areYears
  refine vB (v_X8_isSeed) (fun e_1 f_1 q_1 => ?_)
  have b_1 := q_1.1
  have x0_1 := q_1.2
  (try simp only [Int32.toInt_add, Int32.toInt_sub, Int32.toInt_mul, Int32.toInt_toInt64, Int64.toInt_add, z_m1, Int32.reduceToInt, Int64.reduceToInt, Int32.reduceToNatClampNeg, Int.bmod_def] at x0_1)
  refine vIf (fun h_4 => ?_) (fun h_4 => ?_)
  · have i_4 := congrArg Int32.toInt h_4
    (try simp only [Int32.toInt_add, Int32.toInt_sub, Int32.toInt_mul, Int32.toInt_toInt64, Int64.toInt_add, z_m1, Int32.reduceToInt, Int64.reduceToInt, Int32.reduceToNatClampNeg, Int.bmod_def] at i_4)
    exact T_38
  · have i_4 : ¬ Int32.toInt e_1 = Int32.toInt (0 : Int32) := fun q => h_4 (Int32.toInt_inj.mp q)
    (try simp only [Int32.toInt_add, Int32.toInt_sub, Int32.toInt_mul, Int32.toInt_toInt64, Int64.toInt_add, z_m1, Int32.reduceToInt, Int64.reduceToInt, Int32.reduceToNatClampNeg, Int.bmod_def] at i_4)
    refine vB (v_X8_isFrom) (fun e_13 f_13 q_13 => ?_)
    have b_13 := q_13.1
    have x0_13 := q_13.2
    (try simp only [Int32.toInt_add, Int32.toInt_sub, Int32.toInt_mul, Int32.toInt_toInt64, Int64.toInt_add, z_m1, Int32.reduceToInt, Int64.reduceToInt, Int32.reduceToNatClampNeg, Int.bmod_def] at x0_13)
    refine vIf (fun h_16 => ?_) (fun h_16 => ?_)
    · have i_16 := congrArg Int32.toInt h_16
      (try simp only [Int32.toInt_add, Int32.toInt_sub, Int32.toInt_mul, Int32.toInt_toInt64, Int64.toInt_add, z_m1, Int32.reduceToInt, Int64.reduceToInt, Int32.reduceToNatClampNeg, Int.bmod_def] at i_16)
      exact T_38
    · have i_16 : ¬ Int32.toInt e_13 = Int32.toInt (0 : Int32) := fun q => h_16 (Int32.toInt_inj.mp q)
      (try simp only [Int32.toInt_add, Int32.toInt_sub, Int32.toInt_mul, Int32.toInt_toInt64, Int64.toInt_add, z_m1, Int32.reduceToInt, Int64.reduceToInt, Int32.reduceToNatClampNeg, Int.bmod_def] at i_16)
      refine vB (v_X8_isFrom) (fun e_28 f_28 q_28 => ?_)
      have b_28 := q_28.1
      have x0_28 := q_28.2
      (try simp only [Int32.toInt_add, Int32.toInt_sub, Int32.toInt_mul, Int32.toInt_toInt64, Int64.toInt_add, z_m1, Int32.reduceToInt, Int64.reduceToInt, Int32.reduceToNatClampNeg, Int.bmod_def] at x0_28)
      refine vIf (fun h_31 => ?_) (fun h_31 => ?_)
      · have i_31 := congrArg Int32.toInt h_31
        (try simp only [Int32.toInt_add, Int32.toInt_sub, Int32.toInt_mul, Int32.toInt_toInt64, Int64.toInt_add, z_m1, Int32.reduceToInt, Int64.reduceToInt, Int32.reduceToNatClampNeg, Int.bmod_def] at i_31)
        exact T_38
      · have i_31 : ¬ Int32.toInt e_28 = Int32.toInt (0 : Int32) := fun q => h_31 (Int32.toInt_inj.mp q)
        (try simp only [Int32.toInt_add, Int32.toInt_sub, Int32.toInt_mul, Int32.toInt_toInt64, Int64.toInt_add, z_m1, Int32.reduceToInt, Int64.reduceToInt, Int32.reduceToNatClampNeg, Int.bmod_def] at i_31)
        exact T_39 _ (by first | exact Or.inl rfl | exact Or.inr rfl | assumption) (by first | omega | (simp only [Int32.toInt_add, Int32.toInt_sub, Int32.toInt_mul, Int32.toInt_toInt64, Int64.toInt_add, z_m1, Int32.reduceToInt, Int64.reduceToInt, Int32.reduceToNatClampNeg, Int.bmod_def, or_true, true_or, and_true, true_and] <;> omega))
