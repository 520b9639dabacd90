def WM_X8_choose (P : Nat) (a j : Nat) : Prop := (P + 1 ≤ a ∧ a < P + 2) ∨ (P + 4 ≤ a ∧ a < P + 5) ∨ (P + 11 ≤ a ∧ a < P + 18) ∨ (a = P ∧ (j = 6 ∨ j = 9 ∨ j = 12 ∨ j = 33))
theorem wz_M_X8_keeps_X8_choose {P a j : Nat} (h : ¬ WM_X8_choose P a j) : ¬ WM_X8_keeps P a j := by unfold WM_X8_keeps; unfold WM_X8_choose at h; omega
theorem wf_jH_X8_keeps {P a j : Nat} (h : ((a = P ∧ (j = 8 ∨ j = 33)) ∨ a = P + 11)) : ¬ WM_X8_keeps P a j := by unfold WM_X8_keeps; omega
theorem wf_jL_X8_keeps {P a j : Nat} (h : ((a = P ∧ j = 33) ∨ a = P + 13 ∨ a = P + 14 ∨ a = P + 17)) : ¬ WM_X8_keeps P a j := by unfold WM_X8_keeps; omega
theorem wq_X8_choose_M1_r {P a j : Nat} (h : ¬ WM_X8_choose P a j) : ¬ a = P + 1 := by unfold WM_X8_choose at h; omega
theorem wz_M_X8_gives_X8_choose {P a j : Nat} (h : ¬ WM_X8_choose P a j) : ¬ WM_X8_gives P a j := by unfold WM_X8_gives; unfold WM_X8_choose at h; omega
theorem wz_M_X8_refuse_X8_choose {P a j : Nat} (h : ¬ WM_X8_choose P a j) : ¬ WM_X8_refuse P a j := by unfold WM_X8_refuse; unfold WM_X8_choose at h; omega
theorem wz_M_X8_isApplicant_X8_choose {P a j : Nat} (h : ¬ WM_X8_choose P a j) : ¬ WM_X8_isApplicant P a j := by unfold WM_X8_isApplicant; unfold WM_X8_choose at h; omega
set_option maxRecDepth 100000 in
set_option maxHeartbeats 4000000 in
theorem v_X8_choose {P : Nat} {v0 : Int32} {v1 : Int32} {v2 : Int32} {v3 : Int32} {M0 : zMt}  (p_jB : jB P M0) (p_jS : jS P M0) (p_jR : jR P M0) (p_jK : jK P M0) (p_jT : jT P M0) : ∃ r, D_X8_choose P v0 v1 v2 v3 M0 = some r ∧ ((∀ a j, ¬ WM_X8_choose P a j → r.2 a j = M0 a j) ∧ ((jB P r.2) ∧ (jS P r.2) ∧ (jR P r.2) ∧ (jK P r.2) ∧ (jT P r.2))) := by
  obtain ⟨u0_jB, u1_jB, u2_jB, u3_jB, u4_jB, u5_jB⟩ := id p_jB
  obtain ⟨u0_jS, u1_jS, u2_jS, u3_jS, u4_jS, u5_jS, u6_jS, u7_jS⟩ := jS.ints p_jS
  obtain ⟨u0_jT, u1_jT, u2_jT, u3_jT, u4_jT, u5_jT⟩ := id p_jT
  have T_185 : ∀ (x1_185 : Int32) (x2_185 : Int32) (x3_185 : Int32) (x4_185 : Int32) (x7_185 : Int32) (M_185 : zMt), (∀ a j, ¬ WM_X8_choose P a j → M_185 a j = M0 a j) → (jB P M_185) → (jH P M_185) → (jK P M_185) → (jL P M_185) → (jR P M_185) → (jS P M_185) → (jT P M_185) → (0 ≤ Int32.toInt x1_185 ∧ Int32.toInt x1_185 < Int32.toInt (M_185 P 33)) → (20 ≤ Int32.toInt x7_185 ∧ Int32.toInt x7_185 ≤ 59) → (-1 ≤ Int32.toInt x2_185 ∧ Int32.toInt x2_185 < Int32.toInt (M_185 P 7)) → (-1 ≤ Int32.toInt x3_185 ∧ Int32.toInt x3_185 < Int32.toInt (M_185 P 7)) → (-1 ≤ Int32.toInt x4_185 ∧ Int32.toInt x4_185 < Int32.toInt (M_185 P 7)) → ∃ r, D_X8_choose_185 P x1_185 x2_185 x3_185 x4_185 x7_185 M_185 = some r ∧ ((∀ a j, ¬ WM_X8_choose P a j → r.2 a j = M0 a j) ∧ ((jB P r.2) ∧ (jS P r.2) ∧ (jR P r.2) ∧ (jK P r.2) ∧ (jT P r.2))) := by
    intro x1_185 x2_185 x3_185 x4_185 x7_185 M_185 k_185 p_jB_185 p_jH_185 p_jK_185 p_jL_185 p_jR_185 p_jS_185 p_jT_185 f0_185 f1_185 f2_185 f3_185 f4_185
    obtain ⟨u0_jB_185, u1_jB_185, u2_jB_185, u3_jB_185, u4_jB_185, u5_jB_185⟩ := id p_jB_185
    obtain ⟨u0_jS_185, u1_jS_185, u2_jS_185, u3_jS_185, u4_jS_185, u5_jS_185, u6_jS_185, u7_jS_185⟩ := jS.ints p_jS_185
    obtain ⟨u0_jT_185, u1_jT_185, u2_jT_185, u3_jT_185, u4_jT_185, u5_jT_185⟩ := id p_jT_185
    unfold D_X8_choose_185
    refine vB (v_X8_choiceMany p_jB_185 p_jS_185 p_jL_185 (by first | omega | (simp only [Int32.toInt_add, Int32.toInt_sub, Int32.toInt_mul, Int32.toInt_toInt64, Int64.toInt_add, z_m1, Int32.reduceToInt, Int64.reduceToInt, Int32.reduceToNatClampNeg, Int.bmod_def, or_true, true_or, and_true, true_and] <;> omega)) (by first | omega | (simp only [Int32.toInt_add, Int32.toInt_sub, Int32.toInt_mul, Int32.toInt_toInt64, Int64.toInt_add, z_m1, Int32.reduceToInt, Int64.reduceToInt, Int32.reduceToNatClampNeg, Int.bmod_def, or_true, true_or, and_true, true_and] <;> omega))) (fun e_187 f_187 q_187 => ?_)
    obtain ⟨x0_187, x1_187, x2_187⟩ := q_187
    (try simp only [Int32.toInt_add, Int32.toInt_sub, Int32.toInt_mul, Int32.toInt_toInt64, Int64.toInt_add, z_m1, Int32.reduceToInt, Int64.reduceToInt, Int32.reduceToNatClampNeg, Int.bmod_def] at x0_187)
    (try simp only [Int32.toInt_add, Int32.toInt_sub, Int32.toInt_mul, Int32.toInt_toInt64, Int64.toInt_add, z_m1, Int32.reduceToInt, Int64.reduceToInt, Int32.reduceToNatClampNeg, Int.bmod_def] at x1_187)
    refine vB (v_X8_keeps p_jB_185 p_jS_185 p_jK_185 p_jT_185) (fun e_193 f_193 q_193 => ?_)
    have k_193 : ∀ a j, ¬ WM_X8_choose P a j → e_193 a j = M0 a j := fun a j h => (q_193.1 a j (wz_M_X8_keeps_X8_choose h)).trans (k_185 a j h)
    have c7_193 : Int32.toInt (e_193 P 7) = Int32.toInt (M_185 P 7) := congrArg Int32.toInt (q_193.1 P 7 (wc_X8_keeps_7))
    have c8_193 : Int32.toInt (e_193 P 8) = Int32.toInt (M_185 P 8) := congrArg Int32.toInt (q_193.1 P 8 (wc_X8_keeps_8))
    have c33_193 : Int32.toInt (e_193 P 33) = Int32.toInt (M_185 P 33) := congrArg Int32.toInt (q_193.1 P 33 (wc_X8_keeps_33))
    have n_193 : nA P e_193 = nA P M_185 := nA_congr (fun a j h => q_193.1 a j (wf_nA_X8_keeps h))
    have p_jB_193 : jB P e_193 := jB.mono p_jB_185 (fun a j h => q_193.1 a j (wf_jB_X8_keeps h))
    obtain ⟨u0_jB_193, u1_jB_193, u2_jB_193, u3_jB_193, u4_jB_193, u5_jB_193⟩ := id p_jB_193
    have p_jH_193 : jH P e_193 := jH.mono p_jH_185 (fun a j h => q_193.1 a j (wf_jH_X8_keeps h))
    have p_jL_193 : jL P e_193 := jL.mono p_jL_185 (fun a j h => q_193.1 a j (wf_jL_X8_keeps h))
    have p_jR_193 : jR P e_193 := jR.mono p_jR_185 (fun a j h => q_193.1 a j (wf_jR_X8_keeps h))
    have p_jS_193 : jS P e_193 := jS.mono p_jS_185 (fun a j h => q_193.1 a j (wf_jS_X8_keeps h))
    obtain ⟨u0_jS_193, u1_jS_193, u2_jS_193, u3_jS_193, u4_jS_193, u5_jS_193, u6_jS_193, u7_jS_193⟩ := jS.ints p_jS_193
    obtain ⟨x0_193, x1_193⟩ := q_193.2
    obtain ⟨u0_jT_193, u1_jT_193, u2_jT_193, u3_jT_193, u4_jT_193, u5_jT_193⟩ := id x1_193
    refine vI (vp_of (by first | omega | (simp only [Int32.toInt_add, Int32.toInt_sub, Int32.toInt_mul, Int32.toInt_toInt64, Int64.toInt_add, z_m1, Int32.reduceToInt, Int64.reduceToInt, Int32.reduceToNatClampNeg, Int.bmod_def, or_true, true_or, and_true, true_and] <;> omega)) (by first | omega | (simp only [Int32.toInt_add, Int32.toInt_sub, Int32.toInt_mul, Int32.toInt_toInt64, Int64.toInt_add, z_m1, Int32.reduceToInt, Int64.reduceToInt, Int32.reduceToNatClampNeg, Int.bmod_def, or_true, true_or, and_true, true_and] <;> omega))) ?_
    refine vLm (W := WM_X8_choose P) (fun a j h => (zu_ne (fun z => wq_X8_choose_M1_r h z.1)).trans (k_193 a j h)) (fun M_203 f_203 k_203 => ?_)
    have c7_203 : Int32.toInt (M_203 P 7) = Int32.toInt (e_193 P 7) := congrArg Int32.toInt ((congrFun (congrFun f_203.symm P) 7).trans (zu_ne (fun z => wq_pne0 (by decide) z.1)))
    have c8_203 : Int32.toInt (M_203 P 8) = Int32.toInt (e_193 P 8) := congrArg Int32.toInt ((congrFun (congrFun f_203.symm P) 8).trans (zu_ne (fun z => wq_pne0 (by decide) z.1)))
    have c33_203 : Int32.toInt (M_203 P 33) = Int32.toInt (e_193 P 33) := congrArg Int32.toInt ((congrFun (congrFun f_203.symm P) 33).trans (zu_ne (fun z => wq_pne0 (by decide) z.1)))
    have p_jB_203 : jB P M_203 := jB.mono p_jB_193 (fun a j h => (congrFun (congrFun f_203.symm a) j).trans (zu_ne (fun z => wf_jB_M1_r h z.1)))
    obtain ⟨u0_jB_203, u1_jB_203, u2_jB_203, u3_jB_203, u4_jB_203, u5_jB_203⟩ := id p_jB_203
    have p_jH_203 : jH P M_203 := jH.mono p_jH_193 (fun a j h => (congrFun (congrFun f_203.symm a) j).trans (zu_ne (fun z => wf_jH_M1_r h z.1)))
    have p_jL_203 : jL P M_203 := jL.mono p_jL_193 (fun a j h => (congrFun (congrFun f_203.symm a) j).trans (zu_ne (fun z => wf_jL_M1_r h z.1)))
    have p_jR_203 : jR P M_203 := jR.mono p_jR_193 (fun a j h => (congrFun (congrFun f_203.symm a) j).trans (zu_ne (fun z => wf_jR_M1_r h z.1)))
    have p_jS_203 : jS P M_203 := jS.put p_jS_193 (by omega) f_203 (Or.inr (Or.inl ⟨(by have h1 := z_cl (x := x7_185) (by first | omega | (simp only [Int32.toInt_add, Int32.toInt_sub, Int32.toInt_mul, Int32.toInt_toInt64, Int64.toInt_add, z_m1, Int32.reduceToInt, Int64.reduceToInt, Int32.reduceToNatClampNeg, Int.bmod_def, or_true, true_or, and_true, true_and] <;> omega)); have h2 : 20 ≤ Int32.toInt (x7_185) ∧ Int32.toInt (x7_185) < 62 := (by first | omega | (simp only [Int32.toInt_add, Int32.toInt_sub, Int32.toInt_mul, Int32.toInt_toInt64, Int64.toInt_add, z_m1, Int32.reduceToInt, Int64.reduceToInt, Int32.reduceToNatClampNeg, Int.bmod_def, or_true, true_or, and_true, true_and] <;> omega)); omega), (by have h1 := z_cl (x := x7_185) (by first | omega | (simp only [Int32.toInt_add, Int32.toInt_sub, Int32.toInt_mul, Int32.toInt_toInt64, Int64.toInt_add, z_m1, Int32.reduceToInt, Int64.reduceToInt, Int32.reduceToNatClampNeg, Int.bmod_def, or_true, true_or, and_true, true_and] <;> omega)); have h2 : 20 ≤ Int32.toInt (x7_185) ∧ Int32.toInt (x7_185) < 62 := (by first | omega | (simp only [Int32.toInt_add, Int32.toInt_sub, Int32.toInt_mul, Int32.toInt_toInt64, Int64.toInt_add, z_m1, Int32.reduceToInt, Int64.reduceToInt, Int32.reduceToNatClampNeg, Int.bmod_def, or_true, true_or, and_true, true_and] <;> omega)); omega), (by first | omega | (simp only [Int32.toInt_add, Int32.toInt_sub, Int32.toInt_mul, Int32.toInt_toInt64, Int64.toInt_add, z_m1, Int32.reduceToInt, Int64.reduceToInt, Int32.reduceToNatClampNeg, Int.bmod_def, or_true, true_or, and_true, true_and] <;> omega)), (by first | omega | (simp only [Int32.toInt_add, Int32.toInt_sub, Int32.toInt_mul, Int32.toInt_toInt64, Int64.toInt_add, z_m1, Int32.reduceToInt, Int64.reduceToInt, Int32.reduceToNatClampNeg, Int.bmod_def, or_true, true_or, and_true, true_and] <;> omega))⟩))
    obtain ⟨u0_jS_203, u1_jS_203, u2_jS_203, u3_jS_203, u4_jS_203, u5_jS_203, u6_jS_203, u7_jS_203⟩ := jS.ints p_jS_203
    have p_jK_203 : jK P M_203 := jK.mono x0_193 (fun a j h => (congrFun (congrFun f_203.symm a) j).trans (zu_ne (fun z => wf_jK_M1_r h z.1)))
    have p_jT_203 : jT P M_203 := jT.mono x1_193 (fun a j h => (congrFun (congrFun f_203.symm a) j).trans (zu_ne (fun z => wf_jT_M1_r h z.1)))
    obtain ⟨u0_jT_203, u1_jT_203, u2_jT_203, u3_jT_203, u4_jT_203, u5_jT_203⟩ := id p_jT_203
    refine vI (vp_of (by first | omega | (simp only [Int32.toInt_add, Int32.toInt_sub, Int32.toInt_mul, Int32.toInt_toInt64, Int64.toInt_add, z_m1, Int32.reduceToInt, Int64.reduceToInt, Int32.reduceToNatClampNeg, Int.bmod_def, or_true, true_or, and_true, true_and] <;> omega)) (by first | omega | (simp only [Int32.toInt_add, Int32.toInt_sub, Int32.toInt_mul, Int32.toInt_toInt64, Int64.toInt_add, z_m1, Int32.reduceToInt, Int64.reduceToInt, Int32.reduceToNatClampNeg, Int.bmod_def, or_true, true_or, and_true, true_and] <;> omega))) ?_
    refine vLm (W := WM_X8_choose P) (fun a j h => (zu_ne (fun z => wq_X8_choose_M1_r h z.1)).trans (k_203 a j h)) (fun M_213 f_213 k_213 => ?_)
    have c7_213 : Int32.toInt (M_213 P 7) = Int32.toInt (M_203 P 7) := congrArg Int32.toInt ((congrFun (congrFun f_213.symm P) 7).trans (zu_ne (fun z => wq_pne0 (by decide) z.1)))
    have c8_213 : Int32.toInt (M_213 P 8) = Int32.toInt (M_203 P 8) := congrArg Int32.toInt ((congrFun (congrFun f_213.symm P) 8).trans (zu_ne (fun z => wq_pne0 (by decide) z.1)))
    have c33_213 : Int32.toInt (M_213 P 33) = Int32.toInt (M_203 P 33) := congrArg Int32.toInt ((congrFun (congrFun f_213.symm P) 33).trans (zu_ne (fun z => wq_pne0 (by decide) z.1)))
    have p_jB_213 : jB P M_213 := jB.mono p_jB_203 (fun a j h => (congrFun (congrFun f_213.symm a) j).trans (zu_ne (fun z => wf_jB_M1_r h z.1)))
    obtain ⟨u0_jB_213, u1_jB_213, u2_jB_213, u3_jB_213, u4_jB_213, u5_jB_213⟩ := id p_jB_213
    have p_jH_213 : jH P M_213 := jH.mono p_jH_203 (fun a j h => (congrFun (congrFun f_213.symm a) j).trans (zu_ne (fun z => wf_jH_M1_r h z.1)))
    have p_jL_213 : jL P M_213 := jL.mono p_jL_203 (fun a j h => (congrFun (congrFun f_213.symm a) j).trans (zu_ne (fun z => wf_jL_M1_r h z.1)))
    have p_jR_213 : jR P M_213 := jR.mono p_jR_203 (fun a j h => (congrFun (congrFun f_213.symm a) j).trans (zu_ne (fun z => wf_jR_M1_r h z.1)))
    have p_jS_213 : jS P M_213 := jS.put p_jS_203 (by omega) f_213 (Or.inr (Or.inl ⟨(by have h1 := z_cl (x := x7_185 + (1 : Int32)) (by first | omega | (simp only [Int32.toInt_add, Int32.toInt_sub, Int32.toInt_mul, Int32.toInt_toInt64, Int64.toInt_add, z_m1, Int32.reduceToInt, Int64.reduceToInt, Int32.reduceToNatClampNeg, Int.bmod_def, or_true, true_or, and_true, true_and] <;> omega)); have h2 : 20 ≤ Int32.toInt (x7_185 + (1 : Int32)) ∧ Int32.toInt (x7_185 + (1 : Int32)) < 62 := (by first | omega | (simp only [Int32.toInt_add, Int32.toInt_sub, Int32.toInt_mul, Int32.toInt_toInt64, Int64.toInt_add, z_m1, Int32.reduceToInt, Int64.reduceToInt, Int32.reduceToNatClampNeg, Int.bmod_def, or_true, true_or, and_true, true_and] <;> omega)); omega), (by have h1 := z_cl (x := x7_185 + (1 : Int32)) (by first | omega | (simp only [Int32.toInt_add, Int32.toInt_sub, Int32.toInt_mul, Int32.toInt_toInt64, Int64.toInt_add, z_m1, Int32.reduceToInt, Int64.reduceToInt, Int32.reduceToNatClampNeg, Int.bmod_def, or_true, true_or, and_true, true_and] <;> omega)); have h2 : 20 ≤ Int32.toInt (x7_185 + (1 : Int32)) ∧ Int32.toInt (x7_185 + (1 : Int32)) < 62 := (by first | omega | (simp only [Int32.toInt_add, Int32.toInt_sub, Int32.toInt_mul, Int32.toInt_toInt64, Int64.toInt_add, z_m1, Int32.reduceToInt, Int64.reduceToInt, Int32.reduceToNatClampNeg, Int.bmod_def, or_true, true_or, and_true, true_and] <;> omega)); omega), (by first | omega | (simp only [Int32.toInt_add, Int32.toInt_sub, Int32.toInt_mul, Int32.toInt_toInt64, Int64.toInt_add, z_m1, Int32.reduceToInt, Int64.reduceToInt, Int32.reduceToNatClampNeg, Int.bmod_def, or_true, true_or, and_true, true_and] <;> omega)), (by first | omega | (simp only [Int32.toInt_add, Int32.toInt_sub, Int32.toInt_mul, Int32.toInt_toInt64, Int64.toInt_add, z_m1, Int32.reduceToInt, Int64.reduceToInt, Int32.reduceToNatClampNeg, Int.bmod_def, or_true, true_or, and_true, true_and] <;> omega))⟩))
    obtain ⟨u0_jS_213, u1_jS_213, u2_jS_213, u3_jS_213, u4_jS_213, u5_jS_213, u6_jS_213, u7_jS_213⟩ := jS.ints p_jS_213
    have p_jK_213 : jK P M_213 := jK.mono p_jK_203 (fun a j h => (congrFun (congrFun f_213.symm a) j).trans (zu_ne (fun z => wf_jK_M1_r h z.1)))
    have p_jT_213 : jT P M_213 := jT.mono p_jT_203 (fun a j h => (congrFun (congrFun f_213.symm a) j).trans (zu_ne (fun z => wf_jT_M1_r h z.1)))
    obtain ⟨u0_jT_213, u1_jT_213, u2_jT_213, u3_jT_213, u4_jT_213, u5_jT_213⟩ := id p_jT_213
    refine vI (vp_of (by first | omega | (simp only [Int32.toInt_add, Int32.toInt_sub, Int32.toInt_mul, Int32.toInt_toInt64, Int64.toInt_add, z_m1, Int32.reduceToInt, Int64.reduceToInt, Int32.reduceToNatClampNeg, Int.bmod_def, or_true, true_or, and_true, true_and] <;> omega)) (by first | omega | (simp only [Int32.toInt_add, Int32.toInt_sub, Int32.toInt_mul, Int32.toInt_toInt64, Int64.toInt_add, z_m1, Int32.reduceToInt, Int64.reduceToInt, Int32.reduceToNatClampNeg, Int.bmod_def, or_true, true_or, and_true, true_and] <;> omega))) ?_
    refine vLm (W := WM_X8_choose P) (fun a j h => (zu_ne (fun z => wq_X8_choose_M1_r h z.1)).trans (k_213 a j h)) (fun M_224 f_224 k_224 => ?_)
    have c7_224 : Int32.toInt (M_224 P 7) = Int32.toInt (M_213 P 7) := congrArg Int32.toInt ((congrFun (congrFun f_224.symm P) 7).trans (zu_ne (fun z => wq_pne0 (by decide) z.1)))
    have c8_224 : Int32.toInt (M_224 P 8) = Int32.toInt (M_213 P 8) := congrArg Int32.toInt ((congrFun (congrFun f_224.symm P) 8).trans (zu_ne (fun z => wq_pne0 (by decide) z.1)))
    have c33_224 : Int32.toInt (M_224 P 33) = Int32.toInt (M_213 P 33) := congrArg Int32.toInt ((congrFun (congrFun f_224.symm P) 33).trans (zu_ne (fun z => wq_pne0 (by decide) z.1)))
    have p_jB_224 : jB P M_224 := jB.mono p_jB_213 (fun a j h => (congrFun (congrFun f_224.symm a) j).trans (zu_ne (fun z => wf_jB_M1_r h z.1)))
    obtain ⟨u0_jB_224, u1_jB_224, u2_jB_224, u3_jB_224, u4_jB_224, u5_jB_224⟩ := id p_jB_224
    have p_jH_224 : jH P M_224 := jH.mono p_jH_213 (fun a j h => (congrFun (congrFun f_224.symm a) j).trans (zu_ne (fun z => wf_jH_M1_r h z.1)))
    have p_jL_224 : jL P M_224 := jL.mono p_jL_213 (fun a j h => (congrFun (congrFun f_224.symm a) j).trans (zu_ne (fun z => wf_jL_M1_r h z.1)))
    have p_jR_224 : jR P M_224 := jR.mono p_jR_213 (fun a j h => (congrFun (congrFun f_224.symm a) j).trans (zu_ne (fun z => wf_jR_M1_r h z.1)))
    have p_jS_224 : jS P M_224 := jS.put p_jS_213 (by omega) f_224 (Or.inr (Or.inl ⟨(by have h1 := z_cl (x := x7_185 + (2 : Int32)) (by first | omega | (simp only [Int32.toInt_add, Int32.toInt_sub, Int32.toInt_mul, Int32.toInt_toInt64, Int64.toInt_add, z_m1, Int32.reduceToInt, Int64.reduceToInt, Int32.reduceToNatClampNeg, Int.bmod_def, or_true, true_or, and_true, true_and] <;> omega)); have h2 : 20 ≤ Int32.toInt (x7_185 + (2 : Int32)) ∧ Int32.toInt (x7_185 + (2 : Int32)) < 62 := (by first | omega | (simp only [Int32.toInt_add, Int32.toInt_sub, Int32.toInt_mul, Int32.toInt_toInt64, Int64.toInt_add, z_m1, Int32.reduceToInt, Int64.reduceToInt, Int32.reduceToNatClampNeg, Int.bmod_def, or_true, true_or, and_true, true_and] <;> omega)); omega), (by have h1 := z_cl (x := x7_185 + (2 : Int32)) (by first | omega | (simp only [Int32.toInt_add, Int32.toInt_sub, Int32.toInt_mul, Int32.toInt_toInt64, Int64.toInt_add, z_m1, Int32.reduceToInt, Int64.reduceToInt, Int32.reduceToNatClampNeg, Int.bmod_def, or_true, true_or, and_true, true_and] <;> omega)); have h2 : 20 ≤ Int32.toInt (x7_185 + (2 : Int32)) ∧ Int32.toInt (x7_185 + (2 : Int32)) < 62 := (by first | omega | (simp only [Int32.toInt_add, Int32.toInt_sub, Int32.toInt_mul, Int32.toInt_toInt64, Int64.toInt_add, z_m1, Int32.reduceToInt, Int64.reduceToInt, Int32.reduceToNatClampNeg, Int.bmod_def, or_true, true_or, and_true, true_and] <;> omega)); omega), (by first | omega | (simp only [Int32.toInt_add, Int32.toInt_sub, Int32.toInt_mul, Int32.toInt_toInt64, Int64.toInt_add, z_m1, Int32.reduceToInt, Int64.reduceToInt, Int32.reduceToNatClampNeg, Int.bmod_def, or_true, true_or, and_true, true_and] <;> omega)), (by first | omega | (simp only [Int32.toInt_add, Int32.toInt_sub, Int32.toInt_mul, Int32.toInt_toInt64, Int64.toInt_add, z_m1, Int32.reduceToInt, Int64.reduceToInt, Int32.reduceToNatClampNeg, Int.bmod_def, or_true, true_or, and_true, true_and] <;> omega))⟩))
    obtain ⟨u0_jS_224, u1_jS_224, u2_jS_224, u3_jS_224, u4_jS_224, u5_jS_224, u6_jS_224, u7_jS_224⟩ := jS.ints p_jS_224
    have p_jK_224 : jK P M_224 := jK.mono p_jK_213 (fun a j h => (congrFun (congrFun f_224.symm a) j).trans (zu_ne (fun z => wf_jK_M1_r h z.1)))
    have p_jT_224 : jT P M_224 := jT.mono p_jT_213 (fun a j h => (congrFun (congrFun f_224.symm a) j).trans (zu_ne (fun z => wf_jT_M1_r h z.1)))
    obtain ⟨u0_jT_224, u1_jT_224, u2_jT_224, u3_jT_224, u4_jT_224, u5_jT_224⟩ := id p_jT_224
    refine vB (v_X8_gives) (fun e_228 f_228 q_228 => ?_)
    have k_228 : ∀ a j, ¬ WM_X8_choose P a j → e_228.2 a j = M0 a j := fun a j h => (q_228 a j (wz_M_X8_gives_X8_choose h)).trans (k_224 a j h)
    have c7_228 : Int32.toInt (e_228.2 P 7) = Int32.toInt (M_224 P 7) := congrArg Int32.toInt (q_228 P 7 (wc_X8_gives_7))
    have c8_228 : Int32.toInt (e_228.2 P 8) = Int32.toInt (M_224 P 8) := congrArg Int32.toInt (q_228 P 8 (wc_X8_gives_8))
    have c33_228 : Int32.toInt (e_228.2 P 33) = Int32.toInt (M_224 P 33) := congrArg Int32.toInt (q_228 P 33 (wc_X8_gives_33))
    have n_228 : nA P e_228.2 = nA P M_224 := nA_congr (fun a j h => q_228 a j (wf_nA_X8_gives h))
    have p_jB_228 : jB P e_228.2 := jB.mono p_jB_224 (fun a j h => q_228 a j (wf_jB_X8_gives h))
    obtain ⟨u0_jB_228, u1_jB_228, u2_jB_228, u3_jB_228, u4_jB_228, u5_jB_228⟩ := id p_jB_228
    have p_jH_228 : jH P e_228.2 := jH.mono p_jH_224 (fun a j h => q_228 a j (wf_jH_X8_gives h))
    have p_jL_228 : jL P e_228.2 := jL.mono p_jL_224 (fun a j h => q_228 a j (wf_jL_X8_gives h))
    have p_jR_228 : jR P e_228.2 := jR.mono p_jR_224 (fun a j h => q_228 a j (wf_jR_X8_gives h))
    have p_jS_228 : jS P e_228.2 := jS.mono p_jS_224 (fun a j h => q_228 a j (wf_jS_X8_gives h))
    obtain ⟨u0_jS_228, u1_jS_228, u2_jS_228, u3_jS_228, u4_jS_228, u5_jS_228, u6_jS_228, u7_jS_228⟩ := jS.ints p_jS_228
    have p_jK_228 : jK P e_228.2 := jK.mono p_jK_224 (fun a j h => q_228 a j (wf_jK_X8_gives h))
    have p_jT_228 : jT P e_228.2 := jT.mono p_jT_224 (fun a j h => q_228 a j (wf_jT_X8_gives h))
    obtain ⟨u0_jT_228, u1_jT_228, u2_jT_228, u3_jT_228, u4_jT_228, u5_jT_228⟩ := id p_jT_228
    exact ⟨_, rfl, k_228, ⟨p_jB_228, p_jS_228, p_jR_228, p_jK_228, p_jT_228⟩⟩
  have T_127 : ∀ (M_127 : zMt), (∀ a j, ¬ WM_X8_choose P a j → M_127 a j = M0 a j) → (jB P M_127) → (jH P M_127) → (jK P M_127) → (jL P M_127) → (jR P M_127) → (jS P M_127) → (jT P M_127) → ∃ r, D_X8_choose_127 P M_127 = some r ∧ ((∀ a j, ¬ WM_X8_choose P a j → r.2 a j = M0 a j) ∧ ((jB P r.2) ∧ (jS P r.2) ∧ (jR P r.2) ∧ (jK P r.2) ∧ (jT P r.2))) := by
    intro M_127 k_127 p_jB_127 p_jH_127 p_jK_127 p_jL_127 p_jR_127 p_jS_127 p_jT_127
    obtain ⟨u0_jB_127, u1_jB_127, u2_jB_127, u3_jB_127, u4_jB_127, u5_jB_127⟩ := id p_jB_127
    obtain ⟨u0_jS_127, u1_jS_127, u2_jS_127, u3_jS_127, u4_jS_127, u5_jS_127, u6_jS_127, u7_jS_127⟩ := jS.ints p_jS_127
    obtain ⟨u0_jT_127, u1_jT_127, u2_jT_127, u3_jT_127, u4_jT_127, u5_jT_127⟩ := id p_jT_127
    unfold D_X8_choose_127
    refine vB (v_X8_refuse) (fun e_129 f_129 q_129 => ?_)
    have k_129 : ∀ a j, ¬ WM_X8_choose P a j → e_129.2 a j = M0 a j := fun a j h => (q_129 a j (wz_M_X8_refuse_X8_choose h)).trans (k_127 a j h)
    have c7_129 : Int32.toInt (e_129.2 P 7) = Int32.toInt (M_127 P 7) := congrArg Int32.toInt (q_129 P 7 (wc_X8_refuse_7))
    have c8_129 : Int32.toInt (e_129.2 P 8) = Int32.toInt (M_127 P 8) := congrArg Int32.toInt (q_129 P 8 (wc_X8_refuse_8))
    have c33_129 : Int32.toInt (e_129.2 P 33) = Int32.toInt (M_127 P 33) := congrArg Int32.toInt (q_129 P 33 (wc_X8_refuse_33))
    have n_129 : nA P e_129.2 = nA P M_127 := nA_congr (fun a j h => q_129 a j (wf_nA_X8_refuse h))
    have p_jB_129 : jB P e_129.2 := jB.mono p_jB_127 (fun a j h => q_129 a j (wf_jB_X8_refuse h))
    obtain ⟨u0_jB_129, u1_jB_129, u2_jB_129, u3_jB_129, u4_jB_129, u5_jB_129⟩ := id p_jB_129
    have p_jH_129 : jH P e_129.2 := jH.mono p_jH_127 (fun a j h => q_129 a j (wf_jH_X8_refuse h))
    have p_jK_129 : jK P e_129.2 := jK.mono p_jK_127 (fun a j h => q_129 a j (wf_jK_X8_refuse h))
    have p_jL_129 : jL P e_129.2 := jL.mono p_jL_127 (fun a j h => q_129 a j (wf_jL_X8_refuse h))
    have p_jR_129 : jR P e_129.2 := jR.mono p_jR_127 (fun a j h => q_129 a j (wf_jR_X8_refuse h))
    have p_jS_129 : jS P e_129.2 := jS.mono p_jS_127 (fun a j h => q_129 a j (wf_jS_X8_refuse h))
    obtain ⟨u0_jS_129, u1_jS_129, u2_jS_129, u3_jS_129, u4_jS_129, u5_jS_129, u6_jS_129, u7_jS_129⟩ := jS.ints p_jS_129
    have p_jT_129 : jT P e_129.2 := jT.mono p_jT_127 (fun a j h => q_129 a j (wf_jT_X8_refuse h))
    obtain ⟨u0_jT_129, u1_jT_129, u2_jT_129, u3_jT_129, u4_jT_129, u5_jT_129⟩ := id p_jT_129
    exact ⟨_, rfl, k_129, ⟨p_jB_129, p_jS_129, p_jR_129, p_jK_129, p_jT_129⟩⟩
  have T_88 : ∀ (M_88 : zMt), (∀ a j, ¬ WM_X8_choose P a j → M_88 a j = M0 a j) → (jB P M_88) → (jK P M_88) → (jR P M_88) → (jS P M_88) → (jT P M_88) → ∃ r, D_X8_choose_88 P M_88 = some r ∧ ((∀ a j, ¬ WM_X8_choose P a j → r.2 a j = M0 a j) ∧ ((jB P r.2) ∧ (jS P r.2) ∧ (jR P r.2) ∧ (jK P r.2) ∧ (jT P r.2))) := by
    intro M_88 k_88 p_jB_88 p_jK_88 p_jR_88 p_jS_88 p_jT_88
    obtain ⟨u0_jB_88, u1_jB_88, u2_jB_88, u3_jB_88, u4_jB_88, u5_jB_88⟩ := id p_jB_88
    obtain ⟨u0_jS_88, u1_jS_88, u2_jS_88, u3_jS_88, u4_jS_88, u5_jS_88, u6_jS_88, u7_jS_88⟩ := jS.ints p_jS_88
    obtain ⟨u0_jT_88, u1_jT_88, u2_jT_88, u3_jT_88, u4_jT_88, u5_jT_88⟩ := id p_jT_88
    unfold D_X8_choose_88
    refine vB (v_X8_refuse) (fun e_90 f_90 q_90 => ?_)
    have k_90 : ∀ a j, ¬ WM_X8_choose P a j → e_90.2 a j = M0 a j := fun a j h => (q_90 a j (wz_M_X8_refuse_X8_choose h)).trans (k_88 a j h)
    have c7_90 : Int32.toInt (e_90.2 P 7) = Int32.toInt (M_88 P 7) := congrArg Int32.toInt (q_90 P 7 (wc_X8_refuse_7))
    have c8_90 : Int32.toInt (e_90.2 P 8) = Int32.toInt (M_88 P 8) := congrArg Int32.toInt (q_90 P 8 (wc_X8_refuse_8))
    have c33_90 : Int32.toInt (e_90.2 P 33) = Int32.toInt (M_88 P 33) := congrArg Int32.toInt (q_90 P 33 (wc_X8_refuse_33))
    have n_90 : nA P e_90.2 = nA P M_88 := nA_congr (fun a j h => q_90 a j (wf_nA_X8_refuse h))
    have p_jB_90 : jB P e_90.2 := jB.mono p_jB_88 (fun a j h => q_90 a j (wf_jB_X8_refuse h))
    obtain ⟨u0_jB_90, u1_jB_90, u2_jB_90, u3_jB_90, u4_jB_90, u5_jB_90⟩ := id p_jB_90
    have p_jK_90 : jK P e_90.2 := jK.mono p_jK_88 (fun a j h => q_90 a j (wf_jK_X8_refuse h))
    have p_jR_90 : jR P e_90.2 := jR.mono p_jR_88 (fun a j h => q_90 a j (wf_jR_X8_refuse h))
    have p_jS_90 : jS P e_90.2 := jS.mono p_jS_88 (fun a j h => q_90 a j (wf_jS_X8_refuse h))
    obtain ⟨u0_jS_90, u1_jS_90, u2_jS_90, u3_jS_90, u4_jS_90, u5_jS_90, u6_jS_90, u7_jS_90⟩ := jS.ints p_jS_90
    have p_jT_90 : jT P e_90.2 := jT.mono p_jT_88 (fun a j h => q_90 a j (wf_jT_X8_refuse h))
    obtain ⟨u0_jT_90, u1_jT_90, u2_jT_90, u3_jT_90, u4_jT_90, u5_jT_90⟩ := id p_jT_90
    exact ⟨_, rfl, k_90, ⟨p_jB_90, p_jS_90, p_jR_90, p_jK_90, p_jT_90⟩⟩
  have T_60 : ∀ (x1_60 : Int32) (x2_60 : Int32) (x3_60 : Int32) (x4_60 : Int32) (x5_60 : Int32) (y0_60 : Int32) (M_60 : zMt), (∀ a j, ¬ WM_X8_choose P a j → M_60 a j = M0 a j) → (jB P M_60) → (jK P M_60) → (jR P M_60) → (jS P M_60) → (jT P M_60) → (x5_60 = 0 ∨ x5_60 = 1) → (y0_60 = 0 ∨ y0_60 = 1) → ∃ r, D_X8_choose_60 P x1_60 x2_60 x3_60 x4_60 x5_60 y0_60 M_60 = some r ∧ ((∀ a j, ¬ WM_X8_choose P a j → r.2 a j = M0 a j) ∧ ((jB P r.2) ∧ (jS P r.2) ∧ (jR P r.2) ∧ (jK P r.2) ∧ (jT P r.2))) := by
    intro x1_60 x2_60 x3_60 x4_60 x5_60 y0_60 M_60 k_60 p_jB_60 p_jK_60 p_jR_60 p_jS_60 p_jT_60 f0_60 f1_60
    obtain ⟨u0_jB_60, u1_jB_60, u2_jB_60, u3_jB_60, u4_jB_60, u5_jB_60⟩ := id p_jB_60
    obtain ⟨u0_jS_60, u1_jS_60, u2_jS_60, u3_jS_60, u4_jS_60, u5_jS_60, u6_jS_60, u7_jS_60⟩ := jS.ints p_jS_60
    obtain ⟨u0_jT_60, u1_jT_60, u2_jT_60, u3_jT_60, u4_jT_60, u5_jT_60⟩ := id p_jT_60
    unfold D_X8_choose_60
    refine vIf (fun h_64 => ?_) (fun h_64 => ?_)
    · have i_64 := Int32.lt_iff_toInt_lt.mp h_64
      (try simp only [Int32.toInt_add, Int32.toInt_sub, Int32.toInt_mul, Int32.toInt_toInt64, Int64.toInt_add, z_m1, Int32.reduceToInt, Int64.reduceToInt, Int32.reduceToNatClampNeg, Int.bmod_def] at i_64)
      exact T_88 _ k_60 p_jB_60 p_jK_60 p_jR_60 p_jS_60 p_jT_60
    · have i_64 := Int32.le_iff_toInt_le.mp (Int32.not_lt.mp h_64)
      (try simp only [Int32.toInt_add, Int32.toInt_sub, Int32.toInt_mul, Int32.toInt_toInt64, Int64.toInt_add, z_m1, Int32.reduceToInt, Int64.reduceToInt, Int32.reduceToNatClampNeg, Int.bmod_def] at i_64)
      refine vIf (fun h_69 => ?_) (fun h_69 => ?_)
      · have i_69 := Int32.lt_iff_toInt_lt.mp h_69
        (try simp only [Int32.toInt_add, Int32.toInt_sub, Int32.toInt_mul, Int32.toInt_toInt64, Int64.toInt_add, z_m1, Int32.reduceToInt, Int64.reduceToInt, Int32.reduceToNatClampNeg, Int.bmod_def] at i_69)
        exact T_88 _ k_60 p_jB_60 p_jK_60 p_jR_60 p_jS_60 p_jT_60
      · have i_69 := Int32.le_iff_toInt_le.mp (Int32.not_lt.mp h_69)
        (try simp only [Int32.toInt_add, Int32.toInt_sub, Int32.toInt_mul, Int32.toInt_toInt64, Int64.toInt_add, z_m1, Int32.reduceToInt, Int64.reduceToInt, Int32.reduceToNatClampNeg, Int.bmod_def] at i_69)
        refine vIf (fun h_75 => ?_) (fun h_75 => ?_)
        · have i_75 := Int32.lt_iff_toInt_lt.mp h_75
          (try simp only [Int32.toInt_add, Int32.toInt_sub, Int32.toInt_mul, Int32.toInt_toInt64, Int64.toInt_add, z_m1, Int32.reduceToInt, Int64.reduceToInt, Int32.reduceToNatClampNeg, Int.bmod_def] at i_75)
          exact T_88 _ k_60 p_jB_60 p_jK_60 p_jR_60 p_jS_60 p_jT_60
        · have i_75 := Int32.le_iff_toInt_le.mp (Int32.not_lt.mp h_75)
          (try simp only [Int32.toInt_add, Int32.toInt_sub, Int32.toInt_mul, Int32.toInt_toInt64, Int64.toInt_add, z_m1, Int32.reduceToInt, Int64.reduceToInt, Int32.reduceToNatClampNeg, Int.bmod_def] at i_75)
          refine vIf (fun h_80 => ?_) (fun h_80 => ?_)
          · have i_80 := congrArg Int32.toInt h_80
            (try simp only [Int32.toInt_add, Int32.toInt_sub, Int32.toInt_mul, Int32.toInt_toInt64, Int64.toInt_add, z_m1, Int32.reduceToInt, Int64.reduceToInt, Int32.reduceToNatClampNeg, Int.bmod_def] at i_80)
            refine vIf (fun h_85 => ?_) (fun h_85 => ?_)
            · have i_85 := congrArg Int32.toInt h_85
              (try simp only [Int32.toInt_add, Int32.toInt_sub, Int32.toInt_mul, Int32.toInt_toInt64, Int64.toInt_add, z_m1, Int32.reduceToInt, Int64.reduceToInt, Int32.reduceToNatClampNeg, Int.bmod_def] at i_85)
              refine vB (v_X8_isApplicant p_jB_60 p_jS_60) (fun e_96 f_96 q_96 => ?_)
              have k_96 : ∀ a j, ¬ WM_X8_choose P a j → e_96.2 a j = M0 a j := fun a j h => (q_96.1 a j (wz_M_X8_isApplicant_X8_choose h)).trans (k_60 a j h)
              have b_96 := q_96.2.1
              have c7_96 : Int32.toInt (e_96.2 P 7) = Int32.toInt (M_60 P 7) := congrArg Int32.toInt (q_96.1 P 7 (wc_X8_isApplicant_7))
              have c8_96 : Int32.toInt (e_96.2 P 8) = Int32.toInt (M_60 P 8) := congrArg Int32.toInt (q_96.1 P 8 (wc_X8_isApplicant_8))
              have n_96 : nA P e_96.2 = nA P M_60 := nA_congr (fun a j h => q_96.1 a j (wf_nA_X8_isApplicant h))
              have p_jK_96 : jK P e_96.2 := jK.mono p_jK_60 (fun a j h => q_96.1 a j (wf_jK_X8_isApplicant h))
              have p_jR_96 : jR P e_96.2 := jR.mono p_jR_60 (fun a j h => q_96.1 a j (wf_jR_X8_isApplicant h))
              have p_jS_96 : jS P e_96.2 := jS.mono p_jS_60 (fun a j h => q_96.1 a j (wf_jS_X8_isApplicant h))
              obtain ⟨u0_jS_96, u1_jS_96, u2_jS_96, u3_jS_96, u4_jS_96, u5_jS_96, u6_jS_96, u7_jS_96⟩ := jS.ints p_jS_96
              have p_jT_96 : jT P e_96.2 := jT.mono p_jT_60 (fun a j h => q_96.1 a j (wf_jT_X8_isApplicant h))
              obtain ⟨u0_jT_96, u1_jT_96, u2_jT_96, u3_jT_96, u4_jT_96, u5_jT_96⟩ := id p_jT_96
              obtain ⟨x0_96, x1_96, x2_96, x3_96, x4_96⟩ := q_96.2.2
              obtain ⟨u0_jB_96, u1_jB_96, u2_jB_96, u3_jB_96, u4_jB_96, u5_jB_96⟩ := id x0_96
              (try simp only [Int32.toInt_add, Int32.toInt_sub, Int32.toInt_mul, Int32.toInt_toInt64, Int64.toInt_add, z_m1, Int32.reduceToInt, Int64.reduceToInt, Int32.reduceToNatClampNeg, Int.bmod_def] at x3_96)
              (try simp only [Int32.toInt_add, Int32.toInt_sub, Int32.toInt_mul, Int32.toInt_toInt64, Int64.toInt_add, z_m1, Int32.reduceToInt, Int64.reduceToInt, Int32.reduceToNatClampNeg, Int.bmod_def] at x4_96)
              refine vIf (fun h_99 => ?_) (fun h_99 => ?_)
              · have i_99 := congrArg Int32.toInt h_99
                (try simp only [Int32.toInt_add, Int32.toInt_sub, Int32.toInt_mul, Int32.toInt_toInt64, Int64.toInt_add, z_m1, Int32.reduceToInt, Int64.reduceToInt, Int32.reduceToNatClampNeg, Int.bmod_def] at i_99)
                exact T_127 _ k_96 x0_96 x2_96 p_jK_96 x1_96 p_jR_96 p_jS_96 p_jT_96
              · have i_99 : ¬ Int32.toInt e_96.1 = Int32.toInt (0 : Int32) := fun q => h_99 (Int32.toInt_inj.mp q)
                (try simp only [Int32.toInt_add, Int32.toInt_sub, Int32.toInt_mul, Int32.toInt_toInt64, Int64.toInt_add, z_m1, Int32.reduceToInt, Int64.reduceToInt, Int32.reduceToNatClampNeg, Int.bmod_def] at i_99)
                refine vIf (fun h_107 => ?_) (fun h_107 => ?_)
                · have i_107 := Int32.le_iff_toInt_le.mp h_107
                  (try simp only [Int32.toInt_add, Int32.toInt_sub, Int32.toInt_mul, Int32.toInt_toInt64, Int64.toInt_add, z_m1, Int32.reduceToInt, Int64.reduceToInt, Int32.reduceToNatClampNeg, Int.bmod_def] at i_107)
                  exact T_127 _ k_96 x0_96 x2_96 p_jK_96 x1_96 p_jR_96 p_jS_96 p_jT_96
                · have i_107 := Int32.lt_iff_toInt_lt.mp (Int32.not_le.mp h_107)
                  (try simp only [Int32.toInt_add, Int32.toInt_sub, Int32.toInt_mul, Int32.toInt_toInt64, Int64.toInt_add, z_m1, Int32.reduceToInt, Int64.reduceToInt, Int32.reduceToNatClampNeg, Int.bmod_def] at i_107)
                  refine vIf (fun h_115 => ?_) (fun h_115 => ?_)
                  · have i_115 := Int32.le_iff_toInt_le.mp h_115
                    (try simp only [Int32.toInt_add, Int32.toInt_sub, Int32.toInt_mul, Int32.toInt_toInt64, Int64.toInt_add, z_m1, Int32.reduceToInt, Int64.reduceToInt, Int32.reduceToNatClampNeg, Int.bmod_def] at i_115)
                    exact T_127 _ k_96 x0_96 x2_96 p_jK_96 x1_96 p_jR_96 p_jS_96 p_jT_96
                  · have i_115 := Int32.lt_iff_toInt_lt.mp (Int32.not_le.mp h_115)
                    (try simp only [Int32.toInt_add, Int32.toInt_sub, Int32.toInt_mul, Int32.toInt_toInt64, Int64.toInt_add, z_m1, Int32.reduceToInt, Int64.reduceToInt, Int32.reduceToNatClampNeg, Int.bmod_def] at i_115)
                    refine vIf (fun h_124 => ?_) (fun h_124 => ?_)
                    · have i_124 := Int32.lt_iff_toInt_lt.mp h_124
                      (try simp only [Int32.toInt_add, Int32.toInt_sub, Int32.toInt_mul, Int32.toInt_toInt64, Int64.toInt_add, z_m1, Int32.reduceToInt, Int64.reduceToInt, Int32.reduceToNatClampNeg, Int.bmod_def] at i_124)
                      refine vI (vp_of (by first | omega | (simp only [Int32.toInt_add, Int32.toInt_sub, Int32.toInt_mul, Int32.toInt_toInt64, Int64.toInt_add, z_m1, Int32.reduceToInt, Int64.reduceToInt, Int32.reduceToNatClampNeg, Int.bmod_def, or_true, true_or, and_true, true_and] <;> omega)) (by first | omega | (simp only [Int32.toInt_add, Int32.toInt_sub, Int32.toInt_mul, Int32.toInt_toInt64, Int64.toInt_add, z_m1, Int32.reduceToInt, Int64.reduceToInt, Int32.reduceToNatClampNeg, Int.bmod_def, or_true, true_or, and_true, true_and] <;> omega))) ?_
                      obtain ⟨w0_138, w1_138, w2_138, w3_138, w4_138, w5_138⟩ := jL.el x1_96 (x := x1_60) (by first | omega | (simp only [Int32.toInt_add, Int32.toInt_sub, Int32.toInt_mul, Int32.toInt_toInt64, Int64.toInt_add, z_m1, Int32.reduceToInt, Int64.reduceToInt, Int32.reduceToNatClampNeg, Int.bmod_def, or_true, true_or, and_true, true_and] <;> omega)) (by first | omega | (simp only [Int32.toInt_add, Int32.toInt_sub, Int32.toInt_mul, Int32.toInt_toInt64, Int64.toInt_add, z_m1, Int32.reduceToInt, Int64.reduceToInt, Int32.reduceToNatClampNeg, Int.bmod_def, or_true, true_or, and_true, true_and] <;> omega))
                      refine vI (vp_of (by first | omega | (simp only [Int32.toInt_add, Int32.toInt_sub, Int32.toInt_mul, Int32.toInt_toInt64, Int64.toInt_add, z_m1, Int32.reduceToInt, Int64.reduceToInt, Int32.reduceToNatClampNeg, Int.bmod_def, or_true, true_or, and_true, true_and] <;> omega)) (by first | omega | (simp only [Int32.toInt_add, Int32.toInt_sub, Int32.toInt_mul, Int32.toInt_toInt64, Int64.toInt_add, z_m1, Int32.reduceToInt, Int64.reduceToInt, Int32.reduceToNatClampNeg, Int.bmod_def, or_true, true_or, and_true, true_and] <;> omega))) ?_
                      refine vIf (fun h_149 => ?_) (fun h_149 => ?_)
                      · have i_149 := congrArg Int32.toInt h_149
                        (try simp only [Int32.toInt_add, Int32.toInt_sub, Int32.toInt_mul, Int32.toInt_toInt64, Int64.toInt_add, z_m1, Int32.reduceToInt, Int64.reduceToInt, Int32.reduceToNatClampNeg, Int.bmod_def] at i_149)
                        refine vI (vp_of (by first | omega | (simp only [Int32.toInt_add, Int32.toInt_sub, Int32.toInt_mul, Int32.toInt_toInt64, Int64.toInt_add, z_m1, Int32.reduceToInt, Int64.reduceToInt, Int32.reduceToNatClampNeg, Int.bmod_def, or_true, true_or, and_true, true_and] <;> omega)) (by first | omega | (simp only [Int32.toInt_add, Int32.toInt_sub, Int32.toInt_mul, Int32.toInt_toInt64, Int64.toInt_add, z_m1, Int32.reduceToInt, Int64.reduceToInt, Int32.reduceToNatClampNeg, Int.bmod_def, or_true, true_or, and_true, true_and] <;> omega))) ?_
                        refine vIf (fun h_162 => ?_) (fun h_162 => ?_)
                        · have i_162 := congrArg Int32.toInt h_162
                          (try simp only [Int32.toInt_add, Int32.toInt_sub, Int32.toInt_mul, Int32.toInt_toInt64, Int64.toInt_add, z_m1, Int32.reduceToInt, Int64.reduceToInt, Int32.reduceToNatClampNeg, Int.bmod_def] at i_162)
                          refine vI (vp_of (by first | omega | (simp only [Int32.toInt_add, Int32.toInt_sub, Int32.toInt_mul, Int32.toInt_toInt64, Int64.toInt_add, z_m1, Int32.reduceToInt, Int64.reduceToInt, Int32.reduceToNatClampNeg, Int.bmod_def, or_true, true_or, and_true, true_and] <;> omega)) (by first | omega | (simp only [Int32.toInt_add, Int32.toInt_sub, Int32.toInt_mul, Int32.toInt_toInt64, Int64.toInt_add, z_m1, Int32.reduceToInt, Int64.reduceToInt, Int32.reduceToNatClampNeg, Int.bmod_def, or_true, true_or, and_true, true_and] <;> omega))) ?_
                          refine vIf (fun h_176 => ?_) (fun h_176 => ?_)
                          · have i_176 := congrArg Int32.toInt h_176
                            (try simp only [Int32.toInt_add, Int32.toInt_sub, Int32.toInt_mul, Int32.toInt_toInt64, Int64.toInt_add, z_m1, Int32.reduceToInt, Int64.reduceToInt, Int32.reduceToNatClampNeg, Int.bmod_def] at i_176)
                            refine vB (v_X8_refuse) (fun e_181 f_181 q_181 => ?_)
                            have k_181 : ∀ a j, ¬ WM_X8_choose P a j → e_181.2 a j = M0 a j := fun a j h => (q_181 a j (wz_M_X8_refuse_X8_choose h)).trans (k_96 a j h)
                            have c7_181 : Int32.toInt (e_181.2 P 7) = Int32.toInt (e_96.2 P 7) := congrArg Int32.toInt (q_181 P 7 (wc_X8_refuse_7))
                            have c8_181 : Int32.toInt (e_181.2 P 8) = Int32.toInt (e_96.2 P 8) := congrArg Int32.toInt (q_181 P 8 (wc_X8_refuse_8))
                            have c33_181 : Int32.toInt (e_181.2 P 33) = Int32.toInt (e_96.2 P 33) := congrArg Int32.toInt (q_181 P 33 (wc_X8_refuse_33))
                            have n_181 : nA P e_181.2 = nA P e_96.2 := nA_congr (fun a j h => q_181 a j (wf_nA_X8_refuse h))
                            have p_jK_181 : jK P e_181.2 := jK.mono p_jK_96 (fun a j h => q_181 a j (wf_jK_X8_refuse h))
                            have p_jR_181 : jR P e_181.2 := jR.mono p_jR_96 (fun a j h => q_181 a j (wf_jR_X8_refuse h))
                            have p_jS_181 : jS P e_181.2 := jS.mono p_jS_96 (fun a j h => q_181 a j (wf_jS_X8_refuse h))
                            obtain ⟨u0_jS_181, u1_jS_181, u2_jS_181, u3_jS_181, u4_jS_181, u5_jS_181, u6_jS_181, u7_jS_181⟩ := jS.ints p_jS_181
                            have p_jT_181 : jT P e_181.2 := jT.mono p_jT_96 (fun a j h => q_181 a j (wf_jT_X8_refuse h))
                            obtain ⟨u0_jT_181, u1_jT_181, u2_jT_181, u3_jT_181, u4_jT_181, u5_jT_181⟩ := id p_jT_181
                            have p_jB_181 : jB P e_181.2 := jB.mono x0_96 (fun a j h => q_181 a j (wf_jB_X8_refuse h))
                            obtain ⟨u0_jB_181, u1_jB_181, u2_jB_181, u3_jB_181, u4_jB_181, u5_jB_181⟩ := id p_jB_181
                            have p_jL_181 : jL P e_181.2 := jL.mono x1_96 (fun a j h => q_181 a j (wf_jL_X8_refuse h))
                            have p_jH_181 : jH P e_181.2 := jH.mono x2_96 (fun a j h => q_181 a j (wf_jH_X8_refuse h))
                            exact ⟨_, rfl, k_181, ⟨p_jB_181, p_jS_181, p_jR_181, p_jK_181, p_jT_181⟩⟩
                          · have i_176 : ¬ Int32.toInt (e_96.2 (P + 1) ((e_96.2 (P + 13) x1_60.toNatClampNeg) + (2 : Int32)).toNatClampNeg) = Int32.toInt x4_60 := fun q => h_176 (Int32.toInt_inj.mp q)
                            (try simp only [Int32.toInt_add, Int32.toInt_sub, Int32.toInt_mul, Int32.toInt_toInt64, Int64.toInt_add, z_m1, Int32.reduceToInt, Int64.reduceToInt, Int32.reduceToNatClampNeg, Int.bmod_def] at i_176)
                            exact T_185 _ _ _ _ _ _ k_96 x0_96 x2_96 p_jK_96 x1_96 p_jR_96 p_jS_96 p_jT_96 (by first | omega | (simp only [Int32.toInt_add, Int32.toInt_sub, Int32.toInt_mul, Int32.toInt_toInt64, Int64.toInt_add, z_m1, Int32.reduceToInt, Int64.reduceToInt, Int32.reduceToNatClampNeg, Int.bmod_def, or_true, true_or, and_true, true_and] <;> omega)) (by first | omega | (simp only [Int32.toInt_add, Int32.toInt_sub, Int32.toInt_mul, Int32.toInt_toInt64, Int64.toInt_add, z_m1, Int32.reduceToInt, Int64.reduceToInt, Int32.reduceToNatClampNeg, Int.bmod_def, or_true, true_or, and_true, true_and] <;> omega)) (by first | omega | (simp only [Int32.toInt_add, Int32.toInt_sub, Int32.toInt_mul, Int32.toInt_toInt64, Int64.toInt_add, z_m1, Int32.reduceToInt, Int64.reduceToInt, Int32.reduceToNatClampNeg, Int.bmod_def, or_true, true_or, and_true, true_and] <;> omega)) (by first | omega | (simp only [Int32.toInt_add, Int32.toInt_sub, Int32.toInt_mul, Int32.toInt_toInt64, Int64.toInt_add, z_m1, Int32.reduceToInt, Int64.reduceToInt, Int32.reduceToNatClampNeg, Int.bmod_def, or_true, true_or, and_true, true_and] <;> omega)) (by first | omega | (simp only [Int32.toInt_add, Int32.toInt_sub, Int32.toInt_mul, Int32.toInt_toInt64, Int64.toInt_add, z_m1, Int32.reduceToInt, Int64.reduceToInt, Int32.reduceToNatClampNeg, Int.bmod_def, or_true, true_or, and_true, true_and] <;> omega))
                        · have i_162 : ¬ Int32.toInt (e_96.2 (P + 1) ((e_96.2 (P + 13) x1_60.toNatClampNeg) + (1 : Int32)).toNatClampNeg) = Int32.toInt x3_60 := fun q => h_162 (Int32.toInt_inj.mp q)
                          (try simp only [Int32.toInt_add, Int32.toInt_sub, Int32.toInt_mul, Int32.toInt_toInt64, Int64.toInt_add, z_m1, Int32.reduceToInt, Int64.reduceToInt, Int32.reduceToNatClampNeg, Int.bmod_def] at i_162)
                          exact T_185 _ _ _ _ _ _ k_96 x0_96 x2_96 p_jK_96 x1_96 p_jR_96 p_jS_96 p_jT_96 (by first | omega | (simp only [Int32.toInt_add, Int32.toInt_sub, Int32.toInt_mul, Int32.toInt_toInt64, Int64.toInt_add, z_m1, Int32.reduceToInt, Int64.reduceToInt, Int32.reduceToNatClampNeg, Int.bmod_def, or_true, true_or, and_true, true_and] <;> omega)) (by first | omega | (simp only [Int32.toInt_add, Int32.toInt_sub, Int32.toInt_mul, Int32.toInt_toInt64, Int64.toInt_add, z_m1, Int32.reduceToInt, Int64.reduceToInt, Int32.reduceToNatClampNeg, Int.bmod_def, or_true, true_or, and_true, true_and] <;> omega)) (by first | omega | (simp only [Int32.toInt_add, Int32.toInt_sub, Int32.toInt_mul, Int32.toInt_toInt64, Int64.toInt_add, z_m1, Int32.reduceToInt, Int64.reduceToInt, Int32.reduceToNatClampNeg, Int.bmod_def, or_true, true_or, and_true, true_and] <;> omega)) (by first | omega | (simp only [Int32.toInt_add, Int32.toInt_sub, Int32.toInt_mul, Int32.toInt_toInt64, Int64.toInt_add, z_m1, Int32.reduceToInt, Int64.reduceToInt, Int32.reduceToNatClampNeg, Int.bmod_def, or_true, true_or, and_true, true_and] <;> omega)) (by first | omega | (simp only [Int32.toInt_add, Int32.toInt_sub, Int32.toInt_mul, Int32.toInt_toInt64, Int64.toInt_add, z_m1, Int32.reduceToInt, Int64.reduceToInt, Int32.reduceToNatClampNeg, Int.bmod_def, or_true, true_or, and_true, true_and] <;> omega))
                      · have i_149 : ¬ Int32.toInt (e_96.2 (P + 1) (e_96.2 (P + 13) x1_60.toNatClampNeg).toNatClampNeg) = Int32.toInt x2_60 := fun q => h_149 (Int32.toInt_inj.mp q)
                        (try simp only [Int32.toInt_add, Int32.toInt_sub, Int32.toInt_mul, Int32.toInt_toInt64, Int64.toInt_add, z_m1, Int32.reduceToInt, Int64.reduceToInt, Int32.reduceToNatClampNeg, Int.bmod_def] at i_149)
                        exact T_185 _ _ _ _ _ _ k_96 x0_96 x2_96 p_jK_96 x1_96 p_jR_96 p_jS_96 p_jT_96 (by first | omega | (simp only [Int32.toInt_add, Int32.toInt_sub, Int32.toInt_mul, Int32.toInt_toInt64, Int64.toInt_add, z_m1, Int32.reduceToInt, Int64.reduceToInt, Int32.reduceToNatClampNeg, Int.bmod_def, or_true, true_or, and_true, true_and] <;> omega)) (by first | omega | (simp only [Int32.toInt_add, Int32.toInt_sub, Int32.toInt_mul, Int32.toInt_toInt64, Int64.toInt_add, z_m1, Int32.reduceToInt, Int64.reduceToInt, Int32.reduceToNatClampNeg, Int.bmod_def, or_true, true_or, and_true, true_and] <;> omega)) (by first | omega | (simp only [Int32.toInt_add, Int32.toInt_sub, Int32.toInt_mul, Int32.toInt_toInt64, Int64.toInt_add, z_m1, Int32.reduceToInt, Int64.reduceToInt, Int32.reduceToNatClampNeg, Int.bmod_def, or_true, true_or, and_true, true_and] <;> omega)) (by first | omega | (simp only [Int32.toInt_add, Int32.toInt_sub, Int32.toInt_mul, Int32.toInt_toInt64, Int64.toInt_add, z_m1, Int32.reduceToInt, Int64.reduceToInt, Int32.reduceToNatClampNeg, Int.bmod_def, or_true, true_or, and_true, true_and] <;> omega)) (by first | omega | (simp only [Int32.toInt_add, Int32.toInt_sub, Int32.toInt_mul, Int32.toInt_toInt64, Int64.toInt_add, z_m1, Int32.reduceToInt, Int64.reduceToInt, Int32.reduceToNatClampNeg, Int.bmod_def, or_true, true_or, and_true, true_and] <;> omega))
                    · have i_124 := Int32.le_iff_toInt_le.mp (Int32.not_lt.mp h_124)
                      (try simp only [Int32.toInt_add, Int32.toInt_sub, Int32.toInt_mul, Int32.toInt_toInt64, Int64.toInt_add, z_m1, Int32.reduceToInt, Int64.reduceToInt, Int32.reduceToNatClampNeg, Int.bmod_def] at i_124)
                      exact T_127 _ k_96 x0_96 x2_96 p_jK_96 x1_96 p_jR_96 p_jS_96 p_jT_96
            · have i_85 : ¬ Int32.toInt y0_60 = Int32.toInt (0 : Int32) := fun q => h_85 (Int32.toInt_inj.mp q)
              (try simp only [Int32.toInt_add, Int32.toInt_sub, Int32.toInt_mul, Int32.toInt_toInt64, Int64.toInt_add, z_m1, Int32.reduceToInt, Int64.reduceToInt, Int32.reduceToNatClampNeg, Int.bmod_def] at i_85)
              exact T_88 _ k_60 p_jB_60 p_jK_60 p_jR_60 p_jS_60 p_jT_60
          · have i_80 : ¬ Int32.toInt x5_60 = Int32.toInt (0 : Int32) := fun q => h_80 (Int32.toInt_inj.mp q)
            (try simp only [Int32.toInt_add, Int32.toInt_sub, Int32.toInt_mul, Int32.toInt_toInt64, Int64.toInt_add, z_m1, Int32.reduceToInt, Int64.reduceToInt, Int32.reduceToNatClampNeg, Int.bmod_def] at i_80)
            exact T_88 _ k_60 p_jB_60 p_jK_60 p_jR_60 p_jS_60 p_jT_60
  have T_59 : ∀ (x1_59 : Int32) (x2_59 : Int32) (x3_59 : Int32) (x4_59 : Int32) (x5_59 : Int32) (M_59 : zMt), (∀ a j, ¬ WM_X8_choose P a j → M_59 a j = M0 a j) → (jB P M_59) → (jK P M_59) → (jR P M_59) → (jS P M_59) → (jT P M_59) → (x5_59 = 0 ∨ x5_59 = 1) → ∃ r, D_X8_choose_59 P x1_59 x2_59 x3_59 x4_59 x5_59 M_59 = some r ∧ ((∀ a j, ¬ WM_X8_choose P a j → r.2 a j = M0 a j) ∧ ((jB P r.2) ∧ (jS P r.2) ∧ (jR P r.2) ∧ (jK P r.2) ∧ (jT P r.2))) := by
    intro x1_59 x2_59 x3_59 x4_59 x5_59 M_59 k_59 p_jB_59 p_jK_59 p_jR_59 p_jS_59 p_jT_59 f0_59
    obtain ⟨u0_jB_59, u1_jB_59, u2_jB_59, u3_jB_59, u4_jB_59, u5_jB_59⟩ := id p_jB_59
    obtain ⟨u0_jS_59, u1_jS_59, u2_jS_59, u3_jS_59, u4_jS_59, u5_jS_59, u6_jS_59, u7_jS_59⟩ := jS.ints p_jS_59
    obtain ⟨u0_jT_59, u1_jT_59, u2_jT_59, u3_jT_59, u4_jT_59, u5_jT_59⟩ := id p_jT_59
    unfold D_X8_choose_59
    exact T_60 _ _ _ _ _ _ _ k_59 p_jB_59 p_jK_59 p_jR_59 p_jS_59 p_jT_59 (by first | exact Or.inl rfl | exact Or.inr rfl | assumption) (by first | exact Or.inl rfl | exact Or.inr rfl | assumption)
  have T_55 : ∀ (x1_55 : Int32) (x2_55 : Int32) (x3_55 : Int32) (x4_55 : Int32) (x5_55 : Int32) (M_55 : zMt), (∀ a j, ¬ WM_X8_choose P a j → M_55 a j = M0 a j) → (jB P M_55) → (jK P M_55) → (jR P M_55) → (jS P M_55) → (jT P M_55) → (x5_55 = 0 ∨ x5_55 = 1) → ∃ r, D_X8_choose_55 P x1_55 x2_55 x3_55 x4_55 x5_55 M_55 = some r ∧ ((∀ a j, ¬ WM_X8_choose P a j → r.2 a j = M0 a j) ∧ ((jB P r.2) ∧ (jS P r.2) ∧ (jR P r.2) ∧ (jK P r.2) ∧ (jT P r.2))) := by
    intro x1_55 x2_55 x3_55 x4_55 x5_55 M_55 k_55 p_jB_55 p_jK_55 p_jR_55 p_jS_55 p_jT_55 f0_55
    obtain ⟨u0_jB_55, u1_jB_55, u2_jB_55, u3_jB_55, u4_jB_55, u5_jB_55⟩ := id p_jB_55
    obtain ⟨u0_jS_55, u1_jS_55, u2_jS_55, u3_jS_55, u4_jS_55, u5_jS_55, u6_jS_55, u7_jS_55⟩ := jS.ints p_jS_55
    obtain ⟨u0_jT_55, u1_jT_55, u2_jT_55, u3_jT_55, u4_jT_55, u5_jT_55⟩ := id p_jT_55
    unfold D_X8_choose_55
    exact T_60 _ _ _ _ _ _ _ k_55 p_jB_55 p_jK_55 p_jR_55 p_jS_55 p_jT_55 (by first | exact Or.inl rfl | exact Or.inr rfl | assumption) (by first | exact Or.inl rfl | exact Or.inr rfl | assumption)
  have T_44 : ∀ (x1_44 : Int32) (x2_44 : Int32) (x3_44 : Int32) (x4_44 : Int32) (x5_44 : Int32) (M_44 : zMt), (∀ a j, ¬ WM_X8_choose P a j → M_44 a j = M0 a j) → (jB P M_44) → (jK P M_44) → (jR P M_44) → (jS P M_44) → (jT P M_44) → (x5_44 = 0 ∨ x5_44 = 1) → ∃ r, D_X8_choose_44 P x1_44 x2_44 x3_44 x4_44 x5_44 M_44 = some r ∧ ((∀ a j, ¬ WM_X8_choose P a j → r.2 a j = M0 a j) ∧ ((jB P r.2) ∧ (jS P r.2) ∧ (jR P r.2) ∧ (jK P r.2) ∧ (jT P r.2))) := by
    intro x1_44 x2_44 x3_44 x4_44 x5_44 M_44 k_44 p_jB_44 p_jK_44 p_jR_44 p_jS_44 p_jT_44 f0_44
    obtain ⟨u0_jB_44, u1_jB_44, u2_jB_44, u3_jB_44, u4_jB_44, u5_jB_44⟩ := id p_jB_44
    obtain ⟨u0_jS_44, u1_jS_44, u2_jS_44, u3_jS_44, u4_jS_44, u5_jS_44, u6_jS_44, u7_jS_44⟩ := jS.ints p_jS_44
    obtain ⟨u0_jT_44, u1_jT_44, u2_jT_44, u3_jT_44, u4_jT_44, u5_jT_44⟩ := id p_jT_44
    unfold D_X8_choose_44
    refine vIf (fun h_46 => ?_) (fun h_46 => ?_)
    · have i_46 := congrArg Int32.toInt h_46
      (try simp only [Int32.toInt_add, Int32.toInt_sub, Int32.toInt_mul, Int32.toInt_toInt64, Int64.toInt_add, z_m1, Int32.reduceToInt, Int64.reduceToInt, Int32.reduceToNatClampNeg, Int.bmod_def] at i_46)
      exact T_59 _ _ _ _ _ _ k_44 p_jB_44 p_jK_44 p_jR_44 p_jS_44 p_jT_44 (by first | exact Or.inl rfl | exact Or.inr rfl | assumption)
    · have i_46 : ¬ Int32.toInt x3_44 = Int32.toInt (-1 : Int32) := fun q => h_46 (Int32.toInt_inj.mp q)
      (try simp only [Int32.toInt_add, Int32.toInt_sub, Int32.toInt_mul, Int32.toInt_toInt64, Int64.toInt_add, z_m1, Int32.reduceToInt, Int64.reduceToInt, Int32.reduceToNatClampNeg, Int.bmod_def] at i_46)
      refine vIf (fun h_52 => ?_) (fun h_52 => ?_)
      · have i_52 := congrArg Int32.toInt h_52
        (try simp only [Int32.toInt_add, Int32.toInt_sub, Int32.toInt_mul, Int32.toInt_toInt64, Int64.toInt_add, z_m1, Int32.reduceToInt, Int64.reduceToInt, Int32.reduceToNatClampNeg, Int.bmod_def] at i_52)
        exact T_55 _ _ _ _ _ _ k_44 p_jB_44 p_jK_44 p_jR_44 p_jS_44 p_jT_44 (by first | exact Or.inl rfl | exact Or.inr rfl | assumption)
      · have i_52 : ¬ Int32.toInt x3_44 = Int32.toInt x4_44 := fun q => h_52 (Int32.toInt_inj.mp q)
        (try simp only [Int32.toInt_add, Int32.toInt_sub, Int32.toInt_mul, Int32.toInt_toInt64, Int64.toInt_add, z_m1, Int32.reduceToInt, Int64.reduceToInt, Int32.reduceToNatClampNeg, Int.bmod_def] at i_52)
        exact T_59 _ _ _ _ _ _ k_44 p_jB_44 p_jK_44 p_jR_44 p_jS_44 p_jT_44 (by first | exact Or.inl rfl | exact Or.inr rfl | assumption)
  have T_26 : ∀ (x1_26 : Int32) (x2_26 : Int32) (x3_26 : Int32) (x4_26 : Int32) (y0_26 : Int32) (M_26 : zMt), (∀ a j, ¬ WM_X8_choose P a j → M_26 a j = M0 a j) → (jB P M_26) → (jK P M_26) → (jR P M_26) → (jS P M_26) → (jT P M_26) → (y0_26 = 0 ∨ y0_26 = 1) → ∃ r, D_X8_choose_26 P x1_26 x2_26 x3_26 x4_26 y0_26 M_26 = some r ∧ ((∀ a j, ¬ WM_X8_choose P a j → r.2 a j = M0 a j) ∧ ((jB P r.2) ∧ (jS P r.2) ∧ (jR P r.2) ∧ (jK P r.2) ∧ (jT P r.2))) := by
    intro x1_26 x2_26 x3_26 x4_26 y0_26 M_26 k_26 p_jB_26 p_jK_26 p_jR_26 p_jS_26 p_jT_26 f0_26
    obtain ⟨u0_jB_26, u1_jB_26, u2_jB_26, u3_jB_26, u4_jB_26, u5_jB_26⟩ := id p_jB_26
    obtain ⟨u0_jS_26, u1_jS_26, u2_jS_26, u3_jS_26, u4_jS_26, u5_jS_26, u6_jS_26, u7_jS_26⟩ := jS.ints p_jS_26
    obtain ⟨u0_jT_26, u1_jT_26, u2_jT_26, u3_jT_26, u4_jT_26, u5_jT_26⟩ := id p_jT_26
    unfold D_X8_choose_26
    refine vIf (fun h_30 => ?_) (fun h_30 => ?_)
    · have i_30 := congrArg Int32.toInt h_30
      (try simp only [Int32.toInt_add, Int32.toInt_sub, Int32.toInt_mul, Int32.toInt_toInt64, Int64.toInt_add, z_m1, Int32.reduceToInt, Int64.reduceToInt, Int32.reduceToNatClampNeg, Int.bmod_def] at i_30)
      exact T_44 _ _ _ _ _ _ k_26 p_jB_26 p_jK_26 p_jR_26 p_jS_26 p_jT_26 (by first | exact Or.inl rfl | exact Or.inr rfl | assumption)
    · have i_30 : ¬ Int32.toInt x2_26 = Int32.toInt (-1 : Int32) := fun q => h_30 (Int32.toInt_inj.mp q)
      (try simp only [Int32.toInt_add, Int32.toInt_sub, Int32.toInt_mul, Int32.toInt_toInt64, Int64.toInt_add, z_m1, Int32.reduceToInt, Int64.reduceToInt, Int32.reduceToNatClampNeg, Int.bmod_def] at i_30)
      refine vIf (fun h_35 => ?_) (fun h_35 => ?_)
      · have i_35 := congrArg Int32.toInt h_35
        (try simp only [Int32.toInt_add, Int32.toInt_sub, Int32.toInt_mul, Int32.toInt_toInt64, Int64.toInt_add, z_m1, Int32.reduceToInt, Int64.reduceToInt, Int32.reduceToNatClampNeg, Int.bmod_def] at i_35)
        exact T_55 _ _ _ _ _ _ k_26 p_jB_26 p_jK_26 p_jR_26 p_jS_26 p_jT_26 (by first | exact Or.inl rfl | exact Or.inr rfl | assumption)
      · have i_35 : ¬ Int32.toInt x2_26 = Int32.toInt x3_26 := fun q => h_35 (Int32.toInt_inj.mp q)
        (try simp only [Int32.toInt_add, Int32.toInt_sub, Int32.toInt_mul, Int32.toInt_toInt64, Int64.toInt_add, z_m1, Int32.reduceToInt, Int64.reduceToInt, Int32.reduceToNatClampNeg, Int.bmod_def] at i_35)
        refine vIf (fun h_41 => ?_) (fun h_41 => ?_)
        · have i_41 := congrArg Int32.toInt h_41
          (try simp only [Int32.toInt_add, Int32.toInt_sub, Int32.toInt_mul, Int32.toInt_toInt64, Int64.toInt_add, z_m1, Int32.reduceToInt, Int64.reduceToInt, Int32.reduceToNatClampNeg, Int.bmod_def] at i_41)
          exact T_55 _ _ _ _ _ _ k_26 p_jB_26 p_jK_26 p_jR_26 p_jS_26 p_jT_26 (by first | exact Or.inl rfl | exact Or.inr rfl | assumption)
        · have i_41 : ¬ Int32.toInt x2_26 = Int32.toInt x4_26 := fun q => h_41 (Int32.toInt_inj.mp q)
          (try simp only [Int32.toInt_add, Int32.toInt_sub, Int32.toInt_mul, Int32.toInt_toInt64, Int64.toInt_add, z_m1, Int32.reduceToInt, Int64.reduceToInt, Int32.reduceToNatClampNeg, Int.bmod_def] at i_41)
          exact T_44 _ _ _ _ _ _ k_26 p_jB_26 p_jK_26 p_jR_26 p_jS_26 p_jT_26 (by first | exact Or.inl rfl | exact Or.inr rfl | assumption)
  have T_25 : ∀ (x1_25 : Int32) (x2_25 : Int32) (x3_25 : Int32) (x4_25 : Int32) (M_25 : zMt), (∀ a j, ¬ WM_X8_choose P a j → M_25 a j = M0 a j) → (jB P M_25) → (jK P M_25) → (jR P M_25) → (jS P M_25) → (jT P M_25) → ∃ r, D_X8_choose_25 P x1_25 x2_25 x3_25 x4_25 M_25 = some r ∧ ((∀ a j, ¬ WM_X8_choose P a j → r.2 a j = M0 a j) ∧ ((jB P r.2) ∧ (jS P r.2) ∧ (jR P r.2) ∧ (jK P r.2) ∧ (jT P r.2))) := by
    intro x1_25 x2_25 x3_25 x4_25 M_25 k_25 p_jB_25 p_jK_25 p_jR_25 p_jS_25 p_jT_25
    obtain ⟨u0_jB_25, u1_jB_25, u2_jB_25, u3_jB_25, u4_jB_25, u5_jB_25⟩ := id p_jB_25
    obtain ⟨u0_jS_25, u1_jS_25, u2_jS_25, u3_jS_25, u4_jS_25, u5_jS_25, u6_jS_25, u7_jS_25⟩ := jS.ints p_jS_25
    obtain ⟨u0_jT_25, u1_jT_25, u2_jT_25, u3_jT_25, u4_jT_25, u5_jT_25⟩ := id p_jT_25
    unfold D_X8_choose_25
    exact T_26 _ _ _ _ _ _ k_25 p_jB_25 p_jK_25 p_jR_25 p_jS_25 p_jT_25 (by first | exact Or.inl rfl | exact Or.inr rfl | assumption)
  have T_21 : ∀ (x1_21 : Int32) (x2_21 : Int32) (x3_21 : Int32) (x4_21 : Int32) (M_21 : zMt), (∀ a j, ¬ WM_X8_choose P a j → M_21 a j = M0 a j) → (jB P M_21) → (jK P M_21) → (jR P M_21) → (jS P M_21) → (jT P M_21) → ∃ r, D_X8_choose_21 P x1_21 x2_21 x3_21 x4_21 M_21 = some r ∧ ((∀ a j, ¬ WM_X8_choose P a j → r.2 a j = M0 a j) ∧ ((jB P r.2) ∧ (jS P r.2) ∧ (jR P r.2) ∧ (jK P r.2) ∧ (jT P r.2))) := by
    intro x1_21 x2_21 x3_21 x4_21 M_21 k_21 p_jB_21 p_jK_21 p_jR_21 p_jS_21 p_jT_21
    obtain ⟨u0_jB_21, u1_jB_21, u2_jB_21, u3_jB_21, u4_jB_21, u5_jB_21⟩ := id p_jB_21
    obtain ⟨u0_jS_21, u1_jS_21, u2_jS_21, u3_jS_21, u4_jS_21, u5_jS_21, u6_jS_21, u7_jS_21⟩ := jS.ints p_jS_21
    obtain ⟨u0_jT_21, u1_jT_21, u2_jT_21, u3_jT_21, u4_jT_21, u5_jT_21⟩ := id p_jT_21
    unfold D_X8_choose_21
    exact T_26 _ _ _ _ _ _ k_21 p_jB_21 p_jK_21 p_jR_21 p_jS_21 p_jT_21 (by first | exact Or.inl rfl | exact Or.inr rfl | assumption)
  have T_10 : ∀ (x1_10 : Int32) (x2_10 : Int32) (x3_10 : Int32) (x4_10 : Int32) (M_10 : zMt), (∀ a j, ¬ WM_X8_choose P a j → M_10 a j = M0 a j) → (jB P M_10) → (jK P M_10) → (jR P M_10) → (jS P M_10) → (jT P M_10) → ∃ r, D_X8_choose_10 P x1_10 x2_10 x3_10 x4_10 M_10 = some r ∧ ((∀ a j, ¬ WM_X8_choose P a j → r.2 a j = M0 a j) ∧ ((jB P r.2) ∧ (jS P r.2) ∧ (jR P r.2) ∧ (jK P r.2) ∧ (jT P r.2))) := by
    intro x1_10 x2_10 x3_10 x4_10 M_10 k_10 p_jB_10 p_jK_10 p_jR_10 p_jS_10 p_jT_10
    obtain ⟨u0_jB_10, u1_jB_10, u2_jB_10, u3_jB_10, u4_jB_10, u5_jB_10⟩ := id p_jB_10
    obtain ⟨u0_jS_10, u1_jS_10, u2_jS_10, u3_jS_10, u4_jS_10, u5_jS_10, u6_jS_10, u7_jS_10⟩ := jS.ints p_jS_10
    obtain ⟨u0_jT_10, u1_jT_10, u2_jT_10, u3_jT_10, u4_jT_10, u5_jT_10⟩ := id p_jT_10
    unfold D_X8_choose_10
    refine vIf (fun h_12 => ?_) (fun h_12 => ?_)
    · have i_12 := congrArg Int32.toInt h_12
      (try simp only [Int32.toInt_add, Int32.toInt_sub, Int32.toInt_mul, Int32.toInt_toInt64, Int64.toInt_add, z_m1, Int32.reduceToInt, Int64.reduceToInt, Int32.reduceToNatClampNeg, Int.bmod_def] at i_12)
      refine vIf (fun h_18 => ?_) (fun h_18 => ?_)
      · have i_18 := congrArg Int32.toInt h_18
        (try simp only [Int32.toInt_add, Int32.toInt_sub, Int32.toInt_mul, Int32.toInt_toInt64, Int64.toInt_add, z_m1, Int32.reduceToInt, Int64.reduceToInt, Int32.reduceToNatClampNeg, Int.bmod_def] at i_18)
        exact T_25 _ _ _ _ _ k_10 p_jB_10 p_jK_10 p_jR_10 p_jS_10 p_jT_10
      · have i_18 : ¬ Int32.toInt x4_10 = Int32.toInt (-1 : Int32) := fun q => h_18 (Int32.toInt_inj.mp q)
        (try simp only [Int32.toInt_add, Int32.toInt_sub, Int32.toInt_mul, Int32.toInt_toInt64, Int64.toInt_add, z_m1, Int32.reduceToInt, Int64.reduceToInt, Int32.reduceToNatClampNeg, Int.bmod_def] at i_18)
        exact T_21 _ _ _ _ _ k_10 p_jB_10 p_jK_10 p_jR_10 p_jS_10 p_jT_10
    · have i_12 : ¬ Int32.toInt x3_10 = Int32.toInt (-1 : Int32) := fun q => h_12 (Int32.toInt_inj.mp q)
      (try simp only [Int32.toInt_add, Int32.toInt_sub, Int32.toInt_mul, Int32.toInt_toInt64, Int64.toInt_add, z_m1, Int32.reduceToInt, Int64.reduceToInt, Int32.reduceToNatClampNeg, Int.bmod_def] at i_12)
      exact T_25 _ _ _ _ _ k_10 p_jB_10 p_jK_10 p_jR_10 p_jS_10 p_jT_10
  unfold D_X8_choose
  refine vIf (fun h_2 => ?_) (fun h_2 => ?_)
  · have i_2 := congrArg Int32.toInt h_2
    (try simp only [Int32.toInt_add, Int32.toInt_sub, Int32.toInt_mul, Int32.toInt_toInt64, Int64.toInt_add, z_m1, Int32.reduceToInt, Int64.reduceToInt, Int32.reduceToNatClampNeg, Int.bmod_def] at i_2)
    refine vIf (fun h_7 => ?_) (fun h_7 => ?_)
    · have i_7 := congrArg Int32.toInt h_7
      (try simp only [Int32.toInt_add, Int32.toInt_sub, Int32.toInt_mul, Int32.toInt_toInt64, Int64.toInt_add, z_m1, Int32.reduceToInt, Int64.reduceToInt, Int32.reduceToNatClampNeg, Int.bmod_def] at i_7)
      exact T_10 _ _ _ _ _ (fun _ _ _ => rfl) p_jB p_jK p_jR p_jS p_jT
    · have i_7 : ¬ Int32.toInt v2 = Int32.toInt (-1 : Int32) := fun q => h_7 (Int32.toInt_inj.mp q)
      (try simp only [Int32.toInt_add, Int32.toInt_sub, Int32.toInt_mul, Int32.toInt_toInt64, Int64.toInt_add, z_m1, Int32.reduceToInt, Int64.reduceToInt, Int32.reduceToNatClampNeg, Int.bmod_def] at i_7)
      exact T_21 _ _ _ _ _ (fun _ _ _ => rfl) p_jB p_jK p_jR p_jS p_jT
  · have i_2 : ¬ Int32.toInt v1 = Int32.toInt (-1 : Int32) := fun q => h_2 (Int32.toInt_inj.mp q)
    (try simp only [Int32.toInt_add, Int32.toInt_sub, Int32.toInt_mul, Int32.toInt_toInt64, Int64.toInt_add, z_m1, Int32.reduceToInt, Int64.reduceToInt, Int32.reduceToNatClampNeg, Int.bmod_def] at i_2)
    exact T_10 _ _ _ _ _ (fun _ _ _ => rfl) p_jB p_jK p_jR p_jS p_jT
def WM_X8_prints (P : Nat) (a j : Nat) : Prop := (P + 32 ≤ a ∧ a < P + 33) ∨ (a = P ∧ (j = 64))
theorem wq_X8_prints_M32_r {P a j : Nat} (h : ¬ WM_X8_prints P a j) : ¬ a = P + 32 := by unfold WM_X8_prints at h; omega
theorem wf_nA_M32_r {P a j : Nat} (h : (a = P + 1 ∨ (a = P ∧ j = 8))) : ¬ a = P + 32 := by omega
theorem wf_jT_M32_r {P a j : Nat} (h : (a = P ∧ (j = 9 ∨ j = 11 ∨ j = 64))) : ¬ a = P + 32 := by omega
theorem wq_X8_prints_M0_64 {P a j : Nat} (h : ¬ WM_X8_prints P a j) : ¬ (a = P ∧ j = 64) := by unfold WM_X8_prints at h; omega
theorem wf_nA_M0_64 {P a j : Nat} (h : (a = P + 1 ∨ (a = P ∧ j = 8))) : ¬ (a = P ∧ j = 64) := by omega
set_option maxRecDepth 100000 in
set_option maxHeartbeats 4000000 in
theorem v_X8_prints {P : Nat} {v0 : Int32} {M0 : zMt}  (p_jT : jT P M0) (i_1 : Int32.toInt (M0 P 64) < 64) : ∃ r, D_X8_prints P v0 M0 = some r ∧ ((∀ a j, ¬ WM_X8_prints P a j → r a j = M0 a j) ∧ ((jT P r) ∧ (Int32.toInt (r P 64) = Int32.toInt (M0 P 64) + 1))) := by
  obtain ⟨u0_jT, u1_jT, u2_jT, u3_jT, u4_jT, u5_jT⟩ := id p_jT
  unfold D_X8_prints
  refine vI (vp_of (by first | omega | (simp only [Int32.toInt_add, Int32.toInt_sub, Int32.toInt_mul, Int32.toInt_toInt64, Int64.toInt_add, z_m1, Int32.reduceToInt, Int64.reduceToInt, Int32.reduceToNatClampNeg, Int.bmod_def, or_true, true_or, and_true, true_and] <;> omega)) (by first | omega | (simp only [Int32.toInt_add, Int32.toInt_sub, Int32.toInt_mul, Int32.toInt_toInt64, Int64.toInt_add, z_m1, Int32.reduceToInt, Int64.reduceToInt, Int32.reduceToNatClampNeg, Int.bmod_def, or_true, true_or, and_true, true_and] <;> omega))) ?_
  refine vLm (W := WM_X8_prints P) (fun a j h => (zu_ne (fun z => wq_X8_prints_M32_r h z.1))) (fun M_9 f_9 k_9 => ?_)
  have c7_9 : Int32.toInt (M_9 P 7) = Int32.toInt (M0 P 7) := congrArg Int32.toInt ((congrFun (congrFun f_9.symm P) 7).trans (zu_ne (fun z => wq_pne0 (by decide) z.1)))
  have c8_9 : Int32.toInt (M_9 P 8) = Int32.toInt (M0 P 8) := congrArg Int32.toInt ((congrFun (congrFun f_9.symm P) 8).trans (zu_ne (fun z => wq_pne0 (by decide) z.1)))
  have c33_9 : Int32.toInt (M_9 P 33) = Int32.toInt (M0 P 33) := congrArg Int32.toInt ((congrFun (congrFun f_9.symm P) 33).trans (zu_ne (fun z => wq_pne0 (by decide) z.1)))
  have n_9 : nA P M_9 = nA P M0 := nA_congr (fun a j h => (congrFun (congrFun f_9.symm a) j).trans (zu_ne (fun z => wf_nA_M32_r h z.1)))
  have p_jT_9 : jT P M_9 := jT.mono p_jT (fun a j h => (congrFun (congrFun f_9.symm a) j).trans (zu_ne (fun z => wf_jT_M32_r h z.1)))
  obtain ⟨u0_jT_9, u1_jT_9, u2_jT_9, u3_jT_9, u4_jT_9, u5_jT_9⟩ := id p_jT_9
  refine vLm (W := WM_X8_prints P) (fun a j h => (zu_ne (wq_X8_prints_M0_64 h)).trans (k_9 a j h)) (fun M_17 f_17 k_17 => ?_)
  have c7_17 : Int32.toInt (M_17 P 7) = Int32.toInt (M_9 P 7) := congrArg Int32.toInt ((congrFun (congrFun f_17.symm P) 7).trans (zu_ne (fun z => absurd z.2 (by decide))))
  have c8_17 : Int32.toInt (M_17 P 8) = Int32.toInt (M_9 P 8) := congrArg Int32.toInt ((congrFun (congrFun f_17.symm P) 8).trans (zu_ne (fun z => absurd z.2 (by decide))))
  have c33_17 : Int32.toInt (M_17 P 33) = Int32.toInt (M_9 P 33) := congrArg Int32.toInt ((congrFun (congrFun f_17.symm P) 33).trans (zu_ne (fun z => absurd z.2 (by decide))))
  have n_17 : nA P M_17 = nA P M_9 := nA_congr (fun a j h => (congrFun (congrFun f_17.symm a) j).trans (zu_ne (wf_nA_M0_64 h)))
  have p_jT_17 : jT P M_17 := jT.put64 p_jT_9 f_17 (by rw [z_inc (by omega)]; omega) (by have h1 : Int32.toInt (M_9 P 64) < 64 := (by rw [← f_9, zu_ne (by omega)]; exact i_1); rw [z_inc (by omega)]; omega)
  obtain ⟨u0_jT_17, u1_jT_17, u2_jT_17, u3_jT_17, u4_jT_17, u5_jT_17⟩ := id p_jT_17
  exact ⟨_, rfl, k_17, ⟨p_jT_17, (by have h1 : Int32.toInt (M_9 P 64) = Int32.toInt (M0 P 64) := (by rw [← f_9, zu_ne (by omega)]); rw [← f_17, zu_eq, z_inc (by omega), h1])⟩⟩
def WM_X8_print (P : Nat) (a j : Nat) : Prop := (P + 11 ≤ a ∧ a < P + 23) ∨ (P + 32 ≤ a ∧ a < P + 33) ∨ (a = P ∧ (j = 6 ∨ j = 12 ∨ j = 33 ∨ j = 64))
def WN_X8_print (P : Nat) (a j : Nat) : Prop := (a = P ∧ (j = 46))
theorem wz_M_X8_prints_X8_print {P a j : Nat} (h : ¬ WM_X8_print P a j) : ¬ WM_X8_prints P a j := by unfold WM_X8_prints; unfold WM_X8_print at h; omega
theorem wc_X8_prints_7 {P : Nat} : ¬ WM_X8_prints P P 7 := by unfold WM_X8_prints; omega
theorem wc_X8_prints_8 {P : Nat} : ¬ WM_X8_prints P P 8 := by unfold WM_X8_prints; omega
theorem wc_X8_prints_33 {P : Nat} : ¬ WM_X8_prints P P 33 := by unfold WM_X8_prints; omega
theorem wf_nA_X8_prints {P a j : Nat} (h : (a = P + 1 ∨ (a = P ∧ j = 8))) : ¬ WM_X8_prints P a j := by unfold WM_X8_prints; omega
theorem wf_jB_X8_prints {P a j : Nat} (h : (a = P ∧ (j = 7 ∨ j = 8 ∨ j = 33))) : ¬ WM_X8_prints P a j := by unfold WM_X8_prints; omega
theorem wf_jH_X8_prints {P a j : Nat} (h : ((a = P ∧ (j = 8 ∨ j = 33)) ∨ a = P + 11)) : ¬ WM_X8_prints P a j := by unfold WM_X8_prints; omega
theorem wf_jK_X8_prints {P a j : Nat} (h : ((a = P ∧ (j = 7 ∨ j = 8 ∨ j = 9)) ∨ a = P + 4)) : ¬ WM_X8_prints P a j := by unfold WM_X8_prints; omega
theorem wf_jL_X8_prints {P a j : Nat} (h : ((a = P ∧ j = 33) ∨ a = P + 13 ∨ a = P + 14 ∨ a = P + 17)) : ¬ WM_X8_prints P a j := by unfold WM_X8_prints; omega
theorem wf_jO_X8_prints {P a j : Nat} (h : ((a = P ∧ j = 33) ∨ a = P + 18)) : ¬ WM_X8_prints P a j := by unfold WM_X8_prints; omega
theorem wf_jR_X8_prints {P a j : Nat} (h : a = P + 19) : ¬ WM_X8_prints P a j := by unfold WM_X8_prints; omega
theorem wf_jS_X8_prints {P a j : Nat} (h : (a = P + 1 ∨ (a = P ∧ (j = 7 ∨ j = 8)))) : ¬ WM_X8_prints P a j := by unfold WM_X8_prints; omega
theorem wz_M_X8_gives_X8_print {P a j : Nat} (h : ¬ WM_X8_print P a j) : ¬ WM_X8_gives P a j := by unfold WM_X8_gives; unfold WM_X8_print at h; omega
theorem wz_M_X8_refuse_X8_print {P a j : Nat} (h : ¬ WM_X8_print P a j) : ¬ WM_X8_refuse P a j := by unfold WM_X8_refuse; unfold WM_X8_print at h; omega
theorem wz_M_X8_laysResult_X8_print {P a j : Nat} (h : ¬ WM_X8_print P a j) : ¬ WM_X8_laysResult P a j := by unfold WM_X8_laysResult; unfold WM_X8_print at h; omega
theorem wz_N_X8_laysResult_X8_print {P a j : Nat} (h : ¬ WN_X8_print P a j) : ¬ WN_X8_laysResult P a j := by unfold WN_X8_laysResult; unfold WN_X8_print at h; omega
theorem wq_X8_print_M0_64 {P a j : Nat} (h : ¬ WM_X8_print P a j) : ¬ (a = P ∧ j = 64) := by unfold WM_X8_print at h; omega
theorem wf_jS_M0_64 {P a j : Nat} (h : (a = P + 1 ∨ (a = P ∧ (j = 7 ∨ j = 8)))) : ¬ (a = P ∧ j = 64) := by omega
theorem wf_jK_M0_64 {P a j : Nat} (h : ((a = P ∧ (j = 7 ∨ j = 8 ∨ j = 9)) ∨ a = P + 4)) : ¬ (a = P ∧ j = 64) := by omega
theorem wf_jB_M0_64 {P a j : Nat} (h : (a = P ∧ (j = 7 ∨ j = 8 ∨ j = 33))) : ¬ (a = P ∧ j = 64) := by omega
theorem wf_jL_M0_64 {P a j : Nat} (h : ((a = P ∧ j = 33) ∨ a = P + 13 ∨ a = P + 14 ∨ a = P + 17)) : ¬ (a = P ∧ j = 64) := by omega
theorem wf_jH_M0_64 {P a j : Nat} (h : ((a = P ∧ (j = 8 ∨ j = 33)) ∨ a = P + 11)) : ¬ (a = P ∧ j = 64) := by omega
theorem wf_jO_M0_64 {P a j : Nat} (h : ((a = P ∧ j = 33) ∨ a = P + 18)) : ¬ (a = P ∧ j = 64) := by omega
theorem wf_jR_M0_64 {P a j : Nat} (h : a = P + 19) : ¬ (a = P ∧ j = 64) := by omega
set_option maxRecDepth 100000 in
set_option maxHeartbeats 4000000 in
theorem v_X8_print {P : Nat} {v0 : Int32} {M0 : zMt} {N0 : zNt}  (p_jB : jB P M0) (p_jS : jS P M0) (p_jR : jR P M0) (p_jK : jK P M0) (p_jT : jT P M0) : ∃ r, D_X8_print P v0 M0 N0 = some r ∧ ((∀ a j, ¬ WM_X8_print P a j → r.2.1 a j = M0 a j) ∧ (∀ a j, ¬ WN_X8_print P a j → r.2.2 a j = N0 a j) ∧ ((jB P r.2.1) ∧ (jS P r.2.1) ∧ (jR P r.2.1) ∧ (jK P r.2.1) ∧ (jT P r.2.1))) := by
  obtain ⟨u0_jB, u1_jB, u2_jB, u3_jB, u4_jB, u5_jB⟩ := id p_jB
  obtain ⟨u0_jS, u1_jS, u2_jS, u3_jS, u4_jS, u5_jS, u6_jS, u7_jS⟩ := jS.ints p_jS
  obtain ⟨u0_jT, u1_jT, u2_jT, u3_jT, u4_jT, u5_jT⟩ := id p_jT
  have TL_25 : ∀ u : Nat, ∀ (x2_25 : Int32) (M_25 : zMt) (N_25 : zNt), (∀ a j, ¬ WM_X8_print P a j → M_25 a j = M0 a j) → (∀ a j, ¬ WN_X8_print P a j → N_25 a j = N0 a j) → (jB P M_25) → (jH P M_25) → (jK P M_25) → (jL P M_25) → (jO P M_25) → (jR P M_25) → (jS P M_25) → (jT P M_25) → (0 ≤ Int32.toInt x2_25) → (Int32.toInt x2_25 ≤ 10) → (Int32.toInt (M_25 P 64) ≤ 5 * Int32.toInt x2_25) → (2147483648 - Int32.toInt x2_25).toNat < u → ∃ r, D_X8_print_25 P u x2_25 M_25 N_25 = some r ∧ ((∀ a j, ¬ WM_X8_print P a j → r.2.1 a j = M0 a j) ∧ (∀ a j, ¬ WN_X8_print P a j → r.2.2 a j = N0 a j) ∧ ((jB P r.2.1) ∧ (jS P r.2.1) ∧ (jR P r.2.1) ∧ (jK P r.2.1) ∧ (jT P r.2.1))) := by
    intro u
    induction u with
    | zero => intro x2_25 M_25 N_25 k_25 kn_25 p_jB_25 p_jH_25 p_jK_25 p_jL_25 p_jO_25 p_jR_25 p_jS_25 p_jT_25 f0_25 f1_25 f2_25 hm_25; exact absurd hm_25 (Nat.not_lt_zero _)
    | succ u_25 ih_25 =>
      have T_98 : ∀ (x2_98 : Int32) (M_98 : zMt) (N_98 : zNt), (∀ a j, ¬ WM_X8_print P a j → M_98 a j = M0 a j) → (∀ a j, ¬ WN_X8_print P a j → N_98 a j = N0 a j) → (jB P M_98) → (jH P M_98) → (jK P M_98) → (jL P M_98) → (jO P M_98) → (jR P M_98) → (jS P M_98) → (jT P M_98) → (0 ≤ Int32.toInt x2_98) → (Int32.toInt x2_98 < Int32.toInt (M_98 P 33)) → ((2147483648 - Int32.toInt x2_98).toNat < u_25 + 1) → (Int32.toInt x2_98 < 2147483647) → (Int32.toInt (M_98 P 64) ≤ 5 * Int32.toInt x2_98 + 4) → ∃ r, D_X8_print_98 P (D_X8_print_25 P u_25) x2_98 M_98 N_98 = some r ∧ ((∀ a j, ¬ WM_X8_print P a j → r.2.1 a j = M0 a j) ∧ (∀ a j, ¬ WN_X8_print P a j → r.2.2 a j = N0 a j) ∧ ((jB P r.2.1) ∧ (jS P r.2.1) ∧ (jR P r.2.1) ∧ (jK P r.2.1) ∧ (jT P r.2.1))) := by
        intro x2_98 M_98 N_98 k_98 kn_98 p_jB_98 p_jH_98 p_jK_98 p_jL_98 p_jO_98 p_jR_98 p_jS_98 p_jT_98 f0_98 f1_98 f2_98 f3_98 f4_98
        obtain ⟨u0_jB_98, u1_jB_98, u2_jB_98, u3_jB_98, u4_jB_98, u5_jB_98⟩ := id p_jB_98
        obtain ⟨u0_jS_98, u1_jS_98, u2_jS_98, u3_jS_98, u4_jS_98, u5_jS_98, u6_jS_98, u7_jS_98⟩ := jS.ints p_jS_98
        obtain ⟨u0_jT_98, u1_jT_98, u2_jT_98, u3_jT_98, u4_jT_98, u5_jT_98⟩ := id p_jT_98
        unfold D_X8_print_98
        refine vB (v_X8_prints p_jT_98 (by first | omega | (simp only [Int32.toInt_add, Int32.toInt_sub, Int32.toInt_mul, Int32.toInt_toInt64, Int64.toInt_add, z_m1, Int32.reduceToInt, Int64.reduceToInt, Int32.reduceToNatClampNeg, Int.bmod_def, or_true, true_or, and_true, true_and] <;> omega))) (fun e_101 f_101 q_101 => ?_)
        have k_101 : ∀ a j, ¬ WM_X8_print P a j → e_101 a j = M0 a j := fun a j h => (q_101.1 a j (wz_M_X8_prints_X8_print h)).trans (k_98 a j h)
        have c7_101 : Int32.toInt (e_101 P 7) = Int32.toInt (M_98 P 7) := congrArg Int32.toInt (q_101.1 P 7 (wc_X8_prints_7))
        have c8_101 : Int32.toInt (e_101 P 8) = Int32.toInt (M_98 P 8) := congrArg Int32.toInt (q_101.1 P 8 (wc_X8_prints_8))
        have c33_101 : Int32.toInt (e_101 P 33) = Int32.toInt (M_98 P 33) := congrArg Int32.toInt (q_101.1 P 33 (wc_X8_prints_33))
        have n_101 : nA P e_101 = nA P M_98 := nA_congr (fun a j h => q_101.1 a j (wf_nA_X8_prints h))
        have p_jB_101 : jB P e_101 := jB.mono p_jB_98 (fun a j h => q_101.1 a j (wf_jB_X8_prints h))
        obtain ⟨u0_jB_101, u1_jB_101, u2_jB_101, u3_jB_101, u4_jB_101, u5_jB_101⟩ := id p_jB_101
        have p_jH_101 : jH P e_101 := jH.mono p_jH_98 (fun a j h => q_101.1 a j (wf_jH_X8_prints h))
        have p_jK_101 : jK P e_101 := jK.mono p_jK_98 (fun a j h => q_101.1 a j (wf_jK_X8_prints h))
        have p_jL_101 : jL P e_101 := jL.mono p_jL_98 (fun a j h => q_101.1 a j (wf_jL_X8_prints h))
        have p_jO_101 : jO P e_101 := jO.mono p_jO_98 (fun a j h => q_101.1 a j (wf_jO_X8_prints h))
        have p_jR_101 : jR P e_101 := jR.mono p_jR_98 (fun a j h => q_101.1 a j (wf_jR_X8_prints h))
        have p_jS_101 : jS P e_101 := jS.mono p_jS_98 (fun a j h => q_101.1 a j (wf_jS_X8_prints h))
        obtain ⟨u0_jS_101, u1_jS_101, u2_jS_101, u3_jS_101, u4_jS_101, u5_jS_101, u6_jS_101, u7_jS_101⟩ := jS.ints p_jS_101
        obtain ⟨x0_101, x1_101⟩ := q_101.2
        obtain ⟨u0_jT_101, u1_jT_101, u2_jT_101, u3_jT_101, u4_jT_101, u5_jT_101⟩ := id x0_101
        (try simp only [Int32.toInt_add, Int32.toInt_sub, Int32.toInt_mul, Int32.toInt_toInt64, Int64.toInt_add, z_m1, Int32.reduceToInt, Int64.reduceToInt, Int32.reduceToNatClampNeg, Int.bmod_def] at x1_101)
        exact ih_25 _ _ _ k_101 kn_98 p_jB_101 p_jH_101 p_jK_101 p_jL_101 p_jO_101 p_jR_101 p_jS_101 x0_101 (by first | omega | (simp only [Int32.toInt_add, Int32.toInt_sub, Int32.toInt_mul, Int32.toInt_toInt64, Int64.toInt_add, z_m1, Int32.reduceToInt, Int64.reduceToInt, Int32.reduceToNatClampNeg, Int.bmod_def, or_true, true_or, and_true, true_and] <;> omega)) (by first | omega | (simp only [Int32.toInt_add, Int32.toInt_sub, Int32.toInt_mul, Int32.toInt_toInt64, Int64.toInt_add, z_m1, Int32.reduceToInt, Int64.reduceToInt, Int32.reduceToNatClampNeg, Int.bmod_def, or_true, true_or, and_true, true_and] <;> omega)) (by first | (rw [← f_20, zu_eq]; decide) | exact (by first | omega | (simp only [Int32.toInt_add, Int32.toInt_sub, Int32.toInt_mul, Int32.toInt_toInt64, Int64.toInt_add, z_m1, Int32.reduceToInt, Int64.reduceToInt, Int32.reduceToNatClampNeg, Int.bmod_def, or_true, true_or, and_true, true_and] <;> omega))) (z_up1 f3_98 f2_98)
      have T_79 : ∀ (x2_79 : Int32) (x3_79 : Int32) (y1_79 : Int32) (M_79 : zMt) (N_79 : zNt), (∀ a j, ¬ WM_X8_print P a j → M_79 a j = M0 a j) → (∀ a j, ¬ WN_X8_print P a j → N_79 a j = N0 a j) → (jB P M_79) → (jH P M_79) → (jK P M_79) → (jL P M_79) → (jO P M_79) → (jR P M_79) → (jS P M_79) → (jT P M_79) → (0 ≤ Int32.toInt x2_79) → (Int32.toInt x2_79 < Int32.toInt (M_79 P 33)) → ((2147483648 - Int32.toInt x2_79).toNat < u_25 + 1) → (Int32.toInt x2_79 < 2147483647) → (Int32.toInt (M_79 P 64) ≤ 5 * Int32.toInt x2_79 + 2) → (0 ≤ Int32.toInt x3_79 ∧ Int32.toInt x3_79 < Int32.toInt (M_79 P 33)) → ∃ r, D_X8_print_79 P (D_X8_print_25 P u_25) x2_79 x3_79 y1_79 M_79 N_79 = some r ∧ ((∀ a j, ¬ WM_X8_print P a j → r.2.1 a j = M0 a j) ∧ (∀ a j, ¬ WN_X8_print P a j → r.2.2 a j = N0 a j) ∧ ((jB P r.2.1) ∧ (jS P r.2.1) ∧ (jR P r.2.1) ∧ (jK P r.2.1) ∧ (jT P r.2.1))) := by
        intro x2_79 x3_79 y1_79 M_79 N_79 k_79 kn_79 p_jB_79 p_jH_79 p_jK_79 p_jL_79 p_jO_79 p_jR_79 p_jS_79 p_jT_79 f0_79 f1_79 f2_79 f3_79 f4_79 f5_79
        obtain ⟨u0_jB_79, u1_jB_79, u2_jB_79, u3_jB_79, u4_jB_79, u5_jB_79⟩ := id p_jB_79
        obtain ⟨u0_jS_79, u1_jS_79, u2_jS_79, u3_jS_79, u4_jS_79, u5_jS_79, u6_jS_79, u7_jS_79⟩ := jS.ints p_jS_79
        obtain ⟨u0_jT_79, u1_jT_79, u2_jT_79, u3_jT_79, u4_jT_79, u5_jT_79⟩ := id p_jT_79
        unfold D_X8_print_79
        refine vB (v_X8_prints p_jT_79 (by first | omega | (simp only [Int32.toInt_add, Int32.toInt_sub, Int32.toInt_mul, Int32.toInt_toInt64, Int64.toInt_add, z_m1, Int32.reduceToInt, Int64.reduceToInt, Int32.reduceToNatClampNeg, Int.bmod_def, or_true, true_or, and_true, true_and] <;> omega))) (fun e_79 f_79 q_79 => ?_)
        have k_79 : ∀ a j, ¬ WM_X8_print P a j → e_79 a j = M0 a j := fun a j h => (q_79.1 a j (wz_M_X8_prints_X8_print h)).trans (k_79 a j h)
        have c7_79 : Int32.toInt (e_79 P 7) = Int32.toInt (M_79 P 7) := congrArg Int32.toInt (q_79.1 P 7 (wc_X8_prints_7))
        have c8_79 : Int32.toInt (e_79 P 8) = Int32.toInt (M_79 P 8) := congrArg Int32.toInt (q_79.1 P 8 (wc_X8_prints_8))
        have c33_79 : Int32.toInt (e_79 P 33) = Int32.toInt (M_79 P 33) := congrArg Int32.toInt (q_79.1 P 33 (wc_X8_prints_33))
        have n_79 : nA P e_79 = nA P M_79 := nA_congr (fun a j h => q_79.1 a j (wf_nA_X8_prints h))
        have p_jB_79 : jB P e_79 := jB.mono p_jB_79 (fun a j h => q_79.1 a j (wf_jB_X8_prints h))
        obtain ⟨u0_jB_79, u1_jB_79, u2_jB_79, u3_jB_79, u4_jB_79, u5_jB_79⟩ := id p_jB_79
        have p_jH_79 : jH P e_79 := jH.mono p_jH_79 (fun a j h => q_79.1 a j (wf_jH_X8_prints h))
        have p_jK_79 : jK P e_79 := jK.mono p_jK_79 (fun a j h => q_79.1 a j (wf_jK_X8_prints h))
        have p_jL_79 : jL P e_79 := jL.mono p_jL_79 (fun a j h => q_79.1 a j (wf_jL_X8_prints h))
        have p_jO_79 : jO P e_79 := jO.mono p_jO_79 (fun a j h => q_79.1 a j (wf_jO_X8_prints h))
        have p_jR_79 : jR P e_79 := jR.mono p_jR_79 (fun a j h => q_79.1 a j (wf_jR_X8_prints h))
        have p_jS_79 : jS P e_79 := jS.mono p_jS_79 (fun a j h => q_79.1 a j (wf_jS_X8_prints h))
        obtain ⟨u0_jS_79, u1_jS_79, u2_jS_79, u3_jS_79, u4_jS_79, u5_jS_79, u6_jS_79, u7_jS_79⟩ := jS.ints p_jS_79
        obtain ⟨x0_79, x1_79⟩ := q_79.2
        obtain ⟨u0_jT_79, u1_jT_79, u2_jT_79, u3_jT_79, u4_jT_79, u5_jT_79⟩ := id x0_79
        (try simp only [Int32.toInt_add, Int32.toInt_sub, Int32.toInt_mul, Int32.toInt_toInt64, Int64.toInt_add, z_m1, Int32.reduceToInt, Int64.reduceToInt, Int32.reduceToNatClampNeg, Int.bmod_def] at x1_79)
        refine vI (vp_of (by first | omega | (simp only [Int32.toInt_add, Int32.toInt_sub, Int32.toInt_mul, Int32.toInt_toInt64, Int64.toInt_add, z_m1, Int32.reduceToInt, Int64.reduceToInt, Int32.reduceToNatClampNeg, Int.bmod_def, or_true, true_or, and_true, true_and] <;> omega)) (by first | omega | (simp only [Int32.toInt_add, Int32.toInt_sub, Int32.toInt_mul, Int32.toInt_toInt64, Int64.toInt_add, z_m1, Int32.reduceToInt, Int64.reduceToInt, Int32.reduceToNatClampNeg, Int.bmod_def, or_true, true_or, and_true, true_and] <;> omega))) ?_
        refine vIf (fun h_89 => ?_) (fun h_89 => ?_)
        · have i_89 := congrArg Int32.toInt h_89
          (try simp only [Int32.toInt_add, Int32.toInt_sub, Int32.toInt_mul, Int32.toInt_toInt64, Int64.toInt_add, z_m1, Int32.reduceToInt, Int64.reduceToInt, Int32.reduceToNatClampNeg, Int.bmod_def] at i_89)
          refine vB (v_X8_prints x0_79 (by first | omega | (simp only [Int32.toInt_add, Int32.toInt_sub, Int32.toInt_mul, Int32.toInt_toInt64, Int64.toInt_add, z_m1, Int32.reduceToInt, Int64.reduceToInt, Int32.reduceToNatClampNeg, Int.bmod_def, or_true, true_or, and_true, true_and] <;> omega))) (fun e_95 f_95 q_95 => ?_)
          have k_95 : ∀ a j, ¬ WM_X8_print P a j → e_95 a j = M0 a j := fun a j h => (q_95.1 a j (wz_M_X8_prints_X8_print h)).trans (k_79 a j h)
          have c7_95 : Int32.toInt (e_95 P 7) = Int32.toInt (e_79 P 7) := congrArg Int32.toInt (q_95.1 P 7 (wc_X8_prints_7))
          have c8_95 : Int32.toInt (e_95 P 8) = Int32.toInt (e_79 P 8) := congrArg Int32.toInt (q_95.1 P 8 (wc_X8_prints_8))
          have c33_95 : Int32.toInt (e_95 P 33) = Int32.toInt (e_79 P 33) := congrArg Int32.toInt (q_95.1 P 33 (wc_X8_prints_33))
          have n_95 : nA P e_95 = nA P e_79 := nA_congr (fun a j h => q_95.1 a j (wf_nA_X8_prints h))
          have p_jB_95 : jB P e_95 := jB.mono p_jB_79 (fun a j h => q_95.1 a j (wf_jB_X8_prints h))
          obtain ⟨u0_jB_95, u1_jB_95, u2_jB_95, u3_jB_95, u4_jB_95, u5_jB_95⟩ := id p_jB_95
          have p_jH_95 : jH P e_95 := jH.mono p_jH_79 (fun a j h => q_95.1 a j (wf_jH_X8_prints h))
          have p_jK_95 : jK P e_95 := jK.mono p_jK_79 (fun a j h => q_95.1 a j (wf_jK_X8_prints h))
          have p_jL_95 : jL P e_95 := jL.mono p_jL_79 (fun a j h => q_95.1 a j (wf_jL_X8_prints h))
          have p_jO_95 : jO P e_95 := jO.mono p_jO_79 (fun a j h => q_95.1 a j (wf_jO_X8_prints h))
          have p_jR_95 : jR P e_95 := jR.mono p_jR_79 (fun a j h => q_95.1 a j (wf_jR_X8_prints h))
          have p_jS_95 : jS P e_95 := jS.mono p_jS_79 (fun a j h => q_95.1 a j (wf_jS_X8_prints h))
          obtain ⟨u0_jS_95, u1_jS_95, u2_jS_95, u3_jS_95, u4_jS_95, u5_jS_95, u6_jS_95, u7_jS_95⟩ := jS.ints p_jS_95
          obtain ⟨x0_95, x1_95⟩ := q_95.2
          obtain ⟨u0_jT_95, u1_jT_95, u2_jT_95, u3_jT_95, u4_jT_95, u5_jT_95⟩ := id x0_95
          (try simp only [Int32.toInt_add, Int32.toInt_sub, Int32.toInt_mul, Int32.toInt_toInt64, Int64.toInt_add, z_m1, Int32.reduceToInt, Int64.reduceToInt, Int32.reduceToNatClampNeg, Int.bmod_def] at x1_95)
          exact T_98 _ _ _ k_95 kn_79 p_jB_95 p_jH_95 p_jK_95 p_jL_95 p_jO_95 p_jR_95 p_jS_95 x0_95 (by first | omega | (simp only [Int32.toInt_add, Int32.toInt_sub, Int32.toInt_mul, Int32.toInt_toInt64, Int64.toInt_add, z_m1, Int32.reduceToInt, Int64.reduceToInt, Int32.reduceToNatClampNeg, Int.bmod_def, or_true, true_or, and_true, true_and] <;> omega)) (by first | omega | (simp only [Int32.toInt_add, Int32.toInt_sub, Int32.toInt_mul, Int32.toInt_toInt64, Int64.toInt_add, z_m1, Int32.reduceToInt, Int64.reduceToInt, Int32.reduceToNatClampNeg, Int.bmod_def, or_true, true_or, and_true, true_and] <;> omega)) f2_79 f3_79 (by first | omega | (simp only [Int32.toInt_add, Int32.toInt_sub, Int32.toInt_mul, Int32.toInt_toInt64, Int64.toInt_add, z_m1, Int32.reduceToInt, Int64.reduceToInt, Int32.reduceToNatClampNeg, Int.bmod_def, or_true, true_or, and_true, true_and] <;> omega))
        · have i_89 : ¬ Int32.toInt (e_79 (P + 20) x3_79.toNatClampNeg) = Int32.toInt (1 : Int32) := fun q => h_89 (Int32.toInt_inj.mp q)
          (try simp only [Int32.toInt_add, Int32.toInt_sub, Int32.toInt_mul, Int32.toInt_toInt64, Int64.toInt_add, z_m1, Int32.reduceToInt, Int64.reduceToInt, Int32.reduceToNatClampNeg, Int.bmod_def] at i_89)
          exact T_98 _ _ _ k_79 kn_79 p_jB_79 p_jH_79 p_jK_79 p_jL_79 p_jO_79 p_jR_79 p_jS_79 x0_79 (by first | omega | (simp only [Int32.toInt_add, Int32.toInt_sub, Int32.toInt_mul, Int32.toInt_toInt64, Int64.toInt_add, z_m1, Int32.reduceToInt, Int64.reduceToInt, Int32.reduceToNatClampNeg, Int.bmod_def, or_true, true_or, and_true, true_and] <;> omega)) (by first | omega | (simp only [Int32.toInt_add, Int32.toInt_sub, Int32.toInt_mul, Int32.toInt_toInt64, Int64.toInt_add, z_m1, Int32.reduceToInt, Int64.reduceToInt, Int32.reduceToNatClampNeg, Int.bmod_def, or_true, true_or, and_true, true_and] <;> omega)) f2_79 f3_79 (by first | omega | (simp only [Int32.toInt_add, Int32.toInt_sub, Int32.toInt_mul, Int32.toInt_toInt64, Int64.toInt_add, z_m1, Int32.reduceToInt, Int64.reduceToInt, Int32.reduceToNatClampNeg, Int.bmod_def, or_true, true_or, and_true, true_and] <;> omega))
      intro x2_25 M_25 N_25 k_25 kn_25 p_jB_25 p_jH_25 p_jK_25 p_jL_25 p_jO_25 p_jR_25 p_jS_25 p_jT_25 f0_25 f1_25 f2_25 hm_25
      obtain ⟨u0_jB_25, u1_jB_25, u2_jB_25, u3_jB_25, u4_jB_25, u5_jB_25⟩ := id p_jB_25
      obtain ⟨u0_jS_25, u1_jS_25, u2_jS_25, u3_jS_25, u4_jS_25, u5_jS_25, u6_jS_25, u7_jS_25⟩ := jS.ints p_jS_25
      obtain ⟨u0_jT_25, u1_jT_25, u2_jT_25, u3_jT_25, u4_jT_25, u5_jT_25⟩ := id p_jT_25
      rw [D_X8_print_25]
      refine vIf (fun h_30 => ?_) (fun h_30 => ?_)
      · have i_30 := Int32.le_iff_toInt_le.mp h_30
        (try simp only [Int32.toInt_add, Int32.toInt_sub, Int32.toInt_mul, Int32.toInt_toInt64, Int64.toInt_add, z_m1, Int32.reduceToInt, Int64.reduceToInt, Int32.reduceToNatClampNeg, Int.bmod_def] at i_30)
        refine vB (v_X8_gives) (fun e_115 f_115 q_115 => ?_)
        have k_115 : ∀ a j, ¬ WM_X8_print P a j → e_115.2 a j = M0 a j := fun a j h => (q_115 a j (wz_M_X8_gives_X8_print h)).trans (k_25 a j h)
        have c7_115 : Int32.toInt (e_115.2 P 7) = Int32.toInt (M_25 P 7) := congrArg Int32.toInt (q_115 P 7 (wc_X8_gives_7))
        have c8_115 : Int32.toInt (e_115.2 P 8) = Int32.toInt (M_25 P 8) := congrArg Int32.toInt (q_115 P 8 (wc_X8_gives_8))
        have c33_115 : Int32.toInt (e_115.2 P 33) = Int32.toInt (M_25 P 33) := congrArg Int32.toInt (q_115 P 33 (wc_X8_gives_33))
        have n_115 : nA P e_115.2 = nA P M_25 := nA_congr (fun a j h => q_115 a j (wf_nA_X8_gives h))
        have p_jB_115 : jB P e_115.2 := jB.mono p_jB_25 (fun a j h => q_115 a j (wf_jB_X8_gives h))
        obtain ⟨u0_jB_115, u1_jB_115, u2_jB_115, u3_jB_115, u4_jB_115, u5_jB_115⟩ := id p_jB_115
        have p_jH_115 : jH P e_115.2 := jH.mono p_jH_25 (fun a j h => q_115 a j (wf_jH_X8_gives h))
        have p_jK_115 : jK P e_115.2 := jK.mono p_jK_25 (fun a j h => q_115 a j (wf_jK_X8_gives h))
        have p_jL_115 : jL P e_115.2 := jL.mono p_jL_25 (fun a j h => q_115 a j (wf_jL_X8_gives h))
        have p_jO_115 : jO P e_115.2 := jO.mono p_jO_25 (fun a j h => q_115 a j (wf_jO_X8_gives h))
        have p_jR_115 : jR P e_115.2 := jR.mono p_jR_25 (fun a j h => q_115 a j (wf_jR_X8_gives h))
        have p_jS_115 : jS P e_115.2 := jS.mono p_jS_25 (fun a j h => q_115 a j (wf_jS_X8_gives h))
        obtain ⟨u0_jS_115, u1_jS_115, u2_jS_115, u3_jS_115, u4_jS_115, u5_jS_115, u6_jS_115, u7_jS_115⟩ := jS.ints p_jS_115
        have p_jT_115 : jT P e_115.2 := jT.mono p_jT_25 (fun a j h => q_115 a j (wf_jT_X8_gives h))
        obtain ⟨u0_jT_115, u1_jT_115, u2_jT_115, u3_jT_115, u4_jT_115, u5_jT_115⟩ := id p_jT_115
        exact ⟨_, rfl, k_115, kn_25, ⟨p_jB_115, p_jS_115, p_jR_115, p_jK_115, p_jT_115⟩⟩
      · have i_30 := Int32.lt_iff_toInt_lt.mp (Int32.not_le.mp h_30)
        (try simp only [Int32.toInt_add, Int32.toInt_sub, Int32.toInt_mul, Int32.toInt_toInt64, Int64.toInt_add, z_m1, Int32.reduceToInt, Int64.reduceToInt, Int32.reduceToNatClampNeg, Int.bmod_def] at i_30)
        refine vI (vp_of (by first | omega | (simp only [Int32.toInt_add, Int32.toInt_sub, Int32.toInt_mul, Int32.toInt_toInt64, Int64.toInt_add, z_m1, Int32.reduceToInt, Int64.reduceToInt, Int32.reduceToNatClampNeg, Int.bmod_def, or_true, true_or, and_true, true_and] <;> omega)) (by first | omega | (simp only [Int32.toInt_add, Int32.toInt_sub, Int32.toInt_mul, Int32.toInt_toInt64, Int64.toInt_add, z_m1, Int32.reduceToInt, Int64.reduceToInt, Int32.reduceToNatClampNeg, Int.bmod_def, or_true, true_or, and_true, true_and] <;> omega))) ?_
        obtain ⟨w0_38, w1_38⟩ := jO.el p_jO_25 (x := x2_25) (by first | omega | (simp only [Int32.toInt_add, Int32.toInt_sub, Int32.toInt_mul, Int32.toInt_toInt64, Int64.toInt_add, z_m1, Int32.reduceToInt, Int64.reduceToInt, Int32.reduceToNatClampNeg, Int.bmod_def, or_true, true_or, and_true, true_and] <;> omega)) (by first | omega | (simp only [Int32.toInt_add, Int32.toInt_sub, Int32.toInt_mul, Int32.toInt_toInt64, Int64.toInt_add, z_m1, Int32.reduceToInt, Int64.reduceToInt, Int32.reduceToNatClampNeg, Int.bmod_def, or_true, true_or, and_true, true_and] <;> omega))
        refine vB (v_X8_prints p_jT_25 (by first | omega | (simp only [Int32.toInt_add, Int32.toInt_sub, Int32.toInt_mul, Int32.toInt_toInt64, Int64.toInt_add, z_m1, Int32.reduceToInt, Int64.reduceToInt, Int32.reduceToNatClampNeg, Int.bmod_def, or_true, true_or, and_true, true_and] <;> omega))) (fun e_45 f_45 q_45 => ?_)
        have k_45 : ∀ a j, ¬ WM_X8_print P a j → e_45 a j = M0 a j := fun a j h => (q_45.1 a j (wz_M_X8_prints_X8_print h)).trans (k_25 a j h)
        have c7_45 : Int32.toInt (e_45 P 7) = Int32.toInt (M_25 P 7) := congrArg Int32.toInt (q_45.1 P 7 (wc_X8_prints_7))
        have c8_45 : Int32.toInt (e_45 P 8) = Int32.toInt (M_25 P 8) := congrArg Int32.toInt (q_45.1 P 8 (wc_X8_prints_8))
        have c33_45 : Int32.toInt (e_45 P 33) = Int32.toInt (M_25 P 33) := congrArg Int32.toInt (q_45.1 P 33 (wc_X8_prints_33))
        have n_45 : nA P e_45 = nA P M_25 := nA_congr (fun a j h => q_45.1 a j (wf_nA_X8_prints h))
        have p_jB_45 : jB P e_45 := jB.mono p_jB_25 (fun a j h => q_45.1 a j (wf_jB_X8_prints h))
        obtain ⟨u0_jB_45, u1_jB_45, u2_jB_45, u3_jB_45, u4_jB_45, u5_jB_45⟩ := id p_jB_45
        have p_jH_45 : jH P e_45 := jH.mono p_jH_25 (fun a j h => q_45.1 a j (wf_jH_X8_prints h))
        have p_jK_45 : jK P e_45 := jK.mono p_jK_25 (fun a j h => q_45.1 a j (wf_jK_X8_prints h))
        have p_jL_45 : jL P e_45 := jL.mono p_jL_25 (fun a j h => q_45.1 a j (wf_jL_X8_prints h))
        have p_jO_45 : jO P e_45 := jO.mono p_jO_25 (fun a j h => q_45.1 a j (wf_jO_X8_prints h))
        have p_jR_45 : jR P e_45 := jR.mono p_jR_25 (fun a j h => q_45.1 a j (wf_jR_X8_prints h))
        have p_jS_45 : jS P e_45 := jS.mono p_jS_25 (fun a j h => q_45.1 a j (wf_jS_X8_prints h))
        obtain ⟨u0_jS_45, u1_jS_45, u2_jS_45, u3_jS_45, u4_jS_45, u5_jS_45, u6_jS_45, u7_jS_45⟩ := jS.ints p_jS_45
        obtain ⟨x0_45, x1_45⟩ := q_45.2
        obtain ⟨u0_jT_45, u1_jT_45, u2_jT_45, u3_jT_45, u4_jT_45, u5_jT_45⟩ := id x0_45
        (try simp only [Int32.toInt_add, Int32.toInt_sub, Int32.toInt_mul, Int32.toInt_toInt64, Int64.toInt_add, z_m1, Int32.reduceToInt, Int64.reduceToInt, Int32.reduceToNatClampNeg, Int.bmod_def] at x1_45)
        refine vB (v_X8_prints x0_45 (by first | omega | (simp only [Int32.toInt_add, Int32.toInt_sub, Int32.toInt_mul, Int32.toInt_toInt64, Int64.toInt_add, z_m1, Int32.reduceToInt, Int64.reduceToInt, Int32.reduceToNatClampNeg, Int.bmod_def, or_true, true_or, and_true, true_and] <;> omega))) (fun e_51 f_51 q_51 => ?_)
        have k_51 : ∀ a j, ¬ WM_X8_print P a j → e_51 a j = M0 a j := fun a j h => (q_51.1 a j (wz_M_X8_prints_X8_print h)).trans (k_45 a j h)
        have c7_51 : Int32.toInt (e_51 P 7) = Int32.toInt (e_45 P 7) := congrArg Int32.toInt (q_51.1 P 7 (wc_X8_prints_7))
        have c8_51 : Int32.toInt (e_51 P 8) = Int32.toInt (e_45 P 8) := congrArg Int32.toInt (q_51.1 P 8 (wc_X8_prints_8))
        have c33_51 : Int32.toInt (e_51 P 33) = Int32.toInt (e_45 P 33) := congrArg Int32.toInt (q_51.1 P 33 (wc_X8_prints_33))
        have n_51 : nA P e_51 = nA P e_45 := nA_congr (fun a j h => q_51.1 a j (wf_nA_X8_prints h))
        have p_jB_51 : jB P e_51 := jB.mono p_jB_45 (fun a j h => q_51.1 a j (wf_jB_X8_prints h))
        obtain ⟨u0_jB_51, u1_jB_51, u2_jB_51, u3_jB_51, u4_jB_51, u5_jB_51⟩ := id p_jB_51
        have p_jH_51 : jH P e_51 := jH.mono p_jH_45 (fun a j h => q_51.1 a j (wf_jH_X8_prints h))
        have p_jK_51 : jK P e_51 := jK.mono p_jK_45 (fun a j h => q_51.1 a j (wf_jK_X8_prints h))
        have p_jL_51 : jL P e_51 := jL.mono p_jL_45 (fun a j h => q_51.1 a j (wf_jL_X8_prints h))
        have p_jO_51 : jO P e_51 := jO.mono p_jO_45 (fun a j h => q_51.1 a j (wf_jO_X8_prints h))
        have p_jR_51 : jR P e_51 := jR.mono p_jR_45 (fun a j h => q_51.1 a j (wf_jR_X8_prints h))
        have p_jS_51 : jS P e_51 := jS.mono p_jS_45 (fun a j h => q_51.1 a j (wf_jS_X8_prints h))
        obtain ⟨u0_jS_51, u1_jS_51, u2_jS_51, u3_jS_51, u4_jS_51, u5_jS_51, u6_jS_51, u7_jS_51⟩ := jS.ints p_jS_51
        obtain ⟨x0_51, x1_51⟩ := q_51.2
        obtain ⟨u0_jT_51, u1_jT_51, u2_jT_51, u3_jT_51, u4_jT_51, u5_jT_51⟩ := id x0_51
        (try simp only [Int32.toInt_add, Int32.toInt_sub, Int32.toInt_mul, Int32.toInt_toInt64, Int64.toInt_add, z_m1, Int32.reduceToInt, Int64.reduceToInt, Int32.reduceToNatClampNeg, Int.bmod_def] at x1_51)
        refine vI (vp_of (by first | omega | (simp only [Int32.toInt_add, Int32.toInt_sub, Int32.toInt_mul, Int32.toInt_toInt64, Int64.toInt_add, z_m1, Int32.reduceToInt, Int64.reduceToInt, Int32.reduceToNatClampNeg, Int.bmod_def, or_true, true_or, and_true, true_and] <;> omega)) (by first | omega | (simp only [Int32.toInt_add, Int32.toInt_sub, Int32.toInt_mul, Int32.toInt_toInt64, Int64.toInt_add, z_m1, Int32.reduceToInt, Int64.reduceToInt, Int32.reduceToNatClampNeg, Int.bmod_def, or_true, true_or, and_true, true_and] <;> omega))) ?_
        obtain ⟨w0_60, w1_60⟩ := jR.el p_jR_51 (x := (M_25 (P + 18) x2_25.toNatClampNeg)) (by first | omega | (simp only [Int32.toInt_add, Int32.toInt_sub, Int32.toInt_mul, Int32.toInt_toInt64, Int64.toInt_add, z_m1, Int32.reduceToInt, Int64.reduceToInt, Int32.reduceToNatClampNeg, Int.bmod_def, or_true, true_or, and_true, true_and] <;> omega)) (by first | omega | (simp only [Int32.toInt_add, Int32.toInt_sub, Int32.toInt_mul, Int32.toInt_toInt64, Int64.toInt_add, z_m1, Int32.reduceToInt, Int64.reduceToInt, Int32.reduceToNatClampNeg, Int.bmod_def, or_true, true_or, and_true, true_and] <;> omega))
        refine vIf (fun h_62 => ?_) (fun h_62 => ?_)
        · have i_62 := congrArg Int32.toInt h_62
          (try simp only [Int32.toInt_add, Int32.toInt_sub, Int32.toInt_mul, Int32.toInt_toInt64, Int64.toInt_add, z_m1, Int32.reduceToInt, Int64.reduceToInt, Int32.reduceToNatClampNeg, Int.bmod_def] at i_62)
          exact T_79 _ _ _ _ _ k_51 kn_25 p_jB_51 p_jH_51 p_jK_51 p_jL_51 p_jO_51 p_jR_51 p_jS_51 x0_51 (by first | omega | (simp only [Int32.toInt_add, Int32.toInt_sub, Int32.toInt_mul, Int32.toInt_toInt64, Int64.toInt_add, z_m1, Int32.reduceToInt, Int64.reduceToInt, Int32.reduceToNatClampNeg, Int.bmod_def, or_true, true_or, and_true, true_and] <;> omega)) (by first | omega | (simp only [Int32.toInt_add, Int32.toInt_sub, Int32.toInt_mul, Int32.toInt_toInt64, Int64.toInt_add, z_m1, Int32.reduceToInt, Int64.reduceToInt, Int32.reduceToNatClampNeg, Int.bmod_def, or_true, true_or, and_true, true_and] <;> omega)) hm_25 (by first | assumption | exact z_lt (by assumption) | exact z_lt2 (by assumption) | exact z_lt3 (by assumption) (by first | assumption | decide)) (by first | omega | (simp only [Int32.toInt_add, Int32.toInt_sub, Int32.toInt_mul, Int32.toInt_toInt64, Int64.toInt_add, z_m1, Int32.reduceToInt, Int64.reduceToInt, Int32.reduceToNatClampNeg, Int.bmod_def, or_true, true_or, and_true, true_and] <;> omega)) (by first | omega | (simp only [Int32.toInt_add, Int32.toInt_sub, Int32.toInt_mul, Int32.toInt_toInt64, Int64.toInt_add, z_m1, Int32.reduceToInt, Int64.reduceToInt, Int32.reduceToNatClampNeg, Int.bmod_def, or_true, true_or, and_true, true_and] <;> omega))
        · have i_62 : ¬ Int32.toInt (e_51 (P + 19) (M_25 (P + 18) x2_25.toNatClampNeg).toNatClampNeg) = Int32.toInt (-1 : Int32) := fun q => h_62 (Int32.toInt_inj.mp q)
          (try simp only [Int32.toInt_add, Int32.toInt_sub, Int32.toInt_mul, Int32.toInt_toInt64, Int64.toInt_add, z_m1, Int32.reduceToInt, Int64.reduceToInt, Int32.reduceToNatClampNeg, Int.bmod_def] at i_62)
          refine vI (vp_of (by first | omega | (simp only [Int32.toInt_add, Int32.toInt_sub, Int32.toInt_mul, Int32.toInt_toInt64, Int64.toInt_add, z_m1, Int32.reduceToInt, Int64.reduceToInt, Int32.reduceToNatClampNeg, Int.bmod_def, or_true, true_or, and_true, true_and] <;> omega)) (by first | omega | (simp only [Int32.toInt_add, Int32.toInt_sub, Int32.toInt_mul, Int32.toInt_toInt64, Int64.toInt_add, z_m1, Int32.reduceToInt, Int64.reduceToInt, Int32.reduceToNatClampNeg, Int.bmod_def, or_true, true_or, and_true, true_and] <;> omega))) ?_
          obtain ⟨w0_77, w1_77⟩ := jR.el p_jR_51 (x := (M_25 (P + 18) x2_25.toNatClampNeg)) (by first | omega | (simp only [Int32.toInt_add, Int32.toInt_sub, Int32.toInt_mul, Int32.toInt_toInt64, Int64.toInt_add, z_m1, Int32.reduceToInt, Int64.reduceToInt, Int32.reduceToNatClampNeg, Int.bmod_def, or_true, true_or, and_true, true_and] <;> omega)) (by first | omega | (simp only [Int32.toInt_add, Int32.toInt_sub, Int32.toInt_mul, Int32.toInt_toInt64, Int64.toInt_add, z_m1, Int32.reduceToInt, Int64.reduceToInt, Int32.reduceToNatClampNeg, Int.bmod_def, or_true, true_or, and_true, true_and] <;> omega))
          exact T_79 _ _ _ _ _ k_51 kn_25 p_jB_51 p_jH_51 p_jK_51 p_jL_51 p_jO_51 p_jR_51 p_jS_51 x0_51 (by first | omega | (simp only [Int32.toInt_add, Int32.toInt_sub, Int32.toInt_mul, Int32.toInt_toInt64, Int64.toInt_add, z_m1, Int32.reduceToInt, Int64.reduceToInt, Int32.reduceToNatClampNeg, Int.bmod_def, or_true, true_or, and_true, true_and] <;> omega)) (by first | omega | (simp only [Int32.toInt_add, Int32.toInt_sub, Int32.toInt_mul, Int32.toInt_toInt64, Int64.toInt_add, z_m1, Int32.reduceToInt, Int64.reduceToInt, Int32.reduceToNatClampNeg, Int.bmod_def, or_true, true_or, and_true, true_and] <;> omega)) hm_25 (by first | assumption | exact z_lt (by assumption) | exact z_lt2 (by assumption) | exact z_lt3 (by assumption) (by first | assumption | decide)) (by first | omega | (simp only [Int32.toInt_add, Int32.toInt_sub, Int32.toInt_mul, Int32.toInt_toInt64, Int64.toInt_add, z_m1, Int32.reduceToInt, Int64.reduceToInt, Int32.reduceToNatClampNeg, Int.bmod_def, or_true, true_or, and_true, true_and] <;> omega)) (by first | omega | (simp only [Int32.toInt_add, Int32.toInt_sub, Int32.toInt_mul, Int32.toInt_toInt64, Int64.toInt_add, z_m1, Int32.reduceToInt, Int64.reduceToInt, Int32.reduceToNatClampNeg, Int.bmod_def, or_true, true_or, and_true, true_and] <;> omega))
  have T_25 : ∀ (x2_25 : Int32) (M_25 : zMt) (N_25 : zNt), (∀ a j, ¬ WM_X8_print P a j → M_25 a j = M0 a j) → (∀ a j, ¬ WN_X8_print P a j → N_25 a j = N0 a j) → (jB P M_25) → (jH P M_25) → (jK P M_25) → (jL P M_25) → (jO P M_25) → (jR P M_25) → (jS P M_25) → (jT P M_25) → (0 ≤ Int32.toInt x2_25) → (Int32.toInt x2_25 ≤ 10) → (Int32.toInt (M_25 P 64) ≤ 5 * Int32.toInt x2_25) → ∃ r, D_X8_print_25 P zFu x2_25 M_25 N_25 = some r ∧ ((∀ a j, ¬ WM_X8_print P a j → r.2.1 a j = M0 a j) ∧ (∀ a j, ¬ WN_X8_print P a j → r.2.2 a j = N0 a j) ∧ ((jB P r.2.1) ∧ (jS P r.2.1) ∧ (jR P r.2.1) ∧ (jK P r.2.1) ∧ (jT P r.2.1))) := fun x2_25 M_25 N_25 k_25 kn_25 p_jB_25 p_jH_25 p_jK_25 p_jL_25 p_jO_25 p_jR_25 p_jS_25 p_jT_25 f0_25 f1_25 f2_25 => TL_25 zFu x2_25 M_25 N_25 k_25 kn_25 p_jB_25 p_jH_25 p_jK_25 p_jL_25 p_jO_25 p_jR_25 p_jS_25 p_jT_25 f0_25 f1_25 f2_25 (zFu_up _)
  unfold D_X8_print
  refine vB (v_X8_isSeed) (fun e_1 f_1 q_1 => ?_)
  have b_1 := q_1.1
  have x0_1 := q_1.2
  (try simp only [Int32.toInt_add, Int32.toInt_sub, Int32.toInt_mul, Int32.toInt_toInt64, Int64.toInt_add, z_m1, Int32.reduceToInt, Int64.reduceToInt, Int32.reduceToNatClampNeg, Int.bmod_def] at x0_1)
  refine vIf (fun h_4 => ?_) (fun h_4 => ?_)
  · have i_4 := congrArg Int32.toInt h_4
    (try simp only [Int32.toInt_add, Int32.toInt_sub, Int32.toInt_mul, Int32.toInt_toInt64, Int64.toInt_add, z_m1, Int32.reduceToInt, Int64.reduceToInt, Int32.reduceToNatClampNeg, Int.bmod_def] at i_4)
    refine vB (v_X8_refuse) (fun e_9 f_9 q_9 => ?_)
    have k_9 : ∀ a j, ¬ WM_X8_print P a j → e_9.2 a j = M0 a j := fun a j h => (q_9 a j (wz_M_X8_refuse_X8_print h))
    have c7_9 : Int32.toInt (e_9.2 P 7) = Int32.toInt (M0 P 7) := congrArg Int32.toInt (q_9 P 7 (wc_X8_refuse_7))
    have c8_9 : Int32.toInt (e_9.2 P 8) = Int32.toInt (M0 P 8) := congrArg Int32.toInt (q_9 P 8 (wc_X8_refuse_8))
    have c33_9 : Int32.toInt (e_9.2 P 33) = Int32.toInt (M0 P 33) := congrArg Int32.toInt (q_9 P 33 (wc_X8_refuse_33))
    have n_9 : nA P e_9.2 = nA P M0 := nA_congr (fun a j h => q_9 a j (wf_nA_X8_refuse h))
    have p_jB_9 : jB P e_9.2 := jB.mono p_jB (fun a j h => q_9 a j (wf_jB_X8_refuse h))
    obtain ⟨u0_jB_9, u1_jB_9, u2_jB_9, u3_jB_9, u4_jB_9, u5_jB_9⟩ := id p_jB_9
    have p_jS_9 : jS P e_9.2 := jS.mono p_jS (fun a j h => q_9 a j (wf_jS_X8_refuse h))
    obtain ⟨u0_jS_9, u1_jS_9, u2_jS_9, u3_jS_9, u4_jS_9, u5_jS_9, u6_jS_9, u7_jS_9⟩ := jS.ints p_jS_9
    have p_jR_9 : jR P e_9.2 := jR.mono p_jR (fun a j h => q_9 a j (wf_jR_X8_refuse h))
    have p_jK_9 : jK P e_9.2 := jK.mono p_jK (fun a j h => q_9 a j (wf_jK_X8_refuse h))
    have p_jT_9 : jT P e_9.2 := jT.mono p_jT (fun a j h => q_9 a j (wf_jT_X8_refuse h))
    obtain ⟨u0_jT_9, u1_jT_9, u2_jT_9, u3_jT_9, u4_jT_9, u5_jT_9⟩ := id p_jT_9
    exact ⟨_, rfl, k_9, (fun _ _ _ => rfl), ⟨p_jB_9, p_jS_9, p_jR_9, p_jK_9, p_jT_9⟩⟩
  · have i_4 : ¬ Int32.toInt e_1 = Int32.toInt (0 : Int32) := fun q => h_4 (Int32.toInt_inj.mp q)
    (try simp only [Int32.toInt_add, Int32.toInt_sub, Int32.toInt_mul, Int32.toInt_toInt64, Int64.toInt_add, z_m1, Int32.reduceToInt, Int64.reduceToInt, Int32.reduceToNatClampNeg, Int.bmod_def] at i_4)
    refine vB (v_X8_laysResult p_jB p_jS p_jR (by first | omega | (simp only [Int32.toInt_add, Int32.toInt_sub, Int32.toInt_mul, Int32.toInt_toInt64, Int64.toInt_add, z_m1, Int32.reduceToInt, Int64.reduceToInt, Int32.reduceToNatClampNeg, Int.bmod_def, or_true, true_or, and_true, true_and] <;> omega))) (fun e_15 f_15 q_15 => ?_)
    have k_15 : ∀ a j, ¬ WM_X8_print P a j → e_15.1 a j = M0 a j := fun a j h => (q_15.1 a j (wz_M_X8_laysResult_X8_print h))
    have kn_15 : ∀ a j, ¬ WN_X8_print P a j → e_15.2 a j = N0 a j := fun a j h => (q_15.2.1 a j (wz_N_X8_laysResult_X8_print h))
    have c7_15 : Int32.toInt (e_15.1 P 7) = Int32.toInt (M0 P 7) := congrArg Int32.toInt (q_15.1 P 7 (wc_X8_laysResult_7))
    have c8_15 : Int32.toInt (e_15.1 P 8) = Int32.toInt (M0 P 8) := congrArg Int32.toInt (q_15.1 P 8 (wc_X8_laysResult_8))
    have n_15 : nA P e_15.1 = nA P M0 := nA_congr (fun a j h => q_15.1 a j (wf_nA_X8_laysResult h))
    have p_jS_15 : jS P e_15.1 := jS.mono p_jS (fun a j h => q_15.1 a j (wf_jS_X8_laysResult h))
    obtain ⟨u0_jS_15, u1_jS_15, u2_jS_15, u3_jS_15, u4_jS_15, u5_jS_15, u6_jS_15, u7_jS_15⟩ := jS.ints p_jS_15
    have p_jK_15 : jK P e_15.1 := jK.mono p_jK (fun a j h => q_15.1 a j (wf_jK_X8_laysResult h))
    have p_jT_15 : jT P e_15.1 := jT.mono p_jT (fun a j h => q_15.1 a j (wf_jT_X8_laysResult h))
    obtain ⟨u0_jT_15, u1_jT_15, u2_jT_15, u3_jT_15, u4_jT_15, u5_jT_15⟩ := id p_jT_15
    obtain ⟨x0_15, x1_15, x2_15, x3_15, x4_15, x5_15⟩ := q_15.2.2
    obtain ⟨u0_jB_15, u1_jB_15, u2_jB_15, u3_jB_15, u4_jB_15, u5_jB_15⟩ := id x0_15
    (try simp only [Int32.toInt_add, Int32.toInt_sub, Int32.toInt_mul, Int32.toInt_toInt64, Int64.toInt_add, z_m1, Int32.reduceToInt, Int64.reduceToInt, Int32.reduceToNatClampNeg, Int.bmod_def] at x5_15)
    refine vLm (W := WM_X8_print P) (fun a j h => (zu_ne (wq_X8_print_M0_64 h)).trans (k_15 a j h)) (fun M_20 f_20 k_20 => ?_)
    have c7_20 : Int32.toInt (M_20 P 7) = Int32.toInt (e_15.1 P 7) := congrArg Int32.toInt ((congrFun (congrFun f_20.symm P) 7).trans (zu_ne (fun z => absurd z.2 (by decide))))
    have c8_20 : Int32.toInt (M_20 P 8) = Int32.toInt (e_15.1 P 8) := congrArg Int32.toInt ((congrFun (congrFun f_20.symm P) 8).trans (zu_ne (fun z => absurd z.2 (by decide))))
    have c33_20 : Int32.toInt (M_20 P 33) = Int32.toInt (e_15.1 P 33) := congrArg Int32.toInt ((congrFun (congrFun f_20.symm P) 33).trans (zu_ne (fun z => absurd z.2 (by decide))))
    have n_20 : nA P M_20 = nA P e_15.1 := nA_congr (fun a j h => (congrFun (congrFun f_20.symm a) j).trans (zu_ne (wf_nA_M0_64 h)))
    have p_jS_20 : jS P M_20 := jS.mono p_jS_15 (fun a j h => (congrFun (congrFun f_20.symm a) j).trans (zu_ne (wf_jS_M0_64 h)))
    obtain ⟨u0_jS_20, u1_jS_20, u2_jS_20, u3_jS_20, u4_jS_20, u5_jS_20, u6_jS_20, u7_jS_20⟩ := jS.ints p_jS_20
    have p_jK_20 : jK P M_20 := jK.mono p_jK_15 (fun a j h => (congrFun (congrFun f_20.symm a) j).trans (zu_ne (wf_jK_M0_64 h)))
    have p_jT_20 : jT P M_20 := jT.put64 p_jT_15 f_20 (by decide) (by decide)
    obtain ⟨u0_jT_20, u1_jT_20, u2_jT_20, u3_jT_20, u4_jT_20, u5_jT_20⟩ := id p_jT_20
    have p_jB_20 : jB P M_20 := jB.mono x0_15 (fun a j h => (congrFun (congrFun f_20.symm a) j).trans (zu_ne (wf_jB_M0_64 h)))
    obtain ⟨u0_jB_20, u1_jB_20, u2_jB_20, u3_jB_20, u4_jB_20, u5_jB_20⟩ := id p_jB_20
    have p_jL_20 : jL P M_20 := jL.mono x1_15 (fun a j h => (congrFun (congrFun f_20.symm a) j).trans (zu_ne (wf_jL_M0_64 h)))
    have p_jH_20 : jH P M_20 := jH.mono x2_15 (fun a j h => (congrFun (congrFun f_20.symm a) j).trans (zu_ne (wf_jH_M0_64 h)))
    have p_jO_20 : jO P M_20 := jO.mono x3_15 (fun a j h => (congrFun (congrFun f_20.symm a) j).trans (zu_ne (wf_jO_M0_64 h)))
    have p_jR_20 : jR P M_20 := jR.mono x4_15 (fun a j h => (congrFun (congrFun f_20.symm a) j).trans (zu_ne (wf_jR_M0_64 h)))
    exact T_25 _ _ _ k_20 kn_15 p_jB_20 p_jH_20 p_jK_20 p_jL_20 p_jO_20 p_jR_20 p_jS_20 p_jT_20 (by first | omega | (simp only [Int32.toInt_add, Int32.toInt_sub, Int32.toInt_mul, Int32.toInt_toInt64, Int64.toInt_add, z_m1, Int32.reduceToInt, Int64.reduceToInt, Int32.reduceToNatClampNeg, Int.bmod_def, or_true, true_or, and_true, true_and] <;> omega)) (by first | omega | (simp only [Int32.toInt_add, Int32.toInt_sub, Int32.toInt_mul, Int32.toInt_toInt64, Int64.toInt_add, z_m1, Int32.reduceToInt, Int64.reduceToInt, Int32.reduceToNatClampNeg, Int.bmod_def, or_true, true_or, and_true, true_and] <;> omega)) (by first | (rw [← f_20, zu_eq]; decide) | exact (by first | omega | (simp only [Int32.toInt_add, Int32.toInt_sub, Int32.toInt_mul, Int32.toInt_toInt64, Int64.toInt_add, z_m1, Int32.reduceToInt, Int64.reduceToInt, Int32.reduceToNatClampNeg, Int.bmod_def, or_true, true_or, and_true, true_and] <;> omega)))
def WM_X8_out (P : Nat) (a j : Nat) : Prop := (a = P ∧ (j = 6 ∨ j = 12))
theorem wz_M_X8_refuse_X8_out {P a j : Nat} (h : ¬ WM_X8_out P a j) : ¬ WM_X8_refuse P a j := by unfold WM_X8_refuse; unfold WM_X8_out at h; omega
theorem wz_M_X8_gives_X8_out {P a j : Nat} (h : ¬ WM_X8_out P a j) : ¬ WM_X8_gives P a j := by unfold WM_X8_gives; unfold WM_X8_out at h; omega
set_option maxRecDepth 100000 in
set_option maxHeartbeats 4000000 in
theorem v_X8_out {P : Nat} {v0 : Int32} {M0 : zMt}  (p_jB : jB P M0) (p_jS : jS P M0) (p_jR : jR P M0) (p_jK : jK P M0) (p_jT : jT P M0) : ∃ r, D_X8_out P v0 M0 = some r ∧ ((∀ a j, ¬ WM_X8_out P a j → r.2 a j = M0 a j) ∧ ((jB P r.2) ∧ (jS P r.2) ∧ (jR P r.2) ∧ (jK P r.2) ∧ (jT P r.2))) := by
  obtain ⟨u0_jB, u1_jB, u2_jB, u3_jB, u4_jB, u5_jB⟩ := id p_jB
  obtain ⟨u0_jS, u1_jS, u2_jS, u3_jS, u4_jS, u5_jS, u6_jS, u7_jS⟩ := jS.ints p_jS
  obtain ⟨u0_jT, u1_jT, u2_jT, u3_jT, u4_jT, u5_jT⟩ := id p_jT
  have T_36 : ∀ (y0_36 : Int32) (M_36 : zMt), (∀ a j, ¬ WM_X8_out P a j → M_36 a j = M0 a j) → (jB P M_36) → (jK P M_36) → (jR P M_36) → (jS P M_36) → (jT P M_36) → ∃ r, D_X8_out_36 P y0_36 M_36 = some r ∧ ((∀ a j, ¬ WM_X8_out P a j → r.2 a j = M0 a j) ∧ ((jB P r.2) ∧ (jS P r.2) ∧ (jR P r.2) ∧ (jK P r.2) ∧ (jT P r.2))) := by
    intro y0_36 M_36 k_36 p_jB_36 p_jK_36 p_jR_36 p_jS_36 p_jT_36
    obtain ⟨u0_jB_36, u1_jB_36, u2_jB_36, u3_jB_36, u4_jB_36, u5_jB_36⟩ := id p_jB_36
    obtain ⟨u0_jS_36, u1_jS_36, u2_jS_36, u3_jS_36, u4_jS_36, u5_jS_36, u6_jS_36, u7_jS_36⟩ := jS.ints p_jS_36
    obtain ⟨u0_jT_36, u1_jT_36, u2_jT_36, u3_jT_36, u4_jT_36, u5_jT_36⟩ := id p_jT_36
    unfold D_X8_out_36
    exact ⟨_, rfl, k_36, ⟨p_jB_36, p_jS_36, p_jR_36, p_jK_36, p_jT_36⟩⟩
  unfold D_X8_out
  refine vIf (fun h_1 => ?_) (fun h_1 => ?_)
  · have i_1 := Int32.le_iff_toInt_le.mp h_1
    (try simp only [Int32.toInt_add, Int32.toInt_sub, Int32.toInt_mul, Int32.toInt_toInt64, Int64.toInt_add, z_m1, Int32.reduceToInt, Int64.reduceToInt, Int32.reduceToNatClampNeg, Int.bmod_def] at i_1)
    refine vIf (fun h_15 => ?_) (fun h_15 => ?_)
    · have i_15 := Int32.le_iff_toInt_le.mp h_15
      (try simp only [Int32.toInt_add, Int32.toInt_sub, Int32.toInt_mul, Int32.toInt_toInt64, Int64.toInt_add, z_m1, Int32.reduceToInt, Int64.reduceToInt, Int32.reduceToNatClampNeg, Int.bmod_def] at i_15)
      refine vB (v_X8_refuse) (fun e_33 f_33 q_33 => ?_)
      have k_33 : ∀ a j, ¬ WM_X8_out P a j → e_33.2 a j = M0 a j := fun a j h => (q_33 a j (wz_M_X8_refuse_X8_out h))
      have c7_33 : Int32.toInt (e_33.2 P 7) = Int32.toInt (M0 P 7) := congrArg Int32.toInt (q_33 P 7 (wc_X8_refuse_7))
      have c8_33 : Int32.toInt (e_33.2 P 8) = Int32.toInt (M0 P 8) := congrArg Int32.toInt (q_33 P 8 (wc_X8_refuse_8))
      have c33_33 : Int32.toInt (e_33.2 P 33) = Int32.toInt (M0 P 33) := congrArg Int32.toInt (q_33 P 33 (wc_X8_refuse_33))
      have n_33 : nA P e_33.2 = nA P M0 := nA_congr (fun a j h => q_33 a j (wf_nA_X8_refuse h))
      have p_jB_33 : jB P e_33.2 := jB.mono p_jB (fun a j h => q_33 a j (wf_jB_X8_refuse h))
      obtain ⟨u0_jB_33, u1_jB_33, u2_jB_33, u3_jB_33, u4_jB_33, u5_jB_33⟩ := id p_jB_33
      have p_jS_33 : jS P e_33.2 := jS.mono p_jS (fun a j h => q_33 a j (wf_jS_X8_refuse h))
      obtain ⟨u0_jS_33, u1_jS_33, u2_jS_33, u3_jS_33, u4_jS_33, u5_jS_33, u6_jS_33, u7_jS_33⟩ := jS.ints p_jS_33
      have p_jR_33 : jR P e_33.2 := jR.mono p_jR (fun a j h => q_33 a j (wf_jR_X8_refuse h))
      have p_jK_33 : jK P e_33.2 := jK.mono p_jK (fun a j h => q_33 a j (wf_jK_X8_refuse h))
      have p_jT_33 : jT P e_33.2 := jT.mono p_jT (fun a j h => q_33 a j (wf_jT_X8_refuse h))
      obtain ⟨u0_jT_33, u1_jT_33, u2_jT_33, u3_jT_33, u4_jT_33, u5_jT_33⟩ := id p_jT_33
      exact T_36 _ _ k_33 p_jB_33 p_jK_33 p_jR_33 p_jS_33 p_jT_33
    · have i_15 := Int32.lt_iff_toInt_lt.mp (Int32.not_le.mp h_15)
      (try simp only [Int32.toInt_add, Int32.toInt_sub, Int32.toInt_mul, Int32.toInt_toInt64, Int64.toInt_add, z_m1, Int32.reduceToInt, Int64.reduceToInt, Int32.reduceToNatClampNeg, Int.bmod_def] at i_15)
      refine vI (vp_of (by first | omega | (simp only [Int32.toInt_add, Int32.toInt_sub, Int32.toInt_mul, Int32.toInt_toInt64, Int64.toInt_add, z_m1, Int32.reduceToInt, Int64.reduceToInt, Int32.reduceToNatClampNeg, Int.bmod_def, or_true, true_or, and_true, true_and] <;> omega)) (by first | omega | (simp only [Int32.toInt_add, Int32.toInt_sub, Int32.toInt_mul, Int32.toInt_toInt64, Int64.toInt_add, z_m1, Int32.reduceToInt, Int64.reduceToInt, Int32.reduceToNatClampNeg, Int.bmod_def, or_true, true_or, and_true, true_and] <;> omega))) ?_
      refine vB (v_X8_gives) (fun e_25 f_25 q_25 => ?_)
      have k_25 : ∀ a j, ¬ WM_X8_out P a j → e_25.2 a j = M0 a j := fun a j h => (q_25 a j (wz_M_X8_gives_X8_out h))
      have c7_25 : Int32.toInt (e_25.2 P 7) = Int32.toInt (M0 P 7) := congrArg Int32.toInt (q_25 P 7 (wc_X8_gives_7))
      have c8_25 : Int32.toInt (e_25.2 P 8) = Int32.toInt (M0 P 8) := congrArg Int32.toInt (q_25 P 8 (wc_X8_gives_8))
      have c33_25 : Int32.toInt (e_25.2 P 33) = Int32.toInt (M0 P 33) := congrArg Int32.toInt (q_25 P 33 (wc_X8_gives_33))
      have n_25 : nA P e_25.2 = nA P M0 := nA_congr (fun a j h => q_25 a j (wf_nA_X8_gives h))
      have p_jB_25 : jB P e_25.2 := jB.mono p_jB (fun a j h => q_25 a j (wf_jB_X8_gives h))
      obtain ⟨u0_jB_25, u1_jB_25, u2_jB_25, u3_jB_25, u4_jB_25, u5_jB_25⟩ := id p_jB_25
      have p_jS_25 : jS P e_25.2 := jS.mono p_jS (fun a j h => q_25 a j (wf_jS_X8_gives h))
      obtain ⟨u0_jS_25, u1_jS_25, u2_jS_25, u3_jS_25, u4_jS_25, u5_jS_25, u6_jS_25, u7_jS_25⟩ := jS.ints p_jS_25
      have p_jR_25 : jR P e_25.2 := jR.mono p_jR (fun a j h => q_25 a j (wf_jR_X8_gives h))
      have p_jK_25 : jK P e_25.2 := jK.mono p_jK (fun a j h => q_25 a j (wf_jK_X8_gives h))
      have p_jT_25 : jT P e_25.2 := jT.mono p_jT (fun a j h => q_25 a j (wf_jT_X8_gives h))
      obtain ⟨u0_jT_25, u1_jT_25, u2_jT_25, u3_jT_25, u4_jT_25, u5_jT_25⟩ := id p_jT_25
      exact T_36 _ _ k_25 p_jB_25 p_jK_25 p_jR_25 p_jS_25 p_jT_25
  · have i_1 := Int32.lt_iff_toInt_lt.mp (Int32.not_le.mp h_1)
    (try simp only [Int32.toInt_add, Int32.toInt_sub, Int32.toInt_mul, Int32.toInt_toInt64, Int64.toInt_add, z_m1, Int32.reduceToInt, Int64.reduceToInt, Int32.reduceToNatClampNeg, Int.bmod_def] at i_1)
    refine vB (v_X8_refuse) (fun e_6 f_6 q_6 => ?_)
    have k_6 : ∀ a j, ¬ WM_X8_out P a j → e_6.2 a j = M0 a j := fun a j h => (q_6 a j (wz_M_X8_refuse_X8_out h))
    have c7_6 : Int32.toInt (e_6.2 P 7) = Int32.toInt (M0 P 7) := congrArg Int32.toInt (q_6 P 7 (wc_X8_refuse_7))
    have c8_6 : Int32.toInt (e_6.2 P 8) = Int32.toInt (M0 P 8) := congrArg Int32.toInt (q_6 P 8 (wc_X8_refuse_8))
    have c33_6 : Int32.toInt (e_6.2 P 33) = Int32.toInt (M0 P 33) := congrArg Int32.toInt (q_6 P 33 (wc_X8_refuse_33))
    have n_6 : nA P e_6.2 = nA P M0 := nA_congr (fun a j h => q_6 a j (wf_nA_X8_refuse h))
    have p_jB_6 : jB P e_6.2 := jB.mono p_jB (fun a j h => q_6 a j (wf_jB_X8_refuse h))
    obtain ⟨u0_jB_6, u1_jB_6, u2_jB_6, u3_jB_6, u4_jB_6, u5_jB_6⟩ := id p_jB_6
    have p_jS_6 : jS P e_6.2 := jS.mono p_jS (fun a j h => q_6 a j (wf_jS_X8_refuse h))
    obtain ⟨u0_jS_6, u1_jS_6, u2_jS_6, u3_jS_6, u4_jS_6, u5_jS_6, u6_jS_6, u7_jS_6⟩ := jS.ints p_jS_6
    have p_jR_6 : jR P e_6.2 := jR.mono p_jR (fun a j h => q_6 a j (wf_jR_X8_refuse h))
    have p_jK_6 : jK P e_6.2 := jK.mono p_jK (fun a j h => q_6 a j (wf_jK_X8_refuse h))
    have p_jT_6 : jT P e_6.2 := jT.mono p_jT (fun a j h => q_6 a j (wf_jT_X8_refuse h))
    obtain ⟨u0_jT_6, u1_jT_6, u2_jT_6, u3_jT_6, u4_jT_6, u5_jT_6⟩ := id p_jT_6
    exact ⟨_, rfl, k_6, ⟨p_jB_6, p_jS_6, p_jR_6, p_jK_6, p_jT_6⟩⟩
def WM_X8_come (P : Nat) (a j : Nat) : Prop := (P + 7 ≤ a ∧ a < P + 8) ∨ (a = P ∧ (j = 11))
theorem v_X8_come_s {P n t : Nat} {v x : Int32} {M : zMt} (h : ¬ x < 0) (ht : M P 11 = nI t) (h7 : t < 700) : ∃ M', D_X8_come_3 P (n + 1) v x M = D_X8_come_3 P n v (x + (-8)) M' ∧ (∀ a j, ¬ WM_X8_come P a j → M' a j = M a j) ∧ M' P 11 = nI (t + 1) := by
  refine ⟨zu (zu M (P + 7) t ((Int32.toUInt32 v >>> (Int32.toUInt32 x &&& Int32.toUInt32 31)).toInt32 &&& (255 : Int32))) P 11 (nI (t + 1)), ?_, fun a j h => (zu_ne (by unfold WM_X8_come at h; omega)).trans (zu_ne (by unfold WM_X8_come at h; omega)), zu_eq⟩
  rw [D_X8_come_3, if_neg h, ht]
  unfold zI
  rw [if_neg (vp_in_nI (n := t) h7 (by decide)), nI_clamp (n := t) (by omega)]
  unfold zLt
  dsimp only
  rw [zu_ne (by omega), ht, nI_1]
theorem v_X8_come {P t : Nat} {v0 : Int32} {M0 : zMt} (ht : M0 P 11 = nI t) (h7 : t + 4 ≤ 700) : ∃ r, D_X8_come P v0 M0 = some r ∧ ((∀ a j, ¬ WM_X8_come P a j → r a j = M0 a j) ∧ r P 11 = nI (t + 4)) := by
  unfold D_X8_come
  rw [show zFu = 4294967292 + 1 + 1 + 1 + 1 + 1 from rfl]
  obtain ⟨M1, e1, k1, t1⟩ := v_X8_come_s (P := P) (n := 4294967292 + 1 + 1 + 1 + 1) (v := v0) (x := 24) (M := M0) (by decide) ht (by omega)
  obtain ⟨M2, e2, k2, t2⟩ := v_X8_come_s (P := P) (n := 4294967292 + 1 + 1 + 1) (v := v0) (x := 24 + (-8)) (M := M1) (by decide) t1 (by omega)
  obtain ⟨M3, e3, k3, t3⟩ := v_X8_come_s (P := P) (n := 4294967292 + 1 + 1) (v := v0) (x := 24 + (-8) + (-8)) (M := M2) (by decide) t2 (by omega)
  obtain ⟨M4, e4, k4, t4⟩ := v_X8_come_s (P := P) (n := 4294967292 + 1) (v := v0) (x := 24 + (-8) + (-8) + (-8)) (M := M3) (by decide) t3 (by omega)
  rw [e1, e2, e3, e4, D_X8_come_3, if_pos (by decide)]
  exact ⟨_, rfl, fun a j h => (k4 a j h).trans ((k3 a j h).trans ((k2 a j h).trans (k1 a j h))), t4⟩
def WM_X8_feed (P : Nat) (a j : Nat) : Prop := (P + 7 ≤ a ∧ a < P + 8) ∨ (a = P ∧ (j = 6 ∨ j = 11))
theorem v_X8_feed {P : Nat} {v0 v1 v2 v3 v4 : Int32} {M0 : zMt} (p_jT : jT P M0) : ∃ r, D_X8_feed P v0 v1 v2 v3 v4 M0 = some r ∧ ((∀ a j, ¬ WM_X8_feed P a j → r.2 a j = M0 a j) ∧ jT P r.2 ∧ ((M0 P 11 + 20 ≤ 700 ∧ r.1 = M0 P 11 + 20 ∧ r.2 P 11 = M0 P 11 + 20) ∨ (¬ M0 P 11 + 20 ≤ 700 ∧ r.1 = -1 ∧ r.2 P 11 = M0 P 11))) := by
  obtain ⟨t1, t2, t3, t4, t5, t6⟩ := id p_jT
  obtain ⟨t, ht, htt⟩ : ∃ t : Nat, M0 P 11 = nI t ∧ (t : Int) = (M0 P 11).toInt := ⟨(M0 P 11).toInt.toNat, z_toN t3, by omega⟩
  unfold D_X8_feed
  refine vLm (W := WM_X8_feed P) (M0 := M0) (fun a j h => zu_ne (by unfold WM_X8_feed at h; omega)) (fun M1 f1 k1 => ?_)
  have e11 : M1 P 11 = M0 P 11 := by rw [← f1, zu_ne (by omega)]
  have e9 : M1 P 9 = M0 P 9 := by rw [← f1, zu_ne (by omega)]
  have e64 : M1 P 64 = M0 P 64 := by rw [← f1, zu_ne (by omega)]
  rw [e11]
  refine vIf (fun hc => ?_) (fun hc => ?_)
  · have h700 : t + 20 ≤ 700 := by
      rw [ht, show (20 : Int32) = nI 20 from rfl, nI_add] at hc
      exact (nI_leI (by omega) (by decide)).mp hc
    refine vB (v_X8_come (t := t) (e11.trans ht) (by omega)) (fun a1 g1 q1 => vB (v_X8_come q1.2 (by omega)) (fun a2 g2 q2 => vB (v_X8_come q2.2 (by omega)) (fun a3 g3 q3 => vB (v_X8_come q3.2 (by omega)) (fun a4 g4 q4 => vB (v_X8_come q4.2 (by omega)) (fun a5 g5 q5 => ?_)))))
    have k : ∀ a j, ¬ WM_X8_come P a j → a5 a j = M1 a j := fun a j h => (q5.1 a j h).trans ((q4.1 a j h).trans ((q3.1 a j h).trans ((q2.1 a j h).trans (q1.1 a j h))))
    have e20 : a5 P 11 = M0 P 11 + 20 := by rw [q5.2, ht, show (20 : Int32) = nI 20 from rfl, nI_add]
    refine ⟨_, rfl, fun a j h => (k a j (by unfold WM_X8_come; unfold WM_X8_feed at h; omega)).trans (k1 a j h), ?_, Or.inl ⟨hc, e20, e20⟩⟩
    show jT P a5
    unfold jT
    rw [q5.2, k P 9 (by unfold WM_X8_come; omega), k P 64 (by unfold WM_X8_come; omega), e9, e64, nI_toInt (by omega)]
    exact ⟨t1, t2, by omega, by omega, t5, t6⟩
  · refine ⟨_, rfl, k1, ?_, Or.inr ⟨hc, rfl, e11⟩⟩
    show jT P M1
    unfold jT
    rw [e9, e11, e64]
    exact p_jT
def WM_X8_splits (P : Nat) (a j : Nat) : Prop := (P + 1 ≤ a ∧ a < P + 2)
def spl (p v : Int) : Int := if v = p then -1 else if p < v then v - 1 else v
theorem n_mul3 (k : Nat) : (3 : Int32) * nI k = nI (3 * k) := by
  rw [show (3 : Int32) = nI 3 from rfl]
  unfold nI
  rw [Int32.ofNat_mul]
theorem n_add (c k : Nat) : nI c + nI k = nI (c + k) := nI_add c k
theorem v_X8_splits {P : Nat} {v0 : Int32} {M0 : zMt} (p_jB : jB P M0) (p_jS : jS P M0) (i_2 : 0 ≤ Int32.toInt v0) (i_3 : Int32.toInt v0 < Int32.toInt (M0 (P + 1) 70)) : ∃ r, D_X8_splits P v0 M0 = some r ∧ ((∀ a j, ¬ WM_X8_splits P a j → r a j = M0 a j) ∧ (jS P r)) := by
  obtain ⟨b1, b2, b3, b4, b5, b6⟩ := id p_jB
  have hi := p_jS.ints
  obtain ⟨s1, s2, s3, s4, s5, s6⟩ := id p_jS
  obtain ⟨p, hp, hpt⟩ : ∃ p : Nat, v0 = nI p ∧ (p : Int) = v0.toInt := ⟨v0.toInt.toNat, z_toN i_2, by omega⟩
  subst hp
  obtain ⟨H, hH⟩ : ∃ H : Nat, (M0 P 8).toInt = H := ⟨(M0 P 8).toInt.toNat, by omega⟩
  have hp4 : p < 4 := by omega
  have o1 : (1 : Int32).toInt = 1 := by decide
  have l10 : (10 : Int32) = nI 10 := rfl
  have l20 : (20 : Int32) = nI 20 := rfl
  have l50 : (50 : Int32) = nI 50 := rfl
  have l3 : (3 : Int32) = nI 3 := rfl
  have v70 : vp_in (70 : Int32) 82 := by unfold vp_in; decide
  have c70 : (70 : Int32).toNatClampNeg = 70 := by decide
  -- the parties' choices come up
  have L122 : ∀ (u k : Nat) (M : zMt), 3 * p ≤ k → k ≤ 12 → 12 - k < u → (∀ a j, ¬ a = P + 1 → M a j = M0 a j) → (∀ j, 20 ≤ j → j < 62 → -1 ≤ (M (P + 1) j).toInt ∧ (M (P + 1) j).toInt < (M0 P 7).toInt) → (∀ j, ¬ (10 ≤ j ∧ j < 62) → ¬ j = 70 → M (P + 1) j = M0 (P + 1) j) → (M (P + 1) 70).toInt = (M0 (P + 1) 70).toInt - 1 → (∀ h, h < H → (M (P + 1) (10 + h)).toInt = spl p (M0 (P + 1) (10 + h)).toInt) → (∀ h, H ≤ h → h < 10 → M (P + 1) (10 + h) = M0 (P + 1) (10 + h)) → ∃ r, D_X8_splits_122 P u (nI k) M = some r ∧ ((∀ a j, ¬ WM_X8_splits P a j → r a j = M0 a j) ∧ (jS P r)) := by
    intro u
    induction u with
    | zero => intro k M h1 h2 h3; omega
    | succ u ih =>
      intro k M h1 h2 hu kk hc ho h70 hpa hpb
      rw [D_X8_splits_122]
      refine vIf (fun h => ?_) (fun h => ?_)
      · refine ⟨_, rfl, fun a j h => kk a j (by unfold WM_X8_splits at h; omega), ?_⟩
        show jRow (M (P + 1)) (M P 7).toInt (M P 8).toInt
        rw [kk P 7 (by omega), kk P 8 (by omega)]
        refine ⟨fun x hx => ?_, fun x hx => ?_, hc, fun y hy => ?_, ?_, fun y hy => ?_⟩
        · rw [ho x (by omega) (by omega)]; exact s1 x hx
        · have hx2 := s2 x hx
          rw [h70]
          by_cases q : x < H
          · rw [hpa x q]
            unfold spl
            split
            · omega
            · split <;> omega
          · rw [hpb x (by omega) hx]
            omega
        · rw [ho (62 + y) (by omega) (by omega)]; exact s4 y hy
        · rw [ho 67 (by omega) (by omega), ho 68 (by omega) (by omega), ho 69 (by omega) (by omega), h70]
          omega
        · rw [h70] at hy
          by_cases q : y < p
          · obtain ⟨x, x1, x2⟩ := s6 y (by omega)
            refine ⟨x, x1, ?_⟩
            rw [hpa x (by omega), x2]
            unfold spl
            rw [if_neg (by omega), if_neg (by omega)]
          · obtain ⟨x, x1, x2⟩ := s6 (y + 1) (by omega)
            refine ⟨x, x1, ?_⟩
            rw [hpa x (by omega), x2]
            unfold spl
            rw [if_neg (by omega), if_pos (by omega)]
            omega
      · have hlt : k < 12 := Nat.not_le.mp (fun q => h ((nI_leI (by decide) (by omega)).mpr q))
        have T157 : ∀ y : Int32, -1 ≤ y.toInt → y.toInt < (M0 P 7).toInt → ∃ r, D_X8_splits_157 P (D_X8_splits_122 P u) (nI k) ((50 : Int32) + nI k) y M = some r ∧ ((∀ a j, ¬ WM_X8_splits P a j → r a j = M0 a j) ∧ (jS P r)) := by
          intro y y1 y2
          unfold D_X8_splits_157
          rw [l50, n_add, nI_clamp (n := 50 + k) (by omega), nI_1]
          refine vI (vp_in_nI (by omega) (by decide)) ?_
          refine ih (k + 1) _ (by omega) (by omega) (by omega) (fun a j h => (zu_ne (by omega)).trans (kk a j h)) (fun j j1 j2 => ?_) (fun j j1 j2 => (zu_ne (by omega)).trans (ho j j1 j2)) ?_ (fun h hh => ?_) (fun h h1 h2 => (zu_ne (by omega)).trans (hpb h h1 h2))
          · by_cases q : j = 50 + k
            · subst q
              rw [zu_eq]; exact ⟨y1, y2⟩
            · rw [zu_ne (by omega)]; exact hc j j1 j2
          · rw [zu_ne (by omega)]; exact h70
          · rw [zu_ne (by omega)]; exact hpa h hh
        refine vIf (fun _ => T157 _ (by decide) (by rw [z_m1]; omega)) (fun h9 => ?_)
        have h9' : k < 9 := Nat.not_le.mp (fun q => h9 ((nI_leI (by decide) (by omega)).mpr q))
        have e53 : (50 : Int32) + nI k + 3 = nI (53 + k) := by rw [l50, n_add, l3, n_add]; congr 1; omega
        rw [e53, nI_clamp (n := 53 + k) (by omega)]
        refine vI (vp_in_nI (by omega) (by decide)) ?_
        have := hc (53 + k) (by omega) (by omega)
        exact T157 _ this.1 this.2
  -- the hunters
  have L2 : ∀ (u i : Nat) (M : zMt), i ≤ H → H - i < u → (∀ a j, ¬ a = P + 1 → M a j = M0 a j) → (∀ j, 20 ≤ j → j < 62 → -1 ≤ (M (P + 1) j).toInt ∧ (M (P + 1) j).toInt < (M0 P 7).toInt) → (∀ j, ¬ (10 ≤ j ∧ j < 62) → M (P + 1) j = M0 (P + 1) j) → (∀ h, h < i → (M (P + 1) (10 + h)).toInt = spl p (M0 (P + 1) (10 + h)).toInt) → (∀ h, i ≤ h → h < 10 → M (P + 1) (10 + h) = M0 (P + 1) (10 + h)) → ∃ r, D_X8_splits_2 P u (nI p) (nI i) M = some r ∧ ((∀ a j, ¬ WM_X8_splits P a j → r a j = M0 a j) ∧ (jS P r)) := by
    intro u
    induction u with
    | zero => intro i M h1 h2; omega
    | succ u ih =>
      intro i M hi1 hu kk hc ho hpa hpb
      have e8 : M P 8 = M0 P 8 := kk P 8 (by omega)
      have hit : (nI i).toInt = i := nI_toInt (by omega)
      rw [D_X8_splits_2, e8]
      refine vIf (fun h => ?_) (fun h => ?_)
      · have hge := Int32.le_iff_toInt_le.mp h
        rw [hit, hH] at hge
        have hiH : i = H := by omega
        subst hiH
        refine vI v70 (vI v70 ?_)
        rw [c70, n_mul3, ho 70 (by omega)]
        refine vLm (W := fun a _ => a = P + 1) (M0 := M0) (fun a j h => (zu_ne (by omega)).trans (kk a j h)) (fun M2 f2 k2 => ?_)
        have g : ∀ j, ¬ j = 70 → M2 (P + 1) j = M (P + 1) j := fun j hj => by rw [← f2, zu_ne (by omega)]
        refine L122 zFu (3 * p) M2 (by omega) (by omega) (by unfold zFu; omega) k2 (fun j j1 j2 => by rw [g j (by omega)]; exact hc j j1 j2) (fun j j1 j2 => (g j j2).trans (ho j j1)) ?_ (fun h hh => by rw [g _ (by omega)]; exact hpa h hh) (fun h h1 h2 => (g _ (by omega)).trans (hpb h h1 h2))
        rw [← f2, zu_eq, z_sub (by omega) (by omega), o1]
      · have hlt := Int32.lt_iff_toInt_lt.mp (Int32.not_le.mp h)
        rw [hit, hH] at hlt
        have v10 : vp_in (nI (10 + i)) 82 := vp_in_nI (by omega) (by decide)
        have c10 : (nI (10 + i)).toNatClampNeg = 10 + i := nI_clamp (by omega)
        rw [l10, n_add, c10]
        refine vI v10 ?_
        have hs2 := s2 i (by omega)
        have ei : M (P + 1) (10 + i) = M0 (P + 1) (10 + i) := hpb i (by omega) (by omega)
        rw [ei]
        have hpn : (nI p).toInt = p := nI_toInt (by omega)
        -- one hunter is done
        have T101 : ∀ M' : zMt, (∀ a j, ¬ a = P + 1 → M' a j = M0 a j) → (∀ j, 20 ≤ j → j < 62 → -1 ≤ (M' (P + 1) j).toInt ∧ (M' (P + 1) j).toInt < (M0 P 7).toInt) → (∀ j, ¬ (20 ≤ j ∧ j < 62) → ¬ j = 10 + i → M' (P + 1) j = M (P + 1) j) → (M' (P + 1) (10 + i)).toInt = spl p (M0 (P + 1) (10 + i)).toInt → ∃ r, D_X8_splits_101 P (D_X8_splits_2 P u) (nI p) (nI i) M' = some r ∧ ((∀ a j, ¬ WM_X8_splits P a j → r a j = M0 a j) ∧ (jS P r)) := by
          intro M' k' hc' ho' hi'
          unfold D_X8_splits_101
          rw [nI_1]
          refine ih (i + 1) M' (by omega) (by omega) k' hc' (fun j hj => (ho' j (by omega) (by omega)).trans (ho j hj)) (fun x hx => ?_) (fun x h1 h2 => (ho' _ (by omega) (by omega)).trans (hpb x (by omega) h2))
          by_cases q : x = i
          · subst q; exact hi'
          · rw [ho' _ (by omega) (by omega)]; exact hpa x (by omega)
        refine vIf (fun hq => ?_) (fun hq => ?_)
        · have hqi : (M0 (P + 1) (10 + i)).toInt = p := by rw [hq, hpn]
          refine vI v10 ?_
          refine vLm (W := fun a _ => a = P + 1) (M0 := M0) (fun a j h => (zu_ne (by omega)).trans (kk a j h)) (fun M2 f2 k2 => ?_)
          have g : ∀ j, ¬ j = 10 + i → M2 (P + 1) j = M (P + 1) j := fun j hj => by rw [← f2, zu_ne (by omega)]
          have gi : (M2 (P + 1) (10 + i)).toInt = -1 := by rw [← f2, zu_eq, z_m1]
          have L35 : ∀ (v k : Nat) (M' : zMt), k ≤ 3 → 3 - k < v → (∀ a j, ¬ a = P + 1 → M' a j = M0 a j) → (∀ j, 20 ≤ j → j < 62 → -1 ≤ (M' (P + 1) j).toInt ∧ (M' (P + 1) j).toInt < (M0 P 7).toInt) → (∀ j, ¬ (20 ≤ j ∧ j < 62) → M' (P + 1) j = M2 (P + 1) j) → ∃ r, D_X8_splits_35 P (D_X8_splits_2 P u) v (nI p) (nI i) (nI k) M' = some r ∧ ((∀ a j, ¬ WM_X8_splits P a j → r a j = M0 a j) ∧ (jS P r)) := by
            intro v
            induction v with
            | zero => intro k M' h1 h2; omega
            | succ v ihv =>
              intro k M' h1 h2 k' hc' ho'
              rw [D_X8_splits_35]
              refine vIf (fun h3 => ?_) (fun h3 => ?_)
              · refine T101 M' k' hc' (fun j j1 j2 => (ho' j j1).trans (g j j2)) ?_
                rw [ho' _ (by omega), gi, hqi]
                unfold spl
                rw [if_pos rfl]
              · have h3' : k < 3 := Nat.not_le.mp (fun q => h3 ((nI_leI (by decide) (by omega)).mpr q))
                have e1 : (50 : Int32) + 3 * nI p + nI k = nI (50 + 3 * p + k) := by rw [n_mul3, l50, n_add, n_add]
                have e2 : (20 : Int32) + 3 * nI i + nI k = nI (20 + 3 * i + k) := by rw [n_mul3, l20, n_add, n_add]
                rw [e1, e2, nI_clamp (n := 50 + 3 * p + k) (by omega), nI_clamp (n := 20 + 3 * i + k) (by omega), nI_1]
                refine vI (vp_in_nI (by omega) (by decide)) (vI (vp_in_nI (by omega) (by decide)) ?_)
                have hv := hc' (50 + 3 * p + k) (by omega) (by omega)
                refine ihv (k + 1) _ (by omega) (by omega) (fun a j h => (zu_ne (by omega)).trans (k' a j h)) (fun j j1 j2 => ?_) (fun j j1 => (zu_ne (by omega)).trans (ho' j j1))
                by_cases q : j = 20 + 3 * i + k
                · subst q
                  rw [zu_eq]; exact hv
                · rw [zu_ne (by omega)]; exact hc' j j1 j2
          exact L35 zFu 0 M2 (by omega) (by unfold zFu; omega) k2 (fun j j1 j2 => by rw [g j (by omega)]; exact hc j j1 j2) (fun _ _ => rfl)
        · have hqi : ¬ (M0 (P + 1) (10 + i)).toInt = p := fun z => hq (Int32.toInt_inj.mp (by rw [z, hpn]))
          refine vI v10 ?_
          refine vIf (fun hle => ?_) (fun hle => ?_)
          · have := Int32.le_iff_toInt_le.mp hle
            rw [hpn] at this
            refine T101 M kk hc (fun _ _ _ => rfl) ?_
            rw [ei]
            unfold spl
            rw [if_neg hqi, if_neg (by omega)]
          · have := Int32.lt_iff_toInt_lt.mp (Int32.not_le.mp hle)
            rw [hpn] at this
            refine vI v10 (vI v10 ?_)
            refine T101 _ (fun a j h => (zu_ne (by omega)).trans (kk a j h)) (fun j j1 j2 => by rw [zu_ne (by omega)]; exact hc j j1 j2) (fun j j1 j2 => zu_ne (by omega)) ?_
            rw [zu_eq, z_sub (by omega) (by omega), o1]
            unfold spl
            rw [if_neg hqi, if_pos (by omega)]
  unfold D_X8_splits
  exact L2 zFu 0 M0 (by omega) (by unfold zFu; omega) (fun _ _ _ => rfl) s3 (fun _ _ => rfl) (fun h hh => absurd hh (Nat.not_lt_zero h)) (fun _ _ _ => rfl)
def WM_X8_apart (P : Nat) (a j : Nat) : Prop := (P + 1 ≤ a ∧ a < P + 2) ∨ (P + 3 ≤ a ∧ a < P + 4) ∨ (P + 11 ≤ a ∧ a < P + 23) ∨ (P + 29 ≤ a ∧ a < P + 30) ∨ (a = P ∧ (j = 6 ∨ j = 12 ∨ j = 33 ∨ j = 54 ∨ j = 55 ∨ j = 56 ∨ j = 57 ∨ j = 58))
def WN_X8_apart (P : Nat) (a j : Nat) : Prop := (P + 24 ≤ a ∧ a < P + 29) ∨ (a = P ∧ (j = 59))
theorem wz_M_X8_takesBack_X8_apart {P a j : Nat} (h : ¬ WM_X8_apart P a j) : ¬ WM_X8_takesBack P a j := by unfold WM_X8_takesBack; unfold WM_X8_apart at h; omega
theorem wz_M_X8_refuse_X8_apart {P a j : Nat} (h : ¬ WM_X8_apart P a j) : ¬ WM_X8_refuse P a j := by unfold WM_X8_refuse; unfold WM_X8_apart at h; omega
theorem wz_M_X8_givesLong_X8_apart {P a j : Nat} (h : ¬ WM_X8_apart P a j) : ¬ WM_X8_givesLong P a j := by unfold WM_X8_givesLong; unfold WM_X8_apart at h; omega
theorem wf_jA_X8_givesLong {P a j : Nat} (h : (a = P + 3 ∨ (a = P ∧ (j = 7 ∨ j = 8)))) : ¬ WM_X8_givesLong P a j := by unfold WM_X8_givesLong; omega
theorem wq_X8_apart_M0_58 {P a j : Nat} (h : ¬ WM_X8_apart P a j) : ¬ (a = P ∧ j = 58) := by unfold WM_X8_apart at h; omega
theorem wf_nA_M0_58 {P a j : Nat} (h : (a = P + 1 ∨ (a = P ∧ j = 8))) : ¬ (a = P ∧ j = 58) := by omega
theorem wf_jA_M0_58 {P a j : Nat} (h : (a = P + 3 ∨ (a = P ∧ (j = 7 ∨ j = 8)))) : ¬ (a = P ∧ j = 58) := by omega
theorem wf_jB_M0_58 {P a j : Nat} (h : (a = P ∧ (j = 7 ∨ j = 8 ∨ j = 33))) : ¬ (a = P ∧ j = 58) := by omega
theorem wf_jH_M0_58 {P a j : Nat} (h : ((a = P ∧ (j = 8 ∨ j = 33)) ∨ a = P + 11)) : ¬ (a = P ∧ j = 58) := by omega
theorem wf_jK_M0_58 {P a j : Nat} (h : ((a = P ∧ (j = 7 ∨ j = 8 ∨ j = 9)) ∨ a = P + 4)) : ¬ (a = P ∧ j = 58) := by omega
theorem wf_jL_M0_58 {P a j : Nat} (h : ((a = P ∧ j = 33) ∨ a = P + 13 ∨ a = P + 14 ∨ a = P + 17)) : ¬ (a = P ∧ j = 58) := by omega
theorem wf_jR_M0_58 {P a j : Nat} (h : a = P + 19) : ¬ (a = P ∧ j = 58) := by omega
theorem wf_jS_M0_58 {P a j : Nat} (h : (a = P + 1 ∨ (a = P ∧ (j = 7 ∨ j = 8)))) : ¬ (a = P ∧ j = 58) := by omega
theorem wf_jT_M0_58 {P a j : Nat} (h : (a = P ∧ (j = 9 ∨ j = 11 ∨ j = 64))) : ¬ (a = P ∧ j = 58) := by omega
theorem wz_M_X8_laysAll_X8_apart {P a j : Nat} (h : ¬ WM_X8_apart P a j) : ¬ WM_X8_laysAll P a j := by unfold WM_X8_laysAll; unfold WM_X8_apart at h; omega
theorem wz_N_X8_laysAll_X8_apart {P a j : Nat} (h : ¬ WN_X8_apart P a j) : ¬ WN_X8_laysAll P a j := by unfold WN_X8_laysAll; unfold WN_X8_apart at h; omega
theorem wz_M_X8_putsAside_X8_apart {P a j : Nat} (h : ¬ WM_X8_apart P a j) : ¬ WM_X8_putsAside P a j := by unfold WM_X8_putsAside; unfold WM_X8_apart at h; omega
theorem wz_M_X8_splits_X8_apart {P a j : Nat} (h : ¬ WM_X8_apart P a j) : ¬ WM_X8_splits P a j := by unfold WM_X8_splits; unfold WM_X8_apart at h; omega
theorem wc_X8_splits_7 {P : Nat} : ¬ WM_X8_splits P P 7 := by unfold WM_X8_splits; omega
theorem wc_X8_splits_8 {P : Nat} : ¬ WM_X8_splits P P 8 := by unfold WM_X8_splits; omega
theorem wc_X8_splits_33 {P : Nat} : ¬ WM_X8_splits P P 33 := by unfold WM_X8_splits; omega
theorem wf_jB_X8_splits {P a j : Nat} (h : (a = P ∧ (j = 7 ∨ j = 8 ∨ j = 33))) : ¬ WM_X8_splits P a j := by unfold WM_X8_splits; omega
theorem wf_jK_X8_splits {P a j : Nat} (h : ((a = P ∧ (j = 7 ∨ j = 8 ∨ j = 9)) ∨ a = P + 4)) : ¬ WM_X8_splits P a j := by unfold WM_X8_splits; omega
theorem wf_jR_X8_splits {P a j : Nat} (h : a = P + 19) : ¬ WM_X8_splits P a j := by unfold WM_X8_splits; omega
theorem wf_jT_X8_splits {P a j : Nat} (h : (a = P ∧ (j = 9 ∨ j = 11 ∨ j = 64))) : ¬ WM_X8_splits P a j := by unfold WM_X8_splits; omega
theorem wf_jA_X8_splits {P a j : Nat} (h : (a = P + 3 ∨ (a = P ∧ (j = 7 ∨ j = 8)))) : ¬ WM_X8_splits P a j := by unfold WM_X8_splits; omega
theorem wz_M_X8_areMany_X8_apart {P a j : Nat} (h : ¬ WM_X8_apart P a j) : ¬ WM_X8_areMany P a j := by unfold WM_X8_areMany; unfold WM_X8_apart at h; omega
theorem wf_jA_X8_areMany {P a j : Nat} (h : (a = P + 3 ∨ (a = P ∧ (j = 7 ∨ j = 8)))) : ¬ WM_X8_areMany P a j := by unfold WM_X8_areMany; omega
set_option maxRecDepth 100000 in
set_option maxHeartbeats 4000000 in
theorem v_X8_apart {P : Nat} {v0 : Int32} {M0 : zMt} {N0 : zNt}  (p_jB : jB P M0) (p_jS : jS P M0) (p_jR : jR P M0) (p_jK : jK P M0) (p_jT : jT P M0) : ∃ r, D_X8_apart P v0 M0 N0 = some r ∧ ((∀ a j, ¬ WM_X8_apart P a j → r.2.1 a j = M0 a j) ∧ (∀ a j, ¬ WN_X8_apart P a j → r.2.2 a j = N0 a j) ∧ ((jB P r.2.1) ∧ (jS P r.2.1) ∧ (jR P r.2.1) ∧ (jK P r.2.1) ∧ (jT P r.2.1))) := by
  obtain ⟨u0_jB, u1_jB, u2_jB, u3_jB, u4_jB, u5_jB⟩ := id p_jB
  obtain ⟨u0_jS, u1_jS, u2_jS, u3_jS, u4_jS, u5_jS, u6_jS, u7_jS⟩ := jS.ints p_jS
  obtain ⟨u0_jT, u1_jT, u2_jT, u3_jT, u4_jT, u5_jT⟩ := id p_jT
  have T_163 : ∀ (y0_163 : Int64) (M_163 : zMt) (N_163 : zNt), (∀ a j, ¬ WM_X8_apart P a j → M_163 a j = M0 a j) → (∀ a j, ¬ WN_X8_apart P a j → N_163 a j = N0 a j) → (jA P M_163) → (jB P M_163) → (jH P M_163) → (jK P M_163) → (jL P M_163) → (jR P M_163) → (jS P M_163) → (jT P M_163) → ∃ r, D_X8_apart_163 P y0_163 M_163 N_163 = some r ∧ ((∀ a j, ¬ WM_X8_apart P a j → r.2.1 a j = M0 a j) ∧ (∀ a j, ¬ WN_X8_apart P a j → r.2.2 a j = N0 a j) ∧ ((jB P r.2.1) ∧ (jS P r.2.1) ∧ (jR P r.2.1) ∧ (jK P r.2.1) ∧ (jT P r.2.1))) := by
    intro y0_163 M_163 N_163 k_163 kn_163 p_jA_163 p_jB_163 p_jH_163 p_jK_163 p_jL_163 p_jR_163 p_jS_163 p_jT_163
    obtain ⟨u0_jB_163, u1_jB_163, u2_jB_163, u3_jB_163, u4_jB_163, u5_jB_163⟩ := id p_jB_163
    obtain ⟨u0_jS_163, u1_jS_163, u2_jS_163, u3_jS_163, u4_jS_163, u5_jS_163, u6_jS_163, u7_jS_163⟩ := jS.ints p_jS_163
    obtain ⟨u0_jT_163, u1_jT_163, u2_jT_163, u3_jT_163, u4_jT_163, u5_jT_163⟩ := id p_jT_163
    unfold D_X8_apart_163
    exact ⟨_, rfl, k_163, kn_163, ⟨p_jB_163, p_jS_163, p_jR_163, p_jK_163, p_jT_163⟩⟩
  have T_138 : ∀ (x3_138 : Int32) (M_138 : zMt) (N_138 : zNt), (∀ a j, ¬ WM_X8_apart P a j → M_138 a j = M0 a j) → (∀ a j, ¬ WN_X8_apart P a j → N_138 a j = N0 a j) → (jA P M_138) → (jB P M_138) → (jH P M_138) → (jK P M_138) → (jL P M_138) → (jR P M_138) → (jS P M_138) → (jT P M_138) → (x3_138 = 0 ∨ x3_138 = 1) → ∃ r, D_X8_apart_138 P x3_138 M_138 N_138 = some r ∧ ((∀ a j, ¬ WM_X8_apart P a j → r.2.1 a j = M0 a j) ∧ (∀ a j, ¬ WN_X8_apart P a j → r.2.2 a j = N0 a j) ∧ ((jB P r.2.1) ∧ (jS P r.2.1) ∧ (jR P r.2.1) ∧ (jK P r.2.1) ∧ (jT P r.2.1))) := by
    intro x3_138 M_138 N_138 k_138 kn_138 p_jA_138 p_jB_138 p_jH_138 p_jK_138 p_jL_138 p_jR_138 p_jS_138 p_jT_138 f0_138
    obtain ⟨u0_jB_138, u1_jB_138, u2_jB_138, u3_jB_138, u4_jB_138, u5_jB_138⟩ := id p_jB_138
    obtain ⟨u0_jS_138, u1_jS_138, u2_jS_138, u3_jS_138, u4_jS_138, u5_jS_138, u6_jS_138, u7_jS_138⟩ := jS.ints p_jS_138
    obtain ⟨u0_jT_138, u1_jT_138, u2_jT_138, u3_jT_138, u4_jT_138, u5_jT_138⟩ := id p_jT_138
    unfold D_X8_apart_138
    refine vB (v_X8_takesBack p_jB_138 p_jA_138) (fun e_139 f_139 q_139 => ?_)
    have k_139 : ∀ a j, ¬ WM_X8_apart P a j → e_139 a j = M0 a j := fun a j h => (q_139.1 a j (wz_M_X8_takesBack_X8_apart h)).trans (k_138 a j h)
    have c7_139 : Int32.toInt (e_139 P 7) = Int32.toInt (M_138 P 7) := congrArg Int32.toInt (q_139.1 P 7 (wc_X8_takesBack_7))
    have c8_139 : Int32.toInt (e_139 P 8) = Int32.toInt (M_138 P 8) := congrArg Int32.toInt (q_139.1 P 8 (wc_X8_takesBack_8))
    have c33_139 : Int32.toInt (e_139 P 33) = Int32.toInt (M_138 P 33) := congrArg Int32.toInt (q_139.1 P 33 (wc_X8_takesBack_33))
    have p_jA_139 : jA P e_139 := jA.mono p_jA_138 (fun a j h => q_139.1 a j (wf_jA_X8_takesBack h))
    have p_jB_139 : jB P e_139 := jB.mono p_jB_138 (fun a j h => q_139.1 a j (wf_jB_X8_takesBack h))
    obtain ⟨u0_jB_139, u1_jB_139, u2_jB_139, u3_jB_139, u4_jB_139, u5_jB_139⟩ := id p_jB_139
    have p_jH_139 : jH P e_139 := jH.mono p_jH_138 (fun a j h => q_139.1 a j (wf_jH_X8_takesBack h))
    have p_jK_139 : jK P e_139 := jK.mono p_jK_138 (fun a j h => q_139.1 a j (wf_jK_X8_takesBack h))
    have p_jL_139 : jL P e_139 := jL.mono p_jL_138 (fun a j h => q_139.1 a j (wf_jL_X8_takesBack h))
    have p_jR_139 : jR P e_139 := jR.mono p_jR_138 (fun a j h => q_139.1 a j (wf_jR_X8_takesBack h))
    have p_jT_139 : jT P e_139 := jT.mono p_jT_138 (fun a j h => q_139.1 a j (wf_jT_X8_takesBack h))
    obtain ⟨u0_jT_139, u1_jT_139, u2_jT_139, u3_jT_139, u4_jT_139, u5_jT_139⟩ := id p_jT_139
    have x0_139 := q_139.2
    obtain ⟨u0_jS_139, u1_jS_139, u2_jS_139, u3_jS_139, u4_jS_139, u5_jS_139, u6_jS_139, u7_jS_139⟩ := jS.ints x0_139
    refine vIf (fun h_143 => ?_) (fun h_143 => ?_)
    · have i_143 := congrArg Int32.toInt h_143
      (try simp only [Int32.toInt_add, Int32.toInt_sub, Int32.toInt_mul, Int32.toInt_toInt64, Int64.toInt_add, z_m1, Int32.reduceToInt, Int64.reduceToInt, Int32.reduceToNatClampNeg, Int.bmod_def] at i_143)
      refine vB (v_X8_refuse) (fun e_159 f_159 q_159 => ?_)
      have k_159 : ∀ a j, ¬ WM_X8_apart P a j → e_159.2 a j = M0 a j := fun a j h => (q_159 a j (wz_M_X8_refuse_X8_apart h)).trans (k_139 a j h)
      have c7_159 : Int32.toInt (e_159.2 P 7) = Int32.toInt (e_139 P 7) := congrArg Int32.toInt (q_159 P 7 (wc_X8_refuse_7))
      have c8_159 : Int32.toInt (e_159.2 P 8) = Int32.toInt (e_139 P 8) := congrArg Int32.toInt (q_159 P 8 (wc_X8_refuse_8))
      have c33_159 : Int32.toInt (e_159.2 P 33) = Int32.toInt (e_139 P 33) := congrArg Int32.toInt (q_159 P 33 (wc_X8_refuse_33))
      have n_159 : nA P e_159.2 = nA P e_139 := nA_congr (fun a j h => q_159 a j (wf_nA_X8_refuse h))
      have p_jA_159 : jA P e_159.2 := jA.mono p_jA_139 (fun a j h => q_159 a j (wf_jA_X8_refuse h))
      have p_jB_159 : jB P e_159.2 := jB.mono p_jB_139 (fun a j h => q_159 a j (wf_jB_X8_refuse h))
      obtain ⟨u0_jB_159, u1_jB_159, u2_jB_159, u3_jB_159, u4_jB_159, u5_jB_159⟩ := id p_jB_159
      have p_jH_159 : jH P e_159.2 := jH.mono p_jH_139 (fun a j h => q_159 a j (wf_jH_X8_refuse h))
      have p_jK_159 : jK P e_159.2 := jK.mono p_jK_139 (fun a j h => q_159 a j (wf_jK_X8_refuse h))
      have p_jL_159 : jL P e_159.2 := jL.mono p_jL_139 (fun a j h => q_159 a j (wf_jL_X8_refuse h))
      have p_jR_159 : jR P e_159.2 := jR.mono p_jR_139 (fun a j h => q_159 a j (wf_jR_X8_refuse h))
      have p_jT_159 : jT P e_159.2 := jT.mono p_jT_139 (fun a j h => q_159 a j (wf_jT_X8_refuse h))
      obtain ⟨u0_jT_159, u1_jT_159, u2_jT_159, u3_jT_159, u4_jT_159, u5_jT_159⟩ := id p_jT_159
      have p_jS_159 : jS P e_159.2 := jS.mono x0_139 (fun a j h => q_159 a j (wf_jS_X8_refuse h))
      obtain ⟨u0_jS_159, u1_jS_159, u2_jS_159, u3_jS_159, u4_jS_159, u5_jS_159, u6_jS_159, u7_jS_159⟩ := jS.ints p_jS_159
      exact T_163 _ _ _ k_159 kn_138 p_jA_159 p_jB_159 p_jH_159 p_jK_159 p_jL_159 p_jR_159 p_jS_159 p_jT_159
    · have i_143 : ¬ Int32.toInt x3_138 = Int32.toInt (0 : Int32) := fun q => h_143 (Int32.toInt_inj.mp q)
      (try simp only [Int32.toInt_add, Int32.toInt_sub, Int32.toInt_mul, Int32.toInt_toInt64, Int64.toInt_add, z_m1, Int32.reduceToInt, Int64.reduceToInt, Int32.reduceToNatClampNeg, Int.bmod_def] at i_143)
      refine vB (v_X8_givesLong) (fun e_151 f_151 q_151 => ?_)
      have k_151 : ∀ a j, ¬ WM_X8_apart P a j → e_151.2 a j = M0 a j := fun a j h => (q_151 a j (wz_M_X8_givesLong_X8_apart h)).trans (k_139 a j h)
      have c7_151 : Int32.toInt (e_151.2 P 7) = Int32.toInt (e_139 P 7) := congrArg Int32.toInt (q_151 P 7 (wc_X8_givesLong_7))
      have c8_151 : Int32.toInt (e_151.2 P 8) = Int32.toInt (e_139 P 8) := congrArg Int32.toInt (q_151 P 8 (wc_X8_givesLong_8))
      have c33_151 : Int32.toInt (e_151.2 P 33) = Int32.toInt (e_139 P 33) := congrArg Int32.toInt (q_151 P 33 (wc_X8_givesLong_33))
      have n_151 : nA P e_151.2 = nA P e_139 := nA_congr (fun a j h => q_151 a j (wf_nA_X8_givesLong h))
      have p_jA_151 : jA P e_151.2 := jA.mono p_jA_139 (fun a j h => q_151 a j (wf_jA_X8_givesLong h))
      have p_jB_151 : jB P e_151.2 := jB.mono p_jB_139 (fun a j h => q_151 a j (wf_jB_X8_givesLong h))
      obtain ⟨u0_jB_151, u1_jB_151, u2_jB_151, u3_jB_151, u4_jB_151, u5_jB_151⟩ := id p_jB_151
      have p_jH_151 : jH P e_151.2 := jH.mono p_jH_139 (fun a j h => q_151 a j (wf_jH_X8_givesLong h))
      have p_jK_151 : jK P e_151.2 := jK.mono p_jK_139 (fun a j h => q_151 a j (wf_jK_X8_givesLong h))
      have p_jL_151 : jL P e_151.2 := jL.mono p_jL_139 (fun a j h => q_151 a j (wf_jL_X8_givesLong h))
      have p_jR_151 : jR P e_151.2 := jR.mono p_jR_139 (fun a j h => q_151 a j (wf_jR_X8_givesLong h))
      have p_jT_151 : jT P e_151.2 := jT.mono p_jT_139 (fun a j h => q_151 a j (wf_jT_X8_givesLong h))
      obtain ⟨u0_jT_151, u1_jT_151, u2_jT_151, u3_jT_151, u4_jT_151, u5_jT_151⟩ := id p_jT_151
      have p_jS_151 : jS P e_151.2 := jS.mono x0_139 (fun a j h => q_151 a j (wf_jS_X8_givesLong h))
      obtain ⟨u0_jS_151, u1_jS_151, u2_jS_151, u3_jS_151, u4_jS_151, u5_jS_151, u6_jS_151, u7_jS_151⟩ := jS.ints p_jS_151
      exact T_163 _ _ _ k_151 kn_138 p_jA_151 p_jB_151 p_jH_151 p_jK_151 p_jL_151 p_jR_151 p_jS_151 p_jT_151
  have TL_90 : ∀ u : Nat, ∀ (x2_90 : Int32) (x3_90 : Int32) (x4_90 : Int32) (M_90 : zMt) (N_90 : zNt), (∀ a j, ¬ WM_X8_apart P a j → M_90 a j = M0 a j) → (∀ a j, ¬ WN_X8_apart P a j → N_90 a j = N0 a j) → (jA P M_90) → (jB P M_90) → (jH P M_90) → (jK P M_90) → (jL P M_90) → (jR P M_90) → (jS P M_90) → (jT P M_90) → (x3_90 = 0 ∨ x3_90 = 1) → (0 ≤ Int32.toInt x4_90) → (Int32.toInt x4_90 ≤ 10) → (nA P M_90 ≤ 7) → (2147483648 - Int32.toInt x4_90).toNat < u → ∃ r, D_X8_apart_90 P u x2_90 x3_90 x4_90 M_90 N_90 = some r ∧ ((∀ a j, ¬ WM_X8_apart P a j → r.2.1 a j = M0 a j) ∧ (∀ a j, ¬ WN_X8_apart P a j → r.2.2 a j = N0 a j) ∧ ((jB P r.2.1) ∧ (jS P r.2.1) ∧ (jR P r.2.1) ∧ (jK P r.2.1) ∧ (jT P r.2.1))) := by
    intro u
    induction u with
    | zero => intro x2_90 x3_90 x4_90 M_90 N_90 k_90 kn_90 p_jA_90 p_jB_90 p_jH_90 p_jK_90 p_jL_90 p_jR_90 p_jS_90 p_jT_90 f0_90 f1_90 f2_90 f3_90 hm_90; exact absurd hm_90 (Nat.not_lt_zero _)
    | succ u_90 ih_90 =>
      have T_124 : ∀ (x2_124 : Int32) (x3_124 : Int32) (x4_124 : Int32) (y1_124 : Int32) (y2_124 : Int32) (M_124 : zMt) (N_124 : zNt), (∀ a j, ¬ WM_X8_apart P a j → M_124 a j = M0 a j) → (∀ a j, ¬ WN_X8_apart P a j → N_124 a j = N0 a j) → (jA P M_124) → (jB P M_124) → (jH P M_124) → (jK P M_124) → (jL P M_124) → (jR P M_124) → (jS P M_124) → (jT P M_124) → (x3_124 = 0 ∨ x3_124 = 1) → (0 ≤ Int32.toInt x4_124) → (Int32.toInt x4_124 < Int32.toInt (M_124 P 33)) → ((2147483648 - Int32.toInt x4_124).toNat < u_90 + 1) → (Int32.toInt x4_124 < 2147483647) → (nA P M_124 ≤ 7) → ∃ r, D_X8_apart_124 P (D_X8_apart_90 P u_90) x2_124 x3_124 x4_124 y1_124 y2_124 M_124 N_124 = some r ∧ ((∀ a j, ¬ WM_X8_apart P a j → r.2.1 a j = M0 a j) ∧ (∀ a j, ¬ WN_X8_apart P a j → r.2.2 a j = N0 a j) ∧ ((jB P r.2.1) ∧ (jS P r.2.1) ∧ (jR P r.2.1) ∧ (jK P r.2.1) ∧ (jT P r.2.1))) := by
        intro x2_124 x3_124 x4_124 y1_124 y2_124 M_124 N_124 k_124 kn_124 p_jA_124 p_jB_124 p_jH_124 p_jK_124 p_jL_124 p_jR_124 p_jS_124 p_jT_124 f0_124 f1_124 f2_124 f3_124 f4_124 f5_124
        obtain ⟨u0_jB_124, u1_jB_124, u2_jB_124, u3_jB_124, u4_jB_124, u5_jB_124⟩ := id p_jB_124
        obtain ⟨u0_jS_124, u1_jS_124, u2_jS_124, u3_jS_124, u4_jS_124, u5_jS_124, u6_jS_124, u7_jS_124⟩ := jS.ints p_jS_124
        obtain ⟨u0_jT_124, u1_jT_124, u2_jT_124, u3_jT_124, u4_jT_124, u5_jT_124⟩ := id p_jT_124
        unfold D_X8_apart_124
        refine vLm (W := WM_X8_apart P) (fun a j h => (zu_ne (wq_X8_apart_M0_58 h)).trans (k_124 a j h)) (fun M_125 f_125 k_125 => ?_)
        have c7_125 : Int32.toInt (M_125 P 7) = Int32.toInt (M_124 P 7) := congrArg Int32.toInt ((congrFun (congrFun f_125.symm P) 7).trans (zu_ne (fun z => absurd z.2 (by decide))))
        have c8_125 : Int32.toInt (M_125 P 8) = Int32.toInt (M_124 P 8) := congrArg Int32.toInt ((congrFun (congrFun f_125.symm P) 8).trans (zu_ne (fun z => absurd z.2 (by decide))))
        have c33_125 : Int32.toInt (M_125 P 33) = Int32.toInt (M_124 P 33) := congrArg Int32.toInt ((congrFun (congrFun f_125.symm P) 33).trans (zu_ne (fun z => absurd z.2 (by decide))))
        have n_125 : nA P M_125 = nA P M_124 := nA_congr (fun a j h => (congrFun (congrFun f_125.symm a) j).trans (zu_ne (wf_nA_M0_58 h)))
        have p_jA_125 : jA P M_125 := jA.mono p_jA_124 (fun a j h => (congrFun (congrFun f_125.symm a) j).trans (zu_ne (wf_jA_M0_58 h)))
        have p_jB_125 : jB P M_125 := jB.mono p_jB_124 (fun a j h => (congrFun (congrFun f_125.symm a) j).trans (zu_ne (wf_jB_M0_58 h)))
        obtain ⟨u0_jB_125, u1_jB_125, u2_jB_125, u3_jB_125, u4_jB_125, u5_jB_125⟩ := id p_jB_125
        have p_jH_125 : jH P M_125 := jH.mono p_jH_124 (fun a j h => (congrFun (congrFun f_125.symm a) j).trans (zu_ne (wf_jH_M0_58 h)))
        have p_jK_125 : jK P M_125 := jK.mono p_jK_124 (fun a j h => (congrFun (congrFun f_125.symm a) j).trans (zu_ne (wf_jK_M0_58 h)))
        have p_jL_125 : jL P M_125 := jL.mono p_jL_124 (fun a j h => (congrFun (congrFun f_125.symm a) j).trans (zu_ne (wf_jL_M0_58 h)))
        have p_jR_125 : jR P M_125 := jR.mono p_jR_124 (fun a j h => (congrFun (congrFun f_125.symm a) j).trans (zu_ne (wf_jR_M0_58 h)))
        have p_jS_125 : jS P M_125 := jS.mono p_jS_124 (fun a j h => (congrFun (congrFun f_125.symm a) j).trans (zu_ne (wf_jS_M0_58 h)))
        obtain ⟨u0_jS_125, u1_jS_125, u2_jS_125, u3_jS_125, u4_jS_125, u5_jS_125, u6_jS_125, u7_jS_125⟩ := jS.ints p_jS_125
        have p_jT_125 : jT P M_125 := jT.mono p_jT_124 (fun a j h => (congrFun (congrFun f_125.symm a) j).trans (zu_ne (wf_jT_M0_58 h)))
        obtain ⟨u0_jT_125, u1_jT_125, u2_jT_125, u3_jT_125, u4_jT_125, u5_jT_125⟩ := id p_jT_125
        exact ih_90 _ _ _ _ _ k_125 kn_124 p_jA_125 p_jB_125 p_jH_125 p_jK_125 p_jL_125 p_jR_125 p_jS_125 p_jT_125 (by first | exact Or.inl rfl | exact Or.inr rfl | assumption) (by first | omega | (simp only [Int32.toInt_add, Int32.toInt_sub, Int32.toInt_mul, Int32.toInt_toInt64, Int64.toInt_add, z_m1, Int32.reduceToInt, Int64.reduceToInt, Int32.reduceToNatClampNeg, Int.bmod_def, or_true, true_or, and_true, true_and] <;> omega)) (by first | omega | (simp only [Int32.toInt_add, Int32.toInt_sub, Int32.toInt_mul, Int32.toInt_toInt64, Int64.toInt_add, z_m1, Int32.reduceToInt, Int64.reduceToInt, Int32.reduceToNatClampNeg, Int.bmod_def, or_true, true_or, and_true, true_and] <;> omega)) (by first | omega | (simp only [Int32.toInt_add, Int32.toInt_sub, Int32.toInt_mul, Int32.toInt_toInt64, Int64.toInt_add, z_m1, Int32.reduceToInt, Int64.reduceToInt, Int32.reduceToNatClampNeg, Int.bmod_def, or_true, true_or, and_true, true_and] <;> omega)) (z_up1 f4_124 f3_124)
      intro x2_90 x3_90 x4_90 M_90 N_90 k_90 kn_90 p_jA_90 p_jB_90 p_jH_90 p_jK_90 p_jL_90 p_jR_90 p_jS_90 p_jT_90 f0_90 f1_90 f2_90 f3_90 hm_90
      obtain ⟨u0_jB_90, u1_jB_90, u2_jB_90, u3_jB_90, u4_jB_90, u5_jB_90⟩ := id p_jB_90
      obtain ⟨u0_jS_90, u1_jS_90, u2_jS_90, u3_jS_90, u4_jS_90, u5_jS_90, u6_jS_90, u7_jS_90⟩ := jS.ints p_jS_90
      obtain ⟨u0_jT_90, u1_jT_90, u2_jT_90, u3_jT_90, u4_jT_90, u5_jT_90⟩ := id p_jT_90
      rw [D_X8_apart_90]
      refine vIf (fun h_96 => ?_) (fun h_96 => ?_)
      · have i_96 := Int32.le_iff_toInt_le.mp h_96
        (try simp only [Int32.toInt_add, Int32.toInt_sub, Int32.toInt_mul, Int32.toInt_toInt64, Int64.toInt_add, z_m1, Int32.reduceToInt, Int64.reduceToInt, Int32.reduceToNatClampNeg, Int.bmod_def] at i_96)
        refine vB (v_X8_laysAll p_jB_90 p_jS_90 p_jR_90 (by first | omega | (simp only [Int32.toInt_add, Int32.toInt_sub, Int32.toInt_mul, Int32.toInt_toInt64, Int64.toInt_add, z_m1, Int32.reduceToInt, Int64.reduceToInt, Int32.reduceToNatClampNeg, Int.bmod_def, or_true, true_or, and_true, true_and] <;> omega))) (fun e_135 f_135 q_135 => ?_)
        have k_135 : ∀ a j, ¬ WM_X8_apart P a j → e_135.1 a j = M0 a j := fun a j h => (q_135.1 a j (wz_M_X8_laysAll_X8_apart h)).trans (k_90 a j h)
        have kn_135 : ∀ a j, ¬ WN_X8_apart P a j → e_135.2 a j = N0 a j := fun a j h => (q_135.2.1 a j (wz_N_X8_laysAll_X8_apart h)).trans (kn_90 a j h)
        have c7_135 : Int32.toInt (e_135.1 P 7) = Int32.toInt (M_90 P 7) := congrArg Int32.toInt (q_135.1 P 7 (wc_X8_laysAll_7))
        have c8_135 : Int32.toInt (e_135.1 P 8) = Int32.toInt (M_90 P 8) := congrArg Int32.toInt (q_135.1 P 8 (wc_X8_laysAll_8))
        have n_135 : nA P e_135.1 = nA P M_90 := nA_congr (fun a j h => q_135.1 a j (wf_nA_X8_laysAll h))
        have p_jA_135 : jA P e_135.1 := jA.mono p_jA_90 (fun a j h => q_135.1 a j (wf_jA_X8_laysAll h))
        have p_jK_135 : jK P e_135.1 := jK.mono p_jK_90 (fun a j h => q_135.1 a j (wf_jK_X8_laysAll h))
        have p_jS_135 : jS P e_135.1 := jS.mono p_jS_90 (fun a j h => q_135.1 a j (wf_jS_X8_laysAll h))
        obtain ⟨u0_jS_135, u1_jS_135, u2_jS_135, u3_jS_135, u4_jS_135, u5_jS_135, u6_jS_135, u7_jS_135⟩ := jS.ints p_jS_135
        have p_jT_135 : jT P e_135.1 := jT.mono p_jT_90 (fun a j h => q_135.1 a j (wf_jT_X8_laysAll h))
        obtain ⟨u0_jT_135, u1_jT_135, u2_jT_135, u3_jT_135, u4_jT_135, u5_jT_135⟩ := id p_jT_135
        obtain ⟨x0_135, x1_135, x2_135, x3_135, x4_135⟩ := q_135.2.2
        obtain ⟨u0_jB_135, u1_jB_135, u2_jB_135, u3_jB_135, u4_jB_135, u5_jB_135⟩ := id x0_135
        (try simp only [Int32.toInt_add, Int32.toInt_sub, Int32.toInt_mul, Int32.toInt_toInt64, Int64.toInt_add, z_m1, Int32.reduceToInt, Int64.reduceToInt, Int32.reduceToNatClampNeg, Int.bmod_def] at x4_135)
        exact T_138 _ _ _ k_135 kn_135 p_jA_135 x0_135 x2_135 p_jK_135 x1_135 x3_135 p_jS_135 p_jT_135 (by first | exact Or.inl rfl | exact Or.inr rfl | assumption)
      · have i_96 := Int32.lt_iff_toInt_lt.mp (Int32.not_le.mp h_96)
        (try simp only [Int32.toInt_add, Int32.toInt_sub, Int32.toInt_mul, Int32.toInt_toInt64, Int64.toInt_add, z_m1, Int32.reduceToInt, Int64.reduceToInt, Int32.reduceToNatClampNeg, Int.bmod_def] at i_96)
        refine vI (vp_of (by first | omega | (simp only [Int32.toInt_add, Int32.toInt_sub, Int32.toInt_mul, Int32.toInt_toInt64, Int64.toInt_add, z_m1, Int32.reduceToInt, Int64.reduceToInt, Int32.reduceToNatClampNeg, Int.bmod_def, or_true, true_or, and_true, true_and] <;> omega)) (by first | omega | (simp only [Int32.toInt_add, Int32.toInt_sub, Int32.toInt_mul, Int32.toInt_toInt64, Int64.toInt_add, z_m1, Int32.reduceToInt, Int64.reduceToInt, Int32.reduceToNatClampNeg, Int.bmod_def, or_true, true_or, and_true, true_and] <;> omega))) ?_
        refine vIf (fun h_113 => ?_) (fun h_113 => ?_)
        · have i_113 := congrArg Int32.toInt h_113
          (try simp only [Int32.toInt_add, Int32.toInt_sub, Int32.toInt_mul, Int32.toInt_toInt64, Int64.toInt_add, z_m1, Int32.reduceToInt, Int64.reduceToInt, Int32.reduceToNatClampNeg, Int.bmod_def] at i_113)
          exact T_124 _ _ _ _ _ _ _ k_90 kn_90 p_jA_90 p_jB_90 p_jH_90 p_jK_90 p_jL_90 p_jR_90 p_jS_90 p_jT_90 (by first | exact Or.inl rfl | exact Or.inr rfl | assumption) (by first | omega | (simp only [Int32.toInt_add, Int32.toInt_sub, Int32.toInt_mul, Int32.toInt_toInt64, Int64.toInt_add, z_m1, Int32.reduceToInt, Int64.reduceToInt, Int32.reduceToNatClampNeg, Int.bmod_def, or_true, true_or, and_true, true_and] <;> omega)) (by first | omega | (simp only [Int32.toInt_add, Int32.toInt_sub, Int32.toInt_mul, Int32.toInt_toInt64, Int64.toInt_add, z_m1, Int32.reduceToInt, Int64.reduceToInt, Int32.reduceToNatClampNeg, Int.bmod_def, or_true, true_or, and_true, true_and] <;> omega)) hm_90 (by first | assumption | exact z_lt (by assumption) | exact z_lt2 (by assumption) | exact z_lt3 (by assumption) (by first | assumption | decide)) (by first | omega | (simp only [Int32.toInt_add, Int32.toInt_sub, Int32.toInt_mul, Int32.toInt_toInt64, Int64.toInt_add, z_m1, Int32.reduceToInt, Int64.reduceToInt, Int32.reduceToNatClampNeg, Int.bmod_def, or_true, true_or, and_true, true_and] <;> omega))
        · have i_113 : ¬ Int32.toInt ((M_90 (P + 11) x4_90.toNatClampNeg) &&& x2_90) = Int32.toInt (0 : Int32) := fun q => h_113 (Int32.toInt_inj.mp q)
          (try simp only [Int32.toInt_add, Int32.toInt_sub, Int32.toInt_mul, Int32.toInt_toInt64, Int64.toInt_add, z_m1, Int32.reduceToInt, Int64.reduceToInt, Int32.reduceToNatClampNeg, Int.bmod_def] at i_113)
          exact T_124 _ _ _ _ _ _ _ k_90 kn_90 p_jA_90 p_jB_90 p_jH_90 p_jK_90 p_jL_90 p_jR_90 p_jS_90 p_jT_90 (by first | exact Or.inl rfl | exact Or.inr rfl | assumption) (by first | omega | (simp only [Int32.toInt_add, Int32.toInt_sub, Int32.toInt_mul, Int32.toInt_toInt64, Int64.toInt_add, z_m1, Int32.reduceToInt, Int64.reduceToInt, Int32.reduceToNatClampNeg, Int.bmod_def, or_true, true_or, and_true, true_and] <;> omega)) (by first | omega | (simp only [Int32.toInt_add, Int32.toInt_sub, Int32.toInt_mul, Int32.toInt_toInt64, Int64.toInt_add, z_m1, Int32.reduceToInt, Int64.reduceToInt, Int32.reduceToNatClampNeg, Int.bmod_def, or_true, true_or, and_true, true_and] <;> omega)) hm_90 (by first | assumption | exact z_lt (by assumption) | exact z_lt2 (by assumption) | exact z_lt3 (by assumption) (by first | assumption | decide)) (by first | omega | (simp only [Int32.toInt_add, Int32.toInt_sub, Int32.toInt_mul, Int32.toInt_toInt64, Int64.toInt_add, z_m1, Int32.reduceToInt, Int64.reduceToInt, Int32.reduceToNatClampNeg, Int.bmod_def, or_true, true_or, and_true, true_and] <;> omega))
  have T_90 : ∀ (x2_90 : Int32) (x3_90 : Int32) (x4_90 : Int32) (M_90 : zMt) (N_90 : zNt), (∀ a j, ¬ WM_X8_apart P a j → M_90 a j = M0 a j) → (∀ a j, ¬ WN_X8_apart P a j → N_90 a j = N0 a j) → (jA P M_90) → (jB P M_90) → (jH P M_90) → (jK P M_90) → (jL P M_90) → (jR P M_90) → (jS P M_90) → (jT P M_90) → (x3_90 = 0 ∨ x3_90 = 1) → (0 ≤ Int32.toInt x4_90) → (Int32.toInt x4_90 ≤ 10) → (nA P M_90 ≤ 7) → ∃ r, D_X8_apart_90 P zFu x2_90 x3_90 x4_90 M_90 N_90 = some r ∧ ((∀ a j, ¬ WM_X8_apart P a j → r.2.1 a j = M0 a j) ∧ (∀ a j, ¬ WN_X8_apart P a j → r.2.2 a j = N0 a j) ∧ ((jB P r.2.1) ∧ (jS P r.2.1) ∧ (jR P r.2.1) ∧ (jK P r.2.1) ∧ (jT P r.2.1))) := fun x2_90 x3_90 x4_90 M_90 N_90 k_90 kn_90 p_jA_90 p_jB_90 p_jH_90 p_jK_90 p_jL_90 p_jR_90 p_jS_90 p_jT_90 f0_90 f1_90 f2_90 f3_90 => TL_90 zFu x2_90 x3_90 x4_90 M_90 N_90 k_90 kn_90 p_jA_90 p_jB_90 p_jH_90 p_jK_90 p_jL_90 p_jR_90 p_jS_90 p_jT_90 f0_90 f1_90 f2_90 f3_90 (zFu_up _)
  have T_77 : ∀ (x2_77 : Int32) (y0_77 : Int32) (M_77 : zMt) (N_77 : zNt), (∀ a j, ¬ WM_X8_apart P a j → M_77 a j = M0 a j) → (∀ a j, ¬ WN_X8_apart P a j → N_77 a j = N0 a j) → (jA P M_77) → (jB P M_77) → (jH P M_77) → (jK P M_77) → (jL P M_77) → (jR P M_77) → (jS P M_77) → (jT P M_77) → (y0_77 = 0 ∨ y0_77 = 1) → (Int32.toInt y0_77 = 0 ∨ nA P M_77 ≤ 7) → ∃ r, D_X8_apart_77 P x2_77 y0_77 M_77 N_77 = some r ∧ ((∀ a j, ¬ WM_X8_apart P a j → r.2.1 a j = M0 a j) ∧ (∀ a j, ¬ WN_X8_apart P a j → r.2.2 a j = N0 a j) ∧ ((jB P r.2.1) ∧ (jS P r.2.1) ∧ (jR P r.2.1) ∧ (jK P r.2.1) ∧ (jT P r.2.1))) := by
    intro x2_77 y0_77 M_77 N_77 k_77 kn_77 p_jA_77 p_jB_77 p_jH_77 p_jK_77 p_jL_77 p_jR_77 p_jS_77 p_jT_77 f0_77 f1_77
    obtain ⟨u0_jB_77, u1_jB_77, u2_jB_77, u3_jB_77, u4_jB_77, u5_jB_77⟩ := id p_jB_77
    obtain ⟨u0_jS_77, u1_jS_77, u2_jS_77, u3_jS_77, u4_jS_77, u5_jS_77, u6_jS_77, u7_jS_77⟩ := jS.ints p_jS_77
    obtain ⟨u0_jT_77, u1_jT_77, u2_jT_77, u3_jT_77, u4_jT_77, u5_jT_77⟩ := id p_jT_77
    unfold D_X8_apart_77
    refine vIf (fun h_79 => ?_) (fun h_79 => ?_)
    · have i_79 := congrArg Int32.toInt h_79
      (try simp only [Int32.toInt_add, Int32.toInt_sub, Int32.toInt_mul, Int32.toInt_toInt64, Int64.toInt_add, z_m1, Int32.reduceToInt, Int64.reduceToInt, Int32.reduceToNatClampNeg, Int.bmod_def] at i_79)
      exact T_138 _ _ _ k_77 kn_77 p_jA_77 p_jB_77 p_jH_77 p_jK_77 p_jL_77 p_jR_77 p_jS_77 p_jT_77 (by first | exact Or.inl rfl | exact Or.inr rfl | assumption)
    · have i_79 : ¬ Int32.toInt y0_77 = Int32.toInt (0 : Int32) := fun q => h_79 (Int32.toInt_inj.mp q)
      (try simp only [Int32.toInt_add, Int32.toInt_sub, Int32.toInt_mul, Int32.toInt_toInt64, Int64.toInt_add, z_m1, Int32.reduceToInt, Int64.reduceToInt, Int32.reduceToNatClampNeg, Int.bmod_def] at i_79)
      refine vLm (W := WM_X8_apart P) (fun a j h => (zu_ne (wq_X8_apart_M0_58 h)).trans (k_77 a j h)) (fun M_84 f_84 k_84 => ?_)
      have c7_84 : Int32.toInt (M_84 P 7) = Int32.toInt (M_77 P 7) := congrArg Int32.toInt ((congrFun (congrFun f_84.symm P) 7).trans (zu_ne (fun z => absurd z.2 (by decide))))
      have c8_84 : Int32.toInt (M_84 P 8) = Int32.toInt (M_77 P 8) := congrArg Int32.toInt ((congrFun (congrFun f_84.symm P) 8).trans (zu_ne (fun z => absurd z.2 (by decide))))
      have c33_84 : Int32.toInt (M_84 P 33) = Int32.toInt (M_77 P 33) := congrArg Int32.toInt ((congrFun (congrFun f_84.symm P) 33).trans (zu_ne (fun z => absurd z.2 (by decide))))
      have n_84 : nA P M_84 = nA P M_77 := nA_congr (fun a j h => (congrFun (congrFun f_84.symm a) j).trans (zu_ne (wf_nA_M0_58 h)))
      have p_jA_84 : jA P M_84 := jA.mono p_jA_77 (fun a j h => (congrFun (congrFun f_84.symm a) j).trans (zu_ne (wf_jA_M0_58 h)))
      have p_jB_84 : jB P M_84 := jB.mono p_jB_77 (fun a j h => (congrFun (congrFun f_84.symm a) j).trans (zu_ne (wf_jB_M0_58 h)))
      obtain ⟨u0_jB_84, u1_jB_84, u2_jB_84, u3_jB_84, u4_jB_84, u5_jB_84⟩ := id p_jB_84
      have p_jH_84 : jH P M_84 := jH.mono p_jH_77 (fun a j h => (congrFun (congrFun f_84.symm a) j).trans (zu_ne (wf_jH_M0_58 h)))
      have p_jK_84 : jK P M_84 := jK.mono p_jK_77 (fun a j h => (congrFun (congrFun f_84.symm a) j).trans (zu_ne (wf_jK_M0_58 h)))
      have p_jL_84 : jL P M_84 := jL.mono p_jL_77 (fun a j h => (congrFun (congrFun f_84.symm a) j).trans (zu_ne (wf_jL_M0_58 h)))
      have p_jR_84 : jR P M_84 := jR.mono p_jR_77 (fun a j h => (congrFun (congrFun f_84.symm a) j).trans (zu_ne (wf_jR_M0_58 h)))
      have p_jS_84 : jS P M_84 := jS.mono p_jS_77 (fun a j h => (congrFun (congrFun f_84.symm a) j).trans (zu_ne (wf_jS_M0_58 h)))
      obtain ⟨u0_jS_84, u1_jS_84, u2_jS_84, u3_jS_84, u4_jS_84, u5_jS_84, u6_jS_84, u7_jS_84⟩ := jS.ints p_jS_84
      have p_jT_84 : jT P M_84 := jT.mono p_jT_77 (fun a j h => (congrFun (congrFun f_84.symm a) j).trans (zu_ne (wf_jT_M0_58 h)))
      obtain ⟨u0_jT_84, u1_jT_84, u2_jT_84, u3_jT_84, u4_jT_84, u5_jT_84⟩ := id p_jT_84
      exact T_90 _ _ _ _ _ k_84 kn_77 p_jA_84 p_jB_84 p_jH_84 p_jK_84 p_jL_84 p_jR_84 p_jS_84 p_jT_84 (by first | exact Or.inl rfl | exact Or.inr rfl | assumption) (by first | omega | (simp only [Int32.toInt_add, Int32.toInt_sub, Int32.toInt_mul, Int32.toInt_toInt64, Int64.toInt_add, z_m1, Int32.reduceToInt, Int64.reduceToInt, Int32.reduceToNatClampNeg, Int.bmod_def, or_true, true_or, and_true, true_and] <;> omega)) (by first | omega | (simp only [Int32.toInt_add, Int32.toInt_sub, Int32.toInt_mul, Int32.toInt_toInt64, Int64.toInt_add, z_m1, Int32.reduceToInt, Int64.reduceToInt, Int32.reduceToNatClampNeg, Int.bmod_def, or_true, true_or, and_true, true_and] <;> omega)) (by first | omega | (simp only [Int32.toInt_add, Int32.toInt_sub, Int32.toInt_mul, Int32.toInt_toInt64, Int64.toInt_add, z_m1, Int32.reduceToInt, Int64.reduceToInt, Int32.reduceToNatClampNeg, Int.bmod_def, or_true, true_or, and_true, true_and] <;> omega))
  have TL_19 : ∀ u : Nat, ∀ (x1_19 : Int32) (x2_19 : Int32) (x3_19 : Int32) (M_19 : zMt) (N_19 : zNt), (∀ a j, ¬ WM_X8_apart P a j → M_19 a j = M0 a j) → (∀ a j, ¬ WN_X8_apart P a j → N_19 a j = N0 a j) → (jB P M_19) → (jK P M_19) → (jR P M_19) → (jS P M_19) → (jT P M_19) → (0 ≤ Int32.toInt x3_19) → (Int32.toInt x3_19 ≤ 10) → (0 ≤ Int32.toInt x1_19 ∧ Int32.toInt x1_19 < Int32.toInt (M_19 (P + 1) 70)) → (2147483648 - Int32.toInt x3_19).toNat < u → ∃ r, D_X8_apart_19 P u x1_19 x2_19 x3_19 M_19 N_19 = some r ∧ ((∀ a j, ¬ WM_X8_apart P a j → r.2.1 a j = M0 a j) ∧ (∀ a j, ¬ WN_X8_apart P a j → r.2.2 a j = N0 a j) ∧ ((jB P r.2.1) ∧ (jS P r.2.1) ∧ (jR P r.2.1) ∧ (jK P r.2.1) ∧ (jT P r.2.1))) := by
    intro u
    induction u with
    | zero => intro x1_19 x2_19 x3_19 M_19 N_19 k_19 kn_19 p_jB_19 p_jK_19 p_jR_19 p_jS_19 p_jT_19 f0_19 f1_19 f2_19 hm_19; exact absurd hm_19 (Nat.not_lt_zero _)
    | succ u_19 ih_19 =>
      have T_48 : ∀ (x1_48 : Int32) (x3_48 : Int32) (y0_48 : Int32) (y1_48 : Int32) (M_48 : zMt) (N_48 : zNt), (∀ a j, ¬ WM_X8_apart P a j → M_48 a j = M0 a j) → (∀ a j, ¬ WN_X8_apart P a j → N_48 a j = N0 a j) → (jB P M_48) → (jK P M_48) → (jR P M_48) → (jS P M_48) → (jT P M_48) → (0 ≤ Int32.toInt x3_48) → (Int32.toInt x3_48 < Int32.toInt (M_48 P 8)) → ((2147483648 - Int32.toInt x3_48).toNat < u_19 + 1) → (Int32.toInt x3_48 < 2147483647) → (0 ≤ Int32.toInt x1_48 ∧ Int32.toInt x1_48 < Int32.toInt (M_48 (P + 1) 70)) → ∃ r, D_X8_apart_48 P (D_X8_apart_19 P u_19) x1_48 x3_48 y0_48 y1_48 M_48 N_48 = some r ∧ ((∀ a j, ¬ WM_X8_apart P a j → r.2.1 a j = M0 a j) ∧ (∀ a j, ¬ WN_X8_apart P a j → r.2.2 a j = N0 a j) ∧ ((jB P r.2.1) ∧ (jS P r.2.1) ∧ (jR P r.2.1) ∧ (jK P r.2.1) ∧ (jT P r.2.1))) := by
        intro x1_48 x3_48 y0_48 y1_48 M_48 N_48 k_48 kn_48 p_jB_48 p_jK_48 p_jR_48 p_jS_48 p_jT_48 f0_48 f1_48 f2_48 f3_48 f4_48
        obtain ⟨u0_jB_48, u1_jB_48, u2_jB_48, u3_jB_48, u4_jB_48, u5_jB_48⟩ := id p_jB_48
        obtain ⟨u0_jS_48, u1_jS_48, u2_jS_48, u3_jS_48, u4_jS_48, u5_jS_48, u6_jS_48, u7_jS_48⟩ := jS.ints p_jS_48
        obtain ⟨u0_jT_48, u1_jT_48, u2_jT_48, u3_jT_48, u4_jT_48, u5_jT_48⟩ := id p_jT_48
        unfold D_X8_apart_48
        exact ih_19 _ _ _ _ _ k_48 kn_48 p_jB_48 p_jK_48 p_jR_48 p_jS_48 p_jT_48 (by first | omega | (simp only [Int32.toInt_add, Int32.toInt_sub, Int32.toInt_mul, Int32.toInt_toInt64, Int64.toInt_add, z_m1, Int32.reduceToInt, Int64.reduceToInt, Int32.reduceToNatClampNeg, Int.bmod_def, or_true, true_or, and_true, true_and] <;> omega)) (by first | omega | (simp only [Int32.toInt_add, Int32.toInt_sub, Int32.toInt_mul, Int32.toInt_toInt64, Int64.toInt_add, z_m1, Int32.reduceToInt, Int64.reduceToInt, Int32.reduceToNatClampNeg, Int.bmod_def, or_true, true_or, and_true, true_and] <;> omega)) (by first | omega | (simp only [Int32.toInt_add, Int32.toInt_sub, Int32.toInt_mul, Int32.toInt_toInt64, Int64.toInt_add, z_m1, Int32.reduceToInt, Int64.reduceToInt, Int32.reduceToNatClampNeg, Int.bmod_def, or_true, true_or, and_true, true_and] <;> omega)) (z_up1 f3_48 f2_48)
      intro x1_19 x2_19 x3_19 M_19 N_19 k_19 kn_19 p_jB_19 p_jK_19 p_jR_19 p_jS_19 p_jT_19 f0_19 f1_19 f2_19 hm_19
      obtain ⟨u0_jB_19, u1_jB_19, u2_jB_19, u3_jB_19, u4_jB_19, u5_jB_19⟩ := id p_jB_19
      obtain ⟨u0_jS_19, u1_jS_19, u2_jS_19, u3_jS_19, u4_jS_19, u5_jS_19, u6_jS_19, u7_jS_19⟩ := jS.ints p_jS_19
      obtain ⟨u0_jT_19, u1_jT_19, u2_jT_19, u3_jT_19, u4_jT_19, u5_jT_19⟩ := id p_jT_19
      rw [D_X8_apart_19]
      refine vIf (fun h_24 => ?_) (fun h_24 => ?_)
      · have i_24 := Int32.le_iff_toInt_le.mp h_24
        (try simp only [Int32.toInt_add, Int32.toInt_sub, Int32.toInt_mul, Int32.toInt_toInt64, Int64.toInt_add, z_m1, Int32.reduceToInt, Int64.reduceToInt, Int32.reduceToNatClampNeg, Int.bmod_def] at i_24)
        refine vB (v_X8_putsAside p_jB_19 p_jS_19) (fun e_57 f_57 q_57 => ?_)
        have k_57 : ∀ a j, ¬ WM_X8_apart P a j → e_57 a j = M0 a j := fun a j h => (q_57.1 a j (wz_M_X8_putsAside_X8_apart h)).trans (k_19 a j h)
        have c7_57 : Int32.toInt (e_57 P 7) = Int32.toInt (M_19 P 7) := congrArg Int32.toInt (q_57.1 P 7 (wc_X8_putsAside_7))
        have c8_57 : Int32.toInt (e_57 P 8) = Int32.toInt (M_19 P 8) := congrArg Int32.toInt (q_57.1 P 8 (wc_X8_putsAside_8))
        have c33_57 : Int32.toInt (e_57 P 33) = Int32.toInt (M_19 P 33) := congrArg Int32.toInt (q_57.1 P 33 (wc_X8_putsAside_33))
        have n_57 : nA P e_57 = nA P M_19 := nA_congr (fun a j h => q_57.1 a j (wf_nA_X8_putsAside h))
        have p_jB_57 : jB P e_57 := jB.mono p_jB_19 (fun a j h => q_57.1 a j (wf_jB_X8_putsAside h))
        obtain ⟨u0_jB_57, u1_jB_57, u2_jB_57, u3_jB_57, u4_jB_57, u5_jB_57⟩ := id p_jB_57
        have p_jK_57 : jK P e_57 := jK.mono p_jK_19 (fun a j h => q_57.1 a j (wf_jK_X8_putsAside h))
        have p_jR_57 : jR P e_57 := jR.mono p_jR_19 (fun a j h => q_57.1 a j (wf_jR_X8_putsAside h))
        have p_jS_57 : jS P e_57 := jS.mono p_jS_19 (fun a j h => q_57.1 a j (wf_jS_X8_putsAside h))
        obtain ⟨u0_jS_57, u1_jS_57, u2_jS_57, u3_jS_57, u4_jS_57, u5_jS_57, u6_jS_57, u7_jS_57⟩ := jS.ints p_jS_57
        have p_jT_57 : jT P e_57 := jT.mono p_jT_19 (fun a j h => q_57.1 a j (wf_jT_X8_putsAside h))
        obtain ⟨u0_jT_57, u1_jT_57, u2_jT_57, u3_jT_57, u4_jT_57, u5_jT_57⟩ := id p_jT_57
        have x0_57 := q_57.2
        refine vB (v_X8_splits p_jB_57 p_jS_57 (by first | omega | (simp only [Int32.toInt_add, Int32.toInt_sub, Int32.toInt_mul, Int32.toInt_toInt64, Int64.toInt_add, z_m1, Int32.reduceToInt, Int64.reduceToInt, Int32.reduceToNatClampNeg, Int.bmod_def, or_true, true_or, and_true, true_and] <;> omega)) (by rw [q_57.1 (P + 1) 70 (by unfold WM_X8_putsAside; omega)]; omega)) (fun e_62 f_62 q_62 => ?_)
        have k_62 : ∀ a j, ¬ WM_X8_apart P a j → e_62 a j = M0 a j := fun a j h => (q_62.1 a j (wz_M_X8_splits_X8_apart h)).trans (k_57 a j h)
        have c7_62 : Int32.toInt (e_62 P 7) = Int32.toInt (e_57 P 7) := congrArg Int32.toInt (q_62.1 P 7 (wc_X8_splits_7))
        have c8_62 : Int32.toInt (e_62 P 8) = Int32.toInt (e_57 P 8) := congrArg Int32.toInt (q_62.1 P 8 (wc_X8_splits_8))
        have c33_62 : Int32.toInt (e_62 P 33) = Int32.toInt (e_57 P 33) := congrArg Int32.toInt (q_62.1 P 33 (wc_X8_splits_33))
        have p_jB_62 : jB P e_62 := jB.mono p_jB_57 (fun a j h => q_62.1 a j (wf_jB_X8_splits h))
        obtain ⟨u0_jB_62, u1_jB_62, u2_jB_62, u3_jB_62, u4_jB_62, u5_jB_62⟩ := id p_jB_62
        have p_jK_62 : jK P e_62 := jK.mono p_jK_57 (fun a j h => q_62.1 a j (wf_jK_X8_splits h))
        have p_jR_62 : jR P e_62 := jR.mono p_jR_57 (fun a j h => q_62.1 a j (wf_jR_X8_splits h))
        have p_jT_62 : jT P e_62 := jT.mono p_jT_57 (fun a j h => q_62.1 a j (wf_jT_X8_splits h))
        obtain ⟨u0_jT_62, u1_jT_62, u2_jT_62, u3_jT_62, u4_jT_62, u5_jT_62⟩ := id p_jT_62
        have p_jA_62 : jA P e_62 := jA.mono x0_57 (fun a j h => q_62.1 a j (wf_jA_X8_splits h))
        have x0_62 := q_62.2
        obtain ⟨u0_jS_62, u1_jS_62, u2_jS_62, u3_jS_62, u4_jS_62, u5_jS_62, u6_jS_62, u7_jS_62⟩ := jS.ints x0_62
        refine vB (v_X8_areMany p_jB_62 x0_62) (fun e_66 f_66 q_66 => ?_)
        have k_66 : ∀ a j, ¬ WM_X8_apart P a j → e_66.2 a j = M0 a j := fun a j h => (q_66.1 a j (wz_M_X8_areMany_X8_apart h)).trans (k_62 a j h)
        have b_66 := q_66.2.1
        have c7_66 : Int32.toInt (e_66.2 P 7) = Int32.toInt (e_62 P 7) := congrArg Int32.toInt (q_66.1 P 7 (wc_X8_areMany_7))
        have c8_66 : Int32.toInt (e_66.2 P 8) = Int32.toInt (e_62 P 8) := congrArg Int32.toInt (q_66.1 P 8 (wc_X8_areMany_8))
        have n_66 : nA P e_66.2 = nA P e_62 := nA_congr (fun a j h => q_66.1 a j (wf_nA_X8_areMany h))
        have p_jK_66 : jK P e_66.2 := jK.mono p_jK_62 (fun a j h => q_66.1 a j (wf_jK_X8_areMany h))
        have p_jR_66 : jR P e_66.2 := jR.mono p_jR_62 (fun a j h => q_66.1 a j (wf_jR_X8_areMany h))
        have p_jT_66 : jT P e_66.2 := jT.mono p_jT_62 (fun a j h => q_66.1 a j (wf_jT_X8_areMany h))
        obtain ⟨u0_jT_66, u1_jT_66, u2_jT_66, u3_jT_66, u4_jT_66, u5_jT_66⟩ := id p_jT_66
        have p_jA_66 : jA P e_66.2 := jA.mono p_jA_62 (fun a j h => q_66.1 a j (wf_jA_X8_areMany h))
        have p_jS_66 : jS P e_66.2 := jS.mono x0_62 (fun a j h => q_66.1 a j (wf_jS_X8_areMany h))
        obtain ⟨u0_jS_66, u1_jS_66, u2_jS_66, u3_jS_66, u4_jS_66, u5_jS_66, u6_jS_66, u7_jS_66⟩ := jS.ints p_jS_66
        obtain ⟨x0_66, x1_66, x2_66, x3_66, x4_66⟩ := q_66.2.2
        obtain ⟨u0_jB_66, u1_jB_66, u2_jB_66, u3_jB_66, u4_jB_66, u5_jB_66⟩ := id x0_66
        (try simp only [Int32.toInt_add, Int32.toInt_sub, Int32.toInt_mul, Int32.toInt_toInt64, Int64.toInt_add, z_m1, Int32.reduceToInt, Int64.reduceToInt, Int32.reduceToNatClampNeg, Int.bmod_def] at x3_66)
        (try simp only [Int32.toInt_add, Int32.toInt_sub, Int32.toInt_mul, Int32.toInt_toInt64, Int64.toInt_add, z_m1, Int32.reduceToInt, Int64.reduceToInt, Int32.reduceToNatClampNeg, Int.bmod_def] at x4_66)
        refine vIf (fun h_69 => ?_) (fun h_69 => ?_)
        · have i_69 := congrArg Int32.toInt h_69
          (try simp only [Int32.toInt_add, Int32.toInt_sub, Int32.toInt_mul, Int32.toInt_toInt64, Int64.toInt_add, z_m1, Int32.reduceToInt, Int64.reduceToInt, Int32.reduceToNatClampNeg, Int.bmod_def] at i_69)
          exact T_77 _ _ _ _ k_66 kn_19 p_jA_66 x0_66 x2_66 p_jK_66 x1_66 p_jR_66 p_jS_66 p_jT_66 (by first | exact Or.inl rfl | exact Or.inr rfl | assumption) (by first | omega | (simp only [Int32.toInt_add, Int32.toInt_sub, Int32.toInt_mul, Int32.toInt_toInt64, Int64.toInt_add, z_m1, Int32.reduceToInt, Int64.reduceToInt, Int32.reduceToNatClampNeg, Int.bmod_def, or_true, true_or, and_true, true_and] <;> omega))
        · have i_69 : ¬ Int32.toInt e_66.1 = Int32.toInt (0 : Int32) := fun q => h_69 (Int32.toInt_inj.mp q)
          (try simp only [Int32.toInt_add, Int32.toInt_sub, Int32.toInt_mul, Int32.toInt_toInt64, Int64.toInt_add, z_m1, Int32.reduceToInt, Int64.reduceToInt, Int32.reduceToNatClampNeg, Int.bmod_def] at i_69)
          exact T_77 _ _ _ _ k_66 kn_19 p_jA_66 x0_66 x2_66 p_jK_66 x1_66 p_jR_66 p_jS_66 p_jT_66 (by first | exact Or.inl rfl | exact Or.inr rfl | assumption) (by first | omega | (simp only [Int32.toInt_add, Int32.toInt_sub, Int32.toInt_mul, Int32.toInt_toInt64, Int64.toInt_add, z_m1, Int32.reduceToInt, Int64.reduceToInt, Int32.reduceToNatClampNeg, Int.bmod_def, or_true, true_or, and_true, true_and] <;> omega))
      · have i_24 := Int32.lt_iff_toInt_lt.mp (Int32.not_le.mp h_24)
        (try simp only [Int32.toInt_add, Int32.toInt_sub, Int32.toInt_mul, Int32.toInt_toInt64, Int64.toInt_add, z_m1, Int32.reduceToInt, Int64.reduceToInt, Int32.reduceToNatClampNeg, Int.bmod_def] at i_24)
        refine vI (vp_of (by first | omega | (simp only [Int32.toInt_add, Int32.toInt_sub, Int32.toInt_mul, Int32.toInt_toInt64, Int64.toInt_add, z_m1, Int32.reduceToInt, Int64.reduceToInt, Int32.reduceToNatClampNeg, Int.bmod_def, or_true, true_or, and_true, true_and] <;> omega)) (by first | omega | (simp only [Int32.toInt_add, Int32.toInt_sub, Int32.toInt_mul, Int32.toInt_toInt64, Int64.toInt_add, z_m1, Int32.reduceToInt, Int64.reduceToInt, Int32.reduceToNatClampNeg, Int.bmod_def, or_true, true_or, and_true, true_and] <;> omega))) ?_
        refine vIf (fun h_38 => ?_) (fun h_38 => ?_)
        · have i_38 := congrArg Int32.toInt h_38
          (try simp only [Int32.toInt_add, Int32.toInt_sub, Int32.toInt_mul, Int32.toInt_toInt64, Int64.toInt_add, z_m1, Int32.reduceToInt, Int64.reduceToInt, Int32.reduceToNatClampNeg, Int.bmod_def] at i_38)
          exact T_48 _ _ _ _ _ _ k_19 kn_19 p_jB_19 p_jK_19 p_jR_19 p_jS_19 p_jT_19 (by first | omega | (simp only [Int32.toInt_add, Int32.toInt_sub, Int32.toInt_mul, Int32.toInt_toInt64, Int64.toInt_add, z_m1, Int32.reduceToInt, Int64.reduceToInt, Int32.reduceToNatClampNeg, Int.bmod_def, or_true, true_or, and_true, true_and] <;> omega)) (by first | omega | (simp only [Int32.toInt_add, Int32.toInt_sub, Int32.toInt_mul, Int32.toInt_toInt64, Int64.toInt_add, z_m1, Int32.reduceToInt, Int64.reduceToInt, Int32.reduceToNatClampNeg, Int.bmod_def, or_true, true_or, and_true, true_and] <;> omega)) hm_19 (by first | assumption | exact z_lt (by assumption) | exact z_lt2 (by assumption) | exact z_lt3 (by assumption) (by first | assumption | decide)) (by first | omega | (simp only [Int32.toInt_add, Int32.toInt_sub, Int32.toInt_mul, Int32.toInt_toInt64, Int64.toInt_add, z_m1, Int32.reduceToInt, Int64.reduceToInt, Int32.reduceToNatClampNeg, Int.bmod_def, or_true, true_or, and_true, true_and] <;> omega))
        · have i_38 : ¬ Int32.toInt (M_19 (P + 1) ((10 : Int32) + x3_19).toNatClampNeg) = Int32.toInt x1_19 := fun q => h_38 (Int32.toInt_inj.mp q)
          (try simp only [Int32.toInt_add, Int32.toInt_sub, Int32.toInt_mul, Int32.toInt_toInt64, Int64.toInt_add, z_m1, Int32.reduceToInt, Int64.reduceToInt, Int32.reduceToNatClampNeg, Int.bmod_def] at i_38)
          exact T_48 _ _ _ _ _ _ k_19 kn_19 p_jB_19 p_jK_19 p_jR_19 p_jS_19 p_jT_19 (by first | omega | (simp only [Int32.toInt_add, Int32.toInt_sub, Int32.toInt_mul, Int32.toInt_toInt64, Int64.toInt_add, z_m1, Int32.reduceToInt, Int64.reduceToInt, Int32.reduceToNatClampNeg, Int.bmod_def, or_true, true_or, and_true, true_and] <;> omega)) (by first | omega | (simp only [Int32.toInt_add, Int32.toInt_sub, Int32.toInt_mul, Int32.toInt_toInt64, Int64.toInt_add, z_m1, Int32.reduceToInt, Int64.reduceToInt, Int32.reduceToNatClampNeg, Int.bmod_def, or_true, true_or, and_true, true_and] <;> omega)) hm_19 (by first | assumption | exact z_lt (by assumption) | exact z_lt2 (by assumption) | exact z_lt3 (by assumption) (by first | assumption | decide)) (by first | omega | (simp only [Int32.toInt_add, Int32.toInt_sub, Int32.toInt_mul, Int32.toInt_toInt64, Int64.toInt_add, z_m1, Int32.reduceToInt, Int64.reduceToInt, Int32.reduceToNatClampNeg, Int.bmod_def, or_true, true_or, and_true, true_and] <;> omega))
  have T_19 : ∀ (x1_19 : Int32) (x2_19 : Int32) (x3_19 : Int32) (M_19 : zMt) (N_19 : zNt), (∀ a j, ¬ WM_X8_apart P a j → M_19 a j = M0 a j) → (∀ a j, ¬ WN_X8_apart P a j → N_19 a j = N0 a j) → (jB P M_19) → (jK P M_19) → (jR P M_19) → (jS P M_19) → (jT P M_19) → (0 ≤ Int32.toInt x3_19) → (Int32.toInt x3_19 ≤ 10) → (0 ≤ Int32.toInt x1_19 ∧ Int32.toInt x1_19 < Int32.toInt (M_19 (P + 1) 70)) → ∃ r, D_X8_apart_19 P zFu x1_19 x2_19 x3_19 M_19 N_19 = some r ∧ ((∀ a j, ¬ WM_X8_apart P a j → r.2.1 a j = M0 a j) ∧ (∀ a j, ¬ WN_X8_apart P a j → r.2.2 a j = N0 a j) ∧ ((jB P r.2.1) ∧ (jS P r.2.1) ∧ (jR P r.2.1) ∧ (jK P r.2.1) ∧ (jT P r.2.1))) := fun x1_19 x2_19 x3_19 M_19 N_19 k_19 kn_19 p_jB_19 p_jK_19 p_jR_19 p_jS_19 p_jT_19 f0_19 f1_19 f2_19 => TL_19 zFu x1_19 x2_19 x3_19 M_19 N_19 k_19 kn_19 p_jB_19 p_jK_19 p_jR_19 p_jS_19 p_jT_19 f0_19 f1_19 f2_19 (zFu_up _)
  unfold D_X8_apart
  refine vB (v_X8_isParty p_jS) (fun e_2 f_2 q_2 => ?_)
  have b_2 := q_2.1
  have x0_2 := q_2.2
  (try simp only [Int32.toInt_add, Int32.toInt_sub, Int32.toInt_mul, Int32.toInt_toInt64, Int64.toInt_add, z_m1, Int32.reduceToInt, Int64.reduceToInt, Int32.reduceToNatClampNeg, Int.bmod_def] at x0_2)
  refine vIf (fun h_5 => ?_) (fun h_5 => ?_)
  · have i_5 := congrArg Int32.toInt h_5
    (try simp only [Int32.toInt_add, Int32.toInt_sub, Int32.toInt_mul, Int32.toInt_toInt64, Int64.toInt_add, z_m1, Int32.reduceToInt, Int64.reduceToInt, Int32.reduceToNatClampNeg, Int.bmod_def] at i_5)
    refine vB (v_X8_refuse) (fun e_10 f_10 q_10 => ?_)
    have k_10 : ∀ a j, ¬ WM_X8_apart P a j → e_10.2 a j = M0 a j := fun a j h => (q_10 a j (wz_M_X8_refuse_X8_apart h))
    have c7_10 : Int32.toInt (e_10.2 P 7) = Int32.toInt (M0 P 7) := congrArg Int32.toInt (q_10 P 7 (wc_X8_refuse_7))
    have c8_10 : Int32.toInt (e_10.2 P 8) = Int32.toInt (M0 P 8) := congrArg Int32.toInt (q_10 P 8 (wc_X8_refuse_8))
    have c33_10 : Int32.toInt (e_10.2 P 33) = Int32.toInt (M0 P 33) := congrArg Int32.toInt (q_10 P 33 (wc_X8_refuse_33))
    have n_10 : nA P e_10.2 = nA P M0 := nA_congr (fun a j h => q_10 a j (wf_nA_X8_refuse h))
    have p_jB_10 : jB P e_10.2 := jB.mono p_jB (fun a j h => q_10 a j (wf_jB_X8_refuse h))
    obtain ⟨u0_jB_10, u1_jB_10, u2_jB_10, u3_jB_10, u4_jB_10, u5_jB_10⟩ := id p_jB_10
    have p_jS_10 : jS P e_10.2 := jS.mono p_jS (fun a j h => q_10 a j (wf_jS_X8_refuse h))
    obtain ⟨u0_jS_10, u1_jS_10, u2_jS_10, u3_jS_10, u4_jS_10, u5_jS_10, u6_jS_10, u7_jS_10⟩ := jS.ints p_jS_10
    have p_jR_10 : jR P e_10.2 := jR.mono p_jR (fun a j h => q_10 a j (wf_jR_X8_refuse h))
    have p_jK_10 : jK P e_10.2 := jK.mono p_jK (fun a j h => q_10 a j (wf_jK_X8_refuse h))
    have p_jT_10 : jT P e_10.2 := jT.mono p_jT (fun a j h => q_10 a j (wf_jT_X8_refuse h))
    obtain ⟨u0_jT_10, u1_jT_10, u2_jT_10, u3_jT_10, u4_jT_10, u5_jT_10⟩ := id p_jT_10
    exact ⟨_, rfl, k_10, (fun _ _ _ => rfl), ⟨p_jB_10, p_jS_10, p_jR_10, p_jK_10, p_jT_10⟩⟩
  · have i_5 : ¬ Int32.toInt e_2 = Int32.toInt (0 : Int32) := fun q => h_5 (Int32.toInt_inj.mp q)
    (try simp only [Int32.toInt_add, Int32.toInt_sub, Int32.toInt_mul, Int32.toInt_toInt64, Int64.toInt_add, z_m1, Int32.reduceToInt, Int64.reduceToInt, Int32.reduceToNatClampNeg, Int.bmod_def] at i_5)
    exact T_19 _ _ _ _ _ (fun _ _ _ => rfl) (fun _ _ _ => rfl) p_jB p_jK p_jR p_jS p_jT (by first | omega | (simp only [Int32.toInt_add, Int32.toInt_sub, Int32.toInt_mul, Int32.toInt_toInt64, Int64.toInt_add, z_m1, Int32.reduceToInt, Int64.reduceToInt, Int32.reduceToNatClampNeg, Int.bmod_def, or_true, true_or, and_true, true_and] <;> omega)) (by first | omega | (simp only [Int32.toInt_add, Int32.toInt_sub, Int32.toInt_mul, Int32.toInt_toInt64, Int64.toInt_add, z_m1, Int32.reduceToInt, Int64.reduceToInt, Int32.reduceToNatClampNeg, Int.bmod_def, or_true, true_or, and_true, true_and] <;> omega)) (by first | omega | (simp only [Int32.toInt_add, Int32.toInt_sub, Int32.toInt_mul, Int32.toInt_toInt64, Int64.toInt_add, z_m1, Int32.reduceToInt, Int64.reduceToInt, Int32.reduceToNatClampNeg, Int.bmod_def, or_true, true_or, and_true, true_and] <;> omega))
def WM_X8_split (P : Nat) (a j : Nat) : Prop := (P + 1 ≤ a ∧ a < P + 2) ∨ (P + 4 ≤ a ∧ a < P + 5) ∨ (P + 11 ≤ a ∧ a < P + 18) ∨ (a = P ∧ (j = 6 ∨ j = 9 ∨ j = 12 ∨ j = 33))
theorem wz_M_X8_refuse_X8_split {P a j : Nat} (h : ¬ WM_X8_split P a j) : ¬ WM_X8_refuse P a j := by unfold WM_X8_refuse; unfold WM_X8_split at h; omega
theorem wz_M_X8_keeps_X8_split {P a j : Nat} (h : ¬ WM_X8_split P a j) : ¬ WM_X8_keeps P a j := by unfold WM_X8_keeps; unfold WM_X8_split at h; omega
theorem wz_M_X8_splits_X8_split {P a j : Nat} (h : ¬ WM_X8_split P a j) : ¬ WM_X8_splits P a j := by unfold WM_X8_splits; unfold WM_X8_split at h; omega
theorem wz_M_X8_laysApplicants_X8_split {P a j : Nat} (h : ¬ WM_X8_split P a j) : ¬ WM_X8_laysApplicants P a j := by unfold WM_X8_laysApplicants; unfold WM_X8_split at h; omega
theorem wz_M_X8_gives_X8_split {P a j : Nat} (h : ¬ WM_X8_split P a j) : ¬ WM_X8_gives P a j := by unfold WM_X8_gives; unfold WM_X8_split at h; omega
set_option maxRecDepth 100000 in
set_option maxHeartbeats 4000000 in
theorem v_X8_split {P : Nat} {v0 : Int32} {M0 : zMt}  (p_jB : jB P M0) (p_jS : jS P M0) (p_jR : jR P M0) (p_jK : jK P M0) (p_jT : jT P M0) : ∃ r, D_X8_split P v0 M0 = some r ∧ ((∀ a j, ¬ WM_X8_split P a j → r.2 a j = M0 a j) ∧ ((jB P r.2) ∧ (jS P r.2) ∧ (jR P r.2) ∧ (jK P r.2) ∧ (jT P r.2))) := by
  obtain ⟨u0_jB, u1_jB, u2_jB, u3_jB, u4_jB, u5_jB⟩ := id p_jB
  obtain ⟨u0_jS, u1_jS, u2_jS, u3_jS, u4_jS, u5_jS, u6_jS, u7_jS⟩ := jS.ints p_jS
  obtain ⟨u0_jT, u1_jT, u2_jT, u3_jT, u4_jT, u5_jT⟩ := id p_jT
  unfold D_X8_split
  refine vB (v_X8_isParty p_jS) (fun e_2 f_2 q_2 => ?_)
  have b_2 := q_2.1
  have x0_2 := q_2.2
  (try simp only [Int32.toInt_add, Int32.toInt_sub, Int32.toInt_mul, Int32.toInt_toInt64, Int64.toInt_add, z_m1, Int32.reduceToInt, Int64.reduceToInt, Int32.reduceToNatClampNeg, Int.bmod_def] at x0_2)
  refine vIf (fun h_5 => ?_) (fun h_5 => ?_)
  · have i_5 := congrArg Int32.toInt h_5
    (try simp only [Int32.toInt_add, Int32.toInt_sub, Int32.toInt_mul, Int32.toInt_toInt64, Int64.toInt_add, z_m1, Int32.reduceToInt, Int64.reduceToInt, Int32.reduceToNatClampNeg, Int.bmod_def] at i_5)
    refine vB (v_X8_refuse) (fun e_10 f_10 q_10 => ?_)
    have k_10 : ∀ a j, ¬ WM_X8_split P a j → e_10.2 a j = M0 a j := fun a j h => (q_10 a j (wz_M_X8_refuse_X8_split h))
    have c7_10 : Int32.toInt (e_10.2 P 7) = Int32.toInt (M0 P 7) := congrArg Int32.toInt (q_10 P 7 (wc_X8_refuse_7))
    have c8_10 : Int32.toInt (e_10.2 P 8) = Int32.toInt (M0 P 8) := congrArg Int32.toInt (q_10 P 8 (wc_X8_refuse_8))
    have c33_10 : Int32.toInt (e_10.2 P 33) = Int32.toInt (M0 P 33) := congrArg Int32.toInt (q_10 P 33 (wc_X8_refuse_33))
    have n_10 : nA P e_10.2 = nA P M0 := nA_congr (fun a j h => q_10 a j (wf_nA_X8_refuse h))
    have p_jB_10 : jB P e_10.2 := jB.mono p_jB (fun a j h => q_10 a j (wf_jB_X8_refuse h))
    obtain ⟨u0_jB_10, u1_jB_10, u2_jB_10, u3_jB_10, u4_jB_10, u5_jB_10⟩ := id p_jB_10
    have p_jS_10 : jS P e_10.2 := jS.mono p_jS (fun a j h => q_10 a j (wf_jS_X8_refuse h))
    obtain ⟨u0_jS_10, u1_jS_10, u2_jS_10, u3_jS_10, u4_jS_10, u5_jS_10, u6_jS_10, u7_jS_10⟩ := jS.ints p_jS_10
    have p_jR_10 : jR P e_10.2 := jR.mono p_jR (fun a j h => q_10 a j (wf_jR_X8_refuse h))
    have p_jK_10 : jK P e_10.2 := jK.mono p_jK (fun a j h => q_10 a j (wf_jK_X8_refuse h))
    have p_jT_10 : jT P e_10.2 := jT.mono p_jT (fun a j h => q_10 a j (wf_jT_X8_refuse h))
    obtain ⟨u0_jT_10, u1_jT_10, u2_jT_10, u3_jT_10, u4_jT_10, u5_jT_10⟩ := id p_jT_10
    exact ⟨_, rfl, k_10, ⟨p_jB_10, p_jS_10, p_jR_10, p_jK_10, p_jT_10⟩⟩
  · have i_5 : ¬ Int32.toInt e_2 = Int32.toInt (0 : Int32) := fun q => h_5 (Int32.toInt_inj.mp q)
    (try simp only [Int32.toInt_add, Int32.toInt_sub, Int32.toInt_mul, Int32.toInt_toInt64, Int64.toInt_add, z_m1, Int32.reduceToInt, Int64.reduceToInt, Int32.reduceToNatClampNeg, Int.bmod_def] at i_5)
    refine vB (v_X8_keeps p_jB p_jS p_jK p_jT) (fun e_15 f_15 q_15 => ?_)
    have k_15 : ∀ a j, ¬ WM_X8_split P a j → e_15 a j = M0 a j := fun a j h => (q_15.1 a j (wz_M_X8_keeps_X8_split h))
    have c7_15 : Int32.toInt (e_15 P 7) = Int32.toInt (M0 P 7) := congrArg Int32.toInt (q_15.1 P 7 (wc_X8_keeps_7))
    have c8_15 : Int32.toInt (e_15 P 8) = Int32.toInt (M0 P 8) := congrArg Int32.toInt (q_15.1 P 8 (wc_X8_keeps_8))
    have c33_15 : Int32.toInt (e_15 P 33) = Int32.toInt (M0 P 33) := congrArg Int32.toInt (q_15.1 P 33 (wc_X8_keeps_33))
    have n_15 : nA P e_15 = nA P M0 := nA_congr (fun a j h => q_15.1 a j (wf_nA_X8_keeps h))
    have p_jB_15 : jB P e_15 := jB.mono p_jB (fun a j h => q_15.1 a j (wf_jB_X8_keeps h))
    obtain ⟨u0_jB_15, u1_jB_15, u2_jB_15, u3_jB_15, u4_jB_15, u5_jB_15⟩ := id p_jB_15
    have p_jS_15 : jS P e_15 := jS.mono p_jS (fun a j h => q_15.1 a j (wf_jS_X8_keeps h))
    obtain ⟨u0_jS_15, u1_jS_15, u2_jS_15, u3_jS_15, u4_jS_15, u5_jS_15, u6_jS_15, u7_jS_15⟩ := jS.ints p_jS_15
    have p_jR_15 : jR P e_15 := jR.mono p_jR (fun a j h => q_15.1 a j (wf_jR_X8_keeps h))
    obtain ⟨x0_15, x1_15⟩ := q_15.2
    obtain ⟨u0_jT_15, u1_jT_15, u2_jT_15, u3_jT_15, u4_jT_15, u5_jT_15⟩ := id x1_15
    refine vB (v_X8_splits p_jB_15 p_jS_15 (by first | omega | (simp only [Int32.toInt_add, Int32.toInt_sub, Int32.toInt_mul, Int32.toInt_toInt64, Int64.toInt_add, z_m1, Int32.reduceToInt, Int64.reduceToInt, Int32.reduceToNatClampNeg, Int.bmod_def, or_true, true_or, and_true, true_and] <;> omega)) (by rw [q_15.1 (P + 1) 70 (by unfold WM_X8_keeps; omega)]; omega)) (fun e_20 f_20 q_20 => ?_)
    have k_20 : ∀ a j, ¬ WM_X8_split P a j → e_20 a j = M0 a j := fun a j h => (q_20.1 a j (wz_M_X8_splits_X8_split h)).trans (k_15 a j h)
    have c7_20 : Int32.toInt (e_20 P 7) = Int32.toInt (e_15 P 7) := congrArg Int32.toInt (q_20.1 P 7 (wc_X8_splits_7))
    have c8_20 : Int32.toInt (e_20 P 8) = Int32.toInt (e_15 P 8) := congrArg Int32.toInt (q_20.1 P 8 (wc_X8_splits_8))
    have c33_20 : Int32.toInt (e_20 P 33) = Int32.toInt (e_15 P 33) := congrArg Int32.toInt (q_20.1 P 33 (wc_X8_splits_33))
    have p_jB_20 : jB P e_20 := jB.mono p_jB_15 (fun a j h => q_20.1 a j (wf_jB_X8_splits h))
    obtain ⟨u0_jB_20, u1_jB_20, u2_jB_20, u3_jB_20, u4_jB_20, u5_jB_20⟩ := id p_jB_20
    have p_jR_20 : jR P e_20 := jR.mono p_jR_15 (fun a j h => q_20.1 a j (wf_jR_X8_splits h))
    have p_jK_20 : jK P e_20 := jK.mono x0_15 (fun a j h => q_20.1 a j (wf_jK_X8_splits h))
    have p_jT_20 : jT P e_20 := jT.mono x1_15 (fun a j h => q_20.1 a j (wf_jT_X8_splits h))
    obtain ⟨u0_jT_20, u1_jT_20, u2_jT_20, u3_jT_20, u4_jT_20, u5_jT_20⟩ := id p_jT_20
    have x0_20 := q_20.2
    obtain ⟨u0_jS_20, u1_jS_20, u2_jS_20, u3_jS_20, u4_jS_20, u5_jS_20, u6_jS_20, u7_jS_20⟩ := jS.ints x0_20
    refine vB (v_X8_laysApplicants p_jB_20 x0_20) (fun e_24 f_24 q_24 => ?_)
    have k_24 : ∀ a j, ¬ WM_X8_split P a j → e_24 a j = M0 a j := fun a j h => (q_24.1 a j (wz_M_X8_laysApplicants_X8_split h)).trans (k_20 a j h)
    have c7_24 : Int32.toInt (e_24 P 7) = Int32.toInt (e_20 P 7) := congrArg Int32.toInt (q_24.1 P 7 (wc_X8_laysApplicants_7))
    have c8_24 : Int32.toInt (e_24 P 8) = Int32.toInt (e_20 P 8) := congrArg Int32.toInt (q_24.1 P 8 (wc_X8_laysApplicants_8))
    have n_24 : nA P e_24 = nA P e_20 := nA_congr (fun a j h => q_24.1 a j (wf_nA_X8_laysApplicants h))
    have p_jR_24 : jR P e_24 := jR.mono p_jR_20 (fun a j h => q_24.1 a j (wf_jR_X8_laysApplicants h))
    have p_jK_24 : jK P e_24 := jK.mono p_jK_20 (fun a j h => q_24.1 a j (wf_jK_X8_laysApplicants h))
    have p_jT_24 : jT P e_24 := jT.mono p_jT_20 (fun a j h => q_24.1 a j (wf_jT_X8_laysApplicants h))
    obtain ⟨u0_jT_24, u1_jT_24, u2_jT_24, u3_jT_24, u4_jT_24, u5_jT_24⟩ := id p_jT_24
    have p_jS_24 : jS P e_24 := jS.mono x0_20 (fun a j h => q_24.1 a j (wf_jS_X8_laysApplicants h))
    obtain ⟨u0_jS_24, u1_jS_24, u2_jS_24, u3_jS_24, u4_jS_24, u5_jS_24, u6_jS_24, u7_jS_24⟩ := jS.ints p_jS_24
    obtain ⟨x0_24, x1_24, x2_24, x3_24⟩ := q_24.2
    obtain ⟨u0_jB_24, u1_jB_24, u2_jB_24, u3_jB_24, u4_jB_24, u5_jB_24⟩ := id x0_24
    (try simp only [Int32.toInt_add, Int32.toInt_sub, Int32.toInt_mul, Int32.toInt_toInt64, Int64.toInt_add, z_m1, Int32.reduceToInt, Int64.reduceToInt, Int32.reduceToNatClampNeg, Int.bmod_def] at x3_24)
    refine vB (v_X8_gives) (fun e_32 f_32 q_32 => ?_)
    have k_32 : ∀ a j, ¬ WM_X8_split P a j → e_32.2 a j = M0 a j := fun a j h => (q_32 a j (wz_M_X8_gives_X8_split h)).trans (k_24 a j h)
    have c7_32 : Int32.toInt (e_32.2 P 7) = Int32.toInt (e_24 P 7) := congrArg Int32.toInt (q_32 P 7 (wc_X8_gives_7))
    have c8_32 : Int32.toInt (e_32.2 P 8) = Int32.toInt (e_24 P 8) := congrArg Int32.toInt (q_32 P 8 (wc_X8_gives_8))
    have c33_32 : Int32.toInt (e_32.2 P 33) = Int32.toInt (e_24 P 33) := congrArg Int32.toInt (q_32 P 33 (wc_X8_gives_33))
    have n_32 : nA P e_32.2 = nA P e_24 := nA_congr (fun a j h => q_32 a j (wf_nA_X8_gives h))
    have p_jR_32 : jR P e_32.2 := jR.mono p_jR_24 (fun a j h => q_32 a j (wf_jR_X8_gives h))
    have p_jK_32 : jK P e_32.2 := jK.mono p_jK_24 (fun a j h => q_32 a j (wf_jK_X8_gives h))
    have p_jT_32 : jT P e_32.2 := jT.mono p_jT_24 (fun a j h => q_32 a j (wf_jT_X8_gives h))
    obtain ⟨u0_jT_32, u1_jT_32, u2_jT_32, u3_jT_32, u4_jT_32, u5_jT_32⟩ := id p_jT_32
    have p_jS_32 : jS P e_32.2 := jS.mono p_jS_24 (fun a j h => q_32 a j (wf_jS_X8_gives h))
    obtain ⟨u0_jS_32, u1_jS_32, u2_jS_32, u3_jS_32, u4_jS_32, u5_jS_32, u6_jS_32, u7_jS_32⟩ := jS.ints p_jS_32
    have p_jB_32 : jB P e_32.2 := jB.mono x0_24 (fun a j h => q_32 a j (wf_jB_X8_gives h))
    obtain ⟨u0_jB_32, u1_jB_32, u2_jB_32, u3_jB_32, u4_jB_32, u5_jB_32⟩ := id p_jB_32
    have p_jL_32 : jL P e_32.2 := jL.mono x1_24 (fun a j h => q_32 a j (wf_jL_X8_gives h))
    have p_jH_32 : jH P e_32.2 := jH.mono x2_24 (fun a j h => q_32 a j (wf_jH_X8_gives h))
    exact ⟨_, rfl, k_32, ⟨p_jB_32, p_jS_32, p_jR_32, p_jK_32, p_jT_32⟩⟩
/-! the reader's packages -/
/-- how far the reference has read -/
def jX (P : Nat) (M : zMt) : Prop := 0 ≤ (M P 15).toInt ∧ (M P 15).toInt ≤ 700 ∧ 0 ≤ (M P 17).toInt ∧ (M P 17).toInt ≤ (M P 15).toInt
theorem jX.mono {P : Nat} {M M' : zMt} (h : jX P M) (hf : ∀ a j, (a = P ∧ (j = 15 ∨ j = 17)) → M' a j = M a j) : jX P M' := by
  unfold jX
  rw [hf P 15 (by omega), hf P 17 (by omega)]
  exact h
/-- how many names it has read -/
def jY (P : Nat) (M : zMt) : Prop := 0 ≤ (M P 28).toInt ∧ (M P 28).toInt ≤ 5 ∧ 0 ≤ (M P 29).toInt ∧ (M P 29).toInt ≤ 10 ∧ 0 ≤ (M P 30).toInt ∧ (M P 30).toInt ≤ 4
theorem jY.mono {P : Nat} {M M' : zMt} (h : jY P M) (hf : ∀ a j, (a = P ∧ (j = 28 ∨ j = 29 ∨ j = 30)) → M' a j = M a j) : jY P M' := by
  unfold jY
  rw [hf P 28 (by omega), hf P 29 (by omega), hf P 30 (by omega)]
  exact h
set_option maxRecDepth 100000 in
set_option maxHeartbeats 4000000 in
theorem v_X8_byteAt {P : Nat} {M : zMt} {v0 : Int32}  (p_jX : jX P M) (i_1 : 0 ≤ Int32.toInt v0) : ∃ r, D_X8_byteAt P M v0 = some r ∧ (((Int32.toInt r = -1 ∨ Int32.toInt v0 < Int32.toInt (M P 15)))) := by
  obtain ⟨u0_jX, u1_jX, u2_jX, u3_jX⟩ := id p_jX
  have T_18 : ∀ (y0_18 : Int32), (jX P M) → (Int32.toInt y0_18 = -1 ∨ Int32.toInt v0 < Int32.toInt (M P 15)) → ∃ r, D_X8_byteAt_18 P M y0_18 = some r ∧ (((Int32.toInt r = -1 ∨ Int32.toInt v0 < Int32.toInt (M P 15)))) := by
    intro y0_18 p_jX_18 f0_18
    obtain ⟨u0_jX_18, u1_jX_18, u2_jX_18, u3_jX_18⟩ := id p_jX_18
    unfold D_X8_byteAt_18
    exact ⟨_, rfl, (by first | omega | (simp only [Int32.toInt_add, Int32.toInt_sub, Int32.toInt_mul, Int32.toInt_toInt64, Int64.toInt_add, z_m1, Int32.reduceToInt, Int64.reduceToInt, Int32.reduceToNatClampNeg, Int.bmod_def, or_true, true_or, and_true, true_and] <;> omega))⟩
  unfold D_X8_byteAt
  refine vIf (fun h_5 => ?_) (fun h_5 => ?_)
  · have i_5 := Int32.le_iff_toInt_le.mp h_5
    (try simp only [Int32.toInt_add, Int32.toInt_sub, Int32.toInt_mul, Int32.toInt_toInt64, Int64.toInt_add, z_m1, Int32.reduceToInt, Int64.reduceToInt, Int32.reduceToNatClampNeg, Int.bmod_def] at i_5)
    exact T_18 _ p_jX (by first | omega | (simp only [Int32.toInt_add, Int32.toInt_sub, Int32.toInt_mul, Int32.toInt_toInt64, Int64.toInt_add, z_m1, Int32.reduceToInt, Int64.reduceToInt, Int32.reduceToNatClampNeg, Int.bmod_def, or_true, true_or, and_true, true_and] <;> omega))
  · have i_5 := Int32.lt_iff_toInt_lt.mp (Int32.not_le.mp h_5)
    (try simp only [Int32.toInt_add, Int32.toInt_sub, Int32.toInt_mul, Int32.toInt_toInt64, Int64.toInt_add, z_m1, Int32.reduceToInt, Int64.reduceToInt, Int32.reduceToNatClampNeg, Int.bmod_def] at i_5)
    refine vI (vp_of (by first | omega | (simp only [Int32.toInt_add, Int32.toInt_sub, Int32.toInt_mul, Int32.toInt_toInt64, Int64.toInt_add, z_m1, Int32.reduceToInt, Int64.reduceToInt, Int32.reduceToNatClampNeg, Int.bmod_def, or_true, true_or, and_true, true_and] <;> omega)) (by first | omega | (simp only [Int32.toInt_add, Int32.toInt_sub, Int32.toInt_mul, Int32.toInt_toInt64, Int64.toInt_add, z_m1, Int32.reduceToInt, Int64.reduceToInt, Int32.reduceToNatClampNeg, Int.bmod_def, or_true, true_or, and_true, true_and] <;> omega))) ?_
    exact T_18 _ p_jX (by first | omega | (simp only [Int32.toInt_add, Int32.toInt_sub, Int32.toInt_mul, Int32.toInt_toInt64, Int64.toInt_add, z_m1, Int32.reduceToInt, Int64.reduceToInt, Int32.reduceToNatClampNeg, Int.bmod_def, or_true, true_or, and_true, true_and] <;> omega))
set_option maxRecDepth 100000 in
set_option maxHeartbeats 4000000 in
theorem v_X8_isLetter  {v0 : Int32}  : ∃ r, D_X8_isLetter v0 = some r ∧ ((r = 0 ∨ r = 1) ∧ ((Int32.toInt r = 0 ∨ 97 ≤ Int32.toInt v0))) := by
  have T_17 : ∀ (y0_17 : Int32), (y0_17 = 0 ∨ y0_17 = 1) → (Int32.toInt y0_17 = 0 ∨ 97 ≤ Int32.toInt v0) → ∃ r, D_X8_isLetter_17 y0_17 = some r ∧ ((r = 0 ∨ r = 1) ∧ ((Int32.toInt r = 0 ∨ 97 ≤ Int32.toInt v0))) := by
    intro y0_17 f0_17 f1_17
    unfold D_X8_isLetter_17
    exact ⟨_, rfl, (by first | exact Or.inl rfl | exact Or.inr rfl | assumption), (by first | omega | (simp only [Int32.toInt_add, Int32.toInt_sub, Int32.toInt_mul, Int32.toInt_toInt64, Int64.toInt_add, z_m1, Int32.reduceToInt, Int64.reduceToInt, Int32.reduceToNatClampNeg, Int.bmod_def, or_true, true_or, and_true, true_and] <;> omega))⟩
  have T_16 : ∃ r, D_X8_isLetter_16 = some r ∧ ((r = 0 ∨ r = 1) ∧ ((Int32.toInt r = 0 ∨ 97 ≤ Int32.toInt v0))) := by
    unfold D_X8_isLetter_16
    exact T_17 _ (by first | exact Or.inl rfl | exact Or.inr rfl | assumption) (by first | omega | (simp only [Int32.toInt_add, Int32.toInt_sub, Int32.toInt_mul, Int32.toInt_toInt64, Int64.toInt_add, z_m1, Int32.reduceToInt, Int64.reduceToInt, Int32.reduceToNatClampNeg, Int.bmod_def, or_true, true_or, and_true, true_and] <;> omega))
  unfold D_X8_isLetter
  refine vIf (fun h_3 => ?_) (fun h_3 => ?_)
  · have i_3 := Int32.lt_iff_toInt_lt.mp h_3
    (try simp only [Int32.toInt_add, Int32.toInt_sub, Int32.toInt_mul, Int32.toInt_toInt64, Int64.toInt_add, z_m1, Int32.reduceToInt, Int64.reduceToInt, Int32.reduceToNatClampNeg, Int.bmod_def] at i_3)
    exact T_16
  · have i_3 := Int32.le_iff_toInt_le.mp (Int32.not_lt.mp h_3)
    (try simp only [Int32.toInt_add, Int32.toInt_sub, Int32.toInt_mul, Int32.toInt_toInt64, Int64.toInt_add, z_m1, Int32.reduceToInt, Int64.reduceToInt, Int32.reduceToNatClampNeg, Int.bmod_def] at i_3)
    refine vIf (fun h_9 => ?_) (fun h_9 => ?_)
    · have i_9 := Int32.lt_iff_toInt_lt.mp h_9
      (try simp only [Int32.toInt_add, Int32.toInt_sub, Int32.toInt_mul, Int32.toInt_toInt64, Int64.toInt_add, z_m1, Int32.reduceToInt, Int64.reduceToInt, Int32.reduceToNatClampNeg, Int.bmod_def] at i_9)
      exact T_16
    · have i_9 := Int32.le_iff_toInt_le.mp (Int32.not_lt.mp h_9)
      (try simp only [Int32.toInt_add, Int32.toInt_sub, Int32.toInt_mul, Int32.toInt_toInt64, Int64.toInt_add, z_m1, Int32.reduceToInt, Int64.reduceToInt, Int32.reduceToNatClampNeg, Int.bmod_def] at i_9)
      exact T_17 _ (by first | exact Or.inl rfl | exact Or.inr rfl | assumption) (by first | omega | (simp only [Int32.toInt_add, Int32.toInt_sub, Int32.toInt_mul, Int32.toInt_toInt64, Int64.toInt_add, z_m1, Int32.reduceToInt, Int64.reduceToInt, Int32.reduceToNatClampNeg, Int.bmod_def, or_true, true_or, and_true, true_and] <;> omega))
set_option maxRecDepth 100000 in
set_option maxHeartbeats 4000000 in
theorem v_X8_isDigit  {v0 : Int32}  : ∃ r, D_X8_isDigit v0 = some r ∧ ((r = 0 ∨ r = 1) ∧ ((Int32.toInt r = 0 ∨ 48 ≤ Int32.toInt v0))) := by
  have T_17 : ∀ (y0_17 : Int32), (y0_17 = 0 ∨ y0_17 = 1) → (Int32.toInt y0_17 = 0 ∨ 48 ≤ Int32.toInt v0) → ∃ r, D_X8_isDigit_17 y0_17 = some r ∧ ((r = 0 ∨ r = 1) ∧ ((Int32.toInt r = 0 ∨ 48 ≤ Int32.toInt v0))) := by
    intro y0_17 f0_17 f1_17
    unfold D_X8_isDigit_17
    exact ⟨_, rfl, (by first | exact Or.inl rfl | exact Or.inr rfl | assumption), (by first | omega | (simp only [Int32.toInt_add, Int32.toInt_sub, Int32.toInt_mul, Int32.toInt_toInt64, Int64.toInt_add, z_m1, Int32.reduceToInt, Int64.reduceToInt, Int32.reduceToNatClampNeg, Int.bmod_def, or_true, true_or, and_true, true_and] <;> omega))⟩
  have T_16 : ∃ r, D_X8_isDigit_16 = some r ∧ ((r = 0 ∨ r = 1) ∧ ((Int32.toInt r = 0 ∨ 48 ≤ Int32.toInt v0))) := by
    unfold D_X8_isDigit_16
    exact T_17 _ (by first | exact Or.inl rfl | exact Or.inr rfl | assumption) (by first | omega | (simp only [Int32.toInt_add, Int32.toInt_sub, Int32.toInt_mul, Int32.toInt_toInt64, Int64.toInt_add, z_m1, Int32.reduceToInt, Int64.reduceToInt, Int32.reduceToNatClampNeg, Int.bmod_def, or_true, true_or, and_true, true_and] <;> omega))
  unfold D_X8_isDigit
  refine vIf (fun h_3 => ?_) (fun h_3 => ?_)
  · have i_3 := Int32.lt_iff_toInt_lt.mp h_3
    (try simp only [Int32.toInt_add, Int32.toInt_sub, Int32.toInt_mul, Int32.toInt_toInt64, Int64.toInt_add, z_m1, Int32.reduceToInt, Int64.reduceToInt, Int32.reduceToNatClampNeg, Int.bmod_def] at i_3)
    exact T_16
  · have i_3 := Int32.le_iff_toInt_le.mp (Int32.not_lt.mp h_3)
    (try simp only [Int32.toInt_add, Int32.toInt_sub, Int32.toInt_mul, Int32.toInt_toInt64, Int64.toInt_add, z_m1, Int32.reduceToInt, Int64.reduceToInt, Int32.reduceToNatClampNeg, Int.bmod_def] at i_3)
    refine vIf (fun h_9 => ?_) (fun h_9 => ?_)
    · have i_9 := Int32.lt_iff_toInt_lt.mp h_9
      (try simp only [Int32.toInt_add, Int32.toInt_sub, Int32.toInt_mul, Int32.toInt_toInt64, Int64.toInt_add, z_m1, Int32.reduceToInt, Int64.reduceToInt, Int32.reduceToNatClampNeg, Int.bmod_def] at i_9)
      exact T_16
    · have i_9 := Int32.le_iff_toInt_le.mp (Int32.not_lt.mp h_9)
      (try simp only [Int32.toInt_add, Int32.toInt_sub, Int32.toInt_mul, Int32.toInt_toInt64, Int64.toInt_add, z_m1, Int32.reduceToInt, Int64.reduceToInt, Int32.reduceToNatClampNeg, Int.bmod_def] at i_9)
      exact T_17 _ (by first | exact Or.inl rfl | exact Or.inr rfl | assumption) (by first | omega | (simp only [Int32.toInt_add, Int32.toInt_sub, Int32.toInt_mul, Int32.toInt_toInt64, Int64.toInt_add, z_m1, Int32.reduceToInt, Int64.reduceToInt, Int32.reduceToNatClampNeg, Int.bmod_def, or_true, true_or, and_true, true_and] <;> omega))
set_option maxRecDepth 100000 in
set_option maxHeartbeats 4000000 in
theorem v_X8_among {P : Nat} {w0 : Nat} {N : zNt}  (hw0 : w0 < zLit.length) : ∃ r, D_X8_among P w0 N = some r ∧ (True) := by
  have TL_7 : ∀ u : Nat, ∀ (x2_7 : Int32) (x3_7 : Int64) (x5_7 : Int32), (0 ≤ Int32.toInt x5_7) → (2147483648 - Int32.toInt x5_7).toNat < u → ∃ r, D_X8_among_7 P w0 N u x2_7 x3_7 x5_7 = some r ∧ (True) := by
    intro u
    induction u with
    | zero => intro x2_7 x3_7 x5_7 f0_7 hm_7; exact absurd hm_7 (Nat.not_lt_zero _)
    | succ u_7 ih_7 =>
      have T_62 : ∀ (x2_62 : Int32) (x3_62 : Int64) (x5_62 : Int32), (0 ≤ Int32.toInt x5_62) → ((2147483648 - Int32.toInt x5_62).toNat < u_7 + 1) → (Int32.toInt x5_62 < 2147483647) → ∃ r, D_X8_among_62 P w0 N (D_X8_among_7 P w0 N u_7) x2_62 x3_62 x5_62 = some r ∧ (True) := by
        intro x2_62 x3_62 x5_62 f0_62 f1_62 f2_62
        unfold D_X8_among_62
        exact ih_7 _ _ _ (by first | omega | (simp only [Int32.toInt_add, Int32.toInt_sub, Int32.toInt_mul, Int32.toInt_toInt64, Int64.toInt_add, z_m1, Int32.reduceToInt, Int64.reduceToInt, Int32.reduceToNatClampNeg, Int.bmod_def, or_true, true_or, and_true, true_and] <;> omega)) (z_up1 f2_62 f1_62)
      intro x2_7 x3_7 x5_7 f0_7 hm_7
      rw [D_X8_among_7]
      refine vIf (fun h_13 => ?_) (fun h_13 => ?_)
      · have i_13 := Int32.le_iff_toInt_le.mp h_13
        (try simp only [Int32.toInt_add, Int32.toInt_sub, Int32.toInt_mul, Int32.toInt_toInt64, Int64.toInt_add, z_m1, Int32.reduceToInt, Int64.reduceToInt, Int32.reduceToNatClampNeg, Int.bmod_def] at i_13)
        exact ⟨_, rfl, trivial⟩
      · have i_13 := Int32.lt_iff_toInt_lt.mp (Int32.not_le.mp h_13)
        (try simp only [Int32.toInt_add, Int32.toInt_sub, Int32.toInt_mul, Int32.toInt_toInt64, Int64.toInt_add, z_m1, Int32.reduceToInt, Int64.reduceToInt, Int32.reduceToNatClampNeg, Int.bmod_def] at i_13)
        refine vI (z_in (by have := (zCh_ok w0 (by assumption)).1; omega) (z_nlt (by assumption)) (by assumption)) ?_
        refine vIf (fun h_28 => ?_) (fun h_28 => ?_)
        · have i_28 := congrArg Int32.toInt h_28
          (try simp only [Int32.toInt_add, Int32.toInt_sub, Int32.toInt_mul, Int32.toInt_toInt64, Int64.toInt_add, z_m1, Int32.reduceToInt, Int64.reduceToInt, Int32.reduceToNatClampNeg, Int.bmod_def] at i_28)
          refine vIf (fun h_52 => ?_) (fun h_52 => ?_)
          · exact ⟨_, rfl, trivial⟩
          · exact T_62 _ _ _ (by first | omega | (simp only [Int32.toInt_add, Int32.toInt_sub, Int32.toInt_mul, Int32.toInt_toInt64, Int64.toInt_add, z_m1, Int32.reduceToInt, Int64.reduceToInt, Int32.reduceToNatClampNeg, Int.bmod_def, or_true, true_or, and_true, true_and] <;> omega)) hm_7 (by first | assumption | exact z_lt (by assumption) | exact z_lt2 (by assumption) | exact z_lt3 (by assumption) (by first | assumption | decide))
        · have i_28 : ¬ Int32.toInt (zCh w0 x5_7.toNatClampNeg) = Int32.toInt (32 : Int32) := fun q => h_28 (Int32.toInt_inj.mp q)
          (try simp only [Int32.toInt_add, Int32.toInt_sub, Int32.toInt_mul, Int32.toInt_toInt64, Int64.toInt_add, z_m1, Int32.reduceToInt, Int64.reduceToInt, Int32.reduceToNatClampNeg, Int.bmod_def] at i_28)
          exact T_62 _ _ _ (by first | omega | (simp only [Int32.toInt_add, Int32.toInt_sub, Int32.toInt_mul, Int32.toInt_toInt64, Int64.toInt_add, z_m1, Int32.reduceToInt, Int64.reduceToInt, Int32.reduceToNatClampNeg, Int.bmod_def, or_true, true_or, and_true, true_and] <;> omega)) hm_7 (by first | assumption | exact z_lt (by assumption) | exact z_lt2 (by assumption) | exact z_lt3 (by assumption) (by first | assumption | decide))
  have T_7 : ∀ (x2_7 : Int32) (x3_7 : Int64) (x5_7 : Int32), (0 ≤ Int32.toInt x5_7) → ∃ r, D_X8_among_7 P w0 N zFu x2_7 x3_7 x5_7 = some r ∧ (True) := fun x2_7 x3_7 x5_7 f0_7 => TL_7 zFu x2_7 x3_7 x5_7 f0_7 (zFu_up _)
  unfold D_X8_among
  exact T_7 _ _ _ (by first | omega | (simp only [Int32.toInt_add, Int32.toInt_sub, Int32.toInt_mul, Int32.toInt_toInt64, Int64.toInt_add, z_m1, Int32.reduceToInt, Int64.reduceToInt, Int32.reduceToNatClampNeg, Int.bmod_def, or_true, true_or, and_true, true_and] <;> omega))
def WM_X8_next (P : Nat) (a j : Nat) : Prop := (a = P ∧ (j = 16 ∨ j = 17 ∨ j = 18 ∨ j = 19 ∨ j = 20))
def WN_X8_next (P : Nat) (a j : Nat) : Prop := (a = P ∧ (j = 24))
def nG (P : Nat) (M0 : zMt) (N0 : zNt) (r : Int32 × zMt × zNt) : Prop := (∀ a j, ¬ WM_X8_next P a j → r.2.1 a j = M0 a j) ∧ (∀ a j, ¬ WN_X8_next P a j → r.2.2 a j = N0 a j) ∧ (r.1 = 0 ∨ r.1 = 1) ∧ (jX P r.2.1) ∧ (Int32.toInt r.1 = 1) ∧ (Int32.toInt (M0 P 17) ≤ Int32.toInt (r.2.1 P 17)) ∧ (Int32.toInt (r.2.1 P 18) = 0 ∨ Int32.toInt (M0 P 17) < Int32.toInt (r.2.1 P 17))
theorem v_X8_next {P : Nat} {M0 : zMt} {N0 : zNt} (p_jX : jX P M0) : ∃ r, D_X8_next P M0 N0 = some r ∧ ((∀ a j, ¬ WM_X8_next P a j → r.2.1 a j = M0 a j) ∧ (∀ a j, ¬ WN_X8_next P a j → r.2.2 a j = N0 a j) ∧ (r.1 = 0 ∨ r.1 = 1) ∧ (jX P r.2.1) ∧ (Int32.toInt r.1 = 1) ∧ (Int32.toInt (M0 P 17) ≤ Int32.toInt (r.2.1 P 17)) ∧ (Int32.toInt (r.2.1 P 18) = 0 ∨ Int32.toInt (M0 P 17) < Int32.toInt (r.2.1 P 17))) := by
  show ∃ r, D_X8_next P M0 N0 = some r ∧ nG P M0 N0 r
  have nz : ∀ e : Int32, ¬ e = 0 → ¬ e.toInt = 0 := fun e h q => h (Int32.toInt_inj.mp (by rw [q]; decide))
  -- frames: what a step leaves
  have up : ∀ (M M' : zMt), (∀ a j, ¬ WM_X8_next P a j → M a j = M0 a j) → ∀ (j0 : Nat) (v : Int32), (j0 = 16 ∨ j0 = 17 ∨ j0 = 18 ∨ j0 = 19 ∨ j0 = 20) → zu M P j0 v = M' → ∀ a j, ¬ WM_X8_next P a j → M' a j = M0 a j := fun M M' k j0 v h0 f a j h => by
    subst f
    rw [zu_ne (by unfold WM_X8_next at h; omega)]
    exact k a j h
  have upX : ∀ (M M' : zMt), jX P M → ∀ (j0 : Nat) (v : Int32), (j0 = 16 ∨ j0 = 18 ∨ j0 = 19 ∨ j0 = 20) → zu M P j0 v = M' → jX P M' ∧ M' P 17 = M P 17 := fun M M' h j0 v h0 f => by
    subst f
    exact ⟨h.mono (fun a j hj => zu_ne (by omega)), zu_ne (by omega)⟩
  have inc : ∀ (M M' : zMt), jX P M → (M P 17).toInt < (M P 15).toInt → zu M P 17 (M P 17 + 1) = M' → jX P M' ∧ (M' P 17).toInt = (M P 17).toInt + 1 ∧ M' P 15 = M P 15 := fun M M' h hl f => by
    obtain ⟨x1, x2, x3, x4⟩ := id h
    subst f
    have e17 : (zu M P 17 (M P 17 + 1) P 17).toInt = (M P 17).toInt + 1 := by rw [zu_eq, z_inc (by omega)]
    have e15 : zu M P 17 (M P 17 + 1) P 15 = M P 15 := zu_ne (by omega)
    refine ⟨?_, e17, e15⟩
    unfold jX
    rw [e17, e15]
    exact ⟨x1, x2, by omega, by omega⟩
  have E320 : ∀ (M : zMt) (N : zNt), (∀ a j, ¬ WM_X8_next P a j → M a j = M0 a j) → (∀ a j, ¬ WN_X8_next P a j → N a j = N0 a j) → jX P M → (M0 P 17).toInt ≤ (M P 17).toInt → ((M P 18).toInt = 0 ∨ (M0 P 17).toInt < (M P 17).toInt) → ∃ r, D_X8_next_320 P M N = some r ∧ nG P M0 N0 r := fun M N k kn hX h1 h2 =>
    ⟨_, rfl, k, kn, Or.inr rfl, hX, (show (1 : Int32).toInt = 1 by decide), h1, h2⟩
  have T18 : ∀ (y : Int32) (M M' : zMt) (N : zNt), zu M P 18 y = M' → (∀ a j, ¬ WM_X8_next P a j → M a j = M0 a j) → (∀ a j, ¬ WN_X8_next P a j → N a j = N0 a j) → jX P M → (M0 P 17).toInt < (M P 17).toInt → ∃ r, D_X8_next_320 P M' N = some r ∧ nG P M0 N0 r := fun y M M' N f k kn hX h1 => by
    obtain ⟨x1, x2⟩ := upX M M' hX 18 y (by omega) f
    exact E320 M' N (up M M' k 18 y (by omega) f) kn x1 (by rw [x2]; omega) (Or.inr (by rw [x2]; omega))
  have T171 : ∀ (y : Int32) (M : zMt) (N : zNt), (∀ a j, ¬ WM_X8_next P a j → M a j = M0 a j) → (∀ a j, ¬ WN_X8_next P a j → N a j = N0 a j) → jX P M → (M0 P 17).toInt < (M P 17).toInt → ∃ r, D_X8_next_171 P y M N = some r ∧ nG P M0 N0 r := fun y M N k kn hX h1 => by
    unfold D_X8_next_171
    obtain ⟨x1, x2⟩ := upX M _ hX 18 y (by omega) rfl
    have k2 := up M _ k 18 y (by omega) rfl
    show ∃ r, (if zu M P 18 y P 18 = 2 then _ else _) = some r ∧ _
    refine vIf (fun _ => ?_) (fun _ => T18 y M _ N rfl k kn hX h1)
    refine vB (v_X8_among (by decide)) (fun e f q => ?_)
    obtain ⟨x3, x4⟩ := upX _ _ x1 19 e (by omega) rfl
    exact E320 _ N (up _ _ k2 19 e (by omega) rfl) kn x3 (by rw [x4, x2]; omega) (Or.inr (by rw [x4, x2]; omega))
  -- words
  have L86 : ∀ (u : Nat) (M : zMt) (N : zNt), ((M P 15).toInt - (M P 17).toInt).toNat < u → (∀ a j, ¬ WM_X8_next P a j → M a j = M0 a j) → (∀ a j, ¬ WN_X8_next P a j → N a j = N0 a j) → jX P M → (M0 P 17).toInt ≤ (M P 17).toInt → ((M0 P 17).toInt < (M P 17).toInt ∨ ∃ e, D_X8_byteAt P M (M P 17) = some e ∧ ∀ z, D_X8_isLetter e = some z → ¬ z = 0) → ∃ r, D_X8_next_86 P u M N = some r ∧ nG P M0 N0 r := by
    intro u
    induction u with
    | zero => intro M N h; omega
    | succ u ih =>
      intro M N hu k kn hX h1 h2
      obtain ⟨x1, x2, x3, x4⟩ := id hX
      rw [D_X8_next_86]
      refine vB (v_X8_byteAt hX x3) (fun e fe qe => ?_)
      refine vB v_X8_isLetter (fun z fz qz => ?_)
      refine vIf (fun hz => ?_) (fun hz => ?_)
      · have hlt : (M0 P 17).toInt < (M P 17).toInt := by
          rcases h2 with h2 | ⟨e', a1, a2⟩
          · exact h2
          · rw [fe] at a1
            cases a1
            exact absurd hz (a2 z fz)
        exact vIf (fun _ => T171 _ M N k kn hX hlt) (fun _ => T171 _ M N k kn hX hlt)
      · have hq := qz.2.resolve_left (nz _ hz)
        have hl : (M P 17).toInt < (M P 15).toInt := qe.resolve_left (by omega)
        have T138 : ∀ N' : zNt, (∀ a j, ¬ WN_X8_next P a j → N' a j = N0 a j) → ∃ r, D_X8_next_138 P (D_X8_next_86 P u) M N' = some r ∧ nG P M0 N0 r := fun N' kn' => by
          unfold D_X8_next_138
          obtain ⟨y1, y2, y3⟩ := inc M _ hX hl rfl
          exact ih _ N' (by rw [y2, y3]; omega) (up M _ k 17 _ (by omega) rfl) kn' y1 (by rw [y2]; omega) (Or.inl (by rw [y2]; omega))
        refine vIf (fun _ => T138 N kn) (fun _ => ?_)
        refine vB (v_X8_byteAt hX x3) (fun e2 _ _ => ?_)
        exact T138 _ (fun a j h => (zu_ne (by unfold WN_X8_next at h; omega)).trans (kn a j h))
  -- numbers
  have L207 : ∀ (u : Nat) (M : zMt) (N : zNt), ((M P 15).toInt - (M P 17).toInt).toNat < u → (∀ a j, ¬ WM_X8_next P a j → M a j = M0 a j) → (∀ a j, ¬ WN_X8_next P a j → N a j = N0 a j) → jX P M → (M0 P 17).toInt ≤ (M P 17).toInt → ((M0 P 17).toInt < (M P 17).toInt ∨ ∃ e, D_X8_byteAt P M (M P 17) = some e ∧ ∀ z, D_X8_isDigit e = some z → ¬ z = 0) → ∃ r, D_X8_next_207 P u M N = some r ∧ nG P M0 N0 r := by
    intro u
    induction u with
    | zero => intro M N h; omega
    | succ u ih =>
      intro M N hu k kn hX h1 h2
      obtain ⟨x1, x2, x3, x4⟩ := id hX
      rw [D_X8_next_207]
      refine vB (v_X8_byteAt hX x3) (fun e fe qe => ?_)
      refine vB v_X8_isDigit (fun z fz qz => ?_)
      refine vIf (fun hz => ?_) (fun hz => ?_)
      · have hlt : (M0 P 17).toInt < (M P 17).toInt := by
          rcases h2 with h2 | ⟨e', a1, a2⟩
          · exact h2
          · rw [fe] at a1
            cases a1
            exact absurd hz (a2 z fz)
        exact vIf (fun _ => T18 _ M _ N rfl k kn hX hlt) (fun _ => T18 _ M _ N rfl k kn hX hlt)
      · have hq := qz.2.resolve_left (nz _ hz)
        have hl : (M P 17).toInt < (M P 15).toInt := qe.resolve_left (by omega)
        have T257 : ∀ M' : zMt, (∀ a j, ¬ WM_X8_next P a j → M' a j = M0 a j) → jX P M' → M' P 17 = M P 17 → M' P 15 = M P 15 → ∃ r, D_X8_next_257 P (D_X8_next_207 P u) M' N = some r ∧ nG P M0 N0 r := fun M' k' hX' g1 g2 => by
          unfold D_X8_next_257
          obtain ⟨y1, y2, y3⟩ := inc M' _ hX' (by rw [g1, g2]; exact hl) rfl
          exact ih _ N (by rw [y2, y3, g1, g2]; omega) (up M' _ k' 17 _ (by omega) rfl) kn y1 (by rw [y2, g1]; omega) (Or.inl (by rw [y2, g1]; omega))
        refine vIf (fun _ => T257 M k hX rfl rfl) (fun _ => ?_)
        refine vB (v_X8_byteAt hX x3) (fun e2 _ _ => ?_)
        obtain ⟨y1, y2⟩ := upX M _ hX 20 (10 * M P 20 + e2 - 48) (by omega) rfl
        exact T257 _ (up M _ k 20 _ (by omega) rfl) y1 y2 (zu_ne (by omega))
  -- blanks
  have L0 : ∀ (u : Nat) (M : zMt), ((M P 15).toInt - (M P 17).toInt).toNat < u → (∀ a j, ¬ WM_X8_next P a j → M a j = M0 a j) → jX P M → (M0 P 17).toInt ≤ (M P 17).toInt → ∃ r, D_X8_next_0 P u M N0 = some r ∧ nG P M0 N0 r := by
    intro u
    induction u with
    | zero => intro M h; omega
    | succ u ih =>
      intro M hu k hX h1
      obtain ⟨x1, x2, x3, x4⟩ := id hX
      rw [D_X8_next_0]
      have T26 : (M P 17).toInt < (M P 15).toInt → ∃ r, D_X8_next_26 P (D_X8_next_0 P u) M N0 = some r ∧ nG P M0 N0 r := fun hl => by
        unfold D_X8_next_26
        obtain ⟨y1, y2, y3⟩ := inc M _ hX hl rfl
        exact ih _ (by rw [y2, y3]; omega) (up M _ k 17 _ (by omega) rfl) y1 (by rw [y2]; omega)
      refine vB (v_X8_byteAt hX x3) (fun e fe qe => ?_)
      refine vIf (fun hz => T26 (qe.resolve_left (by rw [hz]; decide))) (fun _ => ?_)
      refine vB (v_X8_byteAt hX x3) (fun e2 fe2 qe2 => ?_)
      refine vIf (fun hz => T26 (qe2.resolve_left (by rw [hz]; decide))) (fun _ => ?_)
      obtain ⟨y1, y2⟩ := upX M _ hX 16 (M P 17) (by omega) rfl
      have k1 := up M _ k 16 (M P 17) (by omega) rfl
      refine vLm (W := WM_X8_next P) (M0 := M0) k1 (fun M1 g1 k1' => ?_)
      rw [g1] at y1 y2
      refine vLm (W := WM_X8_next P) (M0 := M0) (up M1 _ k1' 19 (-1) (by omega) rfl) (fun M2 g2 k2 => ?_)
      obtain ⟨w1, w2⟩ := upX M1 M2 y1 19 (-1) (by omega) g2
      have w17 : M2 P 17 = M P 17 := w2.trans y2
      obtain ⟨v1, v2, v3, v4⟩ := id w1
      refine vB (v_X8_byteAt w1 v3) (fun e3 fe3 qe3 => ?_)
      refine vIf (fun _ => ?_) (fun hm1 => ?_)
      · obtain ⟨a1, a2⟩ := upX M2 _ w1 18 0 (by omega) rfl
        exact E320 _ N0 (up M2 _ k2 18 0 (by omega) rfl) (fun _ _ _ => rfl) a1 (by rw [a2, w17]; exact h1) (Or.inl (by rw [zu_eq]; decide))
      · have hl : (M2 P 17).toInt < (M2 P 15).toInt := qe3.resolve_left (fun q => hm1 (Int32.toInt_inj.mp (by rw [q]; decide)))
        refine vB v_X8_isLetter (fun z fz qz => ?_)
        refine vIf (fun _ => ?_) (fun hz => ?_)
        · refine vB v_X8_isDigit (fun z2 fz2 qz2 => ?_)
          refine vIf (fun _ => ?_) (fun hz2 => ?_)
          · obtain ⟨a1, a2, a3⟩ := inc M2 _ w1 hl rfl
            have k3 := up M2 _ k2 17 _ (by omega) (rfl : zu M2 P 17 (M2 P 17 + 1) = _)
            have hlt : (M0 P 17).toInt < (zu M2 P 17 (M2 P 17 + 1) P 17).toInt := by rw [a2, w17]; omega
            exact vIf (fun _ => T18 _ _ _ N0 rfl k3 (fun _ _ _ => rfl) a1 hlt) (fun _ => T18 _ _ _ N0 rfl k3 (fun _ _ _ => rfl) a1 hlt)
          · obtain ⟨a1, a2⟩ := upX M2 _ w1 20 0 (by omega) rfl
            have a15 : zu M2 P 20 0 P 15 = M2 P 15 := zu_ne (by omega)
            refine L207 zFu _ N0 (by unfold zFu; rw [a2, a15]; omega) (up M2 _ k2 20 0 (by omega) rfl) (fun _ _ _ => rfl) a1 (by rw [a2, w17]; exact h1) (Or.inr ⟨e3, ?_, fun z3 h3 => ?_⟩)
            · rw [← fe3, a2]
              unfold D_X8_byteAt
              rw [a15, zu_row (show P + 7 ≠ P by omega)]
              rfl
            · rw [fz2] at h3
              cases h3
              exact hz2
        · exact L86 zFu M2 _ (by unfold zFu; omega) k2 (fun a j h => zu_ne (by unfold WN_X8_next at h; omega)) w1 (by rw [w17]; exact h1) (Or.inr ⟨e3, fe3, fun z3 h3 => by rw [fz] at h3; cases h3; exact hz⟩)
  unfold D_X8_next
  obtain ⟨x1, x2, x3, x4⟩ := id p_jX
  exact L0 zFu M0 (by unfold zFu; omega) (fun _ _ _ => rfl) p_jX (Int.le_refl _)
def WM_X8_bad (P : Nat) (a j : Nat) : Prop := (a = P ∧ (j = 21 ∨ j = 22))
theorem wq_X8_bad_M0_21 {P a j : Nat} (h : ¬ WM_X8_bad P a j) : ¬ (a = P ∧ j = 21) := by unfold WM_X8_bad at h; omega
theorem wf_nA_M0_21 {P a j : Nat} (h : (a = P + 1 ∨ (a = P ∧ j = 8))) : ¬ (a = P ∧ j = 21) := by omega
theorem wq_X8_bad_M0_22 {P a j : Nat} (h : ¬ WM_X8_bad P a j) : ¬ (a = P ∧ j = 22) := by unfold WM_X8_bad at h; omega
theorem wf_nA_M0_22 {P a j : Nat} (h : (a = P + 1 ∨ (a = P ∧ j = 8))) : ¬ (a = P ∧ j = 22) := by omega
set_option maxRecDepth 100000 in
set_option maxHeartbeats 4000000 in
theorem v_X8_bad {P : Nat} {v0 : Int32} {M0 : zMt}  : ∃ r, D_X8_bad P v0 M0 = some r ∧ ((∀ a j, ¬ WM_X8_bad P a j → r.2 a j = M0 a j) ∧ (r.1 = 0 ∨ r.1 = 1) ∧ ((Int32.toInt r.1 = 0))) := by
  have T_14 : ∀ (y1_14 : Int32) (M_14 : zMt), (∀ a j, ¬ WM_X8_bad P a j → M_14 a j = M0 a j) → ∃ r, D_X8_bad_14 P y1_14 M_14 = some r ∧ ((∀ a j, ¬ WM_X8_bad P a j → r.2 a j = M0 a j) ∧ (r.1 = 0 ∨ r.1 = 1) ∧ ((Int32.toInt r.1 = 0))) := by
    intro y1_14 M_14o k_14
    unfold D_X8_bad_14
    refine vLm (W := WM_X8_bad P) (fun a j h => (zu_ne (wq_X8_bad_M0_21 h)).trans (k_14 a j h)) (fun M_14 f_14 k_14 => ?_)
    have c7_14 : Int32.toInt (M_14 P 7) = Int32.toInt (M_14o P 7) := congrArg Int32.toInt ((congrFun (congrFun f_14.symm P) 7).trans (zu_ne (fun z => absurd z.2 (by decide))))
    have c8_14 : Int32.toInt (M_14 P 8) = Int32.toInt (M_14o P 8) := congrArg Int32.toInt ((congrFun (congrFun f_14.symm P) 8).trans (zu_ne (fun z => absurd z.2 (by decide))))
    have c33_14 : Int32.toInt (M_14 P 33) = Int32.toInt (M_14o P 33) := congrArg Int32.toInt ((congrFun (congrFun f_14.symm P) 33).trans (zu_ne (fun z => absurd z.2 (by decide))))
    have n_14 : nA P M_14 = nA P M_14o := nA_congr (fun a j h => (congrFun (congrFun f_14.symm a) j).trans (zu_ne (wf_nA_M0_21 h)))
    refine vLm (W := WM_X8_bad P) (fun a j h => (zu_ne (wq_X8_bad_M0_22 h)).trans (k_14 a j h)) (fun M_22 f_22 k_22 => ?_)
    have c7_22 : Int32.toInt (M_22 P 7) = Int32.toInt (M_14 P 7) := congrArg Int32.toInt ((congrFun (congrFun f_22.symm P) 7).trans (zu_ne (fun z => absurd z.2 (by decide))))
    have c8_22 : Int32.toInt (M_22 P 8) = Int32.toInt (M_14 P 8) := congrArg Int32.toInt ((congrFun (congrFun f_22.symm P) 8).trans (zu_ne (fun z => absurd z.2 (by decide))))
    have c33_22 : Int32.toInt (M_22 P 33) = Int32.toInt (M_14 P 33) := congrArg Int32.toInt ((congrFun (congrFun f_22.symm P) 33).trans (zu_ne (fun z => absurd z.2 (by decide))))
    have n_22 : nA P M_22 = nA P M_14 := nA_congr (fun a j h => (congrFun (congrFun f_22.symm a) j).trans (zu_ne (wf_nA_M0_22 h)))
    exact ⟨_, rfl, k_22, (by first | exact Or.inl rfl | exact Or.inr rfl | assumption), (by first | omega | (simp only [Int32.toInt_add, Int32.toInt_sub, Int32.toInt_mul, Int32.toInt_toInt64, Int64.toInt_add, z_m1, Int32.reduceToInt, Int64.reduceToInt, Int32.reduceToNatClampNeg, Int.bmod_def, or_true, true_or, and_true, true_and] <;> omega))⟩
  unfold D_X8_bad
  refine vIf (fun h_6 => ?_) (fun h_6 => ?_)
  · have i_6 := congrArg Int32.toInt h_6
    (try simp only [Int32.toInt_add, Int32.toInt_sub, Int32.toInt_mul, Int32.toInt_toInt64, Int64.toInt_add, z_m1, Int32.reduceToInt, Int64.reduceToInt, Int32.reduceToNatClampNeg, Int.bmod_def] at i_6)
    exact T_14 _ _ (fun _ _ _ => rfl)
  · have i_6 : ¬ Int32.toInt (M0 P 18) = Int32.toInt (1 : Int32) := fun q => h_6 (Int32.toInt_inj.mp q)
    (try simp only [Int32.toInt_add, Int32.toInt_sub, Int32.toInt_mul, Int32.toInt_toInt64, Int64.toInt_add, z_m1, Int32.reduceToInt, Int64.reduceToInt, Int32.reduceToNatClampNeg, Int.bmod_def] at i_6)
    exact T_14 _ _ (fun _ _ _ => rfl)
set_option maxRecDepth 100000 in
set_option maxHeartbeats 4000000 in
theorem v_X8_isName {P : Nat} {M : zMt}   : ∃ r, D_X8_isName P M = some r ∧ ((r = 0 ∨ r = 1)) := by
  have T_21 : ∀ (y0_21 : Int32), (y0_21 = 0 ∨ y0_21 = 1) → ∃ r, D_X8_isName_21 P M y0_21 = some r ∧ ((r = 0 ∨ r = 1)) := by
    intro y0_21 f0_21
    unfold D_X8_isName_21
    exact ⟨_, rfl, (by first | exact Or.inl rfl | exact Or.inr rfl | assumption)⟩
  have T_20 : ∃ r, D_X8_isName_20 P M = some r ∧ ((r = 0 ∨ r = 1)) := by
    unfold D_X8_isName_20
    exact T_21 _ (by first | exact Or.inl rfl | exact Or.inr rfl | assumption)
  unfold D_X8_isName
  refine vIf (fun h_5 => ?_) (fun h_5 => ?_)
  · have i_5 := congrArg Int32.toInt h_5
    (try simp only [Int32.toInt_add, Int32.toInt_sub, Int32.toInt_mul, Int32.toInt_toInt64, Int64.toInt_add, z_m1, Int32.reduceToInt, Int64.reduceToInt, Int32.reduceToNatClampNeg, Int.bmod_def] at i_5)
    refine vIf (fun h_13 => ?_) (fun h_13 => ?_)
    · have i_13 := congrArg Int32.toInt h_13
      (try simp only [Int32.toInt_add, Int32.toInt_sub, Int32.toInt_mul, Int32.toInt_toInt64, Int64.toInt_add, z_m1, Int32.reduceToInt, Int64.reduceToInt, Int32.reduceToNatClampNeg, Int.bmod_def] at i_13)
      exact T_21 _ (by first | exact Or.inl rfl | exact Or.inr rfl | assumption)
    · have i_13 : ¬ Int32.toInt (M P 19) = Int32.toInt (-1 : Int32) := fun q => h_13 (Int32.toInt_inj.mp q)
      (try simp only [Int32.toInt_add, Int32.toInt_sub, Int32.toInt_mul, Int32.toInt_toInt64, Int64.toInt_add, z_m1, Int32.reduceToInt, Int64.reduceToInt, Int32.reduceToNatClampNeg, Int.bmod_def] at i_13)
      exact T_20
  · have i_5 : ¬ Int32.toInt (M P 18) = Int32.toInt (2 : Int32) := fun q => h_5 (Int32.toInt_inj.mp q)
    (try simp only [Int32.toInt_add, Int32.toInt_sub, Int32.toInt_mul, Int32.toInt_toInt64, Int64.toInt_add, z_m1, Int32.reduceToInt, Int64.reduceToInt, Int32.reduceToNatClampNeg, Int.bmod_def] at i_5)
    exact T_20
set_option maxRecDepth 100000 in
set_option maxHeartbeats 4000000 in
theorem v_X8_found {Q : Nat} {nQ : Nat} {N : zNt} {v0 : Int32} {v1 : Int64}  (i_0 : Int32.toInt v0 ≤ (nQ : Int)) (i_1 : Int32.toInt v0 ≤ 10) : ∃ r, D_X8_found Q nQ N v0 v1 = some r ∧ (((-1 ≤ Int32.toInt r) ∧ (Int32.toInt r = -1 ∨ Int32.toInt r < Int32.toInt v0))) := by
  have TL_3 : ∀ u : Nat, ∀ (x1_3 : Int32) (x2_3 : Int64) (x4_3 : Int32), (0 ≤ Int32.toInt x4_3) → (Int32.toInt x1_3 ≤ (nQ : Int) ∧ Int32.toInt x1_3 ≤ 10 ∧ Int32.toInt x1_3 = Int32.toInt v0) → (2147483648 - Int32.toInt x4_3).toNat < u → ∃ r, D_X8_found_3 Q nQ N u x1_3 x2_3 x4_3 = some r ∧ (((-1 ≤ Int32.toInt r) ∧ (Int32.toInt r = -1 ∨ Int32.toInt r < Int32.toInt v0))) := by
    intro u
    induction u with
    | zero => intro x1_3 x2_3 x4_3 f0_3 f1_3 hm_3; exact absurd hm_3 (Nat.not_lt_zero _)
    | succ u_3 ih_3 =>
      intro x1_3 x2_3 x4_3 f0_3 f1_3 hm_3
      rw [D_X8_found_3]
      refine vIf (fun h_6 => ?_) (fun h_6 => ?_)
      · have i_6 := Int32.le_iff_toInt_le.mp h_6
        (try simp only [Int32.toInt_add, Int32.toInt_sub, Int32.toInt_mul, Int32.toInt_toInt64, Int64.toInt_add, z_m1, Int32.reduceToInt, Int64.reduceToInt, Int32.reduceToNatClampNeg, Int.bmod_def] at i_6)
        exact ⟨_, rfl, ⟨(by first | omega | (simp only [Int32.toInt_add, Int32.toInt_sub, Int32.toInt_mul, Int32.toInt_toInt64, Int64.toInt_add, z_m1, Int32.reduceToInt, Int64.reduceToInt, Int32.reduceToNatClampNeg, Int.bmod_def, or_true, true_or, and_true, true_and] <;> omega)), (by first | omega | (simp only [Int32.toInt_add, Int32.toInt_sub, Int32.toInt_mul, Int32.toInt_toInt64, Int64.toInt_add, z_m1, Int32.reduceToInt, Int64.reduceToInt, Int32.reduceToNatClampNeg, Int.bmod_def, or_true, true_or, and_true, true_and] <;> omega))⟩⟩
      · have i_6 := Int32.lt_iff_toInt_lt.mp (Int32.not_le.mp h_6)
        (try simp only [Int32.toInt_add, Int32.toInt_sub, Int32.toInt_mul, Int32.toInt_toInt64, Int64.toInt_add, z_m1, Int32.reduceToInt, Int64.reduceToInt, Int32.reduceToNatClampNeg, Int.bmod_def] at i_6)
        refine vI (vp_of (by first | omega | (simp only [Int32.toInt_add, Int32.toInt_sub, Int32.toInt_mul, Int32.toInt_toInt64, Int64.toInt_add, z_m1, Int32.reduceToInt, Int64.reduceToInt, Int32.reduceToNatClampNeg, Int.bmod_def, or_true, true_or, and_true, true_and] <;> omega)) (by first | omega | (simp only [Int32.toInt_add, Int32.toInt_sub, Int32.toInt_mul, Int32.toInt_toInt64, Int64.toInt_add, z_m1, Int32.reduceToInt, Int64.reduceToInt, Int32.reduceToNatClampNeg, Int.bmod_def, or_true, true_or, and_true, true_and] <;> omega))) ?_
        refine vIf (fun h_15 => ?_) (fun h_15 => ?_)
        · exact ⟨_, rfl, ⟨(by first | omega | (simp only [Int32.toInt_add, Int32.toInt_sub, Int32.toInt_mul, Int32.toInt_toInt64, Int64.toInt_add, z_m1, Int32.reduceToInt, Int64.reduceToInt, Int32.reduceToNatClampNeg, Int.bmod_def, or_true, true_or, and_true, true_and] <;> omega)), (by first | omega | (simp only [Int32.toInt_add, Int32.toInt_sub, Int32.toInt_mul, Int32.toInt_toInt64, Int64.toInt_add, z_m1, Int32.reduceToInt, Int64.reduceToInt, Int32.reduceToNatClampNeg, Int.bmod_def, or_true, true_or, and_true, true_and] <;> omega))⟩⟩
        · exact ih_3 _ _ _ (by first | omega | (simp only [Int32.toInt_add, Int32.toInt_sub, Int32.toInt_mul, Int32.toInt_toInt64, Int64.toInt_add, z_m1, Int32.reduceToInt, Int64.reduceToInt, Int32.reduceToNatClampNeg, Int.bmod_def, or_true, true_or, and_true, true_and] <;> omega)) (by first | omega | (simp only [Int32.toInt_add, Int32.toInt_sub, Int32.toInt_mul, Int32.toInt_toInt64, Int64.toInt_add, z_m1, Int32.reduceToInt, Int64.reduceToInt, Int32.reduceToNatClampNeg, Int.bmod_def, or_true, true_or, and_true, true_and] <;> omega)) (z_up1 (by first | assumption | exact z_lt (by assumption) | exact z_lt2 (by assumption) | exact z_lt3 (by assumption) (by first | assumption | decide)) hm_3)
  have T_3 : ∀ (x1_3 : Int32) (x2_3 : Int64) (x4_3 : Int32), (0 ≤ Int32.toInt x4_3) → (Int32.toInt x1_3 ≤ (nQ : Int) ∧ Int32.toInt x1_3 ≤ 10 ∧ Int32.toInt x1_3 = Int32.toInt v0) → ∃ r, D_X8_found_3 Q nQ N zFu x1_3 x2_3 x4_3 = some r ∧ (((-1 ≤ Int32.toInt r) ∧ (Int32.toInt r = -1 ∨ Int32.toInt r < Int32.toInt v0))) := fun x1_3 x2_3 x4_3 f0_3 f1_3 => TL_3 zFu x1_3 x2_3 x4_3 f0_3 f1_3 (zFu_up _)
  unfold D_X8_found
  exact T_3 _ _ _ (by first | omega | (simp only [Int32.toInt_add, Int32.toInt_sub, Int32.toInt_mul, Int32.toInt_toInt64, Int64.toInt_add, z_m1, Int32.reduceToInt, Int64.reduceToInt, Int32.reduceToNatClampNeg, Int.bmod_def, or_true, true_or, and_true, true_and] <;> omega)) (by first | omega | (simp only [Int32.toInt_add, Int32.toInt_sub, Int32.toInt_mul, Int32.toInt_toInt64, Int64.toInt_add, z_m1, Int32.reduceToInt, Int64.reduceToInt, Int32.reduceToNatClampNeg, Int.bmod_def, or_true, true_or, and_true, true_and] <;> omega))
set_option maxRecDepth 100000 in
set_option maxHeartbeats 4000000 in
theorem v_X8_isTaken {P : Nat} {M : zMt} {N : zNt}   (p_jY : jY P M) : ∃ r, D_X8_isTaken P M N = some r ∧ ((r = 0 ∨ r = 1)) := by
  obtain ⟨u0_jY, u1_jY, u2_jY, u3_jY, u4_jY, u5_jY⟩ := id p_jY
  have T_62 : ∀ (y0_62 : Int32), (jY P M) → (y0_62 = 0 ∨ y0_62 = 1) → ∃ r, D_X8_isTaken_62 P M N y0_62 = some r ∧ ((r = 0 ∨ r = 1)) := by
    intro y0_62 p_jY_62 f0_62
    obtain ⟨u0_jY_62, u1_jY_62, u2_jY_62, u3_jY_62, u4_jY_62, u5_jY_62⟩ := id p_jY_62
    unfold D_X8_isTaken_62
    exact ⟨_, rfl, (by first | exact Or.inl rfl | exact Or.inr rfl | assumption)⟩
  have T_57 : (jY P M) → ∃ r, D_X8_isTaken_57 P M N = some r ∧ ((r = 0 ∨ r = 1)) := by
    intro  p_jY_57
    obtain ⟨u0_jY_57, u1_jY_57, u2_jY_57, u3_jY_57, u4_jY_57, u5_jY_57⟩ := id p_jY_57
    unfold D_X8_isTaken_57
    exact T_62 _ p_jY_57 (by first | exact Or.inl rfl | exact Or.inr rfl | assumption)
  unfold D_X8_isTaken
  refine vB (v_X8_found (by first | omega | (simp only [Int32.toInt_add, Int32.toInt_sub, Int32.toInt_mul, Int32.toInt_toInt64, Int64.toInt_add, z_m1, Int32.reduceToInt, Int64.reduceToInt, Int32.reduceToNatClampNeg, Int.bmod_def, or_true, true_or, and_true, true_and] <;> omega)) (by first | omega | (simp only [Int32.toInt_add, Int32.toInt_sub, Int32.toInt_mul, Int32.toInt_toInt64, Int64.toInt_add, z_m1, Int32.reduceToInt, Int64.reduceToInt, Int32.reduceToNatClampNeg, Int.bmod_def, or_true, true_or, and_true, true_and] <;> omega))) (fun e_12 f_12 q_12 => ?_)
  obtain ⟨x0_12, x1_12⟩ := q_12
  (try simp only [Int32.toInt_add, Int32.toInt_sub, Int32.toInt_mul, Int32.toInt_toInt64, Int64.toInt_add, z_m1, Int32.reduceToInt, Int64.reduceToInt, Int32.reduceToNatClampNeg, Int.bmod_def] at x0_12)
  (try simp only [Int32.toInt_add, Int32.toInt_sub, Int32.toInt_mul, Int32.toInt_toInt64, Int64.toInt_add, z_m1, Int32.reduceToInt, Int64.reduceToInt, Int32.reduceToNatClampNeg, Int.bmod_def] at x1_12)
  refine vIf (fun h_16 => ?_) (fun h_16 => ?_)
  · have i_16 := congrArg Int32.toInt h_16
    (try simp only [Int32.toInt_add, Int32.toInt_sub, Int32.toInt_mul, Int32.toInt_toInt64, Int64.toInt_add, z_m1, Int32.reduceToInt, Int64.reduceToInt, Int32.reduceToNatClampNeg, Int.bmod_def] at i_16)
    refine vB (v_X8_found (by first | omega | (simp only [Int32.toInt_add, Int32.toInt_sub, Int32.toInt_mul, Int32.toInt_toInt64, Int64.toInt_add, z_m1, Int32.reduceToInt, Int64.reduceToInt, Int32.reduceToNatClampNeg, Int.bmod_def, or_true, true_or, and_true, true_and] <;> omega)) (by first | omega | (simp only [Int32.toInt_add, Int32.toInt_sub, Int32.toInt_mul, Int32.toInt_toInt64, Int64.toInt_add, z_m1, Int32.reduceToInt, Int64.reduceToInt, Int32.reduceToNatClampNeg, Int.bmod_def, or_true, true_or, and_true, true_and] <;> omega))) (fun e_31 f_31 q_31 => ?_)
    obtain ⟨x0_31, x1_31⟩ := q_31
    (try simp only [Int32.toInt_add, Int32.toInt_sub, Int32.toInt_mul, Int32.toInt_toInt64, Int64.toInt_add, z_m1, Int32.reduceToInt, Int64.reduceToInt, Int32.reduceToNatClampNeg, Int.bmod_def] at x0_31)
    (try simp only [Int32.toInt_add, Int32.toInt_sub, Int32.toInt_mul, Int32.toInt_toInt64, Int64.toInt_add, z_m1, Int32.reduceToInt, Int64.reduceToInt, Int32.reduceToNatClampNeg, Int.bmod_def] at x1_31)
    refine vIf (fun h_35 => ?_) (fun h_35 => ?_)
    · have i_35 := congrArg Int32.toInt h_35
      (try simp only [Int32.toInt_add, Int32.toInt_sub, Int32.toInt_mul, Int32.toInt_toInt64, Int64.toInt_add, z_m1, Int32.reduceToInt, Int64.reduceToInt, Int32.reduceToNatClampNeg, Int.bmod_def] at i_35)
      refine vB (v_X8_found (by first | omega | (simp only [Int32.toInt_add, Int32.toInt_sub, Int32.toInt_mul, Int32.toInt_toInt64, Int64.toInt_add, z_m1, Int32.reduceToInt, Int64.reduceToInt, Int32.reduceToNatClampNeg, Int.bmod_def, or_true, true_or, and_true, true_and] <;> omega)) (by first | omega | (simp only [Int32.toInt_add, Int32.toInt_sub, Int32.toInt_mul, Int32.toInt_toInt64, Int64.toInt_add, z_m1, Int32.reduceToInt, Int64.reduceToInt, Int32.reduceToNatClampNeg, Int.bmod_def, or_true, true_or, and_true, true_and] <;> omega))) (fun e_50 f_50 q_50 => ?_)
      obtain ⟨x0_50, x1_50⟩ := q_50
      (try simp only [Int32.toInt_add, Int32.toInt_sub, Int32.toInt_mul, Int32.toInt_toInt64, Int64.toInt_add, z_m1, Int32.reduceToInt, Int64.reduceToInt, Int32.reduceToNatClampNeg, Int.bmod_def] at x0_50)
      (try simp only [Int32.toInt_add, Int32.toInt_sub, Int32.toInt_mul, Int32.toInt_toInt64, Int64.toInt_add, z_m1, Int32.reduceToInt, Int64.reduceToInt, Int32.reduceToNatClampNeg, Int.bmod_def] at x1_50)
      refine vIf (fun h_54 => ?_) (fun h_54 => ?_)
      · have i_54 := congrArg Int32.toInt h_54
        (try simp only [Int32.toInt_add, Int32.toInt_sub, Int32.toInt_mul, Int32.toInt_toInt64, Int64.toInt_add, z_m1, Int32.reduceToInt, Int64.reduceToInt, Int32.reduceToNatClampNeg, Int.bmod_def] at i_54)
        exact T_62 _ p_jY (by first | exact Or.inl rfl | exact Or.inr rfl | assumption)
      · have i_54 : ¬ Int32.toInt e_50 = Int32.toInt (-1 : Int32) := fun q => h_54 (Int32.toInt_inj.mp q)
        (try simp only [Int32.toInt_add, Int32.toInt_sub, Int32.toInt_mul, Int32.toInt_toInt64, Int64.toInt_add, z_m1, Int32.reduceToInt, Int64.reduceToInt, Int32.reduceToNatClampNeg, Int.bmod_def] at i_54)
        exact T_57 p_jY
    · have i_35 : ¬ Int32.toInt e_31 = Int32.toInt (-1 : Int32) := fun q => h_35 (Int32.toInt_inj.mp q)
      (try simp only [Int32.toInt_add, Int32.toInt_sub, Int32.toInt_mul, Int32.toInt_toInt64, Int64.toInt_add, z_m1, Int32.reduceToInt, Int64.reduceToInt, Int32.reduceToNatClampNeg, Int.bmod_def] at i_35)
      exact T_57 p_jY
  · have i_16 : ¬ Int32.toInt e_12 = Int32.toInt (-1 : Int32) := fun q => h_16 (Int32.toInt_inj.mp q)
    (try simp only [Int32.toInt_add, Int32.toInt_sub, Int32.toInt_mul, Int32.toInt_toInt64, Int64.toInt_add, z_m1, Int32.reduceToInt, Int64.reduceToInt, Int32.reduceToNatClampNeg, Int.bmod_def] at i_16)
    exact T_57 p_jY
def WM_X8_number (P : Nat) (a j : Nat) : Prop := (a = P ∧ (j = 16 ∨ j = 17 ∨ j = 18 ∨ j = 19 ∨ j = 20 ∨ j = 21 ∨ j = 22 ∨ j = 31))
def WN_X8_number (P : Nat) (a j : Nat) : Prop := (a = P ∧ (j = 24))
theorem wz_M_X8_bad_X8_number {P a j : Nat} (h : ¬ WM_X8_number P a j) : ¬ WM_X8_bad P a j := by unfold WM_X8_bad; unfold WM_X8_number at h; omega
theorem wc_X8_bad_15 {P : Nat} : ¬ WM_X8_bad P P 15 := by unfold WM_X8_bad; omega
theorem wc_X8_bad_17 {P : Nat} : ¬ WM_X8_bad P P 17 := by unfold WM_X8_bad; omega
theorem wc_X8_bad_18 {P : Nat} : ¬ WM_X8_bad P P 18 := by unfold WM_X8_bad; omega
theorem wc_X8_bad_20 {P : Nat} : ¬ WM_X8_bad P P 20 := by unfold WM_X8_bad; omega
theorem wc_X8_bad_28 {P : Nat} : ¬ WM_X8_bad P P 28 := by unfold WM_X8_bad; omega
theorem wc_X8_bad_29 {P : Nat} : ¬ WM_X8_bad P P 29 := by unfold WM_X8_bad; omega
theorem wc_X8_bad_30 {P : Nat} : ¬ WM_X8_bad P P 30 := by unfold WM_X8_bad; omega
theorem wc_X8_bad_31 {P : Nat} : ¬ WM_X8_bad P P 31 := by unfold WM_X8_bad; omega
theorem wf_nA_X8_bad {P a j : Nat} (h : (a = P + 1 ∨ (a = P ∧ j = 8))) : ¬ WM_X8_bad P a j := by unfold WM_X8_bad; omega
theorem wf_jX_X8_bad {P a j : Nat} (h : (a = P ∧ (j = 15 ∨ j = 17))) : ¬ WM_X8_bad P a j := by unfold WM_X8_bad; omega
theorem wf_jY_X8_bad {P a j : Nat} (h : (a = P ∧ (j = 28 ∨ j = 29 ∨ j = 30))) : ¬ WM_X8_bad P a j := by unfold WM_X8_bad; omega
theorem wq_X8_number_M0_31 {P a j : Nat} (h : ¬ WM_X8_number P a j) : ¬ (a = P ∧ j = 31) := by unfold WM_X8_number at h; omega
theorem wf_nA_M0_31 {P a j : Nat} (h : (a = P + 1 ∨ (a = P ∧ j = 8))) : ¬ (a = P ∧ j = 31) := by omega
theorem wf_jX_M0_31 {P a j : Nat} (h : (a = P ∧ (j = 15 ∨ j = 17))) : ¬ (a = P ∧ j = 31) := by omega
theorem wf_jY_M0_31 {P a j : Nat} (h : (a = P ∧ (j = 28 ∨ j = 29 ∨ j = 30))) : ¬ (a = P ∧ j = 31) := by omega
theorem wz_M_X8_next_X8_number {P a j : Nat} (h : ¬ WM_X8_number P a j) : ¬ WM_X8_next P a j := by unfold WM_X8_next; unfold WM_X8_number at h; omega
theorem wz_N_X8_next_X8_number {P a j : Nat} (h : ¬ WN_X8_number P a j) : ¬ WN_X8_next P a j := by unfold WN_X8_next; unfold WN_X8_number at h; omega
theorem wc_X8_next_15 {P : Nat} : ¬ WM_X8_next P P 15 := by unfold WM_X8_next; omega
theorem wc_X8_next_28 {P : Nat} : ¬ WM_X8_next P P 28 := by unfold WM_X8_next; omega
theorem wc_X8_next_29 {P : Nat} : ¬ WM_X8_next P P 29 := by unfold WM_X8_next; omega
theorem wc_X8_next_30 {P : Nat} : ¬ WM_X8_next P P 30 := by unfold WM_X8_next; omega
theorem wc_X8_next_31 {P : Nat} : ¬ WM_X8_next P P 31 := by unfold WM_X8_next; omega
theorem wf_nA_X8_next {P a j : Nat} (h : (a = P + 1 ∨ (a = P ∧ j = 8))) : ¬ WM_X8_next P a j := by unfold WM_X8_next; omega
theorem wf_jY_X8_next {P a j : Nat} (h : (a = P ∧ (j = 28 ∨ j = 29 ∨ j = 30))) : ¬ WM_X8_next P a j := by unfold WM_X8_next; omega
set_option maxRecDepth 100000 in
set_option maxHeartbeats 4000000 in
theorem v_X8_number {P : Nat} {v0 : Int32} {v1 : Int32} {M0 : zMt} {N0 : zNt}  (p_jX : jX P M0) (p_jY : jY P M0) (i_2 : 0 ≤ Int32.toInt v0) : ∃ r, D_X8_number P v0 v1 M0 N0 = some r ∧ ((∀ a j, ¬ WM_X8_number P a j → r.2.1 a j = M0 a j) ∧ (∀ a j, ¬ WN_X8_number P a j → r.2.2 a j = N0 a j) ∧ (r.1 = 0 ∨ r.1 = 1) ∧ ((jX P r.2.1) ∧ (Int32.toInt (M0 P 17) ≤ Int32.toInt (r.2.1 P 17)) ∧ (Int32.toInt r.1 = 0 ∨ (Int32.toInt v0 ≤ Int32.toInt (r.2.1 P 31) ∧ Int32.toInt (r.2.1 P 31) ≤ Int32.toInt v1)))) := by
  obtain ⟨u0_jX, u1_jX, u2_jX, u3_jX⟩ := id p_jX
  obtain ⟨u0_jY, u1_jY, u2_jY, u3_jY, u4_jY, u5_jY⟩ := id p_jY
  unfold D_X8_number
  refine vIf (fun h_5 => ?_) (fun h_5 => ?_)
  · have i_5 := congrArg Int32.toInt h_5
    (try simp only [Int32.toInt_add, Int32.toInt_sub, Int32.toInt_mul, Int32.toInt_toInt64, Int64.toInt_add, z_m1, Int32.reduceToInt, Int64.reduceToInt, Int32.reduceToNatClampNeg, Int.bmod_def] at i_5)
    refine vB (v_X8_isFrom) (fun e_23 f_23 q_23 => ?_)
    have b_23 := q_23.1
    have x0_23 := q_23.2
    (try simp only [Int32.toInt_add, Int32.toInt_sub, Int32.toInt_mul, Int32.toInt_toInt64, Int64.toInt_add, z_m1, Int32.reduceToInt, Int64.reduceToInt, Int32.reduceToNatClampNeg, Int.bmod_def] at x0_23)
    refine vIf (fun h_26 => ?_) (fun h_26 => ?_)
    · have i_26 := congrArg Int32.toInt h_26
      (try simp only [Int32.toInt_add, Int32.toInt_sub, Int32.toInt_mul, Int32.toInt_toInt64, Int64.toInt_add, z_m1, Int32.reduceToInt, Int64.reduceToInt, Int32.reduceToNatClampNeg, Int.bmod_def] at i_26)
      refine vB (v_X8_bad) (fun e_31 f_31 q_31 => ?_)
      have k_31 : ∀ a j, ¬ WM_X8_number P a j → e_31.2 a j = M0 a j := fun a j h => (q_31.1 a j (wz_M_X8_bad_X8_number h))
      have b_31 := q_31.2.1
      have c15_31 : Int32.toInt (e_31.2 P 15) = Int32.toInt (M0 P 15) := congrArg Int32.toInt (q_31.1 P 15 (wc_X8_bad_15))
      have c17_31 : Int32.toInt (e_31.2 P 17) = Int32.toInt (M0 P 17) := congrArg Int32.toInt (q_31.1 P 17 (wc_X8_bad_17))
      have c18_31 : Int32.toInt (e_31.2 P 18) = Int32.toInt (M0 P 18) := congrArg Int32.toInt (q_31.1 P 18 (wc_X8_bad_18))
      have c20_31 : Int32.toInt (e_31.2 P 20) = Int32.toInt (M0 P 20) := congrArg Int32.toInt (q_31.1 P 20 (wc_X8_bad_20))
      have c28_31 : Int32.toInt (e_31.2 P 28) = Int32.toInt (M0 P 28) := congrArg Int32.toInt (q_31.1 P 28 (wc_X8_bad_28))
      have c29_31 : Int32.toInt (e_31.2 P 29) = Int32.toInt (M0 P 29) := congrArg Int32.toInt (q_31.1 P 29 (wc_X8_bad_29))
      have c30_31 : Int32.toInt (e_31.2 P 30) = Int32.toInt (M0 P 30) := congrArg Int32.toInt (q_31.1 P 30 (wc_X8_bad_30))
      have c31_31 : Int32.toInt (e_31.2 P 31) = Int32.toInt (M0 P 31) := congrArg Int32.toInt (q_31.1 P 31 (wc_X8_bad_31))
      have n_31 : nA P e_31.2 = nA P M0 := nA_congr (fun a j h => q_31.1 a j (wf_nA_X8_bad h))
      have p_jX_31 : jX P e_31.2 := jX.mono p_jX (fun a j h => q_31.1 a j (wf_jX_X8_bad h))
      obtain ⟨u0_jX_31, u1_jX_31, u2_jX_31, u3_jX_31⟩ := id p_jX_31
      have p_jY_31 : jY P e_31.2 := jY.mono p_jY (fun a j h => q_31.1 a j (wf_jY_X8_bad h))
      obtain ⟨u0_jY_31, u1_jY_31, u2_jY_31, u3_jY_31, u4_jY_31, u5_jY_31⟩ := id p_jY_31
      have x0_31 := q_31.2.2
      (try simp only [Int32.toInt_add, Int32.toInt_sub, Int32.toInt_mul, Int32.toInt_toInt64, Int64.toInt_add, z_m1, Int32.reduceToInt, Int64.reduceToInt, Int32.reduceToNatClampNeg, Int.bmod_def] at x0_31)
      exact ⟨_, rfl, k_31, (fun _ _ _ => rfl), (by first | exact Or.inl rfl | exact Or.inr rfl | assumption), ⟨p_jX_31, (by first | omega | (simp only [Int32.toInt_add, Int32.toInt_sub, Int32.toInt_mul, Int32.toInt_toInt64, Int64.toInt_add, z_m1, Int32.reduceToInt, Int64.reduceToInt, Int32.reduceToNatClampNeg, Int.bmod_def, or_true, true_or, and_true, true_and] <;> omega)), (by first | omega | (simp only [Int32.toInt_add, Int32.toInt_sub, Int32.toInt_mul, Int32.toInt_toInt64, Int64.toInt_add, z_m1, Int32.reduceToInt, Int64.reduceToInt, Int32.reduceToNatClampNeg, Int.bmod_def, or_true, true_or, and_true, true_and] <;> omega))⟩⟩
    · have i_26 : ¬ Int32.toInt e_23 = Int32.toInt (0 : Int32) := fun q => h_26 (Int32.toInt_inj.mp q)
      (try simp only [Int32.toInt_add, Int32.toInt_sub, Int32.toInt_mul, Int32.toInt_toInt64, Int64.toInt_add, z_m1, Int32.reduceToInt, Int64.reduceToInt, Int32.reduceToNatClampNeg, Int.bmod_def] at i_26)
      refine vLm (W := WM_X8_number P) (fun a j h => (zu_ne (wq_X8_number_M0_31 h))) (fun M_40 f_40 k_40 => ?_)
      have c15_40 : Int32.toInt (M_40 P 15) = Int32.toInt (M0 P 15) := congrArg Int32.toInt ((congrFun (congrFun f_40.symm P) 15).trans (zu_ne (fun z => absurd z.2 (by decide))))
      have c17_40 : Int32.toInt (M_40 P 17) = Int32.toInt (M0 P 17) := congrArg Int32.toInt ((congrFun (congrFun f_40.symm P) 17).trans (zu_ne (fun z => absurd z.2 (by decide))))
      have c18_40 : Int32.toInt (M_40 P 18) = Int32.toInt (M0 P 18) := congrArg Int32.toInt ((congrFun (congrFun f_40.symm P) 18).trans (zu_ne (fun z => absurd z.2 (by decide))))
      have c20_40 : Int32.toInt (M_40 P 20) = Int32.toInt (M0 P 20) := congrArg Int32.toInt ((congrFun (congrFun f_40.symm P) 20).trans (zu_ne (fun z => absurd z.2 (by decide))))
      have c28_40 : Int32.toInt (M_40 P 28) = Int32.toInt (M0 P 28) := congrArg Int32.toInt ((congrFun (congrFun f_40.symm P) 28).trans (zu_ne (fun z => absurd z.2 (by decide))))
      have c29_40 : Int32.toInt (M_40 P 29) = Int32.toInt (M0 P 29) := congrArg Int32.toInt ((congrFun (congrFun f_40.symm P) 29).trans (zu_ne (fun z => absurd z.2 (by decide))))
      have c30_40 : Int32.toInt (M_40 P 30) = Int32.toInt (M0 P 30) := congrArg Int32.toInt ((congrFun (congrFun f_40.symm P) 30).trans (zu_ne (fun z => absurd z.2 (by decide))))
      have n_40 : nA P M_40 = nA P M0 := nA_congr (fun a j h => (congrFun (congrFun f_40.symm a) j).trans (zu_ne (wf_nA_M0_31 h)))
      have p_jX_40 : jX P M_40 := jX.mono p_jX (fun a j h => (congrFun (congrFun f_40.symm a) j).trans (zu_ne (wf_jX_M0_31 h)))
      obtain ⟨u0_jX_40, u1_jX_40, u2_jX_40, u3_jX_40⟩ := id p_jX_40
      have p_jY_40 : jY P M_40 := jY.mono p_jY (fun a j h => (congrFun (congrFun f_40.symm a) j).trans (zu_ne (wf_jY_M0_31 h)))
      obtain ⟨u0_jY_40, u1_jY_40, u2_jY_40, u3_jY_40, u4_jY_40, u5_jY_40⟩ := id p_jY_40
      have z_40 : Int32.toInt (M_40 P 31) = Int32.toInt (M0 P 20) := by rw [← f_40, zu_eq]
      refine vB (v_X8_next p_jX_40) (fun e_44 f_44 q_44 => ?_)
      have k_44 : ∀ a j, ¬ WM_X8_number P a j → e_44.2.1 a j = M0 a j := fun a j h => (q_44.1 a j (wz_M_X8_next_X8_number h)).trans (k_40 a j h)
      have kn_44 : ∀ a j, ¬ WN_X8_number P a j → e_44.2.2 a j = N0 a j := fun a j h => (q_44.2.1 a j (wz_N_X8_next_X8_number h))
      have b_44 := q_44.2.2.1
      have c15_44 : Int32.toInt (e_44.2.1 P 15) = Int32.toInt (M_40 P 15) := congrArg Int32.toInt (q_44.1 P 15 (wc_X8_next_15))
      have c28_44 : Int32.toInt (e_44.2.1 P 28) = Int32.toInt (M_40 P 28) := congrArg Int32.toInt (q_44.1 P 28 (wc_X8_next_28))
      have c29_44 : Int32.toInt (e_44.2.1 P 29) = Int32.toInt (M_40 P 29) := congrArg Int32.toInt (q_44.1 P 29 (wc_X8_next_29))
      have c30_44 : Int32.toInt (e_44.2.1 P 30) = Int32.toInt (M_40 P 30) := congrArg Int32.toInt (q_44.1 P 30 (wc_X8_next_30))
      have c31_44 : Int32.toInt (e_44.2.1 P 31) = Int32.toInt (M_40 P 31) := congrArg Int32.toInt (q_44.1 P 31 (wc_X8_next_31))
      have n_44 : nA P e_44.2.1 = nA P M_40 := nA_congr (fun a j h => q_44.1 a j (wf_nA_X8_next h))
      have p_jY_44 : jY P e_44.2.1 := jY.mono p_jY_40 (fun a j h => q_44.1 a j (wf_jY_X8_next h))
      obtain ⟨u0_jY_44, u1_jY_44, u2_jY_44, u3_jY_44, u4_jY_44, u5_jY_44⟩ := id p_jY_44
      obtain ⟨x0_44, x1_44, x2_44, x3_44⟩ := q_44.2.2.2
      obtain ⟨u0_jX_44, u1_jX_44, u2_jX_44, u3_jX_44⟩ := id x0_44
      (try simp only [Int32.toInt_add, Int32.toInt_sub, Int32.toInt_mul, Int32.toInt_toInt64, Int64.toInt_add, z_m1, Int32.reduceToInt, Int64.reduceToInt, Int32.reduceToNatClampNeg, Int.bmod_def] at x1_44)
      (try simp only [Int32.toInt_add, Int32.toInt_sub, Int32.toInt_mul, Int32.toInt_toInt64, Int64.toInt_add, z_m1, Int32.reduceToInt, Int64.reduceToInt, Int32.reduceToNatClampNeg, Int.bmod_def] at x2_44)
      (try simp only [Int32.toInt_add, Int32.toInt_sub, Int32.toInt_mul, Int32.toInt_toInt64, Int64.toInt_add, z_m1, Int32.reduceToInt, Int64.reduceToInt, Int32.reduceToNatClampNeg, Int.bmod_def] at x3_44)
      exact ⟨_, rfl, k_44, kn_44, (by first | exact Or.inl rfl | exact Or.inr rfl | assumption), ⟨x0_44, (by first | omega | (simp only [Int32.toInt_add, Int32.toInt_sub, Int32.toInt_mul, Int32.toInt_toInt64, Int64.toInt_add, z_m1, Int32.reduceToInt, Int64.reduceToInt, Int32.reduceToNatClampNeg, Int.bmod_def, or_true, true_or, and_true, true_and] <;> omega)), (by first | omega | (simp only [Int32.toInt_add, Int32.toInt_sub, Int32.toInt_mul, Int32.toInt_toInt64, Int64.toInt_add, z_m1, Int32.reduceToInt, Int64.reduceToInt, Int32.reduceToNatClampNeg, Int.bmod_def, or_true, true_or, and_true, true_and] <;> omega))⟩⟩
  · have i_5 : ¬ Int32.toInt (M0 P 18) = Int32.toInt (3 : Int32) := fun q => h_5 (Int32.toInt_inj.mp q)
    (try simp only [Int32.toInt_add, Int32.toInt_sub, Int32.toInt_mul, Int32.toInt_toInt64, Int64.toInt_add, z_m1, Int32.reduceToInt, Int64.reduceToInt, Int32.reduceToNatClampNeg, Int.bmod_def] at i_5)
    refine vB (v_X8_bad) (fun e_10 f_10 q_10 => ?_)
    have k_10 : ∀ a j, ¬ WM_X8_number P a j → e_10.2 a j = M0 a j := fun a j h => (q_10.1 a j (wz_M_X8_bad_X8_number h))
    have b_10 := q_10.2.1
    have c15_10 : Int32.toInt (e_10.2 P 15) = Int32.toInt (M0 P 15) := congrArg Int32.toInt (q_10.1 P 15 (wc_X8_bad_15))
    have c17_10 : Int32.toInt (e_10.2 P 17) = Int32.toInt (M0 P 17) := congrArg Int32.toInt (q_10.1 P 17 (wc_X8_bad_17))
    have c18_10 : Int32.toInt (e_10.2 P 18) = Int32.toInt (M0 P 18) := congrArg Int32.toInt (q_10.1 P 18 (wc_X8_bad_18))
    have c20_10 : Int32.toInt (e_10.2 P 20) = Int32.toInt (M0 P 20) := congrArg Int32.toInt (q_10.1 P 20 (wc_X8_bad_20))
    have c28_10 : Int32.toInt (e_10.2 P 28) = Int32.toInt (M0 P 28) := congrArg Int32.toInt (q_10.1 P 28 (wc_X8_bad_28))
    have c29_10 : Int32.toInt (e_10.2 P 29) = Int32.toInt (M0 P 29) := congrArg Int32.toInt (q_10.1 P 29 (wc_X8_bad_29))
    have c30_10 : Int32.toInt (e_10.2 P 30) = Int32.toInt (M0 P 30) := congrArg Int32.toInt (q_10.1 P 30 (wc_X8_bad_30))
    have c31_10 : Int32.toInt (e_10.2 P 31) = Int32.toInt (M0 P 31) := congrArg Int32.toInt (q_10.1 P 31 (wc_X8_bad_31))
    have n_10 : nA P e_10.2 = nA P M0 := nA_congr (fun a j h => q_10.1 a j (wf_nA_X8_bad h))
    have p_jX_10 : jX P e_10.2 := jX.mono p_jX (fun a j h => q_10.1 a j (wf_jX_X8_bad h))
    obtain ⟨u0_jX_10, u1_jX_10, u2_jX_10, u3_jX_10⟩ := id p_jX_10
    have p_jY_10 : jY P e_10.2 := jY.mono p_jY (fun a j h => q_10.1 a j (wf_jY_X8_bad h))
    obtain ⟨u0_jY_10, u1_jY_10, u2_jY_10, u3_jY_10, u4_jY_10, u5_jY_10⟩ := id p_jY_10
    have x0_10 := q_10.2.2
    (try simp only [Int32.toInt_add, Int32.toInt_sub, Int32.toInt_mul, Int32.toInt_toInt64, Int64.toInt_add, z_m1, Int32.reduceToInt, Int64.reduceToInt, Int32.reduceToNatClampNeg, Int.bmod_def] at x0_10)
    exact ⟨_, rfl, k_10, (fun _ _ _ => rfl), (by first | exact Or.inl rfl | exact Or.inr rfl | assumption), ⟨p_jX_10, (by first | omega | (simp only [Int32.toInt_add, Int32.toInt_sub, Int32.toInt_mul, Int32.toInt_toInt64, Int64.toInt_add, z_m1, Int32.reduceToInt, Int64.reduceToInt, Int32.reduceToNatClampNeg, Int.bmod_def, or_true, true_or, and_true, true_and] <;> omega)), (by first | omega | (simp only [Int32.toInt_add, Int32.toInt_sub, Int32.toInt_mul, Int32.toInt_toInt64, Int64.toInt_add, z_m1, Int32.reduceToInt, Int64.reduceToInt, Int32.reduceToNatClampNeg, Int.bmod_def, or_true, true_or, and_true, true_and] <;> omega))⟩⟩
def WM_X8_newName (P : Nat) (a j : Nat) : Prop := (a = P ∧ (j = 16 ∨ j = 17 ∨ j = 18 ∨ j = 19 ∨ j = 20 ∨ j = 21 ∨ j = 22))
def WN_X8_newName (P : Nat) (a j : Nat) : Prop := (a = P ∧ (j = 24 ∨ j = 32))
theorem wz_M_X8_bad_X8_newName {P a j : Nat} (h : ¬ WM_X8_newName P a j) : ¬ WM_X8_bad P a j := by unfold WM_X8_bad; unfold WM_X8_newName at h; omega
theorem wq_X8_newName_N0_32 {P a j : Nat} (h : ¬ WN_X8_newName P a j) : ¬ (a = P ∧ j = 32) := by unfold WN_X8_newName at h; omega
theorem wz_M_X8_next_X8_newName {P a j : Nat} (h : ¬ WM_X8_newName P a j) : ¬ WM_X8_next P a j := by unfold WM_X8_next; unfold WM_X8_newName at h; omega
theorem wz_N_X8_next_X8_newName {P a j : Nat} (h : ¬ WN_X8_newName P a j) : ¬ WN_X8_next P a j := by unfold WN_X8_next; unfold WN_X8_newName at h; omega
set_option maxRecDepth 100000 in
set_option maxHeartbeats 4000000 in
theorem v_X8_newName {P : Nat}  {M0 : zMt} {N0 : zNt}  (p_jX : jX P M0) (p_jY : jY P M0) : ∃ r, D_X8_newName P M0 N0 = some r ∧ ((∀ a j, ¬ WM_X8_newName P a j → r.2.1 a j = M0 a j) ∧ (∀ a j, ¬ WN_X8_newName P a j → r.2.2 a j = N0 a j) ∧ (r.1 = 0 ∨ r.1 = 1) ∧ ((jX P r.2.1) ∧ (Int32.toInt (M0 P 17) ≤ Int32.toInt (r.2.1 P 17)))) := by
  obtain ⟨u0_jX, u1_jX, u2_jX, u3_jX⟩ := id p_jX
  obtain ⟨u0_jY, u1_jY, u2_jY, u3_jY, u4_jY, u5_jY⟩ := id p_jY
  unfold D_X8_newName
  refine vB (v_X8_isName) (fun e_1 f_1 q_1 => ?_)
  have b_1 := q_1
  refine vIf (fun h_4 => ?_) (fun h_4 => ?_)
  · have i_4 := congrArg Int32.toInt h_4
    (try simp only [Int32.toInt_add, Int32.toInt_sub, Int32.toInt_mul, Int32.toInt_toInt64, Int64.toInt_add, z_m1, Int32.reduceToInt, Int64.reduceToInt, Int32.reduceToNatClampNeg, Int.bmod_def] at i_4)
    refine vB (v_X8_bad) (fun e_9 f_9 q_9 => ?_)
    have k_9 : ∀ a j, ¬ WM_X8_newName P a j → e_9.2 a j = M0 a j := fun a j h => (q_9.1 a j (wz_M_X8_bad_X8_newName h))
    have b_9 := q_9.2.1
    have c15_9 : Int32.toInt (e_9.2 P 15) = Int32.toInt (M0 P 15) := congrArg Int32.toInt (q_9.1 P 15 (wc_X8_bad_15))
    have c17_9 : Int32.toInt (e_9.2 P 17) = Int32.toInt (M0 P 17) := congrArg Int32.toInt (q_9.1 P 17 (wc_X8_bad_17))
    have c18_9 : Int32.toInt (e_9.2 P 18) = Int32.toInt (M0 P 18) := congrArg Int32.toInt (q_9.1 P 18 (wc_X8_bad_18))
    have c20_9 : Int32.toInt (e_9.2 P 20) = Int32.toInt (M0 P 20) := congrArg Int32.toInt (q_9.1 P 20 (wc_X8_bad_20))
    have c28_9 : Int32.toInt (e_9.2 P 28) = Int32.toInt (M0 P 28) := congrArg Int32.toInt (q_9.1 P 28 (wc_X8_bad_28))
    have c29_9 : Int32.toInt (e_9.2 P 29) = Int32.toInt (M0 P 29) := congrArg Int32.toInt (q_9.1 P 29 (wc_X8_bad_29))
    have c30_9 : Int32.toInt (e_9.2 P 30) = Int32.toInt (M0 P 30) := congrArg Int32.toInt (q_9.1 P 30 (wc_X8_bad_30))
    have c31_9 : Int32.toInt (e_9.2 P 31) = Int32.toInt (M0 P 31) := congrArg Int32.toInt (q_9.1 P 31 (wc_X8_bad_31))
    have n_9 : nA P e_9.2 = nA P M0 := nA_congr (fun a j h => q_9.1 a j (wf_nA_X8_bad h))
    have p_jX_9 : jX P e_9.2 := jX.mono p_jX (fun a j h => q_9.1 a j (wf_jX_X8_bad h))
    obtain ⟨u0_jX_9, u1_jX_9, u2_jX_9, u3_jX_9⟩ := id p_jX_9
    have p_jY_9 : jY P e_9.2 := jY.mono p_jY (fun a j h => q_9.1 a j (wf_jY_X8_bad h))
    obtain ⟨u0_jY_9, u1_jY_9, u2_jY_9, u3_jY_9, u4_jY_9, u5_jY_9⟩ := id p_jY_9
    have x0_9 := q_9.2.2
    (try simp only [Int32.toInt_add, Int32.toInt_sub, Int32.toInt_mul, Int32.toInt_toInt64, Int64.toInt_add, z_m1, Int32.reduceToInt, Int64.reduceToInt, Int32.reduceToNatClampNeg, Int.bmod_def] at x0_9)
    exact ⟨_, rfl, k_9, (fun _ _ _ => rfl), (by first | exact Or.inl rfl | exact Or.inr rfl | assumption), ⟨p_jX_9, (by first | omega | (simp only [Int32.toInt_add, Int32.toInt_sub, Int32.toInt_mul, Int32.toInt_toInt64, Int64.toInt_add, z_m1, Int32.reduceToInt, Int64.reduceToInt, Int32.reduceToNatClampNeg, Int.bmod_def, or_true, true_or, and_true, true_and] <;> omega))⟩⟩
  · have i_4 : ¬ Int32.toInt e_1 = Int32.toInt (0 : Int32) := fun q => h_4 (Int32.toInt_inj.mp q)
    (try simp only [Int32.toInt_add, Int32.toInt_sub, Int32.toInt_mul, Int32.toInt_toInt64, Int64.toInt_add, z_m1, Int32.reduceToInt, Int64.reduceToInt, Int32.reduceToNatClampNeg, Int.bmod_def] at i_4)
    refine vB (v_X8_isTaken p_jY) (fun e_14 f_14 q_14 => ?_)
    have b_14 := q_14
    refine vIf (fun h_17 => ?_) (fun h_17 => ?_)
    · have i_17 := congrArg Int32.toInt h_17
      (try simp only [Int32.toInt_add, Int32.toInt_sub, Int32.toInt_mul, Int32.toInt_toInt64, Int64.toInt_add, z_m1, Int32.reduceToInt, Int64.reduceToInt, Int32.reduceToNatClampNeg, Int.bmod_def] at i_17)
      refine vLn (W := WN_X8_newName P) (fun a j h => (zu_ne (wq_X8_newName_N0_32 h))) (fun N_31 f_31 kn_31 => ?_)
      refine vB (v_X8_next p_jX) (fun e_35 f_35 q_35 => ?_)
      have k_35 : ∀ a j, ¬ WM_X8_newName P a j → e_35.2.1 a j = M0 a j := fun a j h => (q_35.1 a j (wz_M_X8_next_X8_newName h))
      have kn_35 : ∀ a j, ¬ WN_X8_newName P a j → e_35.2.2 a j = N0 a j := fun a j h => (q_35.2.1 a j (wz_N_X8_next_X8_newName h)).trans (kn_31 a j h)
      have b_35 := q_35.2.2.1
      have c15_35 : Int32.toInt (e_35.2.1 P 15) = Int32.toInt (M0 P 15) := congrArg Int32.toInt (q_35.1 P 15 (wc_X8_next_15))
      have c28_35 : Int32.toInt (e_35.2.1 P 28) = Int32.toInt (M0 P 28) := congrArg Int32.toInt (q_35.1 P 28 (wc_X8_next_28))
      have c29_35 : Int32.toInt (e_35.2.1 P 29) = Int32.toInt (M0 P 29) := congrArg Int32.toInt (q_35.1 P 29 (wc_X8_next_29))
      have c30_35 : Int32.toInt (e_35.2.1 P 30) = Int32.toInt (M0 P 30) := congrArg Int32.toInt (q_35.1 P 30 (wc_X8_next_30))
      have c31_35 : Int32.toInt (e_35.2.1 P 31) = Int32.toInt (M0 P 31) := congrArg Int32.toInt (q_35.1 P 31 (wc_X8_next_31))
      have n_35 : nA P e_35.2.1 = nA P M0 := nA_congr (fun a j h => q_35.1 a j (wf_nA_X8_next h))
      have p_jY_35 : jY P e_35.2.1 := jY.mono p_jY (fun a j h => q_35.1 a j (wf_jY_X8_next h))
      obtain ⟨u0_jY_35, u1_jY_35, u2_jY_35, u3_jY_35, u4_jY_35, u5_jY_35⟩ := id p_jY_35
      obtain ⟨x0_35, x1_35, x2_35, x3_35⟩ := q_35.2.2.2
      obtain ⟨u0_jX_35, u1_jX_35, u2_jX_35, u3_jX_35⟩ := id x0_35
      (try simp only [Int32.toInt_add, Int32.toInt_sub, Int32.toInt_mul, Int32.toInt_toInt64, Int64.toInt_add, z_m1, Int32.reduceToInt, Int64.reduceToInt, Int32.reduceToNatClampNeg, Int.bmod_def] at x1_35)
      (try simp only [Int32.toInt_add, Int32.toInt_sub, Int32.toInt_mul, Int32.toInt_toInt64, Int64.toInt_add, z_m1, Int32.reduceToInt, Int64.reduceToInt, Int32.reduceToNatClampNeg, Int.bmod_def] at x2_35)
      (try simp only [Int32.toInt_add, Int32.toInt_sub, Int32.toInt_mul, Int32.toInt_toInt64, Int64.toInt_add, z_m1, Int32.reduceToInt, Int64.reduceToInt, Int32.reduceToNatClampNeg, Int.bmod_def] at x3_35)
      exact ⟨_, rfl, k_35, kn_35, (by first | exact Or.inl rfl | exact Or.inr rfl | assumption), ⟨x0_35, (by first | omega | (simp only [Int32.toInt_add, Int32.toInt_sub, Int32.toInt_mul, Int32.toInt_toInt64, Int64.toInt_add, z_m1, Int32.reduceToInt, Int64.reduceToInt, Int32.reduceToNatClampNeg, Int.bmod_def, or_true, true_or, and_true, true_and] <;> omega))⟩⟩
    · have i_17 : ¬ Int32.toInt e_14 = Int32.toInt (0 : Int32) := fun q => h_17 (Int32.toInt_inj.mp q)
      (try simp only [Int32.toInt_add, Int32.toInt_sub, Int32.toInt_mul, Int32.toInt_toInt64, Int64.toInt_add, z_m1, Int32.reduceToInt, Int64.reduceToInt, Int32.reduceToNatClampNeg, Int.bmod_def] at i_17)
      refine vB (v_X8_bad) (fun e_22 f_22 q_22 => ?_)
      have k_22 : ∀ a j, ¬ WM_X8_newName P a j → e_22.2 a j = M0 a j := fun a j h => (q_22.1 a j (wz_M_X8_bad_X8_newName h))
      have b_22 := q_22.2.1
      have c15_22 : Int32.toInt (e_22.2 P 15) = Int32.toInt (M0 P 15) := congrArg Int32.toInt (q_22.1 P 15 (wc_X8_bad_15))
      have c17_22 : Int32.toInt (e_22.2 P 17) = Int32.toInt (M0 P 17) := congrArg Int32.toInt (q_22.1 P 17 (wc_X8_bad_17))
      have c18_22 : Int32.toInt (e_22.2 P 18) = Int32.toInt (M0 P 18) := congrArg Int32.toInt (q_22.1 P 18 (wc_X8_bad_18))
      have c20_22 : Int32.toInt (e_22.2 P 20) = Int32.toInt (M0 P 20) := congrArg Int32.toInt (q_22.1 P 20 (wc_X8_bad_20))
      have c28_22 : Int32.toInt (e_22.2 P 28) = Int32.toInt (M0 P 28) := congrArg Int32.toInt (q_22.1 P 28 (wc_X8_bad_28))
      have c29_22 : Int32.toInt (e_22.2 P 29) = Int32.toInt (M0 P 29) := congrArg Int32.toInt (q_22.1 P 29 (wc_X8_bad_29))
      have c30_22 : Int32.toInt (e_22.2 P 30) = Int32.toInt (M0 P 30) := congrArg Int32.toInt (q_22.1 P 30 (wc_X8_bad_30))
      have c31_22 : Int32.toInt (e_22.2 P 31) = Int32.toInt (M0 P 31) := congrArg Int32.toInt (q_22.1 P 31 (wc_X8_bad_31))
      have n_22 : nA P e_22.2 = nA P M0 := nA_congr (fun a j h => q_22.1 a j (wf_nA_X8_bad h))
      have p_jX_22 : jX P e_22.2 := jX.mono p_jX (fun a j h => q_22.1 a j (wf_jX_X8_bad h))
      obtain ⟨u0_jX_22, u1_jX_22, u2_jX_22, u3_jX_22⟩ := id p_jX_22
      have p_jY_22 : jY P e_22.2 := jY.mono p_jY (fun a j h => q_22.1 a j (wf_jY_X8_bad h))
      obtain ⟨u0_jY_22, u1_jY_22, u2_jY_22, u3_jY_22, u4_jY_22, u5_jY_22⟩ := id p_jY_22
      have x0_22 := q_22.2.2
      (try simp only [Int32.toInt_add, Int32.toInt_sub, Int32.toInt_mul, Int32.toInt_toInt64, Int64.toInt_add, z_m1, Int32.reduceToInt, Int64.reduceToInt, Int32.reduceToNatClampNeg, Int.bmod_def] at x0_22)
      exact ⟨_, rfl, k_22, (fun _ _ _ => rfl), (by first | exact Or.inl rfl | exact Or.inr rfl | assumption), ⟨p_jX_22, (by first | omega | (simp only [Int32.toInt_add, Int32.toInt_sub, Int32.toInt_mul, Int32.toInt_toInt64, Int64.toInt_add, z_m1, Int32.reduceToInt, Int64.reduceToInt, Int32.reduceToNatClampNeg, Int.bmod_def, or_true, true_or, and_true, true_and] <;> omega))⟩⟩
/-! the row that is being read -/
/-- a row stands for a list of U units, H hunters, G parties -/
def jRowP (r : Nat → Int32) (U H G : Int) : Prop :=
  (∀ h : Nat, h < 10 → 0 ≤ (r h).toInt ∧ (r h).toInt ≤ 20) ∧
  (∀ h : Nat, h < 10 → -1 ≤ (r (10 + h)).toInt ∧ (r (10 + h)).toInt < G ∧ ((h : Int) < H ∨ (r (10 + h)).toInt = -1)) ∧
  (∀ k : Nat, 20 ≤ k → k < 62 → -1 ≤ (r k).toInt ∧ (r k).toInt < U) ∧
  (∀ u : Nat, u < 5 → 0 ≤ (r (62 + u)).toInt ∧ (r (62 + u)).toInt ≤ 20) ∧
  (0 ≤ (r 67).toInt ∧ (r 67).toInt ≤ 2 ∧ 0 ≤ (r 68).toInt ∧ (r 68).toInt ≤ 100 ∧ 0 ≤ (r 69).toInt ∧ (r 69).toInt ≤ 100) ∧
  (∀ p : Nat, (p : Int) < G → ∃ h : Nat, (h : Int) < H ∧ (r (10 + h)).toInt = p)
theorem jRowP.mono {r : Nat → Int32} {U H G U' H' : Int} (h : jRowP r U H G) (hU : U ≤ U') (hH : H ≤ H') : jRowP r U' H' G := by
  obtain ⟨s1, s2, s3, s4, s5, s6⟩ := h
  refine ⟨s1, fun x hx => ?_, fun k h1 h2 => ?_, s4, s5, fun p hp => ?_⟩
  · have := s2 x hx
    omega
  · have := s3 k h1 h2
    omega
  · obtain ⟨x, h1, h2⟩ := s6 p hp
    exact ⟨x, by omega, h2⟩
def jZ (P : Nat) (M : zMt) : Prop := jRowP (M (P + 2)) (M P 28).toInt (M P 29).toInt (M P 30).toInt
theorem jZ.mono {P : Nat} {M M' : zMt} (h : jZ P M) (hf : ∀ a j, (a = P + 2 ∨ (a = P ∧ (j = 28 ∨ j = 29 ∨ j = 30))) → M' a j = M a j) : jZ P M' := by
  unfold jZ
  rw [hf P 28 (by omega), hf P 29 (by omega), hf P 30 (by omega), show M' (P + 2) = M (P + 2) from funext fun j => hf (P + 2) j (by omega)]
  exact h
/-- a number of the row that is being read becomes another, where it may -/
theorem jZ.put {P k : Nat} {M M' : zMt} {v : Int32} (h : jZ P M) (hH : (M P 29).toInt ≤ 10) (f : zu M (P + 2) k v = M') (hk : (k < 10 ∧ 0 ≤ v.toInt ∧ v.toInt ≤ 20) ∨ (20 ≤ k ∧ k < 62 ∧ -1 ≤ v.toInt ∧ v.toInt < (M P 28).toInt) ∨ (62 ≤ k ∧ k < 67 ∧ 0 ≤ v.toInt ∧ v.toInt ≤ 20) ∨ (k = 67 ∧ 0 ≤ v.toInt ∧ v.toInt ≤ 2) ∨ (68 ≤ k ∧ k < 70 ∧ 0 ≤ v.toInt ∧ v.toInt ≤ 100) ∨ 70 ≤ k) : jZ P M' := by
  subst f
  obtain ⟨s1, s2, s3, s4, s5, s6⟩ := id h
  unfold jZ
  rw [congrFun (zu_row (show P ≠ P + 2 by omega)) 28, congrFun (zu_row (show P ≠ P + 2 by omega)) 29, congrFun (zu_row (show P ≠ P + 2 by omega)) 30]
  have e : ∀ j, ¬ j = k → zu M (P + 2) k v (P + 2) j = M (P + 2) j := fun j hj => zu_ne (by omega)
  have g : ∀ (j : Nat) (lo hi : Int), (lo ≤ (M (P + 2) j).toInt ∧ (M (P + 2) j).toInt ≤ hi) → (j = k → lo ≤ v.toInt ∧ v.toInt ≤ hi) → lo ≤ (zu M (P + 2) k v (P + 2) j).toInt ∧ (zu M (P + 2) k v (P + 2) j).toInt ≤ hi := fun j lo hi h1 h2 => by
    by_cases q : j = k
    · have := h2 q
      subst q
      rw [zu_eq]
      exact this
    · rw [e j q]; exact h1
  refine ⟨fun x hx => g x 0 20 (s1 x hx) (fun q => by omega), fun x hx => ?_, fun x h1 h2 => ?_, fun u hu => g (62 + u) 0 20 (s4 u hu) (fun q => by omega), ?_, fun p hp => ?_⟩
  · rw [e (10 + x) (by omega)]
    exact s2 x hx
  · have := g x (-1) ((M P 28).toInt - 1) (by have := s3 x h1 h2; omega) (fun q => by omega)
    omega
  · have a7 := g 67 0 2 (by omega) (fun q => by omega)
    have a8 := g 68 0 100 (by omega) (fun q => by omega)
    have a9 := g 69 0 100 (by omega) (fun q => by omega)
    omega
  · obtain ⟨x, h1, h2⟩ := s6 p hp
    exact ⟨x, h1, by rw [e (10 + x) (by omega)]; exact h2⟩
/-- one unit, or one hunter, more -/
theorem jZ.up {P k : Nat} {M M' : zMt} {v : Int32} (h : jZ P M) (f : zu M P k v = M') (hk : (k = 28 ∧ (M P 28).toInt ≤ v.toInt) ∨ (k = 29 ∧ (M P 29).toInt ≤ v.toInt) ∨ (¬ k = 28 ∧ ¬ k = 29 ∧ ¬ k = 30)) : jZ P M' := by
  subst f
  unfold jZ
  rw [zu_row (show P + 2 ≠ P by omega), zu_ne (show ¬ (P = P ∧ 30 = k) by omega)]
  refine jRowP.mono h ?_ ?_
  · by_cases q : 28 = k
    · subst q; rw [zu_eq]; omega
    · rw [zu_ne (by omega)]; exact Int.le_refl _
  · by_cases q : 29 = k
    · subst q; rw [zu_eq]; omega
    · rw [zu_ne (by omega)]; exact Int.le_refl _
/-- at the end the row's own number of parties is told -/
theorem jRowP.done {r r' : Nat → Int32} {U H G : Int} (h : jRowP r U H G) (hH : H ≤ 10) (e : ∀ j, j < 82 → ¬ j = 70 → r' j = r j) (e70 : (r' 70).toInt = G) (g : 0 ≤ G ∧ G ≤ 4) : jRow r' U H := by
  obtain ⟨s1, s2, s3, s4, s5, s6⟩ := h
  refine ⟨fun x hx => ?_, fun x hx => ?_, fun k h1 h2 => ?_, fun u hu => ?_, ?_, fun p hp => ?_⟩
  · rw [e x (by omega) (by omega)]; exact s1 x hx
  · rw [e (10 + x) (by omega) (by omega), e70]; exact s2 x hx
  · rw [e k (by omega) (by omega)]; exact s3 k h1 h2
  · rw [e (62 + u) (by omega) (by omega)]; exact s4 u hu
  · rw [e 67 (by omega) (by omega), e 68 (by omega) (by omega), e 69 (by omega) (by omega), e70]; omega
  · rw [e70] at hp
    obtain ⟨x, h1, h2⟩ := s6 p hp
    exact ⟨x, h1, by rw [e (10 + x) (by omega) (by omega)]; exact h2⟩
theorem jY.put {P k : Nat} {M M' : zMt} {v : Int32} (h : jY P M) (f : zu M P k v = M') (hk : (k = 28 ∧ 0 ≤ v.toInt ∧ v.toInt ≤ 5) ∨ (k = 29 ∧ 0 ≤ v.toInt ∧ v.toInt ≤ 10) ∨ (k = 30 ∧ 0 ≤ v.toInt ∧ v.toInt ≤ 4)) : jY P M' := by
  subst f
  unfold jY at h ⊢
  rcases hk with ⟨q, h0, h1⟩ | ⟨q, h0, h1⟩ | ⟨q, h0, h1⟩ <;> subst q
  · rw [zu_eq, zu_ne (show ¬ (P = P ∧ 29 = 28) by omega), zu_ne (show ¬ (P = P ∧ 30 = 28) by omega)]
    exact ⟨h0, h1, h.2.2⟩
  · rw [zu_eq, zu_ne (show ¬ (P = P ∧ 28 = 29) by omega), zu_ne (show ¬ (P = P ∧ 30 = 29) by omega)]
    exact ⟨h.1, h.2.1, h0, h1, h.2.2.2.2⟩
  · rw [zu_eq, zu_ne (show ¬ (P = P ∧ 28 = 30) by omega), zu_ne (show ¬ (P = P ∧ 29 = 30) by omega)]
    exact ⟨h.1, h.2.1, h.2.2.1, h.2.2.2.1, h0, h1⟩
theorem z_at {c x : Int32} (h0 : 0 ≤ x.toInt) (h1 : x.toInt < 10) (c0 : 0 ≤ c.toInt) (c1 : c.toInt ≤ 50) : (c + (3 : Int32) * x).toInt = c.toInt + 3 * x.toInt := by
  have ex : x = nI x.toInt.toNat := Int32.toInt_inj.mp (by rw [nI_toInt (by omega)]; omega)
  have key : ∀ k : Nat, k < 10 → ((3 : Int32) * nI k).toInt = 3 * (k : Int) := by decide
  have e3 : ((3 : Int32) * x).toInt = 3 * x.toInt := by
    have := key x.toInt.toNat (by omega)
    rw [← ex] at this
    omega
  rw [z_add (by omega) (by omega), e3]
theorem z_at20 {x : Int32} (h0 : 0 ≤ x.toInt) (h1 : x.toInt < 10) : 20 ≤ ((20 : Int32) + (3 : Int32) * x).toInt ∧ ((20 : Int32) + (3 : Int32) * x).toInt ≤ 59 := by
  have o : (20 : Int32).toInt = 20 := by decide
  rw [z_at h0 h1 (by omega) (by omega)]
  omega
theorem z_at50 {x : Int32} (h0 : 0 ≤ x.toInt) (h1 : x.toInt < 4) : 20 ≤ ((50 : Int32) + (3 : Int32) * x).toInt ∧ ((50 : Int32) + (3 : Int32) * x).toInt ≤ 59 := by
  have o : (50 : Int32).toInt = 50 := by decide
  rw [z_at h0 (by omega) (by omega) (by omega)]
  omega
def WM_X8_readUnit (P : Nat) (a j : Nat) : Prop := (P + 2 ≤ a ∧ a < P + 3) ∨ (a = P ∧ (j = 16 ∨ j = 17 ∨ j = 18 ∨ j = 19 ∨ j = 20 ∨ j = 21 ∨ j = 22 ∨ j = 28 ∨ j = 31))
def WN_X8_readUnit (P : Nat) (a j : Nat) : Prop := (P + 8 ≤ a ∧ a < P + 9) ∨ (a = P ∧ (j = 24 ∨ j = 32))
theorem wz_M_X8_bad_X8_readUnit {P a j : Nat} (h : ¬ WM_X8_readUnit P a j) : ¬ WM_X8_bad P a j := by unfold WM_X8_bad; unfold WM_X8_readUnit at h; omega
theorem wf_jZ_X8_bad {P a j : Nat} (h : (a = P + 2 ∨ (a = P ∧ (j = 28 ∨ j = 29 ∨ j = 30)))) : ¬ WM_X8_bad P a j := by unfold WM_X8_bad; omega
theorem wz_M_X8_next_X8_readUnit {P a j : Nat} (h : ¬ WM_X8_readUnit P a j) : ¬ WM_X8_next P a j := by unfold WM_X8_next; unfold WM_X8_readUnit at h; omega
theorem wz_N_X8_next_X8_readUnit {P a j : Nat} (h : ¬ WN_X8_readUnit P a j) : ¬ WN_X8_next P a j := by unfold WN_X8_next; unfold WN_X8_readUnit at h; omega
theorem wf_jZ_X8_next {P a j : Nat} (h : (a = P + 2 ∨ (a = P ∧ (j = 28 ∨ j = 29 ∨ j = 30)))) : ¬ WM_X8_next P a j := by unfold WM_X8_next; omega
theorem wz_M_X8_newName_X8_readUnit {P a j : Nat} (h : ¬ WM_X8_readUnit P a j) : ¬ WM_X8_newName P a j := by unfold WM_X8_newName; unfold WM_X8_readUnit at h; omega
theorem wz_N_X8_newName_X8_readUnit {P a j : Nat} (h : ¬ WN_X8_readUnit P a j) : ¬ WN_X8_newName P a j := by unfold WN_X8_newName; unfold WN_X8_readUnit at h; omega
theorem wc_X8_newName_15 {P : Nat} : ¬ WM_X8_newName P P 15 := by unfold WM_X8_newName; omega
theorem wc_X8_newName_28 {P : Nat} : ¬ WM_X8_newName P P 28 := by unfold WM_X8_newName; omega
theorem wc_X8_newName_29 {P : Nat} : ¬ WM_X8_newName P P 29 := by unfold WM_X8_newName; omega
theorem wc_X8_newName_30 {P : Nat} : ¬ WM_X8_newName P P 30 := by unfold WM_X8_newName; omega
theorem wc_X8_newName_31 {P : Nat} : ¬ WM_X8_newName P P 31 := by unfold WM_X8_newName; omega
theorem wf_nA_X8_newName {P a j : Nat} (h : (a = P + 1 ∨ (a = P ∧ j = 8))) : ¬ WM_X8_newName P a j := by unfold WM_X8_newName; omega
theorem wf_jY_X8_newName {P a j : Nat} (h : (a = P ∧ (j = 28 ∨ j = 29 ∨ j = 30))) : ¬ WM_X8_newName P a j := by unfold WM_X8_newName; omega
theorem wf_jZ_X8_newName {P a j : Nat} (h : (a = P + 2 ∨ (a = P ∧ (j = 28 ∨ j = 29 ∨ j = 30)))) : ¬ WM_X8_newName P a j := by unfold WM_X8_newName; omega
theorem wz_M_X8_number_X8_readUnit {P a j : Nat} (h : ¬ WM_X8_readUnit P a j) : ¬ WM_X8_number P a j := by unfold WM_X8_number; unfold WM_X8_readUnit at h; omega
theorem wz_N_X8_number_X8_readUnit {P a j : Nat} (h : ¬ WN_X8_readUnit P a j) : ¬ WN_X8_number P a j := by unfold WN_X8_number; unfold WN_X8_readUnit at h; omega
theorem wc_X8_number_15 {P : Nat} : ¬ WM_X8_number P P 15 := by unfold WM_X8_number; omega
theorem wc_X8_number_28 {P : Nat} : ¬ WM_X8_number P P 28 := by unfold WM_X8_number; omega
theorem wc_X8_number_29 {P : Nat} : ¬ WM_X8_number P P 29 := by unfold WM_X8_number; omega
theorem wc_X8_number_30 {P : Nat} : ¬ WM_X8_number P P 30 := by unfold WM_X8_number; omega
theorem wf_nA_X8_number {P a j : Nat} (h : (a = P + 1 ∨ (a = P ∧ j = 8))) : ¬ WM_X8_number P a j := by unfold WM_X8_number; omega
theorem wf_jY_X8_number {P a j : Nat} (h : (a = P ∧ (j = 28 ∨ j = 29 ∨ j = 30))) : ¬ WM_X8_number P a j := by unfold WM_X8_number; omega
theorem wf_jZ_X8_number {P a j : Nat} (h : (a = P + 2 ∨ (a = P ∧ (j = 28 ∨ j = 29 ∨ j = 30)))) : ¬ WM_X8_number P a j := by unfold WM_X8_number; omega
theorem wq_X8_readUnit_N8_r {P a j : Nat} (h : ¬ WN_X8_readUnit P a j) : ¬ a = P + 8 := by unfold WN_X8_readUnit at h; omega
theorem wq_X8_readUnit_M2_r {P a j : Nat} (h : ¬ WM_X8_readUnit P a j) : ¬ a = P + 2 := by unfold WM_X8_readUnit at h; omega
theorem wf_nA_M2_r {P a j : Nat} (h : (a = P + 1 ∨ (a = P ∧ j = 8))) : ¬ a = P + 2 := by omega
theorem wf_jY_M2_r {P a j : Nat} (h : (a = P ∧ (j = 28 ∨ j = 29 ∨ j = 30))) : ¬ a = P + 2 := by omega
theorem wf_jX_M2_r {P a j : Nat} (h : (a = P ∧ (j = 15 ∨ j = 17))) : ¬ a = P + 2 := by omega
theorem wq_X8_readUnit_M0_28 {P a j : Nat} (h : ¬ WM_X8_readUnit P a j) : ¬ (a = P ∧ j = 28) := by unfold WM_X8_readUnit at h; omega
theorem wf_nA_M0_28 {P a j : Nat} (h : (a = P + 1 ∨ (a = P ∧ j = 8))) : ¬ (a = P ∧ j = 28) := by omega
theorem wf_jX_M0_28 {P a j : Nat} (h : (a = P ∧ (j = 15 ∨ j = 17))) : ¬ (a = P ∧ j = 28) := by omega
set_option maxRecDepth 100000 in
set_option maxHeartbeats 4000000 in
theorem v_X8_readUnit {P : Nat}  {M0 : zMt} {N0 : zNt}  (p_jX : jX P M0) (p_jY : jY P M0) (p_jZ : jZ P M0) : ∃ r, D_X8_readUnit P M0 N0 = some r ∧ ((∀ a j, ¬ WM_X8_readUnit P a j → r.2.1 a j = M0 a j) ∧ (∀ a j, ¬ WN_X8_readUnit P a j → r.2.2 a j = N0 a j) ∧ (r.1 = 0 ∨ r.1 = 1) ∧ ((jX P r.2.1) ∧ (jY P r.2.1) ∧ (jZ P r.2.1) ∧ (Int32.toInt (M0 P 17) ≤ Int32.toInt (r.2.1 P 17)))) := by
  obtain ⟨u0_jX, u1_jX, u2_jX, u3_jX⟩ := id p_jX
  obtain ⟨u0_jY, u1_jY, u2_jY, u3_jY, u4_jY, u5_jY⟩ := id p_jY
  have T_38 : ∀ (M_38 : zMt) (N_38 : zNt), (∀ a j, ¬ WM_X8_readUnit P a j → M_38 a j = M0 a j) → (∀ a j, ¬ WN_X8_readUnit P a j → N_38 a j = N0 a j) → (jX P M_38) → (jY P M_38) → (jZ P M_38) → (Int32.toInt (M0 P 17) ≤ Int32.toInt (M_38 P 17)) → ∃ r, D_X8_readUnit_38 P M_38 N_38 = some r ∧ ((∀ a j, ¬ WM_X8_readUnit P a j → r.2.1 a j = M0 a j) ∧ (∀ a j, ¬ WN_X8_readUnit P a j → r.2.2 a j = N0 a j) ∧ (r.1 = 0 ∨ r.1 = 1) ∧ ((jX P r.2.1) ∧ (jY P r.2.1) ∧ (jZ P r.2.1) ∧ (Int32.toInt (M0 P 17) ≤ Int32.toInt (r.2.1 P 17)))) := by
    intro M_38 N_38 k_38 kn_38 p_jX_38 p_jY_38 p_jZ_38 f0_38
    obtain ⟨u0_jX_38, u1_jX_38, u2_jX_38, u3_jX_38⟩ := id p_jX_38
    obtain ⟨u0_jY_38, u1_jY_38, u2_jY_38, u3_jY_38, u4_jY_38, u5_jY_38⟩ := id p_jY_38
    unfold D_X8_readUnit_38
    exact ⟨_, rfl, k_38, kn_38, (by first | exact Or.inl rfl | exact Or.inr rfl | assumption), ⟨p_jX_38, p_jY_38, p_jZ_38, (by first | omega | (simp only [Int32.toInt_add, Int32.toInt_sub, Int32.toInt_mul, Int32.toInt_toInt64, Int64.toInt_add, z_m1, Int32.reduceToInt, Int64.reduceToInt, Int32.reduceToNatClampNeg, Int.bmod_def, or_true, true_or, and_true, true_and] <;> omega))⟩⟩
  unfold D_X8_readUnit
  refine vIf (fun h_5 => ?_) (fun h_5 => ?_)
  · have i_5 := congrArg Int32.toInt h_5
    (try simp only [Int32.toInt_add, Int32.toInt_sub, Int32.toInt_mul, Int32.toInt_toInt64, Int64.toInt_add, z_m1, Int32.reduceToInt, Int64.reduceToInt, Int32.reduceToNatClampNeg, Int.bmod_def] at i_5)
    refine vB (v_X8_bad) (fun e_10 f_10 q_10 => ?_)
    have k_10 : ∀ a j, ¬ WM_X8_readUnit P a j → e_10.2 a j = M0 a j := fun a j h => (q_10.1 a j (wz_M_X8_bad_X8_readUnit h))
    have b_10 := q_10.2.1
    have c15_10 : Int32.toInt (e_10.2 P 15) = Int32.toInt (M0 P 15) := congrArg Int32.toInt (q_10.1 P 15 (wc_X8_bad_15))
    have c17_10 : Int32.toInt (e_10.2 P 17) = Int32.toInt (M0 P 17) := congrArg Int32.toInt (q_10.1 P 17 (wc_X8_bad_17))
    have c18_10 : Int32.toInt (e_10.2 P 18) = Int32.toInt (M0 P 18) := congrArg Int32.toInt (q_10.1 P 18 (wc_X8_bad_18))
    have c20_10 : Int32.toInt (e_10.2 P 20) = Int32.toInt (M0 P 20) := congrArg Int32.toInt (q_10.1 P 20 (wc_X8_bad_20))
    have c28_10 : Int32.toInt (e_10.2 P 28) = Int32.toInt (M0 P 28) := congrArg Int32.toInt (q_10.1 P 28 (wc_X8_bad_28))
    have c29_10 : Int32.toInt (e_10.2 P 29) = Int32.toInt (M0 P 29) := congrArg Int32.toInt (q_10.1 P 29 (wc_X8_bad_29))
    have c30_10 : Int32.toInt (e_10.2 P 30) = Int32.toInt (M0 P 30) := congrArg Int32.toInt (q_10.1 P 30 (wc_X8_bad_30))
    have c31_10 : Int32.toInt (e_10.2 P 31) = Int32.toInt (M0 P 31) := congrArg Int32.toInt (q_10.1 P 31 (wc_X8_bad_31))
    have n_10 : nA P e_10.2 = nA P M0 := nA_congr (fun a j h => q_10.1 a j (wf_nA_X8_bad h))
    have p_jX_10 : jX P e_10.2 := jX.mono p_jX (fun a j h => q_10.1 a j (wf_jX_X8_bad h))
    obtain ⟨u0_jX_10, u1_jX_10, u2_jX_10, u3_jX_10⟩ := id p_jX_10
    have p_jY_10 : jY P e_10.2 := jY.mono p_jY (fun a j h => q_10.1 a j (wf_jY_X8_bad h))
    obtain ⟨u0_jY_10, u1_jY_10, u2_jY_10, u3_jY_10, u4_jY_10, u5_jY_10⟩ := id p_jY_10
    have p_jZ_10 : jZ P e_10.2 := jZ.mono p_jZ (fun a j h => q_10.1 a j (wf_jZ_X8_bad h))
    have x0_10 := q_10.2.2
    (try simp only [Int32.toInt_add, Int32.toInt_sub, Int32.toInt_mul, Int32.toInt_toInt64, Int64.toInt_add, z_m1, Int32.reduceToInt, Int64.reduceToInt, Int32.reduceToNatClampNeg, Int.bmod_def] at x0_10)
    exact ⟨_, rfl, k_10, (fun _ _ _ => rfl), (by first | exact Or.inl rfl | exact Or.inr rfl | assumption), ⟨p_jX_10, p_jY_10, p_jZ_10, (by first | omega | (simp only [Int32.toInt_add, Int32.toInt_sub, Int32.toInt_mul, Int32.toInt_toInt64, Int64.toInt_add, z_m1, Int32.reduceToInt, Int64.reduceToInt, Int32.reduceToNatClampNeg, Int.bmod_def, or_true, true_or, and_true, true_and] <;> omega))⟩⟩
  · have i_5 : ¬ Int32.toInt (M0 P 28) = Int32.toInt (5 : Int32) := fun q => h_5 (Int32.toInt_inj.mp q)
    (try simp only [Int32.toInt_add, Int32.toInt_sub, Int32.toInt_mul, Int32.toInt_toInt64, Int64.toInt_add, z_m1, Int32.reduceToInt, Int64.reduceToInt, Int32.reduceToNatClampNeg, Int.bmod_def] at i_5)
    refine vB (v_X8_next p_jX) (fun e_15 f_15 q_15 => ?_)
    have k_15 : ∀ a j, ¬ WM_X8_readUnit P a j → e_15.2.1 a j = M0 a j := fun a j h => (q_15.1 a j (wz_M_X8_next_X8_readUnit h))
    have kn_15 : ∀ a j, ¬ WN_X8_readUnit P a j → e_15.2.2 a j = N0 a j := fun a j h => (q_15.2.1 a j (wz_N_X8_next_X8_readUnit h))
    have b_15 := q_15.2.2.1
    have c15_15 : Int32.toInt (e_15.2.1 P 15) = Int32.toInt (M0 P 15) := congrArg Int32.toInt (q_15.1 P 15 (wc_X8_next_15))
    have c28_15 : Int32.toInt (e_15.2.1 P 28) = Int32.toInt (M0 P 28) := congrArg Int32.toInt (q_15.1 P 28 (wc_X8_next_28))
    have c29_15 : Int32.toInt (e_15.2.1 P 29) = Int32.toInt (M0 P 29) := congrArg Int32.toInt (q_15.1 P 29 (wc_X8_next_29))
    have c30_15 : Int32.toInt (e_15.2.1 P 30) = Int32.toInt (M0 P 30) := congrArg Int32.toInt (q_15.1 P 30 (wc_X8_next_30))
    have c31_15 : Int32.toInt (e_15.2.1 P 31) = Int32.toInt (M0 P 31) := congrArg Int32.toInt (q_15.1 P 31 (wc_X8_next_31))
    have n_15 : nA P e_15.2.1 = nA P M0 := nA_congr (fun a j h => q_15.1 a j (wf_nA_X8_next h))
    have p_jY_15 : jY P e_15.2.1 := jY.mono p_jY (fun a j h => q_15.1 a j (wf_jY_X8_next h))
    obtain ⟨u0_jY_15, u1_jY_15, u2_jY_15, u3_jY_15, u4_jY_15, u5_jY_15⟩ := id p_jY_15
    have p_jZ_15 : jZ P e_15.2.1 := jZ.mono p_jZ (fun a j h => q_15.1 a j (wf_jZ_X8_next h))
    obtain ⟨x0_15, x1_15, x2_15, x3_15⟩ := q_15.2.2.2
    obtain ⟨u0_jX_15, u1_jX_15, u2_jX_15, u3_jX_15⟩ := id x0_15
    (try simp only [Int32.toInt_add, Int32.toInt_sub, Int32.toInt_mul, Int32.toInt_toInt64, Int64.toInt_add, z_m1, Int32.reduceToInt, Int64.reduceToInt, Int32.reduceToNatClampNeg, Int.bmod_def] at x1_15)
    (try simp only [Int32.toInt_add, Int32.toInt_sub, Int32.toInt_mul, Int32.toInt_toInt64, Int64.toInt_add, z_m1, Int32.reduceToInt, Int64.reduceToInt, Int32.reduceToNatClampNeg, Int.bmod_def] at x2_15)
    (try simp only [Int32.toInt_add, Int32.toInt_sub, Int32.toInt_mul, Int32.toInt_toInt64, Int64.toInt_add, z_m1, Int32.reduceToInt, Int64.reduceToInt, Int32.reduceToNatClampNeg, Int.bmod_def] at x3_15)
    refine vIf (fun h_18 => ?_) (fun h_18 => ?_)
    · have i_18 := congrArg Int32.toInt h_18
      (try simp only [Int32.toInt_add, Int32.toInt_sub, Int32.toInt_mul, Int32.toInt_toInt64, Int64.toInt_add, z_m1, Int32.reduceToInt, Int64.reduceToInt, Int32.reduceToNatClampNeg, Int.bmod_def] at i_18)
      exact T_38 _ _ k_15 kn_15 x0_15 p_jY_15 p_jZ_15 (by first | omega | (simp only [Int32.toInt_add, Int32.toInt_sub, Int32.toInt_mul, Int32.toInt_toInt64, Int64.toInt_add, z_m1, Int32.reduceToInt, Int64.reduceToInt, Int32.reduceToNatClampNeg, Int.bmod_def, or_true, true_or, and_true, true_and] <;> omega))
    · have i_18 : ¬ Int32.toInt e_15.1 = Int32.toInt (0 : Int32) := fun q => h_18 (Int32.toInt_inj.mp q)
      (try simp only [Int32.toInt_add, Int32.toInt_sub, Int32.toInt_mul, Int32.toInt_toInt64, Int64.toInt_add, z_m1, Int32.reduceToInt, Int64.reduceToInt, Int32.reduceToNatClampNeg, Int.bmod_def] at i_18)
      refine vB (v_X8_newName x0_15 p_jY_15) (fun e_22 f_22 q_22 => ?_)
      have k_22 : ∀ a j, ¬ WM_X8_readUnit P a j → e_22.2.1 a j = M0 a j := fun a j h => (q_22.1 a j (wz_M_X8_newName_X8_readUnit h)).trans (k_15 a j h)
      have kn_22 : ∀ a j, ¬ WN_X8_readUnit P a j → e_22.2.2 a j = N0 a j := fun a j h => (q_22.2.1 a j (wz_N_X8_newName_X8_readUnit h)).trans (kn_15 a j h)
      have b_22 := q_22.2.2.1
      have c15_22 : Int32.toInt (e_22.2.1 P 15) = Int32.toInt (e_15.2.1 P 15) := congrArg Int32.toInt (q_22.1 P 15 (wc_X8_newName_15))
      have c28_22 : Int32.toInt (e_22.2.1 P 28) = Int32.toInt (e_15.2.1 P 28) := congrArg Int32.toInt (q_22.1 P 28 (wc_X8_newName_28))
      have c29_22 : Int32.toInt (e_22.2.1 P 29) = Int32.toInt (e_15.2.1 P 29) := congrArg Int32.toInt (q_22.1 P 29 (wc_X8_newName_29))
      have c30_22 : Int32.toInt (e_22.2.1 P 30) = Int32.toInt (e_15.2.1 P 30) := congrArg Int32.toInt (q_22.1 P 30 (wc_X8_newName_30))
      have c31_22 : Int32.toInt (e_22.2.1 P 31) = Int32.toInt (e_15.2.1 P 31) := congrArg Int32.toInt (q_22.1 P 31 (wc_X8_newName_31))
      have n_22 : nA P e_22.2.1 = nA P e_15.2.1 := nA_congr (fun a j h => q_22.1 a j (wf_nA_X8_newName h))
      have p_jY_22 : jY P e_22.2.1 := jY.mono p_jY_15 (fun a j h => q_22.1 a j (wf_jY_X8_newName h))
      obtain ⟨u0_jY_22, u1_jY_22, u2_jY_22, u3_jY_22, u4_jY_22, u5_jY_22⟩ := id p_jY_22
      have p_jZ_22 : jZ P e_22.2.1 := jZ.mono p_jZ_15 (fun a j h => q_22.1 a j (wf_jZ_X8_newName h))
      obtain ⟨x0_22, x1_22⟩ := q_22.2.2.2
      obtain ⟨u0_jX_22, u1_jX_22, u2_jX_22, u3_jX_22⟩ := id x0_22
      (try simp only [Int32.toInt_add, Int32.toInt_sub, Int32.toInt_mul, Int32.toInt_toInt64, Int64.toInt_add, z_m1, Int32.reduceToInt, Int64.reduceToInt, Int32.reduceToNatClampNeg, Int.bmod_def] at x1_22)
      refine vIf (fun h_25 => ?_) (fun h_25 => ?_)
      · have i_25 := congrArg Int32.toInt h_25
        (try simp only [Int32.toInt_add, Int32.toInt_sub, Int32.toInt_mul, Int32.toInt_toInt64, Int64.toInt_add, z_m1, Int32.reduceToInt, Int64.reduceToInt, Int32.reduceToNatClampNeg, Int.bmod_def] at i_25)
        exact T_38 _ _ k_22 kn_22 x0_22 p_jY_22 p_jZ_22 (by first | omega | (simp only [Int32.toInt_add, Int32.toInt_sub, Int32.toInt_mul, Int32.toInt_toInt64, Int64.toInt_add, z_m1, Int32.reduceToInt, Int64.reduceToInt, Int32.reduceToNatClampNeg, Int.bmod_def, or_true, true_or, and_true, true_and] <;> omega))
      · have i_25 : ¬ Int32.toInt e_22.1 = Int32.toInt (0 : Int32) := fun q => h_25 (Int32.toInt_inj.mp q)
        (try simp only [Int32.toInt_add, Int32.toInt_sub, Int32.toInt_mul, Int32.toInt_toInt64, Int64.toInt_add, z_m1, Int32.reduceToInt, Int64.reduceToInt, Int32.reduceToNatClampNeg, Int.bmod_def] at i_25)
        refine vB (v_X8_number x0_22 p_jY_22 (by first | omega | (simp only [Int32.toInt_add, Int32.toInt_sub, Int32.toInt_mul, Int32.toInt_toInt64, Int64.toInt_add, z_m1, Int32.reduceToInt, Int64.reduceToInt, Int32.reduceToNatClampNeg, Int.bmod_def, or_true, true_or, and_true, true_and] <;> omega))) (fun e_32 f_32 q_32 => ?_)
        have k_32 : ∀ a j, ¬ WM_X8_readUnit P a j → e_32.2.1 a j = M0 a j := fun a j h => (q_32.1 a j (wz_M_X8_number_X8_readUnit h)).trans (k_22 a j h)
        have kn_32 : ∀ a j, ¬ WN_X8_readUnit P a j → e_32.2.2 a j = N0 a j := fun a j h => (q_32.2.1 a j (wz_N_X8_number_X8_readUnit h)).trans (kn_22 a j h)
        have b_32 := q_32.2.2.1
        have c15_32 : Int32.toInt (e_32.2.1 P 15) = Int32.toInt (e_22.2.1 P 15) := congrArg Int32.toInt (q_32.1 P 15 (wc_X8_number_15))
        have c28_32 : Int32.toInt (e_32.2.1 P 28) = Int32.toInt (e_22.2.1 P 28) := congrArg Int32.toInt (q_32.1 P 28 (wc_X8_number_28))
        have c29_32 : Int32.toInt (e_32.2.1 P 29) = Int32.toInt (e_22.2.1 P 29) := congrArg Int32.toInt (q_32.1 P 29 (wc_X8_number_29))
        have c30_32 : Int32.toInt (e_32.2.1 P 30) = Int32.toInt (e_22.2.1 P 30) := congrArg Int32.toInt (q_32.1 P 30 (wc_X8_number_30))
        have n_32 : nA P e_32.2.1 = nA P e_22.2.1 := nA_congr (fun a j h => q_32.1 a j (wf_nA_X8_number h))
        have p_jY_32 : jY P e_32.2.1 := jY.mono p_jY_22 (fun a j h => q_32.1 a j (wf_jY_X8_number h))
        obtain ⟨u0_jY_32, u1_jY_32, u2_jY_32, u3_jY_32, u4_jY_32, u5_jY_32⟩ := id p_jY_32
        have p_jZ_32 : jZ P e_32.2.1 := jZ.mono p_jZ_22 (fun a j h => q_32.1 a j (wf_jZ_X8_number h))
        obtain ⟨x0_32, x1_32, x2_32⟩ := q_32.2.2.2
        obtain ⟨u0_jX_32, u1_jX_32, u2_jX_32, u3_jX_32⟩ := id x0_32
        (try simp only [Int32.toInt_add, Int32.toInt_sub, Int32.toInt_mul, Int32.toInt_toInt64, Int64.toInt_add, z_m1, Int32.reduceToInt, Int64.reduceToInt, Int32.reduceToNatClampNeg, Int.bmod_def] at x1_32)
        (try simp only [Int32.toInt_add, Int32.toInt_sub, Int32.toInt_mul, Int32.toInt_toInt64, Int64.toInt_add, z_m1, Int32.reduceToInt, Int64.reduceToInt, Int32.reduceToNatClampNeg, Int.bmod_def] at x2_32)
        refine vIf (fun h_35 => ?_) (fun h_35 => ?_)
        · have i_35 := congrArg Int32.toInt h_35
          (try simp only [Int32.toInt_add, Int32.toInt_sub, Int32.toInt_mul, Int32.toInt_toInt64, Int64.toInt_add, z_m1, Int32.reduceToInt, Int64.reduceToInt, Int32.reduceToNatClampNeg, Int.bmod_def] at i_35)
          exact T_38 _ _ k_32 kn_32 x0_32 p_jY_32 p_jZ_32 (by first | omega | (simp only [Int32.toInt_add, Int32.toInt_sub, Int32.toInt_mul, Int32.toInt_toInt64, Int64.toInt_add, z_m1, Int32.reduceToInt, Int64.reduceToInt, Int32.reduceToNatClampNeg, Int.bmod_def, or_true, true_or, and_true, true_and] <;> omega))
        · have i_35 : ¬ Int32.toInt e_32.1 = Int32.toInt (0 : Int32) := fun q => h_35 (Int32.toInt_inj.mp q)
          (try simp only [Int32.toInt_add, Int32.toInt_sub, Int32.toInt_mul, Int32.toInt_toInt64, Int64.toInt_add, z_m1, Int32.reduceToInt, Int64.reduceToInt, Int32.reduceToNatClampNeg, Int.bmod_def] at i_35)
          refine vI (vp_of (by first | omega | (simp only [Int32.toInt_add, Int32.toInt_sub, Int32.toInt_mul, Int32.toInt_toInt64, Int64.toInt_add, z_m1, Int32.reduceToInt, Int64.reduceToInt, Int32.reduceToNatClampNeg, Int.bmod_def, or_true, true_or, and_true, true_and] <;> omega)) (by first | omega | (simp only [Int32.toInt_add, Int32.toInt_sub, Int32.toInt_mul, Int32.toInt_toInt64, Int64.toInt_add, z_m1, Int32.reduceToInt, Int64.reduceToInt, Int32.reduceToNatClampNeg, Int.bmod_def, or_true, true_or, and_true, true_and] <;> omega))) ?_
          refine vLn (W := WN_X8_readUnit P) (fun a j h => (zu_ne (fun z => wq_X8_readUnit_N8_r h z.1)).trans (kn_32 a j h)) (fun N_52 f_52 kn_52 => ?_)
          refine vI (vp_of (by first | omega | (simp only [Int32.toInt_add, Int32.toInt_sub, Int32.toInt_mul, Int32.toInt_toInt64, Int64.toInt_add, z_m1, Int32.reduceToInt, Int64.reduceToInt, Int32.reduceToNatClampNeg, Int.bmod_def, or_true, true_or, and_true, true_and] <;> omega)) (by first | omega | (simp only [Int32.toInt_add, Int32.toInt_sub, Int32.toInt_mul, Int32.toInt_toInt64, Int64.toInt_add, z_m1, Int32.reduceToInt, Int64.reduceToInt, Int32.reduceToNatClampNeg, Int.bmod_def, or_true, true_or, and_true, true_and] <;> omega))) ?_
          refine vLm (W := WM_X8_readUnit P) (fun a j h => (zu_ne (fun z => wq_X8_readUnit_M2_r h z.1)).trans (k_32 a j h)) (fun M_68 f_68 k_68 => ?_)
          have c15_68 : Int32.toInt (M_68 P 15) = Int32.toInt (e_32.2.1 P 15) := congrArg Int32.toInt ((congrFun (congrFun f_68.symm P) 15).trans (zu_ne (fun z => wq_pne0 (by decide) z.1)))
          have c17_68 : Int32.toInt (M_68 P 17) = Int32.toInt (e_32.2.1 P 17) := congrArg Int32.toInt ((congrFun (congrFun f_68.symm P) 17).trans (zu_ne (fun z => wq_pne0 (by decide) z.1)))
          have c18_68 : Int32.toInt (M_68 P 18) = Int32.toInt (e_32.2.1 P 18) := congrArg Int32.toInt ((congrFun (congrFun f_68.symm P) 18).trans (zu_ne (fun z => wq_pne0 (by decide) z.1)))
          have c20_68 : Int32.toInt (M_68 P 20) = Int32.toInt (e_32.2.1 P 20) := congrArg Int32.toInt ((congrFun (congrFun f_68.symm P) 20).trans (zu_ne (fun z => wq_pne0 (by decide) z.1)))
          have c28_68 : Int32.toInt (M_68 P 28) = Int32.toInt (e_32.2.1 P 28) := congrArg Int32.toInt ((congrFun (congrFun f_68.symm P) 28).trans (zu_ne (fun z => wq_pne0 (by decide) z.1)))
          have c29_68 : Int32.toInt (M_68 P 29) = Int32.toInt (e_32.2.1 P 29) := congrArg Int32.toInt ((congrFun (congrFun f_68.symm P) 29).trans (zu_ne (fun z => wq_pne0 (by decide) z.1)))
          have c30_68 : Int32.toInt (M_68 P 30) = Int32.toInt (e_32.2.1 P 30) := congrArg Int32.toInt ((congrFun (congrFun f_68.symm P) 30).trans (zu_ne (fun z => wq_pne0 (by decide) z.1)))
          have c31_68 : Int32.toInt (M_68 P 31) = Int32.toInt (e_32.2.1 P 31) := congrArg Int32.toInt ((congrFun (congrFun f_68.symm P) 31).trans (zu_ne (fun z => wq_pne0 (by decide) z.1)))
          have n_68 : nA P M_68 = nA P e_32.2.1 := nA_congr (fun a j h => (congrFun (congrFun f_68.symm a) j).trans (zu_ne (fun z => wf_nA_M2_r h z.1)))
          have p_jY_68 : jY P M_68 := jY.mono p_jY_32 (fun a j h => (congrFun (congrFun f_68.symm a) j).trans (zu_ne (fun z => wf_jY_M2_r h z.1)))
          obtain ⟨u0_jY_68, u1_jY_68, u2_jY_68, u3_jY_68, u4_jY_68, u5_jY_68⟩ := id p_jY_68
          have p_jZ_68 : jZ P M_68 := jZ.put p_jZ_32 (by omega) f_68 (Or.inr (Or.inr (Or.inl ⟨(by have h1 := z_cl (x := (62 : Int32) + e_32.2.1 P 28) (by first | omega | (simp only [Int32.toInt_add, Int32.toInt_sub, Int32.toInt_mul, Int32.toInt_toInt64, Int64.toInt_add, z_m1, Int32.reduceToInt, Int64.reduceToInt, Int32.reduceToNatClampNeg, Int.bmod_def, or_true, true_or, and_true, true_and] <;> omega)); have h2 : 62 ≤ Int32.toInt ((62 : Int32) + e_32.2.1 P 28) ∧ Int32.toInt ((62 : Int32) + e_32.2.1 P 28) < 67 := (by first | omega | (simp only [Int32.toInt_add, Int32.toInt_sub, Int32.toInt_mul, Int32.toInt_toInt64, Int64.toInt_add, z_m1, Int32.reduceToInt, Int64.reduceToInt, Int32.reduceToNatClampNeg, Int.bmod_def, or_true, true_or, and_true, true_and] <;> omega)); omega), (by have h1 := z_cl (x := (62 : Int32) + e_32.2.1 P 28) (by first | omega | (simp only [Int32.toInt_add, Int32.toInt_sub, Int32.toInt_mul, Int32.toInt_toInt64, Int64.toInt_add, z_m1, Int32.reduceToInt, Int64.reduceToInt, Int32.reduceToNatClampNeg, Int.bmod_def, or_true, true_or, and_true, true_and] <;> omega)); have h2 : 62 ≤ Int32.toInt ((62 : Int32) + e_32.2.1 P 28) ∧ Int32.toInt ((62 : Int32) + e_32.2.1 P 28) < 67 := (by first | omega | (simp only [Int32.toInt_add, Int32.toInt_sub, Int32.toInt_mul, Int32.toInt_toInt64, Int64.toInt_add, z_m1, Int32.reduceToInt, Int64.reduceToInt, Int32.reduceToNatClampNeg, Int.bmod_def, or_true, true_or, and_true, true_and] <;> omega)); omega), (by first | omega | (simp only [Int32.toInt_add, Int32.toInt_sub, Int32.toInt_mul, Int32.toInt_toInt64, Int64.toInt_add, z_m1, Int32.reduceToInt, Int64.reduceToInt, Int32.reduceToNatClampNeg, Int.bmod_def, or_true, true_or, and_true, true_and] <;> omega)), (by first | omega | (simp only [Int32.toInt_add, Int32.toInt_sub, Int32.toInt_mul, Int32.toInt_toInt64, Int64.toInt_add, z_m1, Int32.reduceToInt, Int64.reduceToInt, Int32.reduceToNatClampNeg, Int.bmod_def, or_true, true_or, and_true, true_and] <;> omega))⟩)))
          have p_jX_68 : jX P M_68 := jX.mono x0_32 (fun a j h => (congrFun (congrFun f_68.symm a) j).trans (zu_ne (fun z => wf_jX_M2_r h z.1)))
          obtain ⟨u0_jX_68, u1_jX_68, u2_jX_68, u3_jX_68⟩ := id p_jX_68
          refine vLm (W := WM_X8_readUnit P) (fun a j h => (zu_ne (wq_X8_readUnit_M0_28 h)).trans (k_68 a j h)) (fun M_76 f_76 k_76 => ?_)
          have c15_76 : Int32.toInt (M_76 P 15) = Int32.toInt (M_68 P 15) := congrArg Int32.toInt ((congrFun (congrFun f_76.symm P) 15).trans (zu_ne (fun z => absurd z.2 (by decide))))
          have c17_76 : Int32.toInt (M_76 P 17) = Int32.toInt (M_68 P 17) := congrArg Int32.toInt ((congrFun (congrFun f_76.symm P) 17).trans (zu_ne (fun z => absurd z.2 (by decide))))
          have c18_76 : Int32.toInt (M_76 P 18) = Int32.toInt (M_68 P 18) := congrArg Int32.toInt ((congrFun (congrFun f_76.symm P) 18).trans (zu_ne (fun z => absurd z.2 (by decide))))
          have c20_76 : Int32.toInt (M_76 P 20) = Int32.toInt (M_68 P 20) := congrArg Int32.toInt ((congrFun (congrFun f_76.symm P) 20).trans (zu_ne (fun z => absurd z.2 (by decide))))
          have c29_76 : Int32.toInt (M_76 P 29) = Int32.toInt (M_68 P 29) := congrArg Int32.toInt ((congrFun (congrFun f_76.symm P) 29).trans (zu_ne (fun z => absurd z.2 (by decide))))
          have c30_76 : Int32.toInt (M_76 P 30) = Int32.toInt (M_68 P 30) := congrArg Int32.toInt ((congrFun (congrFun f_76.symm P) 30).trans (zu_ne (fun z => absurd z.2 (by decide))))
          have c31_76 : Int32.toInt (M_76 P 31) = Int32.toInt (M_68 P 31) := congrArg Int32.toInt ((congrFun (congrFun f_76.symm P) 31).trans (zu_ne (fun z => absurd z.2 (by decide))))
          have n_76 : nA P M_76 = nA P M_68 := nA_congr (fun a j h => (congrFun (congrFun f_76.symm a) j).trans (zu_ne (wf_nA_M0_28 h)))
          have p_jY_76 : jY P M_76 := jY.put p_jY_68 f_76 (Or.inl ⟨rfl, (by first | omega | (simp only [Int32.toInt_add, Int32.toInt_sub, Int32.toInt_mul, Int32.toInt_toInt64, Int64.toInt_add, z_m1, Int32.reduceToInt, Int64.reduceToInt, Int32.reduceToNatClampNeg, Int.bmod_def, or_true, true_or, and_true, true_and] <;> omega)), (by first | omega | (simp only [Int32.toInt_add, Int32.toInt_sub, Int32.toInt_mul, Int32.toInt_toInt64, Int64.toInt_add, z_m1, Int32.reduceToInt, Int64.reduceToInt, Int32.reduceToNatClampNeg, Int.bmod_def, or_true, true_or, and_true, true_and] <;> omega))⟩)
          obtain ⟨u0_jY_76, u1_jY_76, u2_jY_76, u3_jY_76, u4_jY_76, u5_jY_76⟩ := id p_jY_76
          have p_jZ_76 : jZ P M_76 := jZ.up p_jZ_68 f_76 (Or.inl ⟨rfl, (by first | omega | (simp only [Int32.toInt_add, Int32.toInt_sub, Int32.toInt_mul, Int32.toInt_toInt64, Int64.toInt_add, z_m1, Int32.reduceToInt, Int64.reduceToInt, Int32.reduceToNatClampNeg, Int.bmod_def, or_true, true_or, and_true, true_and] <;> omega))⟩)
          have p_jX_76 : jX P M_76 := jX.mono p_jX_68 (fun a j h => (congrFun (congrFun f_76.symm a) j).trans (zu_ne (wf_jX_M0_28 h)))
          obtain ⟨u0_jX_76, u1_jX_76, u2_jX_76, u3_jX_76⟩ := id p_jX_76
          exact ⟨_, rfl, k_76, kn_52, (by first | exact Or.inl rfl | exact Or.inr rfl | assumption), ⟨p_jX_76, p_jY_76, p_jZ_76, (by first | omega | (simp only [Int32.toInt_add, Int32.toInt_sub, Int32.toInt_mul, Int32.toInt_toInt64, Int64.toInt_add, z_m1, Int32.reduceToInt, Int64.reduceToInt, Int32.reduceToNatClampNeg, Int.bmod_def, or_true, true_or, and_true, true_and] <;> omega))⟩⟩
def WM_X8_readHunter (P : Nat) (a j : Nat) : Prop := (P + 2 ≤ a ∧ a < P + 3) ∨ (P + 6 ≤ a ∧ a < P + 7) ∨ (a = P ∧ (j = 16 ∨ j = 17 ∨ j = 18 ∨ j = 19 ∨ j = 20 ∨ j = 21 ∨ j = 22 ∨ j = 29 ∨ j = 31))
def WN_X8_readHunter (P : Nat) (a j : Nat) : Prop := (P + 9 ≤ a ∧ a < P + 10) ∨ (a = P ∧ (j = 24 ∨ j = 32))
theorem wq_X8_readHunter_M0_29 {P a j : Nat} (h : ¬ WM_X8_readHunter P a j) : ¬ (a = P ∧ j = 29) := by unfold WM_X8_readHunter at h; omega
theorem wf_nA_M0_29 {P a j : Nat} (h : (a = P + 1 ∨ (a = P ∧ j = 8))) : ¬ (a = P ∧ j = 29) := by omega
theorem wf_jX_M0_29 {P a j : Nat} (h : (a = P ∧ (j = 15 ∨ j = 17))) : ¬ (a = P ∧ j = 29) := by omega
theorem wq_X8_readHunter_M6_r {P a j : Nat} (h : ¬ WM_X8_readHunter P a j) : ¬ a = P + 6 := by unfold WM_X8_readHunter at h; omega
theorem wf_nA_M6_r {P a j : Nat} (h : (a = P + 1 ∨ (a = P ∧ j = 8))) : ¬ a = P + 6 := by omega
theorem wf_jX_M6_r {P a j : Nat} (h : (a = P ∧ (j = 15 ∨ j = 17))) : ¬ a = P + 6 := by omega
theorem wf_jY_M6_r {P a j : Nat} (h : (a = P ∧ (j = 28 ∨ j = 29 ∨ j = 30))) : ¬ a = P + 6 := by omega
theorem wf_jZ_M6_r {P a j : Nat} (h : (a = P + 2 ∨ (a = P ∧ (j = 28 ∨ j = 29 ∨ j = 30)))) : ¬ a = P + 6 := by omega
theorem wz_M_X8_next_X8_readHunter {P a j : Nat} (h : ¬ WM_X8_readHunter P a j) : ¬ WM_X8_next P a j := by unfold WM_X8_next; unfold WM_X8_readHunter at h; omega
theorem wz_N_X8_next_X8_readHunter {P a j : Nat} (h : ¬ WN_X8_readHunter P a j) : ¬ WN_X8_next P a j := by unfold WN_X8_next; unfold WN_X8_readHunter at h; omega
theorem wz_M_X8_bad_X8_readHunter {P a j : Nat} (h : ¬ WM_X8_readHunter P a j) : ¬ WM_X8_bad P a j := by unfold WM_X8_bad; unfold WM_X8_readHunter at h; omega
theorem wz_M_X8_newName_X8_readHunter {P a j : Nat} (h : ¬ WM_X8_readHunter P a j) : ¬ WM_X8_newName P a j := by unfold WM_X8_newName; unfold WM_X8_readHunter at h; omega
theorem wz_N_X8_newName_X8_readHunter {P a j : Nat} (h : ¬ WN_X8_readHunter P a j) : ¬ WN_X8_newName P a j := by unfold WN_X8_newName; unfold WN_X8_readHunter at h; omega
theorem wz_M_X8_number_X8_readHunter {P a j : Nat} (h : ¬ WM_X8_readHunter P a j) : ¬ WM_X8_number P a j := by unfold WM_X8_number; unfold WM_X8_readHunter at h; omega
theorem wz_N_X8_number_X8_readHunter {P a j : Nat} (h : ¬ WN_X8_readHunter P a j) : ¬ WN_X8_number P a j := by unfold WN_X8_number; unfold WN_X8_readHunter at h; omega
theorem wq_X8_readHunter_N9_r {P a j : Nat} (h : ¬ WN_X8_readHunter P a j) : ¬ a = P + 9 := by unfold WN_X8_readHunter at h; omega
theorem wq_X8_readHunter_M2_r {P a j : Nat} (h : ¬ WM_X8_readHunter P a j) : ¬ a = P + 2 := by unfold WM_X8_readHunter at h; omega
set_option maxRecDepth 100000 in
set_option maxHeartbeats 4000000 in
theorem v_X8_readHunter {P : Nat}  {M0 : zMt} {N0 : zNt}  (p_jX : jX P M0) (p_jY : jY P M0) (p_jZ : jZ P M0) : ∃ r, D_X8_readHunter P M0 N0 = some r ∧ ((∀ a j, ¬ WM_X8_readHunter P a j → r.2.1 a j = M0 a j) ∧ (∀ a j, ¬ WN_X8_readHunter P a j → r.2.2 a j = N0 a j) ∧ (r.1 = 0 ∨ r.1 = 1) ∧ ((jX P r.2.1) ∧ (jY P r.2.1) ∧ (jZ P r.2.1) ∧ (Int32.toInt (M0 P 17) ≤ Int32.toInt (r.2.1 P 17)))) := by
  obtain ⟨u0_jX, u1_jX, u2_jX, u3_jX⟩ := id p_jX
  obtain ⟨u0_jY, u1_jY, u2_jY, u3_jY, u4_jY, u5_jY⟩ := id p_jY
  have T_116 : ∀ (M_116 : zMt) (N_116 : zNt), (∀ a j, ¬ WM_X8_readHunter P a j → M_116 a j = M0 a j) → (∀ a j, ¬ WN_X8_readHunter P a j → N_116 a j = N0 a j) → (jX P M_116) → (jY P M_116) → (jZ P M_116) → (Int32.toInt (M0 P 17) ≤ Int32.toInt (M_116 P 17)) → (Int32.toInt (M_116 P 29) ≤ 9) → ∃ r, D_X8_readHunter_116 P M_116 N_116 = some r ∧ ((∀ a j, ¬ WM_X8_readHunter P a j → r.2.1 a j = M0 a j) ∧ (∀ a j, ¬ WN_X8_readHunter P a j → r.2.2 a j = N0 a j) ∧ (r.1 = 0 ∨ r.1 = 1) ∧ ((jX P r.2.1) ∧ (jY P r.2.1) ∧ (jZ P r.2.1) ∧ (Int32.toInt (M0 P 17) ≤ Int32.toInt (r.2.1 P 17)))) := by
    intro M_116 N_116 k_116 kn_116 p_jX_116 p_jY_116 p_jZ_116 f0_116 f1_116
    obtain ⟨u0_jX_116, u1_jX_116, u2_jX_116, u3_jX_116⟩ := id p_jX_116
    obtain ⟨u0_jY_116, u1_jY_116, u2_jY_116, u3_jY_116, u4_jY_116, u5_jY_116⟩ := id p_jY_116
    unfold D_X8_readHunter_116
    refine vLm (W := WM_X8_readHunter P) (fun a j h => (zu_ne (wq_X8_readHunter_M0_29 h)).trans (k_116 a j h)) (fun M_123 f_123 k_123 => ?_)
    have c15_123 : Int32.toInt (M_123 P 15) = Int32.toInt (M_116 P 15) := congrArg Int32.toInt ((congrFun (congrFun f_123.symm P) 15).trans (zu_ne (fun z => absurd z.2 (by decide))))
    have c17_123 : Int32.toInt (M_123 P 17) = Int32.toInt (M_116 P 17) := congrArg Int32.toInt ((congrFun (congrFun f_123.symm P) 17).trans (zu_ne (fun z => absurd z.2 (by decide))))
    have c18_123 : Int32.toInt (M_123 P 18) = Int32.toInt (M_116 P 18) := congrArg Int32.toInt ((congrFun (congrFun f_123.symm P) 18).trans (zu_ne (fun z => absurd z.2 (by decide))))
    have c20_123 : Int32.toInt (M_123 P 20) = Int32.toInt (M_116 P 20) := congrArg Int32.toInt ((congrFun (congrFun f_123.symm P) 20).trans (zu_ne (fun z => absurd z.2 (by decide))))
    have c28_123 : Int32.toInt (M_123 P 28) = Int32.toInt (M_116 P 28) := congrArg Int32.toInt ((congrFun (congrFun f_123.symm P) 28).trans (zu_ne (fun z => absurd z.2 (by decide))))
    have c30_123 : Int32.toInt (M_123 P 30) = Int32.toInt (M_116 P 30) := congrArg Int32.toInt ((congrFun (congrFun f_123.symm P) 30).trans (zu_ne (fun z => absurd z.2 (by decide))))
    have c31_123 : Int32.toInt (M_123 P 31) = Int32.toInt (M_116 P 31) := congrArg Int32.toInt ((congrFun (congrFun f_123.symm P) 31).trans (zu_ne (fun z => absurd z.2 (by decide))))
    have n_123 : nA P M_123 = nA P M_116 := nA_congr (fun a j h => (congrFun (congrFun f_123.symm a) j).trans (zu_ne (wf_nA_M0_29 h)))
    have p_jX_123 : jX P M_123 := jX.mono p_jX_116 (fun a j h => (congrFun (congrFun f_123.symm a) j).trans (zu_ne (wf_jX_M0_29 h)))
    obtain ⟨u0_jX_123, u1_jX_123, u2_jX_123, u3_jX_123⟩ := id p_jX_123
    have p_jY_123 : jY P M_123 := jY.put p_jY_116 f_123 (Or.inr (Or.inl ⟨rfl, (by first | omega | (simp only [Int32.toInt_add, Int32.toInt_sub, Int32.toInt_mul, Int32.toInt_toInt64, Int64.toInt_add, z_m1, Int32.reduceToInt, Int64.reduceToInt, Int32.reduceToNatClampNeg, Int.bmod_def, or_true, true_or, and_true, true_and] <;> omega)), (by first | omega | (simp only [Int32.toInt_add, Int32.toInt_sub, Int32.toInt_mul, Int32.toInt_toInt64, Int64.toInt_add, z_m1, Int32.reduceToInt, Int64.reduceToInt, Int32.reduceToNatClampNeg, Int.bmod_def, or_true, true_or, and_true, true_and] <;> omega))⟩))
    obtain ⟨u0_jY_123, u1_jY_123, u2_jY_123, u3_jY_123, u4_jY_123, u5_jY_123⟩ := id p_jY_123
    have p_jZ_123 : jZ P M_123 := jZ.up p_jZ_116 f_123 (Or.inr (Or.inl ⟨rfl, (by first | omega | (simp only [Int32.toInt_add, Int32.toInt_sub, Int32.toInt_mul, Int32.toInt_toInt64, Int64.toInt_add, z_m1, Int32.reduceToInt, Int64.reduceToInt, Int32.reduceToNatClampNeg, Int.bmod_def, or_true, true_or, and_true, true_and] <;> omega))⟩))
    exact ⟨_, rfl, k_123, kn_116, (by first | exact Or.inl rfl | exact Or.inr rfl | assumption), ⟨p_jX_123, p_jY_123, p_jZ_123, (by first | omega | (simp only [Int32.toInt_add, Int32.toInt_sub, Int32.toInt_mul, Int32.toInt_toInt64, Int64.toInt_add, z_m1, Int32.reduceToInt, Int64.reduceToInt, Int32.reduceToNatClampNeg, Int.bmod_def, or_true, true_or, and_true, true_and] <;> omega))⟩⟩
  have T_98 : ∀ (y1_98 : Int32) (y2_98 : Int32) (M_98 : zMt) (N_98 : zNt), (∀ a j, ¬ WM_X8_readHunter P a j → M_98 a j = M0 a j) → (∀ a j, ¬ WN_X8_readHunter P a j → N_98 a j = N0 a j) → (jX P M_98) → (jY P M_98) → (jZ P M_98) → (y2_98 = 0 ∨ y2_98 = 1) → (Int32.toInt (M0 P 17) ≤ Int32.toInt (M_98 P 17)) → (Int32.toInt (M_98 P 29) ≤ 9) → (0 ≤ Int32.toInt y1_98 ∧ Int32.toInt y1_98 ≤ 9) → ∃ r, D_X8_readHunter_98 P y1_98 y2_98 M_98 N_98 = some r ∧ ((∀ a j, ¬ WM_X8_readHunter P a j → r.2.1 a j = M0 a j) ∧ (∀ a j, ¬ WN_X8_readHunter P a j → r.2.2 a j = N0 a j) ∧ (r.1 = 0 ∨ r.1 = 1) ∧ ((jX P r.2.1) ∧ (jY P r.2.1) ∧ (jZ P r.2.1) ∧ (Int32.toInt (M0 P 17) ≤ Int32.toInt (r.2.1 P 17)))) := by
    intro y1_98 y2_98 M_98o N_98 k_98 kn_98 p_jX_98 p_jY_98 p_jZ_98 f0_98 f1_98 f2_98 f3_98
    obtain ⟨u0_jX_98, u1_jX_98, u2_jX_98, u3_jX_98⟩ := id p_jX_98
    obtain ⟨u0_jY_98, u1_jY_98, u2_jY_98, u3_jY_98, u4_jY_98, u5_jY_98⟩ := id p_jY_98
    unfold D_X8_readHunter_98
    refine vI (vp_of (by first | omega | (simp only [Int32.toInt_add, Int32.toInt_sub, Int32.toInt_mul, Int32.toInt_toInt64, Int64.toInt_add, z_m1, Int32.reduceToInt, Int64.reduceToInt, Int32.reduceToNatClampNeg, Int.bmod_def, or_true, true_or, and_true, true_and] <;> omega)) (by first | omega | (simp only [Int32.toInt_add, Int32.toInt_sub, Int32.toInt_mul, Int32.toInt_toInt64, Int64.toInt_add, z_m1, Int32.reduceToInt, Int64.reduceToInt, Int32.reduceToNatClampNeg, Int.bmod_def, or_true, true_or, and_true, true_and] <;> omega))) ?_
    refine vLm (W := WM_X8_readHunter P) (fun a j h => (zu_ne (fun z => wq_X8_readHunter_M6_r h z.1)).trans (k_98 a j h)) (fun M_98 f_98 k_98 => ?_)
    have c15_98 : Int32.toInt (M_98 P 15) = Int32.toInt (M_98o P 15) := congrArg Int32.toInt ((congrFun (congrFun f_98.symm P) 15).trans (zu_ne (fun z => wq_pne0 (by decide) z.1)))
    have c17_98 : Int32.toInt (M_98 P 17) = Int32.toInt (M_98o P 17) := congrArg Int32.toInt ((congrFun (congrFun f_98.symm P) 17).trans (zu_ne (fun z => wq_pne0 (by decide) z.1)))
    have c18_98 : Int32.toInt (M_98 P 18) = Int32.toInt (M_98o P 18) := congrArg Int32.toInt ((congrFun (congrFun f_98.symm P) 18).trans (zu_ne (fun z => wq_pne0 (by decide) z.1)))
    have c20_98 : Int32.toInt (M_98 P 20) = Int32.toInt (M_98o P 20) := congrArg Int32.toInt ((congrFun (congrFun f_98.symm P) 20).trans (zu_ne (fun z => wq_pne0 (by decide) z.1)))
    have c28_98 : Int32.toInt (M_98 P 28) = Int32.toInt (M_98o P 28) := congrArg Int32.toInt ((congrFun (congrFun f_98.symm P) 28).trans (zu_ne (fun z => wq_pne0 (by decide) z.1)))
    have c29_98 : Int32.toInt (M_98 P 29) = Int32.toInt (M_98o P 29) := congrArg Int32.toInt ((congrFun (congrFun f_98.symm P) 29).trans (zu_ne (fun z => wq_pne0 (by decide) z.1)))
    have c30_98 : Int32.toInt (M_98 P 30) = Int32.toInt (M_98o P 30) := congrArg Int32.toInt ((congrFun (congrFun f_98.symm P) 30).trans (zu_ne (fun z => wq_pne0 (by decide) z.1)))
    have c31_98 : Int32.toInt (M_98 P 31) = Int32.toInt (M_98o P 31) := congrArg Int32.toInt ((congrFun (congrFun f_98.symm P) 31).trans (zu_ne (fun z => wq_pne0 (by decide) z.1)))
    have n_98 : nA P M_98 = nA P M_98o := nA_congr (fun a j h => (congrFun (congrFun f_98.symm a) j).trans (zu_ne (fun z => wf_nA_M6_r h z.1)))
    have p_jX_98 : jX P M_98 := jX.mono p_jX_98 (fun a j h => (congrFun (congrFun f_98.symm a) j).trans (zu_ne (fun z => wf_jX_M6_r h z.1)))
    obtain ⟨u0_jX_98, u1_jX_98, u2_jX_98, u3_jX_98⟩ := id p_jX_98
    have p_jY_98 : jY P M_98 := jY.mono p_jY_98 (fun a j h => (congrFun (congrFun f_98.symm a) j).trans (zu_ne (fun z => wf_jY_M6_r h z.1)))
    obtain ⟨u0_jY_98, u1_jY_98, u2_jY_98, u3_jY_98, u4_jY_98, u5_jY_98⟩ := id p_jY_98
    have p_jZ_98 : jZ P M_98 := jZ.mono p_jZ_98 (fun a j h => (congrFun (congrFun f_98.symm a) j).trans (zu_ne (fun z => wf_jZ_M6_r h z.1)))
    refine vI (vp_of (by first | omega | (simp only [Int32.toInt_add, Int32.toInt_sub, Int32.toInt_mul, Int32.toInt_toInt64, Int64.toInt_add, z_m1, Int32.reduceToInt, Int64.reduceToInt, Int32.reduceToNatClampNeg, Int.bmod_def, or_true, true_or, and_true, true_and] <;> omega)) (by first | omega | (simp only [Int32.toInt_add, Int32.toInt_sub, Int32.toInt_mul, Int32.toInt_toInt64, Int64.toInt_add, z_m1, Int32.reduceToInt, Int64.reduceToInt, Int32.reduceToNatClampNeg, Int.bmod_def, or_true, true_or, and_true, true_and] <;> omega))) ?_
    refine vIf (fun h_108 => ?_) (fun h_108 => ?_)
    · have i_108 := congrArg Int32.toInt h_108
      (try simp only [Int32.toInt_add, Int32.toInt_sub, Int32.toInt_mul, Int32.toInt_toInt64, Int64.toInt_add, z_m1, Int32.reduceToInt, Int64.reduceToInt, Int32.reduceToNatClampNeg, Int.bmod_def] at i_108)
      exact T_116 _ _ k_98 kn_98 p_jX_98 p_jY_98 p_jZ_98 (by first | omega | (simp only [Int32.toInt_add, Int32.toInt_sub, Int32.toInt_mul, Int32.toInt_toInt64, Int64.toInt_add, z_m1, Int32.reduceToInt, Int64.reduceToInt, Int32.reduceToNatClampNeg, Int.bmod_def, or_true, true_or, and_true, true_and] <;> omega)) (by first | omega | (simp only [Int32.toInt_add, Int32.toInt_sub, Int32.toInt_mul, Int32.toInt_toInt64, Int64.toInt_add, z_m1, Int32.reduceToInt, Int64.reduceToInt, Int32.reduceToNatClampNeg, Int.bmod_def, or_true, true_or, and_true, true_and] <;> omega))
    · have i_108 : ¬ Int32.toInt (M_98 (P + 6) (M_98 P 29).toNatClampNeg) = Int32.toInt (0 : Int32) := fun q => h_108 (Int32.toInt_inj.mp q)
      (try simp only [Int32.toInt_add, Int32.toInt_sub, Int32.toInt_mul, Int32.toInt_toInt64, Int64.toInt_add, z_m1, Int32.reduceToInt, Int64.reduceToInt, Int32.reduceToNatClampNeg, Int.bmod_def] at i_108)
      refine vB (v_X8_next p_jX_98) (fun e_112 f_112 q_112 => ?_)
      have k_112 : ∀ a j, ¬ WM_X8_readHunter P a j → e_112.2.1 a j = M0 a j := fun a j h => (q_112.1 a j (wz_M_X8_next_X8_readHunter h)).trans (k_98 a j h)
      have kn_112 : ∀ a j, ¬ WN_X8_readHunter P a j → e_112.2.2 a j = N0 a j := fun a j h => (q_112.2.1 a j (wz_N_X8_next_X8_readHunter h)).trans (kn_98 a j h)
      have b_112 := q_112.2.2.1
      have c15_112 : Int32.toInt (e_112.2.1 P 15) = Int32.toInt (M_98 P 15) := congrArg Int32.toInt (q_112.1 P 15 (wc_X8_next_15))
      have c28_112 : Int32.toInt (e_112.2.1 P 28) = Int32.toInt (M_98 P 28) := congrArg Int32.toInt (q_112.1 P 28 (wc_X8_next_28))
      have c29_112 : Int32.toInt (e_112.2.1 P 29) = Int32.toInt (M_98 P 29) := congrArg Int32.toInt (q_112.1 P 29 (wc_X8_next_29))
      have c30_112 : Int32.toInt (e_112.2.1 P 30) = Int32.toInt (M_98 P 30) := congrArg Int32.toInt (q_112.1 P 30 (wc_X8_next_30))
      have c31_112 : Int32.toInt (e_112.2.1 P 31) = Int32.toInt (M_98 P 31) := congrArg Int32.toInt (q_112.1 P 31 (wc_X8_next_31))
      have n_112 : nA P e_112.2.1 = nA P M_98 := nA_congr (fun a j h => q_112.1 a j (wf_nA_X8_next h))
      have p_jY_112 : jY P e_112.2.1 := jY.mono p_jY_98 (fun a j h => q_112.1 a j (wf_jY_X8_next h))
      obtain ⟨u0_jY_112, u1_jY_112, u2_jY_112, u3_jY_112, u4_jY_112, u5_jY_112⟩ := id p_jY_112
      have p_jZ_112 : jZ P e_112.2.1 := jZ.mono p_jZ_98 (fun a j h => q_112.1 a j (wf_jZ_X8_next h))
      obtain ⟨x0_112, x1_112, x2_112, x3_112⟩ := q_112.2.2.2
      obtain ⟨u0_jX_112, u1_jX_112, u2_jX_112, u3_jX_112⟩ := id x0_112
      (try simp only [Int32.toInt_add, Int32.toInt_sub, Int32.toInt_mul, Int32.toInt_toInt64, Int64.toInt_add, z_m1, Int32.reduceToInt, Int64.reduceToInt, Int32.reduceToNatClampNeg, Int.bmod_def] at x1_112)
      (try simp only [Int32.toInt_add, Int32.toInt_sub, Int32.toInt_mul, Int32.toInt_toInt64, Int64.toInt_add, z_m1, Int32.reduceToInt, Int64.reduceToInt, Int32.reduceToNatClampNeg, Int.bmod_def] at x2_112)
      (try simp only [Int32.toInt_add, Int32.toInt_sub, Int32.toInt_mul, Int32.toInt_toInt64, Int64.toInt_add, z_m1, Int32.reduceToInt, Int64.reduceToInt, Int32.reduceToNatClampNeg, Int.bmod_def] at x3_112)
      exact T_116 _ _ k_112 kn_112 x0_112 p_jY_112 p_jZ_112 (by first | omega | (simp only [Int32.toInt_add, Int32.toInt_sub, Int32.toInt_mul, Int32.toInt_toInt64, Int64.toInt_add, z_m1, Int32.reduceToInt, Int64.reduceToInt, Int32.reduceToNatClampNeg, Int.bmod_def, or_true, true_or, and_true, true_and] <;> omega)) (by first | omega | (simp only [Int32.toInt_add, Int32.toInt_sub, Int32.toInt_mul, Int32.toInt_toInt64, Int64.toInt_add, z_m1, Int32.reduceToInt, Int64.reduceToInt, Int32.reduceToNatClampNeg, Int.bmod_def, or_true, true_or, and_true, true_and] <;> omega))
  have T_97 : ∀ (y1_97 : Int32) (M_97 : zMt) (N_97 : zNt), (∀ a j, ¬ WM_X8_readHunter P a j → M_97 a j = M0 a j) → (∀ a j, ¬ WN_X8_readHunter P a j → N_97 a j = N0 a j) → (jX P M_97) → (jY P M_97) → (jZ P M_97) → (Int32.toInt (M0 P 17) ≤ Int32.toInt (M_97 P 17)) → (Int32.toInt (M_97 P 29) ≤ 9) → (0 ≤ Int32.toInt y1_97 ∧ Int32.toInt y1_97 ≤ 9) → ∃ r, D_X8_readHunter_97 P y1_97 M_97 N_97 = some r ∧ ((∀ a j, ¬ WM_X8_readHunter P a j → r.2.1 a j = M0 a j) ∧ (∀ a j, ¬ WN_X8_readHunter P a j → r.2.2 a j = N0 a j) ∧ (r.1 = 0 ∨ r.1 = 1) ∧ ((jX P r.2.1) ∧ (jY P r.2.1) ∧ (jZ P r.2.1) ∧ (Int32.toInt (M0 P 17) ≤ Int32.toInt (r.2.1 P 17)))) := by
    intro y1_97 M_97 N_97 k_97 kn_97 p_jX_97 p_jY_97 p_jZ_97 f0_97 f1_97 f2_97
    obtain ⟨u0_jX_97, u1_jX_97, u2_jX_97, u3_jX_97⟩ := id p_jX_97
    obtain ⟨u0_jY_97, u1_jY_97, u2_jY_97, u3_jY_97, u4_jY_97, u5_jY_97⟩ := id p_jY_97
    unfold D_X8_readHunter_97
    exact T_98 _ _ _ _ k_97 kn_97 p_jX_97 p_jY_97 p_jZ_97 (by first | exact Or.inl rfl | exact Or.inr rfl | assumption) (by first | omega | (simp only [Int32.toInt_add, Int32.toInt_sub, Int32.toInt_mul, Int32.toInt_toInt64, Int64.toInt_add, z_m1, Int32.reduceToInt, Int64.reduceToInt, Int32.reduceToNatClampNeg, Int.bmod_def, or_true, true_or, and_true, true_and] <;> omega)) (by first | omega | (simp only [Int32.toInt_add, Int32.toInt_sub, Int32.toInt_mul, Int32.toInt_toInt64, Int64.toInt_add, z_m1, Int32.reduceToInt, Int64.reduceToInt, Int32.reduceToNatClampNeg, Int.bmod_def, or_true, true_or, and_true, true_and] <;> omega)) (by first | omega | (simp only [Int32.toInt_add, Int32.toInt_sub, Int32.toInt_mul, Int32.toInt_toInt64, Int64.toInt_add, z_m1, Int32.reduceToInt, Int64.reduceToInt, Int32.reduceToNatClampNeg, Int.bmod_def, or_true, true_or, and_true, true_and] <;> omega))
  have T_39 : ∀ (M_39 : zMt) (N_39 : zNt), (∀ a j, ¬ WM_X8_readHunter P a j → M_39 a j = M0 a j) → (∀ a j, ¬ WN_X8_readHunter P a j → N_39 a j = N0 a j) → (jX P M_39) → (jY P M_39) → (jZ P M_39) → (Int32.toInt (M0 P 17) ≤ Int32.toInt (M_39 P 17)) → ∃ r, D_X8_readHunter_39 P M_39 N_39 = some r ∧ ((∀ a j, ¬ WM_X8_readHunter P a j → r.2.1 a j = M0 a j) ∧ (∀ a j, ¬ WN_X8_readHunter P a j → r.2.2 a j = N0 a j) ∧ (r.1 = 0 ∨ r.1 = 1) ∧ ((jX P r.2.1) ∧ (jY P r.2.1) ∧ (jZ P r.2.1) ∧ (Int32.toInt (M0 P 17) ≤ Int32.toInt (r.2.1 P 17)))) := by
    intro M_39 N_39 k_39 kn_39 p_jX_39 p_jY_39 p_jZ_39 f0_39
    obtain ⟨u0_jX_39, u1_jX_39, u2_jX_39, u3_jX_39⟩ := id p_jX_39
    obtain ⟨u0_jY_39, u1_jY_39, u2_jY_39, u3_jY_39, u4_jY_39, u5_jY_39⟩ := id p_jY_39
    unfold D_X8_readHunter_39
    exact ⟨_, rfl, k_39, kn_39, (by first | exact Or.inl rfl | exact Or.inr rfl | assumption), ⟨p_jX_39, p_jY_39, p_jZ_39, (by first | omega | (simp only [Int32.toInt_add, Int32.toInt_sub, Int32.toInt_mul, Int32.toInt_toInt64, Int64.toInt_add, z_m1, Int32.reduceToInt, Int64.reduceToInt, Int32.reduceToNatClampNeg, Int.bmod_def, or_true, true_or, and_true, true_and] <;> omega))⟩⟩
  unfold D_X8_readHunter
  refine vIf (fun h_6 => ?_) (fun h_6 => ?_)
  · have i_6 := congrArg Int32.toInt h_6
    (try simp only [Int32.toInt_add, Int32.toInt_sub, Int32.toInt_mul, Int32.toInt_toInt64, Int64.toInt_add, z_m1, Int32.reduceToInt, Int64.reduceToInt, Int32.reduceToNatClampNeg, Int.bmod_def] at i_6)
    refine vB (v_X8_bad) (fun e_11 f_11 q_11 => ?_)
    have k_11 : ∀ a j, ¬ WM_X8_readHunter P a j → e_11.2 a j = M0 a j := fun a j h => (q_11.1 a j (wz_M_X8_bad_X8_readHunter h))
    have b_11 := q_11.2.1
    have c15_11 : Int32.toInt (e_11.2 P 15) = Int32.toInt (M0 P 15) := congrArg Int32.toInt (q_11.1 P 15 (wc_X8_bad_15))
    have c17_11 : Int32.toInt (e_11.2 P 17) = Int32.toInt (M0 P 17) := congrArg Int32.toInt (q_11.1 P 17 (wc_X8_bad_17))
    have c18_11 : Int32.toInt (e_11.2 P 18) = Int32.toInt (M0 P 18) := congrArg Int32.toInt (q_11.1 P 18 (wc_X8_bad_18))
    have c20_11 : Int32.toInt (e_11.2 P 20) = Int32.toInt (M0 P 20) := congrArg Int32.toInt (q_11.1 P 20 (wc_X8_bad_20))
    have c28_11 : Int32.toInt (e_11.2 P 28) = Int32.toInt (M0 P 28) := congrArg Int32.toInt (q_11.1 P 28 (wc_X8_bad_28))
    have c29_11 : Int32.toInt (e_11.2 P 29) = Int32.toInt (M0 P 29) := congrArg Int32.toInt (q_11.1 P 29 (wc_X8_bad_29))
    have c30_11 : Int32.toInt (e_11.2 P 30) = Int32.toInt (M0 P 30) := congrArg Int32.toInt (q_11.1 P 30 (wc_X8_bad_30))
    have c31_11 : Int32.toInt (e_11.2 P 31) = Int32.toInt (M0 P 31) := congrArg Int32.toInt (q_11.1 P 31 (wc_X8_bad_31))
    have n_11 : nA P e_11.2 = nA P M0 := nA_congr (fun a j h => q_11.1 a j (wf_nA_X8_bad h))
    have p_jX_11 : jX P e_11.2 := jX.mono p_jX (fun a j h => q_11.1 a j (wf_jX_X8_bad h))
    obtain ⟨u0_jX_11, u1_jX_11, u2_jX_11, u3_jX_11⟩ := id p_jX_11
    have p_jY_11 : jY P e_11.2 := jY.mono p_jY (fun a j h => q_11.1 a j (wf_jY_X8_bad h))
    obtain ⟨u0_jY_11, u1_jY_11, u2_jY_11, u3_jY_11, u4_jY_11, u5_jY_11⟩ := id p_jY_11
    have p_jZ_11 : jZ P e_11.2 := jZ.mono p_jZ (fun a j h => q_11.1 a j (wf_jZ_X8_bad h))
    have x0_11 := q_11.2.2
    (try simp only [Int32.toInt_add, Int32.toInt_sub, Int32.toInt_mul, Int32.toInt_toInt64, Int64.toInt_add, z_m1, Int32.reduceToInt, Int64.reduceToInt, Int32.reduceToNatClampNeg, Int.bmod_def] at x0_11)
    exact ⟨_, rfl, k_11, (fun _ _ _ => rfl), (by first | exact Or.inl rfl | exact Or.inr rfl | assumption), ⟨p_jX_11, p_jY_11, p_jZ_11, (by first | omega | (simp only [Int32.toInt_add, Int32.toInt_sub, Int32.toInt_mul, Int32.toInt_toInt64, Int64.toInt_add, z_m1, Int32.reduceToInt, Int64.reduceToInt, Int32.reduceToNatClampNeg, Int.bmod_def, or_true, true_or, and_true, true_and] <;> omega))⟩⟩
  · have i_6 : ¬ Int32.toInt (M0 P 29) = Int32.toInt (10 : Int32) := fun q => h_6 (Int32.toInt_inj.mp q)
    (try simp only [Int32.toInt_add, Int32.toInt_sub, Int32.toInt_mul, Int32.toInt_toInt64, Int64.toInt_add, z_m1, Int32.reduceToInt, Int64.reduceToInt, Int32.reduceToNatClampNeg, Int.bmod_def] at i_6)
    refine vB (v_X8_next p_jX) (fun e_16 f_16 q_16 => ?_)
    have k_16 : ∀ a j, ¬ WM_X8_readHunter P a j → e_16.2.1 a j = M0 a j := fun a j h => (q_16.1 a j (wz_M_X8_next_X8_readHunter h))
    have kn_16 : ∀ a j, ¬ WN_X8_readHunter P a j → e_16.2.2 a j = N0 a j := fun a j h => (q_16.2.1 a j (wz_N_X8_next_X8_readHunter h))
    have b_16 := q_16.2.2.1
    have c15_16 : Int32.toInt (e_16.2.1 P 15) = Int32.toInt (M0 P 15) := congrArg Int32.toInt (q_16.1 P 15 (wc_X8_next_15))
    have c28_16 : Int32.toInt (e_16.2.1 P 28) = Int32.toInt (M0 P 28) := congrArg Int32.toInt (q_16.1 P 28 (wc_X8_next_28))
    have c29_16 : Int32.toInt (e_16.2.1 P 29) = Int32.toInt (M0 P 29) := congrArg Int32.toInt (q_16.1 P 29 (wc_X8_next_29))
    have c30_16 : Int32.toInt (e_16.2.1 P 30) = Int32.toInt (M0 P 30) := congrArg Int32.toInt (q_16.1 P 30 (wc_X8_next_30))
    have c31_16 : Int32.toInt (e_16.2.1 P 31) = Int32.toInt (M0 P 31) := congrArg Int32.toInt (q_16.1 P 31 (wc_X8_next_31))
    have n_16 : nA P e_16.2.1 = nA P M0 := nA_congr (fun a j h => q_16.1 a j (wf_nA_X8_next h))
    have p_jY_16 : jY P e_16.2.1 := jY.mono p_jY (fun a j h => q_16.1 a j (wf_jY_X8_next h))
    obtain ⟨u0_jY_16, u1_jY_16, u2_jY_16, u3_jY_16, u4_jY_16, u5_jY_16⟩ := id p_jY_16
    have p_jZ_16 : jZ P e_16.2.1 := jZ.mono p_jZ (fun a j h => q_16.1 a j (wf_jZ_X8_next h))
    obtain ⟨x0_16, x1_16, x2_16, x3_16⟩ := q_16.2.2.2
    obtain ⟨u0_jX_16, u1_jX_16, u2_jX_16, u3_jX_16⟩ := id x0_16
    (try simp only [Int32.toInt_add, Int32.toInt_sub, Int32.toInt_mul, Int32.toInt_toInt64, Int64.toInt_add, z_m1, Int32.reduceToInt, Int64.reduceToInt, Int32.reduceToNatClampNeg, Int.bmod_def] at x1_16)
    (try simp only [Int32.toInt_add, Int32.toInt_sub, Int32.toInt_mul, Int32.toInt_toInt64, Int64.toInt_add, z_m1, Int32.reduceToInt, Int64.reduceToInt, Int32.reduceToNatClampNeg, Int.bmod_def] at x2_16)
    (try simp only [Int32.toInt_add, Int32.toInt_sub, Int32.toInt_mul, Int32.toInt_toInt64, Int64.toInt_add, z_m1, Int32.reduceToInt, Int64.reduceToInt, Int32.reduceToNatClampNeg, Int.bmod_def] at x3_16)
    refine vIf (fun h_19 => ?_) (fun h_19 => ?_)
    · have i_19 := congrArg Int32.toInt h_19
      (try simp only [Int32.toInt_add, Int32.toInt_sub, Int32.toInt_mul, Int32.toInt_toInt64, Int64.toInt_add, z_m1, Int32.reduceToInt, Int64.reduceToInt, Int32.reduceToNatClampNeg, Int.bmod_def] at i_19)
      exact T_39 _ _ k_16 kn_16 x0_16 p_jY_16 p_jZ_16 (by first | omega | (simp only [Int32.toInt_add, Int32.toInt_sub, Int32.toInt_mul, Int32.toInt_toInt64, Int64.toInt_add, z_m1, Int32.reduceToInt, Int64.reduceToInt, Int32.reduceToNatClampNeg, Int.bmod_def, or_true, true_or, and_true, true_and] <;> omega))
    · have i_19 : ¬ Int32.toInt e_16.1 = Int32.toInt (0 : Int32) := fun q => h_19 (Int32.toInt_inj.mp q)
      (try simp only [Int32.toInt_add, Int32.toInt_sub, Int32.toInt_mul, Int32.toInt_toInt64, Int64.toInt_add, z_m1, Int32.reduceToInt, Int64.reduceToInt, Int32.reduceToNatClampNeg, Int.bmod_def] at i_19)
      refine vB (v_X8_newName x0_16 p_jY_16) (fun e_23 f_23 q_23 => ?_)
      have k_23 : ∀ a j, ¬ WM_X8_readHunter P a j → e_23.2.1 a j = M0 a j := fun a j h => (q_23.1 a j (wz_M_X8_newName_X8_readHunter h)).trans (k_16 a j h)
      have kn_23 : ∀ a j, ¬ WN_X8_readHunter P a j → e_23.2.2 a j = N0 a j := fun a j h => (q_23.2.1 a j (wz_N_X8_newName_X8_readHunter h)).trans (kn_16 a j h)
      have b_23 := q_23.2.2.1
      have c15_23 : Int32.toInt (e_23.2.1 P 15) = Int32.toInt (e_16.2.1 P 15) := congrArg Int32.toInt (q_23.1 P 15 (wc_X8_newName_15))
      have c28_23 : Int32.toInt (e_23.2.1 P 28) = Int32.toInt (e_16.2.1 P 28) := congrArg Int32.toInt (q_23.1 P 28 (wc_X8_newName_28))
      have c29_23 : Int32.toInt (e_23.2.1 P 29) = Int32.toInt (e_16.2.1 P 29) := congrArg Int32.toInt (q_23.1 P 29 (wc_X8_newName_29))
      have c30_23 : Int32.toInt (e_23.2.1 P 30) = Int32.toInt (e_16.2.1 P 30) := congrArg Int32.toInt (q_23.1 P 30 (wc_X8_newName_30))
      have c31_23 : Int32.toInt (e_23.2.1 P 31) = Int32.toInt (e_16.2.1 P 31) := congrArg Int32.toInt (q_23.1 P 31 (wc_X8_newName_31))
      have n_23 : nA P e_23.2.1 = nA P e_16.2.1 := nA_congr (fun a j h => q_23.1 a j (wf_nA_X8_newName h))
      have p_jY_23 : jY P e_23.2.1 := jY.mono p_jY_16 (fun a j h => q_23.1 a j (wf_jY_X8_newName h))
      obtain ⟨u0_jY_23, u1_jY_23, u2_jY_23, u3_jY_23, u4_jY_23, u5_jY_23⟩ := id p_jY_23
      have p_jZ_23 : jZ P e_23.2.1 := jZ.mono p_jZ_16 (fun a j h => q_23.1 a j (wf_jZ_X8_newName h))
      obtain ⟨x0_23, x1_23⟩ := q_23.2.2.2
      obtain ⟨u0_jX_23, u1_jX_23, u2_jX_23, u3_jX_23⟩ := id x0_23
      (try simp only [Int32.toInt_add, Int32.toInt_sub, Int32.toInt_mul, Int32.toInt_toInt64, Int64.toInt_add, z_m1, Int32.reduceToInt, Int64.reduceToInt, Int32.reduceToNatClampNeg, Int.bmod_def] at x1_23)
      refine vIf (fun h_26 => ?_) (fun h_26 => ?_)
      · have i_26 := congrArg Int32.toInt h_26
        (try simp only [Int32.toInt_add, Int32.toInt_sub, Int32.toInt_mul, Int32.toInt_toInt64, Int64.toInt_add, z_m1, Int32.reduceToInt, Int64.reduceToInt, Int32.reduceToNatClampNeg, Int.bmod_def] at i_26)
        exact T_39 _ _ k_23 kn_23 x0_23 p_jY_23 p_jZ_23 (by first | omega | (simp only [Int32.toInt_add, Int32.toInt_sub, Int32.toInt_mul, Int32.toInt_toInt64, Int64.toInt_add, z_m1, Int32.reduceToInt, Int64.reduceToInt, Int32.reduceToNatClampNeg, Int.bmod_def, or_true, true_or, and_true, true_and] <;> omega))
      · have i_26 : ¬ Int32.toInt e_23.1 = Int32.toInt (0 : Int32) := fun q => h_26 (Int32.toInt_inj.mp q)
        (try simp only [Int32.toInt_add, Int32.toInt_sub, Int32.toInt_mul, Int32.toInt_toInt64, Int64.toInt_add, z_m1, Int32.reduceToInt, Int64.reduceToInt, Int32.reduceToNatClampNeg, Int.bmod_def] at i_26)
        refine vB (v_X8_number x0_23 p_jY_23 (by first | omega | (simp only [Int32.toInt_add, Int32.toInt_sub, Int32.toInt_mul, Int32.toInt_toInt64, Int64.toInt_add, z_m1, Int32.reduceToInt, Int64.reduceToInt, Int32.reduceToNatClampNeg, Int.bmod_def, or_true, true_or, and_true, true_and] <;> omega))) (fun e_33 f_33 q_33 => ?_)
        have k_33 : ∀ a j, ¬ WM_X8_readHunter P a j → e_33.2.1 a j = M0 a j := fun a j h => (q_33.1 a j (wz_M_X8_number_X8_readHunter h)).trans (k_23 a j h)
        have kn_33 : ∀ a j, ¬ WN_X8_readHunter P a j → e_33.2.2 a j = N0 a j := fun a j h => (q_33.2.1 a j (wz_N_X8_number_X8_readHunter h)).trans (kn_23 a j h)
        have b_33 := q_33.2.2.1
        have c15_33 : Int32.toInt (e_33.2.1 P 15) = Int32.toInt (e_23.2.1 P 15) := congrArg Int32.toInt (q_33.1 P 15 (wc_X8_number_15))
        have c28_33 : Int32.toInt (e_33.2.1 P 28) = Int32.toInt (e_23.2.1 P 28) := congrArg Int32.toInt (q_33.1 P 28 (wc_X8_number_28))
        have c29_33 : Int32.toInt (e_33.2.1 P 29) = Int32.toInt (e_23.2.1 P 29) := congrArg Int32.toInt (q_33.1 P 29 (wc_X8_number_29))
        have c30_33 : Int32.toInt (e_33.2.1 P 30) = Int32.toInt (e_23.2.1 P 30) := congrArg Int32.toInt (q_33.1 P 30 (wc_X8_number_30))
        have n_33 : nA P e_33.2.1 = nA P e_23.2.1 := nA_congr (fun a j h => q_33.1 a j (wf_nA_X8_number h))
        have p_jY_33 : jY P e_33.2.1 := jY.mono p_jY_23 (fun a j h => q_33.1 a j (wf_jY_X8_number h))
        obtain ⟨u0_jY_33, u1_jY_33, u2_jY_33, u3_jY_33, u4_jY_33, u5_jY_33⟩ := id p_jY_33
        have p_jZ_33 : jZ P e_33.2.1 := jZ.mono p_jZ_23 (fun a j h => q_33.1 a j (wf_jZ_X8_number h))
        obtain ⟨x0_33, x1_33, x2_33⟩ := q_33.2.2.2
        obtain ⟨u0_jX_33, u1_jX_33, u2_jX_33, u3_jX_33⟩ := id x0_33
        (try simp only [Int32.toInt_add, Int32.toInt_sub, Int32.toInt_mul, Int32.toInt_toInt64, Int64.toInt_add, z_m1, Int32.reduceToInt, Int64.reduceToInt, Int32.reduceToNatClampNeg, Int.bmod_def] at x1_33)
        (try simp only [Int32.toInt_add, Int32.toInt_sub, Int32.toInt_mul, Int32.toInt_toInt64, Int64.toInt_add, z_m1, Int32.reduceToInt, Int64.reduceToInt, Int32.reduceToNatClampNeg, Int.bmod_def] at x2_33)
        refine vIf (fun h_36 => ?_) (fun h_36 => ?_)
        · have i_36 := congrArg Int32.toInt h_36
          (try simp only [Int32.toInt_add, Int32.toInt_sub, Int32.toInt_mul, Int32.toInt_toInt64, Int64.toInt_add, z_m1, Int32.reduceToInt, Int64.reduceToInt, Int32.reduceToNatClampNeg, Int.bmod_def] at i_36)
          exact T_39 _ _ k_33 kn_33 x0_33 p_jY_33 p_jZ_33 (by first | omega | (simp only [Int32.toInt_add, Int32.toInt_sub, Int32.toInt_mul, Int32.toInt_toInt64, Int64.toInt_add, z_m1, Int32.reduceToInt, Int64.reduceToInt, Int32.reduceToNatClampNeg, Int.bmod_def, or_true, true_or, and_true, true_and] <;> omega))
        · have i_36 : ¬ Int32.toInt e_33.1 = Int32.toInt (0 : Int32) := fun q => h_36 (Int32.toInt_inj.mp q)
          (try simp only [Int32.toInt_add, Int32.toInt_sub, Int32.toInt_mul, Int32.toInt_toInt64, Int64.toInt_add, z_m1, Int32.reduceToInt, Int64.reduceToInt, Int32.reduceToNatClampNeg, Int.bmod_def] at i_36)
          refine vI (vp_of (by first | omega | (simp only [Int32.toInt_add, Int32.toInt_sub, Int32.toInt_mul, Int32.toInt_toInt64, Int64.toInt_add, z_m1, Int32.reduceToInt, Int64.reduceToInt, Int32.reduceToNatClampNeg, Int.bmod_def, or_true, true_or, and_true, true_and] <;> omega)) (by first | omega | (simp only [Int32.toInt_add, Int32.toInt_sub, Int32.toInt_mul, Int32.toInt_toInt64, Int64.toInt_add, z_m1, Int32.reduceToInt, Int64.reduceToInt, Int32.reduceToNatClampNeg, Int.bmod_def, or_true, true_or, and_true, true_and] <;> omega))) ?_
          refine vLn (W := WN_X8_readHunter P) (fun a j h => (zu_ne (fun z => wq_X8_readHunter_N9_r h z.1)).trans (kn_33 a j h)) (fun N_53 f_53 kn_53 => ?_)
          refine vI (vp_of (by first | omega | (simp only [Int32.toInt_add, Int32.toInt_sub, Int32.toInt_mul, Int32.toInt_toInt64, Int64.toInt_add, z_m1, Int32.reduceToInt, Int64.reduceToInt, Int32.reduceToNatClampNeg, Int.bmod_def, or_true, true_or, and_true, true_and] <;> omega)) (by first | omega | (simp only [Int32.toInt_add, Int32.toInt_sub, Int32.toInt_mul, Int32.toInt_toInt64, Int64.toInt_add, z_m1, Int32.reduceToInt, Int64.reduceToInt, Int32.reduceToNatClampNeg, Int.bmod_def, or_true, true_or, and_true, true_and] <;> omega))) ?_
          refine vLm (W := WM_X8_readHunter P) (fun a j h => (zu_ne (fun z => wq_X8_readHunter_M2_r h z.1)).trans (k_33 a j h)) (fun M_68 f_68 k_68 => ?_)
          have c15_68 : Int32.toInt (M_68 P 15) = Int32.toInt (e_33.2.1 P 15) := congrArg Int32.toInt ((congrFun (congrFun f_68.symm P) 15).trans (zu_ne (fun z => wq_pne0 (by decide) z.1)))
          have c17_68 : Int32.toInt (M_68 P 17) = Int32.toInt (e_33.2.1 P 17) := congrArg Int32.toInt ((congrFun (congrFun f_68.symm P) 17).trans (zu_ne (fun z => wq_pne0 (by decide) z.1)))
          have c18_68 : Int32.toInt (M_68 P 18) = Int32.toInt (e_33.2.1 P 18) := congrArg Int32.toInt ((congrFun (congrFun f_68.symm P) 18).trans (zu_ne (fun z => wq_pne0 (by decide) z.1)))
          have c20_68 : Int32.toInt (M_68 P 20) = Int32.toInt (e_33.2.1 P 20) := congrArg Int32.toInt ((congrFun (congrFun f_68.symm P) 20).trans (zu_ne (fun z => wq_pne0 (by decide) z.1)))
          have c28_68 : Int32.toInt (M_68 P 28) = Int32.toInt (e_33.2.1 P 28) := congrArg Int32.toInt ((congrFun (congrFun f_68.symm P) 28).trans (zu_ne (fun z => wq_pne0 (by decide) z.1)))
          have c29_68 : Int32.toInt (M_68 P 29) = Int32.toInt (e_33.2.1 P 29) := congrArg Int32.toInt ((congrFun (congrFun f_68.symm P) 29).trans (zu_ne (fun z => wq_pne0 (by decide) z.1)))
          have c30_68 : Int32.toInt (M_68 P 30) = Int32.toInt (e_33.2.1 P 30) := congrArg Int32.toInt ((congrFun (congrFun f_68.symm P) 30).trans (zu_ne (fun z => wq_pne0 (by decide) z.1)))
          have c31_68 : Int32.toInt (M_68 P 31) = Int32.toInt (e_33.2.1 P 31) := congrArg Int32.toInt ((congrFun (congrFun f_68.symm P) 31).trans (zu_ne (fun z => wq_pne0 (by decide) z.1)))
          have n_68 : nA P M_68 = nA P e_33.2.1 := nA_congr (fun a j h => (congrFun (congrFun f_68.symm a) j).trans (zu_ne (fun z => wf_nA_M2_r h z.1)))
          have p_jY_68 : jY P M_68 := jY.mono p_jY_33 (fun a j h => (congrFun (congrFun f_68.symm a) j).trans (zu_ne (fun z => wf_jY_M2_r h z.1)))
          obtain ⟨u0_jY_68, u1_jY_68, u2_jY_68, u3_jY_68, u4_jY_68, u5_jY_68⟩ := id p_jY_68
          have p_jZ_68 : jZ P M_68 := jZ.put p_jZ_33 (by omega) f_68 (Or.inl ⟨(by have h1 := z_cl (x := (0 : Int32) + e_33.2.1 P 29) (by first | omega | (simp only [Int32.toInt_add, Int32.toInt_sub, Int32.toInt_mul, Int32.toInt_toInt64, Int64.toInt_add, z_m1, Int32.reduceToInt, Int64.reduceToInt, Int32.reduceToNatClampNeg, Int.bmod_def, or_true, true_or, and_true, true_and] <;> omega)); have h2 : 0 ≤ Int32.toInt ((0 : Int32) + e_33.2.1 P 29) ∧ Int32.toInt ((0 : Int32) + e_33.2.1 P 29) < 10 := (by first | omega | (simp only [Int32.toInt_add, Int32.toInt_sub, Int32.toInt_mul, Int32.toInt_toInt64, Int64.toInt_add, z_m1, Int32.reduceToInt, Int64.reduceToInt, Int32.reduceToNatClampNeg, Int.bmod_def, or_true, true_or, and_true, true_and] <;> omega)); omega), (by first | omega | (simp only [Int32.toInt_add, Int32.toInt_sub, Int32.toInt_mul, Int32.toInt_toInt64, Int64.toInt_add, z_m1, Int32.reduceToInt, Int64.reduceToInt, Int32.reduceToNatClampNeg, Int.bmod_def, or_true, true_or, and_true, true_and] <;> omega)), (by first | omega | (simp only [Int32.toInt_add, Int32.toInt_sub, Int32.toInt_mul, Int32.toInt_toInt64, Int64.toInt_add, z_m1, Int32.reduceToInt, Int64.reduceToInt, Int32.reduceToNatClampNeg, Int.bmod_def, or_true, true_or, and_true, true_and] <;> omega))⟩)
          have p_jX_68 : jX P M_68 := jX.mono x0_33 (fun a j h => (congrFun (congrFun f_68.symm a) j).trans (zu_ne (fun z => wf_jX_M2_r h z.1)))
          obtain ⟨u0_jX_68, u1_jX_68, u2_jX_68, u3_jX_68⟩ := id p_jX_68
          refine vIf (fun h_82 => ?_) (fun h_82 => ?_)
          · have i_82 := congrArg Int32.toInt h_82
            (try simp only [Int32.toInt_add, Int32.toInt_sub, Int32.toInt_mul, Int32.toInt_toInt64, Int64.toInt_add, z_m1, Int32.reduceToInt, Int64.reduceToInt, Int32.reduceToNatClampNeg, Int.bmod_def] at i_82)
            refine vIf (fun h_90 => ?_) (fun h_90 => ?_)
            · have i_90 := congrArg Int32.toInt h_90
              (try simp only [Int32.toInt_add, Int32.toInt_sub, Int32.toInt_mul, Int32.toInt_toInt64, Int64.toInt_add, z_m1, Int32.reduceToInt, Int64.reduceToInt, Int32.reduceToNatClampNeg, Int.bmod_def] at i_90)
              exact T_98 _ _ _ _ k_68 kn_53 p_jX_68 p_jY_68 p_jZ_68 (by first | exact Or.inl rfl | exact Or.inr rfl | assumption) (by first | omega | (simp only [Int32.toInt_add, Int32.toInt_sub, Int32.toInt_mul, Int32.toInt_toInt64, Int64.toInt_add, z_m1, Int32.reduceToInt, Int64.reduceToInt, Int32.reduceToNatClampNeg, Int.bmod_def, or_true, true_or, and_true, true_and] <;> omega)) (by first | omega | (simp only [Int32.toInt_add, Int32.toInt_sub, Int32.toInt_mul, Int32.toInt_toInt64, Int64.toInt_add, z_m1, Int32.reduceToInt, Int64.reduceToInt, Int32.reduceToNatClampNeg, Int.bmod_def, or_true, true_or, and_true, true_and] <;> omega)) (by first | omega | (simp only [Int32.toInt_add, Int32.toInt_sub, Int32.toInt_mul, Int32.toInt_toInt64, Int64.toInt_add, z_m1, Int32.reduceToInt, Int64.reduceToInt, Int32.reduceToNatClampNeg, Int.bmod_def, or_true, true_or, and_true, true_and] <;> omega))
            · have i_90 : ¬ Int32.toInt (M_68 P 19) = Int32.toInt (2 : Int32) := fun q => h_90 (Int32.toInt_inj.mp q)
              (try simp only [Int32.toInt_add, Int32.toInt_sub, Int32.toInt_mul, Int32.toInt_toInt64, Int64.toInt_add, z_m1, Int32.reduceToInt, Int64.reduceToInt, Int32.reduceToNatClampNeg, Int.bmod_def] at i_90)
              exact T_97 _ _ _ k_68 kn_53 p_jX_68 p_jY_68 p_jZ_68 (by first | omega | (simp only [Int32.toInt_add, Int32.toInt_sub, Int32.toInt_mul, Int32.toInt_toInt64, Int64.toInt_add, z_m1, Int32.reduceToInt, Int64.reduceToInt, Int32.reduceToNatClampNeg, Int.bmod_def, or_true, true_or, and_true, true_and] <;> omega)) (by first | omega | (simp only [Int32.toInt_add, Int32.toInt_sub, Int32.toInt_mul, Int32.toInt_toInt64, Int64.toInt_add, z_m1, Int32.reduceToInt, Int64.reduceToInt, Int32.reduceToNatClampNeg, Int.bmod_def, or_true, true_or, and_true, true_and] <;> omega)) (by first | omega | (simp only [Int32.toInt_add, Int32.toInt_sub, Int32.toInt_mul, Int32.toInt_toInt64, Int64.toInt_add, z_m1, Int32.reduceToInt, Int64.reduceToInt, Int32.reduceToNatClampNeg, Int.bmod_def, or_true, true_or, and_true, true_and] <;> omega))
          · have i_82 : ¬ Int32.toInt (M_68 P 18) = Int32.toInt (2 : Int32) := fun q => h_82 (Int32.toInt_inj.mp q)
            (try simp only [Int32.toInt_add, Int32.toInt_sub, Int32.toInt_mul, Int32.toInt_toInt64, Int64.toInt_add, z_m1, Int32.reduceToInt, Int64.reduceToInt, Int32.reduceToNatClampNeg, Int.bmod_def] at i_82)
            exact T_97 _ _ _ k_68 kn_53 p_jX_68 p_jY_68 p_jZ_68 (by first | omega | (simp only [Int32.toInt_add, Int32.toInt_sub, Int32.toInt_mul, Int32.toInt_toInt64, Int64.toInt_add, z_m1, Int32.reduceToInt, Int64.reduceToInt, Int32.reduceToNatClampNeg, Int.bmod_def, or_true, true_or, and_true, true_and] <;> omega)) (by first | omega | (simp only [Int32.toInt_add, Int32.toInt_sub, Int32.toInt_mul, Int32.toInt_toInt64, Int64.toInt_add, z_m1, Int32.reduceToInt, Int64.reduceToInt, Int32.reduceToNatClampNeg, Int.bmod_def, or_true, true_or, and_true, true_and] <;> omega)) (by first | omega | (simp only [Int32.toInt_add, Int32.toInt_sub, Int32.toInt_mul, Int32.toInt_toInt64, Int64.toInt_add, z_m1, Int32.reduceToInt, Int64.reduceToInt, Int32.reduceToNatClampNeg, Int.bmod_def, or_true, true_or, and_true, true_and] <;> omega))
def WM_X8_readAsks (P : Nat) (a j : Nat) : Prop := (P + 2 ≤ a ∧ a < P + 3) ∨ (a = P ∧ (j = 16 ∨ j = 17 ∨ j = 18 ∨ j = 19 ∨ j = 20 ∨ j = 21 ∨ j = 22))
def WN_X8_readAsks (P : Nat) (a j : Nat) : Prop := (a = P ∧ (j = 24))
theorem wz_M_X8_bad_X8_readAsks {P a j : Nat} (h : ¬ WM_X8_readAsks P a j) : ¬ WM_X8_bad P a j := by unfold WM_X8_bad; unfold WM_X8_readAsks at h; omega
theorem wq_X8_readAsks_M2_r {P a j : Nat} (h : ¬ WM_X8_readAsks P a j) : ¬ a = P + 2 := by unfold WM_X8_readAsks at h; omega
theorem wz_M_X8_next_X8_readAsks {P a j : Nat} (h : ¬ WM_X8_readAsks P a j) : ¬ WM_X8_next P a j := by unfold WM_X8_next; unfold WM_X8_readAsks at h; omega
theorem wz_N_X8_next_X8_readAsks {P a j : Nat} (h : ¬ WN_X8_readAsks P a j) : ¬ WN_X8_next P a j := by unfold WN_X8_next; unfold WN_X8_readAsks at h; omega
set_option maxRecDepth 100000 in
set_option maxHeartbeats 4000000 in
theorem v_X8_readAsks {P : Nat}  {M0 : zMt} {N0 : zNt}  (p_jX : jX P M0) (p_jY : jY P M0) (p_jZ : jZ P M0) : ∃ r, D_X8_readAsks P M0 N0 = some r ∧ ((∀ a j, ¬ WM_X8_readAsks P a j → r.2.1 a j = M0 a j) ∧ (∀ a j, ¬ WN_X8_readAsks P a j → r.2.2 a j = N0 a j) ∧ (r.1 = 0 ∨ r.1 = 1) ∧ ((jX P r.2.1) ∧ (jY P r.2.1) ∧ (jZ P r.2.1) ∧ (Int32.toInt (M0 P 17) ≤ Int32.toInt (r.2.1 P 17)))) := by
  obtain ⟨u0_jX, u1_jX, u2_jX, u3_jX⟩ := id p_jX
  obtain ⟨u0_jY, u1_jY, u2_jY, u3_jY, u4_jY, u5_jY⟩ := id p_jY
  have T_149 : ∀ (M_149 : zMt) (N_149 : zNt), (∀ a j, ¬ WM_X8_readAsks P a j → M_149 a j = M0 a j) → (∀ a j, ¬ WN_X8_readAsks P a j → N_149 a j = N0 a j) → (jX P M_149) → (jY P M_149) → (jZ P M_149) → (Int32.toInt (M0 P 17) ≤ Int32.toInt (M_149 P 17)) → ∃ r, D_X8_readAsks_149 P M_149 N_149 = some r ∧ ((∀ a j, ¬ WM_X8_readAsks P a j → r.2.1 a j = M0 a j) ∧ (∀ a j, ¬ WN_X8_readAsks P a j → r.2.2 a j = N0 a j) ∧ (r.1 = 0 ∨ r.1 = 1) ∧ ((jX P r.2.1) ∧ (jY P r.2.1) ∧ (jZ P r.2.1) ∧ (Int32.toInt (M0 P 17) ≤ Int32.toInt (r.2.1 P 17)))) := by
    intro M_149 N_149 k_149 kn_149 p_jX_149 p_jY_149 p_jZ_149 f0_149
    obtain ⟨u0_jX_149, u1_jX_149, u2_jX_149, u3_jX_149⟩ := id p_jX_149
    obtain ⟨u0_jY_149, u1_jY_149, u2_jY_149, u3_jY_149, u4_jY_149, u5_jY_149⟩ := id p_jY_149
    unfold D_X8_readAsks_149
    refine vB (v_X8_bad) (fun e_151 f_151 q_151 => ?_)
    have k_151 : ∀ a j, ¬ WM_X8_readAsks P a j → e_151.2 a j = M0 a j := fun a j h => (q_151.1 a j (wz_M_X8_bad_X8_readAsks h)).trans (k_149 a j h)
    have b_151 := q_151.2.1
    have c15_151 : Int32.toInt (e_151.2 P 15) = Int32.toInt (M_149 P 15) := congrArg Int32.toInt (q_151.1 P 15 (wc_X8_bad_15))
    have c17_151 : Int32.toInt (e_151.2 P 17) = Int32.toInt (M_149 P 17) := congrArg Int32.toInt (q_151.1 P 17 (wc_X8_bad_17))
    have c18_151 : Int32.toInt (e_151.2 P 18) = Int32.toInt (M_149 P 18) := congrArg Int32.toInt (q_151.1 P 18 (wc_X8_bad_18))
    have c20_151 : Int32.toInt (e_151.2 P 20) = Int32.toInt (M_149 P 20) := congrArg Int32.toInt (q_151.1 P 20 (wc_X8_bad_20))
    have c28_151 : Int32.toInt (e_151.2 P 28) = Int32.toInt (M_149 P 28) := congrArg Int32.toInt (q_151.1 P 28 (wc_X8_bad_28))
    have c29_151 : Int32.toInt (e_151.2 P 29) = Int32.toInt (M_149 P 29) := congrArg Int32.toInt (q_151.1 P 29 (wc_X8_bad_29))
    have c30_151 : Int32.toInt (e_151.2 P 30) = Int32.toInt (M_149 P 30) := congrArg Int32.toInt (q_151.1 P 30 (wc_X8_bad_30))
    have c31_151 : Int32.toInt (e_151.2 P 31) = Int32.toInt (M_149 P 31) := congrArg Int32.toInt (q_151.1 P 31 (wc_X8_bad_31))
    have n_151 : nA P e_151.2 = nA P M_149 := nA_congr (fun a j h => q_151.1 a j (wf_nA_X8_bad h))
    have p_jX_151 : jX P e_151.2 := jX.mono p_jX_149 (fun a j h => q_151.1 a j (wf_jX_X8_bad h))
    obtain ⟨u0_jX_151, u1_jX_151, u2_jX_151, u3_jX_151⟩ := id p_jX_151
    have p_jY_151 : jY P e_151.2 := jY.mono p_jY_149 (fun a j h => q_151.1 a j (wf_jY_X8_bad h))
    obtain ⟨u0_jY_151, u1_jY_151, u2_jY_151, u3_jY_151, u4_jY_151, u5_jY_151⟩ := id p_jY_151
    have p_jZ_151 : jZ P e_151.2 := jZ.mono p_jZ_149 (fun a j h => q_151.1 a j (wf_jZ_X8_bad h))
    have x0_151 := q_151.2.2
    (try simp only [Int32.toInt_add, Int32.toInt_sub, Int32.toInt_mul, Int32.toInt_toInt64, Int64.toInt_add, z_m1, Int32.reduceToInt, Int64.reduceToInt, Int32.reduceToNatClampNeg, Int.bmod_def] at x0_151)
    exact ⟨_, rfl, k_151, kn_149, (by first | exact Or.inl rfl | exact Or.inr rfl | assumption), ⟨p_jX_151, p_jY_151, p_jZ_151, (by first | omega | (simp only [Int32.toInt_add, Int32.toInt_sub, Int32.toInt_mul, Int32.toInt_toInt64, Int64.toInt_add, z_m1, Int32.reduceToInt, Int64.reduceToInt, Int32.reduceToNatClampNeg, Int.bmod_def, or_true, true_or, and_true, true_and] <;> omega))⟩⟩
  have TL_124 : ∀ u : Nat, ∀ (x3_124 : Int32) (x4_124 : Int32) (M_124 : zMt) (N_124 : zNt), (∀ a j, ¬ WM_X8_readAsks P a j → M_124 a j = M0 a j) → (∀ a j, ¬ WN_X8_readAsks P a j → N_124 a j = N0 a j) → (jX P M_124) → (jY P M_124) → (jZ P M_124) → (0 ≤ Int32.toInt x4_124) → (Int32.toInt (M0 P 17) ≤ Int32.toInt (M_124 P 17)) → (20 ≤ Int32.toInt x3_124 ∧ Int32.toInt x3_124 ≤ 59) → (0 ≤ Int32.toInt x4_124 ∧ Int32.toInt x4_124 ≤ 3) → (3 - Int32.toInt x4_124).toNat < u → ∃ r, D_X8_readAsks_124 P u x3_124 x4_124 M_124 N_124 = some r ∧ ((∀ a j, ¬ WM_X8_readAsks P a j → r.2.1 a j = M0 a j) ∧ (∀ a j, ¬ WN_X8_readAsks P a j → r.2.2 a j = N0 a j) ∧ (r.1 = 0 ∨ r.1 = 1) ∧ ((jX P r.2.1) ∧ (jY P r.2.1) ∧ (jZ P r.2.1) ∧ (Int32.toInt (M0 P 17) ≤ Int32.toInt (r.2.1 P 17)))) := by
    intro u
    induction u with
    | zero => intro x3_124 x4_124 M_124 N_124 k_124 kn_124 p_jX_124 p_jY_124 p_jZ_124 f0_124 f1_124 f2_124 f3_124 hm_124; exact absurd hm_124 (Nat.not_lt_zero _)
    | succ u_124 ih_124 =>
      have TL_187 : ∀ u : Nat, ∀ (x3_187 : Int32) (x4_187 : Int32) (x5_187 : Int32) (x6_187 : Int32) (M_187 : zMt) (N_187 : zNt), (∀ a j, ¬ WM_X8_readAsks P a j → M_187 a j = M0 a j) → (∀ a j, ¬ WN_X8_readAsks P a j → N_187 a j = N0 a j) → (jX P M_187) → (jY P M_187) → (jZ P M_187) → (0 ≤ Int32.toInt x4_187) → (0 ≤ Int32.toInt x6_187) → (Int32.toInt (M0 P 17) ≤ Int32.toInt (M_187 P 17)) → (20 ≤ Int32.toInt x3_187 ∧ Int32.toInt x3_187 ≤ 59) → (0 ≤ Int32.toInt x4_187 ∧ Int32.toInt x4_187 ≤ 2) → (0 ≤ Int32.toInt x5_187 ∧ Int32.toInt x5_187 < Int32.toInt (M_187 P 28)) → (0 ≤ Int32.toInt x6_187 ∧ Int32.toInt x6_187 ≤ Int32.toInt x4_187) → ((3 - Int32.toInt x4_187).toNat < u_124 + 1) → (2147483648 - Int32.toInt x6_187).toNat < u → ∃ r, D_X8_readAsks_187 P (D_X8_readAsks_124 P u_124) u x3_187 x4_187 x5_187 x6_187 M_187 N_187 = some r ∧ ((∀ a j, ¬ WM_X8_readAsks P a j → r.2.1 a j = M0 a j) ∧ (∀ a j, ¬ WN_X8_readAsks P a j → r.2.2 a j = N0 a j) ∧ (r.1 = 0 ∨ r.1 = 1) ∧ ((jX P r.2.1) ∧ (jY P r.2.1) ∧ (jZ P r.2.1) ∧ (Int32.toInt (M0 P 17) ≤ Int32.toInt (r.2.1 P 17)))) := by
        intro u
        induction u with
        | zero => intro x3_187 x4_187 x5_187 x6_187 M_187 N_187 k_187 kn_187 p_jX_187 p_jY_187 p_jZ_187 f0_187 f1_187 f2_187 f3_187 f4_187 f5_187 f6_187 f7_187 hm_187; exact absurd hm_187 (Nat.not_lt_zero _)
        | succ u_187 ih_187 =>
          intro x3_187 x4_187 x5_187 x6_187 M_187 N_187 k_187 kn_187 p_jX_187 p_jY_187 p_jZ_187 f0_187 f1_187 f2_187 f3_187 f4_187 f5_187 f6_187 f7_187 hm_187
          obtain ⟨u0_jX_187, u1_jX_187, u2_jX_187, u3_jX_187⟩ := id p_jX_187
          obtain ⟨u0_jY_187, u1_jY_187, u2_jY_187, u3_jY_187, u4_jY_187, u5_jY_187⟩ := id p_jY_187
          rw [D_X8_readAsks_187]
          refine vIf (fun h_191 => ?_) (fun h_191 => ?_)
          · have i_191 := Int32.le_iff_toInt_le.mp h_191
            (try simp only [Int32.toInt_add, Int32.toInt_sub, Int32.toInt_mul, Int32.toInt_toInt64, Int64.toInt_add, z_m1, Int32.reduceToInt, Int64.reduceToInt, Int32.reduceToNatClampNeg, Int.bmod_def] at i_191)
            refine vI (vp_of (by first | omega | (simp only [Int32.toInt_add, Int32.toInt_sub, Int32.toInt_mul, Int32.toInt_toInt64, Int64.toInt_add, z_m1, Int32.reduceToInt, Int64.reduceToInt, Int32.reduceToNatClampNeg, Int.bmod_def, or_true, true_or, and_true, true_and] <;> omega)) (by first | omega | (simp only [Int32.toInt_add, Int32.toInt_sub, Int32.toInt_mul, Int32.toInt_toInt64, Int64.toInt_add, z_m1, Int32.reduceToInt, Int64.reduceToInt, Int32.reduceToNatClampNeg, Int.bmod_def, or_true, true_or, and_true, true_and] <;> omega))) ?_
            refine vLm (W := WM_X8_readAsks P) (fun a j h => (zu_ne (fun z => wq_X8_readAsks_M2_r h z.1)).trans (k_187 a j h)) (fun M_230 f_230 k_230 => ?_)
            have c15_230 : Int32.toInt (M_230 P 15) = Int32.toInt (M_187 P 15) := congrArg Int32.toInt ((congrFun (congrFun f_230.symm P) 15).trans (zu_ne (fun z => wq_pne0 (by decide) z.1)))
            have c17_230 : Int32.toInt (M_230 P 17) = Int32.toInt (M_187 P 17) := congrArg Int32.toInt ((congrFun (congrFun f_230.symm P) 17).trans (zu_ne (fun z => wq_pne0 (by decide) z.1)))
            have c18_230 : Int32.toInt (M_230 P 18) = Int32.toInt (M_187 P 18) := congrArg Int32.toInt ((congrFun (congrFun f_230.symm P) 18).trans (zu_ne (fun z => wq_pne0 (by decide) z.1)))
            have c20_230 : Int32.toInt (M_230 P 20) = Int32.toInt (M_187 P 20) := congrArg Int32.toInt ((congrFun (congrFun f_230.symm P) 20).trans (zu_ne (fun z => wq_pne0 (by decide) z.1)))
            have c28_230 : Int32.toInt (M_230 P 28) = Int32.toInt (M_187 P 28) := congrArg Int32.toInt ((congrFun (congrFun f_230.symm P) 28).trans (zu_ne (fun z => wq_pne0 (by decide) z.1)))
            have c29_230 : Int32.toInt (M_230 P 29) = Int32.toInt (M_187 P 29) := congrArg Int32.toInt ((congrFun (congrFun f_230.symm P) 29).trans (zu_ne (fun z => wq_pne0 (by decide) z.1)))
            have c30_230 : Int32.toInt (M_230 P 30) = Int32.toInt (M_187 P 30) := congrArg Int32.toInt ((congrFun (congrFun f_230.symm P) 30).trans (zu_ne (fun z => wq_pne0 (by decide) z.1)))
            have c31_230 : Int32.toInt (M_230 P 31) = Int32.toInt (M_187 P 31) := congrArg Int32.toInt ((congrFun (congrFun f_230.symm P) 31).trans (zu_ne (fun z => wq_pne0 (by decide) z.1)))
            have n_230 : nA P M_230 = nA P M_187 := nA_congr (fun a j h => (congrFun (congrFun f_230.symm a) j).trans (zu_ne (fun z => wf_nA_M2_r h z.1)))
            have p_jX_230 : jX P M_230 := jX.mono p_jX_187 (fun a j h => (congrFun (congrFun f_230.symm a) j).trans (zu_ne (fun z => wf_jX_M2_r h z.1)))
            obtain ⟨u0_jX_230, u1_jX_230, u2_jX_230, u3_jX_230⟩ := id p_jX_230
            have p_jY_230 : jY P M_230 := jY.mono p_jY_187 (fun a j h => (congrFun (congrFun f_230.symm a) j).trans (zu_ne (fun z => wf_jY_M2_r h z.1)))
            obtain ⟨u0_jY_230, u1_jY_230, u2_jY_230, u3_jY_230, u4_jY_230, u5_jY_230⟩ := id p_jY_230
            have p_jZ_230 : jZ P M_230 := jZ.put p_jZ_187 (by omega) f_230 (Or.inr (Or.inl ⟨(by have h1 := z_cl (x := x3_187 + x4_187) (by first | omega | (simp only [Int32.toInt_add, Int32.toInt_sub, Int32.toInt_mul, Int32.toInt_toInt64, Int64.toInt_add, z_m1, Int32.reduceToInt, Int64.reduceToInt, Int32.reduceToNatClampNeg, Int.bmod_def, or_true, true_or, and_true, true_and] <;> omega)); have h2 : 20 ≤ Int32.toInt (x3_187 + x4_187) ∧ Int32.toInt (x3_187 + x4_187) < 62 := (by first | omega | (simp only [Int32.toInt_add, Int32.toInt_sub, Int32.toInt_mul, Int32.toInt_toInt64, Int64.toInt_add, z_m1, Int32.reduceToInt, Int64.reduceToInt, Int32.reduceToNatClampNeg, Int.bmod_def, or_true, true_or, and_true, true_and] <;> omega)); omega), (by have h1 := z_cl (x := x3_187 + x4_187) (by first | omega | (simp only [Int32.toInt_add, Int32.toInt_sub, Int32.toInt_mul, Int32.toInt_toInt64, Int64.toInt_add, z_m1, Int32.reduceToInt, Int64.reduceToInt, Int32.reduceToNatClampNeg, Int.bmod_def, or_true, true_or, and_true, true_and] <;> omega)); have h2 : 20 ≤ Int32.toInt (x3_187 + x4_187) ∧ Int32.toInt (x3_187 + x4_187) < 62 := (by first | omega | (simp only [Int32.toInt_add, Int32.toInt_sub, Int32.toInt_mul, Int32.toInt_toInt64, Int64.toInt_add, z_m1, Int32.reduceToInt, Int64.reduceToInt, Int32.reduceToNatClampNeg, Int.bmod_def, or_true, true_or, and_true, true_and] <;> omega)); omega), (by first | omega | (simp only [Int32.toInt_add, Int32.toInt_sub, Int32.toInt_mul, Int32.toInt_toInt64, Int64.toInt_add, z_m1, Int32.reduceToInt, Int64.reduceToInt, Int32.reduceToNatClampNeg, Int.bmod_def, or_true, true_or, and_true, true_and] <;> omega)), (by first | omega | (simp only [Int32.toInt_add, Int32.toInt_sub, Int32.toInt_mul, Int32.toInt_toInt64, Int64.toInt_add, z_m1, Int32.reduceToInt, Int64.reduceToInt, Int32.reduceToNatClampNeg, Int.bmod_def, or_true, true_or, and_true, true_and] <;> omega))⟩))
            refine vB (v_X8_next p_jX_230) (fun e_235 f_235 q_235 => ?_)
            have k_235 : ∀ a j, ¬ WM_X8_readAsks P a j → e_235.2.1 a j = M0 a j := fun a j h => (q_235.1 a j (wz_M_X8_next_X8_readAsks h)).trans (k_230 a j h)
            have kn_235 : ∀ a j, ¬ WN_X8_readAsks P a j → e_235.2.2 a j = N0 a j := fun a j h => (q_235.2.1 a j (wz_N_X8_next_X8_readAsks h)).trans (kn_187 a j h)
            have b_235 := q_235.2.2.1
            have c15_235 : Int32.toInt (e_235.2.1 P 15) = Int32.toInt (M_230 P 15) := congrArg Int32.toInt (q_235.1 P 15 (wc_X8_next_15))
            have c28_235 : Int32.toInt (e_235.2.1 P 28) = Int32.toInt (M_230 P 28) := congrArg Int32.toInt (q_235.1 P 28 (wc_X8_next_28))
            have c29_235 : Int32.toInt (e_235.2.1 P 29) = Int32.toInt (M_230 P 29) := congrArg Int32.toInt (q_235.1 P 29 (wc_X8_next_29))
            have c30_235 : Int32.toInt (e_235.2.1 P 30) = Int32.toInt (M_230 P 30) := congrArg Int32.toInt (q_235.1 P 30 (wc_X8_next_30))
            have c31_235 : Int32.toInt (e_235.2.1 P 31) = Int32.toInt (M_230 P 31) := congrArg Int32.toInt (q_235.1 P 31 (wc_X8_next_31))
            have n_235 : nA P e_235.2.1 = nA P M_230 := nA_congr (fun a j h => q_235.1 a j (wf_nA_X8_next h))
            have p_jY_235 : jY P e_235.2.1 := jY.mono p_jY_230 (fun a j h => q_235.1 a j (wf_jY_X8_next h))
            obtain ⟨u0_jY_235, u1_jY_235, u2_jY_235, u3_jY_235, u4_jY_235, u5_jY_235⟩ := id p_jY_235
            have p_jZ_235 : jZ P e_235.2.1 := jZ.mono p_jZ_230 (fun a j h => q_235.1 a j (wf_jZ_X8_next h))
            obtain ⟨x0_235, x1_235, x2_235, x3_235⟩ := q_235.2.2.2
            obtain ⟨u0_jX_235, u1_jX_235, u2_jX_235, u3_jX_235⟩ := id x0_235
            (try simp only [Int32.toInt_add, Int32.toInt_sub, Int32.toInt_mul, Int32.toInt_toInt64, Int64.toInt_add, z_m1, Int32.reduceToInt, Int64.reduceToInt, Int32.reduceToNatClampNeg, Int.bmod_def] at x1_235)
            (try simp only [Int32.toInt_add, Int32.toInt_sub, Int32.toInt_mul, Int32.toInt_toInt64, Int64.toInt_add, z_m1, Int32.reduceToInt, Int64.reduceToInt, Int32.reduceToNatClampNeg, Int.bmod_def] at x2_235)
            (try simp only [Int32.toInt_add, Int32.toInt_sub, Int32.toInt_mul, Int32.toInt_toInt64, Int64.toInt_add, z_m1, Int32.reduceToInt, Int64.reduceToInt, Int32.reduceToNatClampNeg, Int.bmod_def] at x3_235)
            exact ih_124 _ _ _ _ k_235 kn_235 x0_235 p_jY_235 p_jZ_235 (by first | omega | (simp only [Int32.toInt_add, Int32.toInt_sub, Int32.toInt_mul, Int32.toInt_toInt64, Int64.toInt_add, z_m1, Int32.reduceToInt, Int64.reduceToInt, Int32.reduceToNatClampNeg, Int.bmod_def, or_true, true_or, and_true, true_and] <;> omega)) (by first | omega | (simp only [Int32.toInt_add, Int32.toInt_sub, Int32.toInt_mul, Int32.toInt_toInt64, Int64.toInt_add, z_m1, Int32.reduceToInt, Int64.reduceToInt, Int32.reduceToNatClampNeg, Int.bmod_def, or_true, true_or, and_true, true_and] <;> omega)) (by first | omega | (simp only [Int32.toInt_add, Int32.toInt_sub, Int32.toInt_mul, Int32.toInt_toInt64, Int64.toInt_add, z_m1, Int32.reduceToInt, Int64.reduceToInt, Int32.reduceToNatClampNeg, Int.bmod_def, or_true, true_or, and_true, true_and] <;> omega)) (by first | omega | (simp only [Int32.toInt_add, Int32.toInt_sub, Int32.toInt_mul, Int32.toInt_toInt64, Int64.toInt_add, z_m1, Int32.reduceToInt, Int64.reduceToInt, Int32.reduceToNatClampNeg, Int.bmod_def, or_true, true_or, and_true, true_and] <;> omega)) (by first | omega | (simp only [Int32.toInt_add, Int32.toInt_sub, Int32.toInt_mul, Int32.toInt_toInt64, Int64.toInt_add, z_m1, Int32.reduceToInt, Int64.reduceToInt, Int32.reduceToNatClampNeg, Int.bmod_def, or_true, true_or, and_true, true_and] <;> omega))
          · have i_191 := Int32.lt_iff_toInt_lt.mp (Int32.not_le.mp h_191)
            (try simp only [Int32.toInt_add, Int32.toInt_sub, Int32.toInt_mul, Int32.toInt_toInt64, Int64.toInt_add, z_m1, Int32.reduceToInt, Int64.reduceToInt, Int32.reduceToNatClampNeg, Int.bmod_def] at i_191)
            refine vI (vp_of (by first | omega | (simp only [Int32.toInt_add, Int32.toInt_sub, Int32.toInt_mul, Int32.toInt_toInt64, Int64.toInt_add, z_m1, Int32.reduceToInt, Int64.reduceToInt, Int32.reduceToNatClampNeg, Int.bmod_def, or_true, true_or, and_true, true_and] <;> omega)) (by first | omega | (simp only [Int32.toInt_add, Int32.toInt_sub, Int32.toInt_mul, Int32.toInt_toInt64, Int64.toInt_add, z_m1, Int32.reduceToInt, Int64.reduceToInt, Int32.reduceToNatClampNeg, Int.bmod_def, or_true, true_or, and_true, true_and] <;> omega))) ?_
            refine vIf (fun h_205 => ?_) (fun h_205 => ?_)
            · have i_205 := congrArg Int32.toInt h_205
              (try simp only [Int32.toInt_add, Int32.toInt_sub, Int32.toInt_mul, Int32.toInt_toInt64, Int64.toInt_add, z_m1, Int32.reduceToInt, Int64.reduceToInt, Int32.reduceToNatClampNeg, Int.bmod_def] at i_205)
              refine vB (v_X8_bad) (fun e_210 f_210 q_210 => ?_)
              have k_210 : ∀ a j, ¬ WM_X8_readAsks P a j → e_210.2 a j = M0 a j := fun a j h => (q_210.1 a j (wz_M_X8_bad_X8_readAsks h)).trans (k_187 a j h)
              have b_210 := q_210.2.1
              have c15_210 : Int32.toInt (e_210.2 P 15) = Int32.toInt (M_187 P 15) := congrArg Int32.toInt (q_210.1 P 15 (wc_X8_bad_15))
              have c17_210 : Int32.toInt (e_210.2 P 17) = Int32.toInt (M_187 P 17) := congrArg Int32.toInt (q_210.1 P 17 (wc_X8_bad_17))
              have c18_210 : Int32.toInt (e_210.2 P 18) = Int32.toInt (M_187 P 18) := congrArg Int32.toInt (q_210.1 P 18 (wc_X8_bad_18))
              have c20_210 : Int32.toInt (e_210.2 P 20) = Int32.toInt (M_187 P 20) := congrArg Int32.toInt (q_210.1 P 20 (wc_X8_bad_20))
              have c28_210 : Int32.toInt (e_210.2 P 28) = Int32.toInt (M_187 P 28) := congrArg Int32.toInt (q_210.1 P 28 (wc_X8_bad_28))
              have c29_210 : Int32.toInt (e_210.2 P 29) = Int32.toInt (M_187 P 29) := congrArg Int32.toInt (q_210.1 P 29 (wc_X8_bad_29))
              have c30_210 : Int32.toInt (e_210.2 P 30) = Int32.toInt (M_187 P 30) := congrArg Int32.toInt (q_210.1 P 30 (wc_X8_bad_30))
              have c31_210 : Int32.toInt (e_210.2 P 31) = Int32.toInt (M_187 P 31) := congrArg Int32.toInt (q_210.1 P 31 (wc_X8_bad_31))
              have n_210 : nA P e_210.2 = nA P M_187 := nA_congr (fun a j h => q_210.1 a j (wf_nA_X8_bad h))
              have p_jX_210 : jX P e_210.2 := jX.mono p_jX_187 (fun a j h => q_210.1 a j (wf_jX_X8_bad h))
              obtain ⟨u0_jX_210, u1_jX_210, u2_jX_210, u3_jX_210⟩ := id p_jX_210
              have p_jY_210 : jY P e_210.2 := jY.mono p_jY_187 (fun a j h => q_210.1 a j (wf_jY_X8_bad h))
              obtain ⟨u0_jY_210, u1_jY_210, u2_jY_210, u3_jY_210, u4_jY_210, u5_jY_210⟩ := id p_jY_210
              have p_jZ_210 : jZ P e_210.2 := jZ.mono p_jZ_187 (fun a j h => q_210.1 a j (wf_jZ_X8_bad h))
              have x0_210 := q_210.2.2
              (try simp only [Int32.toInt_add, Int32.toInt_sub, Int32.toInt_mul, Int32.toInt_toInt64, Int64.toInt_add, z_m1, Int32.reduceToInt, Int64.reduceToInt, Int32.reduceToNatClampNeg, Int.bmod_def] at x0_210)
              exact ⟨_, rfl, k_210, kn_187, (by first | exact Or.inl rfl | exact Or.inr rfl | assumption), ⟨p_jX_210, p_jY_210, p_jZ_210, (by first | omega | (simp only [Int32.toInt_add, Int32.toInt_sub, Int32.toInt_mul, Int32.toInt_toInt64, Int64.toInt_add, z_m1, Int32.reduceToInt, Int64.reduceToInt, Int32.reduceToNatClampNeg, Int.bmod_def, or_true, true_or, and_true, true_and] <;> omega))⟩⟩
            · have i_205 : ¬ Int32.toInt (M_187 (P + 2) (x3_187 + x6_187).toNatClampNeg) = Int32.toInt x5_187 := fun q => h_205 (Int32.toInt_inj.mp q)
              (try simp only [Int32.toInt_add, Int32.toInt_sub, Int32.toInt_mul, Int32.toInt_toInt64, Int64.toInt_add, z_m1, Int32.reduceToInt, Int64.reduceToInt, Int32.reduceToNatClampNeg, Int.bmod_def] at i_205)
              exact ih_187 _ _ _ _ _ _ k_187 kn_187 p_jX_187 p_jY_187 p_jZ_187 (by first | omega | (simp only [Int32.toInt_add, Int32.toInt_sub, Int32.toInt_mul, Int32.toInt_toInt64, Int64.toInt_add, z_m1, Int32.reduceToInt, Int64.reduceToInt, Int32.reduceToNatClampNeg, Int.bmod_def, or_true, true_or, and_true, true_and] <;> omega)) (by first | omega | (simp only [Int32.toInt_add, Int32.toInt_sub, Int32.toInt_mul, Int32.toInt_toInt64, Int64.toInt_add, z_m1, Int32.reduceToInt, Int64.reduceToInt, Int32.reduceToNatClampNeg, Int.bmod_def, or_true, true_or, and_true, true_and] <;> omega)) (by first | omega | (simp only [Int32.toInt_add, Int32.toInt_sub, Int32.toInt_mul, Int32.toInt_toInt64, Int64.toInt_add, z_m1, Int32.reduceToInt, Int64.reduceToInt, Int32.reduceToNatClampNeg, Int.bmod_def, or_true, true_or, and_true, true_and] <;> omega)) (by first | omega | (simp only [Int32.toInt_add, Int32.toInt_sub, Int32.toInt_mul, Int32.toInt_toInt64, Int64.toInt_add, z_m1, Int32.reduceToInt, Int64.reduceToInt, Int32.reduceToNatClampNeg, Int.bmod_def, or_true, true_or, and_true, true_and] <;> omega)) (by first | omega | (simp only [Int32.toInt_add, Int32.toInt_sub, Int32.toInt_mul, Int32.toInt_toInt64, Int64.toInt_add, z_m1, Int32.reduceToInt, Int64.reduceToInt, Int32.reduceToNatClampNeg, Int.bmod_def, or_true, true_or, and_true, true_and] <;> omega)) (by first | omega | (simp only [Int32.toInt_add, Int32.toInt_sub, Int32.toInt_mul, Int32.toInt_toInt64, Int64.toInt_add, z_m1, Int32.reduceToInt, Int64.reduceToInt, Int32.reduceToNatClampNeg, Int.bmod_def, or_true, true_or, and_true, true_and] <;> omega)) (by first | omega | (simp only [Int32.toInt_add, Int32.toInt_sub, Int32.toInt_mul, Int32.toInt_toInt64, Int64.toInt_add, z_m1, Int32.reduceToInt, Int64.reduceToInt, Int32.reduceToNatClampNeg, Int.bmod_def, or_true, true_or, and_true, true_and] <;> omega)) (by first | omega | (simp only [Int32.toInt_add, Int32.toInt_sub, Int32.toInt_mul, Int32.toInt_toInt64, Int64.toInt_add, z_m1, Int32.reduceToInt, Int64.reduceToInt, Int32.reduceToNatClampNeg, Int.bmod_def, or_true, true_or, and_true, true_and] <;> omega)) (z_up1 (by first | assumption | exact z_lt (by assumption) | exact z_lt2 (by assumption) | exact z_lt3 (by assumption) (by first | assumption | decide)) hm_187)
      have T_187 : ∀ (x3_187 : Int32) (x4_187 : Int32) (x5_187 : Int32) (x6_187 : Int32) (M_187 : zMt) (N_187 : zNt), (∀ a j, ¬ WM_X8_readAsks P a j → M_187 a j = M0 a j) → (∀ a j, ¬ WN_X8_readAsks P a j → N_187 a j = N0 a j) → (jX P M_187) → (jY P M_187) → (jZ P M_187) → (0 ≤ Int32.toInt x4_187) → (0 ≤ Int32.toInt x6_187) → (Int32.toInt (M0 P 17) ≤ Int32.toInt (M_187 P 17)) → (20 ≤ Int32.toInt x3_187 ∧ Int32.toInt x3_187 ≤ 59) → (0 ≤ Int32.toInt x4_187 ∧ Int32.toInt x4_187 ≤ 2) → (0 ≤ Int32.toInt x5_187 ∧ Int32.toInt x5_187 < Int32.toInt (M_187 P 28)) → (0 ≤ Int32.toInt x6_187 ∧ Int32.toInt x6_187 ≤ Int32.toInt x4_187) → ((3 - Int32.toInt x4_187).toNat < u_124 + 1) → ∃ r, D_X8_readAsks_187 P (D_X8_readAsks_124 P u_124) zFu x3_187 x4_187 x5_187 x6_187 M_187 N_187 = some r ∧ ((∀ a j, ¬ WM_X8_readAsks P a j → r.2.1 a j = M0 a j) ∧ (∀ a j, ¬ WN_X8_readAsks P a j → r.2.2 a j = N0 a j) ∧ (r.1 = 0 ∨ r.1 = 1) ∧ ((jX P r.2.1) ∧ (jY P r.2.1) ∧ (jZ P r.2.1) ∧ (Int32.toInt (M0 P 17) ≤ Int32.toInt (r.2.1 P 17)))) := fun x3_187 x4_187 x5_187 x6_187 M_187 N_187 k_187 kn_187 p_jX_187 p_jY_187 p_jZ_187 f0_187 f1_187 f2_187 f3_187 f4_187 f5_187 f6_187 f7_187 => TL_187 zFu x3_187 x4_187 x5_187 x6_187 M_187 N_187 k_187 kn_187 p_jX_187 p_jY_187 p_jZ_187 f0_187 f1_187 f2_187 f3_187 f4_187 f5_187 f6_187 f7_187 (zFu_up _)
      have T_136 : ∀ (x3_136 : Int32) (x4_136 : Int32) (M_136 : zMt) (N_136 : zNt), (∀ a j, ¬ WM_X8_readAsks P a j → M_136 a j = M0 a j) → (∀ a j, ¬ WN_X8_readAsks P a j → N_136 a j = N0 a j) → (jX P M_136) → (jY P M_136) → (jZ P M_136) → (0 ≤ Int32.toInt x4_136) → (Int32.toInt (M0 P 17) ≤ Int32.toInt (M_136 P 17)) → (20 ≤ Int32.toInt x3_136 ∧ Int32.toInt x3_136 ≤ 59) → (0 ≤ Int32.toInt x4_136 ∧ Int32.toInt x4_136 ≤ 3) → ((3 - Int32.toInt x4_136).toNat < u_124 + 1) → ∃ r, D_X8_readAsks_136 P (D_X8_readAsks_124 P u_124) x3_136 x4_136 M_136 N_136 = some r ∧ ((∀ a j, ¬ WM_X8_readAsks P a j → r.2.1 a j = M0 a j) ∧ (∀ a j, ¬ WN_X8_readAsks P a j → r.2.2 a j = N0 a j) ∧ (r.1 = 0 ∨ r.1 = 1) ∧ ((jX P r.2.1) ∧ (jY P r.2.1) ∧ (jZ P r.2.1) ∧ (Int32.toInt (M0 P 17) ≤ Int32.toInt (r.2.1 P 17)))) := by
        intro x3_136 x4_136 M_136 N_136 k_136 kn_136 p_jX_136 p_jY_136 p_jZ_136 f0_136 f1_136 f2_136 f3_136 f4_136
        obtain ⟨u0_jX_136, u1_jX_136, u2_jX_136, u3_jX_136⟩ := id p_jX_136
        obtain ⟨u0_jY_136, u1_jY_136, u2_jY_136, u3_jY_136, u4_jY_136, u5_jY_136⟩ := id p_jY_136
        unfold D_X8_readAsks_136
        refine vB (v_X8_isName) (fun e_137 f_137 q_137 => ?_)
        have b_137 := q_137
        refine vIf (fun h_140 => ?_) (fun h_140 => ?_)
        · have i_140 := congrArg Int32.toInt h_140
          (try simp only [Int32.toInt_add, Int32.toInt_sub, Int32.toInt_mul, Int32.toInt_toInt64, Int64.toInt_add, z_m1, Int32.reduceToInt, Int64.reduceToInt, Int32.reduceToNatClampNeg, Int.bmod_def] at i_140)
          exact T_149 _ _ k_136 kn_136 p_jX_136 p_jY_136 p_jZ_136 (by first | omega | (simp only [Int32.toInt_add, Int32.toInt_sub, Int32.toInt_mul, Int32.toInt_toInt64, Int64.toInt_add, z_m1, Int32.reduceToInt, Int64.reduceToInt, Int32.reduceToNatClampNeg, Int.bmod_def, or_true, true_or, and_true, true_and] <;> omega))
        · have i_140 : ¬ Int32.toInt e_137 = Int32.toInt (0 : Int32) := fun q => h_140 (Int32.toInt_inj.mp q)
          (try simp only [Int32.toInt_add, Int32.toInt_sub, Int32.toInt_mul, Int32.toInt_toInt64, Int64.toInt_add, z_m1, Int32.reduceToInt, Int64.reduceToInt, Int32.reduceToNatClampNeg, Int.bmod_def] at i_140)
          refine vIf (fun h_146 => ?_) (fun h_146 => ?_)
          · have i_146 := congrArg Int32.toInt h_146
            (try simp only [Int32.toInt_add, Int32.toInt_sub, Int32.toInt_mul, Int32.toInt_toInt64, Int64.toInt_add, z_m1, Int32.reduceToInt, Int64.reduceToInt, Int32.reduceToNatClampNeg, Int.bmod_def] at i_146)
            exact T_149 _ _ k_136 kn_136 p_jX_136 p_jY_136 p_jZ_136 (by first | omega | (simp only [Int32.toInt_add, Int32.toInt_sub, Int32.toInt_mul, Int32.toInt_toInt64, Int64.toInt_add, z_m1, Int32.reduceToInt, Int64.reduceToInt, Int32.reduceToNatClampNeg, Int.bmod_def, or_true, true_or, and_true, true_and] <;> omega))
          · have i_146 : ¬ Int32.toInt x4_136 = Int32.toInt (3 : Int32) := fun q => h_146 (Int32.toInt_inj.mp q)
            (try simp only [Int32.toInt_add, Int32.toInt_sub, Int32.toInt_mul, Int32.toInt_toInt64, Int64.toInt_add, z_m1, Int32.reduceToInt, Int64.reduceToInt, Int32.reduceToNatClampNeg, Int.bmod_def] at i_146)
            refine vB (v_X8_found (by first | omega | (simp only [Int32.toInt_add, Int32.toInt_sub, Int32.toInt_mul, Int32.toInt_toInt64, Int64.toInt_add, z_m1, Int32.reduceToInt, Int64.reduceToInt, Int32.reduceToNatClampNeg, Int.bmod_def, or_true, true_or, and_true, true_and] <;> omega)) (by first | omega | (simp only [Int32.toInt_add, Int32.toInt_sub, Int32.toInt_mul, Int32.toInt_toInt64, Int64.toInt_add, z_m1, Int32.reduceToInt, Int64.reduceToInt, Int32.reduceToNatClampNeg, Int.bmod_def, or_true, true_or, and_true, true_and] <;> omega))) (fun e_167 f_167 q_167 => ?_)
            obtain ⟨x0_167, x1_167⟩ := q_167
            (try simp only [Int32.toInt_add, Int32.toInt_sub, Int32.toInt_mul, Int32.toInt_toInt64, Int64.toInt_add, z_m1, Int32.reduceToInt, Int64.reduceToInt, Int32.reduceToNatClampNeg, Int.bmod_def] at x0_167)
            (try simp only [Int32.toInt_add, Int32.toInt_sub, Int32.toInt_mul, Int32.toInt_toInt64, Int64.toInt_add, z_m1, Int32.reduceToInt, Int64.reduceToInt, Int32.reduceToNatClampNeg, Int.bmod_def] at x1_167)
            refine vIf (fun h_175 => ?_) (fun h_175 => ?_)
            · have i_175 := congrArg Int32.toInt h_175
              (try simp only [Int32.toInt_add, Int32.toInt_sub, Int32.toInt_mul, Int32.toInt_toInt64, Int64.toInt_add, z_m1, Int32.reduceToInt, Int64.reduceToInt, Int32.reduceToNatClampNeg, Int.bmod_def] at i_175)
              refine vB (v_X8_bad) (fun e_180 f_180 q_180 => ?_)
              have k_180 : ∀ a j, ¬ WM_X8_readAsks P a j → e_180.2 a j = M0 a j := fun a j h => (q_180.1 a j (wz_M_X8_bad_X8_readAsks h)).trans (k_136 a j h)
              have b_180 := q_180.2.1
              have c15_180 : Int32.toInt (e_180.2 P 15) = Int32.toInt (M_136 P 15) := congrArg Int32.toInt (q_180.1 P 15 (wc_X8_bad_15))
              have c17_180 : Int32.toInt (e_180.2 P 17) = Int32.toInt (M_136 P 17) := congrArg Int32.toInt (q_180.1 P 17 (wc_X8_bad_17))
              have c18_180 : Int32.toInt (e_180.2 P 18) = Int32.toInt (M_136 P 18) := congrArg Int32.toInt (q_180.1 P 18 (wc_X8_bad_18))
              have c20_180 : Int32.toInt (e_180.2 P 20) = Int32.toInt (M_136 P 20) := congrArg Int32.toInt (q_180.1 P 20 (wc_X8_bad_20))
              have c28_180 : Int32.toInt (e_180.2 P 28) = Int32.toInt (M_136 P 28) := congrArg Int32.toInt (q_180.1 P 28 (wc_X8_bad_28))
              have c29_180 : Int32.toInt (e_180.2 P 29) = Int32.toInt (M_136 P 29) := congrArg Int32.toInt (q_180.1 P 29 (wc_X8_bad_29))
              have c30_180 : Int32.toInt (e_180.2 P 30) = Int32.toInt (M_136 P 30) := congrArg Int32.toInt (q_180.1 P 30 (wc_X8_bad_30))
              have c31_180 : Int32.toInt (e_180.2 P 31) = Int32.toInt (M_136 P 31) := congrArg Int32.toInt (q_180.1 P 31 (wc_X8_bad_31))
              have n_180 : nA P e_180.2 = nA P M_136 := nA_congr (fun a j h => q_180.1 a j (wf_nA_X8_bad h))
              have p_jX_180 : jX P e_180.2 := jX.mono p_jX_136 (fun a j h => q_180.1 a j (wf_jX_X8_bad h))
              obtain ⟨u0_jX_180, u1_jX_180, u2_jX_180, u3_jX_180⟩ := id p_jX_180
              have p_jY_180 : jY P e_180.2 := jY.mono p_jY_136 (fun a j h => q_180.1 a j (wf_jY_X8_bad h))
              obtain ⟨u0_jY_180, u1_jY_180, u2_jY_180, u3_jY_180, u4_jY_180, u5_jY_180⟩ := id p_jY_180
              have p_jZ_180 : jZ P e_180.2 := jZ.mono p_jZ_136 (fun a j h => q_180.1 a j (wf_jZ_X8_bad h))
              have x0_180 := q_180.2.2
              (try simp only [Int32.toInt_add, Int32.toInt_sub, Int32.toInt_mul, Int32.toInt_toInt64, Int64.toInt_add, z_m1, Int32.reduceToInt, Int64.reduceToInt, Int32.reduceToNatClampNeg, Int.bmod_def] at x0_180)
              exact ⟨_, rfl, k_180, kn_136, (by first | exact Or.inl rfl | exact Or.inr rfl | assumption), ⟨p_jX_180, p_jY_180, p_jZ_180, (by first | omega | (simp only [Int32.toInt_add, Int32.toInt_sub, Int32.toInt_mul, Int32.toInt_toInt64, Int64.toInt_add, z_m1, Int32.reduceToInt, Int64.reduceToInt, Int32.reduceToNatClampNeg, Int.bmod_def, or_true, true_or, and_true, true_and] <;> omega))⟩⟩
            · have i_175 : ¬ Int32.toInt e_167 = Int32.toInt (-1 : Int32) := fun q => h_175 (Int32.toInt_inj.mp q)
              (try simp only [Int32.toInt_add, Int32.toInt_sub, Int32.toInt_mul, Int32.toInt_toInt64, Int64.toInt_add, z_m1, Int32.reduceToInt, Int64.reduceToInt, Int32.reduceToNatClampNeg, Int.bmod_def] at i_175)
              exact T_187 _ _ _ _ _ _ k_136 kn_136 p_jX_136 p_jY_136 p_jZ_136 (by first | omega | (simp only [Int32.toInt_add, Int32.toInt_sub, Int32.toInt_mul, Int32.toInt_toInt64, Int64.toInt_add, z_m1, Int32.reduceToInt, Int64.reduceToInt, Int32.reduceToNatClampNeg, Int.bmod_def, or_true, true_or, and_true, true_and] <;> omega)) (by first | omega | (simp only [Int32.toInt_add, Int32.toInt_sub, Int32.toInt_mul, Int32.toInt_toInt64, Int64.toInt_add, z_m1, Int32.reduceToInt, Int64.reduceToInt, Int32.reduceToNatClampNeg, Int.bmod_def, or_true, true_or, and_true, true_and] <;> omega)) (by first | omega | (simp only [Int32.toInt_add, Int32.toInt_sub, Int32.toInt_mul, Int32.toInt_toInt64, Int64.toInt_add, z_m1, Int32.reduceToInt, Int64.reduceToInt, Int32.reduceToNatClampNeg, Int.bmod_def, or_true, true_or, and_true, true_and] <;> omega)) (by first | omega | (simp only [Int32.toInt_add, Int32.toInt_sub, Int32.toInt_mul, Int32.toInt_toInt64, Int64.toInt_add, z_m1, Int32.reduceToInt, Int64.reduceToInt, Int32.reduceToNatClampNeg, Int.bmod_def, or_true, true_or, and_true, true_and] <;> omega)) (by first | omega | (simp only [Int32.toInt_add, Int32.toInt_sub, Int32.toInt_mul, Int32.toInt_toInt64, Int64.toInt_add, z_m1, Int32.reduceToInt, Int64.reduceToInt, Int32.reduceToNatClampNeg, Int.bmod_def, or_true, true_or, and_true, true_and] <;> omega)) (by first | omega | (simp only [Int32.toInt_add, Int32.toInt_sub, Int32.toInt_mul, Int32.toInt_toInt64, Int64.toInt_add, z_m1, Int32.reduceToInt, Int64.reduceToInt, Int32.reduceToNatClampNeg, Int.bmod_def, or_true, true_or, and_true, true_and] <;> omega)) (by first | omega | (simp only [Int32.toInt_add, Int32.toInt_sub, Int32.toInt_mul, Int32.toInt_toInt64, Int64.toInt_add, z_m1, Int32.reduceToInt, Int64.reduceToInt, Int32.reduceToNatClampNeg, Int.bmod_def, or_true, true_or, and_true, true_and] <;> omega)) (by first | omega | (simp only [Int32.toInt_add, Int32.toInt_sub, Int32.toInt_mul, Int32.toInt_toInt64, Int64.toInt_add, z_m1, Int32.reduceToInt, Int64.reduceToInt, Int32.reduceToNatClampNeg, Int.bmod_def, or_true, true_or, and_true, true_and] <;> omega))
      intro x3_124 x4_124 M_124 N_124 k_124 kn_124 p_jX_124 p_jY_124 p_jZ_124 f0_124 f1_124 f2_124 f3_124 hm_124
      obtain ⟨u0_jX_124, u1_jX_124, u2_jX_124, u3_jX_124⟩ := id p_jX_124
      obtain ⟨u0_jY_124, u1_jY_124, u2_jY_124, u3_jY_124, u4_jY_124, u5_jY_124⟩ := id p_jY_124
      rw [D_X8_readAsks_124]
      refine vIf (fun h_126 => ?_) (fun h_126 => ?_)
      · have i_126 := congrArg Int32.toInt h_126
        (try simp only [Int32.toInt_add, Int32.toInt_sub, Int32.toInt_mul, Int32.toInt_toInt64, Int64.toInt_add, z_m1, Int32.reduceToInt, Int64.reduceToInt, Int32.reduceToNatClampNeg, Int.bmod_def] at i_126)
        exact T_136 _ _ _ _ k_124 kn_124 p_jX_124 p_jY_124 p_jZ_124 (by first | omega | (simp only [Int32.toInt_add, Int32.toInt_sub, Int32.toInt_mul, Int32.toInt_toInt64, Int64.toInt_add, z_m1, Int32.reduceToInt, Int64.reduceToInt, Int32.reduceToNatClampNeg, Int.bmod_def, or_true, true_or, and_true, true_and] <;> omega)) (by first | omega | (simp only [Int32.toInt_add, Int32.toInt_sub, Int32.toInt_mul, Int32.toInt_toInt64, Int64.toInt_add, z_m1, Int32.reduceToInt, Int64.reduceToInt, Int32.reduceToNatClampNeg, Int.bmod_def, or_true, true_or, and_true, true_and] <;> omega)) (by first | omega | (simp only [Int32.toInt_add, Int32.toInt_sub, Int32.toInt_mul, Int32.toInt_toInt64, Int64.toInt_add, z_m1, Int32.reduceToInt, Int64.reduceToInt, Int32.reduceToNatClampNeg, Int.bmod_def, or_true, true_or, and_true, true_and] <;> omega)) (by first | omega | (simp only [Int32.toInt_add, Int32.toInt_sub, Int32.toInt_mul, Int32.toInt_toInt64, Int64.toInt_add, z_m1, Int32.reduceToInt, Int64.reduceToInt, Int32.reduceToNatClampNeg, Int.bmod_def, or_true, true_or, and_true, true_and] <;> omega)) (by first | omega | (simp only [Int32.toInt_add, Int32.toInt_sub, Int32.toInt_mul, Int32.toInt_toInt64, Int64.toInt_add, z_m1, Int32.reduceToInt, Int64.reduceToInt, Int32.reduceToNatClampNeg, Int.bmod_def, or_true, true_or, and_true, true_and] <;> omega))
      · have i_126 : ¬ Int32.toInt x4_124 = Int32.toInt (0 : Int32) := fun q => h_126 (Int32.toInt_inj.mp q)
        (try simp only [Int32.toInt_add, Int32.toInt_sub, Int32.toInt_mul, Int32.toInt_toInt64, Int64.toInt_add, z_m1, Int32.reduceToInt, Int64.reduceToInt, Int32.reduceToNatClampNeg, Int.bmod_def] at i_126)
        refine vB (v_X8_isName) (fun e_130 f_130 q_130 => ?_)
        have b_130 := q_130
        refine vIf (fun h_133 => ?_) (fun h_133 => ?_)
        · have i_133 := congrArg Int32.toInt h_133
          (try simp only [Int32.toInt_add, Int32.toInt_sub, Int32.toInt_mul, Int32.toInt_toInt64, Int64.toInt_add, z_m1, Int32.reduceToInt, Int64.reduceToInt, Int32.reduceToNatClampNeg, Int.bmod_def] at i_133)
          exact ⟨_, rfl, k_124, kn_124, (by first | exact Or.inl rfl | exact Or.inr rfl | assumption), ⟨p_jX_124, p_jY_124, p_jZ_124, (by first | omega | (simp only [Int32.toInt_add, Int32.toInt_sub, Int32.toInt_mul, Int32.toInt_toInt64, Int64.toInt_add, z_m1, Int32.reduceToInt, Int64.reduceToInt, Int32.reduceToNatClampNeg, Int.bmod_def, or_true, true_or, and_true, true_and] <;> omega))⟩⟩
        · have i_133 : ¬ Int32.toInt e_130 = Int32.toInt (0 : Int32) := fun q => h_133 (Int32.toInt_inj.mp q)
          (try simp only [Int32.toInt_add, Int32.toInt_sub, Int32.toInt_mul, Int32.toInt_toInt64, Int64.toInt_add, z_m1, Int32.reduceToInt, Int64.reduceToInt, Int32.reduceToNatClampNeg, Int.bmod_def] at i_133)
          exact T_136 _ _ _ _ k_124 kn_124 p_jX_124 p_jY_124 p_jZ_124 (by first | omega | (simp only [Int32.toInt_add, Int32.toInt_sub, Int32.toInt_mul, Int32.toInt_toInt64, Int64.toInt_add, z_m1, Int32.reduceToInt, Int64.reduceToInt, Int32.reduceToNatClampNeg, Int.bmod_def, or_true, true_or, and_true, true_and] <;> omega)) (by first | omega | (simp only [Int32.toInt_add, Int32.toInt_sub, Int32.toInt_mul, Int32.toInt_toInt64, Int64.toInt_add, z_m1, Int32.reduceToInt, Int64.reduceToInt, Int32.reduceToNatClampNeg, Int.bmod_def, or_true, true_or, and_true, true_and] <;> omega)) (by first | omega | (simp only [Int32.toInt_add, Int32.toInt_sub, Int32.toInt_mul, Int32.toInt_toInt64, Int64.toInt_add, z_m1, Int32.reduceToInt, Int64.reduceToInt, Int32.reduceToNatClampNeg, Int.bmod_def, or_true, true_or, and_true, true_and] <;> omega)) (by first | omega | (simp only [Int32.toInt_add, Int32.toInt_sub, Int32.toInt_mul, Int32.toInt_toInt64, Int64.toInt_add, z_m1, Int32.reduceToInt, Int64.reduceToInt, Int32.reduceToNatClampNeg, Int.bmod_def, or_true, true_or, and_true, true_and] <;> omega)) (by first | omega | (simp only [Int32.toInt_add, Int32.toInt_sub, Int32.toInt_mul, Int32.toInt_toInt64, Int64.toInt_add, z_m1, Int32.reduceToInt, Int64.reduceToInt, Int32.reduceToNatClampNeg, Int.bmod_def, or_true, true_or, and_true, true_and] <;> omega))
  have T_124 : ∀ (x3_124 : Int32) (x4_124 : Int32) (M_124 : zMt) (N_124 : zNt), (∀ a j, ¬ WM_X8_readAsks P a j → M_124 a j = M0 a j) → (∀ a j, ¬ WN_X8_readAsks P a j → N_124 a j = N0 a j) → (jX P M_124) → (jY P M_124) → (jZ P M_124) → (0 ≤ Int32.toInt x4_124) → (Int32.toInt (M0 P 17) ≤ Int32.toInt (M_124 P 17)) → (20 ≤ Int32.toInt x3_124 ∧ Int32.toInt x3_124 ≤ 59) → (0 ≤ Int32.toInt x4_124 ∧ Int32.toInt x4_124 ≤ 3) → ∃ r, D_X8_readAsks_124 P zFu x3_124 x4_124 M_124 N_124 = some r ∧ ((∀ a j, ¬ WM_X8_readAsks P a j → r.2.1 a j = M0 a j) ∧ (∀ a j, ¬ WN_X8_readAsks P a j → r.2.2 a j = N0 a j) ∧ (r.1 = 0 ∨ r.1 = 1) ∧ ((jX P r.2.1) ∧ (jY P r.2.1) ∧ (jZ P r.2.1) ∧ (Int32.toInt (M0 P 17) ≤ Int32.toInt (r.2.1 P 17)))) := fun x3_124 x4_124 M_124 N_124 k_124 kn_124 p_jX_124 p_jY_124 p_jZ_124 f0_124 f1_124 f2_124 f3_124 => TL_124 zFu x3_124 x4_124 M_124 N_124 k_124 kn_124 p_jX_124 p_jY_124 p_jZ_124 f0_124 f1_124 f2_124 f3_124 (by unfold zFu; omega)
  have T_99 : ∀ (y0_99 : Int32) (M_99 : zMt) (N_99 : zNt), (∀ a j, ¬ WM_X8_readAsks P a j → M_99 a j = M0 a j) → (∀ a j, ¬ WN_X8_readAsks P a j → N_99 a j = N0 a j) → (jX P M_99) → (jY P M_99) → (jZ P M_99) → (Int32.toInt (M0 P 17) ≤ Int32.toInt (M_99 P 17)) → (20 ≤ Int32.toInt y0_99 ∧ Int32.toInt y0_99 ≤ 59) → ∃ r, D_X8_readAsks_99 P y0_99 M_99 N_99 = some r ∧ ((∀ a j, ¬ WM_X8_readAsks P a j → r.2.1 a j = M0 a j) ∧ (∀ a j, ¬ WN_X8_readAsks P a j → r.2.2 a j = N0 a j) ∧ (r.1 = 0 ∨ r.1 = 1) ∧ ((jX P r.2.1) ∧ (jY P r.2.1) ∧ (jZ P r.2.1) ∧ (Int32.toInt (M0 P 17) ≤ Int32.toInt (r.2.1 P 17)))) := by
    intro y0_99 M_99 N_99 k_99 kn_99 p_jX_99 p_jY_99 p_jZ_99 f0_99 f1_99
    obtain ⟨u0_jX_99, u1_jX_99, u2_jX_99, u3_jX_99⟩ := id p_jX_99
    obtain ⟨u0_jY_99, u1_jY_99, u2_jY_99, u3_jY_99, u4_jY_99, u5_jY_99⟩ := id p_jY_99
    unfold D_X8_readAsks_99
    refine vI (vp_of (by first | omega | (simp only [Int32.toInt_add, Int32.toInt_sub, Int32.toInt_mul, Int32.toInt_toInt64, Int64.toInt_add, z_m1, Int32.reduceToInt, Int64.reduceToInt, Int32.reduceToNatClampNeg, Int.bmod_def, or_true, true_or, and_true, true_and] <;> omega)) (by first | omega | (simp only [Int32.toInt_add, Int32.toInt_sub, Int32.toInt_mul, Int32.toInt_toInt64, Int64.toInt_add, z_m1, Int32.reduceToInt, Int64.reduceToInt, Int32.reduceToNatClampNeg, Int.bmod_def, or_true, true_or, and_true, true_and] <;> omega))) ?_
    refine vIf (fun h_107 => ?_) (fun h_107 => ?_)
    · have i_107 := congrArg Int32.toInt h_107
      (try simp only [Int32.toInt_add, Int32.toInt_sub, Int32.toInt_mul, Int32.toInt_toInt64, Int64.toInt_add, z_m1, Int32.reduceToInt, Int64.reduceToInt, Int32.reduceToNatClampNeg, Int.bmod_def] at i_107)
      refine vB (v_X8_next p_jX_99) (fun e_117 f_117 q_117 => ?_)
      have k_117 : ∀ a j, ¬ WM_X8_readAsks P a j → e_117.2.1 a j = M0 a j := fun a j h => (q_117.1 a j (wz_M_X8_next_X8_readAsks h)).trans (k_99 a j h)
      have kn_117 : ∀ a j, ¬ WN_X8_readAsks P a j → e_117.2.2 a j = N0 a j := fun a j h => (q_117.2.1 a j (wz_N_X8_next_X8_readAsks h)).trans (kn_99 a j h)
      have b_117 := q_117.2.2.1
      have c15_117 : Int32.toInt (e_117.2.1 P 15) = Int32.toInt (M_99 P 15) := congrArg Int32.toInt (q_117.1 P 15 (wc_X8_next_15))
      have c28_117 : Int32.toInt (e_117.2.1 P 28) = Int32.toInt (M_99 P 28) := congrArg Int32.toInt (q_117.1 P 28 (wc_X8_next_28))
      have c29_117 : Int32.toInt (e_117.2.1 P 29) = Int32.toInt (M_99 P 29) := congrArg Int32.toInt (q_117.1 P 29 (wc_X8_next_29))
      have c30_117 : Int32.toInt (e_117.2.1 P 30) = Int32.toInt (M_99 P 30) := congrArg Int32.toInt (q_117.1 P 30 (wc_X8_next_30))
      have c31_117 : Int32.toInt (e_117.2.1 P 31) = Int32.toInt (M_99 P 31) := congrArg Int32.toInt (q_117.1 P 31 (wc_X8_next_31))
      have n_117 : nA P e_117.2.1 = nA P M_99 := nA_congr (fun a j h => q_117.1 a j (wf_nA_X8_next h))
      have p_jY_117 : jY P e_117.2.1 := jY.mono p_jY_99 (fun a j h => q_117.1 a j (wf_jY_X8_next h))
      obtain ⟨u0_jY_117, u1_jY_117, u2_jY_117, u3_jY_117, u4_jY_117, u5_jY_117⟩ := id p_jY_117
      have p_jZ_117 : jZ P e_117.2.1 := jZ.mono p_jZ_99 (fun a j h => q_117.1 a j (wf_jZ_X8_next h))
      obtain ⟨x0_117, x1_117, x2_117, x3_117⟩ := q_117.2.2.2
      obtain ⟨u0_jX_117, u1_jX_117, u2_jX_117, u3_jX_117⟩ := id x0_117
      (try simp only [Int32.toInt_add, Int32.toInt_sub, Int32.toInt_mul, Int32.toInt_toInt64, Int64.toInt_add, z_m1, Int32.reduceToInt, Int64.reduceToInt, Int32.reduceToNatClampNeg, Int.bmod_def] at x1_117)
      (try simp only [Int32.toInt_add, Int32.toInt_sub, Int32.toInt_mul, Int32.toInt_toInt64, Int64.toInt_add, z_m1, Int32.reduceToInt, Int64.reduceToInt, Int32.reduceToNatClampNeg, Int.bmod_def] at x2_117)
      (try simp only [Int32.toInt_add, Int32.toInt_sub, Int32.toInt_mul, Int32.toInt_toInt64, Int64.toInt_add, z_m1, Int32.reduceToInt, Int64.reduceToInt, Int32.reduceToNatClampNeg, Int.bmod_def] at x3_117)
      exact T_124 _ _ _ _ k_117 kn_117 x0_117 p_jY_117 p_jZ_117 (by first | omega | (simp only [Int32.toInt_add, Int32.toInt_sub, Int32.toInt_mul, Int32.toInt_toInt64, Int64.toInt_add, z_m1, Int32.reduceToInt, Int64.reduceToInt, Int32.reduceToNatClampNeg, Int.bmod_def, or_true, true_or, and_true, true_and] <;> omega)) (by first | omega | (simp only [Int32.toInt_add, Int32.toInt_sub, Int32.toInt_mul, Int32.toInt_toInt64, Int64.toInt_add, z_m1, Int32.reduceToInt, Int64.reduceToInt, Int32.reduceToNatClampNeg, Int.bmod_def, or_true, true_or, and_true, true_and] <;> omega)) (by first | omega | (simp only [Int32.toInt_add, Int32.toInt_sub, Int32.toInt_mul, Int32.toInt_toInt64, Int64.toInt_add, z_m1, Int32.reduceToInt, Int64.reduceToInt, Int32.reduceToNatClampNeg, Int.bmod_def, or_true, true_or, and_true, true_and] <;> omega)) (by first | omega | (simp only [Int32.toInt_add, Int32.toInt_sub, Int32.toInt_mul, Int32.toInt_toInt64, Int64.toInt_add, z_m1, Int32.reduceToInt, Int64.reduceToInt, Int32.reduceToNatClampNeg, Int.bmod_def, or_true, true_or, and_true, true_and] <;> omega))
    · have i_107 : ¬ Int32.toInt (M_99 (P + 2) y0_99.toNatClampNeg) = Int32.toInt (-1 : Int32) := fun q => h_107 (Int32.toInt_inj.mp q)
      (try simp only [Int32.toInt_add, Int32.toInt_sub, Int32.toInt_mul, Int32.toInt_toInt64, Int64.toInt_add, z_m1, Int32.reduceToInt, Int64.reduceToInt, Int32.reduceToNatClampNeg, Int.bmod_def] at i_107)
      refine vB (v_X8_bad) (fun e_112 f_112 q_112 => ?_)
      have k_112 : ∀ a j, ¬ WM_X8_readAsks P a j → e_112.2 a j = M0 a j := fun a j h => (q_112.1 a j (wz_M_X8_bad_X8_readAsks h)).trans (k_99 a j h)
      have b_112 := q_112.2.1
      have c15_112 : Int32.toInt (e_112.2 P 15) = Int32.toInt (M_99 P 15) := congrArg Int32.toInt (q_112.1 P 15 (wc_X8_bad_15))
      have c17_112 : Int32.toInt (e_112.2 P 17) = Int32.toInt (M_99 P 17) := congrArg Int32.toInt (q_112.1 P 17 (wc_X8_bad_17))
      have c18_112 : Int32.toInt (e_112.2 P 18) = Int32.toInt (M_99 P 18) := congrArg Int32.toInt (q_112.1 P 18 (wc_X8_bad_18))
      have c20_112 : Int32.toInt (e_112.2 P 20) = Int32.toInt (M_99 P 20) := congrArg Int32.toInt (q_112.1 P 20 (wc_X8_bad_20))
      have c28_112 : Int32.toInt (e_112.2 P 28) = Int32.toInt (M_99 P 28) := congrArg Int32.toInt (q_112.1 P 28 (wc_X8_bad_28))
      have c29_112 : Int32.toInt (e_112.2 P 29) = Int32.toInt (M_99 P 29) := congrArg Int32.toInt (q_112.1 P 29 (wc_X8_bad_29))
      have c30_112 : Int32.toInt (e_112.2 P 30) = Int32.toInt (M_99 P 30) := congrArg Int32.toInt (q_112.1 P 30 (wc_X8_bad_30))
      have c31_112 : Int32.toInt (e_112.2 P 31) = Int32.toInt (M_99 P 31) := congrArg Int32.toInt (q_112.1 P 31 (wc_X8_bad_31))
      have n_112 : nA P e_112.2 = nA P M_99 := nA_congr (fun a j h => q_112.1 a j (wf_nA_X8_bad h))
      have p_jX_112 : jX P e_112.2 := jX.mono p_jX_99 (fun a j h => q_112.1 a j (wf_jX_X8_bad h))
      obtain ⟨u0_jX_112, u1_jX_112, u2_jX_112, u3_jX_112⟩ := id p_jX_112
      have p_jY_112 : jY P e_112.2 := jY.mono p_jY_99 (fun a j h => q_112.1 a j (wf_jY_X8_bad h))
      obtain ⟨u0_jY_112, u1_jY_112, u2_jY_112, u3_jY_112, u4_jY_112, u5_jY_112⟩ := id p_jY_112
      have p_jZ_112 : jZ P e_112.2 := jZ.mono p_jZ_99 (fun a j h => q_112.1 a j (wf_jZ_X8_bad h))
      have x0_112 := q_112.2.2
      (try simp only [Int32.toInt_add, Int32.toInt_sub, Int32.toInt_mul, Int32.toInt_toInt64, Int64.toInt_add, z_m1, Int32.reduceToInt, Int64.reduceToInt, Int32.reduceToNatClampNeg, Int.bmod_def] at x0_112)
      exact ⟨_, rfl, k_112, kn_99, (by first | exact Or.inl rfl | exact Or.inr rfl | assumption), ⟨p_jX_112, p_jY_112, p_jZ_112, (by first | omega | (simp only [Int32.toInt_add, Int32.toInt_sub, Int32.toInt_mul, Int32.toInt_toInt64, Int64.toInt_add, z_m1, Int32.reduceToInt, Int64.reduceToInt, Int32.reduceToNatClampNeg, Int.bmod_def, or_true, true_or, and_true, true_and] <;> omega))⟩⟩
  have T_79 : ∀ (x1_79 : Int32) (x2_79 : Int32) (M_79 : zMt) (N_79 : zNt), (∀ a j, ¬ WM_X8_readAsks P a j → M_79 a j = M0 a j) → (∀ a j, ¬ WN_X8_readAsks P a j → N_79 a j = N0 a j) → (jX P M_79) → (jY P M_79) → (jZ P M_79) → (Int32.toInt (M0 P 17) ≤ Int32.toInt (M_79 P 17)) → ((Int32.toInt x2_79 = -1 ∧ 0 ≤ Int32.toInt x1_79 ∧ Int32.toInt x1_79 < 10) ∨ (0 ≤ Int32.toInt x2_79 ∧ Int32.toInt x2_79 < 4)) → ∃ r, D_X8_readAsks_79 P x1_79 x2_79 M_79 N_79 = some r ∧ ((∀ a j, ¬ WM_X8_readAsks P a j → r.2.1 a j = M0 a j) ∧ (∀ a j, ¬ WN_X8_readAsks P a j → r.2.2 a j = N0 a j) ∧ (r.1 = 0 ∨ r.1 = 1) ∧ ((jX P r.2.1) ∧ (jY P r.2.1) ∧ (jZ P r.2.1) ∧ (Int32.toInt (M0 P 17) ≤ Int32.toInt (r.2.1 P 17)))) := by
    intro x1_79 x2_79 M_79 N_79 k_79 kn_79 p_jX_79 p_jY_79 p_jZ_79 f0_79 f1_79
    obtain ⟨u0_jX_79, u1_jX_79, u2_jX_79, u3_jX_79⟩ := id p_jX_79
    obtain ⟨u0_jY_79, u1_jY_79, u2_jY_79, u3_jY_79, u4_jY_79, u5_jY_79⟩ := id p_jY_79
    unfold D_X8_readAsks_79
    refine vIf (fun h_81 => ?_) (fun h_81 => ?_)
    · have i_81 := congrArg Int32.toInt h_81
      (try simp only [Int32.toInt_add, Int32.toInt_sub, Int32.toInt_mul, Int32.toInt_toInt64, Int64.toInt_add, z_m1, Int32.reduceToInt, Int64.reduceToInt, Int32.reduceToNatClampNeg, Int.bmod_def] at i_81)
      exact T_99 _ _ _ k_79 kn_79 p_jX_79 p_jY_79 p_jZ_79 (by first | omega | (simp only [Int32.toInt_add, Int32.toInt_sub, Int32.toInt_mul, Int32.toInt_toInt64, Int64.toInt_add, z_m1, Int32.reduceToInt, Int64.reduceToInt, Int32.reduceToNatClampNeg, Int.bmod_def, or_true, true_or, and_true, true_and] <;> omega)) (by first | (have q9 : ¬ _ := i_81; exact z_at50 (by omega) (by omega)) | exact z_at20 (by omega) (by omega))
    · have i_81 : ¬ Int32.toInt x2_79 = Int32.toInt (-1 : Int32) := fun q => h_81 (Int32.toInt_inj.mp q)
      (try simp only [Int32.toInt_add, Int32.toInt_sub, Int32.toInt_mul, Int32.toInt_toInt64, Int64.toInt_add, z_m1, Int32.reduceToInt, Int64.reduceToInt, Int32.reduceToNatClampNeg, Int.bmod_def] at i_81)
      exact T_99 _ _ _ k_79 kn_79 p_jX_79 p_jY_79 p_jZ_79 (by first | omega | (simp only [Int32.toInt_add, Int32.toInt_sub, Int32.toInt_mul, Int32.toInt_toInt64, Int64.toInt_add, z_m1, Int32.reduceToInt, Int64.reduceToInt, Int32.reduceToNatClampNeg, Int.bmod_def, or_true, true_or, and_true, true_and] <;> omega)) (by first | (have q9 : ¬ _ := i_81; exact z_at50 (by omega) (by omega)) | exact z_at20 (by omega) (by omega))
  have T_73 : ∀ (M_73 : zMt) (N_73 : zNt), (∀ a j, ¬ WM_X8_readAsks P a j → M_73 a j = M0 a j) → (∀ a j, ¬ WN_X8_readAsks P a j → N_73 a j = N0 a j) → (jX P M_73) → (jY P M_73) → (jZ P M_73) → (Int32.toInt (M0 P 17) ≤ Int32.toInt (M_73 P 17)) → ∃ r, D_X8_readAsks_73 P M_73 N_73 = some r ∧ ((∀ a j, ¬ WM_X8_readAsks P a j → r.2.1 a j = M0 a j) ∧ (∀ a j, ¬ WN_X8_readAsks P a j → r.2.2 a j = N0 a j) ∧ (r.1 = 0 ∨ r.1 = 1) ∧ ((jX P r.2.1) ∧ (jY P r.2.1) ∧ (jZ P r.2.1) ∧ (Int32.toInt (M0 P 17) ≤ Int32.toInt (r.2.1 P 17)))) := by
    intro M_73 N_73 k_73 kn_73 p_jX_73 p_jY_73 p_jZ_73 f0_73
    obtain ⟨u0_jX_73, u1_jX_73, u2_jX_73, u3_jX_73⟩ := id p_jX_73
    obtain ⟨u0_jY_73, u1_jY_73, u2_jY_73, u3_jY_73, u4_jY_73, u5_jY_73⟩ := id p_jY_73
    unfold D_X8_readAsks_73
    refine vB (v_X8_bad) (fun e_75 f_75 q_75 => ?_)
    have k_75 : ∀ a j, ¬ WM_X8_readAsks P a j → e_75.2 a j = M0 a j := fun a j h => (q_75.1 a j (wz_M_X8_bad_X8_readAsks h)).trans (k_73 a j h)
    have b_75 := q_75.2.1
    have c15_75 : Int32.toInt (e_75.2 P 15) = Int32.toInt (M_73 P 15) := congrArg Int32.toInt (q_75.1 P 15 (wc_X8_bad_15))
    have c17_75 : Int32.toInt (e_75.2 P 17) = Int32.toInt (M_73 P 17) := congrArg Int32.toInt (q_75.1 P 17 (wc_X8_bad_17))
    have c18_75 : Int32.toInt (e_75.2 P 18) = Int32.toInt (M_73 P 18) := congrArg Int32.toInt (q_75.1 P 18 (wc_X8_bad_18))
    have c20_75 : Int32.toInt (e_75.2 P 20) = Int32.toInt (M_73 P 20) := congrArg Int32.toInt (q_75.1 P 20 (wc_X8_bad_20))
    have c28_75 : Int32.toInt (e_75.2 P 28) = Int32.toInt (M_73 P 28) := congrArg Int32.toInt (q_75.1 P 28 (wc_X8_bad_28))
    have c29_75 : Int32.toInt (e_75.2 P 29) = Int32.toInt (M_73 P 29) := congrArg Int32.toInt (q_75.1 P 29 (wc_X8_bad_29))
    have c30_75 : Int32.toInt (e_75.2 P 30) = Int32.toInt (M_73 P 30) := congrArg Int32.toInt (q_75.1 P 30 (wc_X8_bad_30))
    have c31_75 : Int32.toInt (e_75.2 P 31) = Int32.toInt (M_73 P 31) := congrArg Int32.toInt (q_75.1 P 31 (wc_X8_bad_31))
    have n_75 : nA P e_75.2 = nA P M_73 := nA_congr (fun a j h => q_75.1 a j (wf_nA_X8_bad h))
    have p_jX_75 : jX P e_75.2 := jX.mono p_jX_73 (fun a j h => q_75.1 a j (wf_jX_X8_bad h))
    obtain ⟨u0_jX_75, u1_jX_75, u2_jX_75, u3_jX_75⟩ := id p_jX_75
    have p_jY_75 : jY P e_75.2 := jY.mono p_jY_73 (fun a j h => q_75.1 a j (wf_jY_X8_bad h))
    obtain ⟨u0_jY_75, u1_jY_75, u2_jY_75, u3_jY_75, u4_jY_75, u5_jY_75⟩ := id p_jY_75
    have p_jZ_75 : jZ P e_75.2 := jZ.mono p_jZ_73 (fun a j h => q_75.1 a j (wf_jZ_X8_bad h))
    have x0_75 := q_75.2.2
    (try simp only [Int32.toInt_add, Int32.toInt_sub, Int32.toInt_mul, Int32.toInt_toInt64, Int64.toInt_add, z_m1, Int32.reduceToInt, Int64.reduceToInt, Int32.reduceToNatClampNeg, Int.bmod_def] at x0_75)
    exact ⟨_, rfl, k_75, kn_73, (by first | exact Or.inl rfl | exact Or.inr rfl | assumption), ⟨p_jX_75, p_jY_75, p_jZ_75, (by first | omega | (simp only [Int32.toInt_add, Int32.toInt_sub, Int32.toInt_mul, Int32.toInt_toInt64, Int64.toInt_add, z_m1, Int32.reduceToInt, Int64.reduceToInt, Int32.reduceToNatClampNeg, Int.bmod_def, or_true, true_or, and_true, true_and] <;> omega))⟩⟩
  unfold D_X8_readAsks
  refine vB (v_X8_next p_jX) (fun e_1 f_1 q_1 => ?_)
  have k_1 : ∀ a j, ¬ WM_X8_readAsks P a j → e_1.2.1 a j = M0 a j := fun a j h => (q_1.1 a j (wz_M_X8_next_X8_readAsks h))
  have kn_1 : ∀ a j, ¬ WN_X8_readAsks P a j → e_1.2.2 a j = N0 a j := fun a j h => (q_1.2.1 a j (wz_N_X8_next_X8_readAsks h))
  have b_1 := q_1.2.2.1
  have c15_1 : Int32.toInt (e_1.2.1 P 15) = Int32.toInt (M0 P 15) := congrArg Int32.toInt (q_1.1 P 15 (wc_X8_next_15))
  have c28_1 : Int32.toInt (e_1.2.1 P 28) = Int32.toInt (M0 P 28) := congrArg Int32.toInt (q_1.1 P 28 (wc_X8_next_28))
  have c29_1 : Int32.toInt (e_1.2.1 P 29) = Int32.toInt (M0 P 29) := congrArg Int32.toInt (q_1.1 P 29 (wc_X8_next_29))
  have c30_1 : Int32.toInt (e_1.2.1 P 30) = Int32.toInt (M0 P 30) := congrArg Int32.toInt (q_1.1 P 30 (wc_X8_next_30))
  have c31_1 : Int32.toInt (e_1.2.1 P 31) = Int32.toInt (M0 P 31) := congrArg Int32.toInt (q_1.1 P 31 (wc_X8_next_31))
  have n_1 : nA P e_1.2.1 = nA P M0 := nA_congr (fun a j h => q_1.1 a j (wf_nA_X8_next h))
  have p_jY_1 : jY P e_1.2.1 := jY.mono p_jY (fun a j h => q_1.1 a j (wf_jY_X8_next h))
  obtain ⟨u0_jY_1, u1_jY_1, u2_jY_1, u3_jY_1, u4_jY_1, u5_jY_1⟩ := id p_jY_1
  have p_jZ_1 : jZ P e_1.2.1 := jZ.mono p_jZ (fun a j h => q_1.1 a j (wf_jZ_X8_next h))
  obtain ⟨x0_1, x1_1, x2_1, x3_1⟩ := q_1.2.2.2
  obtain ⟨u0_jX_1, u1_jX_1, u2_jX_1, u3_jX_1⟩ := id x0_1
  (try simp only [Int32.toInt_add, Int32.toInt_sub, Int32.toInt_mul, Int32.toInt_toInt64, Int64.toInt_add, z_m1, Int32.reduceToInt, Int64.reduceToInt, Int32.reduceToNatClampNeg, Int.bmod_def] at x1_1)
  (try simp only [Int32.toInt_add, Int32.toInt_sub, Int32.toInt_mul, Int32.toInt_toInt64, Int64.toInt_add, z_m1, Int32.reduceToInt, Int64.reduceToInt, Int32.reduceToNatClampNeg, Int.bmod_def] at x2_1)
  (try simp only [Int32.toInt_add, Int32.toInt_sub, Int32.toInt_mul, Int32.toInt_toInt64, Int64.toInt_add, z_m1, Int32.reduceToInt, Int64.reduceToInt, Int32.reduceToNatClampNeg, Int.bmod_def] at x3_1)
  refine vB (v_X8_isName) (fun e_6 f_6 q_6 => ?_)
  have b_6 := q_6
  refine vIf (fun h_9 => ?_) (fun h_9 => ?_)
  · have i_9 := congrArg Int32.toInt h_9
    (try simp only [Int32.toInt_add, Int32.toInt_sub, Int32.toInt_mul, Int32.toInt_toInt64, Int64.toInt_add, z_m1, Int32.reduceToInt, Int64.reduceToInt, Int32.reduceToNatClampNeg, Int.bmod_def] at i_9)
    refine vB (v_X8_bad) (fun e_14 f_14 q_14 => ?_)
    have k_14 : ∀ a j, ¬ WM_X8_readAsks P a j → e_14.2 a j = M0 a j := fun a j h => (q_14.1 a j (wz_M_X8_bad_X8_readAsks h)).trans (k_1 a j h)
    have b_14 := q_14.2.1
    have c15_14 : Int32.toInt (e_14.2 P 15) = Int32.toInt (e_1.2.1 P 15) := congrArg Int32.toInt (q_14.1 P 15 (wc_X8_bad_15))
    have c17_14 : Int32.toInt (e_14.2 P 17) = Int32.toInt (e_1.2.1 P 17) := congrArg Int32.toInt (q_14.1 P 17 (wc_X8_bad_17))
    have c18_14 : Int32.toInt (e_14.2 P 18) = Int32.toInt (e_1.2.1 P 18) := congrArg Int32.toInt (q_14.1 P 18 (wc_X8_bad_18))
    have c20_14 : Int32.toInt (e_14.2 P 20) = Int32.toInt (e_1.2.1 P 20) := congrArg Int32.toInt (q_14.1 P 20 (wc_X8_bad_20))
    have c28_14 : Int32.toInt (e_14.2 P 28) = Int32.toInt (e_1.2.1 P 28) := congrArg Int32.toInt (q_14.1 P 28 (wc_X8_bad_28))
    have c29_14 : Int32.toInt (e_14.2 P 29) = Int32.toInt (e_1.2.1 P 29) := congrArg Int32.toInt (q_14.1 P 29 (wc_X8_bad_29))
    have c30_14 : Int32.toInt (e_14.2 P 30) = Int32.toInt (e_1.2.1 P 30) := congrArg Int32.toInt (q_14.1 P 30 (wc_X8_bad_30))
    have c31_14 : Int32.toInt (e_14.2 P 31) = Int32.toInt (e_1.2.1 P 31) := congrArg Int32.toInt (q_14.1 P 31 (wc_X8_bad_31))
    have n_14 : nA P e_14.2 = nA P e_1.2.1 := nA_congr (fun a j h => q_14.1 a j (wf_nA_X8_bad h))
    have p_jY_14 : jY P e_14.2 := jY.mono p_jY_1 (fun a j h => q_14.1 a j (wf_jY_X8_bad h))
    obtain ⟨u0_jY_14, u1_jY_14, u2_jY_14, u3_jY_14, u4_jY_14, u5_jY_14⟩ := id p_jY_14
    have p_jZ_14 : jZ P e_14.2 := jZ.mono p_jZ_1 (fun a j h => q_14.1 a j (wf_jZ_X8_bad h))
    have p_jX_14 : jX P e_14.2 := jX.mono x0_1 (fun a j h => q_14.1 a j (wf_jX_X8_bad h))
    obtain ⟨u0_jX_14, u1_jX_14, u2_jX_14, u3_jX_14⟩ := id p_jX_14
    have x0_14 := q_14.2.2
    (try simp only [Int32.toInt_add, Int32.toInt_sub, Int32.toInt_mul, Int32.toInt_toInt64, Int64.toInt_add, z_m1, Int32.reduceToInt, Int64.reduceToInt, Int32.reduceToNatClampNeg, Int.bmod_def] at x0_14)
    exact ⟨_, rfl, k_14, kn_1, (by first | exact Or.inl rfl | exact Or.inr rfl | assumption), ⟨p_jX_14, p_jY_14, p_jZ_14, (by first | omega | (simp only [Int32.toInt_add, Int32.toInt_sub, Int32.toInt_mul, Int32.toInt_toInt64, Int64.toInt_add, z_m1, Int32.reduceToInt, Int64.reduceToInt, Int32.reduceToNatClampNeg, Int.bmod_def, or_true, true_or, and_true, true_and] <;> omega))⟩⟩
  · have i_9 : ¬ Int32.toInt e_6 = Int32.toInt (0 : Int32) := fun q => h_9 (Int32.toInt_inj.mp q)
    (try simp only [Int32.toInt_add, Int32.toInt_sub, Int32.toInt_mul, Int32.toInt_toInt64, Int64.toInt_add, z_m1, Int32.reduceToInt, Int64.reduceToInt, Int32.reduceToNatClampNeg, Int.bmod_def] at i_9)
    refine vB (v_X8_found (by first | omega | (simp only [Int32.toInt_add, Int32.toInt_sub, Int32.toInt_mul, Int32.toInt_toInt64, Int64.toInt_add, z_m1, Int32.reduceToInt, Int64.reduceToInt, Int32.reduceToNatClampNeg, Int.bmod_def, or_true, true_or, and_true, true_and] <;> omega)) (by first | omega | (simp only [Int32.toInt_add, Int32.toInt_sub, Int32.toInt_mul, Int32.toInt_toInt64, Int64.toInt_add, z_m1, Int32.reduceToInt, Int64.reduceToInt, Int32.reduceToNatClampNeg, Int.bmod_def, or_true, true_or, and_true, true_and] <;> omega))) (fun e_30 f_30 q_30 => ?_)
    obtain ⟨x0_30, x1_30⟩ := q_30
    (try simp only [Int32.toInt_add, Int32.toInt_sub, Int32.toInt_mul, Int32.toInt_toInt64, Int64.toInt_add, z_m1, Int32.reduceToInt, Int64.reduceToInt, Int32.reduceToNatClampNeg, Int.bmod_def] at x0_30)
    (try simp only [Int32.toInt_add, Int32.toInt_sub, Int32.toInt_mul, Int32.toInt_toInt64, Int64.toInt_add, z_m1, Int32.reduceToInt, Int64.reduceToInt, Int32.reduceToNatClampNeg, Int.bmod_def] at x1_30)
    refine vB (v_X8_found (by first | omega | (simp only [Int32.toInt_add, Int32.toInt_sub, Int32.toInt_mul, Int32.toInt_toInt64, Int64.toInt_add, z_m1, Int32.reduceToInt, Int64.reduceToInt, Int32.reduceToNatClampNeg, Int.bmod_def, or_true, true_or, and_true, true_and] <;> omega)) (by first | omega | (simp only [Int32.toInt_add, Int32.toInt_sub, Int32.toInt_mul, Int32.toInt_toInt64, Int64.toInt_add, z_m1, Int32.reduceToInt, Int64.reduceToInt, Int32.reduceToNatClampNeg, Int.bmod_def, or_true, true_or, and_true, true_and] <;> omega))) (fun e_46 f_46 q_46 => ?_)
    obtain ⟨x0_46, x1_46⟩ := q_46
    (try simp only [Int32.toInt_add, Int32.toInt_sub, Int32.toInt_mul, Int32.toInt_toInt64, Int64.toInt_add, z_m1, Int32.reduceToInt, Int64.reduceToInt, Int32.reduceToNatClampNeg, Int.bmod_def] at x0_46)
    (try simp only [Int32.toInt_add, Int32.toInt_sub, Int32.toInt_mul, Int32.toInt_toInt64, Int64.toInt_add, z_m1, Int32.reduceToInt, Int64.reduceToInt, Int32.reduceToNatClampNeg, Int.bmod_def] at x1_46)
    refine vIf (fun h_52 => ?_) (fun h_52 => ?_)
    · have i_52 := congrArg Int32.toInt h_52
      (try simp only [Int32.toInt_add, Int32.toInt_sub, Int32.toInt_mul, Int32.toInt_toInt64, Int64.toInt_add, z_m1, Int32.reduceToInt, Int64.reduceToInt, Int32.reduceToNatClampNeg, Int.bmod_def] at i_52)
      refine vIf (fun h_57 => ?_) (fun h_57 => ?_)
      · have i_57 := congrArg Int32.toInt h_57
        (try simp only [Int32.toInt_add, Int32.toInt_sub, Int32.toInt_mul, Int32.toInt_toInt64, Int64.toInt_add, z_m1, Int32.reduceToInt, Int64.reduceToInt, Int32.reduceToNatClampNeg, Int.bmod_def] at i_57)
        exact T_73 _ _ k_1 kn_1 x0_1 p_jY_1 p_jZ_1 (by first | omega | (simp only [Int32.toInt_add, Int32.toInt_sub, Int32.toInt_mul, Int32.toInt_toInt64, Int64.toInt_add, z_m1, Int32.reduceToInt, Int64.reduceToInt, Int32.reduceToNatClampNeg, Int.bmod_def, or_true, true_or, and_true, true_and] <;> omega))
      · have i_57 : ¬ Int32.toInt e_30 = Int32.toInt (-1 : Int32) := fun q => h_57 (Int32.toInt_inj.mp q)
        (try simp only [Int32.toInt_add, Int32.toInt_sub, Int32.toInt_mul, Int32.toInt_toInt64, Int64.toInt_add, z_m1, Int32.reduceToInt, Int64.reduceToInt, Int32.reduceToNatClampNeg, Int.bmod_def] at i_57)
        refine vI (vp_of (by first | omega | (simp only [Int32.toInt_add, Int32.toInt_sub, Int32.toInt_mul, Int32.toInt_toInt64, Int64.toInt_add, z_m1, Int32.reduceToInt, Int64.reduceToInt, Int32.reduceToNatClampNeg, Int.bmod_def, or_true, true_or, and_true, true_and] <;> omega)) (by first | omega | (simp only [Int32.toInt_add, Int32.toInt_sub, Int32.toInt_mul, Int32.toInt_toInt64, Int64.toInt_add, z_m1, Int32.reduceToInt, Int64.reduceToInt, Int32.reduceToNatClampNeg, Int.bmod_def, or_true, true_or, and_true, true_and] <;> omega))) ?_
        refine vIf (fun h_70 => ?_) (fun h_70 => ?_)
        · have i_70 := congrArg Int32.toInt h_70
          (try simp only [Int32.toInt_add, Int32.toInt_sub, Int32.toInt_mul, Int32.toInt_toInt64, Int64.toInt_add, z_m1, Int32.reduceToInt, Int64.reduceToInt, Int32.reduceToNatClampNeg, Int.bmod_def] at i_70)
          exact T_79 _ _ _ _ k_1 kn_1 x0_1 p_jY_1 p_jZ_1 (by first | omega | (simp only [Int32.toInt_add, Int32.toInt_sub, Int32.toInt_mul, Int32.toInt_toInt64, Int64.toInt_add, z_m1, Int32.reduceToInt, Int64.reduceToInt, Int32.reduceToNatClampNeg, Int.bmod_def, or_true, true_or, and_true, true_and] <;> omega)) (by first | omega | (simp only [Int32.toInt_add, Int32.toInt_sub, Int32.toInt_mul, Int32.toInt_toInt64, Int64.toInt_add, z_m1, Int32.reduceToInt, Int64.reduceToInt, Int32.reduceToNatClampNeg, Int.bmod_def, or_true, true_or, and_true, true_and] <;> omega))
        · have i_70 : ¬ Int32.toInt (e_1.2.1 (P + 2) ((10 : Int32) + e_30).toNatClampNeg) = Int32.toInt (-1 : Int32) := fun q => h_70 (Int32.toInt_inj.mp q)
          (try simp only [Int32.toInt_add, Int32.toInt_sub, Int32.toInt_mul, Int32.toInt_toInt64, Int64.toInt_add, z_m1, Int32.reduceToInt, Int64.reduceToInt, Int32.reduceToNatClampNeg, Int.bmod_def] at i_70)
          exact T_73 _ _ k_1 kn_1 x0_1 p_jY_1 p_jZ_1 (by first | omega | (simp only [Int32.toInt_add, Int32.toInt_sub, Int32.toInt_mul, Int32.toInt_toInt64, Int64.toInt_add, z_m1, Int32.reduceToInt, Int64.reduceToInt, Int32.reduceToNatClampNeg, Int.bmod_def, or_true, true_or, and_true, true_and] <;> omega))
    · have i_52 : ¬ Int32.toInt e_46 = Int32.toInt (-1 : Int32) := fun q => h_52 (Int32.toInt_inj.mp q)
      (try simp only [Int32.toInt_add, Int32.toInt_sub, Int32.toInt_mul, Int32.toInt_toInt64, Int64.toInt_add, z_m1, Int32.reduceToInt, Int64.reduceToInt, Int32.reduceToNatClampNeg, Int.bmod_def] at i_52)
      exact T_79 _ _ _ _ k_1 kn_1 x0_1 p_jY_1 p_jZ_1 (by first | omega | (simp only [Int32.toInt_add, Int32.toInt_sub, Int32.toInt_mul, Int32.toInt_toInt64, Int64.toInt_add, z_m1, Int32.reduceToInt, Int64.reduceToInt, Int32.reduceToNatClampNeg, Int.bmod_def, or_true, true_or, and_true, true_and] <;> omega)) (by first | omega | (simp only [Int32.toInt_add, Int32.toInt_sub, Int32.toInt_mul, Int32.toInt_toInt64, Int64.toInt_add, z_m1, Int32.reduceToInt, Int64.reduceToInt, Int32.reduceToNatClampNeg, Int.bmod_def, or_true, true_or, and_true, true_and] <;> omega))
/-! the laws' names: which of three -/
def sp (i : Nat) : Nat := ((List.range i).filter (fun j => zCh 12 j = 32)).length
theorem sp_s : ∀ i, i < 18 → sp (i + 1) = sp i + (if zCh 12 i = 32 then 1 else 0) := by decide +kernel
theorem sp_2 : ∀ i, i < 18 → sp i ≤ 2 := by decide +kernel
theorem w_X8_among {P : Nat} {N : zNt} : ∃ r, D_X8_among P 12 N = some r ∧ (-1 ≤ Int32.toInt r ∧ Int32.toInt r ≤ 2) := by
  have L : ∀ (u i : Nat) (y : Int64), i ≤ 18 → 18 - i < u → ∃ r, D_X8_among_7 P 12 N u (nI (sp i)) y (nI i) = some r ∧ (-1 ≤ Int32.toInt r ∧ Int32.toInt r ≤ 2) := by
    intro u
    induction u with
    | zero => intro i y _ h; omega
    | succ u ih =>
      intro i y hi hu
      rw [D_X8_among_7]
      refine vIf (fun _ => ⟨_, rfl, by decide, by decide⟩) (fun hc => ?_)
      have hlt : i < 18 := Nat.lt_of_not_le (fun q => hc ((nI_leI (a := 18) (b := i) (by decide) (by omega)).mpr q))
      refine vI (vp_in_nI hlt (by decide)) ?_
      rw [nI_clamp (by omega)]
      have hs := sp_s i hlt
      refine vIf (fun h1 => ?_) (fun h1 => ?_)
      · refine vIf (fun _ => ⟨_, rfl, ?_⟩) (fun _ => ?_)
        · have := sp_2 i hlt
          rw [nI_toInt (by omega)]
          omega
        · unfold D_X8_among_62
          rw [nI_1, nI_1]
          have t := ih (i + 1) 0 (by omega) (by omega)
          rw [hs, if_pos h1] at t
          exact t
      · unfold D_X8_among_62
        rw [if_neg h1, Nat.add_zero] at hs
        rw [nI_1]
        have t := ih (i + 1) ((y <<< (Int32.toInt64 (5 : Int32) &&& 63)) ||| ((Int32.toInt64 (zCh 12 i)) - (96 : Int64))) (by omega) (by omega)
        rw [hs] at t
        exact t
  unfold D_X8_among
  have t := L zFu 0 0 (by omega) (by unfold zFu; omega)
  have e0 : nI (sp 0) = 0 := by decide
  have e1 : nI 0 = 0 := by decide
  rw [e0, e1] at t
  exact t
def WM_X8_readOnce (P : Nat) (a j : Nat) : Prop := (P + 2 ≤ a ∧ a < P + 3) ∨ (a = P ∧ (j = 16 ∨ j = 17 ∨ j = 18 ∨ j = 19 ∨ j = 20 ∨ j = 21 ∨ j = 22 ∨ j = 23 ∨ j = 31))
def WN_X8_readOnce (P : Nat) (a j : Nat) : Prop := (a = P ∧ (j = 24))
theorem wq_X8_readOnce_M2_r {P a j : Nat} (h : ¬ WM_X8_readOnce P a j) : ¬ a = P + 2 := by unfold WM_X8_readOnce at h; omega
theorem wz_M_X8_bad_X8_readOnce {P a j : Nat} (h : ¬ WM_X8_readOnce P a j) : ¬ WM_X8_bad P a j := by unfold WM_X8_bad; unfold WM_X8_readOnce at h; omega
theorem wz_M_X8_next_X8_readOnce {P a j : Nat} (h : ¬ WM_X8_readOnce P a j) : ¬ WM_X8_next P a j := by unfold WM_X8_next; unfold WM_X8_readOnce at h; omega
theorem wz_N_X8_next_X8_readOnce {P a j : Nat} (h : ¬ WN_X8_readOnce P a j) : ¬ WN_X8_next P a j := by unfold WN_X8_next; unfold WN_X8_readOnce at h; omega
theorem wq_X8_readOnce_M0_23 {P a j : Nat} (h : ¬ WM_X8_readOnce P a j) : ¬ (a = P ∧ j = 23) := by unfold WM_X8_readOnce at h; omega
theorem wf_nA_M0_23 {P a j : Nat} (h : (a = P + 1 ∨ (a = P ∧ j = 8))) : ¬ (a = P ∧ j = 23) := by omega
theorem wf_jX_M0_23 {P a j : Nat} (h : (a = P ∧ (j = 15 ∨ j = 17))) : ¬ (a = P ∧ j = 23) := by omega
theorem wf_jY_M0_23 {P a j : Nat} (h : (a = P ∧ (j = 28 ∨ j = 29 ∨ j = 30))) : ¬ (a = P ∧ j = 23) := by omega
theorem wf_jZ_M0_23 {P a j : Nat} (h : (a = P + 2 ∨ (a = P ∧ (j = 28 ∨ j = 29 ∨ j = 30)))) : ¬ (a = P ∧ j = 23) := by omega
theorem wz_M_X8_number_X8_readOnce {P a j : Nat} (h : ¬ WM_X8_readOnce P a j) : ¬ WM_X8_number P a j := by unfold WM_X8_number; unfold WM_X8_readOnce at h; omega
theorem wz_N_X8_number_X8_readOnce {P a j : Nat} (h : ¬ WN_X8_readOnce P a j) : ¬ WN_X8_number P a j := by unfold WN_X8_number; unfold WN_X8_readOnce at h; omega
set_option maxRecDepth 100000 in
set_option maxHeartbeats 4000000 in
theorem v_X8_readOnce {P : Nat} {v0 : Int32} {M0 : zMt} {N0 : zNt}  (p_jX : jX P M0) (p_jY : jY P M0) (p_jZ : jZ P M0) : ∃ r, D_X8_readOnce P v0 M0 N0 = some r ∧ ((∀ a j, ¬ WM_X8_readOnce P a j → r.2.1 a j = M0 a j) ∧ (∀ a j, ¬ WN_X8_readOnce P a j → r.2.2 a j = N0 a j) ∧ (r.1 = 0 ∨ r.1 = 1) ∧ ((jX P r.2.1) ∧ (jY P r.2.1) ∧ (jZ P r.2.1) ∧ (Int32.toInt (M0 P 17) ≤ Int32.toInt (r.2.1 P 17)))) := by
  obtain ⟨u0_jX, u1_jX, u2_jX, u3_jX⟩ := id p_jX
  obtain ⟨u0_jY, u1_jY, u2_jY, u3_jY, u4_jY, u5_jY⟩ := id p_jY
  have T_111 : ∀ (y1_111 : Int32) (M_111 : zMt) (N_111 : zNt), (∀ a j, ¬ WM_X8_readOnce P a j → M_111 a j = M0 a j) → (∀ a j, ¬ WN_X8_readOnce P a j → N_111 a j = N0 a j) → (jX P M_111) → (jY P M_111) → (jZ P M_111) → (Int32.toInt (M0 P 17) ≤ Int32.toInt (M_111 P 17)) → (68 ≤ Int32.toInt y1_111 ∧ Int32.toInt y1_111 ≤ 69) → (0 ≤ Int32.toInt (M_111 P 31) ∧ Int32.toInt (M_111 P 31) ≤ 100) → ∃ r, D_X8_readOnce_111 P y1_111 M_111 N_111 = some r ∧ ((∀ a j, ¬ WM_X8_readOnce P a j → r.2.1 a j = M0 a j) ∧ (∀ a j, ¬ WN_X8_readOnce P a j → r.2.2 a j = N0 a j) ∧ (r.1 = 0 ∨ r.1 = 1) ∧ ((jX P r.2.1) ∧ (jY P r.2.1) ∧ (jZ P r.2.1) ∧ (Int32.toInt (M0 P 17) ≤ Int32.toInt (r.2.1 P 17)))) := by
    intro y1_111 M_111 N_111 k_111 kn_111 p_jX_111 p_jY_111 p_jZ_111 f0_111 f1_111 f2_111
    obtain ⟨u0_jX_111, u1_jX_111, u2_jX_111, u3_jX_111⟩ := id p_jX_111
    obtain ⟨u0_jY_111, u1_jY_111, u2_jY_111, u3_jY_111, u4_jY_111, u5_jY_111⟩ := id p_jY_111
    unfold D_X8_readOnce_111
    refine vI (vp_of (by first | omega | (simp only [Int32.toInt_add, Int32.toInt_sub, Int32.toInt_mul, Int32.toInt_toInt64, Int64.toInt_add, z_m1, Int32.reduceToInt, Int64.reduceToInt, Int32.reduceToNatClampNeg, Int.bmod_def, or_true, true_or, and_true, true_and] <;> omega)) (by first | omega | (simp only [Int32.toInt_add, Int32.toInt_sub, Int32.toInt_mul, Int32.toInt_toInt64, Int64.toInt_add, z_m1, Int32.reduceToInt, Int64.reduceToInt, Int32.reduceToNatClampNeg, Int.bmod_def, or_true, true_or, and_true, true_and] <;> omega))) ?_
    refine vLm (W := WM_X8_readOnce P) (fun a j h => (zu_ne (fun z => wq_X8_readOnce_M2_r h z.1)).trans (k_111 a j h)) (fun M_115 f_115 k_115 => ?_)
    have c15_115 : Int32.toInt (M_115 P 15) = Int32.toInt (M_111 P 15) := congrArg Int32.toInt ((congrFun (congrFun f_115.symm P) 15).trans (zu_ne (fun z => wq_pne0 (by decide) z.1)))
    have c17_115 : Int32.toInt (M_115 P 17) = Int32.toInt (M_111 P 17) := congrArg Int32.toInt ((congrFun (congrFun f_115.symm P) 17).trans (zu_ne (fun z => wq_pne0 (by decide) z.1)))
    have c18_115 : Int32.toInt (M_115 P 18) = Int32.toInt (M_111 P 18) := congrArg Int32.toInt ((congrFun (congrFun f_115.symm P) 18).trans (zu_ne (fun z => wq_pne0 (by decide) z.1)))
    have c20_115 : Int32.toInt (M_115 P 20) = Int32.toInt (M_111 P 20) := congrArg Int32.toInt ((congrFun (congrFun f_115.symm P) 20).trans (zu_ne (fun z => wq_pne0 (by decide) z.1)))
    have c28_115 : Int32.toInt (M_115 P 28) = Int32.toInt (M_111 P 28) := congrArg Int32.toInt ((congrFun (congrFun f_115.symm P) 28).trans (zu_ne (fun z => wq_pne0 (by decide) z.1)))
    have c29_115 : Int32.toInt (M_115 P 29) = Int32.toInt (M_111 P 29) := congrArg Int32.toInt ((congrFun (congrFun f_115.symm P) 29).trans (zu_ne (fun z => wq_pne0 (by decide) z.1)))
    have c30_115 : Int32.toInt (M_115 P 30) = Int32.toInt (M_111 P 30) := congrArg Int32.toInt ((congrFun (congrFun f_115.symm P) 30).trans (zu_ne (fun z => wq_pne0 (by decide) z.1)))
    have c31_115 : Int32.toInt (M_115 P 31) = Int32.toInt (M_111 P 31) := congrArg Int32.toInt ((congrFun (congrFun f_115.symm P) 31).trans (zu_ne (fun z => wq_pne0 (by decide) z.1)))
    have n_115 : nA P M_115 = nA P M_111 := nA_congr (fun a j h => (congrFun (congrFun f_115.symm a) j).trans (zu_ne (fun z => wf_nA_M2_r h z.1)))
    have p_jX_115 : jX P M_115 := jX.mono p_jX_111 (fun a j h => (congrFun (congrFun f_115.symm a) j).trans (zu_ne (fun z => wf_jX_M2_r h z.1)))
    obtain ⟨u0_jX_115, u1_jX_115, u2_jX_115, u3_jX_115⟩ := id p_jX_115
    have p_jY_115 : jY P M_115 := jY.mono p_jY_111 (fun a j h => (congrFun (congrFun f_115.symm a) j).trans (zu_ne (fun z => wf_jY_M2_r h z.1)))
    obtain ⟨u0_jY_115, u1_jY_115, u2_jY_115, u3_jY_115, u4_jY_115, u5_jY_115⟩ := id p_jY_115
    have p_jZ_115 : jZ P M_115 := jZ.put p_jZ_111 (by omega) f_115 (Or.inr (Or.inr (Or.inr (Or.inr (Or.inl ⟨(by have h1 := z_cl (x := y1_111) (by first | omega | (simp only [Int32.toInt_add, Int32.toInt_sub, Int32.toInt_mul, Int32.toInt_toInt64, Int64.toInt_add, z_m1, Int32.reduceToInt, Int64.reduceToInt, Int32.reduceToNatClampNeg, Int.bmod_def, or_true, true_or, and_true, true_and] <;> omega)); have h2 : 68 ≤ Int32.toInt (y1_111) ∧ Int32.toInt (y1_111) < 70 := (by first | omega | (simp only [Int32.toInt_add, Int32.toInt_sub, Int32.toInt_mul, Int32.toInt_toInt64, Int64.toInt_add, z_m1, Int32.reduceToInt, Int64.reduceToInt, Int32.reduceToNatClampNeg, Int.bmod_def, or_true, true_or, and_true, true_and] <;> omega)); omega), (by have h1 := z_cl (x := y1_111) (by first | omega | (simp only [Int32.toInt_add, Int32.toInt_sub, Int32.toInt_mul, Int32.toInt_toInt64, Int64.toInt_add, z_m1, Int32.reduceToInt, Int64.reduceToInt, Int32.reduceToNatClampNeg, Int.bmod_def, or_true, true_or, and_true, true_and] <;> omega)); have h2 : 68 ≤ Int32.toInt (y1_111) ∧ Int32.toInt (y1_111) < 70 := (by first | omega | (simp only [Int32.toInt_add, Int32.toInt_sub, Int32.toInt_mul, Int32.toInt_toInt64, Int64.toInt_add, z_m1, Int32.reduceToInt, Int64.reduceToInt, Int32.reduceToNatClampNeg, Int.bmod_def, or_true, true_or, and_true, true_and] <;> omega)); omega), (by first | omega | (simp only [Int32.toInt_add, Int32.toInt_sub, Int32.toInt_mul, Int32.toInt_toInt64, Int64.toInt_add, z_m1, Int32.reduceToInt, Int64.reduceToInt, Int32.reduceToNatClampNeg, Int.bmod_def, or_true, true_or, and_true, true_and] <;> omega)), (by first | omega | (simp only [Int32.toInt_add, Int32.toInt_sub, Int32.toInt_mul, Int32.toInt_toInt64, Int64.toInt_add, z_m1, Int32.reduceToInt, Int64.reduceToInt, Int32.reduceToNatClampNeg, Int.bmod_def, or_true, true_or, and_true, true_and] <;> omega))⟩)))))
    exact ⟨_, rfl, k_115, kn_111, (by first | exact Or.inl rfl | exact Or.inr rfl | assumption), ⟨p_jX_115, p_jY_115, p_jZ_115, (by first | omega | (simp only [Int32.toInt_add, Int32.toInt_sub, Int32.toInt_mul, Int32.toInt_toInt64, Int64.toInt_add, z_m1, Int32.reduceToInt, Int64.reduceToInt, Int32.reduceToNatClampNeg, Int.bmod_def, or_true, true_or, and_true, true_and] <;> omega))⟩⟩
  have T_57 : ∀ (y0_57 : Int32) (M_57 : zMt) (N_57 : zNt), (∀ a j, ¬ WM_X8_readOnce P a j → M_57 a j = M0 a j) → (∀ a j, ¬ WN_X8_readOnce P a j → N_57 a j = N0 a j) → (jX P M_57) → (jY P M_57) → (jZ P M_57) → (Int32.toInt (M0 P 17) ≤ Int32.toInt (M_57 P 17)) → (-1 ≤ Int32.toInt y0_57 ∧ Int32.toInt y0_57 ≤ 2) → ∃ r, D_X8_readOnce_57 P y0_57 M_57 N_57 = some r ∧ ((∀ a j, ¬ WM_X8_readOnce P a j → r.2.1 a j = M0 a j) ∧ (∀ a j, ¬ WN_X8_readOnce P a j → r.2.2 a j = N0 a j) ∧ (r.1 = 0 ∨ r.1 = 1) ∧ ((jX P r.2.1) ∧ (jY P r.2.1) ∧ (jZ P r.2.1) ∧ (Int32.toInt (M0 P 17) ≤ Int32.toInt (r.2.1 P 17)))) := by
    intro y0_57 M_57 N_57 k_57 kn_57 p_jX_57 p_jY_57 p_jZ_57 f0_57 f1_57
    obtain ⟨u0_jX_57, u1_jX_57, u2_jX_57, u3_jX_57⟩ := id p_jX_57
    obtain ⟨u0_jY_57, u1_jY_57, u2_jY_57, u3_jY_57, u4_jY_57, u5_jY_57⟩ := id p_jY_57
    unfold D_X8_readOnce_57
    refine vIf (fun h_60 => ?_) (fun h_60 => ?_)
    · have i_60 := congrArg Int32.toInt h_60
      (try simp only [Int32.toInt_add, Int32.toInt_sub, Int32.toInt_mul, Int32.toInt_toInt64, Int64.toInt_add, z_m1, Int32.reduceToInt, Int64.reduceToInt, Int32.reduceToNatClampNeg, Int.bmod_def] at i_60)
      refine vB (v_X8_bad) (fun e_65 f_65 q_65 => ?_)
      have k_65 : ∀ a j, ¬ WM_X8_readOnce P a j → e_65.2 a j = M0 a j := fun a j h => (q_65.1 a j (wz_M_X8_bad_X8_readOnce h)).trans (k_57 a j h)
      have b_65 := q_65.2.1
      have c15_65 : Int32.toInt (e_65.2 P 15) = Int32.toInt (M_57 P 15) := congrArg Int32.toInt (q_65.1 P 15 (wc_X8_bad_15))
      have c17_65 : Int32.toInt (e_65.2 P 17) = Int32.toInt (M_57 P 17) := congrArg Int32.toInt (q_65.1 P 17 (wc_X8_bad_17))
      have c18_65 : Int32.toInt (e_65.2 P 18) = Int32.toInt (M_57 P 18) := congrArg Int32.toInt (q_65.1 P 18 (wc_X8_bad_18))
      have c20_65 : Int32.toInt (e_65.2 P 20) = Int32.toInt (M_57 P 20) := congrArg Int32.toInt (q_65.1 P 20 (wc_X8_bad_20))
      have c28_65 : Int32.toInt (e_65.2 P 28) = Int32.toInt (M_57 P 28) := congrArg Int32.toInt (q_65.1 P 28 (wc_X8_bad_28))
      have c29_65 : Int32.toInt (e_65.2 P 29) = Int32.toInt (M_57 P 29) := congrArg Int32.toInt (q_65.1 P 29 (wc_X8_bad_29))
      have c30_65 : Int32.toInt (e_65.2 P 30) = Int32.toInt (M_57 P 30) := congrArg Int32.toInt (q_65.1 P 30 (wc_X8_bad_30))
      have c31_65 : Int32.toInt (e_65.2 P 31) = Int32.toInt (M_57 P 31) := congrArg Int32.toInt (q_65.1 P 31 (wc_X8_bad_31))
      have n_65 : nA P e_65.2 = nA P M_57 := nA_congr (fun a j h => q_65.1 a j (wf_nA_X8_bad h))
      have p_jX_65 : jX P e_65.2 := jX.mono p_jX_57 (fun a j h => q_65.1 a j (wf_jX_X8_bad h))
      obtain ⟨u0_jX_65, u1_jX_65, u2_jX_65, u3_jX_65⟩ := id p_jX_65
      have p_jY_65 : jY P e_65.2 := jY.mono p_jY_57 (fun a j h => q_65.1 a j (wf_jY_X8_bad h))
      obtain ⟨u0_jY_65, u1_jY_65, u2_jY_65, u3_jY_65, u4_jY_65, u5_jY_65⟩ := id p_jY_65
      have p_jZ_65 : jZ P e_65.2 := jZ.mono p_jZ_57 (fun a j h => q_65.1 a j (wf_jZ_X8_bad h))
      have x0_65 := q_65.2.2
      (try simp only [Int32.toInt_add, Int32.toInt_sub, Int32.toInt_mul, Int32.toInt_toInt64, Int64.toInt_add, z_m1, Int32.reduceToInt, Int64.reduceToInt, Int32.reduceToNatClampNeg, Int.bmod_def] at x0_65)
      exact ⟨_, rfl, k_65, kn_57, (by first | exact Or.inl rfl | exact Or.inr rfl | assumption), ⟨p_jX_65, p_jY_65, p_jZ_65, (by first | omega | (simp only [Int32.toInt_add, Int32.toInt_sub, Int32.toInt_mul, Int32.toInt_toInt64, Int64.toInt_add, z_m1, Int32.reduceToInt, Int64.reduceToInt, Int32.reduceToNatClampNeg, Int.bmod_def, or_true, true_or, and_true, true_and] <;> omega))⟩⟩
    · have i_60 : ¬ Int32.toInt y0_57 = Int32.toInt (-1 : Int32) := fun q => h_60 (Int32.toInt_inj.mp q)
      (try simp only [Int32.toInt_add, Int32.toInt_sub, Int32.toInt_mul, Int32.toInt_toInt64, Int64.toInt_add, z_m1, Int32.reduceToInt, Int64.reduceToInt, Int32.reduceToNatClampNeg, Int.bmod_def] at i_60)
      refine vI (vp_of (by first | omega | (simp only [Int32.toInt_add, Int32.toInt_sub, Int32.toInt_mul, Int32.toInt_toInt64, Int64.toInt_add, z_m1, Int32.reduceToInt, Int64.reduceToInt, Int32.reduceToNatClampNeg, Int.bmod_def, or_true, true_or, and_true, true_and] <;> omega)) (by first | omega | (simp only [Int32.toInt_add, Int32.toInt_sub, Int32.toInt_mul, Int32.toInt_toInt64, Int64.toInt_add, z_m1, Int32.reduceToInt, Int64.reduceToInt, Int32.reduceToNatClampNeg, Int.bmod_def, or_true, true_or, and_true, true_and] <;> omega))) ?_
      refine vLm (W := WM_X8_readOnce P) (fun a j h => (zu_ne (fun z => wq_X8_readOnce_M2_r h z.1)).trans (k_57 a j h)) (fun M_76 f_76 k_76 => ?_)
      have c15_76 : Int32.toInt (M_76 P 15) = Int32.toInt (M_57 P 15) := congrArg Int32.toInt ((congrFun (congrFun f_76.symm P) 15).trans (zu_ne (fun z => wq_pne0 (by decide) z.1)))
      have c17_76 : Int32.toInt (M_76 P 17) = Int32.toInt (M_57 P 17) := congrArg Int32.toInt ((congrFun (congrFun f_76.symm P) 17).trans (zu_ne (fun z => wq_pne0 (by decide) z.1)))
      have c18_76 : Int32.toInt (M_76 P 18) = Int32.toInt (M_57 P 18) := congrArg Int32.toInt ((congrFun (congrFun f_76.symm P) 18).trans (zu_ne (fun z => wq_pne0 (by decide) z.1)))
      have c20_76 : Int32.toInt (M_76 P 20) = Int32.toInt (M_57 P 20) := congrArg Int32.toInt ((congrFun (congrFun f_76.symm P) 20).trans (zu_ne (fun z => wq_pne0 (by decide) z.1)))
      have c28_76 : Int32.toInt (M_76 P 28) = Int32.toInt (M_57 P 28) := congrArg Int32.toInt ((congrFun (congrFun f_76.symm P) 28).trans (zu_ne (fun z => wq_pne0 (by decide) z.1)))
      have c29_76 : Int32.toInt (M_76 P 29) = Int32.toInt (M_57 P 29) := congrArg Int32.toInt ((congrFun (congrFun f_76.symm P) 29).trans (zu_ne (fun z => wq_pne0 (by decide) z.1)))
      have c30_76 : Int32.toInt (M_76 P 30) = Int32.toInt (M_57 P 30) := congrArg Int32.toInt ((congrFun (congrFun f_76.symm P) 30).trans (zu_ne (fun z => wq_pne0 (by decide) z.1)))
      have c31_76 : Int32.toInt (M_76 P 31) = Int32.toInt (M_57 P 31) := congrArg Int32.toInt ((congrFun (congrFun f_76.symm P) 31).trans (zu_ne (fun z => wq_pne0 (by decide) z.1)))
      have n_76 : nA P M_76 = nA P M_57 := nA_congr (fun a j h => (congrFun (congrFun f_76.symm a) j).trans (zu_ne (fun z => wf_nA_M2_r h z.1)))
      have p_jX_76 : jX P M_76 := jX.mono p_jX_57 (fun a j h => (congrFun (congrFun f_76.symm a) j).trans (zu_ne (fun z => wf_jX_M2_r h z.1)))
      obtain ⟨u0_jX_76, u1_jX_76, u2_jX_76, u3_jX_76⟩ := id p_jX_76
      have p_jY_76 : jY P M_76 := jY.mono p_jY_57 (fun a j h => (congrFun (congrFun f_76.symm a) j).trans (zu_ne (fun z => wf_jY_M2_r h z.1)))
      obtain ⟨u0_jY_76, u1_jY_76, u2_jY_76, u3_jY_76, u4_jY_76, u5_jY_76⟩ := id p_jY_76
      have p_jZ_76 : jZ P M_76 := jZ.put p_jZ_57 (by omega) f_76 (Or.inr (Or.inr (Or.inr (Or.inl ⟨by decide, (by first | omega | (simp only [Int32.toInt_add, Int32.toInt_sub, Int32.toInt_mul, Int32.toInt_toInt64, Int64.toInt_add, z_m1, Int32.reduceToInt, Int64.reduceToInt, Int32.reduceToNatClampNeg, Int.bmod_def, or_true, true_or, and_true, true_and] <;> omega)), (by first | omega | (simp only [Int32.toInt_add, Int32.toInt_sub, Int32.toInt_mul, Int32.toInt_toInt64, Int64.toInt_add, z_m1, Int32.reduceToInt, Int64.reduceToInt, Int32.reduceToNatClampNeg, Int.bmod_def, or_true, true_or, and_true, true_and] <;> omega))⟩))))
      refine vB (v_X8_next p_jX_76) (fun e_78 f_78 q_78 => ?_)
      have k_78 : ∀ a j, ¬ WM_X8_readOnce P a j → e_78.2.1 a j = M0 a j := fun a j h => (q_78.1 a j (wz_M_X8_next_X8_readOnce h)).trans (k_76 a j h)
      have kn_78 : ∀ a j, ¬ WN_X8_readOnce P a j → e_78.2.2 a j = N0 a j := fun a j h => (q_78.2.1 a j (wz_N_X8_next_X8_readOnce h)).trans (kn_57 a j h)
      have b_78 := q_78.2.2.1
      have c15_78 : Int32.toInt (e_78.2.1 P 15) = Int32.toInt (M_76 P 15) := congrArg Int32.toInt (q_78.1 P 15 (wc_X8_next_15))
      have c28_78 : Int32.toInt (e_78.2.1 P 28) = Int32.toInt (M_76 P 28) := congrArg Int32.toInt (q_78.1 P 28 (wc_X8_next_28))
      have c29_78 : Int32.toInt (e_78.2.1 P 29) = Int32.toInt (M_76 P 29) := congrArg Int32.toInt (q_78.1 P 29 (wc_X8_next_29))
      have c30_78 : Int32.toInt (e_78.2.1 P 30) = Int32.toInt (M_76 P 30) := congrArg Int32.toInt (q_78.1 P 30 (wc_X8_next_30))
      have c31_78 : Int32.toInt (e_78.2.1 P 31) = Int32.toInt (M_76 P 31) := congrArg Int32.toInt (q_78.1 P 31 (wc_X8_next_31))
      have n_78 : nA P e_78.2.1 = nA P M_76 := nA_congr (fun a j h => q_78.1 a j (wf_nA_X8_next h))
      have p_jY_78 : jY P e_78.2.1 := jY.mono p_jY_76 (fun a j h => q_78.1 a j (wf_jY_X8_next h))
      obtain ⟨u0_jY_78, u1_jY_78, u2_jY_78, u3_jY_78, u4_jY_78, u5_jY_78⟩ := id p_jY_78
      have p_jZ_78 : jZ P e_78.2.1 := jZ.mono p_jZ_76 (fun a j h => q_78.1 a j (wf_jZ_X8_next h))
      obtain ⟨x0_78, x1_78, x2_78, x3_78⟩ := q_78.2.2.2
      obtain ⟨u0_jX_78, u1_jX_78, u2_jX_78, u3_jX_78⟩ := id x0_78
      (try simp only [Int32.toInt_add, Int32.toInt_sub, Int32.toInt_mul, Int32.toInt_toInt64, Int64.toInt_add, z_m1, Int32.reduceToInt, Int64.reduceToInt, Int32.reduceToNatClampNeg, Int.bmod_def] at x1_78)
      (try simp only [Int32.toInt_add, Int32.toInt_sub, Int32.toInt_mul, Int32.toInt_toInt64, Int64.toInt_add, z_m1, Int32.reduceToInt, Int64.reduceToInt, Int32.reduceToNatClampNeg, Int.bmod_def] at x2_78)
      (try simp only [Int32.toInt_add, Int32.toInt_sub, Int32.toInt_mul, Int32.toInt_toInt64, Int64.toInt_add, z_m1, Int32.reduceToInt, Int64.reduceToInt, Int32.reduceToNatClampNeg, Int.bmod_def] at x3_78)
      exact ⟨_, rfl, k_78, kn_78, (by first | exact Or.inl rfl | exact Or.inr rfl | assumption), ⟨x0_78, p_jY_78, p_jZ_78, (by first | omega | (simp only [Int32.toInt_add, Int32.toInt_sub, Int32.toInt_mul, Int32.toInt_toInt64, Int64.toInt_add, z_m1, Int32.reduceToInt, Int64.reduceToInt, Int32.reduceToNatClampNeg, Int.bmod_def, or_true, true_or, and_true, true_and] <;> omega))⟩⟩
  unfold D_X8_readOnce
  refine vB (v_X8_has) (fun e_5 f_5 q_5 => ?_)
  have b_5 := q_5.1
  have x0_5 := q_5.2
  refine vIf (fun h_8 => ?_) (fun h_8 => ?_)
  · have i_8 := congrArg Int32.toInt h_8
    (try simp only [Int32.toInt_add, Int32.toInt_sub, Int32.toInt_mul, Int32.toInt_toInt64, Int64.toInt_add, z_m1, Int32.reduceToInt, Int64.reduceToInt, Int32.reduceToNatClampNeg, Int.bmod_def] at i_8)
    refine vLm (W := WM_X8_readOnce P) (fun a j h => (zu_ne (wq_X8_readOnce_M0_23 h))) (fun M_26 f_26 k_26 => ?_)
    have c15_26 : Int32.toInt (M_26 P 15) = Int32.toInt (M0 P 15) := congrArg Int32.toInt ((congrFun (congrFun f_26.symm P) 15).trans (zu_ne (fun z => absurd z.2 (by decide))))
    have c17_26 : Int32.toInt (M_26 P 17) = Int32.toInt (M0 P 17) := congrArg Int32.toInt ((congrFun (congrFun f_26.symm P) 17).trans (zu_ne (fun z => absurd z.2 (by decide))))
    have c18_26 : Int32.toInt (M_26 P 18) = Int32.toInt (M0 P 18) := congrArg Int32.toInt ((congrFun (congrFun f_26.symm P) 18).trans (zu_ne (fun z => absurd z.2 (by decide))))
    have c20_26 : Int32.toInt (M_26 P 20) = Int32.toInt (M0 P 20) := congrArg Int32.toInt ((congrFun (congrFun f_26.symm P) 20).trans (zu_ne (fun z => absurd z.2 (by decide))))
    have c28_26 : Int32.toInt (M_26 P 28) = Int32.toInt (M0 P 28) := congrArg Int32.toInt ((congrFun (congrFun f_26.symm P) 28).trans (zu_ne (fun z => absurd z.2 (by decide))))
    have c29_26 : Int32.toInt (M_26 P 29) = Int32.toInt (M0 P 29) := congrArg Int32.toInt ((congrFun (congrFun f_26.symm P) 29).trans (zu_ne (fun z => absurd z.2 (by decide))))
    have c30_26 : Int32.toInt (M_26 P 30) = Int32.toInt (M0 P 30) := congrArg Int32.toInt ((congrFun (congrFun f_26.symm P) 30).trans (zu_ne (fun z => absurd z.2 (by decide))))
    have c31_26 : Int32.toInt (M_26 P 31) = Int32.toInt (M0 P 31) := congrArg Int32.toInt ((congrFun (congrFun f_26.symm P) 31).trans (zu_ne (fun z => absurd z.2 (by decide))))
    have n_26 : nA P M_26 = nA P M0 := nA_congr (fun a j h => (congrFun (congrFun f_26.symm a) j).trans (zu_ne (wf_nA_M0_23 h)))
    have p_jX_26 : jX P M_26 := jX.mono p_jX (fun a j h => (congrFun (congrFun f_26.symm a) j).trans (zu_ne (wf_jX_M0_23 h)))
    obtain ⟨u0_jX_26, u1_jX_26, u2_jX_26, u3_jX_26⟩ := id p_jX_26
    have p_jY_26 : jY P M_26 := jY.mono p_jY (fun a j h => (congrFun (congrFun f_26.symm a) j).trans (zu_ne (wf_jY_M0_23 h)))
    obtain ⟨u0_jY_26, u1_jY_26, u2_jY_26, u3_jY_26, u4_jY_26, u5_jY_26⟩ := id p_jY_26
    have p_jZ_26 : jZ P M_26 := jZ.mono p_jZ (fun a j h => (congrFun (congrFun f_26.symm a) j).trans (zu_ne (wf_jZ_M0_23 h)))
    refine vB (v_X8_next p_jX_26) (fun e_30 f_30 q_30 => ?_)
    have k_30 : ∀ a j, ¬ WM_X8_readOnce P a j → e_30.2.1 a j = M0 a j := fun a j h => (q_30.1 a j (wz_M_X8_next_X8_readOnce h)).trans (k_26 a j h)
    have kn_30 : ∀ a j, ¬ WN_X8_readOnce P a j → e_30.2.2 a j = N0 a j := fun a j h => (q_30.2.1 a j (wz_N_X8_next_X8_readOnce h))
    have b_30 := q_30.2.2.1
    have c15_30 : Int32.toInt (e_30.2.1 P 15) = Int32.toInt (M_26 P 15) := congrArg Int32.toInt (q_30.1 P 15 (wc_X8_next_15))
    have c28_30 : Int32.toInt (e_30.2.1 P 28) = Int32.toInt (M_26 P 28) := congrArg Int32.toInt (q_30.1 P 28 (wc_X8_next_28))
    have c29_30 : Int32.toInt (e_30.2.1 P 29) = Int32.toInt (M_26 P 29) := congrArg Int32.toInt (q_30.1 P 29 (wc_X8_next_29))
    have c30_30 : Int32.toInt (e_30.2.1 P 30) = Int32.toInt (M_26 P 30) := congrArg Int32.toInt (q_30.1 P 30 (wc_X8_next_30))
    have c31_30 : Int32.toInt (e_30.2.1 P 31) = Int32.toInt (M_26 P 31) := congrArg Int32.toInt (q_30.1 P 31 (wc_X8_next_31))
    have n_30 : nA P e_30.2.1 = nA P M_26 := nA_congr (fun a j h => q_30.1 a j (wf_nA_X8_next h))
    have p_jY_30 : jY P e_30.2.1 := jY.mono p_jY_26 (fun a j h => q_30.1 a j (wf_jY_X8_next h))
    obtain ⟨u0_jY_30, u1_jY_30, u2_jY_30, u3_jY_30, u4_jY_30, u5_jY_30⟩ := id p_jY_30
    have p_jZ_30 : jZ P e_30.2.1 := jZ.mono p_jZ_26 (fun a j h => q_30.1 a j (wf_jZ_X8_next h))
    obtain ⟨x0_30, x1_30, x2_30, x3_30⟩ := q_30.2.2.2
    obtain ⟨u0_jX_30, u1_jX_30, u2_jX_30, u3_jX_30⟩ := id x0_30
    (try simp only [Int32.toInt_add, Int32.toInt_sub, Int32.toInt_mul, Int32.toInt_toInt64, Int64.toInt_add, z_m1, Int32.reduceToInt, Int64.reduceToInt, Int32.reduceToNatClampNeg, Int.bmod_def] at x1_30)
    (try simp only [Int32.toInt_add, Int32.toInt_sub, Int32.toInt_mul, Int32.toInt_toInt64, Int64.toInt_add, z_m1, Int32.reduceToInt, Int64.reduceToInt, Int32.reduceToNatClampNeg, Int.bmod_def] at x2_30)
    (try simp only [Int32.toInt_add, Int32.toInt_sub, Int32.toInt_mul, Int32.toInt_toInt64, Int64.toInt_add, z_m1, Int32.reduceToInt, Int64.reduceToInt, Int32.reduceToNatClampNeg, Int.bmod_def] at x3_30)
    refine vIf (fun h_36 => ?_) (fun h_36 => ?_)
    · have i_36 := congrArg Int32.toInt h_36
      (try simp only [Int32.toInt_add, Int32.toInt_sub, Int32.toInt_mul, Int32.toInt_toInt64, Int64.toInt_add, z_m1, Int32.reduceToInt, Int64.reduceToInt, Int32.reduceToNatClampNeg, Int.bmod_def] at i_36)
      refine vIf (fun h_44 => ?_) (fun h_44 => ?_)
      · have i_44 := congrArg Int32.toInt h_44
        (try simp only [Int32.toInt_add, Int32.toInt_sub, Int32.toInt_mul, Int32.toInt_toInt64, Int64.toInt_add, z_m1, Int32.reduceToInt, Int64.reduceToInt, Int32.reduceToNatClampNeg, Int.bmod_def] at i_44)
        refine vB (v_X8_among (by first | assumption | decide)) (fun e_50 f_50 q_50 => ?_)
        have z_50 : -1 ≤ Int32.toInt e_50 ∧ Int32.toInt e_50 ≤ 2 := by obtain ⟨r9, e9, h9⟩ := @w_X8_among P e_30.2.2; rw [f_50] at e9; cases e9; exact h9
        exact T_57 _ _ _ k_30 kn_30 x0_30 p_jY_30 p_jZ_30 (by first | omega | (simp only [Int32.toInt_add, Int32.toInt_sub, Int32.toInt_mul, Int32.toInt_toInt64, Int64.toInt_add, z_m1, Int32.reduceToInt, Int64.reduceToInt, Int32.reduceToNatClampNeg, Int.bmod_def, or_true, true_or, and_true, true_and] <;> omega)) (by first | omega | (simp only [Int32.toInt_add, Int32.toInt_sub, Int32.toInt_mul, Int32.toInt_toInt64, Int64.toInt_add, z_m1, Int32.reduceToInt, Int64.reduceToInt, Int32.reduceToNatClampNeg, Int.bmod_def, or_true, true_or, and_true, true_and] <;> omega))
      · have i_44 : ¬ Int32.toInt (e_30.2.1 P 18) = Int32.toInt (2 : Int32) := fun q => h_44 (Int32.toInt_inj.mp q)
        (try simp only [Int32.toInt_add, Int32.toInt_sub, Int32.toInt_mul, Int32.toInt_toInt64, Int64.toInt_add, z_m1, Int32.reduceToInt, Int64.reduceToInt, Int32.reduceToNatClampNeg, Int.bmod_def] at i_44)
        exact T_57 _ _ _ k_30 kn_30 x0_30 p_jY_30 p_jZ_30 (by first | omega | (simp only [Int32.toInt_add, Int32.toInt_sub, Int32.toInt_mul, Int32.toInt_toInt64, Int64.toInt_add, z_m1, Int32.reduceToInt, Int64.reduceToInt, Int32.reduceToNatClampNeg, Int.bmod_def, or_true, true_or, and_true, true_and] <;> omega)) (by first | omega | (simp only [Int32.toInt_add, Int32.toInt_sub, Int32.toInt_mul, Int32.toInt_toInt64, Int64.toInt_add, z_m1, Int32.reduceToInt, Int64.reduceToInt, Int32.reduceToNatClampNeg, Int.bmod_def, or_true, true_or, and_true, true_and] <;> omega))
    · have i_36 : ¬ Int32.toInt v0 = Int32.toInt (5 : Int32) := fun q => h_36 (Int32.toInt_inj.mp q)
      (try simp only [Int32.toInt_add, Int32.toInt_sub, Int32.toInt_mul, Int32.toInt_toInt64, Int64.toInt_add, z_m1, Int32.reduceToInt, Int64.reduceToInt, Int32.reduceToNatClampNeg, Int.bmod_def] at i_36)
      refine vB (v_X8_number x0_30 p_jY_30 (by first | omega | (simp only [Int32.toInt_add, Int32.toInt_sub, Int32.toInt_mul, Int32.toInt_toInt64, Int64.toInt_add, z_m1, Int32.reduceToInt, Int64.reduceToInt, Int32.reduceToNatClampNeg, Int.bmod_def, or_true, true_or, and_true, true_and] <;> omega))) (fun e_86 f_86 q_86 => ?_)
      have k_86 : ∀ a j, ¬ WM_X8_readOnce P a j → e_86.2.1 a j = M0 a j := fun a j h => (q_86.1 a j (wz_M_X8_number_X8_readOnce h)).trans (k_30 a j h)
      have kn_86 : ∀ a j, ¬ WN_X8_readOnce P a j → e_86.2.2 a j = N0 a j := fun a j h => (q_86.2.1 a j (wz_N_X8_number_X8_readOnce h)).trans (kn_30 a j h)
      have b_86 := q_86.2.2.1
      have c15_86 : Int32.toInt (e_86.2.1 P 15) = Int32.toInt (e_30.2.1 P 15) := congrArg Int32.toInt (q_86.1 P 15 (wc_X8_number_15))
      have c28_86 : Int32.toInt (e_86.2.1 P 28) = Int32.toInt (e_30.2.1 P 28) := congrArg Int32.toInt (q_86.1 P 28 (wc_X8_number_28))
      have c29_86 : Int32.toInt (e_86.2.1 P 29) = Int32.toInt (e_30.2.1 P 29) := congrArg Int32.toInt (q_86.1 P 29 (wc_X8_number_29))
      have c30_86 : Int32.toInt (e_86.2.1 P 30) = Int32.toInt (e_30.2.1 P 30) := congrArg Int32.toInt (q_86.1 P 30 (wc_X8_number_30))
      have n_86 : nA P e_86.2.1 = nA P e_30.2.1 := nA_congr (fun a j h => q_86.1 a j (wf_nA_X8_number h))
      have p_jY_86 : jY P e_86.2.1 := jY.mono p_jY_30 (fun a j h => q_86.1 a j (wf_jY_X8_number h))
      obtain ⟨u0_jY_86, u1_jY_86, u2_jY_86, u3_jY_86, u4_jY_86, u5_jY_86⟩ := id p_jY_86
      have p_jZ_86 : jZ P e_86.2.1 := jZ.mono p_jZ_30 (fun a j h => q_86.1 a j (wf_jZ_X8_number h))
      obtain ⟨x0_86, x1_86, x2_86⟩ := q_86.2.2.2
      obtain ⟨u0_jX_86, u1_jX_86, u2_jX_86, u3_jX_86⟩ := id x0_86
      (try simp only [Int32.toInt_add, Int32.toInt_sub, Int32.toInt_mul, Int32.toInt_toInt64, Int64.toInt_add, z_m1, Int32.reduceToInt, Int64.reduceToInt, Int32.reduceToNatClampNeg, Int.bmod_def] at x1_86)
      (try simp only [Int32.toInt_add, Int32.toInt_sub, Int32.toInt_mul, Int32.toInt_toInt64, Int64.toInt_add, z_m1, Int32.reduceToInt, Int64.reduceToInt, Int32.reduceToNatClampNeg, Int.bmod_def] at x2_86)
      refine vIf (fun h_89 => ?_) (fun h_89 => ?_)
      · have i_89 := congrArg Int32.toInt h_89
        (try simp only [Int32.toInt_add, Int32.toInt_sub, Int32.toInt_mul, Int32.toInt_toInt64, Int64.toInt_add, z_m1, Int32.reduceToInt, Int64.reduceToInt, Int32.reduceToNatClampNeg, Int.bmod_def] at i_89)
        exact ⟨_, rfl, k_86, kn_86, (by first | exact Or.inl rfl | exact Or.inr rfl | assumption), ⟨x0_86, p_jY_86, p_jZ_86, (by first | omega | (simp only [Int32.toInt_add, Int32.toInt_sub, Int32.toInt_mul, Int32.toInt_toInt64, Int64.toInt_add, z_m1, Int32.reduceToInt, Int64.reduceToInt, Int32.reduceToNatClampNeg, Int.bmod_def, or_true, true_or, and_true, true_and] <;> omega))⟩⟩
      · have i_89 : ¬ Int32.toInt e_86.1 = Int32.toInt (0 : Int32) := fun q => h_89 (Int32.toInt_inj.mp q)
        (try simp only [Int32.toInt_add, Int32.toInt_sub, Int32.toInt_mul, Int32.toInt_toInt64, Int64.toInt_add, z_m1, Int32.reduceToInt, Int64.reduceToInt, Int32.reduceToNatClampNeg, Int.bmod_def] at i_89)
        refine vIf (fun h_101 => ?_) (fun h_101 => ?_)
        · have i_101 := congrArg Int32.toInt h_101
          (try simp only [Int32.toInt_add, Int32.toInt_sub, Int32.toInt_mul, Int32.toInt_toInt64, Int64.toInt_add, z_m1, Int32.reduceToInt, Int64.reduceToInt, Int32.reduceToNatClampNeg, Int.bmod_def] at i_101)
          exact T_111 _ _ _ k_86 kn_86 x0_86 p_jY_86 p_jZ_86 (by first | omega | (simp only [Int32.toInt_add, Int32.toInt_sub, Int32.toInt_mul, Int32.toInt_toInt64, Int64.toInt_add, z_m1, Int32.reduceToInt, Int64.reduceToInt, Int32.reduceToNatClampNeg, Int.bmod_def, or_true, true_or, and_true, true_and] <;> omega)) (by first | omega | (simp only [Int32.toInt_add, Int32.toInt_sub, Int32.toInt_mul, Int32.toInt_toInt64, Int64.toInt_add, z_m1, Int32.reduceToInt, Int64.reduceToInt, Int32.reduceToNatClampNeg, Int.bmod_def, or_true, true_or, and_true, true_and] <;> omega)) (by first | omega | (simp only [Int32.toInt_add, Int32.toInt_sub, Int32.toInt_mul, Int32.toInt_toInt64, Int64.toInt_add, z_m1, Int32.reduceToInt, Int64.reduceToInt, Int32.reduceToNatClampNeg, Int.bmod_def, or_true, true_or, and_true, true_and] <;> omega))
        · have i_101 : ¬ Int32.toInt v0 = Int32.toInt (6 : Int32) := fun q => h_101 (Int32.toInt_inj.mp q)
          (try simp only [Int32.toInt_add, Int32.toInt_sub, Int32.toInt_mul, Int32.toInt_toInt64, Int64.toInt_add, z_m1, Int32.reduceToInt, Int64.reduceToInt, Int32.reduceToNatClampNeg, Int.bmod_def] at i_101)
          exact T_111 _ _ _ k_86 kn_86 x0_86 p_jY_86 p_jZ_86 (by first | omega | (simp only [Int32.toInt_add, Int32.toInt_sub, Int32.toInt_mul, Int32.toInt_toInt64, Int64.toInt_add, z_m1, Int32.reduceToInt, Int64.reduceToInt, Int32.reduceToNatClampNeg, Int.bmod_def, or_true, true_or, and_true, true_and] <;> omega)) (by first | omega | (simp only [Int32.toInt_add, Int32.toInt_sub, Int32.toInt_mul, Int32.toInt_toInt64, Int64.toInt_add, z_m1, Int32.reduceToInt, Int64.reduceToInt, Int32.reduceToNatClampNeg, Int.bmod_def, or_true, true_or, and_true, true_and] <;> omega)) (by first | omega | (simp only [Int32.toInt_add, Int32.toInt_sub, Int32.toInt_mul, Int32.toInt_toInt64, Int64.toInt_add, z_m1, Int32.reduceToInt, Int64.reduceToInt, Int32.reduceToNatClampNeg, Int.bmod_def, or_true, true_or, and_true, true_and] <;> omega))
  · have i_8 : ¬ Int32.toInt e_5 = Int32.toInt (0 : Int32) := fun q => h_8 (Int32.toInt_inj.mp q)
    (try simp only [Int32.toInt_add, Int32.toInt_sub, Int32.toInt_mul, Int32.toInt_toInt64, Int64.toInt_add, z_m1, Int32.reduceToInt, Int64.reduceToInt, Int32.reduceToNatClampNeg, Int.bmod_def] at i_8)
    refine vB (v_X8_bad) (fun e_13 f_13 q_13 => ?_)
    have k_13 : ∀ a j, ¬ WM_X8_readOnce P a j → e_13.2 a j = M0 a j := fun a j h => (q_13.1 a j (wz_M_X8_bad_X8_readOnce h))
    have b_13 := q_13.2.1
    have c15_13 : Int32.toInt (e_13.2 P 15) = Int32.toInt (M0 P 15) := congrArg Int32.toInt (q_13.1 P 15 (wc_X8_bad_15))
    have c17_13 : Int32.toInt (e_13.2 P 17) = Int32.toInt (M0 P 17) := congrArg Int32.toInt (q_13.1 P 17 (wc_X8_bad_17))
    have c18_13 : Int32.toInt (e_13.2 P 18) = Int32.toInt (M0 P 18) := congrArg Int32.toInt (q_13.1 P 18 (wc_X8_bad_18))
    have c20_13 : Int32.toInt (e_13.2 P 20) = Int32.toInt (M0 P 20) := congrArg Int32.toInt (q_13.1 P 20 (wc_X8_bad_20))
    have c28_13 : Int32.toInt (e_13.2 P 28) = Int32.toInt (M0 P 28) := congrArg Int32.toInt (q_13.1 P 28 (wc_X8_bad_28))
    have c29_13 : Int32.toInt (e_13.2 P 29) = Int32.toInt (M0 P 29) := congrArg Int32.toInt (q_13.1 P 29 (wc_X8_bad_29))
    have c30_13 : Int32.toInt (e_13.2 P 30) = Int32.toInt (M0 P 30) := congrArg Int32.toInt (q_13.1 P 30 (wc_X8_bad_30))
    have c31_13 : Int32.toInt (e_13.2 P 31) = Int32.toInt (M0 P 31) := congrArg Int32.toInt (q_13.1 P 31 (wc_X8_bad_31))
    have n_13 : nA P e_13.2 = nA P M0 := nA_congr (fun a j h => q_13.1 a j (wf_nA_X8_bad h))
    have p_jX_13 : jX P e_13.2 := jX.mono p_jX (fun a j h => q_13.1 a j (wf_jX_X8_bad h))
    obtain ⟨u0_jX_13, u1_jX_13, u2_jX_13, u3_jX_13⟩ := id p_jX_13
    have p_jY_13 : jY P e_13.2 := jY.mono p_jY (fun a j h => q_13.1 a j (wf_jY_X8_bad h))
    obtain ⟨u0_jY_13, u1_jY_13, u2_jY_13, u3_jY_13, u4_jY_13, u5_jY_13⟩ := id p_jY_13
    have p_jZ_13 : jZ P e_13.2 := jZ.mono p_jZ (fun a j h => q_13.1 a j (wf_jZ_X8_bad h))
    have x0_13 := q_13.2.2
    (try simp only [Int32.toInt_add, Int32.toInt_sub, Int32.toInt_mul, Int32.toInt_toInt64, Int64.toInt_add, z_m1, Int32.reduceToInt, Int64.reduceToInt, Int32.reduceToNatClampNeg, Int.bmod_def] at x0_13)
    exact ⟨_, rfl, k_13, (fun _ _ _ => rfl), (by first | exact Or.inl rfl | exact Or.inr rfl | assumption), ⟨p_jX_13, p_jY_13, p_jZ_13, (by first | omega | (simp only [Int32.toInt_add, Int32.toInt_sub, Int32.toInt_mul, Int32.toInt_toInt64, Int64.toInt_add, z_m1, Int32.reduceToInt, Int64.reduceToInt, Int32.reduceToNatClampNeg, Int.bmod_def, or_true, true_or, and_true, true_and] <;> omega))⟩⟩
/-! a party is read -/
/-- parties are told to the hunters below k -/
def jRowQ (r : Nat → Int32) (U H G : Int) (k : Nat) (s : Int32) : Prop :=
  (∀ h : Nat, h < 10 → 0 ≤ (r h).toInt ∧ (r h).toInt ≤ 20) ∧
  (∀ h : Nat, h < 10 → -1 ≤ (r (10 + h)).toInt ∧ (r (10 + h)).toInt < G + 1 ∧ ((h : Int) < H ∨ (r (10 + h)).toInt = -1)) ∧
  (∀ k : Nat, 20 ≤ k → k < 62 → -1 ≤ (r k).toInt ∧ (r k).toInt < U) ∧
  (∀ u : Nat, u < 5 → 0 ≤ (r (62 + u)).toInt ∧ (r (62 + u)).toInt ≤ 20) ∧
  (0 ≤ (r 67).toInt ∧ (r 67).toInt ≤ 2 ∧ 0 ≤ (r 68).toInt ∧ (r 68).toInt ≤ 100 ∧ 0 ≤ (r 69).toInt ∧ (r 69).toInt ≤ 100) ∧
  (∀ p : Nat, (p : Int) < G → ∃ h : Nat, (h : Int) < H ∧ (r (10 + h)).toInt = p) ∧
  (∀ h : Nat, k ≤ h → (h : Int) < H → bitAt s h → (r (10 + h)).toInt = -1) ∧
  ((∃ h : Nat, (h : Int) < H ∧ (r (10 + h)).toInt = G) ∨ ∃ h : Nat, k ≤ h ∧ (h : Int) < H ∧ bitAt s h)
theorem jRowQ.fin {r : Nat → Int32} {U H G : Int} {k : Nat} {s : Int32} (h : jRowQ r U H G k s) (hk : H ≤ k) : jRowP r U H (G + 1) := by
  obtain ⟨s1, s2, s3, s4, s5, s6, s7, s8⟩ := h
  refine ⟨s1, s2, s3, s4, s5, fun p hp => ?_⟩
  by_cases q : (p : Int) < G
  · exact s6 p q
  · rcases s8 with ⟨x, h1, h2⟩ | ⟨x, h1, h2, _⟩
    · exact ⟨x, h1, by omega⟩
    · omega
theorem jRowQ.skip {r : Nat → Int32} {U H G : Int} {k : Nat} {s : Int32} (h : jRowQ r U H G k s) (hb : ¬ bitAt s k) : jRowQ r U H G (k + 1) s := by
  obtain ⟨s1, s2, s3, s4, s5, s6, s7, s8⟩ := h
  refine ⟨s1, s2, s3, s4, s5, s6, fun x hx => s7 x (by omega), ?_⟩
  rcases s8 with q | ⟨x, h1, h2, h3⟩
  · exact Or.inl q
  · have : x ≠ k := fun z => hb (z ▸ h3)
    exact Or.inr ⟨x, by omega, h2, h3⟩
theorem jRowQ.wr {r r' : Nat → Int32} {U H G : Int} {k : Nat} {s : Int32} (h : jRowQ r U H G k s) (hk : (k : Int) < H) (hH : H ≤ 10) (hG : 0 ≤ G) (hb : bitAt s k) (e : ∀ j, ¬ j = 10 + k → r' j = r j) (e1 : (r' (10 + k)).toInt = G) : jRowQ r' U H G (k + 1) s := by
  obtain ⟨s1, s2, s3, s4, s5, s6, s7, s8⟩ := h
  have hm := s7 k (Nat.le_refl k) hk hb
  refine ⟨fun x hx => ?_, fun x hx => ?_, fun x h1 h2 => ?_, fun x hx => ?_, ?_, fun p hp => ?_, fun x h1 h2 h3 => ?_, Or.inl ⟨k, hk, e1⟩⟩
  · rw [e x (by omega)]; exact s1 x hx
  · by_cases q : x = k
    · subst q; omega
    · rw [e (10 + x) (by omega)]; exact s2 x hx
  · rw [e x (by omega)]; exact s3 x h1 h2
  · rw [e (62 + x) (by omega)]; exact s4 x hx
  · rw [e 67 (by omega), e 68 (by omega), e 69 (by omega)]; exact s5
  · obtain ⟨x, h1, h2⟩ := s6 p hp
    have : x ≠ k := fun z => by subst z; omega
    exact ⟨x, h1, by rw [e (10 + x) (by omega)]; exact h2⟩
  · rw [e (10 + x) (by omega)]; exact s7 x (by omega) h2 h3
theorem w_party161 {P : Nat} {x : Int64} {s : Int32} : ∀ (u k : Nat) (M : zMt) (N : zNt), jY P M → (M P 30).toInt ≤ 3 → (k : Int) ≤ (M P 29).toInt → 10 - k < u → jRowQ (M (P + 2)) (M P 28).toInt (M P 29).toInt (M P 30).toInt k s → ∃ r, D_X8_readParty_161 P u x s (nI k) M N = some r ∧ ((∀ a j, ¬ (a = P + 2 ∨ (a = P ∧ j = 30)) → r.2.1 a j = M a j) ∧ (∀ a j, ¬ a = P + 10 → r.2.2 a j = N a j) ∧ r.1 = 1 ∧ jY P r.2.1 ∧ jZ P r.2.1) := by
  have o1 : (1 : Int32).toInt = 1 := by decide
  intro u
  induction u with
  | zero => intro k M N _ _ _ h; omega
  | succ u ih =>
    intro k M N hY hG hk hu hQ
    obtain ⟨y1, y2, y3, y4, y5, y6⟩ := id hY
    rw [D_X8_readParty_161]
    refine vIf (fun hc => ?_) (fun hc => ?_)
    · have hc := Int32.le_iff_toInt_le.mp hc
      rw [nI_toInt (by omega)] at hc
      refine vI (vp_of (by omega) (by omega)) ?_
      refine vLn (W := fun a _ => a = P + 10) (M0 := N) (fun a j (h : ¬ a = P + 10) => zu_ne (by omega)) (fun N1 fN kN => ?_)
      refine vLm (W := fun a j => a = P ∧ j = 30) (M0 := M) (fun a j (h : ¬ (a = P ∧ j = 30)) => zu_ne (by omega)) (fun M1 fM kM => ?_)
      have kM : ∀ a j, ¬ (a = P ∧ j = 30) → M1 a j = M a j := kM
      have e30 : (M P 30 + 1).toInt = (M P 30).toInt + 1 := by rw [z_add (by rw [o1]; omega) (by rw [o1]; omega), o1]
      refine ⟨_, rfl, fun a j h => kM a j (by omega), kN, rfl, jY.put hY fM (Or.inr (Or.inr ⟨rfl, by omega, by omega⟩)), ?_⟩
      show jZ P M1
      unfold jZ
      rw [kM P 28 (by omega), kM P 29 (by omega), show M1 (P + 2) = M (P + 2) from funext fun j => kM (P + 2) j (by omega), show M1 P 30 = M P 30 + 1 by rw [← fM, zu_eq], e30]
      exact hQ.fin hc
    · have hlt : (k : Int) < (M P 29).toInt := by
        have := Int32.lt_iff_toInt_lt.mp (Int32.not_le.mp hc)
        rw [nI_toInt (by omega)] at this
        exact this
      refine vB v_X8_has (fun e f q => ?_)
      refine vIf (fun h1 => ?_) (fun h1 => ?_)
      · unfold D_X8_readParty_193
        rw [nI_1]
        have hb : ¬ bitAt s k := fun hb => by
          rcases q.2 with ⟨a, _⟩ | ⟨_, b⟩
          · rw [a] at h1; exact absurd h1 (by decide)
          · exact b hb
        exact ih (k + 1) M N hY hG (by omega) (by omega) (hQ.skip hb)
      · have hb : bitAt s k := by
          rcases q.2 with ⟨_, b⟩ | ⟨a, _⟩
          · exact b
          · exact absurd a h1
        have e10 : (10 : Int32) + nI k = nI (10 + k) := (show ∀ k, k < 10 → (10 : Int32) + nI k = nI (10 + k) by decide) k (by omega)
        rw [e10]
        refine vI (vp_in_nI (by omega) (by decide)) ?_
        rw [nI_clamp (by omega)]
        refine vLm (W := fun a j => a = P + 2) (M0 := M) (fun a j (h : ¬ a = P + 2) => zu_ne (by omega)) (fun M1 fM kM => ?_)
        have kM : ∀ a j, ¬ a = P + 2 → M1 a j = M a j := kM
        unfold D_X8_readParty_193
        rw [nI_1]
        have hQ' : jRowQ (M1 (P + 2)) (M1 P 28).toInt (M1 P 29).toInt (M1 P 30).toInt (k + 1) s := by
          rw [kM P 28 (by omega), kM P 29 (by omega), kM P 30 (by omega)]
          exact hQ.wr hlt y4 y5 hb (fun j hj => by rw [← fM]; exact zu_ne (by omega)) (by rw [← fM, zu_eq])
        obtain ⟨r, h2, h3, h4, h5, h6, h7⟩ := ih (k + 1) M1 N (hY.mono (fun a j h => kM a j (by omega))) (by rw [kM P 30 (by omega)]; exact hG) (by rw [kM P 29 (by omega)]; omega) (by omega) hQ'
        exact ⟨r, h2, fun a j h => (h3 a j h).trans (kM a j (by omega)), h4, h5, h6, h7⟩
def jMt (P : Nat) (M : zMt) (s : Int32) : Prop := ∀ h : Nat, h < 10 → bitAt s h → (h : Int) < (M P 29).toInt ∧ (M (P + 2) (10 + h)).toInt = -1
def jWP (P a j : Nat) : Prop := a = P + 2 ∨ (a = P ∧ ((16 ≤ j ∧ j ≤ 22) ∨ j = 30))
def jWN (P a j : Nat) : Prop := a = P + 10 ∨ (a = P ∧ (j = 24 ∨ j = 32))
def jPG (P : Nat) (M0 : zMt) (N0 : zNt) (r : Int32 × zMt × zNt) : Prop := (∀ a j, ¬ jWP P a j → r.2.1 a j = M0 a j) ∧ (∀ a j, ¬ jWN P a j → r.2.2 a j = N0 a j) ∧ (r.1 = 0 ∨ r.1 = 1) ∧ jX P r.2.1 ∧ jY P r.2.1 ∧ jZ P r.2.1 ∧ (M0 P 17).toInt ≤ (r.2.1 P 17).toInt
theorem w_partyBad {P : Nat} {M0 M : zMt} {N0 N : zNt} {v : Int32} (k : ∀ a j, ¬ jWP P a j → M a j = M0 a j) (kn : ∀ a j, ¬ jWN P a j → N a j = N0 a j) (hX : jX P M) (hY : jY P M) (hZ : jZ P M) (hl : (M0 P 17).toInt ≤ (M P 17).toInt) : ∃ r, (zB (D_X8_bad P v M) fun e => some (e.1, e.2, N)) = some r ∧ jPG P M0 N0 r := by
  refine vB v_X8_bad (fun e f q => ?_)
  obtain ⟨q1, q2, q3⟩ := q
  have k1 : ∀ a j, ¬ (a = P ∧ (j = 21 ∨ j = 22)) → e.2 a j = M a j := q1
  refine ⟨_, rfl, fun a j h => (k1 a j (by unfold jWP at h; omega)).trans (k a j h), kn, q2, hX.mono (fun a j h => k1 a j (by omega)), hY.mono (fun a j h => k1 a j (by omega)), hZ.mono (fun a j h => k1 a j (by omega)), ?_⟩
  show _ ≤ (e.2 P 17).toInt
  rw [k1 P 17 (by omega)]
  exact hl
theorem w_party40 {P : Nat} {x : Int64} {M0 : zMt} {N0 : zNt} : ∀ (u : Nat) (s x4 : Int32) (M : zMt) (N : zNt), (∀ a j, ¬ jWP P a j → M a j = M0 a j) → (∀ a j, ¬ jWN P a j → N a j = N0 a j) → jX P M → jY P M → jZ P M → (M0 P 17).toInt ≤ (M P 17).toInt → (M P 30).toInt ≤ 3 → jMt P M s → 0 ≤ x4.toInt → x4.toInt ≤ 4 → (x4.toInt = 0 ∨ ∃ h, h < 10 ∧ bitAt s h) → (4 - x4.toInt).toNat < u → ∃ r, D_X8_readParty_40 P u x s x4 M N = some r ∧ jPG P M0 N0 r := by
  have o1 : (1 : Int32).toInt = 1 := by decide
  have o2 : (2 : Int32).toInt = 2 := by decide
  have o4 : (4 : Int32).toInt = 4 := by decide
  have om : (-1 : Int32).toInt = -1 := by decide
  intro u
  induction u with
  | zero => intro s x4 M N _ _ _ _ _ _ _ _ _ _ _ h; omega
  | succ u ih =>
    intro s x4 M N k kn hX hY hZ hl hG hm h0 h4 hb hu
    obtain ⟨y1, y2, y3, y4, y5, y6⟩ := id hY
    have T53 : ∃ r, D_X8_readParty_53 P (D_X8_readParty_40 P u) x s x4 M N = some r ∧ jPG P M0 N0 r := by
      unfold D_X8_readParty_53
      have B2 : ∃ r, D_X8_readParty_66 P M N = some r ∧ jPG P M0 N0 r := w_partyBad k kn hX hY hZ hl
      have B4 : ∃ r, D_X8_readParty_134 P M N = some r ∧ jPG P M0 N0 r := w_partyBad k kn hX hY hZ hl
      refine vB v_X8_isName (fun e f q => ?_)
      refine vIf (fun _ => B2) (fun _ => ?_)
      refine vIf (fun _ => B2) (fun hx => ?_)
      have hx4 : ¬ x4.toInt = 4 := fun z => hx (Int32.toInt_inj.mp (z.trans o4.symm))
      refine vB (v_X8_found (by omega) (by omega)) (fun e2 f2 q2 => ?_)
      refine vIf (fun _ => B4) (fun h3 => ?_)
      have he : ¬ e2.toInt = -1 := fun z => h3 (Int32.toInt_inj.mp (z.trans om.symm))
      have e20 : 0 ≤ e2.toInt := by omega
      have e2H : e2.toInt < (M P 29).toInt := by omega
      obtain ⟨n, hn⟩ : ∃ n : Nat, e2 = nI n := ⟨_, z_toN e20⟩
      have hnI : n < 2147483648 ∨ True := Or.inr trivial
      have hnn : (e2.toInt.toNat : Int) = e2.toInt := by omega
      have hn2 : e2 = nI e2.toInt.toNat := z_toN e20
      clear hn hnI n
      revert hn2 hnn
      generalize e2.toInt.toNat = n
      intro hnn hn2
      have hn10 : n < 10 := by omega
      subst hn2
      have e10 : (10 : Int32) + nI n = nI (10 + n) := (show ∀ k, k < 10 → (10 : Int32) + nI k = nI (10 + k) by decide) n hn10
      rw [e10]
      refine vI (vp_in_nI (by omega) (by decide)) ?_
      rw [nI_clamp (by omega)]
      refine vIf (fun h5 => ?_) (fun _ => B4)
      have z20 := z_at20 e20 (by omega)
      refine vI (vp_of (by omega) (by omega)) ?_
      refine vIf (fun h6 => ?_) (fun _ => B4)
      refine vB v_X8_has (fun e3 f3 q3 => ?_)
      refine vIf (fun h7 => ?_) (fun _ => B4)
      refine vB (v_X8_next hX) (fun e4 f4 q4 => ?_)
      obtain ⟨k4, kn4, -, x4', -, l4, -⟩ := q4
      have k4 : ∀ a j, ¬ (a = P ∧ (j = 16 ∨ j = 17 ∨ j = 18 ∨ j = 19 ∨ j = 20)) → e4.2.1 a j = M a j := k4
      have kn4 : ∀ a j, ¬ (a = P ∧ (j = 24)) → e4.2.2 a j = N a j := kn4
      have ex : (x4 + 1).toInt = x4.toInt + 1 := by rw [z_add (by rw [o1]; omega) (by rw [o1]; omega), o1]
      have hbit : ∀ h, h < 10 → (bitAt (s ||| ((1 : Int32) <<< (nI n &&& 31))) h ↔ bitAt s h ∨ n = h) := fun h hh => by
        rw [bitAt_or hh]
        exact or_congr Iff.rfl (bitAt_one n hn10 h hh)
      refine ih _ _ _ _ (fun a j h => (k4 a j (by unfold jWP at h; omega)).trans (k a j h)) (fun a j h => (kn4 a j (by unfold jWN at h; omega)).trans (kn a j h)) x4' (hY.mono (fun a j h => k4 a j (by omega))) (hZ.mono (fun a j h => k4 a j (by omega))) (by omega) (by rw [k4 P 30 (by omega)]; exact hG) ?_ (by omega) (by omega) (Or.inr ⟨n, hn10, (hbit n hn10).mpr (Or.inr rfl)⟩) (by omega)
      intro h hh hs
      rw [k4 P 29 (by omega), k4 (P + 2) (10 + h) (by omega)]
      rcases (hbit h hh).mp hs with q | q
      · exact hm h hh q
      · subst q
        refine ⟨by omega, by rw [h5]; exact om⟩
    rw [D_X8_readParty_40]
    refine vIf (fun _ => T53) (fun hc => ?_)
    have hc2 : 2 ≤ x4.toInt := by
      have := Int32.le_iff_toInt_le.mp (Int32.not_lt.mp hc)
      omega
    refine vB v_X8_isName (fun e f q => ?_)
    refine vIf (fun _ => ?_) (fun _ => T53)
    have hQ : jRowQ (M (P + 2)) (M P 28).toInt (M P 29).toInt (M P 30).toInt 0 s := by
      obtain ⟨s1, s2, s3, s4, s5, s6⟩ := hZ
      refine ⟨s1, fun h hh => ?_, s3, s4, s5, s6, fun h _ hh hs => (hm h (by omega) hs).2, Or.inr ?_⟩
      · have := s2 h hh
        omega
      · rcases hb with z | ⟨h, hh, hs⟩
        · omega
        · exact ⟨h, Nat.zero_le h, (hm h hh hs).1, hs⟩
    obtain ⟨r, h1, h2, h3, h4, h5, h6⟩ := w_party161 (P := P) (x := x) zFu 0 M N hY hG (by omega) (by unfold zFu; omega) hQ
    rw [show nI 0 = (0 : Int32) by decide] at h1
    refine ⟨r, h1, fun a j h => (h2 a j (by unfold jWP at h; omega)).trans (k a j h), fun a j h => (h3 a j (by unfold jWN at h; omega)).trans (kn a j h), Or.inr h4, hX.mono (fun a j h => h2 a j (by omega)), h5, h6, ?_⟩
    rw [h2 P 17 (by omega)]
    exact hl
theorem h_X8_readParty {P : Nat} {M0 : zMt} {N0 : zNt} (hX : jX P M0) (hY : jY P M0) (hZ : jZ P M0) : ∃ r, D_X8_readParty P M0 N0 = some r ∧ jPG P M0 N0 r := by
  have o4 : (4 : Int32).toInt = 4 := by decide
  have o0 : (0 : Int32).toInt = 0 := by decide
  obtain ⟨y1, y2, y3, y4, y5, y6⟩ := id hY
  unfold D_X8_readParty
  refine vIf (fun _ => w_partyBad (fun _ _ _ => rfl) (fun _ _ _ => rfl) hX hY hZ (Int.le_refl _)) (fun hc => ?_)
  have hc4 : ¬ (M0 P 30).toInt = 4 := fun z => hc (Int32.toInt_inj.mp (z.trans o4.symm))
  refine vB (v_X8_next hX) (fun e f q => ?_)
  obtain ⟨k1, kn1, -, hX1, r1, l1, -⟩ := q
  have k1 : ∀ a j, ¬ (a = P ∧ (j = 16 ∨ j = 17 ∨ j = 18 ∨ j = 19 ∨ j = 20)) → e.2.1 a j = M0 a j := k1
  have kn1 : ∀ a j, ¬ (a = P ∧ (j = 24)) → e.2.2 a j = N0 a j := kn1
  have hY1 : jY P e.2.1 := hY.mono (fun a j h => k1 a j (by omega))
  have hZ1 : jZ P e.2.1 := hZ.mono (fun a j h => k1 a j (by omega))
  refine vIf (fun h1 => absurd r1 (by rw [h1]; decide)) (fun _ => ?_)
  refine vB (v_X8_newName hX1 hY1) (fun e2 f2 q2 => ?_)
  obtain ⟨k2, kn2, r2, hX2, l2⟩ := q2
  have k2 : ∀ a j, ¬ (a = P ∧ (j = 16 ∨ j = 17 ∨ j = 18 ∨ j = 19 ∨ j = 20 ∨ j = 21 ∨ j = 22)) → e2.2.1 a j = e.2.1 a j := k2
  have kn2 : ∀ a j, ¬ (a = P ∧ (j = 24 ∨ j = 32)) → e2.2.2 a j = e.2.2 a j := kn2
  have hY2 : jY P e2.2.1 := hY1.mono (fun a j h => k2 a j (by omega))
  have hZ2 : jZ P e2.2.1 := hZ1.mono (fun a j h => k2 a j (by omega))
  have k3 : ∀ a j, ¬ jWP P a j → e2.2.1 a j = M0 a j := fun a j h => (k2 a j (by unfold jWP at h; omega)).trans (k1 a j (by unfold jWP at h; omega))
  have kn3 : ∀ a j, ¬ jWN P a j → e2.2.2 a j = N0 a j := fun a j h => (kn2 a j (by unfold jWN at h; omega)).trans (kn1 a j (by unfold jWN at h; omega))
  refine vIf (fun _ => ⟨_, rfl, k3, kn3, Or.inl rfl, hX2, hY2, hZ2, by show _ ≤ (e2.2.1 P 17).toInt; omega⟩) (fun _ => ?_)
  refine w_party40 zFu _ _ _ _ k3 kn3 hX2 hY2 hZ2 (by omega) ?_ (fun h _ hs => absurd hs bitAt_0) (by decide) (by decide) (Or.inl o0) (by unfold zFu; rw [o0]; omega)
  rw [k2 P 30 (by omega), k1 P 30 (by omega)]
  omega
/-! an empty row -/
theorem w_begins39 {Q : Nat} : ∀ (u k : Nat) (M : zMt), k ≤ 10 → 10 - k < u → ∃ r, D_X8_begins_39 Q 82 u (nI k) M = some r ∧ ((∀ a j, ¬ (a = Q ∧ (j = 69 ∨ 72 ≤ j ∧ j < 82)) → r a j = M a j) ∧ r Q 69 = 100) := by
  intro u
  induction u with
  | zero => intro k M _ h; omega
  | succ u ih =>
    intro k M hk hu
    rw [D_X8_begins_39]
    refine vIf (fun hc => ?_) (fun hc => ?_)
    · refine vI (by unfold vp_in; decide) ?_
      exact ⟨_, rfl, fun a j h => zu_ne (by rw [show (69 : Int32).toNatClampNeg = 69 by decide]; omega), zu_eq⟩
    · have hlt : k < 10 := Nat.lt_of_not_le (fun q => hc ((nI_leI (a := 10) (b := k) (by decide) (by omega)).mpr q))
      have e : (72 : Int32) + nI k = nI (72 + k) := (show ∀ k, k < 10 → (72 : Int32) + nI k = nI (72 + k) by decide) k hlt
      rw [e]
      refine vI (vp_in_nI (by omega) (by decide)) ?_
      rw [nI_clamp (by omega), nI_1]
      obtain ⟨r, h1, h2, h3⟩ := ih (k + 1) (zu M Q (72 + k) (-1)) (by omega) (by omega)
      exact ⟨r, h1, fun a j h => (h2 a j h).trans (zu_ne (by omega)), h3⟩
theorem w_begins21 {Q : Nat} : ∀ (u k : Nat) (M : zMt), k ≤ 62 → 62 - k < u → ∃ r, D_X8_begins_21 Q 82 u (nI k) M = some r ∧ ((∀ a j, ¬ (a = Q ∧ ((k ≤ j ∧ j < 62) ∨ j = 69 ∨ 72 ≤ j ∧ j < 82)) → r a j = M a j) ∧ (∀ j, k ≤ j → j < 62 → r Q j = -1) ∧ r Q 69 = 100) := by
  intro u
  induction u with
  | zero => intro k M _ h; omega
  | succ u ih =>
    intro k M hk hu
    rw [D_X8_begins_21]
    refine vIf (fun hc => ?_) (fun hc => ?_)
    · obtain ⟨r, h1, h2, h3⟩ := w_begins39 (Q := Q) zFu 0 M (by omega) (by unfold zFu; omega)
      have hk2 : 62 ≤ k := (nI_leI (a := 62) (b := k) (by decide) (by omega)).mp hc
      exact ⟨r, h1, fun a j h => h2 a j (by omega), fun j h4 h5 => by omega, h3⟩
    · have hlt : k < 62 := Nat.lt_of_not_le (fun q => hc ((nI_leI (a := 62) (b := k) (by decide) (by omega)).mpr q))
      refine vI (vp_in_nI (by omega) (by decide)) ?_
      rw [nI_clamp (by omega), nI_1]
      obtain ⟨r, h1, h2, h3, h4⟩ := ih (k + 1) (zu M Q k (-1)) (by omega) (by omega)
      refine ⟨r, h1, fun a j h => (h2 a j (by omega)).trans (zu_ne (by omega)), fun j h5 h6 => ?_, h4⟩
      by_cases q : j = k
      · subst q
        exact (h2 Q j (by omega)).trans zu_eq
      · exact h3 j (by omega) h6
theorem w_begins2 {Q : Nat} : ∀ (u k : Nat) (M : zMt), k ≤ 82 → 82 - k < u → ∃ r, D_X8_begins_2 Q 82 u (nI k) M = some r ∧ ((∀ a j, ¬ (a = Q ∧ j < 82 ∧ (k ≤ j ∨ (10 ≤ j ∧ j < 62) ∨ j = 69 ∨ 72 ≤ j)) → r a j = M a j) ∧ (∀ j, k ≤ j → (j < 10 ∨ (62 ≤ j ∧ j < 69) ∨ j = 70 ∨ j = 71) → r Q j = 0) ∧ (∀ j, 10 ≤ j → j < 62 → r Q j = -1) ∧ r Q 69 = 100) := by
  intro u
  induction u with
  | zero => intro k M _ h; omega
  | succ u ih =>
    intro k M hk hu
    rw [D_X8_begins_2]
    refine vIf (fun hc => ?_) (fun hc => ?_)
    · obtain ⟨r, h1, h2, h3, h4⟩ := w_begins21 (Q := Q) zFu 10 M (by omega) (by unfold zFu; omega)
      have hk2 : 82 ≤ k := (nI_leI (a := 82) (b := k) (by decide) (by omega)).mp hc
      exact ⟨r, h1, fun a j h => h2 a j (by omega), fun j h5 h6 => by omega, h3, h4⟩
    · have hlt : k < 82 := Nat.lt_of_not_le (fun q => hc ((nI_leI (a := 82) (b := k) (by decide) (by omega)).mpr q))
      refine vI (vp_in_nI (by omega) (by decide)) ?_
      rw [nI_clamp (by omega), nI_1]
      obtain ⟨r, h1, h2, h3, h4, h5⟩ := ih (k + 1) (zu M Q k 0) (by omega) (by omega)
      refine ⟨r, h1, fun a j h => (h2 a j (by omega)).trans (zu_ne (by omega)), fun j h6 h7 => ?_, h4, h5⟩
      by_cases q : j = k
      · subst q
        exact (h2 Q j (by omega)).trans zu_eq
      · exact h3 j (by omega) h7
theorem w_X8_begins {Q : Nat} {M0 : zMt} : ∃ r, D_X8_begins Q 82 M0 = some r ∧ ((∀ a j, ¬ (a = Q ∧ j < 82) → r a j = M0 a j) ∧ (∀ j, (j < 10 ∨ (62 ≤ j ∧ j < 69) ∨ j = 70 ∨ j = 71) → r Q j = 0) ∧ (∀ j, 10 ≤ j → j < 62 → r Q j = -1) ∧ r Q 69 = 100) := by
  obtain ⟨r, h1, h2, h3, h4, h5⟩ := w_begins2 (Q := Q) zFu 0 M0 (by omega) (by unfold zFu; omega)
  exact ⟨r, h1, fun a j h => h2 a j (by omega), fun j h => h3 j (by omega) h, h4, h5⟩
theorem jZ.empty {P : Nat} {M : zMt} (h1 : ∀ j, (j < 10 ∨ (62 ≤ j ∧ j < 69) ∨ j = 70 ∨ j = 71) → M (P + 2) j = 0) (h2 : ∀ j, 10 ≤ j → j < 62 → M (P + 2) j = -1) (h3 : M (P + 2) 69 = 100) (a : M P 28 = 0) (b : M P 29 = 0) (c : M P 30 = 0) : jZ P M := by
  have o0 : (0 : Int32).toInt = 0 := by decide
  have o1 : (-1 : Int32).toInt = -1 := by decide
  have o2 : (100 : Int32).toInt = 100 := by decide
  unfold jZ
  rw [a, b, c, o0]
  refine ⟨fun x hx => ?_, fun x hx => ?_, fun k q1 q2 => ?_, fun x hx => ?_, ?_, fun p hp => absurd hp (by omega)⟩
  · rw [h1 x (by omega), o0]; omega
  · rw [h2 (10 + x) (by omega) (by omega), o1]; omega
  · rw [h2 k (by omega) q2, o1]; omega
  · rw [h1 (62 + x) (by omega), o0]; omega
  · rw [h1 67 (by omega), h1 68 (by omega), h3, o0, o2]; omega
