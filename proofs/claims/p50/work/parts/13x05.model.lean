def WM_X8_choose (P : Nat) (a j : Nat) : Prop := (P + 1 ≤ a ∧ a < P + 2) ∨ (P + 4 ≤ a ∧ a < P + 5) ∨ (P + 11 ≤ a ∧ a < P + 18) ∨ (a = P ∧ (j = 6 ∨ j = 9 ∨ j = 12 ∨ j = 33))
theorem wz_M_X8_keeps_X8_choose {P a j : Nat} (h : ¬ WM_X8_choose P a j) : ¬ WM_X8_keeps P a j := by unfold WM_X8_keeps; unfold WM_X8_choose at h; omega
theorem wf_jH_X8_keeps {P a j : Nat} (h : ((a = P ∧ (j = 8 ∨ j = 33)) ∨ a = P + 11)) : ¬ WM_X8_keeps P a j := by unfold WM_X8_keeps; omega
theorem wf_jL_X8_keeps {P a j : Nat} (h : ((a = P ∧ j = 33) ∨ a = P + 13 ∨ a = P + 14 ∨ a = P + 17)) : ¬ WM_X8_keeps P a j := by unfold WM_X8_keeps; omega
theorem wq_X8_choose_M1_r {P a j : Nat} (h : ¬ WM_X8_choose P a j) : ¬ a = P + 1 := by unfold WM_X8_choose at h; omega
theorem wz_M_X8_gives_X8_choose {P a j : Nat} (h : ¬ WM_X8_choose P a j) : ¬ WM_X8_gives P a j := by unfold WM_X8_gives; unfold WM_X8_choose at h; omega
theorem wz_M_X8_refuse_X8_choose {P a j : Nat} (h : ¬ WM_X8_choose P a j) : ¬ WM_X8_refuse P a j := by unfold WM_X8_refuse; unfold WM_X8_choose at h; omega
theorem wz_M_X8_isApplicant_X8_choose {P a j : Nat} (h : ¬ WM_X8_choose P a j) : ¬ WM_X8_isApplicant P a j := by unfold WM_X8_isApplicant; unfold WM_X8_choose at h; omega
set_option maxRecDepth 100000 in
set_option maxHeartbeats 4000000 in
theorem v_X8_choose {P : Nat} {v0 : Int32} {v1 : Int32} {v2 : Int32} {v3 : Int32} {M0 : zMt}  (p_jB : jB P M0) (p_jS : jS P M0) (p_jR : jR P M0) (p_jK : jK P M0) (p_jT : jT P M0) : ∃ r, D_X8_choose P v0 v1 v2 v3 M0 = some r ∧ ((∀ a j, ¬ WM_X8_choose P a j → r.2 a j = M0 a j) ∧ ((jB P r.2) ∧ (jS P r.2) ∧ (jR P r.2) ∧ (jK P r.2) ∧ (jT P r.2))) := by
  obtain ⟨u0_jB, u1_jB, u2_jB, u3_jB, u4_jB, u5_jB⟩ := id p_jB
  obtain ⟨u0_jS, u1_jS, u2_jS, u3_jS, u4_jS, u5_jS, u6_jS, u7_jS⟩ := jS.ints p_jS
  obtain ⟨u0_jT, u1_jT, u2_jT, u3_jT, u4_jT, u5_jT⟩ := id p_jT
  have T_185 : ∀ (x1_185 : Int32) (x2_185 : Int32) (x3_185 : Int32) (x4_185 : Int32) (x7_185 : Int32) (M_185 : zMt), (∀ a j, ¬ WM_X8_choose P a j → M_185 a j = M0 a j) → (jB P M_185) → (jH P M_185) → (jK P M_185) → (jL P M_185) → (jR P M_185) → (jS P M_185) → (jT P M_185) → (0 ≤ Int32.toInt x1_185 ∧ Int32.toInt x1_185 < Int32.toInt (M_185 P 33)) → (20 ≤ Int32.toInt x7_185 ∧ Int32.toInt x7_185 ≤ 59) → (-1 ≤ Int32.toInt x2_185 ∧ Int32.toInt x2_185 < Int32.toInt (M_185 P 7)) → (-1 ≤ Int32.toInt x3_185 ∧ Int32.toInt x3_185 < Int32.toInt (M_185 P 7)) → (-1 ≤ Int32.toInt x4_185 ∧ Int32.toInt x4_185 < Int32.toInt (M_185 P 7)) → ∃ r, D_X8_choose_185 P x1_185 x2_185 x3_185 x4_185 x7_185 M_185 = some r ∧ ((∀ a j, ¬ WM_X8_choose P a j → r.2 a j = M0 a j) ∧ ((jB P r.2) ∧ (jS P r.2) ∧ (jR P r.2) ∧ (jK P r.2) ∧ (jT P r.2))) := by
    intro x1_185 x2_185 x3_185 x4_185 x7_185 M_185 k_185 p_jB_185 p_jH_185 p_jK_185 p_jL_185 p_jR_185 p_jS_185 p_jT_185 f0_185 f1_185 f2_185 f3_185 f4_185
    obtain ⟨u0_jB_185, u1_jB_185, u2_jB_185, u3_jB_185, u4_jB_185, u5_jB_185⟩ := id p_jB_185
    obtain ⟨u0_jS_185, u1_jS_185, u2_jS_185, u3_jS_185, u4_jS_185, u5_jS_185, u6_jS_185, u7_jS_185⟩ := jS.ints p_jS_185
    obtain ⟨u0_jT_185, u1_jT_185, u2_jT_185, u3_jT_185, u4_jT_185, u5_jT_185⟩ := id p_jT_185
    unfold D_X8_choose_185
    refine vB (v_X8_choiceMany p_jB_185 p_jS_185 p_jL_185 (by first | omega | (simp only [Int32.toInt_add, Int32.toInt_sub, Int32.toInt_mul, Int32.toInt_toInt64, Int64.toInt_add, z_m1, Int32.reduceToInt, Int64.reduceToInt, Int32.reduceToNatClampNeg, Int.bmod_def, or_true, true_or, and_true, true_and] <;> omega)) (by first | omega | (simp only [Int32.toInt_add, Int32.toInt_sub, Int32.toInt_mul, Int32.toInt_toInt64, Int64.toInt_add, z_m1, Int32.reduceToInt, Int64.reduceToInt, Int32.reduceToNatClampNeg, Int.bmod_def, or_true, true_or, and_true, true_and] <;> omega))) (fun e_187 f_187 q_187 => ?_)
    obtain ⟨x0_187, x1_187, x2_187⟩ := q_187
    (try simp only [Int32.toInt_add, Int32.toInt_sub, Int32.toInt_mul, Int32.toInt_toInt64, Int64.toInt_add, z_m1, Int32.reduceToInt, Int64.reduceToInt, Int32.reduceToNatClampNeg, Int.bmod_def] at x0_187)
    (try simp only [Int32.toInt_add, Int32.toInt_sub, Int32.toInt_mul, Int32.toInt_toInt64, Int64.toInt_add, z_m1, Int32.reduceToInt, Int64.reduceToInt, Int32.reduceToNatClampNeg, Int.bmod_def] at x1_187)
    refine vB (v_X8_keeps p_jB_185 p_jS_185 p_jK_185 p_jT_185) (fun e_193 f_193 q_193 => ?_)
    have k_193 : ∀ a j, ¬ WM_X8_choose P a j → e_193 a j = M0 a j := fun a j h => (q_193.1 a j (wz_M_X8_keeps_X8_choose h)).trans (k_185 a j h)
    have c7_193 : Int32.toInt (e_193 P 7) = Int32.toInt (M_185 P 7) := congrArg Int32.toInt (q_193.1 P 7 (wc_X8_keeps_7))
    have c8_193 : Int32.toInt (e_193 P 8) = Int32.toInt (M_185 P 8) := congrArg Int32.toInt (q_193.1 P 8 (wc_X8_keeps_8))
    have c33_193 : Int32.toInt (e_193 P 33) = Int32.toInt (M_185 P 33) := congrArg Int32.toInt (q_193.1 P 33 (wc_X8_keeps_33))
    have n_193 : nA P e_193 = nA P M_185 := nA_congr (fun a j h => q_193.1 a j (wf_nA_X8_keeps h))
    have p_jB_193 : jB P e_193 := jB.mono p_jB_185 (fun a j h => q_193.1 a j (wf_jB_X8_keeps h))
    obtain ⟨u0_jB_193, u1_jB_193, u2_jB_193, u3_jB_193, u4_jB_193, u5_jB_193⟩ := id p_jB_193
    have p_jH_193 : jH P e_193 := jH.mono p_jH_185 (fun a j h => q_193.1 a j (wf_jH_X8_keeps h))
    have p_jL_193 : jL P e_193 := jL.mono p_jL_185 (fun a j h => q_193.1 a j (wf_jL_X8_keeps h))
    have p_jR_193 : jR P e_193 := jR.mono p_jR_185 (fun a j h => q_193.1 a j (wf_jR_X8_keeps h))
    have p_jS_193 : jS P e_193 := jS.mono p_jS_185 (fun a j h => q_193.1 a j (wf_jS_X8_keeps h))
    obtain ⟨u0_jS_193, u1_jS_193, u2_jS_193, u3_jS_193, u4_jS_193, u5_jS_193, u6_jS_193, u7_jS_193⟩ := jS.ints p_jS_193
    obtain ⟨x0_193, x1_193⟩ := q_193.2
    obtain ⟨u0_jT_193, u1_jT_193, u2_jT_193, u3_jT_193, u4_jT_193, u5_jT_193⟩ := id x1_193
    refine vI (vp_of (by first | omega | (simp only [Int32.toInt_add, Int32.toInt_sub, Int32.toInt_mul, Int32.toInt_toInt64, Int64.toInt_add, z_m1, Int32.reduceToInt, Int64.reduceToInt, Int32.reduceToNatClampNeg, Int.bmod_def, or_true, true_or, and_true, true_and] <;> omega)) (by first | omega | (simp only [Int32.toInt_add, Int32.toInt_sub, Int32.toInt_mul, Int32.toInt_toInt64, Int64.toInt_add, z_m1, Int32.reduceToInt, Int64.reduceToInt, Int32.reduceToNatClampNeg, Int.bmod_def, or_true, true_or, and_true, true_and] <;> omega))) ?_
    refine vLm (W := WM_X8_choose P) (fun a j h => (zu_ne (fun z => wq_X8_choose_M1_r h z.1)).trans (k_193 a j h)) (fun M_203 f_203 k_203 => ?_)
    have c7_203 : Int32.toInt (M_203 P 7) = Int32.toInt (e_193 P 7) := congrArg Int32.toInt ((congrFun (congrFun f_203.symm P) 7).trans (zu_ne (fun z => wq_pne0 (by decide) z.1)))
    have c8_203 : Int32.toInt (M_203 P 8) = Int32.toInt (e_193 P 8) := congrArg Int32.toInt ((congrFun (congrFun f_203.symm P) 8).trans (zu_ne (fun z => wq_pne0 (by decide) z.1)))
    have c33_203 : Int32.toInt (M_203 P 33) = Int32.toInt (e_193 P 33) := congrArg Int32.toInt ((congrFun (congrFun f_203.symm P) 33).trans (zu_ne (fun z => wq_pne0 (by decide) z.1)))
    have p_jB_203 : jB P M_203 := jB.mono p_jB_193 (fun a j h => (congrFun (congrFun f_203.symm a) j).trans (zu_ne (fun z => wf_jB_M1_r h z.1)))
    obtain ⟨u0_jB_203, u1_jB_203, u2_jB_203, u3_jB_203, u4_jB_203, u5_jB_203⟩ := id p_jB_203
    have p_jH_203 : jH P M_203 := jH.mono p_jH_193 (fun a j h => (congrFun (congrFun f_203.symm a) j).trans (zu_ne (fun z => wf_jH_M1_r h z.1)))
    have p_jL_203 : jL P M_203 := jL.mono p_jL_193 (fun a j h => (congrFun (congrFun f_203.symm a) j).trans (zu_ne (fun z => wf_jL_M1_r h z.1)))
    have p_jR_203 : jR P M_203 := jR.mono p_jR_193 (fun a j h => (congrFun (congrFun f_203.symm a) j).trans (zu_ne (fun z => wf_jR_M1_r h z.1)))
    have p_jS_203 : jS P M_203 := jS.put p_jS_193 (by omega) f_203 (Or.inr (Or.inl ⟨(by have h1 := z_cl (x := x7_185) (by first | omega | (simp only [Int32.toInt_add, Int32.toInt_sub, Int32.toInt_mul, Int32.toInt_toInt64, Int64.toInt_add, z_m1, Int32.reduceToInt, Int64.reduceToInt, Int32.reduceToNatClampNeg, Int.bmod_def, or_true, true_or, and_true, true_and] <;> omega)); have h2 : 20 ≤ Int32.toInt (x7_185) ∧ Int32.toInt (x7_185) < 62 := (by first | omega | (simp only [Int32.toInt_add, Int32.toInt_sub, Int32.toInt_mul, Int32.toInt_toInt64, Int64.toInt_add, z_m1, Int32.reduceToInt, Int64.reduceToInt, Int32.reduceToNatClampNeg, Int.bmod_def, or_true, true_or, and_true, true_and] <;> omega)); omega), (by have h1 := z_cl (x := x7_185) (by first | omega | (simp only [Int32.toInt_add, Int32.toInt_sub, Int32.toInt_mul, Int32.toInt_toInt64, Int64.toInt_add, z_m1, Int32.reduceToInt, Int64.reduceToInt, Int32.reduceToNatClampNeg, Int.bmod_def, or_true, true_or, and_true, true_and] <;> omega)); have h2 : 20 ≤ Int32.toInt (x7_185) ∧ Int32.toInt (x7_185) < 62 := (by first | omega | (simp only [Int32.toInt_add, Int32.toInt_sub, Int32.toInt_mul, Int32.toInt_toInt64, Int64.toInt_add, z_m1, Int32.reduceToInt, Int64.reduceToInt, Int32.reduceToNatClampNeg, Int.bmod_def, or_true, true_or, and_true, true_and] <;> omega)); omega), (by first | omega | (simp only [Int32.toInt_add, Int32.toInt_sub, Int32.toInt_mul, Int32.toInt_toInt64, Int64.toInt_add, z_m1, Int32.reduceToInt, Int64.reduceToInt, Int32.reduceToNatClampNeg, Int.bmod_def, or_true, true_or, and_true, true_and] <;> omega)), (by first | omega | (simp only [Int32.toInt_add, Int32.toInt_sub, Int32.toInt_mul, Int32.toInt_toInt64, Int64.toInt_add, z_m1, Int32.reduceToInt, Int64.reduceToInt, Int32.reduceToNatClampNeg, Int.bmod_def, or_true, true_or, and_true, true_and] <;> omega))⟩))
    obtain ⟨u0_jS_203, u1_jS_203, u2_jS_203, u3_jS_203, u4_jS_203, u5_jS_203, u6_jS_203, u7_jS_203⟩ := jS.ints p_jS_203
    have p_jK_203 : jK P M_203 := jK.mono x0_193 (fun a j h => (congrFun (congrFun f_203.symm a) j).trans (zu_ne (fun z => wf_jK_M1_r h z.1)))
    have p_jT_203 : jT P M_203 := jT.mono x1_193 (fun a j h => (congrFun (congrFun f_203.symm a) j).trans (zu_ne (fun z => wf_jT_M1_r h z.1)))
    obtain ⟨u0_jT_203, u1_jT_203, u2_jT_203, u3_jT_203, u4_jT_203, u5_jT_203⟩ := id p_jT_203
    refine vI (vp_of (by first | omega | (simp only [Int32.toInt_add, Int32.toInt_sub, Int32.toInt_mul, Int32.toInt_toInt64, Int64.toInt_add, z_m1, Int32.reduceToInt, Int64.reduceToInt, Int32.reduceToNatClampNeg, Int.bmod_def, or_true, true_or, and_true, true_and] <;> omega)) (by first | omega | (simp only [Int32.toInt_add, Int32.toInt_sub, Int32.toInt_mul, Int32.toInt_toInt64, Int64.toInt_add, z_m1, Int32.reduceToInt, Int64.reduceToInt, Int32.reduceToNatClampNeg, Int.bmod_def, or_true, true_or, and_true, true_and] <;> omega))) ?_
    refine vLm (W := WM_X8_choose P) (fun a j h => (zu_ne (fun z => wq_X8_choose_M1_r h z.1)).trans (k_203 a j h)) (fun M_213 f_213 k_213 => ?_)
    have c7_213 : Int32.toInt (M_213 P 7) = Int32.toInt (M_203 P 7) := congrArg Int32.toInt ((congrFun (congrFun f_213.symm P) 7).trans (zu_ne (fun z => wq_pne0 (by decide) z.1)))
    have c8_213 : Int32.toInt (M_213 P 8) = Int32.toInt (M_203 P 8) := congrArg Int32.toInt ((congrFun (congrFun f_213.symm P) 8).trans (zu_ne (fun z => wq_pne0 (by decide) z.1)))
    have c33_213 : Int32.toInt (M_213 P 33) = Int32.toInt (M_203 P 33) := congrArg Int32.toInt ((congrFun (congrFun f_213.symm P) 33).trans (zu_ne (fun z => wq_pne0 (by decide) z.1)))
    have p_jB_213 : jB P M_213 := jB.mono p_jB_203 (fun a j h => (congrFun (congrFun f_213.symm a) j).trans (zu_ne (fun z => wf_jB_M1_r h z.1)))
    obtain ⟨u0_jB_213, u1_jB_213, u2_jB_213, u3_jB_213, u4_jB_213, u5_jB_213⟩ := id p_jB_213
    have p_jH_213 : jH P M_213 := jH.mono p_jH_203 (fun a j h => (congrFun (congrFun f_213.symm a) j).trans (zu_ne (fun z => wf_jH_M1_r h z.1)))
    have p_jL_213 : jL P M_213 := jL.mono p_jL_203 (fun a j h => (congrFun (congrFun f_213.symm a) j).trans (zu_ne (fun z => wf_jL_M1_r h z.1)))
    have p_jR_213 : jR P M_213 := jR.mono p_jR_203 (fun a j h => (congrFun (congrFun f_213.symm a) j).trans (zu_ne (fun z => wf_jR_M1_r h z.1)))
    have p_jS_213 : jS P M_213 := jS.put p_jS_203 (by omega) f_213 (Or.inr (Or.inl ⟨(by have h1 := z_cl (x := x7_185 + (1 : Int32)) (by first | omega | (simp only [Int32.toInt_add, Int32.toInt_sub, Int32.toInt_mul, Int32.toInt_toInt64, Int64.toInt_add, z_m1, Int32.reduceToInt, Int64.reduceToInt, Int32.reduceToNatClampNeg, Int.bmod_def, or_true, true_or, and_true, true_and] <;> omega)); have h2 : 20 ≤ Int32.toInt (x7_185 + (1 : Int32)) ∧ Int32.toInt (x7_185 + (1 : Int32)) < 62 := (by first | omega | (simp only [Int32.toInt_add, Int32.toInt_sub, Int32.toInt_mul, Int32.toInt_toInt64, Int64.toInt_add, z_m1, Int32.reduceToInt, Int64.reduceToInt, Int32.reduceToNatClampNeg, Int.bmod_def, or_true, true_or, and_true, true_and] <;> omega)); omega), (by have h1 := z_cl (x := x7_185 + (1 : Int32)) (by first | omega | (simp only [Int32.toInt_add, Int32.toInt_sub, Int32.toInt_mul, Int32.toInt_toInt64, Int64.toInt_add, z_m1, Int32.reduceToInt, Int64.reduceToInt, Int32.reduceToNatClampNeg, Int.bmod_def, or_true, true_or, and_true, true_and] <;> omega)); have h2 : 20 ≤ Int32.toInt (x7_185 + (1 : Int32)) ∧ Int32.toInt (x7_185 + (1 : Int32)) < 62 := (by first | omega | (simp only [Int32.toInt_add, Int32.toInt_sub, Int32.toInt_mul, Int32.toInt_toInt64, Int64.toInt_add, z_m1, Int32.reduceToInt, Int64.reduceToInt, Int32.reduceToNatClampNeg, Int.bmod_def, or_true, true_or, and_true, true_and] <;> omega)); omega), (by first | omega | (simp only [Int32.toInt_add, Int32.toInt_sub, Int32.toInt_mul, Int32.toInt_toInt64, Int64.toInt_add, z_m1, Int32.reduceToInt, Int64.reduceToInt, Int32.reduceToNatClampNeg, Int.bmod_def, or_true, true_or, and_true, true_and] <;> omega)), (by first | omega | (simp only [Int32.toInt_add, Int32.toInt_sub, Int32.toInt_mul, Int32.toInt_toInt64, Int64.toInt_add, z_m1, Int32.reduceToInt, Int64.reduceToInt, Int32.reduceToNatClampNeg, Int.bmod_def, or_true, true_or, and_true, true_and] <;> omega))⟩))
    obtain ⟨u0_jS_213, u1_jS_213, u2_jS_213, u3_jS_213, u4_jS_213, u5_jS_213, u6_jS_213, u7_jS_213⟩ := jS.ints p_jS_213
    have p_jK_213 : jK P M_213 := jK.mono p_jK_203 (fun a j h => (congrFun (congrFun f_213.symm a) j).trans (zu_ne (fun z => wf_jK_M1_r h z.1)))
    have p_jT_213 : jT P M_213 := jT.mono p_jT_203 (fun a j h => (congrFun (congrFun f_213.symm a) j).trans (zu_ne (fun z => wf_jT_M1_r h z.1)))
    obtain ⟨u0_jT_213, u1_jT_213, u2_jT_213, u3_jT_213, u4_jT_213, u5_jT_213⟩ := id p_jT_213
    refine vI (vp_of (by first | omega | (simp only [Int32.toInt_add, Int32.toInt_sub, Int32.toInt_mul, Int32.toInt_toInt64, Int64.toInt_add, z_m1, Int32.reduceToInt, Int64.reduceToInt, Int32.reduceToNatClampNeg, Int.bmod_def, or_true, true_or, and_true, true_and] <;> omega)) (by first | omega | (simp only [Int32.toInt_add, Int32.toInt_sub, Int32.toInt_mul, Int32.toInt_toInt64, Int64.toInt_add, z_m1, Int32.reduceToInt, Int64.reduceToInt, Int32.reduceToNatClampNeg, Int.bmod_def, or_true, true_or, and_true, true_and] <;> omega))) ?_
    refine vLm (W := WM_X8_choose P) (fun a j h => (zu_ne (fun z => wq_X8_choose_M1_r h z.1)).trans (k_213 a j h)) (fun M_224 f_224 k_224 => ?_)
    have c7_224 : Int32.toInt (M_224 P 7) = Int32.toInt (M_213 P 7) := congrArg Int32.toInt ((congrFun (congrFun f_224.symm P) 7).trans (zu_ne (fun z => wq_pne0 (by decide) z.1)))
    have c8_224 : Int32.toInt (M_224 P 8) = Int32.toInt (M_213 P 8) := congrArg Int32.toInt ((congrFun (congrFun f_224.symm P) 8).trans (zu_ne (fun z => wq_pne0 (by decide) z.1)))
    have c33_224 : Int32.toInt (M_224 P 33) = Int32.toInt (M_213 P 33) := congrArg Int32.toInt ((congrFun (congrFun f_224.symm P) 33).trans (zu_ne (fun z => wq_pne0 (by decide) z.1)))
    have p_jB_224 : jB P M_224 := jB.mono p_jB_213 (fun a j h => (congrFun (congrFun f_224.symm a) j).trans (zu_ne (fun z => wf_jB_M1_r h z.1)))
    obtain ⟨u0_jB_224, u1_jB_224, u2_jB_224, u3_jB_224, u4_jB_224, u5_jB_224⟩ := id p_jB_224
    have p_jH_224 : jH P M_224 := jH.mono p_jH_213 (fun a j h => (congrFun (congrFun f_224.symm a) j).trans (zu_ne (fun z => wf_jH_M1_r h z.1)))
    have p_jL_224 : jL P M_224 := jL.mono p_jL_213 (fun a j h => (congrFun (congrFun f_224.symm a) j).trans (zu_ne (fun z => wf_jL_M1_r h z.1)))
    have p_jR_224 : jR P M_224 := jR.mono p_jR_213 (fun a j h => (congrFun (congrFun f_224.symm a) j).trans (zu_ne (fun z => wf_jR_M1_r h z.1)))
    have p_jS_224 : jS P M_224 := jS.put p_jS_213 (by omega) f_224 (Or.inr (Or.inl ⟨(by have h1 := z_cl (x := x7_185 + (2 : Int32)) (by first | omega | (simp only [Int32.toInt_add, Int32.toInt_sub, Int32.toInt_mul, Int32.toInt_toInt64, Int64.toInt_add, z_m1, Int32.reduceToInt, Int64.reduceToInt, Int32.reduceToNatClampNeg, Int.bmod_def, or_true, true_or, and_true, true_and] <;> omega)); have h2 : 20 ≤ Int32.toInt (x7_185 + (2 : Int32)) ∧ Int32.toInt (x7_185 + (2 : Int32)) < 62 := (by first | omega | (simp only [Int32.toInt_add, Int32.toInt_sub, Int32.toInt_mul, Int32.toInt_toInt64, Int64.toInt_add, z_m1, Int32.reduceToInt, Int64.reduceToInt, Int32.reduceToNatClampNeg, Int.bmod_def, or_true, true_or, and_true, true_and] <;> omega)); omega), (by have h1 := z_cl (x := x7_185 + (2 : Int32)) (by first | omega | (simp only [Int32.toInt_add, Int32.toInt_sub, Int32.toInt_mul, Int32.toInt_toInt64, Int64.toInt_add, z_m1, Int32.reduceToInt, Int64.reduceToInt, Int32.reduceToNatClampNeg, Int.bmod_def, or_true, true_or, and_true, true_and] <;> omega)); have h2 : 20 ≤ Int32.toInt (x7_185 + (2 : Int32)) ∧ Int32.toInt (x7_185 + (2 : Int32)) < 62 := (by first | omega | (simp only [Int32.toInt_add, Int32.toInt_sub, Int32.toInt_mul, Int32.toInt_toInt64, Int64.toInt_add, z_m1, Int32.reduceToInt, Int64.reduceToInt, Int32.reduceToNatClampNeg, Int.bmod_def, or_true, true_or, and_true, true_and] <;> omega)); omega), (by first | omega | (simp only [Int32.toInt_add, Int32.toInt_sub, Int32.toInt_mul, Int32.toInt_toInt64, Int64.toInt_add, z_m1, Int32.reduceToInt, Int64.reduceToInt, Int32.reduceToNatClampNeg, Int.bmod_def, or_true, true_or, and_true, true_and] <;> omega)), (by first | omega | (simp only [Int32.toInt_add, Int32.toInt_sub, Int32.toInt_mul, Int32.toInt_toInt64, Int64.toInt_add, z_m1, Int32.reduceToInt, Int64.reduceToInt, Int32.reduceToNatClampNeg, Int.bmod_def, or_true, true_or, and_true, true_and] <;> omega))⟩))
    obtain ⟨u0_jS_224, u1_jS_224, u2_jS_224, u3_jS_224, u4_jS_224, u5_jS_224, u6_jS_224, u7_jS_224⟩ := jS.ints p_jS_224
    have p_jK_224 : jK P M_224 := jK.mono p_jK_213 (fun a j h => (congrFun (congrFun f_224.symm a) j).trans (zu_ne (fun z => wf_jK_M1_r h z.1)))
    have p_jT_224 : jT P M_224 := jT.mono p_jT_213 (fun a j h => (congrFun (congrFun f_224.symm a) j).trans (zu_ne (fun z => wf_jT_M1_r h z.1)))
    obtain ⟨u0_jT_224, u1_jT_224, u2_jT_224, u3_jT_224, u4_jT_224, u5_jT_224⟩ := id p_jT_224
    refine vB (v_X8_gives) (fun e_228 f_228 q_228 => ?_)
    have k_228 : ∀ a j, ¬ WM_X8_choose P a j → e_228.2 a j = M0 a j := fun a j h => (q_228 a j (wz_M_X8_gives_X8_choose h)).trans (k_224 a j h)
    have c7_228 : Int32.toInt (e_228.2 P 7) = Int32.toInt (M_224 P 7) := congrArg Int32.toInt (q_228 P 7 (wc_X8_gives_7))
    have c8_228 : Int32.toInt (e_228.2 P 8) = Int32.toInt (M_224 P 8) := congrArg Int32.toInt (q_228 P 8 (wc_X8_gives_8))
    have c33_228 : Int32.toInt (e_228.2 P 33) = Int32.toInt (M_224 P 33) := congrArg Int32.toInt (q_228 P 33 (wc_X8_gives_33))
    have n_228 : nA P e_228.2 = nA P M_224 := nA_congr (fun a j h => q_228 a j (wf_nA_X8_gives h))
    have p_jB_228 : jB P e_228.2 := jB.mono p_jB_224 (fun a j h => q_228 a j (wf_jB_X8_gives h))
    obtain ⟨u0_jB_228, u1_jB_228, u2_jB_228, u3_jB_228, u4_jB_228, u5_jB_228⟩ := id p_jB_228
    have p_jH_228 : jH P e_228.2 := jH.mono p_jH_224 (fun a j h => q_228 a j (wf_jH_X8_gives h))
    have p_jL_228 : jL P e_228.2 := jL.mono p_jL_224 (fun a j h => q_228 a j (wf_jL_X8_gives h))
    have p_jR_228 : jR P e_228.2 := jR.mono p_jR_224 (fun a j h => q_228 a j (wf_jR_X8_gives h))
    have p_jS_228 : jS P e_228.2 := jS.mono p_jS_224 (fun a j h => q_228 a j (wf_jS_X8_gives h))
    obtain ⟨u0_jS_228, u1_jS_228, u2_jS_228, u3_jS_228, u4_jS_228, u5_jS_228, u6_jS_228, u7_jS_228⟩ := jS.ints p_jS_228
    have p_jK_228 : jK P e_228.2 := jK.mono p_jK_224 (fun a j h => q_228 a j (wf_jK_X8_gives h))
    have p_jT_228 : jT P e_228.2 := jT.mono p_jT_224 (fun a j h => q_228 a j (wf_jT_X8_gives h))
    obtain ⟨u0_jT_228, u1_jT_228, u2_jT_228, u3_jT_228, u4_jT_228, u5_jT_228⟩ := id p_jT_228
    exact ⟨_, rfl, k_228, ⟨p_jB_228, p_jS_228, p_jR_228, p_jK_228, p_jT_228⟩⟩
  have T_127 : ∀ (M_127 : zMt), (∀ a j, ¬ WM_X8_choose P a j → M_127 a j = M0 a j) → (jB P M_127) → (jH P M_127) → (jK P M_127) → (jL P M_127) → (jR P M_127) → (jS P M_127) → (jT P M_127) → ∃ r, D_X8_choose_127 P M_127 = some r ∧ ((∀ a j, ¬ WM_X8_choose P a j → r.2 a j = M0 a j) ∧ ((jB P r.2) ∧ (jS P r.2) ∧ (jR P r.2) ∧ (jK P r.2) ∧ (jT P r.2))) := by
    intro M_127 k_127 p_jB_127 p_jH_127 p_jK_127 p_jL_127 p_jR_127 p_jS_127 p_jT_127
    obtain ⟨u0_jB_127, u1_jB_127, u2_jB_127, u3_jB_127, u4_jB_127, u5_jB_127⟩ := id p_jB_127
    obtain ⟨u0_jS_127, u1_jS_127, u2_jS_127, u3_jS_127, u4_jS_127, u5_jS_127, u6_jS_127, u7_jS_127⟩ := jS.ints p_jS_127
    obtain ⟨u0_jT_127, u1_jT_127, u2_jT_127, u3_jT_127, u4_jT_127, u5_jT_127⟩ := id p_jT_127
    unfold D_X8_choose_127
    refine vB (v_X8_refuse) (fun e_129 f_129 q_129 => ?_)
    have k_129 : ∀ a j, ¬ WM_X8_choose P a j → e_129.2 a j = M0 a j := fun a j h => (q_129 a j (wz_M_X8_refuse_X8_choose h)).trans (k_127 a j h)
    have c7_129 : Int32.toInt (e_129.2 P 7) = Int32.toInt (M_127 P 7) := congrArg Int32.toInt (q_129 P 7 (wc_X8_refuse_7))
    have c8_129 : Int32.toInt (e_129.2 P 8) = Int32.toInt (M_127 P 8) := congrArg Int32.toInt (q_129 P 8 (wc_X8_refuse_8))
    have c33_129 : Int32.toInt (e_129.2 P 33) = Int32.toInt (M_127 P 33) := congrArg Int32.toInt (q_129 P 33 (wc_X8_refuse_33))
    have n_129 : nA P e_129.2 = nA P M_127 := nA_congr (fun a j h => q_129 a j (wf_nA_X8_refuse h))
    have p_jB_129 : jB P e_129.2 := jB.mono p_jB_127 (fun a j h => q_129 a j (wf_jB_X8_refuse h))
    obtain ⟨u0_jB_129, u1_jB_129, u2_jB_129, u3_jB_129, u4_jB_129, u5_jB_129⟩ := id p_jB_129
    have p_jH_129 : jH P e_129.2 := jH.mono p_jH_127 (fun a j h => q_129 a j (wf_jH_X8_refuse h))
    have p_jK_129 : jK P e_129.2 := jK.mono p_jK_127 (fun a j h => q_129 a j (wf_jK_X8_refuse h))
    have p_jL_129 : jL P e_129.2 := jL.mono p_jL_127 (fun a j h => q_129 a j (wf_jL_X8_refuse h))
    have p_jR_129 : jR P e_129.2 := jR.mono p_jR_127 (fun a j h => q_129 a j (wf_jR_X8_refuse h))
    have p_jS_129 : jS P e_129.2 := jS.mono p_jS_127 (fun a j h => q_129 a j (wf_jS_X8_refuse h))
    obtain ⟨u0_jS_129, u1_jS_129, u2_jS_129, u3_jS_129, u4_jS_129, u5_jS_129, u6_jS_129, u7_jS_129⟩ := jS.ints p_jS_129
    have p_jT_129 : jT P e_129.2 := jT.mono p_jT_127 (fun a j h => q_129 a j (wf_jT_X8_refuse h))
    obtain ⟨u0_jT_129, u1_jT_129, u2_jT_129, u3_jT_129, u4_jT_129, u5_jT_129⟩ := id p_jT_129
    exact ⟨_, rfl, k_129, ⟨p_jB_129, p_jS_129, p_jR_129, p_jK_129, p_jT_129⟩⟩
  have T_88 : ∀ (M_88 : zMt), (∀ a j, ¬ WM_X8_choose P a j → M_88 a j = M0 a j) → (jB P M_88) → (jK P M_88) → (jR P M_88) → (jS P M_88) → (jT P M_88) → ∃ r, D_X8_choose_88 P M_88 = some r ∧ ((∀ a j, ¬ WM_X8_choose P a j → r.2 a j = M0 a j) ∧ ((jB P r.2) ∧ (jS P r.2) ∧ (jR P r.2) ∧ (jK P r.2) ∧ (jT P r.2))) := by
    intro M_88 k_88 p_jB_88 p_jK_88 p_jR_88 p_jS_88 p_jT_88
    obtain ⟨u0_jB_88, u1_jB_88, u2_jB_88, u3_jB_88, u4_jB_88, u5_jB_88⟩ := id p_jB_88
    obtain ⟨u0_jS_88, u1_jS_88, u2_jS_88, u3_jS_88, u4_jS_88, u5_jS_88, u6_jS_88, u7_jS_88⟩ := jS.ints p_jS_88
    obtain ⟨u0_jT_88, u1_jT_88, u2_jT_88, u3_jT_88, u4_jT_88, u5_jT_88⟩ := id p_jT_88
    unfold D_X8_choose_88
    refine vB (v_X8_refuse) (fun e_90 f_90 q_90 => ?_)
    have k_90 : ∀ a j, ¬ WM_X8_choose P a j → e_90.2 a j = M0 a j := fun a j h => (q_90 a j (wz_M_X8_refuse_X8_choose h)).trans (k_88 a j h)
    have c7_90 : Int32.toInt (e_90.2 P 7) = Int32.toInt (M_88 P 7) := congrArg Int32.toInt (q_90 P 7 (wc_X8_refuse_7))
    have c8_90 : Int32.toInt (e_90.2 P 8) = Int32.toInt (M_88 P 8) := congrArg Int32.toInt (q_90 P 8 (wc_X8_refuse_8))
    have c33_90 : Int32.toInt (e_90.2 P 33) = Int32.toInt (M_88 P 33) := congrArg Int32.toInt (q_90 P 33 (wc_X8_refuse_33))
    have n_90 : nA P e_90.2 = nA P M_88 := nA_congr (fun a j h => q_90 a j (wf_nA_X8_refuse h))
    have p_jB_90 : jB P e_90.2 := jB.mono p_jB_88 (fun a j h => q_90 a j (wf_jB_X8_refuse h))
    obtain ⟨u0_jB_90, u1_jB_90, u2_jB_90, u3_jB_90, u4_jB_90, u5_jB_90⟩ := id p_jB_90
    have p_jK_90 : jK P e_90.2 := jK.mono p_jK_88 (fun a j h => q_90 a j (wf_jK_X8_refuse h))
    have p_jR_90 : jR P e_90.2 := jR.mono p_jR_88 (fun a j h => q_90 a j (wf_jR_X8_refuse h))
    have p_jS_90 : jS P e_90.2 := jS.mono p_jS_88 (fun a j h => q_90 a j (wf_jS_X8_refuse h))
    obtain ⟨u0_jS_90, u1_jS_90, u2_jS_90, u3_jS_90, u4_jS_90, u5_jS_90, u6_jS_90, u7_jS_90⟩ := jS.ints p_jS_90
    have p_jT_90 : jT P e_90.2 := jT.mono p_jT_88 (fun a j h => q_90 a j (wf_jT_X8_refuse h))
    obtain ⟨u0_jT_90, u1_jT_90, u2_jT_90, u3_jT_90, u4_jT_90, u5_jT_90⟩ := id p_jT_90
    exact ⟨_, rfl, k_90, ⟨p_jB_90, p_jS_90, p_jR_90, p_jK_90, p_jT_90⟩⟩
  have T_60 : ∀ (x1_60 : Int32) (x2_60 : Int32) (x3_60 : Int32) (x4_60 : Int32) (x5_60 : Int32) (y0_60 : Int32) (M_60 : zMt), (∀ a j, ¬ WM_X8_choose P a j → M_60 a j = M0 a j) → (jB P M_60) → (jK P M_60) → (jR P M_60) → (jS P M_60) → (jT P M_60) → (x5_60 = 0 ∨ x5_60 = 1) → (y0_60 = 0 ∨ y0_60 = 1) → ∃ r, D_X8_choose_60 P x1_60 x2_60 x3_60 x4_60 x5_60 y0_60 M_60 = some r ∧ ((∀ a j, ¬ WM_X8_choose P a j → r.2 a j = M0 a j) ∧ ((jB P r.2) ∧ (jS P r.2) ∧ (jR P r.2) ∧ (jK P r.2) ∧ (jT P r.2))) := by
    intro x1_60 x2_60 x3_60 x4_60 x5_60 y0_60 M_60 k_60 p_jB_60 p_jK_60 p_jR_60 p_jS_60 p_jT_60 f0_60 f1_60
    obtain ⟨u0_jB_60, u1_jB_60, u2_jB_60, u3_jB_60, u4_jB_60, u5_jB_60⟩ := id p_jB_60
    obtain ⟨u0_jS_60, u1_jS_60, u2_jS_60, u3_jS_60, u4_jS_60, u5_jS_60, u6_jS_60, u7_jS_60⟩ := jS.ints p_jS_60
    obtain ⟨u0_jT_60, u1_jT_60, u2_jT_60, u3_jT_60, u4_jT_60, u5_jT_60⟩ := id p_jT_60
    unfold D_X8_choose_60
    refine vIf (fun h_64 => ?_) (fun h_64 => ?_)
    · have i_64 := Int32.lt_iff_toInt_lt.mp h_64
      (try simp only [Int32.toInt_add, Int32.toInt_sub, Int32.toInt_mul, Int32.toInt_toInt64, Int64.toInt_add, z_m1, Int32.reduceToInt, Int64.reduceToInt, Int32.reduceToNatClampNeg, Int.bmod_def] at i_64)
      exact T_88 _ k_60 p_jB_60 p_jK_60 p_jR_60 p_jS_60 p_jT_60
    · have i_64 := Int32.le_iff_toInt_le.mp (Int32.not_lt.mp h_64)
      (try simp only [Int32.toInt_add, Int32.toInt_sub, Int32.toInt_mul, Int32.toInt_toInt64, Int64.toInt_add, z_m1, Int32.reduceToInt, Int64.reduceToInt, Int32.reduceToNatClampNeg, Int.bmod_def] at i_64)
      refine vIf (fun h_69 => ?_) (fun h_69 => ?_)
      · have i_69 := Int32.lt_iff_toInt_lt.mp h_69
        (try simp only [Int32.toInt_add, Int32.toInt_sub, Int32.toInt_mul, Int32.toInt_toInt64, Int64.toInt_add, z_m1, Int32.reduceToInt, Int64.reduceToInt, Int32.reduceToNatClampNeg, Int.bmod_def] at i_69)
        exact T_88 _ k_60 p_jB_60 p_jK_60 p_jR_60 p_jS_60 p_jT_60
      · have i_69 := Int32.le_iff_toInt_le.mp (Int32.not_lt.mp h_69)
        (try simp only [Int32.toInt_add, Int32.toInt_sub, Int32.toInt_mul, Int32.toInt_toInt64, Int64.toInt_add, z_m1, Int32.reduceToInt, Int64.reduceToInt, Int32.reduceToNatClampNeg, Int.bmod_def] at i_69)
        refine vIf (fun h_75 => ?_) (fun h_75 => ?_)
        · have i_75 := Int32.lt_iff_toInt_lt.mp h_75
          (try simp only [Int32.toInt_add, Int32.toInt_sub, Int32.toInt_mul, Int32.toInt_toInt64, Int64.toInt_add, z_m1, Int32.reduceToInt, Int64.reduceToInt, Int32.reduceToNatClampNeg, Int.bmod_def] at i_75)
          exact T_88 _ k_60 p_jB_60 p_jK_60 p_jR_60 p_jS_60 p_jT_60
        · have i_75 := Int32.le_iff_toInt_le.mp (Int32.not_lt.mp h_75)
          (try simp only [Int32.toInt_add, Int32.toInt_sub, Int32.toInt_mul, Int32.toInt_toInt64, Int64.toInt_add, z_m1, Int32.reduceToInt, Int64.reduceToInt, Int32.reduceToNatClampNeg, Int.bmod_def] at i_75)
          refine vIf (fun h_80 => ?_) (fun h_80 => ?_)
          · have i_80 := congrArg Int32.toInt h_80
            (try simp only [Int32.toInt_add, Int32.toInt_sub, Int32.toInt_mul, Int32.toInt_toInt64, Int64.toInt_add, z_m1, Int32.reduceToInt, Int64.reduceToInt, Int32.reduceToNatClampNeg, Int.bmod_def] at i_80)
            refine vIf (fun h_85 => ?_) (fun h_85 => ?_)
            · have i_85 := congrArg Int32.toInt h_85
              (try simp only [Int32.toInt_add, Int32.toInt_sub, Int32.toInt_mul, Int32.toInt_toInt64, Int64.toInt_add, z_m1, Int32.reduceToInt, Int64.reduceToInt, Int32.reduceToNatClampNeg, Int.bmod_def] at i_85)
              refine vB (v_X8_isApplicant p_jB_60 p_jS_60) (fun e_96 f_96 q_96 => ?_)
              have k_96 : ∀ a j, ¬ WM_X8_choose P a j → e_96.2 a j = M0 a j := fun a j h => (q_96.1 a j (wz_M_X8_isApplicant_X8_choose h)).trans (k_60 a j h)
              have b_96 := q_96.2.1
              have c7_96 : Int32.toInt (e_96.2 P 7) = Int32.toInt (M_60 P 7) := congrArg Int32.toInt (q_96.1 P 7 (wc_X8_isApplicant_7))
              have c8_96 : Int32.toInt (e_96.2 P 8) = Int32.toInt (M_60 P 8) := congrArg Int32.toInt (q_96.1 P 8 (wc_X8_isApplicant_8))
              have n_96 : nA P e_96.2 = nA P M_60 := nA_congr (fun a j h => q_96.1 a j (wf_nA_X8_isApplicant h))
              have p_jK_96 : jK P e_96.2 := jK.mono p_jK_60 (fun a j h => q_96.1 a j (wf_jK_X8_isApplicant h))
              have p_jR_96 : jR P e_96.2 := jR.mono p_jR_60 (fun a j h => q_96.1 a j (wf_jR_X8_isApplicant h))
              have p_jS_96 : jS P e_96.2 := jS.mono p_jS_60 (fun a j h => q_96.1 a j (wf_jS_X8_isApplicant h))
              obtain ⟨u0_jS_96, u1_jS_96, u2_jS_96, u3_jS_96, u4_jS_96, u5_jS_96, u6_jS_96, u7_jS_96⟩ := jS.ints p_jS_96
              have p_jT_96 : jT P e_96.2 := jT.mono p_jT_60 (fun a j h => q_96.1 a j (wf_jT_X8_isApplicant h))
              obtain ⟨u0_jT_96, u1_jT_96, u2_jT_96, u3_jT_96, u4_jT_96, u5_jT_96⟩ := id p_jT_96
              obtain ⟨x0_96, x1_96, x2_96, x3_96, x4_96⟩ := q_96.2.2
              obtain ⟨u0_jB_96, u1_jB_96, u2_jB_96, u3_jB_96, u4_jB_96, u5_jB_96⟩ := id x0_96
              (try simp only [Int32.toInt_add, Int32.toInt_sub, Int32.toInt_mul, Int32.toInt_toInt64, Int64.toInt_add, z_m1, Int32.reduceToInt, Int64.reduceToInt, Int32.reduceToNatClampNeg, Int.bmod_def] at x3_96)
              (try simp only [Int32.toInt_add, Int32.toInt_sub, Int32.toInt_mul, Int32.toInt_toInt64, Int64.toInt_add, z_m1, Int32.reduceToInt, Int64.reduceToInt, Int32.reduceToNatClampNeg, Int.bmod_def] at x4_96)
              refine vIf (fun h_99 => ?_) (fun h_99 => ?_)
              · have i_99 := congrArg Int32.toInt h_99
                (try simp only [Int32.toInt_add, Int32.toInt_sub, Int32.toInt_mul, Int32.toInt_toInt64, Int64.toInt_add, z_m1, Int32.reduceToInt, Int64.reduceToInt, Int32.reduceToNatClampNeg, Int.bmod_def] at i_99)
                exact T_127 _ k_96 x0_96 x2_96 p_jK_96 x1_96 p_jR_96 p_jS_96 p_jT_96
              · have i_99 : ¬ Int32.toInt e_96.1 = Int32.toInt (0 : Int32) := fun q => h_99 (Int32.toInt_inj.mp q)
                (try simp only [Int32.toInt_add, Int32.toInt_sub, Int32.toInt_mul, Int32.toInt_toInt64, Int64.toInt_add, z_m1, Int32.reduceToInt, Int64.reduceToInt, Int32.reduceToNatClampNeg, Int.bmod_def] at i_99)
                refine vIf (fun h_107 => ?_) (fun h_107 => ?_)
                · have i_107 := Int32.le_iff_toInt_le.mp h_107
                  (try simp only [Int32.toInt_add, Int32.toInt_sub, Int32.toInt_mul, Int32.toInt_toInt64, Int64.toInt_add, z_m1, Int32.reduceToInt, Int64.reduceToInt, Int32.reduceToNatClampNeg, Int.bmod_def] at i_107)
                  exact T_127 _ k_96 x0_96 x2_96 p_jK_96 x1_96 p_jR_96 p_jS_96 p_jT_96
                · have i_107 := Int32.lt_iff_toInt_lt.mp (Int32.not_le.mp h_107)
                  (try simp only [Int32.toInt_add, Int32.toInt_sub, Int32.toInt_mul, Int32.toInt_toInt64, Int64.toInt_add, z_m1, Int32.reduceToInt, Int64.reduceToInt, Int32.reduceToNatClampNeg, Int.bmod_def] at i_107)
                  refine vIf (fun h_115 => ?_) (fun h_115 => ?_)
                  · have i_115 := Int32.le_iff_toInt_le.mp h_115
                    (try simp only [Int32.toInt_add, Int32.toInt_sub, Int32.toInt_mul, Int32.toInt_toInt64, Int64.toInt_add, z_m1, Int32.reduceToInt, Int64.reduceToInt, Int32.reduceToNatClampNeg, Int.bmod_def] at i_115)
                    exact T_127 _ k_96 x0_96 x2_96 p_jK_96 x1_96 p_jR_96 p_jS_96 p_jT_96
                  · have i_115 := Int32.lt_iff_toInt_lt.mp (Int32.not_le.mp h_115)
                    (try simp only [Int32.toInt_add, Int32.toInt_sub, Int32.toInt_mul, Int32.toInt_toInt64, Int64.toInt_add, z_m1, Int32.reduceToInt, Int64.reduceToInt, Int32.reduceToNatClampNeg, Int.bmod_def] at i_115)
                    refine vIf (fun h_124 => ?_) (fun h_124 => ?_)
                    · have i_124 := Int32.lt_iff_toInt_lt.mp h_124
                      (try simp only [Int32.toInt_add, Int32.toInt_sub, Int32.toInt_mul, Int32.toInt_toInt64, Int64.toInt_add, z_m1, Int32.reduceToInt, Int64.reduceToInt, Int32.reduceToNatClampNeg, Int.bmod_def] at i_124)
                      refine vI (vp_of (by first | omega | (simp only [Int32.toInt_add, Int32.toInt_sub, Int32.toInt_mul, Int32.toInt_toInt64, Int64.toInt_add, z_m1, Int32.reduceToInt, Int64.reduceToInt, Int32.reduceToNatClampNeg, Int.bmod_def, or_true, true_or, and_true, true_and] <;> omega)) (by first | omega | (simp only [Int32.toInt_add, Int32.toInt_sub, Int32.toInt_mul, Int32.toInt_toInt64, Int64.toInt_add, z_m1, Int32.reduceToInt, Int64.reduceToInt, Int32.reduceToNatClampNeg, Int.bmod_def, or_true, true_or, and_true, true_and] <;> omega))) ?_
                      obtain ⟨w0_138, w1_138, w2_138, w3_138, w4_138, w5_138⟩ := jL.el x1_96 (x := x1_60) (by first | omega | (simp only [Int32.toInt_add, Int32.toInt_sub, Int32.toInt_mul, Int32.toInt_toInt64, Int64.toInt_add, z_m1, Int32.reduceToInt, Int64.reduceToInt, Int32.reduceToNatClampNeg, Int.bmod_def, or_true, true_or, and_true, true_and] <;> omega)) (by first | omega | (simp only [Int32.toInt_add, Int32.toInt_sub, Int32.toInt_mul, Int32.toInt_toInt64, Int64.toInt_add, z_m1, Int32.reduceToInt, Int64.reduceToInt, Int32.reduceToNatClampNeg, Int.bmod_def, or_true, true_or, and_true, true_and] <;> omega))
                      refine vI (vp_of (by first | omega | (simp only [Int32.toInt_add, Int32.toInt_sub, Int32.toInt_mul, Int32.toInt_toInt64, Int64.toInt_add, z_m1, Int32.reduceToInt, Int64.reduceToInt, Int32.reduceToNatClampNeg, Int.bmod_def, or_true, true_or, and_true, true_and] <;> omega)) (by first | omega | (simp only [Int32.toInt_add, Int32.toInt_sub, Int32.toInt_mul, Int32.toInt_toInt64, Int64.toInt_add, z_m1, Int32.reduceToInt, Int64.reduceToInt, Int32.reduceToNatClampNeg, Int.bmod_def, or_true, true_or, and_true, true_and] <;> omega))) ?_
                      refine vIf (fun h_149 => ?_) (fun h_149 => ?_)
                      · have i_149 := congrArg Int32.toInt h_149
                        (try simp only [Int32.toInt_add, Int32.toInt_sub, Int32.toInt_mul, Int32.toInt_toInt64, Int64.toInt_add, z_m1, Int32.reduceToInt, Int64.reduceToInt, Int32.reduceToNatClampNeg, Int.bmod_def] at i_149)
                        refine vI (vp_of (by first | omega | (simp only [Int32.toInt_add, Int32.toInt_sub, Int32.toInt_mul, Int32.toInt_toInt64, Int64.toInt_add, z_m1, Int32.reduceToInt, Int64.reduceToInt, Int32.reduceToNatClampNeg, Int.bmod_def, or_true, true_or, and_true, true_and] <;> omega)) (by first | omega | (simp only [Int32.toInt_add, Int32.toInt_sub, Int32.toInt_mul, Int32.toInt_toInt64, Int64.toInt_add, z_m1, Int32.reduceToInt, Int64.reduceToInt, Int32.reduceToNatClampNeg, Int.bmod_def, or_true, true_or, and_true, true_and] <;> omega))) ?_
                        refine vIf (fun h_162 => ?_) (fun h_162 => ?_)
                        · have i_162 := congrArg Int32.toInt h_162
                          (try simp only [Int32.toInt_add, Int32.toInt_sub, Int32.toInt_mul, Int32.toInt_toInt64, Int64.toInt_add, z_m1, Int32.reduceToInt, Int64.reduceToInt, Int32.reduceToNatClampNeg, Int.bmod_def] at i_162)
                          refine vI (vp_of (by first | omega | (simp only [Int32.toInt_add, Int32.toInt_sub, Int32.toInt_mul, Int32.toInt_toInt64, Int64.toInt_add, z_m1, Int32.reduceToInt, Int64.reduceToInt, Int32.reduceToNatClampNeg, Int.bmod_def, or_true, true_or, and_true, true_and] <;> omega)) (by first | omega | (simp only [Int32.toInt_add, Int32.toInt_sub, Int32.toInt_mul, Int32.toInt_toInt64, Int64.toInt_add, z_m1, Int32.reduceToInt, Int64.reduceToInt, Int32.reduceToNatClampNeg, Int.bmod_def, or_true, true_or, and_true, true_and] <;> omega))) ?_
                          refine vIf (fun h_176 => ?_) (fun h_176 => ?_)
                          · have i_176 := congrArg Int32.toInt h_176
                            (try simp only [Int32.toInt_add, Int32.toInt_sub, Int32.toInt_mul, Int32.toInt_toInt64, Int64.toInt_add, z_m1, Int32.reduceToInt, Int64.reduceToInt, Int32.reduceToNatClampNeg, Int.bmod_def] at i_176)
                            refine vB (v_X8_refuse) (fun e_181 f_181 q_181 => ?_)
                            have k_181 : ∀ a j, ¬ WM_X8_choose P a j → e_181.2 a j = M0 a j := fun a j h => (q_181 a j (wz_M_X8_refuse_X8_choose h)).trans (k_96 a j h)
                            have c7_181 : Int32.toInt (e_181.2 P 7) = Int32.toInt (e_96.2 P 7) := congrArg Int32.toInt (q_181 P 7 (wc_X8_refuse_7))
                            have c8_181 : Int32.toInt (e_181.2 P 8) = Int32.toInt (e_96.2 P 8) := congrArg Int32.toInt (q_181 P 8 (wc_X8_refuse_8))
                            have c33_181 : Int32.toInt (e_181.2 P 33) = Int32.toInt (e_96.2 P 33) := congrArg Int32.toInt (q_181 P 33 (wc_X8_refuse_33))
                            have n_181 : nA P e_181.2 = nA P e_96.2 := nA_congr (fun a j h => q_181 a j (wf_nA_X8_refuse h))
                            have p_jK_181 : jK P e_181.2 := jK.mono p_jK_96 (fun a j h => q_181 a j (wf_jK_X8_refuse h))
                            have p_jR_181 : jR P e_181.2 := jR.mono p_jR_96 (fun a j h => q_181 a j (wf_jR_X8_refuse h))
                            have p_jS_181 : jS P e_181.2 := jS.mono p_jS_96 (fun a j h => q_181 a j (wf_jS_X8_refuse h))
                            obtain ⟨u0_jS_181, u1_jS_181, u2_jS_181, u3_jS_181, u4_jS_181, u5_jS_181, u6_jS_181, u7_jS_181⟩ := jS.ints p_jS_181
                            have p_jT_181 : jT P e_181.2 := jT.mono p_jT_96 (fun a j h => q_181 a j (wf_jT_X8_refuse h))
                            obtain ⟨u0_jT_181, u1_jT_181, u2_jT_181, u3_jT_181, u4_jT_181, u5_jT_181⟩ := id p_jT_181
                            have p_jB_181 : jB P e_181.2 := jB.mono x0_96 (fun a j h => q_181 a j (wf_jB_X8_refuse h))
                            obtain ⟨u0_jB_181, u1_jB_181, u2_jB_181, u3_jB_181, u4_jB_181, u5_jB_181⟩ := id p_jB_181
                            have p_jL_181 : jL P e_181.2 := jL.mono x1_96 (fun a j h => q_181 a j (wf_jL_X8_refuse h))
                            have p_jH_181 : jH P e_181.2 := jH.mono x2_96 (fun a j h => q_181 a j (wf_jH_X8_refuse h))
                            exact ⟨_, rfl, k_181, ⟨p_jB_181, p_jS_181, p_jR_181, p_jK_181, p_jT_181⟩⟩
                          · have i_176 : ¬ Int32.toInt (e_96.2 (P + 1) ((e_96.2 (P + 13) x1_60.toNatClampNeg) + (2 : Int32)).toNatClampNeg) = Int32.toInt x4_60 := fun q => h_176 (Int32.toInt_inj.mp q)
                            (try simp only [Int32.toInt_add, Int32.toInt_sub, Int32.toInt_mul, Int32.toInt_toInt64, Int64.toInt_add, z_m1, Int32.reduceToInt, Int64.reduceToInt, Int32.reduceToNatClampNeg, Int.bmod_def] at i_176)
                            exact T_185 _ _ _ _ _ _ k_96 x0_96 x2_96 p_jK_96 x1_96 p_jR_96 p_jS_96 p_jT_96 (by first | omega | (simp only [Int32.toInt_add, Int32.toInt_sub, Int32.toInt_mul, Int32.toInt_toInt64, Int64.toInt_add, z_m1, Int32.reduceToInt, Int64.reduceToInt, Int32.reduceToNatClampNeg, Int.bmod_def, or_true, true_or, and_true, true_and] <;> omega)) (by first | omega | (simp only [Int32.toInt_add, Int32.toInt_sub, Int32.toInt_mul, Int32.toInt_toInt64, Int64.toInt_add, z_m1, Int32.reduceToInt, Int64.reduceToInt, Int32.reduceToNatClampNeg, Int.bmod_def, or_true, true_or, and_true, true_and] <;> omega)) (by first | omega | (simp only [Int32.toInt_add, Int32.toInt_sub, Int32.toInt_mul, Int32.toInt_toInt64, Int64.toInt_add, z_m1, Int32.reduceToInt, Int64.reduceToInt, Int32.reduceToNatClampNeg, Int.bmod_def, or_true, true_or, and_true, true_and] <;> omega)) (by first | omega | (simp only [Int32.toInt_add, Int32.toInt_sub, Int32.toInt_mul, Int32.toInt_toInt64, Int64.toInt_add, z_m1, Int32.reduceToInt, Int64.reduceToInt, Int32.reduceToNatClampNeg, Int.bmod_def, or_true, true_or, and_true, true_and] <;> omega)) (by first | omega | (simp only [Int32.toInt_add, Int32.toInt_sub, Int32.toInt_mul, Int32.toInt_toInt64, Int64.toInt_add, z_m1, Int32.reduceToInt, Int64.reduceToInt, Int32.reduceToNatClampNeg, Int.bmod_def, or_true, true_or, and_true, true_and] <;> omega))
                        · have i_162 : ¬ Int32.toInt (e_96.2 (P + 1) ((e_96.2 (P + 13) x1_60.toNatClampNeg) + (1 : Int32)).toNatClampNeg) = Int32.toInt x3_60 := fun q => h_162 (Int32.toInt_inj.mp q)
                          (try simp only [Int32.toInt_add, Int32.toInt_sub, Int32.toInt_mul, Int32.toInt_toInt64, Int64.toInt_add, z_m1, Int32.reduceToInt, Int64.reduceToInt, Int32.reduceToNatClampNeg, Int.bmod_def] at i_162)
                          exact T_185 _ _ _ _ _ _ k_96 x0_96 x2_96 p_jK_96 x1_96 p_jR_96 p_jS_96 p_jT_96 (by first | omega | (simp only [Int32.toInt_add, Int32.toInt_sub, Int32.toInt_mul, Int32.toInt_toInt64, Int64.toInt_add, z_m1, Int32.reduceToInt, Int64.reduceToInt, Int32.reduceToNatClampNeg, Int.bmod_def, or_true, true_or, and_true, true_and] <;> omega)) (by first | omega | (simp only [Int32.toInt_add, Int32.toInt_sub, Int32.toInt_mul, Int32.toInt_toInt64, Int64.toInt_add, z_m1, Int32.reduceToInt, Int64.reduceToInt, Int32.reduceToNatClampNeg, Int.bmod_def, or_true, true_or, and_true, true_and] <;> omega)) (by first | omega | (simp only [Int32.toInt_add, Int32.toInt_sub, Int32.toInt_mul, Int32.toInt_toInt64, Int64.toInt_add, z_m1, Int32.reduceToInt, Int64.reduceToInt, Int32.reduceToNatClampNeg, Int.bmod_def, or_true, true_or, and_true, true_and] <;> omega)) (by first | omega | (simp only [Int32.toInt_add, Int32.toInt_sub, Int32.toInt_mul, Int32.toInt_toInt64, Int64.toInt_add, z_m1, Int32.reduceToInt, Int64.reduceToInt, Int32.reduceToNatClampNeg, Int.bmod_def, or_true, true_or, and_true, true_and] <;> omega)) (by first | omega | (simp only [Int32.toInt_add, Int32.toInt_sub, Int32.toInt_mul, Int32.toInt_toInt64, Int64.toInt_add, z_m1, Int32.reduceToInt, Int64.reduceToInt, Int32.reduceToNatClampNeg, Int.bmod_def, or_true, true_or, and_true, true_and] <;> omega))
                      · have i_149 : ¬ Int32.toInt (e_96.2 (P + 1) (e_96.2 (P + 13) x1_60.toNatClampNeg).toNatClampNeg) = Int32.toInt x2_60 := fun q => h_149 (Int32.toInt_inj.mp q)
                        (try simp only [Int32.toInt_add, Int32.toInt_sub, Int32.toInt_mul, Int32.toInt_toInt64, Int64.toInt_add, z_m1, Int32.reduceToInt, Int64.reduceToInt, Int32.reduceToNatClampNeg, Int.bmod_def] at i_149)
                        exact T_185 _ _ _ _ _ _ k_96 x0_96 x2_96 p_jK_96 x1_96 p_jR_96 p_jS_96 p_jT_96 (by first | omega | (simp only [Int32.toInt_add, Int32.toInt_sub, Int32.toInt_mul, Int32.toInt_toInt64, Int64.toInt_add, z_m1, Int32.reduceToInt, Int64.reduceToInt, Int32.reduceToNatClampNeg, Int.bmod_def, or_true, true_or, and_true, true_and] <;> omega)) (by first | omega | (simp only [Int32.toInt_add, Int32.toInt_sub, Int32.toInt_mul, Int32.toInt_toInt64, Int64.toInt_add, z_m1, Int32.reduceToInt, Int64.reduceToInt, Int32.reduceToNatClampNeg, Int.bmod_def, or_true, true_or, and_true, true_and] <;> omega)) (by first | omega | (simp only [Int32.toInt_add, Int32.toInt_sub, Int32.toInt_mul, Int32.toInt_toInt64, Int64.toInt_add, z_m1, Int32.reduceToInt, Int64.reduceToInt, Int32.reduceToNatClampNeg, Int.bmod_def, or_true, true_or, and_true, true_and] <;> omega)) (by first | omega | (simp only [Int32.toInt_add, Int32.toInt_sub, Int32.toInt_mul, Int32.toInt_toInt64, Int64.toInt_add, z_m1, Int32.reduceToInt, Int64.reduceToInt, Int32.reduceToNatClampNeg, Int.bmod_def, or_true, true_or, and_true, true_and] <;> omega)) (by first | omega | (simp only [Int32.toInt_add, Int32.toInt_sub, Int32.toInt_mul, Int32.toInt_toInt64, Int64.toInt_add, z_m1, Int32.reduceToInt, Int64.reduceToInt, Int32.reduceToNatClampNeg, Int.bmod_def, or_true, true_or, and_true, true_and] <;> omega))
                    · have i_124 := Int32.le_iff_toInt_le.mp (Int32.not_lt.mp h_124)
                      (try simp only [Int32.toInt_add, Int32.toInt_sub, Int32.toInt_mul, Int32.toInt_toInt64, Int64.toInt_add, z_m1, Int32.reduceToInt, Int64.reduceToInt, Int32.reduceToNatClampNeg, Int.bmod_def] at i_124)
                      exact T_127 _ k_96 x0_96 x2_96 p_jK_96 x1_96 p_jR_96 p_jS_96 p_jT_96
            · have i_85 : ¬ Int32.toInt y0_60 = Int32.toInt (0 : Int32) := fun q => h_85 (Int32.toInt_inj.mp q)
              (try simp only [Int32.toInt_add, Int32.toInt_sub, Int32.toInt_mul, Int32.toInt_toInt64, Int64.toInt_add, z_m1, Int32.reduceToInt, Int64.reduceToInt, Int32.reduceToNatClampNeg, Int.bmod_def] at i_85)
              exact T_88 _ k_60 p_jB_60 p_jK_60 p_jR_60 p_jS_60 p_jT_60
          · have i_80 : ¬ Int32.toInt x5_60 = Int32.toInt (0 : Int32) := fun q => h_80 (Int32.toInt_inj.mp q)
            (try simp only [Int32.toInt_add, Int32.toInt_sub, Int32.toInt_mul, Int32.toInt_toInt64, Int64.toInt_add, z_m1, Int32.reduceToInt, Int64.reduceToInt, Int32.reduceToNatClampNeg, Int.bmod_def] at i_80)
            exact T_88 _ k_60 p_jB_60 p_jK_60 p_jR_60 p_jS_60 p_jT_60
  have T_59 : ∀ (x1_59 : Int32) (x2_59 : Int32) (x3_59 : Int32) (x4_59 : Int32) (x5_59 : Int32) (M_59 : zMt), (∀ a j, ¬ WM_X8_choose P a j → M_59 a j = M0 a j) → (jB P M_59) → (jK P M_59) → (jR P M_59) → (jS P M_59) → (jT P M_59) → (x5_59 = 0 ∨ x5_59 = 1) → ∃ r, D_X8_choose_59 P x1_59 x2_59 x3_59 x4_59 x5_59 M_59 = some r ∧ ((∀ a j, ¬ WM_X8_choose P a j → r.2 a j = M0 a j) ∧ ((jB P r.2) ∧ (jS P r.2) ∧ (jR P r.2) ∧ (jK P r.2) ∧ (jT P r.2))) := by
    intro x1_59 x2_59 x3_59 x4_59 x5_59 M_59 k_59 p_jB_59 p_jK_59 p_jR_59 p_jS_59 p_jT_59 f0_59
    obtain ⟨u0_jB_59, u1_jB_59, u2_jB_59, u3_jB_59, u4_jB_59, u5_jB_59⟩ := id p_jB_59
    obtain ⟨u0_jS_59, u1_jS_59, u2_jS_59, u3_jS_59, u4_jS_59, u5_jS_59, u6_jS_59, u7_jS_59⟩ := jS.ints p_jS_59
    obtain ⟨u0_jT_59, u1_jT_59, u2_jT_59, u3_jT_59, u4_jT_59, u5_jT_59⟩ := id p_jT_59
    unfold D_X8_choose_59
    exact T_60 _ _ _ _ _ _ _ k_59 p_jB_59 p_jK_59 p_jR_59 p_jS_59 p_jT_59 (by first | exact Or.inl rfl | exact Or.inr rfl | assumption) (by first | exact Or.inl rfl | exact Or.inr rfl | assumption)
  have T_55 : ∀ (x1_55 : Int32) (x2_55 : Int32) (x3_55 : Int32) (x4_55 : Int32) (x5_55 : Int32) (M_55 : zMt), (∀ a j, ¬ WM_X8_choose P a j → M_55 a j = M0 a j) → (jB P M_55) → (jK P M_55) → (jR P M_55) → (jS P M_55) → (jT P M_55) → (x5_55 = 0 ∨ x5_55 = 1) → ∃ r, D_X8_choose_55 P x1_55 x2_55 x3_55 x4_55 x5_55 M_55 = some r ∧ ((∀ a j, ¬ WM_X8_choose P a j → r.2 a j = M0 a j) ∧ ((jB P r.2) ∧ (jS P r.2) ∧ (jR P r.2) ∧ (jK P r.2) ∧ (jT P r.2))) := by
    intro x1_55 x2_55 x3_55 x4_55 x5_55 M_55 k_55 p_jB_55 p_jK_55 p_jR_55 p_jS_55 p_jT_55 f0_55
    obtain ⟨u0_jB_55, u1_jB_55, u2_jB_55, u3_jB_55, u4_jB_55, u5_jB_55⟩ := id p_jB_55
    obtain ⟨u0_jS_55, u1_jS_55, u2_jS_55, u3_jS_55, u4_jS_55, u5_jS_55, u6_jS_55, u7_jS_55⟩ := jS.ints p_jS_55
    obtain ⟨u0_jT_55, u1_jT_55, u2_jT_55, u3_jT_55, u4_jT_55, u5_jT_55⟩ := id p_jT_55
    unfold D_X8_choose_55
    exact T_60 _ _ _ _ _ _ _ k_55 p_jB_55 p_jK_55 p_jR_55 p_jS_55 p_jT_55 (by first | exact Or.inl rfl | exact Or.inr rfl | assumption) (by first | exact Or.inl rfl | exact Or.inr rfl | assumption)
  have T_44 : ∀ (x1_44 : Int32) (x2_44 : Int32) (x3_44 : Int32) (x4_44 : Int32) (x5_44 : Int32) (M_44 : zMt), (∀ a j, ¬ WM_X8_choose P a j → M_44 a j = M0 a j) → (jB P M_44) → (jK P M_44) → (jR P M_44) → (jS P M_44) → (jT P M_44) → (x5_44 = 0 ∨ x5_44 = 1) → ∃ r, D_X8_choose_44 P x1_44 x2_44 x3_44 x4_44 x5_44 M_44 = some r ∧ ((∀ a j, ¬ WM_X8_choose P a j → r.2 a j = M0 a j) ∧ ((jB P r.2) ∧ (jS P r.2) ∧ (jR P r.2) ∧ (jK P r.2) ∧ (jT P r.2))) := by
    intro x1_44 x2_44 x3_44 x4_44 x5_44 M_44 k_44 p_jB_44 p_jK_44 p_jR_44 p_jS_44 p_jT_44 f0_44
    obtain ⟨u0_jB_44, u1_jB_44, u2_jB_44, u3_jB_44, u4_jB_44, u5_jB_44⟩ := id p_jB_44
    obtain ⟨u0_jS_44, u1_jS_44, u2_jS_44, u3_jS_44, u4_jS_44, u5_jS_44, u6_jS_44, u7_jS_44⟩ := jS.ints p_jS_44
    obtain ⟨u0_jT_44, u1_jT_44, u2_jT_44, u3_jT_44, u4_jT_44, u5_jT_44⟩ := id p_jT_44
    unfold D_X8_choose_44
    refine vIf (fun h_46 => ?_) (fun h_46 => ?_)
    · have i_46 := congrArg Int32.toInt h_46
      (try simp only [Int32.toInt_add, Int32.toInt_sub, Int32.toInt_mul, Int32.toInt_toInt64, Int64.toInt_add, z_m1, Int32.reduceToInt, Int64.reduceToInt, Int32.reduceToNatClampNeg, Int.bmod_def] at i_46)
      exact T_59 _ _ _ _ _ _ k_44 p_jB_44 p_jK_44 p_jR_44 p_jS_44 p_jT_44 (by first | exact Or.inl rfl | exact Or.inr rfl | assumption)
    · have i_46 : ¬ Int32.toInt x3_44 = Int32.toInt (-1 : Int32) := fun q => h_46 (Int32.toInt_inj.mp q)
      (try simp only [Int32.toInt_add, Int32.toInt_sub, Int32.toInt_mul, Int32.toInt_toInt64, Int64.toInt_add, z_m1, Int32.reduceToInt, Int64.reduceToInt, Int32.reduceToNatClampNeg, Int.bmod_def] at i_46)
      refine vIf (fun h_52 => ?_) (fun h_52 => ?_)
      · have i_52 := congrArg Int32.toInt h_52
        (try simp only [Int32.toInt_add, Int32.toInt_sub, Int32.toInt_mul, Int32.toInt_toInt64, Int64.toInt_add, z_m1, Int32.reduceToInt, Int64.reduceToInt, Int32.reduceToNatClampNeg, Int.bmod_def] at i_52)
        exact T_55 _ _ _ _ _ _ k_44 p_jB_44 p_jK_44 p_jR_44 p_jS_44 p_jT_44 (by first | exact Or.inl rfl | exact Or.inr rfl | assumption)
      · have i_52 : ¬ Int32.toInt x3_44 = Int32.toInt x4_44 := fun q => h_52 (Int32.toInt_inj.mp q)
        (try simp only [Int32.toInt_add, Int32.toInt_sub, Int32.toInt_mul, Int32.toInt_toInt64, Int64.toInt_add, z_m1, Int32.reduceToInt, Int64.reduceToInt, Int32.reduceToNatClampNeg, Int.bmod_def] at i_52)
        exact T_59 _ _ _ _ _ _ k_44 p_jB_44 p_jK_44 p_jR_44 p_jS_44 p_jT_44 (by first | exact Or.inl rfl | exact Or.inr rfl | assumption)
  have T_26 : ∀ (x1_26 : Int32) (x2_26 : Int32) (x3_26 : Int32) (x4_26 : Int32) (y0_26 : Int32) (M_26 : zMt), (∀ a j, ¬ WM_X8_choose P a j → M_26 a j = M0 a j) → (jB P M_26) → (jK P M_26) → (jR P M_26) → (jS P M_26) → (jT P M_26) → (y0_26 = 0 ∨ y0_26 = 1) → ∃ r, D_X8_choose_26 P x1_26 x2_26 x3_26 x4_26 y0_26 M_26 = some r ∧ ((∀ a j, ¬ WM_X8_choose P a j → r.2 a j = M0 a j) ∧ ((jB P r.2) ∧ (jS P r.2) ∧ (jR P r.2) ∧ (jK P r.2) ∧ (jT P r.2))) := by
    intro x1_26 x2_26 x3_26 x4_26 y0_26 M_26 k_26 p_jB_26 p_jK_26 p_jR_26 p_jS_26 p_jT_26 f0_26
    obtain ⟨u0_jB_26, u1_jB_26, u2_jB_26, u3_jB_26, u4_jB_26, u5_jB_26⟩ := id p_jB_26
    obtain ⟨u0_jS_26, u1_jS_26, u2_jS_26, u3_jS_26, u4_jS_26, u5_jS_26, u6_jS_26, u7_jS_26⟩ := jS.ints p_jS_26
    obtain ⟨u0_jT_26, u1_jT_26, u2_jT_26, u3_jT_26, u4_jT_26, u5_jT_26⟩ := id p_jT_26
    unfold D_X8_choose_26
    refine vIf (fun h_30 => ?_) (fun h_30 => ?_)
    · have i_30 := congrArg Int32.toInt h_30
      (try simp only [Int32.toInt_add, Int32.toInt_sub, Int32.toInt_mul, Int32.toInt_toInt64, Int64.toInt_add, z_m1, Int32.reduceToInt, Int64.reduceToInt, Int32.reduceToNatClampNeg, Int.bmod_def] at i_30)
      exact T_44 _ _ _ _ _ _ k_26 p_jB_26 p_jK_26 p_jR_26 p_jS_26 p_jT_26 (by first | exact Or.inl rfl | exact Or.inr rfl | assumption)
    · have i_30 : ¬ Int32.toInt x2_26 = Int32.toInt (-1 : Int32) := fun q => h_30 (Int32.toInt_inj.mp q)
      (try simp only [Int32.toInt_add, Int32.toInt_sub, Int32.toInt_mul, Int32.toInt_toInt64, Int64.toInt_add, z_m1, Int32.reduceToInt, Int64.reduceToInt, Int32.reduceToNatClampNeg, Int.bmod_def] at i_30)
      refine vIf (fun h_35 => ?_) (fun h_35 => ?_)
      · have i_35 := congrArg Int32.toInt h_35
        (try simp only [Int32.toInt_add, Int32.toInt_sub, Int32.toInt_mul, Int32.toInt_toInt64, Int64.toInt_add, z_m1, Int32.reduceToInt, Int64.reduceToInt, Int32.reduceToNatClampNeg, Int.bmod_def] at i_35)
        exact T_55 _ _ _ _ _ _ k_26 p_jB_26 p_jK_26 p_jR_26 p_jS_26 p_jT_26 (by first | exact Or.inl rfl | exact Or.inr rfl | assumption)
      · have i_35 : ¬ Int32.toInt x2_26 = Int32.toInt x3_26 := fun q => h_35 (Int32.toInt_inj.mp q)
        (try simp only [Int32.toInt_add, Int32.toInt_sub, Int32.toInt_mul, Int32.toInt_toInt64, Int64.toInt_add, z_m1, Int32.reduceToInt, Int64.reduceToInt, Int32.reduceToNatClampNeg, Int.bmod_def] at i_35)
        refine vIf (fun h_41 => ?_) (fun h_41 => ?_)
        · have i_41 := congrArg Int32.toInt h_41
          (try simp only [Int32.toInt_add, Int32.toInt_sub, Int32.toInt_mul, Int32.toInt_toInt64, Int64.toInt_add, z_m1, Int32.reduceToInt, Int64.reduceToInt, Int32.reduceToNatClampNeg, Int.bmod_def] at i_41)
          exact T_55 _ _ _ _ _ _ k_26 p_jB_26 p_jK_26 p_jR_26 p_jS_26 p_jT_26 (by first | exact Or.inl rfl | exact Or.inr rfl | assumption)
        · have i_41 : ¬ Int32.toInt x2_26 = Int32.toInt x4_26 := fun q => h_41 (Int32.toInt_inj.mp q)
          (try simp only [Int32.toInt_add, Int32.toInt_sub, Int32.toInt_mul, Int32.toInt_toInt64, Int64.toInt_add, z_m1, Int32.reduceToInt, Int64.reduceToInt, Int32.reduceToNatClampNeg, Int.bmod_def] at i_41)
          exact T_44 _ _ _ _ _ _ k_26 p_jB_26 p_jK_26 p_jR_26 p_jS_26 p_jT_26 (by first | exact Or.inl rfl | exact Or.inr rfl | assumption)
  have T_25 : ∀ (x1_25 : Int32) (x2_25 : Int32) (x3_25 : Int32) (x4_25 : Int32) (M_25 : zMt), (∀ a j, ¬ WM_X8_choose P a j → M_25 a j = M0 a j) → (jB P M_25) → (jK P M_25) → (jR P M_25) → (jS P M_25) → (jT P M_25) → ∃ r, D_X8_choose_25 P x1_25 x2_25 x3_25 x4_25 M_25 = some r ∧ ((∀ a j, ¬ WM_X8_choose P a j → r.2 a j = M0 a j) ∧ ((jB P r.2) ∧ (jS P r.2) ∧ (jR P r.2) ∧ (jK P r.2) ∧ (jT P r.2))) := by
    intro x1_25 x2_25 x3_25 x4_25 M_25 k_25 p_jB_25 p_jK_25 p_jR_25 p_jS_25 p_jT_25
    obtain ⟨u0_jB_25, u1_jB_25, u2_jB_25, u3_jB_25, u4_jB_25, u5_jB_25⟩ := id p_jB_25
    obtain ⟨u0_jS_25, u1_jS_25, u2_jS_25, u3_jS_25, u4_jS_25, u5_jS_25, u6_jS_25, u7_jS_25⟩ := jS.ints p_jS_25
    obtain ⟨u0_jT_25, u1_jT_25, u2_jT_25, u3_jT_25, u4_jT_25, u5_jT_25⟩ := id p_jT_25
    unfold D_X8_choose_25
    exact T_26 _ _ _ _ _ _ k_25 p_jB_25 p_jK_25 p_jR_25 p_jS_25 p_jT_25 (by first | exact Or.inl rfl | exact Or.inr rfl | assumption)
  have T_21 : ∀ (x1_21 : Int32) (x2_21 : Int32) (x3_21 : Int32) (x4_21 : Int32) (M_21 : zMt), (∀ a j, ¬ WM_X8_choose P a j → M_21 a j = M0 a j) → (jB P M_21) → (jK P M_21) → (jR P M_21) → (jS P M_21) → (jT P M_21) → ∃ r, D_X8_choose_21 P x1_21 x2_21 x3_21 x4_21 M_21 = some r ∧ ((∀ a j, ¬ WM_X8_choose P a j → r.2 a j = M0 a j) ∧ ((jB P r.2) ∧ (jS P r.2) ∧ (jR P r.2) ∧ (jK P r.2) ∧ (jT P r.2))) := by
    intro x1_21 x2_21 x3_21 x4_21 M_21 k_21 p_jB_21 p_jK_21 p_jR_21 p_jS_21 p_jT_21
    obtain ⟨u0_jB_21, u1_jB_21, u2_jB_21, u3_jB_21, u4_jB_21, u5_jB_21⟩ := id p_jB_21
    obtain ⟨u0_jS_21, u1_jS_21, u2_jS_21, u3_jS_21, u4_jS_21, u5_jS_21, u6_jS_21, u7_jS_21⟩ := jS.ints p_jS_21
    obtain ⟨u0_jT_21, u1_jT_21, u2_jT_21, u3_jT_21, u4_jT_21, u5_jT_21⟩ := id p_jT_21
    unfold D_X8_choose_21
    exact T_26 _ _ _ _ _ _ k_21 p_jB_21 p_jK_21 p_jR_21 p_jS_21 p_jT_21 (by first | exact Or.inl rfl | exact Or.inr rfl | assumption)
  have T_10 : ∀ (x1_10 : Int32) (x2_10 : Int32) (x3_10 : Int32) (x4_10 : Int32) (M_10 : zMt), (∀ a j, ¬ WM_X8_choose P a j → M_10 a j = M0 a j) → (jB P M_10) → (jK P M_10) → (jR P M_10) → (jS P M_10) → (jT P M_10) → ∃ r, D_X8_choose_10 P x1_10 x2_10 x3_10 x4_10 M_10 = some r ∧ ((∀ a j, ¬ WM_X8_choose P a j → r.2 a j = M0 a j) ∧ ((jB P r.2) ∧ (jS P r.2) ∧ (jR P r.2) ∧ (jK P r.2) ∧ (jT P r.2))) := by
    intro x1_10 x2_10 x3_10 x4_10 M_10 k_10 p_jB_10 p_jK_10 p_jR_10 p_jS_10 p_jT_10
    obtain ⟨u0_jB_10, u1_jB_10, u2_jB_10, u3_jB_10, u4_jB_10, u5_jB_10⟩ := id p_jB_10
    obtain ⟨u0_jS_10, u1_jS_10, u2_jS_10, u3_jS_10, u4_jS_10, u5_jS_10, u6_jS_10, u7_jS_10⟩ := jS.ints p_jS_10
    obtain ⟨u0_jT_10, u1_jT_10, u2_jT_10, u3_jT_10, u4_jT_10, u5_jT_10⟩ := id p_jT_10
    unfold D_X8_choose_10
    refine vIf (fun h_12 => ?_) (fun h_12 => ?_)
    · have i_12 := congrArg Int32.toInt h_12
      (try simp only [Int32.toInt_add, Int32.toInt_sub, Int32.toInt_mul, Int32.toInt_toInt64, Int64.toInt_add, z_m1, Int32.reduceToInt, Int64.reduceToInt, Int32.reduceToNatClampNeg, Int.bmod_def] at i_12)
      refine vIf (fun h_18 => ?_) (fun h_18 => ?_)
      · have i_18 := congrArg Int32.toInt h_18
        (try simp only [Int32.toInt_add, Int32.toInt_sub, Int32.toInt_mul, Int32.toInt_toInt64, Int64.toInt_add, z_m1, Int32.reduceToInt, Int64.reduceToInt, Int32.reduceToNatClampNeg, Int.bmod_def] at i_18)
        exact T_25 _ _ _ _ _ k_10 p_jB_10 p_jK_10 p_jR_10 p_jS_10 p_jT_10
      · have i_18 : ¬ Int32.toInt x4_10 = Int32.toInt (-1 : Int32) := fun q => h_18 (Int32.toInt_inj.mp q)
        (try simp only [Int32.toInt_add, Int32.toInt_sub, Int32.toInt_mul, Int32.toInt_toInt64, Int64.toInt_add, z_m1, Int32.reduceToInt, Int64.reduceToInt, Int32.reduceToNatClampNeg, Int.bmod_def] at i_18)
        exact T_21 _ _ _ _ _ k_10 p_jB_10 p_jK_10 p_jR_10 p_jS_10 p_jT_10
    · have i_12 : ¬ Int32.toInt x3_10 = Int32.toInt (-1 : Int32) := fun q => h_12 (Int32.toInt_inj.mp q)
      (try simp only [Int32.toInt_add, Int32.toInt_sub, Int32.toInt_mul, Int32.toInt_toInt64, Int64.toInt_add, z_m1, Int32.reduceToInt, Int64.reduceToInt, Int32.reduceToNatClampNeg, Int.bmod_def] at i_12)
      exact T_25 _ _ _ _ _ k_10 p_jB_10 p_jK_10 p_jR_10 p_jS_10 p_jT_10
  unfold D_X8_choose
  refine vIf (fun h_2 => ?_) (fun h_2 => ?_)
  · have i_2 := congrArg Int32.toInt h_2
    (try simp only [Int32.toInt_add, Int32.toInt_sub, Int32.toInt_mul, Int32.toInt_toInt64, Int64.toInt_add, z_m1, Int32.reduceToInt, Int64.reduceToInt, Int32.reduceToNatClampNeg, Int.bmod_def] at i_2)
    refine vIf (fun h_7 => ?_) (fun h_7 => ?_)
    · have i_7 := congrArg Int32.toInt h_7
      (try simp only [Int32.toInt_add, Int32.toInt_sub, Int32.toInt_mul, Int32.toInt_toInt64, Int64.toInt_add, z_m1, Int32.reduceToInt, Int64.reduceToInt, Int32.reduceToNatClampNeg, Int.bmod_def] at i_7)
      exact T_10 _ _ _ _ _ (fun _ _ _ => rfl) p_jB p_jK p_jR p_jS p_jT
    · have i_7 : ¬ Int32.toInt v2 = Int32.toInt (-1 : Int32) := fun q => h_7 (Int32.toInt_inj.mp q)
      (try simp only [Int32.toInt_add, Int32.toInt_sub, Int32.toInt_mul, Int32.toInt_toInt64, Int64.toInt_add, z_m1, Int32.reduceToInt, Int64.reduceToInt, Int32.reduceToNatClampNeg, Int.bmod_def] at i_7)
      exact T_21 _ _ _ _ _ (fun _ _ _ => rfl) p_jB p_jK p_jR p_jS p_jT
  · have i_2 : ¬ Int32.toInt v1 = Int32.toInt (-1 : Int32) := fun q => h_2 (Int32.toInt_inj.mp q)
    (try simp only [Int32.toInt_add, Int32.toInt_sub, Int32.toInt_mul, Int32.toInt_toInt64, Int64.toInt_add, z_m1, Int32.reduceToInt, Int64.reduceToInt, Int32.reduceToNatClampNeg, Int.bmod_def] at i_2)
    exact T_10 _ _ _ _ _ (fun _ _ _ => rfl) p_jB p_jK p_jR p_jS p_jT
def WM_X8_prints (P : Nat) (a j : Nat) : Prop := (P + 32 ≤ a ∧ a < P + 33) ∨ (a = P ∧ (j = 64))
theorem wq_X8_prints_M32_r {P a j : Nat} (h : ¬ WM_X8_prints P a j) : ¬ a = P + 32 := by unfold WM_X8_prints at h; omega
theorem wf_nA_M32_r {P a j : Nat} (h : (a = P + 1 ∨ (a = P ∧ j = 8))) : ¬ a = P + 32 := by omega
theorem wf_jT_M32_r {P a j : Nat} (h : (a = P ∧ (j = 9 ∨ j = 11 ∨ j = 64))) : ¬ a = P + 32 := by omega
theorem wq_X8_prints_M0_64 {P a j : Nat} (h : ¬ WM_X8_prints P a j) : ¬ (a = P ∧ j = 64) := by unfold WM_X8_prints at h; omega
theorem wf_nA_M0_64 {P a j : Nat} (h : (a = P + 1 ∨ (a = P ∧ j = 8))) : ¬ (a = P ∧ j = 64) := by omega
set_option maxRecDepth 100000 in
set_option maxHeartbeats 4000000 in
theorem v_X8_prints {P : Nat} {v0 : Int32} {M0 : zMt}  (p_jT : jT P M0) (i_1 : Int32.toInt (M0 P 64) < 64) : ∃ r, D_X8_prints P v0 M0 = some r ∧ ((∀ a j, ¬ WM_X8_prints P a j → r a j = M0 a j) ∧ ((jT P r) ∧ (Int32.toInt (r P 64) = Int32.toInt (M0 P 64) + 1))) := by
  obtain ⟨u0_jT, u1_jT, u2_jT, u3_jT, u4_jT, u5_jT⟩ := id p_jT
  unfold D_X8_prints
  refine vI (vp_of (by first | omega | (simp only [Int32.toInt_add, Int32.toInt_sub, Int32.toInt_mul, Int32.toInt_toInt64, Int64.toInt_add, z_m1, Int32.reduceToInt, Int64.reduceToInt, Int32.reduceToNatClampNeg, Int.bmod_def, or_true, true_or, and_true, true_and] <;> omega)) (by first | omega | (simp only [Int32.toInt_add, Int32.toInt_sub, Int32.toInt_mul, Int32.toInt_toInt64, Int64.toInt_add, z_m1, Int32.reduceToInt, Int64.reduceToInt, Int32.reduceToNatClampNeg, Int.bmod_def, or_true, true_or, and_true, true_and] <;> omega))) ?_
  refine vLm (W := WM_X8_prints P) (fun a j h => (zu_ne (fun z => wq_X8_prints_M32_r h z.1))) (fun M_9 f_9 k_9 => ?_)
  have c7_9 : Int32.toInt (M_9 P 7) = Int32.toInt (M0 P 7) := congrArg Int32.toInt ((congrFun (congrFun f_9.symm P) 7).trans (zu_ne (fun z => wq_pne0 (by decide) z.1)))
  have c8_9 : Int32.toInt (M_9 P 8) = Int32.toInt (M0 P 8) := congrArg Int32.toInt ((congrFun (congrFun f_9.symm P) 8).trans (zu_ne (fun z => wq_pne0 (by decide) z.1)))
  have c33_9 : Int32.toInt (M_9 P 33) = Int32.toInt (M0 P 33) := congrArg Int32.toInt ((congrFun (congrFun f_9.symm P) 33).trans (zu_ne (fun z => wq_pne0 (by decide) z.1)))
  have n_9 : nA P M_9 = nA P M0 := nA_congr (fun a j h => (congrFun (congrFun f_9.symm a) j).trans (zu_ne (fun z => wf_nA_M32_r h z.1)))
  have p_jT_9 : jT P M_9 := jT.mono p_jT (fun a j h => (congrFun (congrFun f_9.symm a) j).trans (zu_ne (fun z => wf_jT_M32_r h z.1)))
  obtain ⟨u0_jT_9, u1_jT_9, u2_jT_9, u3_jT_9, u4_jT_9, u5_jT_9⟩ := id p_jT_9
  refine vLm (W := WM_X8_prints P) (fun a j h => (zu_ne (wq_X8_prints_M0_64 h)).trans (k_9 a j h)) (fun M_17 f_17 k_17 => ?_)
  have c7_17 : Int32.toInt (M_17 P 7) = Int32.toInt (M_9 P 7) := congrArg Int32.toInt ((congrFun (congrFun f_17.symm P) 7).trans (zu_ne (fun z => absurd z.2 (by decide))))
  have c8_17 : Int32.toInt (M_17 P 8) = Int32.toInt (M_9 P 8) := congrArg Int32.toInt ((congrFun (congrFun f_17.symm P) 8).trans (zu_ne (fun z => absurd z.2 (by decide))))
  have c33_17 : Int32.toInt (M_17 P 33) = Int32.toInt (M_9 P 33) := congrArg Int32.toInt ((congrFun (congrFun f_17.symm P) 33).trans (zu_ne (fun z => absurd z.2 (by decide))))
  have n_17 : nA P M_17 = nA P M_9 := nA_congr (fun a j h => (congrFun (congrFun f_17.symm a) j).trans (zu_ne (wf_nA_M0_64 h)))
  have p_jT_17 : jT P M_17 := jT.put64 p_jT_9 f_17 (by rw [z_inc (by omega)]; omega) (by have h1 : Int32.toInt (M_9 P 64) < 64 := (by rw [← f_9, zu_ne (by omega)]; exact i_1); rw [z_inc (by omega)]; omega)
  obtain ⟨u0_jT_17, u1_jT_17, u2_jT_17, u3_jT_17, u4_jT_17, u5_jT_17⟩ := id p_jT_17
  exact ⟨_, rfl, k_17, ⟨p_jT_17, (by have h1 : Int32.toInt (M_9 P 64) = Int32.toInt (M0 P 64) := (by rw [← f_9, zu_ne (by omega)]); rw [← f_17, zu_eq, z_inc (by omega), h1])⟩⟩
def WM_X8_print (P : Nat) (a j : Nat) : Prop := (P + 11 ≤ a ∧ a < P + 23) ∨ (P + 32 ≤ a ∧ a < P + 33) ∨ (a = P ∧ (j = 6 ∨ j = 12 ∨ j = 33 ∨ j = 64))
def WN_X8_print (P : Nat) (a j : Nat) : Prop := (a = P ∧ (j = 46))
theorem wz_M_X8_prints_X8_print {P a j : Nat} (h : ¬ WM_X8_print P a j) : ¬ WM_X8_prints P a j := by unfold WM_X8_prints; unfold WM_X8_print at h; omega
theorem wc_X8_prints_7 {P : Nat} : ¬ WM_X8_prints P P 7 := by unfold WM_X8_prints; omega
theorem wc_X8_prints_8 {P : Nat} : ¬ WM_X8_prints P P 8 := by unfold WM_X8_prints; omega
theorem wc_X8_prints_33 {P : Nat} : ¬ WM_X8_prints P P 33 := by unfold WM_X8_prints; omega
theorem wf_nA_X8_prints {P a j : Nat} (h : (a = P + 1 ∨ (a = P ∧ j = 8))) : ¬ WM_X8_prints P a j := by unfold WM_X8_prints; omega
theorem wf_jB_X8_prints {P a j : Nat} (h : (a = P ∧ (j = 7 ∨ j = 8 ∨ j = 33))) : ¬ WM_X8_prints P a j := by unfold WM_X8_prints; omega
theorem wf_jH_X8_prints {P a j : Nat} (h : ((a = P ∧ (j = 8 ∨ j = 33)) ∨ a = P + 11)) : ¬ WM_X8_prints P a j := by unfold WM_X8_prints; omega
theorem wf_jK_X8_prints {P a j : Nat} (h : ((a = P ∧ (j = 7 ∨ j = 8 ∨ j = 9)) ∨ a = P + 4)) : ¬ WM_X8_prints P a j := by unfold WM_X8_prints; omega
theorem wf_jL_X8_prints {P a j : Nat} (h : ((a = P ∧ j = 33) ∨ a = P + 13 ∨ a = P + 14 ∨ a = P + 17)) : ¬ WM_X8_prints P a j := by unfold WM_X8_prints; omega
theorem wf_jO_X8_prints {P a j : Nat} (h : ((a = P ∧ j = 33) ∨ a = P + 18)) : ¬ WM_X8_prints P a j := by unfold WM_X8_prints; omega
theorem wf_jR_X8_prints {P a j : Nat} (h : a = P + 19) : ¬ WM_X8_prints P a j := by unfold WM_X8_prints; omega
theorem wf_jS_X8_prints {P a j : Nat} (h : (a = P + 1 ∨ (a = P ∧ (j = 7 ∨ j = 8)))) : ¬ WM_X8_prints P a j := by unfold WM_X8_prints; omega
theorem wz_M_X8_gives_X8_print {P a j : Nat} (h : ¬ WM_X8_print P a j) : ¬ WM_X8_gives P a j := by unfold WM_X8_gives; unfold WM_X8_print at h; omega
theorem wz_M_X8_refuse_X8_print {P a j : Nat} (h : ¬ WM_X8_print P a j) : ¬ WM_X8_refuse P a j := by unfold WM_X8_refuse; unfold WM_X8_print at h; omega
theorem wz_M_X8_laysResult_X8_print {P a j : Nat} (h : ¬ WM_X8_print P a j) : ¬ WM_X8_laysResult P a j := by unfold WM_X8_laysResult; unfold WM_X8_print at h; omega
theorem wz_N_X8_laysResult_X8_print {P a j : Nat} (h : ¬ WN_X8_print P a j) : ¬ WN_X8_laysResult P a j := by unfold WN_X8_laysResult; unfold WN_X8_print at h; omega
theorem wq_X8_print_M0_64 {P a j : Nat} (h : ¬ WM_X8_print P a j) : ¬ (a = P ∧ j = 64) := by unfold WM_X8_print at h; omega
theorem wf_jS_M0_64 {P a j : Nat} (h : (a = P + 1 ∨ (a = P ∧ (j = 7 ∨ j = 8)))) : ¬ (a = P ∧ j = 64) := by omega
theorem wf_jK_M0_64 {P a j : Nat} (h : ((a = P ∧ (j = 7 ∨ j = 8 ∨ j = 9)) ∨ a = P + 4)) : ¬ (a = P ∧ j = 64) := by omega
theorem wf_jB_M0_64 {P a j : Nat} (h : (a = P ∧ (j = 7 ∨ j = 8 ∨ j = 33))) : ¬ (a = P ∧ j = 64) := by omega
theorem wf_jL_M0_64 {P a j : Nat} (h : ((a = P ∧ j = 33) ∨ a = P + 13 ∨ a = P + 14 ∨ a = P + 17)) : ¬ (a = P ∧ j = 64) := by omega
theorem wf_jH_M0_64 {P a j : Nat} (h : ((a = P ∧ (j = 8 ∨ j = 33)) ∨ a = P + 11)) : ¬ (a = P ∧ j = 64) := by omega
theorem wf_jO_M0_64 {P a j : Nat} (h : ((a = P ∧ j = 33) ∨ a = P + 18)) : ¬ (a = P ∧ j = 64) := by omega
theorem wf_jR_M0_64 {P a j : Nat} (h : a = P + 19) : ¬ (a = P ∧ j = 64) := by omega
set_option maxRecDepth 100000 in
set_option maxHeartbeats 4000000 in
theorem v_X8_print {P : Nat} {v0 : Int32} {M0 : zMt} {N0 : zNt}  (p_jB : jB P M0) (p_jS : jS P M0) (p_jR : jR P M0) (p_jK : jK P M0) (p_jT : jT P M0) : ∃ r, D_X8_print P v0 M0 N0 = some r ∧ ((∀ a j, ¬ WM_X8_print P a j → r.2.1 a j = M0 a j) ∧ (∀ a j, ¬ WN_X8_print P a j → r.2.2 a j = N0 a j) ∧ ((jB P r.2.1) ∧ (jS P r.2.1) ∧ (jR P r.2.1) ∧ (jK P r.2.1) ∧ (jT P r.2.1))) := by
  obtain ⟨u0_jB, u1_jB, u2_jB, u3_jB, u4_jB, u5_jB⟩ := id p_jB
  obtain ⟨u0_jS, u1_jS, u2_jS, u3_jS, u4_jS, u5_jS, u6_jS, u7_jS⟩ := jS.ints p_jS
  obtain ⟨u0_jT, u1_jT, u2_jT, u3_jT, u4_jT, u5_jT⟩ := id p_jT
  have TL_25 : ∀ u : Nat, ∀ (x2_25 : Int32) (M_25 : zMt) (N_25 : zNt), (∀ a j, ¬ WM_X8_print P a j → M_25 a j = M0 a j) → (∀ a j, ¬ WN_X8_print P a j → N_25 a j = N0 a j) → (jB P M_25) → (jH P M_25) → (jK P M_25) → (jL P M_25) → (jO P M_25) → (jR P M_25) → (jS P M_25) → (jT P M_25) → (0 ≤ Int32.toInt x2_25) → (Int32.toInt x2_25 ≤ 10) → (Int32.toInt (M_25 P 64) ≤ 5 * Int32.toInt x2_25) → (2147483648 - Int32.toInt x2_25).toNat < u → ∃ r, D_X8_print_25 P u x2_25 M_25 N_25 = some r ∧ ((∀ a j, ¬ WM_X8_print P a j → r.2.1 a j = M0 a j) ∧ (∀ a j, ¬ WN_X8_print P a j → r.2.2 a j = N0 a j) ∧ ((jB P r.2.1) ∧ (jS P r.2.1) ∧ (jR P r.2.1) ∧ (jK P r.2.1) ∧ (jT P r.2.1))) := by
    intro u
    induction u with
    | zero => intro x2_25 M_25 N_25 k_25 kn_25 p_jB_25 p_jH_25 p_jK_25 p_jL_25 p_jO_25 p_jR_25 p_jS_25 p_jT_25 f0_25 f1_25 f2_25 hm_25; exact absurd hm_25 (Nat.not_lt_zero _)
    | succ u_25 ih_25 =>
      have T_98 : ∀ (x2_98 : Int32) (M_98 : zMt) (N_98 : zNt), (∀ a j, ¬ WM_X8_print P a j → M_98 a j = M0 a j) → (∀ a j, ¬ WN_X8_print P a j → N_98 a j = N0 a j) → (jB P M_98) → (jH P M_98) → (jK P M_98) → (jL P M_98) → (jO P M_98) → (jR P M_98) → (jS P M_98) → (jT P M_98) → (0 ≤ Int32.toInt x2_98) → (Int32.toInt x2_98 < Int32.toInt (M_98 P 33)) → ((2147483648 - Int32.toInt x2_98).toNat < u_25 + 1) → (Int32.toInt x2_98 < 2147483647) → (Int32.toInt (M_98 P 64) ≤ 5 * Int32.toInt x2_98 + 4) → ∃ r, D_X8_print_98 P (D_X8_print_25 P u_25) x2_98 M_98 N_98 = some r ∧ ((∀ a j, ¬ WM_X8_print P a j → r.2.1 a j = M0 a j) ∧ (∀ a j, ¬ WN_X8_print P a j → r.2.2 a j = N0 a j) ∧ ((jB P r.2.1) ∧ (jS P r.2.1) ∧ (jR P r.2.1) ∧ (jK P r.2.1) ∧ (jT P r.2.1))) := by
        intro x2_98 M_98 N_98 k_98 kn_98 p_jB_98 p_jH_98 p_jK_98 p_jL_98 p_jO_98 p_jR_98 p_jS_98 p_jT_98 f0_98 f1_98 f2_98 f3_98 f4_98
        obtain ⟨u0_jB_98, u1_jB_98, u2_jB_98, u3_jB_98, u4_jB_98, u5_jB_98⟩ := id p_jB_98
        obtain ⟨u0_jS_98, u1_jS_98, u2_jS_98, u3_jS_98, u4_jS_98, u5_jS_98, u6_jS_98, u7_jS_98⟩ := jS.ints p_jS_98
        obtain ⟨u0_jT_98, u1_jT_98, u2_jT_98, u3_jT_98, u4_jT_98, u5_jT_98⟩ := id p_jT_98
        unfold D_X8_print_98
        refine vB (v_X8_prints p_jT_98 (by first | omega | (simp only [Int32.toInt_add, Int32.toInt_sub, Int32.toInt_mul, Int32.toInt_toInt64, Int64.toInt_add, z_m1, Int32.reduceToInt, Int64.reduceToInt, Int32.reduceToNatClampNeg, Int.bmod_def, or_true, true_or, and_true, true_and] <;> omega))) (fun e_101 f_101 q_101 => ?_)
        have k_101 : ∀ a j, ¬ WM_X8_print P a j → e_101 a j = M0 a j := fun a j h => (q_101.1 a j (wz_M_X8_prints_X8_print h)).trans (k_98 a j h)
        have c7_101 : Int32.toInt (e_101 P 7) = Int32.toInt (M_98 P 7) := congrArg Int32.toInt (q_101.1 P 7 (wc_X8_prints_7))
        have c8_101 : Int32.toInt (e_101 P 8) = Int32.toInt (M_98 P 8) := congrArg Int32.toInt (q_101.1 P 8 (wc_X8_prints_8))
        have c33_101 : Int32.toInt (e_101 P 33) = Int32.toInt (M_98 P 33) := congrArg Int32.toInt (q_101.1 P 33 (wc_X8_prints_33))
        have n_101 : nA P e_101 = nA P M_98 := nA_congr (fun a j h => q_101.1 a j (wf_nA_X8_prints h))
        have p_jB_101 : jB P e_101 := jB.mono p_jB_98 (fun a j h => q_101.1 a j (wf_jB_X8_prints h))
        obtain ⟨u0_jB_101, u1_jB_101, u2_jB_101, u3_jB_101, u4_jB_101, u5_jB_101⟩ := id p_jB_101
        have p_jH_101 : jH P e_101 := jH.mono p_jH_98 (fun a j h => q_101.1 a j (wf_jH_X8_prints h))
        have p_jK_101 : jK P e_101 := jK.mono p_jK_98 (fun a j h => q_101.1 a j (wf_jK_X8_prints h))
        have p_jL_101 : jL P e_101 := jL.mono p_jL_98 (fun a j h => q_101.1 a j (wf_jL_X8_prints h))
        have p_jO_101 : jO P e_101 := jO.mono p_jO_98 (fun a j h => q_101.1 a j (wf_jO_X8_prints h))
        have p_jR_101 : jR P e_101 := jR.mono p_jR_98 (fun a j h => q_101.1 a j (wf_jR_X8_prints h))
        have p_jS_101 : jS P e_101 := jS.mono p_jS_98 (fun a j h => q_101.1 a j (wf_jS_X8_prints h))
        obtain ⟨u0_jS_101, u1_jS_101, u2_jS_101, u3_jS_101, u4_jS_101, u5_jS_101, u6_jS_101, u7_jS_101⟩ := jS.ints p_jS_101
        obtain ⟨x0_101, x1_101⟩ := q_101.2
        obtain ⟨u0_jT_101, u1_jT_101, u2_jT_101, u3_jT_101, u4_jT_101, u5_jT_101⟩ := id x0_101
        (try simp only [Int32.toInt_add, Int32.toInt_sub, Int32.toInt_mul, Int32.toInt_toInt64, Int64.toInt_add, z_m1, Int32.reduceToInt, Int64.reduceToInt, Int32.reduceToNatClampNeg, Int.bmod_def] at x1_101)
        exact ih_25 _ _ _ k_101 kn_98 p_jB_101 p_jH_101 p_jK_101 p_jL_101 p_jO_101 p_jR_101 p_jS_101 x0_101 (by first | omega | (simp only [Int32.toInt_add, Int32.toInt_sub, Int32.toInt_mul, Int32.toInt_toInt64, Int64.toInt_add, z_m1, Int32.reduceToInt, Int64.reduceToInt, Int32.reduceToNatClampNeg, Int.bmod_def, or_true, true_or, and_true, true_and] <;> omega)) (by first | omega | (simp only [Int32.toInt_add, Int32.toInt_sub, Int32.toInt_mul, Int32.toInt_toInt64, Int64.toInt_add, z_m1, Int32.reduceToInt, Int64.reduceToInt, Int32.reduceToNatClampNeg, Int.bmod_def, or_true, true_or, and_true, true_and] <;> omega)) (by first | (rw [← f_20, zu_eq]; decide) | exact (by first | omega | (simp only [Int32.toInt_add, Int32.toInt_sub, Int32.toInt_mul, Int32.toInt_toInt64, Int64.toInt_add, z_m1, Int32.reduceToInt, Int64.reduceToInt, Int32.reduceToNatClampNeg, Int.bmod_def, or_true, true_or, and_true, true_and] <;> omega))) (z_up1 f3_98 f2_98)
      have T_79 : ∀ (x2_79 : Int32) (x3_79 : Int32) (y1_79 : Int32) (M_79 : zMt) (N_79 : zNt), (∀ a j, ¬ WM_X8_print P a j → M_79 a j = M0 a j) → (∀ a j, ¬ WN_X8_print P a j → N_79 a j = N0 a j) → (jB P M_79) → (jH P M_79) → (jK P M_79) → (jL P M_79) → (jO P M_79) → (jR P M_79) → (jS P M_79) → (jT P M_79) → (0 ≤ Int32.toInt x2_79) → (Int32.toInt x2_79 < Int32.toInt (M_79 P 33)) → ((2147483648 - Int32.toInt x2_79).toNat < u_25 + 1) → (Int32.toInt x2_79 < 2147483647) → (Int32.toInt (M_79 P 64) ≤ 5 * Int32.toInt x2_79 + 2) → (0 ≤ Int32.toInt x3_79 ∧ Int32.toInt x3_79 < Int32.toInt (M_79 P 33)) → ∃ r, D_X8_print_79 P (D_X8_print_25 P u_25) x2_79 x3_79 y1_79 M_79 N_79 = some r ∧ ((∀ a j, ¬ WM_X8_print P a j → r.2.1 a j = M0 a j) ∧ (∀ a j, ¬ WN_X8_print P a j → r.2.2 a j = N0 a j) ∧ ((jB P r.2.1) ∧ (jS P r.2.1) ∧ (jR P r.2.1) ∧ (jK P r.2.1) ∧ (jT P r.2.1))) := by
        intro x2_79 x3_79 y1_79 M_79 N_79 k_79 kn_79 p_jB_79 p_jH_79 p_jK_79 p_jL_79 p_jO_79 p_jR_79 p_jS_79 p_jT_79 f0_79 f1_79 f2_79 f3_79 f4_79 f5_79
        obtain ⟨u0_jB_79, u1_jB_79, u2_jB_79, u3_jB_79, u4_jB_79, u5_jB_79⟩ := id p_jB_79
        obtain ⟨u0_jS_79, u1_jS_79, u2_jS_79, u3_jS_79, u4_jS_79, u5_jS_79, u6_jS_79, u7_jS_79⟩ := jS.ints p_jS_79
        obtain ⟨u0_jT_79, u1_jT_79, u2_jT_79, u3_jT_79, u4_jT_79, u5_jT_79⟩ := id p_jT_79
        unfold D_X8_print_79
        refine vB (v_X8_prints p_jT_79 (by first | omega | (simp only [Int32.toInt_add, Int32.toInt_sub, Int32.toInt_mul, Int32.toInt_toInt64, Int64.toInt_add, z_m1, Int32.reduceToInt, Int64.reduceToInt, Int32.reduceToNatClampNeg, Int.bmod_def, or_true, true_or, and_true, true_and] <;> omega))) (fun e_79 f_79 q_79 => ?_)
        have k_79 : ∀ a j, ¬ WM_X8_print P a j → e_79 a j = M0 a j := fun a j h => (q_79.1 a j (wz_M_X8_prints_X8_print h)).trans (k_79 a j h)
        have c7_79 : Int32.toInt (e_79 P 7) = Int32.toInt (M_79 P 7) := congrArg Int32.toInt (q_79.1 P 7 (wc_X8_prints_7))
        have c8_79 : Int32.toInt (e_79 P 8) = Int32.toInt (M_79 P 8) := congrArg Int32.toInt (q_79.1 P 8 (wc_X8_prints_8))
        have c33_79 : Int32.toInt (e_79 P 33) = Int32.toInt (M_79 P 33) := congrArg Int32.toInt (q_79.1 P 33 (wc_X8_prints_33))
        have n_79 : nA P e_79 = nA P M_79 := nA_congr (fun a j h => q_79.1 a j (wf_nA_X8_prints h))
        have p_jB_79 : jB P e_79 := jB.mono p_jB_79 (fun a j h => q_79.1 a j (wf_jB_X8_prints h))
        obtain ⟨u0_jB_79, u1_jB_79, u2_jB_79, u3_jB_79, u4_jB_79, u5_jB_79⟩ := id p_jB_79
        have p_jH_79 : jH P e_79 := jH.mono p_jH_79 (fun a j h => q_79.1 a j (wf_jH_X8_prints h))
        have p_jK_79 : jK P e_79 := jK.mono p_jK_79 (fun a j h => q_79.1 a j (wf_jK_X8_prints h))
        have p_jL_79 : jL P e_79 := jL.mono p_jL_79 (fun a j h => q_79.1 a j (wf_jL_X8_prints h))
        have p_jO_79 : jO P e_79 := jO.mono p_jO_79 (fun a j h => q_79.1 a j (wf_jO_X8_prints h))
        have p_jR_79 : jR P e_79 := jR.mono p_jR_79 (fun a j h => q_79.1 a j (wf_jR_X8_prints h))
        have p_jS_79 : jS P e_79 := jS.mono p_jS_79 (fun a j h => q_79.1 a j (wf_jS_X8_prints h))
        obtain ⟨u0_jS_79, u1_jS_79, u2_jS_79, u3_jS_79, u4_jS_79, u5_jS_79, u6_jS_79, u7_jS_79⟩ := jS.ints p_jS_79
        obtain ⟨x0_79, x1_79⟩ := q_79.2
        obtain ⟨u0_jT_79, u1_jT_79, u2_jT_79, u3_jT_79, u4_jT_79, u5_jT_79⟩ := id x0_79
        (try simp only [Int32.toInt_add, Int32.toInt_sub, Int32.toInt_mul, Int32.toInt_toInt64, Int64.toInt_add, z_m1, Int32.reduceToInt, Int64.reduceToInt, Int32.reduceToNatClampNeg, Int.bmod_def] at x1_79)
        refine vI (vp_of (by first | omega | (simp only [Int32.toInt_add, Int32.toInt_sub, Int32.toInt_mul, Int32.toInt_toInt64, Int64.toInt_add, z_m1, Int32.reduceToInt, Int64.reduceToInt, Int32.reduceToNatClampNeg, Int.bmod_def, or_true, true_or, and_true, true_and] <;> omega)) (by first | omega | (simp only [Int32.toInt_add, Int32.toInt_sub, Int32.toInt_mul, Int32.toInt_toInt64, Int64.toInt_add, z_m1, Int32.reduceToInt, Int64.reduceToInt, Int32.reduceToNatClampNeg, Int.bmod_def, or_true, true_or, and_true, true_and] <;> omega))) ?_
        refine vIf (fun h_89 => ?_) (fun h_89 => ?_)
        · have i_89 := congrArg Int32.toInt h_89
          (try simp only [Int32.toInt_add, Int32.toInt_sub, Int32.toInt_mul, Int32.toInt_toInt64, Int64.toInt_add, z_m1, Int32.reduceToInt, Int64.reduceToInt, Int32.reduceToNatClampNeg, Int.bmod_def] at i_89)
          refine vB (v_X8_prints x0_79 (by first | omega | (simp only [Int32.toInt_add, Int32.toInt_sub, Int32.toInt_mul, Int32.toInt_toInt64, Int64.toInt_add, z_m1, Int32.reduceToInt, Int64.reduceToInt, Int32.reduceToNatClampNeg, Int.bmod_def, or_true, true_or, and_true, true_and] <;> omega))) (fun e_95 f_95 q_95 => ?_)
          have k_95 : ∀ a j, ¬ WM_X8_print P a j → e_95 a j = M0 a j := fun a j h => (q_95.1 a j (wz_M_X8_prints_X8_print h)).trans (k_79 a j h)
          have c7_95 : Int32.toInt (e_95 P 7) = Int32.toInt (e_79 P 7) := congrArg Int32.toInt (q_95.1 P 7 (wc_X8_prints_7))
          have c8_95 : Int32.toInt (e_95 P 8) = Int32.toInt (e_79 P 8) := congrArg Int32.toInt (q_95.1 P 8 (wc_X8_prints_8))
          have c33_95 : Int32.toInt (e_95 P 33) = Int32.toInt (e_79 P 33) := congrArg Int32.toInt (q_95.1 P 33 (wc_X8_prints_33))
          have n_95 : nA P e_95 = nA P e_79 := nA_congr (fun a j h => q_95.1 a j (wf_nA_X8_prints h))
          have p_jB_95 : jB P e_95 := jB.mono p_jB_79 (fun a j h => q_95.1 a j (wf_jB_X8_prints h))
          obtain ⟨u0_jB_95, u1_jB_95, u2_jB_95, u3_jB_95, u4_jB_95, u5_jB_95⟩ := id p_jB_95
          have p_jH_95 : jH P e_95 := jH.mono p_jH_79 (fun a j h => q_95.1 a j (wf_jH_X8_prints h))
          have p_jK_95 : jK P e_95 := jK.mono p_jK_79 (fun a j h => q_95.1 a j (wf_jK_X8_prints h))
          have p_jL_95 : jL P e_95 := jL.mono p_jL_79 (fun a j h => q_95.1 a j (wf_jL_X8_prints h))
          have p_jO_95 : jO P e_95 := jO.mono p_jO_79 (fun a j h => q_95.1 a j (wf_jO_X8_prints h))
          have p_jR_95 : jR P e_95 := jR.mono p_jR_79 (fun a j h => q_95.1 a j (wf_jR_X8_prints h))
          have p_jS_95 : jS P e_95 := jS.mono p_jS_79 (fun a j h => q_95.1 a j (wf_jS_X8_prints h))
          obtain ⟨u0_jS_95, u1_jS_95, u2_jS_95, u3_jS_95, u4_jS_95, u5_jS_95, u6_jS_95, u7_jS_95⟩ := jS.ints p_jS_95
          obtain ⟨x0_95, x1_95⟩ := q_95.2
          obtain ⟨u0_jT_95, u1_jT_95, u2_jT_95, u3_jT_95, u4_jT_95, u5_jT_95⟩ := id x0_95
          (try simp only [Int32.toInt_add, Int32.toInt_sub, Int32.toInt_mul, Int32.toInt_toInt64, Int64.toInt_add, z_m1, Int32.reduceToInt, Int64.reduceToInt, Int32.reduceToNatClampNeg, Int.bmod_def] at x1_95)
          exact T_98 _ _ _ k_95 kn_79 p_jB_95 p_jH_95 p_jK_95 p_jL_95 p_jO_95 p_jR_95 p_jS_95 x0_95 (by first | omega | (simp only [Int32.toInt_add, Int32.toInt_sub, Int32.toInt_mul, Int32.toInt_toInt64, Int64.toInt_add, z_m1, Int32.reduceToInt, Int64.reduceToInt, Int32.reduceToNatClampNeg, Int.bmod_def, or_true, true_or, and_true, true_and] <;> omega)) (by first | omega | (simp only [Int32.toInt_add, Int32.toInt_sub, Int32.toInt_mul, Int32.toInt_toInt64, Int64.toInt_add, z_m1, Int32.reduceToInt, Int64.reduceToInt, Int32.reduceToNatClampNeg, Int.bmod_def, or_true, true_or, and_true, true_and] <;> omega)) f2_79 f3_79 (by first | omega | (simp only [Int32.toInt_add, Int32.toInt_sub, Int32.toInt_mul, Int32.toInt_toInt64, Int64.toInt_add, z_m1, Int32.reduceToInt, Int64.reduceToInt, Int32.reduceToNatClampNeg, Int.bmod_def, or_true, true_or, and_true, true_and] <;> omega))
        · have i_89 : ¬ Int32.toInt (e_79 (P + 20) x3_79.toNatClampNeg) = Int32.toInt (1 : Int32) := fun q => h_89 (Int32.toInt_inj.mp q)
          (try simp only [Int32.toInt_add, Int32.toInt_sub, Int32.toInt_mul, Int32.toInt_toInt64, Int64.toInt_add, z_m1, Int32.reduceToInt, Int64.reduceToInt, Int32.reduceToNatClampNeg, Int.bmod_def] at i_89)
          exact T_98 _ _ _ k_79 kn_79 p_jB_79 p_jH_79 p_jK_79 p_jL_79 p_jO_79 p_jR_79 p_jS_79 x0_79 (by first | omega | (simp only [Int32.toInt_add, Int32.toInt_sub, Int32.toInt_mul, Int32.toInt_toInt64, Int64.toInt_add, z_m1, Int32.reduceToInt, Int64.reduceToInt, Int32.reduceToNatClampNeg, Int.bmod_def, or_true, true_or, and_true, true_and] <;> omega)) (by first | omega | (simp only [Int32.toInt_add, Int32.toInt_sub, Int32.toInt_mul, Int32.toInt_toInt64, Int64.toInt_add, z_m1, Int32.reduceToInt, Int64.reduceToInt, Int32.reduceToNatClampNeg, Int.bmod_def, or_true, true_or, and_true, true_and] <;> omega)) f2_79 f3_79 (by first | omega | (simp only [Int32.toInt_add, Int32.toInt_sub, Int32.toInt_mul, Int32.toInt_toInt64, Int64.toInt_add, z_m1, Int32.reduceToInt, Int64.reduceToInt, Int32.reduceToNatClampNeg, Int.bmod_def, or_true, true_or, and_true, true_and] <;> omega))
      intro x2_25 M_25 N_25 k_25 kn_25 p_jB_25 p_jH_25 p_jK_25 p_jL_25 p_jO_25 p_jR_25 p_jS_25 p_jT_25 f0_25 f1_25 f2_25 hm_25
      obtain ⟨u0_jB_25, u1_jB_25, u2_jB_25, u3_jB_25, u4_jB_25, u5_jB_25⟩ := id p_jB_25
      obtain ⟨u0_jS_25, u1_jS_25, u2_jS_25, u3_jS_25, u4_jS_25, u5_jS_25, u6_jS_25, u7_jS_25⟩ := jS.ints p_jS_25
      obtain ⟨u0_jT_25, u1_jT_25, u2_jT_25, u3_jT_25, u4_jT_25, u5_jT_25⟩ := id p_jT_25
      rw [D_X8_print_25]
      refine vIf (fun h_30 => ?_) (fun h_30 => ?_)
      · have i_30 := Int32.le_iff_toInt_le.mp h_30
        (try simp only [Int32.toInt_add, Int32.toInt_sub, Int32.toInt_mul, Int32.toInt_toInt64, Int64.toInt_add, z_m1, Int32.reduceToInt, Int64.reduceToInt, Int32.reduceToNatClampNeg, Int.bmod_def] at i_30)
        refine vB (v_X8_gives) (fun e_115 f_115 q_115 => ?_)
        have k_115 : ∀ a j, ¬ WM_X8_print P a j → e_115.2 a j = M0 a j := fun a j h => (q_115 a j (wz_M_X8_gives_X8_print h)).trans (k_25 a j h)
        have c7_115 : Int32.toInt (e_115.2 P 7) = Int32.toInt (M_25 P 7) := congrArg Int32.toInt (q_115 P 7 (wc_X8_gives_7))
        have c8_115 : Int32.toInt (e_115.2 P 8) = Int32.toInt (M_25 P 8) := congrArg Int32.toInt (q_115 P 8 (wc_X8_gives_8))
        have c33_115 : Int32.toInt (e_115.2 P 33) = Int32.toInt (M_25 P 33) := congrArg Int32.toInt (q_115 P 33 (wc_X8_gives_33))
        have n_115 : nA P e_115.2 = nA P M_25 := nA_congr (fun a j h => q_115 a j (wf_nA_X8_gives h))
        have p_jB_115 : jB P e_115.2 := jB.mono p_jB_25 (fun a j h => q_115 a j (wf_jB_X8_gives h))
        obtain ⟨u0_jB_115, u1_jB_115, u2_jB_115, u3_jB_115, u4_jB_115, u5_jB_115⟩ := id p_jB_115
        have p_jH_115 : jH P e_115.2 := jH.mono p_jH_25 (fun a j h => q_115 a j (wf_jH_X8_gives h))
        have p_jK_115 : jK P e_115.2 := jK.mono p_jK_25 (fun a j h => q_115 a j (wf_jK_X8_gives h))
        have p_jL_115 : jL P e_115.2 := jL.mono p_jL_25 (fun a j h => q_115 a j (wf_jL_X8_gives h))
        have p_jO_115 : jO P e_115.2 := jO.mono p_jO_25 (fun a j h => q_115 a j (wf_jO_X8_gives h))
        have p_jR_115 : jR P e_115.2 := jR.mono p_jR_25 (fun a j h => q_115 a j (wf_jR_X8_gives h))
        have p_jS_115 : jS P e_115.2 := jS.mono p_jS_25 (fun a j h => q_115 a j (wf_jS_X8_gives h))
        obtain ⟨u0_jS_115, u1_jS_115, u2_jS_115, u3_jS_115, u4_jS_115, u5_jS_115, u6_jS_115, u7_jS_115⟩ := jS.ints p_jS_115
        have p_jT_115 : jT P e_115.2 := jT.mono p_jT_25 (fun a j h => q_115 a j (wf_jT_X8_gives h))
        obtain ⟨u0_jT_115, u1_jT_115, u2_jT_115, u3_jT_115, u4_jT_115, u5_jT_115⟩ := id p_jT_115
        exact ⟨_, rfl, k_115, kn_25, ⟨p_jB_115, p_jS_115, p_jR_115, p_jK_115, p_jT_115⟩⟩
      · have i_30 := Int32.lt_iff_toInt_lt.mp (Int32.not_le.mp h_30)
        (try simp only [Int32.toInt_add, Int32.toInt_sub, Int32.toInt_mul, Int32.toInt_toInt64, Int64.toInt_add, z_m1, Int32.reduceToInt, Int64.reduceToInt, Int32.reduceToNatClampNeg, Int.bmod_def] at i_30)
        refine vI (vp_of (by first | omega | (simp only [Int32.toInt_add, Int32.toInt_sub, Int32.toInt_mul, Int32.toInt_toInt64, Int64.toInt_add, z_m1, Int32.reduceToInt, Int64.reduceToInt, Int32.reduceToNatClampNeg, Int.bmod_def, or_true, true_or, and_true, true_and] <;> omega)) (by first | omega | (simp only [Int32.toInt_add, Int32.toInt_sub, Int32.toInt_mul, Int32.toInt_toInt64, Int64.toInt_add, z_m1, Int32.reduceToInt, Int64.reduceToInt, Int32.reduceToNatClampNeg, Int.bmod_def, or_true, true_or, and_true, true_and] <;> omega))) ?_
        obtain ⟨w0_38, w1_38⟩ := jO.el p_jO_25 (x := x2_25) (by first | omega | (simp only [Int32.toInt_add, Int32.toInt_sub, Int32.toInt_mul, Int32.toInt_toInt64, Int64.toInt_add, z_m1, Int32.reduceToInt, Int64.reduceToInt, Int32.reduceToNatClampNeg, Int.bmod_def, or_true, true_or, and_true, true_and] <;> omega)) (by first | omega | (simp only [Int32.toInt_add, Int32.toInt_sub, Int32.toInt_mul, Int32.toInt_toInt64, Int64.toInt_add, z_m1, Int32.reduceToInt, Int64.reduceToInt, Int32.reduceToNatClampNeg, Int.bmod_def, or_true, true_or, and_true, true_and] <;> omega))
        refine vB (v_X8_prints p_jT_25 (by first | omega | (simp only [Int32.toInt_add, Int32.toInt_sub, Int32.toInt_mul, Int32.toInt_toInt64, Int64.toInt_add, z_m1, Int32.reduceToInt, Int64.reduceToInt, Int32.reduceToNatClampNeg, Int.bmod_def, or_true, true_or, and_true, true_and] <;> omega))) (fun e_45 f_45 q_45 => ?_)
        have k_45 : ∀ a j, ¬ WM_X8_print P a j → e_45 a j = M0 a j := fun a j h => (q_45.1 a j (wz_M_X8_prints_X8_print h)).trans (k_25 a j h)
        have c7_45 : Int32.toInt (e_45 P 7) = Int32.toInt (M_25 P 7) := congrArg Int32.toInt (q_45.1 P 7 (wc_X8_prints_7))
        have c8_45 : Int32.toInt (e_45 P 8) = Int32.toInt (M_25 P 8) := congrArg Int32.toInt (q_45.1 P 8 (wc_X8_prints_8))
        have c33_45 : Int32.toInt (e_45 P 33) = Int32.toInt (M_25 P 33) := congrArg Int32.toInt (q_45.1 P 33 (wc_X8_prints_33))
        have n_45 : nA P e_45 = nA P M_25 := nA_congr (fun a j h => q_45.1 a j (wf_nA_X8_prints h))
        have p_jB_45 : jB P e_45 := jB.mono p_jB_25 (fun a j h => q_45.1 a j (wf_jB_X8_prints h))
        obtain ⟨u0_jB_45, u1_jB_45, u2_jB_45, u3_jB_45, u4_jB_45, u5_jB_45⟩ := id p_jB_45
        have p_jH_45 : jH P e_45 := jH.mono p_jH_25 (fun a j h => q_45.1 a j (wf_jH_X8_prints h))
        have p_jK_45 : jK P e_45 := jK.mono p_jK_25 (fun a j h => q_45.1 a j (wf_jK_X8_prints h))
        have p_jL_45 : jL P e_45 := jL.mono p_jL_25 (fun a j h => q_45.1 a j (wf_jL_X8_prints h))
        have p_jO_45 : jO P e_45 := jO.mono p_jO_25 (fun a j h => q_45.1 a j (wf_jO_X8_prints h))
        have p_jR_45 : jR P e_45 := jR.mono p_jR_25 (fun a j h => q_45.1 a j (wf_jR_X8_prints h))
        have p_jS_45 : jS P e_45 := jS.mono p_jS_25 (fun a j h => q_45.1 a j (wf_jS_X8_prints h))
        obtain ⟨u0_jS_45, u1_jS_45, u2_jS_45, u3_jS_45, u4_jS_45, u5_jS_45, u6_jS_45, u7_jS_45⟩ := jS.ints p_jS_45
        obtain ⟨x0_45, x1_45⟩ := q_45.2
        obtain ⟨u0_jT_45, u1_jT_45, u2_jT_45, u3_jT_45, u4_jT_45, u5_jT_45⟩ := id x0_45
        (try simp only [Int32.toInt_add, Int32.toInt_sub, Int32.toInt_mul, Int32.toInt_toInt64, Int64.toInt_add, z_m1, Int32.reduceToInt, Int64.reduceToInt, Int32.reduceToNatClampNeg, Int.bmod_def] at x1_45)
        refine vB (v_X8_prints x0_45 (by first | omega | (simp only [Int32.toInt_add, Int32.toInt_sub, Int32.toInt_mul, Int32.toInt_toInt64, Int64.toInt_add, z_m1, Int32.reduceToInt, Int64.reduceToInt, Int32.reduceToNatClampNeg, Int.bmod_def, or_true, true_or, and_true, true_and] <;> omega))) (fun e_51 f_51 q_51 => ?_)
        have k_51 : ∀ a j, ¬ WM_X8_print P a j → e_51 a j = M0 a j := fun a j h => (q_51.1 a j (wz_M_X8_prints_X8_print h)).trans (k_45 a j h)
        have c7_51 : Int32.toInt (e_51 P 7) = Int32.toInt (e_45 P 7) := congrArg Int32.toInt (q_51.1 P 7 (wc_X8_prints_7))
        have c8_51 : Int32.toInt (e_51 P 8) = Int32.toInt (e_45 P 8) := congrArg Int32.toInt (q_51.1 P 8 (wc_X8_prints_8))
        have c33_51 : Int32.toInt (e_51 P 33) = Int32.toInt (e_45 P 33) := congrArg Int32.toInt (q_51.1 P 33 (wc_X8_prints_33))
        have n_51 : nA P e_51 = nA P e_45 := nA_congr (fun a j h => q_51.1 a j (wf_nA_X8_prints h))
        have p_jB_51 : jB P e_51 := jB.mono p_jB_45 (fun a j h => q_51.1 a j (wf_jB_X8_prints h))
        obtain ⟨u0_jB_51, u1_jB_51, u2_jB_51, u3_jB_51, u4_jB_51, u5_jB_51⟩ := id p_jB_51
        have p_jH_51 : jH P e_51 := jH.mono p_jH_45 (fun a j h => q_51.1 a j (wf_jH_X8_prints h))
        have p_jK_51 : jK P e_51 := jK.mono p_jK_45 (fun a j h => q_51.1 a j (wf_jK_X8_prints h))
        have p_jL_51 : jL P e_51 := jL.mono p_jL_45 (fun a j h => q_51.1 a j (wf_jL_X8_prints h))
        have p_jO_51 : jO P e_51 := jO.mono p_jO_45 (fun a j h => q_51.1 a j (wf_jO_X8_prints h))
        have p_jR_51 : jR P e_51 := jR.mono p_jR_45 (fun a j h => q_51.1 a j (wf_jR_X8_prints h))
        have p_jS_51 : jS P e_51 := jS.mono p_jS_45 (fun a j h => q_51.1 a j (wf_jS_X8_prints h))
        obtain ⟨u0_jS_51, u1_jS_51, u2_jS_51, u3_jS_51, u4_jS_51, u5_jS_51, u6_jS_51, u7_jS_51⟩ := jS.ints p_jS_51
        obtain ⟨x0_51, x1_51⟩ := q_51.2
        obtain ⟨u0_jT_51, u1_jT_51, u2_jT_51, u3_jT_51, u4_jT_51, u5_jT_51⟩ := id x0_51
        (try simp only [Int32.toInt_add, Int32.toInt_sub, Int32.toInt_mul, Int32.toInt_toInt64, Int64.toInt_add, z_m1, Int32.reduceToInt, Int64.reduceToInt, Int32.reduceToNatClampNeg, Int.bmod_def] at x1_51)
        refine vI (vp_of (by first | omega | (simp only [Int32.toInt_add, Int32.toInt_sub, Int32.toInt_mul, Int32.toInt_toInt64, Int64.toInt_add, z_m1, Int32.reduceToInt, Int64.reduceToInt, Int32.reduceToNatClampNeg, Int.bmod_def, or_true, true_or, and_true, true_and] <;> omega)) (by first | omega | (simp only [Int32.toInt_add, Int32.toInt_sub, Int32.toInt_mul, Int32.toInt_toInt64, Int64.toInt_add, z_m1, Int32.reduceToInt, Int64.reduceToInt, Int32.reduceToNatClampNeg, Int.bmod_def, or_true, true_or, and_true, true_and] <;> omega))) ?_
        obtain ⟨w0_60, w1_60⟩ := jR.el p_jR_51 (x := (M_25 (P + 18) x2_25.toNatClampNeg)) (by first | omega | (simp only [Int32.toInt_add, Int32.toInt_sub, Int32.toInt_mul, Int32.toInt_toInt64, Int64.toInt_add, z_m1, Int32.reduceToInt, Int64.reduceToInt, Int32.reduceToNatClampNeg, Int.bmod_def, or_true, true_or, and_true, true_and] <;> omega)) (by first | omega | (simp only [Int32.toInt_add, Int32.toInt_sub, Int32.toInt_mul, Int32.toInt_toInt64, Int64.toInt_add, z_m1, Int32.reduceToInt, Int64.reduceToInt, Int32.reduceToNatClampNeg, Int.bmod_def, or_true, true_or, and_true, true_and] <;> omega))
        refine vIf (fun h_62 => ?_) (fun h_62 => ?_)
        · have i_62 := congrArg Int32.toInt h_62
          (try simp only [Int32.toInt_add, Int32.toInt_sub, Int32.toInt_mul, Int32.toInt_toInt64, Int64.toInt_add, z_m1, Int32.reduceToInt, Int64.reduceToInt, Int32.reduceToNatClampNeg, Int.bmod_def] at i_62)
          exact T_79 _ _ _ _ _ k_51 kn_25 p_jB_51 p_jH_51 p_jK_51 p_jL_51 p_jO_51 p_jR_51 p_jS_51 x0_51 (by first | omega | (simp only [Int32.toInt_add, Int32.toInt_sub, Int32.toInt_mul, Int32.toInt_toInt64, Int64.toInt_add, z_m1, Int32.reduceToInt, Int64.reduceToInt, Int32.reduceToNatClampNeg, Int.bmod_def, or_true, true_or, and_true, true_and] <;> omega)) (by first | omega | (simp only [Int32.toInt_add, Int32.toInt_sub, Int32.toInt_mul, Int32.toInt_toInt64, Int64.toInt_add, z_m1, Int32.reduceToInt, Int64.reduceToInt, Int32.reduceToNatClampNeg, Int.bmod_def, or_true, true_or, and_true, true_and] <;> omega)) hm_25 (by first | assumption | exact z_lt (by assumption) | exact z_lt2 (by assumption) | exact z_lt3 (by assumption) (by first | assumption | decide)) (by first | omega | (simp only [Int32.toInt_add, Int32.toInt_sub, Int32.toInt_mul, Int32.toInt_toInt64, Int64.toInt_add, z_m1, Int32.reduceToInt, Int64.reduceToInt, Int32.reduceToNatClampNeg, Int.bmod_def, or_true, true_or, and_true, true_and] <;> omega)) (by first | omega | (simp only [Int32.toInt_add, Int32.toInt_sub, Int32.toInt_mul, Int32.toInt_toInt64, Int64.toInt_add, z_m1, Int32.reduceToInt, Int64.reduceToInt, Int32.reduceToNatClampNeg, Int.bmod_def, or_true, true_or, and_true, true_and] <;> omega))
        · have i_62 : ¬ Int32.toInt (e_51 (P + 19) (M_25 (P + 18) x2_25.toNatClampNeg).toNatClampNeg) = Int32.toInt (-1 : Int32) := fun q => h_62 (Int32.toInt_inj.mp q)
          (try simp only [Int32.toInt_add, Int32.toInt_sub, Int32.toInt_mul, Int32.toInt_toInt64, Int64.toInt_add, z_m1, Int32.reduceToInt, Int64.reduceToInt, Int32.reduceToNatClampNeg, Int.bmod_def] at i_62)
          refine vI (vp_of (by first | omega | (simp only [Int32.toInt_add, Int32.toInt_sub, Int32.toInt_mul, Int32.toInt_toInt64, Int64.toInt_add, z_m1, Int32.reduceToInt, Int64.reduceToInt, Int32.reduceToNatClampNeg, Int.bmod_def, or_true, true_or, and_true, true_and] <;> omega)) (by first | omega | (simp only [Int32.toInt_add, Int32.toInt_sub, Int32.toInt_mul, Int32.toInt_toInt64, Int64.toInt_add, z_m1, Int32.reduceToInt, Int64.reduceToInt, Int32.reduceToNatClampNeg, Int.bmod_def, or_true, true_or, and_true, true_and] <;> omega))) ?_
          obtain ⟨w0_77, w1_77⟩ := jR.el p_jR_51 (x := (M_25 (P + 18) x2_25.toNatClampNeg)) (by first | omega | (simp only [Int32.toInt_add, Int32.toInt_sub, Int32.toInt_mul, Int32.toInt_toInt64, Int64.toInt_add, z_m1, Int32.reduceToInt, Int64.reduceToInt, Int32.reduceToNatClampNeg, Int.bmod_def, or_true, true_or, and_true, true_and] <;> omega)) (by first | omega | (simp only [Int32.toInt_add, Int32.toInt_sub, Int32.toInt_mul, Int32.toInt_toInt64, Int64.toInt_add, z_m1, Int32.reduceToInt, Int64.reduceToInt, Int32.reduceToNatClampNeg, Int.bmod_def, or_true, true_or, and_true, true_and] <;> omega))
          exact T_79 _ _ _ _ _ k_51 kn_25 p_jB_51 p_jH_51 p_jK_51 p_jL_51 p_jO_51 p_jR_51 p_jS_51 x0_51 (by first | omega | (simp only [Int32.toInt_add, Int32.toInt_sub, Int32.toInt_mul, Int32.toInt_toInt64, Int64.toInt_add, z_m1, Int32.reduceToInt, Int64.reduceToInt, Int32.reduceToNatClampNeg, Int.bmod_def, or_true, true_or, and_true, true_and] <;> omega)) (by first | omega | (simp only [Int32.toInt_add, Int32.toInt_sub, Int32.toInt_mul, Int32.toInt_toInt64, Int64.toInt_add, z_m1, Int32.reduceToInt, Int64.reduceToInt, Int32.reduceToNatClampNeg, Int.bmod_def, or_true, true_or, and_true, true_and] <;> omega)) hm_25 (by first | assumption | exact z_lt (by assumption) | exact z_lt2 (by assumption) | exact z_lt3 (by assumption) (by first | assumption | decide)) (by first | omega | (simp only [Int32.toInt_add, Int32.toInt_sub, Int32.toInt_mul, Int32.toInt_toInt64, Int64.toInt_add, z_m1, Int32.reduceToInt, Int64.reduceToInt, Int32.reduceToNatClampNeg, Int.bmod_def, or_true, true_or, and_true, true_and] <;> omega)) (by first | omega | (simp only [Int32.toInt_add, Int32.toInt_sub, Int32.toInt_mul, Int32.toInt_toInt64, Int64.toInt_add, z_m1, Int32.reduceToInt, Int64.reduceToInt, Int32.reduceToNatClampNeg, Int.bmod_def, or_true, true_or, and_true, true_and] <;> omega))
  have T_25 : ∀ (x2_25 : Int32) (M_25 : zMt) (N_25 : zNt), (∀ a j, ¬ WM_X8_print P a j → M_25 a j = M0 a j) → (∀ a j, ¬ WN_X8_print P a j → N_25 a j = N0 a j) → (jB P M_25) → (jH P M_25) → (jK P M_25) → (jL P M_25) → (jO P M_25) → (jR P M_25) → (jS P M_25) → (jT P M_25) → (0 ≤ Int32.toInt x2_25) → (Int32.toInt x2_25 ≤ 10) → (Int32.toInt (M_25 P 64) ≤ 5 * Int32.toInt x2_25) → ∃ r, D_X8_print_25 P zFu x2_25 M_25 N_25 = some r ∧ ((∀ a j, ¬ WM_X8_print P a j → r.2.1 a j = M0 a j) ∧ (∀ a j, ¬ WN_X8_print P a j → r.2.2 a j = N0 a j) ∧ ((jB P r.2.1) ∧ (jS P r.2.1) ∧ (jR P r.2.1) ∧ (jK P r.2.1) ∧ (jT P r.2.1))) := fun x2_25 M_25 N_25 k_25 kn_25 p_jB_25 p_jH_25 p_jK_25 p_jL_25 p_jO_25 p_jR_25 p_jS_25 p_jT_25 f0_25 f1_25 f2_25 => TL_25 zFu x2_25 M_25 N_25 k_25 kn_25 p_jB_25 p_jH_25 p_jK_25 p_jL_25 p_jO_25 p_jR_25 p_jS_25 p_jT_25 f0_25 f1_25 f2_25 (zFu_up _)
  unfold D_X8_print
  refine vB (v_X8_isSeed) (fun e_1 f_1 q_1 => ?_)
  have b_1 := q_1.1
  have x0_1 := q_1.2
  (try simp only [Int32.toInt_add, Int32.toInt_sub, Int32.toInt_mul, Int32.toInt_toInt64, Int64.toInt_add, z_m1, Int32.reduceToInt, Int64.reduceToInt, Int32.reduceToNatClampNeg, Int.bmod_def] at x0_1)
  refine vIf (fun h_4 => ?_) (fun h_4 => ?_)
  · have i_4 := congrArg Int32.toInt h_4
    (try simp only [Int32.toInt_add, Int32.toInt_sub, Int32.toInt_mul, Int32.toInt_toInt64, Int64.toInt_add, z_m1, Int32.reduceToInt, Int64.reduceToInt, Int32.reduceToNatClampNeg, Int.bmod_def] at i_4)
    refine vB (v_X8_refuse) (fun e_9 f_9 q_9 => ?_)
    have k_9 : ∀ a j, ¬ WM_X8_print P a j → e_9.2 a j = M0 a j := fun a j h => (q_9 a j (wz_M_X8_refuse_X8_print h))
    have c7_9 : Int32.toInt (e_9.2 P 7) = Int32.toInt (M0 P 7) := congrArg Int32.toInt (q_9 P 7 (wc_X8_refuse_7))
    have c8_9 : Int32.toInt (e_9.2 P 8) = Int32.toInt (M0 P 8) := congrArg Int32.toInt (q_9 P 8 (wc_X8_refuse_8))
    have c33_9 : Int32.toInt (e_9.2 P 33) = Int32.toInt (M0 P 33) := congrArg Int32.toInt (q_9 P 33 (wc_X8_refuse_33))
    have n_9 : nA P e_9.2 = nA P M0 := nA_congr (fun a j h => q_9 a j (wf_nA_X8_refuse h))
    have p_jB_9 : jB P e_9.2 := jB.mono p_jB (fun a j h => q_9 a j (wf_jB_X8_refuse h))
    obtain ⟨u0_jB_9, u1_jB_9, u2_jB_9, u3_jB_9, u4_jB_9, u5_jB_9⟩ := id p_jB_9
    have p_jS_9 : jS P e_9.2 := jS.mono p_jS (fun a j h => q_9 a j (wf_jS_X8_refuse h))
    obtain ⟨u0_jS_9, u1_jS_9, u2_jS_9, u3_jS_9, u4_jS_9, u5_jS_9, u6_jS_9, u7_jS_9⟩ := jS.ints p_jS_9
    have p_jR_9 : jR P e_9.2 := jR.mono p_jR (fun a j h => q_9 a j (wf_jR_X8_refuse h))
    have p_jK_9 : jK P e_9.2 := jK.mono p_jK (fun a j h => q_9 a j (wf_jK_X8_refuse h))
    have p_jT_9 : jT P e_9.2 := jT.mono p_jT (fun a j h => q_9 a j (wf_jT_X8_refuse h))
    obtain ⟨u0_jT_9, u1_jT_9, u2_jT_9, u3_jT_9, u4_jT_9, u5_jT_9⟩ := id p_jT_9
    exact ⟨_, rfl, k_9, (fun _ _ _ => rfl), ⟨p_jB_9, p_jS_9, p_jR_9, p_jK_9, p_jT_9⟩⟩
  · have i_4 : ¬ Int32.toInt e_1 = Int32.toInt (0 : Int32) := fun q => h_4 (Int32.toInt_inj.mp q)
    (try simp only [Int32.toInt_add, Int32.toInt_sub, Int32.toInt_mul, Int32.toInt_toInt64, Int64.toInt_add, z_m1, Int32.reduceToInt, Int64.reduceToInt, Int32.reduceToNatClampNeg, Int.bmod_def] at i_4)
    refine vB (v_X8_laysResult p_jB p_jS p_jR (by first | omega | (simp only [Int32.toInt_add, Int32.toInt_sub, Int32.toInt_mul, Int32.toInt_toInt64, Int64.toInt_add, z_m1, Int32.reduceToInt, Int64.reduceToInt, Int32.reduceToNatClampNeg, Int.bmod_def, or_true, true_or, and_true, true_and] <;> omega))) (fun e_15 f_15 q_15 => ?_)
    have k_15 : ∀ a j, ¬ WM_X8_print P a j → e_15.1 a j = M0 a j := fun a j h => (q_15.1 a j (wz_M_X8_laysResult_X8_print h))
    have kn_15 : ∀ a j, ¬ WN_X8_print P a j → e_15.2 a j = N0 a j := fun a j h => (q_15.2.1 a j (wz_N_X8_laysResult_X8_print h))
    have c7_15 : Int32.toInt (e_15.1 P 7) = Int32.toInt (M0 P 7) := congrArg Int32.toInt (q_15.1 P 7 (wc_X8_laysResult_7))
    have c8_15 : Int32.toInt (e_15.1 P 8) = Int32.toInt (M0 P 8) := congrArg Int32.toInt (q_15.1 P 8 (wc_X8_laysResult_8))
    have n_15 : nA P e_15.1 = nA P M0 := nA_congr (fun a j h => q_15.1 a j (wf_nA_X8_laysResult h))
    have p_jS_15 : jS P e_15.1 := jS.mono p_jS (fun a j h => q_15.1 a j (wf_jS_X8_laysResult h))
    obtain ⟨u0_jS_15, u1_jS_15, u2_jS_15, u3_jS_15, u4_jS_15, u5_jS_15, u6_jS_15, u7_jS_15⟩ := jS.ints p_jS_15
    have p_jK_15 : jK P e_15.1 := jK.mono p_jK (fun a j h => q_15.1 a j (wf_jK_X8_laysResult h))
    have p_jT_15 : jT P e_15.1 := jT.mono p_jT (fun a j h => q_15.1 a j (wf_jT_X8_laysResult h))
    obtain ⟨u0_jT_15, u1_jT_15, u2_jT_15, u3_jT_15, u4_jT_15, u5_jT_15⟩ := id p_jT_15
    obtain ⟨x0_15, x1_15, x2_15, x3_15, x4_15, x5_15⟩ := q_15.2.2
    obtain ⟨u0_jB_15, u1_jB_15, u2_jB_15, u3_jB_15, u4_jB_15, u5_jB_15⟩ := id x0_15
    (try simp only [Int32.toInt_add, Int32.toInt_sub, Int32.toInt_mul, Int32.toInt_toInt64, Int64.toInt_add, z_m1, Int32.reduceToInt, Int64.reduceToInt, Int32.reduceToNatClampNeg, Int.bmod_def] at x5_15)
    refine vLm (W := WM_X8_print P) (fun a j h => (zu_ne (wq_X8_print_M0_64 h)).trans (k_15 a j h)) (fun M_20 f_20 k_20 => ?_)
    have c7_20 : Int32.toInt (M_20 P 7) = Int32.toInt (e_15.1 P 7) := congrArg Int32.toInt ((congrFun (congrFun f_20.symm P) 7).trans (zu_ne (fun z => absurd z.2 (by decide))))
    have c8_20 : Int32.toInt (M_20 P 8) = Int32.toInt (e_15.1 P 8) := congrArg Int32.toInt ((congrFun (congrFun f_20.symm P) 8).trans (zu_ne (fun z => absurd z.2 (by decide))))
    have c33_20 : Int32.toInt (M_20 P 33) = Int32.toInt (e_15.1 P 33) := congrArg Int32.toInt ((congrFun (congrFun f_20.symm P) 33).trans (zu_ne (fun z => absurd z.2 (by decide))))
    have n_20 : nA P M_20 = nA P e_15.1 := nA_congr (fun a j h => (congrFun (congrFun f_20.symm a) j).trans (zu_ne (wf_nA_M0_64 h)))
    have p_jS_20 : jS P M_20 := jS.mono p_jS_15 (fun a j h => (congrFun (congrFun f_20.symm a) j).trans (zu_ne (wf_jS_M0_64 h)))
    obtain ⟨u0_jS_20, u1_jS_20, u2_jS_20, u3_jS_20, u4_jS_20, u5_jS_20, u6_jS_20, u7_jS_20⟩ := jS.ints p_jS_20
    have p_jK_20 : jK P M_20 := jK.mono p_jK_15 (fun a j h => (congrFun (congrFun f_20.symm a) j).trans (zu_ne (wf_jK_M0_64 h)))
    have p_jT_20 : jT P M_20 := jT.put64 p_jT_15 f_20 (by decide) (by decide)
    obtain ⟨u0_jT_20, u1_jT_20, u2_jT_20, u3_jT_20, u4_jT_20, u5_jT_20⟩ := id p_jT_20
    have p_jB_20 : jB P M_20 := jB.mono x0_15 (fun a j h => (congrFun (congrFun f_20.symm a) j).trans (zu_ne (wf_jB_M0_64 h)))
    obtain ⟨u0_jB_20, u1_jB_20, u2_jB_20, u3_jB_20, u4_jB_20, u5_jB_20⟩ := id p_jB_20
    have p_jL_20 : jL P M_20 := jL.mono x1_15 (fun a j h => (congrFun (congrFun f_20.symm a) j).trans (zu_ne (wf_jL_M0_64 h)))
    have p_jH_20 : jH P M_20 := jH.mono x2_15 (fun a j h => (congrFun (congrFun f_20.symm a) j).trans (zu_ne (wf_jH_M0_64 h)))
    have p_jO_20 : jO P M_20 := jO.mono x3_15 (fun a j h => (congrFun (congrFun f_20.symm a) j).trans (zu_ne (wf_jO_M0_64 h)))
    have p_jR_20 : jR P M_20 := jR.mono x4_15 (fun a j h => (congrFun (congrFun f_20.symm a) j).trans (zu_ne (wf_jR_M0_64 h)))
    exact T_25 _ _ _ k_20 kn_15 p_jB_20 p_jH_20 p_jK_20 p_jL_20 p_jO_20 p_jR_20 p_jS_20 p_jT_20 (by first | omega | (simp only [Int32.toInt_add, Int32.toInt_sub, Int32.toInt_mul, Int32.toInt_toInt64, Int64.toInt_add, z_m1, Int32.reduceToInt, Int64.reduceToInt, Int32.reduceToNatClampNeg, Int.bmod_def, or_true, true_or, and_true, true_and] <;> omega)) (by first | omega | (simp only [Int32.toInt_add, Int32.toInt_sub, Int32.toInt_mul, Int32.toInt_toInt64, Int64.toInt_add, z_m1, Int32.reduceToInt, Int64.reduceToInt, Int32.reduceToNatClampNeg, Int.bmod_def, or_true, true_or, and_true, true_and] <;> omega)) (by first | (rw [← f_20, zu_eq]; decide) | exact (by first | omega | (simp only [Int32.toInt_add, Int32.toInt_sub, Int32.toInt_mul, Int32.toInt_toInt64, Int64.toInt_add, z_m1, Int32.reduceToInt, Int64.reduceToInt, Int32.reduceToNatClampNeg, Int.bmod_def, or_true, true_or, and_true, true_and] <;> omega)))
def WM_X8_out (P : Nat) (a j : Nat) : Prop := (a = P ∧ (j = 6 ∨ j = 12))
theorem wz_M_X8_refuse_X8_out {P a j : Nat} (h : ¬ WM_X8_out P a j) : ¬ WM_X8_refuse P a j := by unfold WM_X8_refuse; unfold WM_X8_out at h; omega
theorem wz_M_X8_gives_X8_out {P a j : Nat} (h : ¬ WM_X8_out P a j) : ¬ WM_X8_gives P a j := by unfold WM_X8_gives; unfold WM_X8_out at h; omega
set_option maxRecDepth 100000 in
set_option maxHeartbeats 4000000 in
theorem v_X8_out {P : Nat} {v0 : Int32} {M0 : zMt}  (p_jB : jB P M0) (p_jS : jS P M0) (p_jR : jR P M0) (p_jK : jK P M0) (p_jT : jT P M0) : ∃ r, D_X8_out P v0 M0 = some r ∧ ((∀ a j, ¬ WM_X8_out P a j → r.2 a j = M0 a j) ∧ ((jB P r.2) ∧ (jS P r.2) ∧ (jR P r.2) ∧ (jK P r.2) ∧ (jT P r.2))) := by
  obtain ⟨u0_jB, u1_jB, u2_jB, u3_jB, u4_jB, u5_jB⟩ := id p_jB
  obtain ⟨u0_jS, u1_jS, u2_jS, u3_jS, u4_jS, u5_jS, u6_jS, u7_jS⟩ := jS.ints p_jS
  obtain ⟨u0_jT, u1_jT, u2_jT, u3_jT, u4_jT, u5_jT⟩ := id p_jT
  have T_36 : ∀ (y0_36 : Int32) (M_36 : zMt), (∀ a j, ¬ WM_X8_out P a j → M_36 a j = M0 a j) → (jB P M_36) → (jK P M_36) → (jR P M_36) → (jS P M_36) → (jT P M_36) → ∃ r, D_X8_out_36 P y0_36 M_36 = some r ∧ ((∀ a j, ¬ WM_X8_out P a j → r.2 a j = M0 a j) ∧ ((jB P r.2) ∧ (jS P r.2) ∧ (jR P r.2) ∧ (jK P r.2) ∧ (jT P r.2))) := by
    intro y0_36 M_36 k_36 p_jB_36 p_jK_36 p_jR_36 p_jS_36 p_jT_36
    obtain ⟨u0_jB_36, u1_jB_36, u2_jB_36, u3_jB_36, u4_jB_36, u5_jB_36⟩ := id p_jB_36
    obtain ⟨u0_jS_36, u1_jS_36, u2_jS_36, u3_jS_36, u4_jS_36, u5_jS_36, u6_jS_36, u7_jS_36⟩ := jS.ints p_jS_36
    obtain ⟨u0_jT_36, u1_jT_36, u2_jT_36, u3_jT_36, u4_jT_36, u5_jT_36⟩ := id p_jT_36
    unfold D_X8_out_36
    exact ⟨_, rfl, k_36, ⟨p_jB_36, p_jS_36, p_jR_36, p_jK_36, p_jT_36⟩⟩
  unfold D_X8_out
  refine vIf (fun h_1 => ?_) (fun h_1 => ?_)
  · have i_1 := Int32.le_iff_toInt_le.mp h_1
    (try simp only [Int32.toInt_add, Int32.toInt_sub, Int32.toInt_mul, Int32.toInt_toInt64, Int64.toInt_add, z_m1, Int32.reduceToInt, Int64.reduceToInt, Int32.reduceToNatClampNeg, Int.bmod_def] at i_1)
    refine vIf (fun h_15 => ?_) (fun h_15 => ?_)
    · have i_15 := Int32.le_iff_toInt_le.mp h_15
      (try simp only [Int32.toInt_add, Int32.toInt_sub, Int32.toInt_mul, Int32.toInt_toInt64, Int64.toInt_add, z_m1, Int32.reduceToInt, Int64.reduceToInt, Int32.reduceToNatClampNeg, Int.bmod_def] at i_15)
      refine vB (v_X8_refuse) (fun e_33 f_33 q_33 => ?_)
      have k_33 : ∀ a j, ¬ WM_X8_out P a j → e_33.2 a j = M0 a j := fun a j h => (q_33 a j (wz_M_X8_refuse_X8_out h))
      have c7_33 : Int32.toInt (e_33.2 P 7) = Int32.toInt (M0 P 7) := congrArg Int32.toInt (q_33 P 7 (wc_X8_refuse_7))
      have c8_33 : Int32.toInt (e_33.2 P 8) = Int32.toInt (M0 P 8) := congrArg Int32.toInt (q_33 P 8 (wc_X8_refuse_8))
      have c33_33 : Int32.toInt (e_33.2 P 33) = Int32.toInt (M0 P 33) := congrArg Int32.toInt (q_33 P 33 (wc_X8_refuse_33))
      have n_33 : nA P e_33.2 = nA P M0 := nA_congr (fun a j h => q_33 a j (wf_nA_X8_refuse h))
      have p_jB_33 : jB P e_33.2 := jB.mono p_jB (fun a j h => q_33 a j (wf_jB_X8_refuse h))
      obtain ⟨u0_jB_33, u1_jB_33, u2_jB_33, u3_jB_33, u4_jB_33, u5_jB_33⟩ := id p_jB_33
      have p_jS_33 : jS P e_33.2 := jS.mono p_jS (fun a j h => q_33 a j (wf_jS_X8_refuse h))
      obtain ⟨u0_jS_33, u1_jS_33, u2_jS_33, u3_jS_33, u4_jS_33, u5_jS_33, u6_jS_33, u7_jS_33⟩ := jS.ints p_jS_33
      have p_jR_33 : jR P e_33.2 := jR.mono p_jR (fun a j h => q_33 a j (wf_jR_X8_refuse h))
      have p_jK_33 : jK P e_33.2 := jK.mono p_jK (fun a j h => q_33 a j (wf_jK_X8_refuse h))
      have p_jT_33 : jT P e_33.2 := jT.mono p_jT (fun a j h => q_33 a j (wf_jT_X8_refuse h))
      obtain ⟨u0_jT_33, u1_jT_33, u2_jT_33, u3_jT_33, u4_jT_33, u5_jT_33⟩ := id p_jT_33
      exact T_36 _ _ k_33 p_jB_33 p_jK_33 p_jR_33 p_jS_33 p_jT_33
    · have i_15 := Int32.lt_iff_toInt_lt.mp (Int32.not_le.mp h_15)
      (try simp only [Int32.toInt_add, Int32.toInt_sub, Int32.toInt_mul, Int32.toInt_toInt64, Int64.toInt_add, z_m1, Int32.reduceToInt, Int64.reduceToInt, Int32.reduceToNatClampNeg, Int.bmod_def] at i_15)
      refine vI (vp_of (by first | omega | (simp only [Int32.toInt_add, Int32.toInt_sub, Int32.toInt_mul, Int32.toInt_toInt64, Int64.toInt_add, z_m1, Int32.reduceToInt, Int64.reduceToInt, Int32.reduceToNatClampNeg, Int.bmod_def, or_true, true_or, and_true, true_and] <;> omega)) (by first | omega | (simp only [Int32.toInt_add, Int32.toInt_sub, Int32.toInt_mul, Int32.toInt_toInt64, Int64.toInt_add, z_m1, Int32.reduceToInt, Int64.reduceToInt, Int32.reduceToNatClampNeg, Int.bmod_def, or_true, true_or, and_true, true_and] <;> omega))) ?_
      refine vB (v_X8_gives) (fun e_25 f_25 q_25 => ?_)
      have k_25 : ∀ a j, ¬ WM_X8_out P a j → e_25.2 a j = M0 a j := fun a j h => (q_25 a j (wz_M_X8_gives_X8_out h))
      have c7_25 : Int32.toInt (e_25.2 P 7) = Int32.toInt (M0 P 7) := congrArg Int32.toInt (q_25 P 7 (wc_X8_gives_7))
      have c8_25 : Int32.toInt (e_25.2 P 8) = Int32.toInt (M0 P 8) := congrArg Int32.toInt (q_25 P 8 (wc_X8_gives_8))
      have c33_25 : Int32.toInt (e_25.2 P 33) = Int32.toInt (M0 P 33) := congrArg Int32.toInt (q_25 P 33 (wc_X8_gives_33))
      have n_25 : nA P e_25.2 = nA P M0 := nA_congr (fun a j h => q_25 a j (wf_nA_X8_gives h))
      have p_jB_25 : jB P e_25.2 := jB.mono p_jB (fun a j h => q_25 a j (wf_jB_X8_gives h))
      obtain ⟨u0_jB_25, u1_jB_25, u2_jB_25, u3_jB_25, u4_jB_25, u5_jB_25⟩ := id p_jB_25
      have p_jS_25 : jS P e_25.2 := jS.mono p_jS (fun a j h => q_25 a j (wf_jS_X8_gives h))
      obtain ⟨u0_jS_25, u1_jS_25, u2_jS_25, u3_jS_25, u4_jS_25, u5_jS_25, u6_jS_25, u7_jS_25⟩ := jS.ints p_jS_25
      have p_jR_25 : jR P e_25.2 := jR.mono p_jR (fun a j h => q_25 a j (wf_jR_X8_gives h))
      have p_jK_25 : jK P e_25.2 := jK.mono p_jK (fun a j h => q_25 a j (wf_jK_X8_gives h))
      have p_jT_25 : jT P e_25.2 := jT.mono p_jT (fun a j h => q_25 a j (wf_jT_X8_gives h))
      obtain ⟨u0_jT_25, u1_jT_25, u2_jT_25, u3_jT_25, u4_jT_25, u5_jT_25⟩ := id p_jT_25
      exact T_36 _ _ k_25 p_jB_25 p_jK_25 p_jR_25 p_jS_25 p_jT_25
  · have i_1 := Int32.lt_iff_toInt_lt.mp (Int32.not_le.mp h_1)
    (try simp only [Int32.toInt_add, Int32.toInt_sub, Int32.toInt_mul, Int32.toInt_toInt64, Int64.toInt_add, z_m1, Int32.reduceToInt, Int64.reduceToInt, Int32.reduceToNatClampNeg, Int.bmod_def] at i_1)
    refine vB (v_X8_refuse) (fun e_6 f_6 q_6 => ?_)
    have k_6 : ∀ a j, ¬ WM_X8_out P a j → e_6.2 a j = M0 a j := fun a j h => (q_6 a j (wz_M_X8_refuse_X8_out h))
    have c7_6 : Int32.toInt (e_6.2 P 7) = Int32.toInt (M0 P 7) := congrArg Int32.toInt (q_6 P 7 (wc_X8_refuse_7))
    have c8_6 : Int32.toInt (e_6.2 P 8) = Int32.toInt (M0 P 8) := congrArg Int32.toInt (q_6 P 8 (wc_X8_refuse_8))
    have c33_6 : Int32.toInt (e_6.2 P 33) = Int32.toInt (M0 P 33) := congrArg Int32.toInt (q_6 P 33 (wc_X8_refuse_33))
    have n_6 : nA P e_6.2 = nA P M0 := nA_congr (fun a j h => q_6 a j (wf_nA_X8_refuse h))
    have p_jB_6 : jB P e_6.2 := jB.mono p_jB (fun a j h => q_6 a j (wf_jB_X8_refuse h))
    obtain ⟨u0_jB_6, u1_jB_6, u2_jB_6, u3_jB_6, u4_jB_6, u5_jB_6⟩ := id p_jB_6
    have p_jS_6 : jS P e_6.2 := jS.mono p_jS (fun a j h => q_6 a j (wf_jS_X8_refuse h))
    obtain ⟨u0_jS_6, u1_jS_6, u2_jS_6, u3_jS_6, u4_jS_6, u5_jS_6, u6_jS_6, u7_jS_6⟩ := jS.ints p_jS_6
    have p_jR_6 : jR P e_6.2 := jR.mono p_jR (fun a j h => q_6 a j (wf_jR_X8_refuse h))
    have p_jK_6 : jK P e_6.2 := jK.mono p_jK (fun a j h => q_6 a j (wf_jK_X8_refuse h))
    have p_jT_6 : jT P e_6.2 := jT.mono p_jT (fun a j h => q_6 a j (wf_jT_X8_refuse h))
    obtain ⟨u0_jT_6, u1_jT_6, u2_jT_6, u3_jT_6, u4_jT_6, u5_jT_6⟩ := id p_jT_6
    exact ⟨_, rfl, k_6, ⟨p_jB_6, p_jS_6, p_jR_6, p_jK_6, p_jT_6⟩⟩
