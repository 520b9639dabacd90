def WM_X8_readOnce (P : Nat) (a j : Nat) : Prop := (P + 2 ≤ a ∧ a < P + 3) ∨ (a = P ∧ (j = 16 ∨ j = 17 ∨ j = 18 ∨ j = 19 ∨ j = 20 ∨ j = 21 ∨ j = 22 ∨ j = 23 ∨ j = 31))
def WN_X8_readOnce (P : Nat) (a j : Nat) : Prop := (a = P ∧ (j = 24))
theorem wq_X8_readOnce_M2_r {P a j : Nat} (h : ¬ WM_X8_readOnce P a j) : ¬ a = P + 2 := by unfold WM_X8_readOnce at h; omega
theorem wz_M_X8_bad_X8_readOnce {P a j : Nat} (h : ¬ WM_X8_readOnce P a j) : ¬ WM_X8_bad P a j := by unfold WM_X8_bad; unfold WM_X8_readOnce at h; omega
theorem wz_M_X8_next_X8_readOnce {P a j : Nat} (h : ¬ WM_X8_readOnce P a j) : ¬ WM_X8_next P a j := by unfold WM_X8_next; unfold WM_X8_readOnce at h; omega
theorem wz_N_X8_next_X8_readOnce {P a j : Nat} (h : ¬ WN_X8_readOnce P a j) : ¬ WN_X8_next P a j := by unfold WN_X8_next; unfold WN_X8_readOnce at h; omega
theorem wq_X8_readOnce_M0_23 {P a j : Nat} (h : ¬ WM_X8_readOnce P a j) : ¬ (a = P ∧ j = 23) := by unfold WM_X8_readOnce at h; omega
theorem wf_nA_M0_23 {P a j : Nat} (h : (a = P + 1 ∨ (a = P ∧ j = 8))) : ¬ (a = P ∧ j = 23) := by omega
theorem wf_jX_M0_23 {P a j : Nat} (h : (a = P ∧ (j = 15 ∨ j = 17))) : ¬ (a = P ∧ j = 23) := by omega
theorem wf_jY_M0_23 {P a j : Nat} (h : (a = P ∧ (j = 28 ∨ j = 29 ∨ j = 30))) : ¬ (a = P ∧ j = 23) := by omega
theorem wf_jZ_M0_23 {P a j : Nat} (h : (a = P + 2 ∨ (a = P ∧ (j = 28 ∨ j = 29 ∨ j = 30)))) : ¬ (a = P ∧ j = 23) := by omega
theorem wz_M_X8_number_X8_readOnce {P a j : Nat} (h : ¬ WM_X8_readOnce P a j) : ¬ WM_X8_number P a j := by unfold WM_X8_number; unfold WM_X8_readOnce at h; omega
theorem wz_N_X8_number_X8_readOnce {P a j : Nat} (h : ¬ WN_X8_readOnce P a j) : ¬ WN_X8_number P a j := by unfold WN_X8_number; unfold WN_X8_readOnce at h; omega
set_option maxRecDepth 100000 in
set_option maxHeartbeats 4000000 in
theorem v_X8_readOnce {P : Nat} {v0 : Int32} {M0 : zMt} {N0 : zNt}  (p_jX : jX P M0) (p_jY : jY P M0) (p_jZ : jZ P M0) : ∃ r, D_X8_readOnce P v0 M0 N0 = some r ∧ ((∀ a j, ¬ WM_X8_readOnce P a j → r.2.1 a j = M0 a j) ∧ (∀ a j, ¬ WN_X8_readOnce P a j → r.2.2 a j = N0 a j) ∧ (r.1 = 0 ∨ r.1 = 1) ∧ ((jX P r.2.1) ∧ (jY P r.2.1) ∧ (jZ P r.2.1) ∧ (Int32.toInt (M0 P 17) ≤ Int32.toInt (r.2.1 P 17)))) := by
  obtain ⟨u0_jX, u1_jX, u2_jX, u3_jX⟩ := id p_jX
  obtain ⟨u0_jY, u1_jY, u2_jY, u3_jY, u4_jY, u5_jY⟩ := id p_jY
  have T_111 : ∀ (y1_111 : Int32) (M_111 : zMt) (N_111 : zNt), (∀ a j, ¬ WM_X8_readOnce P a j → M_111 a j = M0 a j) → (∀ a j, ¬ WN_X8_readOnce P a j → N_111 a j = N0 a j) → (jX P M_111) → (jY P M_111) → (jZ P M_111) → (Int32.toInt (M0 P 17) ≤ Int32.toInt (M_111 P 17)) → (68 ≤ Int32.toInt y1_111 ∧ Int32.toInt y1_111 ≤ 69) → (0 ≤ Int32.toInt (M_111 P 31) ∧ Int32.toInt (M_111 P 31) ≤ 100) → ∃ r, D_X8_readOnce_111 P y1_111 M_111 N_111 = some r ∧ ((∀ a j, ¬ WM_X8_readOnce P a j → r.2.1 a j = M0 a j) ∧ (∀ a j, ¬ WN_X8_readOnce P a j → r.2.2 a j = N0 a j) ∧ (r.1 = 0 ∨ r.1 = 1) ∧ ((jX P r.2.1) ∧ (jY P r.2.1) ∧ (jZ P r.2.1) ∧ (Int32.toInt (M0 P 17) ≤ Int32.toInt (r.2.1 P 17)))) := by
    intro y1_111 M_111 N_111 k_111 kn_111 p_jX_111 p_jY_111 p_jZ_111 f0_111 f1_111 f2_111
    obtain ⟨u0_jX_111, u1_jX_111, u2_jX_111, u3_jX_111⟩ := id p_jX_111
    obtain ⟨u0_jY_111, u1_jY_111, u2_jY_111, u3_jY_111, u4_jY_111, u5_jY_111⟩ := id p_jY_111
    unfold D_X8_readOnce_111
    refine vI (vp_of (by first | omega | (simp only [Int32.toInt_add, Int32.toInt_sub, Int32.toInt_mul, Int32.toInt_toInt64, Int64.toInt_add, z_m1, Int32.reduceToInt, Int64.reduceToInt, Int32.reduceToNatClampNeg, Int.bmod_def, or_true, true_or, and_true, true_and] <;> omega)) (by first | omega | (simp only [Int32.toInt_add, Int32.toInt_sub, Int32.toInt_mul, Int32.toInt_toInt64, Int64.toInt_add, z_m1, Int32.reduceToInt, Int64.reduceToInt, Int32.reduceToNatClampNeg, Int.bmod_def, or_true, true_or, and_true, true_and] <;> omega))) ?_
    refine vLm (W := WM_X8_readOnce P) (fun a j h => (zu_ne (fun z => wq_X8_readOnce_M2_r h z.1)).trans (k_111 a j h)) (fun M_115 f_115 k_115 => ?_)
    have c15_115 : Int32.toInt (M_115 P 15) = Int32.toInt (M_111 P 15) := congrArg Int32.toInt ((congrFun (congrFun f_115.symm P) 15).trans (zu_ne (fun z => wq_pne0 (by decide) z.1)))
    have c17_115 : Int32.toInt (M_115 P 17) = Int32.toInt (M_111 P 17) := congrArg Int32.toInt ((congrFun (congrFun f_115.symm P) 17).trans (zu_ne (fun z => wq_pne0 (by decide) z.1)))
    have c18_115 : Int32.toInt (M_115 P 18) = Int32.toInt (M_111 P 18) := congrArg Int32.toInt ((congrFun (congrFun f_115.symm P) 18).trans (zu_ne (fun z => wq_pne0 (by decide) z.1)))
    have c20_115 : Int32.toInt (M_115 P 20) = Int32.toInt (M_111 P 20) := congrArg Int32.toInt ((congrFun (congrFun f_115.symm P) 20).trans (zu_ne (fun z => wq_pne0 (by decide) z.1)))
    have c28_115 : Int32.toInt (M_115 P 28) = Int32.toInt (M_111 P 28) := congrArg Int32.toInt ((congrFun (congrFun f_115.symm P) 28).trans (zu_ne (fun z => wq_pne0 (by decide) z.1)))
    have c29_115 : Int32.toInt (M_115 P 29) = Int32.toInt (M_111 P 29) := congrArg Int32.toInt ((congrFun (congrFun f_115.symm P) 29).trans (zu_ne (fun z => wq_pne0 (by decide) z.1)))
    have c30_115 : Int32.toInt (M_115 P 30) = Int32.toInt (M_111 P 30) := congrArg Int32.toInt ((congrFun (congrFun f_115.symm P) 30).trans (zu_ne (fun z => wq_pne0 (by decide) z.1)))
    have c31_115 : Int32.toInt (M_115 P 31) = Int32.toInt (M_111 P 31) := congrArg Int32.toInt ((congrFun (congrFun f_115.symm P) 31).trans (zu_ne (fun z => wq_pne0 (by decide) z.1)))
    have n_115 : nA P M_115 = nA P M_111 := nA_congr (fun a j h => (congrFun (congrFun f_115.symm a) j).trans (zu_ne (fun z => wf_nA_M2_r h z.1)))
    have p_jX_115 : jX P M_115 := jX.mono p_jX_111 (fun a j h => (congrFun (congrFun f_115.symm a) j).trans (zu_ne (fun z => wf_jX_M2_r h z.1)))
    obtain ⟨u0_jX_115, u1_jX_115, u2_jX_115, u3_jX_115⟩ := id p_jX_115
    have p_jY_115 : jY P M_115 := jY.mono p_jY_111 (fun a j h => (congrFun (congrFun f_115.symm a) j).trans (zu_ne (fun z => wf_jY_M2_r h z.1)))
    obtain ⟨u0_jY_115, u1_jY_115, u2_jY_115, u3_jY_115, u4_jY_115, u5_jY_115⟩ := id p_jY_115
    have p_jZ_115 : jZ P M_115 := jZ.put p_jZ_111 (by omega) f_115 (Or.inr (Or.inr (Or.inr (Or.inr (Or.inl ⟨(by have h1 := z_cl (x := y1_111) (by first | omega | (simp only [Int32.toInt_add, Int32.toInt_sub, Int32.toInt_mul, Int32.toInt_toInt64, Int64.toInt_add, z_m1, Int32.reduceToInt, Int64.reduceToInt, Int32.reduceToNatClampNeg, Int.bmod_def, or_true, true_or, and_true, true_and] <;> omega)); have h2 : 68 ≤ Int32.toInt (y1_111) ∧ Int32.toInt (y1_111) < 70 := (by first | omega | (simp only [Int32.toInt_add, Int32.toInt_sub, Int32.toInt_mul, Int32.toInt_toInt64, Int64.toInt_add, z_m1, Int32.reduceToInt, Int64.reduceToInt, Int32.reduceToNatClampNeg, Int.bmod_def, or_true, true_or, and_true, true_and] <;> omega)); omega), (by have h1 := z_cl (x := y1_111) (by first | omega | (simp only [Int32.toInt_add, Int32.toInt_sub, Int32.toInt_mul, Int32.toInt_toInt64, Int64.toInt_add, z_m1, Int32.reduceToInt, Int64.reduceToInt, Int32.reduceToNatClampNeg, Int.bmod_def, or_true, true_or, and_true, true_and] <;> omega)); have h2 : 68 ≤ Int32.toInt (y1_111) ∧ Int32.toInt (y1_111) < 70 := (by first | omega | (simp only [Int32.toInt_add, Int32.toInt_sub, Int32.toInt_mul, Int32.toInt_toInt64, Int64.toInt_add, z_m1, Int32.reduceToInt, Int64.reduceToInt, Int32.reduceToNatClampNeg, Int.bmod_def, or_true, true_or, and_true, true_and] <;> omega)); omega), (by first | omega | (simp only [Int32.toInt_add, Int32.toInt_sub, Int32.toInt_mul, Int32.toInt_toInt64, Int64.toInt_add, z_m1, Int32.reduceToInt, Int64.reduceToInt, Int32.reduceToNatClampNeg, Int.bmod_def, or_true, true_or, and_true, true_and] <;> omega)), (by first | omega | (simp only [Int32.toInt_add, Int32.toInt_sub, Int32.toInt_mul, Int32.toInt_toInt64, Int64.toInt_add, z_m1, Int32.reduceToInt, Int64.reduceToInt, Int32.reduceToNatClampNeg, Int.bmod_def, or_true, true_or, and_true, true_and] <;> omega))⟩)))))
    exact ⟨_, rfl, k_115, kn_111, (by first | exact Or.inl rfl | exact Or.inr rfl | assumption), ⟨p_jX_115, p_jY_115, p_jZ_115, (by first | omega | (simp only [Int32.toInt_add, Int32.toInt_sub, Int32.toInt_mul, Int32.toInt_toInt64, Int64.toInt_add, z_m1, Int32.reduceToInt, Int64.reduceToInt, Int32.reduceToNatClampNeg, Int.bmod_def, or_true, true_or, and_true, true_and] <;> omega))⟩⟩
  have T_57 : ∀ (y0_57 : Int32) (M_57 : zMt) (N_57 : zNt), (∀ a j, ¬ WM_X8_readOnce P a j → M_57 a j = M0 a j) → (∀ a j, ¬ WN_X8_readOnce P a j → N_57 a j = N0 a j) → (jX P M_57) → (jY P M_57) → (jZ P M_57) → (Int32.toInt (M0 P 17) ≤ Int32.toInt (M_57 P 17)) → (-1 ≤ Int32.toInt y0_57 ∧ Int32.toInt y0_57 ≤ 2) → ∃ r, D_X8_readOnce_57 P y0_57 M_57 N_57 = some r ∧ ((∀ a j, ¬ WM_X8_readOnce P a j → r.2.1 a j = M0 a j) ∧ (∀ a j, ¬ WN_X8_readOnce P a j → r.2.2 a j = N0 a j) ∧ (r.1 = 0 ∨ r.1 = 1) ∧ ((jX P r.2.1) ∧ (jY P r.2.1) ∧ (jZ P r.2.1) ∧ (Int32.toInt (M0 P 17) ≤ Int32.toInt (r.2.1 P 17)))) := by
    intro y0_57 M_57 N_57 k_57 kn_57 p_jX_57 p_jY_57 p_jZ_57 f0_57 f1_57
    obtain ⟨u0_jX_57, u1_jX_57, u2_jX_57, u3_jX_57⟩ := id p_jX_57
    obtain ⟨u0_jY_57, u1_jY_57, u2_jY_57, u3_jY_57, u4_jY_57, u5_jY_57⟩ := id p_jY_57
    unfold D_X8_readOnce_57
    refine vIf (fun h_60 => ?_) (fun h_60 => ?_)
    · have i_60 := congrArg Int32.toInt h_60
      (try simp only [Int32.toInt_add, Int32.toInt_sub, Int32.toInt_mul, Int32.toInt_toInt64, Int64.toInt_add, z_m1, Int32.reduceToInt, Int64.reduceToInt, Int32.reduceToNatClampNeg, Int.bmod_def] at i_60)
      refine vB (v_X8_bad) (fun e_65 f_65 q_65 => ?_)
      have k_65 : ∀ a j, ¬ WM_X8_readOnce P a j → e_65.2 a j = M0 a j := fun a j h => (q_65.1 a j (wz_M_X8_bad_X8_readOnce h)).trans (k_57 a j h)
      have b_65 := q_65.2.1
      have c15_65 : Int32.toInt (e_65.2 P 15) = Int32.toInt (M_57 P 15) := congrArg Int32.toInt (q_65.1 P 15 (wc_X8_bad_15))
      have c17_65 : Int32.toInt (e_65.2 P 17) = Int32.toInt (M_57 P 17) := congrArg Int32.toInt (q_65.1 P 17 (wc_X8_bad_17))
      have c18_65 : Int32.toInt (e_65.2 P 18) = Int32.toInt (M_57 P 18) := congrArg Int32.toInt (q_65.1 P 18 (wc_X8_bad_18))
      have c20_65 : Int32.toInt (e_65.2 P 20) = Int32.toInt (M_57 P 20) := congrArg Int32.toInt (q_65.1 P 20 (wc_X8_bad_20))
      have c28_65 : Int32.toInt (e_65.2 P 28) = Int32.toInt (M_57 P 28) := congrArg Int32.toInt (q_65.1 P 28 (wc_X8_bad_28))
      have c29_65 : Int32.toInt (e_65.2 P 29) = Int32.toInt (M_57 P 29) := congrArg Int32.toInt (q_65.1 P 29 (wc_X8_bad_29))
      have c30_65 : Int32.toInt (e_65.2 P 30) = Int32.toInt (M_57 P 30) := congrArg Int32.toInt (q_65.1 P 30 (wc_X8_bad_30))
      have c31_65 : Int32.toInt (e_65.2 P 31) = Int32.toInt (M_57 P 31) := congrArg Int32.toInt (q_65.1 P 31 (wc_X8_bad_31))
      have n_65 : nA P e_65.2 = nA P M_57 := nA_congr (fun a j h => q_65.1 a j (wf_nA_X8_bad h))
      have p_jX_65 : jX P e_65.2 := jX.mono p_jX_57 (fun a j h => q_65.1 a j (wf_jX_X8_bad h))
      obtain ⟨u0_jX_65, u1_jX_65, u2_jX_65, u3_jX_65⟩ := id p_jX_65
      have p_jY_65 : jY P e_65.2 := jY.mono p_jY_57 (fun a j h => q_65.1 a j (wf_jY_X8_bad h))
      obtain ⟨u0_jY_65, u1_jY_65, u2_jY_65, u3_jY_65, u4_jY_65, u5_jY_65⟩ := id p_jY_65
      have p_jZ_65 : jZ P e_65.2 := jZ.mono p_jZ_57 (fun a j h => q_65.1 a j (wf_jZ_X8_bad h))
      have x0_65 := q_65.2.2
      (try simp only [Int32.toInt_add, Int32.toInt_sub, Int32.toInt_mul, Int32.toInt_toInt64, Int64.toInt_add, z_m1, Int32.reduceToInt, Int64.reduceToInt, Int32.reduceToNatClampNeg, Int.bmod_def] at x0_65)
      exact ⟨_, rfl, k_65, kn_57, (by first | exact Or.inl rfl | exact Or.inr rfl | assumption), ⟨p_jX_65, p_jY_65, p_jZ_65, (by first | omega | (simp only [Int32.toInt_add, Int32.toInt_sub, Int32.toInt_mul, Int32.toInt_toInt64, Int64.toInt_add, z_m1, Int32.reduceToInt, Int64.reduceToInt, Int32.reduceToNatClampNeg, Int.bmod_def, or_true, true_or, and_true, true_and] <;> omega))⟩⟩
    · have i_60 : ¬ Int32.toInt y0_57 = Int32.toInt (-1 : Int32) := fun q => h_60 (Int32.toInt_inj.mp q)
      (try simp only [Int32.toInt_add, Int32.toInt_sub, Int32.toInt_mul, Int32.toInt_toInt64, Int64.toInt_add, z_m1, Int32.reduceToInt, Int64.reduceToInt, Int32.reduceToNatClampNeg, Int.bmod_def] at i_60)
      refine vI (vp_of (by first | omega | (simp only [Int32.toInt_add, Int32.toInt_sub, Int32.toInt_mul, Int32.toInt_toInt64, Int64.toInt_add, z_m1, Int32.reduceToInt, Int64.reduceToInt, Int32.reduceToNatClampNeg, Int.bmod_def, or_true, true_or, and_true, true_and] <;> omega)) (by first | omega | (simp only [Int32.toInt_add, Int32.toInt_sub, Int32.toInt_mul, Int32.toInt_toInt64, Int64.toInt_add, z_m1, Int32.reduceToInt, Int64.reduceToInt, Int32.reduceToNatClampNeg, Int.bmod_def, or_true, true_or, and_true, true_and] <;> omega))) ?_
      refine vLm (W := WM_X8_readOnce P) (fun a j h => (zu_ne (fun z => wq_X8_readOnce_M2_r h z.1)).trans (k_57 a j h)) (fun M_76 f_76 k_76 => ?_)
      have c15_76 : Int32.toInt (M_76 P 15) = Int32.toInt (M_57 P 15) := congrArg Int32.toInt ((congrFun (congrFun f_76.symm P) 15).trans (zu_ne (fun z => wq_pne0 (by decide) z.1)))
      have c17_76 : Int32.toInt (M_76 P 17) = Int32.toInt (M_57 P 17) := congrArg Int32.toInt ((congrFun (congrFun f_76.symm P) 17).trans (zu_ne (fun z => wq_pne0 (by decide) z.1)))
      have c18_76 : Int32.toInt (M_76 P 18) = Int32.toInt (M_57 P 18) := congrArg Int32.toInt ((congrFun (congrFun f_76.symm P) 18).trans (zu_ne (fun z => wq_pne0 (by decide) z.1)))
      have c20_76 : Int32.toInt (M_76 P 20) = Int32.toInt (M_57 P 20) := congrArg Int32.toInt ((congrFun (congrFun f_76.symm P) 20).trans (zu_ne (fun z => wq_pne0 (by decide) z.1)))
      have c28_76 : Int32.toInt (M_76 P 28) = Int32.toInt (M_57 P 28) := congrArg Int32.toInt ((congrFun (congrFun f_76.symm P) 28).trans (zu_ne (fun z => wq_pne0 (by decide) z.1)))
      have c29_76 : Int32.toInt (M_76 P 29) = Int32.toInt (M_57 P 29) := congrArg Int32.toInt ((congrFun (congrFun f_76.symm P) 29).trans (zu_ne (fun z => wq_pne0 (by decide) z.1)))
      have c30_76 : Int32.toInt (M_76 P 30) = Int32.toInt (M_57 P 30) := congrArg Int32.toInt ((congrFun (congrFun f_76.symm P) 30).trans (zu_ne (fun z => wq_pne0 (by decide) z.1)))
      have c31_76 : Int32.toInt (M_76 P 31) = Int32.toInt (M_57 P 31) := congrArg Int32.toInt ((congrFun (congrFun f_76.symm P) 31).trans (zu_ne (fun z => wq_pne0 (by decide) z.1)))
      have n_76 : nA P M_76 = nA P M_57 := nA_congr (fun a j h => (congrFun (congrFun f_76.symm a) j).trans (zu_ne (fun z => wf_nA_M2_r h z.1)))
      have p_jX_76 : jX P M_76 := jX.mono p_jX_57 (fun a j h => (congrFun (congrFun f_76.symm a) j).trans (zu_ne (fun z => wf_jX_M2_r h z.1)))
      obtain ⟨u0_jX_76, u1_jX_76, u2_jX_76, u3_jX_76⟩ := id p_jX_76
      have p_jY_76 : jY P M_76 := jY.mono p_jY_57 (fun a j h => (congrFun (congrFun f_76.symm a) j).trans (zu_ne (fun z => wf_jY_M2_r h z.1)))
      obtain ⟨u0_jY_76, u1_jY_76, u2_jY_76, u3_jY_76, u4_jY_76, u5_jY_76⟩ := id p_jY_76
      have p_jZ_76 : jZ P M_76 := jZ.put p_jZ_57 (by omega) f_76 (Or.inr (Or.inr (Or.inr (Or.inl ⟨by decide, (by first | omega | (simp only [Int32.toInt_add, Int32.toInt_sub, Int32.toInt_mul, Int32.toInt_toInt64, Int64.toInt_add, z_m1, Int32.reduceToInt, Int64.reduceToInt, Int32.reduceToNatClampNeg, Int.bmod_def, or_true, true_or, and_true, true_and] <;> omega)), (by first | omega | (simp only [Int32.toInt_add, Int32.toInt_sub, Int32.toInt_mul, Int32.toInt_toInt64, Int64.toInt_add, z_m1, Int32.reduceToInt, Int64.reduceToInt, Int32.reduceToNatClampNeg, Int.bmod_def, or_true, true_or, and_true, true_and] <;> omega))⟩))))
      refine vB (v_X8_next p_jX_76) (fun e_78 f_78 q_78 => ?_)
      have k_78 : ∀ a j, ¬ WM_X8_readOnce P a j → e_78.2.1 a j = M0 a j := fun a j h => (q_78.1 a j (wz_M_X8_next_X8_readOnce h)).trans (k_76 a j h)
      have kn_78 : ∀ a j, ¬ WN_X8_readOnce P a j → e_78.2.2 a j = N0 a j := fun a j h => (q_78.2.1 a j (wz_N_X8_next_X8_readOnce h)).trans (kn_57 a j h)
      have b_78 := q_78.2.2.1
      have c15_78 : Int32.toInt (e_78.2.1 P 15) = Int32.toInt (M_76 P 15) := congrArg Int32.toInt (q_78.1 P 15 (wc_X8_next_15))
      have c28_78 : Int32.toInt (e_78.2.1 P 28) = Int32.toInt (M_76 P 28) := congrArg Int32.toInt (q_78.1 P 28 (wc_X8_next_28))
      have c29_78 : Int32.toInt (e_78.2.1 P 29) = Int32.toInt (M_76 P 29) := congrArg Int32.toInt (q_78.1 P 29 (wc_X8_next_29))
      have c30_78 : Int32.toInt (e_78.2.1 P 30) = Int32.toInt (M_76 P 30) := congrArg Int32.toInt (q_78.1 P 30 (wc_X8_next_30))
      have c31_78 : Int32.toInt (e_78.2.1 P 31) = Int32.toInt (M_76 P 31) := congrArg Int32.toInt (q_78.1 P 31 (wc_X8_next_31))
      have n_78 : nA P e_78.2.1 = nA P M_76 := nA_congr (fun a j h => q_78.1 a j (wf_nA_X8_next h))
      have p_jY_78 : jY P e_78.2.1 := jY.mono p_jY_76 (fun a j h => q_78.1 a j (wf_jY_X8_next h))
      obtain ⟨u0_jY_78, u1_jY_78, u2_jY_78, u3_jY_78, u4_jY_78, u5_jY_78⟩ := id p_jY_78
      have p_jZ_78 : jZ P e_78.2.1 := jZ.mono p_jZ_76 (fun a j h => q_78.1 a j (wf_jZ_X8_next h))
      obtain ⟨x0_78, x1_78, x2_78, x3_78⟩ := q_78.2.2.2
      obtain ⟨u0_jX_78, u1_jX_78, u2_jX_78, u3_jX_78⟩ := id x0_78
      (try simp only [Int32.toInt_add, Int32.toInt_sub, Int32.toInt_mul, Int32.toInt_toInt64, Int64.toInt_add, z_m1, Int32.reduceToInt, Int64.reduceToInt, Int32.reduceToNatClampNeg, Int.bmod_def] at x1_78)
      (try simp only [Int32.toInt_add, Int32.toInt_sub, Int32.toInt_mul, Int32.toInt_toInt64, Int64.toInt_add, z_m1, Int32.reduceToInt, Int64.reduceToInt, Int32.reduceToNatClampNeg, Int.bmod_def] at x2_78)
      (try simp only [Int32.toInt_add, Int32.toInt_sub, Int32.toInt_mul, Int32.toInt_toInt64, Int64.toInt_add, z_m1, Int32.reduceToInt, Int64.reduceToInt, Int32.reduceToNatClampNeg, Int.bmod_def] at x3_78)
      exact ⟨_, rfl, k_78, kn_78, (by first | exact Or.inl rfl | exact Or.inr rfl | assumption), ⟨x0_78, p_jY_78, p_jZ_78, (by first | omega | (simp only [Int32.toInt_add, Int32.toInt_sub, Int32.toInt_mul, Int32.toInt_toInt64, Int64.toInt_add, z_m1, Int32.reduceToInt, Int64.reduceToInt, Int32.reduceToNatClampNeg, Int.bmod_def, or_true, true_or, and_true, true_and] <;> omega))⟩⟩
  unfold D_X8_readOnce
  refine vB (v_X8_has) (fun e_5 f_5 q_5 => ?_)
  have b_5 := q_5.1
  have x0_5 := q_5.2
  refine vIf (fun h_8 => ?_) (fun h_8 => ?_)
  · have i_8 := congrArg Int32.toInt h_8
    (try simp only [Int32.toInt_add, Int32.toInt_sub, Int32.toInt_mul, Int32.toInt_toInt64, Int64.toInt_add, z_m1, Int32.reduceToInt, Int64.reduceToInt, Int32.reduceToNatClampNeg, Int.bmod_def] at i_8)
    refine vLm (W := WM_X8_readOnce P) (fun a j h => (zu_ne (wq_X8_readOnce_M0_23 h))) (fun M_26 f_26 k_26 => ?_)
    have c15_26 : Int32.toInt (M_26 P 15) = Int32.toInt (M0 P 15) := congrArg Int32.toInt ((congrFun (congrFun f_26.symm P) 15).trans (zu_ne (fun z => absurd z.2 (by decide))))
    have c17_26 : Int32.toInt (M_26 P 17) = Int32.toInt (M0 P 17) := congrArg Int32.toInt ((congrFun (congrFun f_26.symm P) 17).trans (zu_ne (fun z => absurd z.2 (by decide))))
    have c18_26 : Int32.toInt (M_26 P 18) = Int32.toInt (M0 P 18) := congrArg Int32.toInt ((congrFun (congrFun f_26.symm P) 18).trans (zu_ne (fun z => absurd z.2 (by decide))))
    have c20_26 : Int32.toInt (M_26 P 20) = Int32.toInt (M0 P 20) := congrArg Int32.toInt ((congrFun (congrFun f_26.symm P) 20).trans (zu_ne (fun z => absurd z.2 (by decide))))
    have c28_26 : Int32.toInt (M_26 P 28) = Int32.toInt (M0 P 28) := congrArg Int32.toInt ((congrFun (congrFun f_26.symm P) 28).trans (zu_ne (fun z => absurd z.2 (by decide))))
    have c29_26 : Int32.toInt (M_26 P 29) = Int32.toInt (M0 P 29) := congrArg Int32.toInt ((congrFun (congrFun f_26.symm P) 29).trans (zu_ne (fun z => absurd z.2 (by decide))))
    have c30_26 : Int32.toInt (M_26 P 30) = Int32.toInt (M0 P 30) := congrArg Int32.toInt ((congrFun (congrFun f_26.symm P) 30).trans (zu_ne (fun z => absurd z.2 (by decide))))
    have c31_26 : Int32.toInt (M_26 P 31) = Int32.toInt (M0 P 31) := congrArg Int32.toInt ((congrFun (congrFun f_26.symm P) 31).trans (zu_ne (fun z => absurd z.2 (by decide))))
    have n_26 : nA P M_26 = nA P M0 := nA_congr (fun a j h => (congrFun (congrFun f_26.symm a) j).trans (zu_ne (wf_nA_M0_23 h)))
    have p_jX_26 : jX P M_26 := jX.mono p_jX (fun a j h => (congrFun (congrFun f_26.symm a) j).trans (zu_ne (wf_jX_M0_23 h)))
    obtain ⟨u0_jX_26, u1_jX_26, u2_jX_26, u3_jX_26⟩ := id p_jX_26
    have p_jY_26 : jY P M_26 := jY.mono p_jY (fun a j h => (congrFun (congrFun f_26.symm a) j).trans (zu_ne (wf_jY_M0_23 h)))
    obtain ⟨u0_jY_26, u1_jY_26, u2_jY_26, u3_jY_26, u4_jY_26, u5_jY_26⟩ := id p_jY_26
    have p_jZ_26 : jZ P M_26 := jZ.mono p_jZ (fun a j h => (congrFun (congrFun f_26.symm a) j).trans (zu_ne (wf_jZ_M0_23 h)))
    refine vB (v_X8_next p_jX_26) (fun e_30 f_30 q_30 => ?_)
    have k_30 : ∀ a j, ¬ WM_X8_readOnce P a j → e_30.2.1 a j = M0 a j := fun a j h => (q_30.1 a j (wz_M_X8_next_X8_readOnce h)).trans (k_26 a j h)
    have kn_30 : ∀ a j, ¬ WN_X8_readOnce P a j → e_30.2.2 a j = N0 a j := fun a j h => (q_30.2.1 a j (wz_N_X8_next_X8_readOnce h))
    have b_30 := q_30.2.2.1
    have c15_30 : Int32.toInt (e_30.2.1 P 15) = Int32.toInt (M_26 P 15) := congrArg Int32.toInt (q_30.1 P 15 (wc_X8_next_15))
    have c28_30 : Int32.toInt (e_30.2.1 P 28) = Int32.toInt (M_26 P 28) := congrArg Int32.toInt (q_30.1 P 28 (wc_X8_next_28))
    have c29_30 : Int32.toInt (e_30.2.1 P 29) = Int32.toInt (M_26 P 29) := congrArg Int32.toInt (q_30.1 P 29 (wc_X8_next_29))
    have c30_30 : Int32.toInt (e_30.2.1 P 30) = Int32.toInt (M_26 P 30) := congrArg Int32.toInt (q_30.1 P 30 (wc_X8_next_30))
    have c31_30 : Int32.toInt (e_30.2.1 P 31) = Int32.toInt (M_26 P 31) := congrArg Int32.toInt (q_30.1 P 31 (wc_X8_next_31))
    have n_30 : nA P e_30.2.1 = nA P M_26 := nA_congr (fun a j h => q_30.1 a j (wf_nA_X8_next h))
    have p_jY_30 : jY P e_30.2.1 := jY.mono p_jY_26 (fun a j h => q_30.1 a j (wf_jY_X8_next h))
    obtain ⟨u0_jY_30, u1_jY_30, u2_jY_30, u3_jY_30, u4_jY_30, u5_jY_30⟩ := id p_jY_30
    have p_jZ_30 : jZ P e_30.2.1 := jZ.mono p_jZ_26 (fun a j h => q_30.1 a j (wf_jZ_X8_next h))
    obtain ⟨x0_30, x1_30, x2_30, x3_30⟩ := q_30.2.2.2
    obtain ⟨u0_jX_30, u1_jX_30, u2_jX_30, u3_jX_30⟩ := id x0_30
    (try simp only [Int32.toInt_add, Int32.toInt_sub, Int32.toInt_mul, Int32.toInt_toInt64, Int64.toInt_add, z_m1, Int32.reduceToInt, Int64.reduceToInt, Int32.reduceToNatClampNeg, Int.bmod_def] at x1_30)
    (try simp only [Int32.toInt_add, Int32.toInt_sub, Int32.toInt_mul, Int32.toInt_toInt64, Int64.toInt_add, z_m1, Int32.reduceToInt, Int64.reduceToInt, Int32.reduceToNatClampNeg, Int.bmod_def] at x2_30)
    (try simp only [Int32.toInt_add, Int32.toInt_sub, Int32.toInt_mul, Int32.toInt_toInt64, Int64.toInt_add, z_m1, Int32.reduceToInt, Int64.reduceToInt, Int32.reduceToNatClampNeg, Int.bmod_def] at x3_30)
    refine vIf (fun h_36 => ?_) (fun h_36 => ?_)
    · have i_36 := congrArg Int32.toInt h_36
      (try simp only [Int32.toInt_add, Int32.toInt_sub, Int32.toInt_mul, Int32.toInt_toInt64, Int64.toInt_add, z_m1, Int32.reduceToInt, Int64.reduceToInt, Int32.reduceToNatClampNeg, Int.bmod_def] at i_36)
      refine vIf (fun h_44 => ?_) (fun h_44 => ?_)
      · have i_44 := congrArg Int32.toInt h_44
        (try simp only [Int32.toInt_add, Int32.toInt_sub, Int32.toInt_mul, Int32.toInt_toInt64, Int64.toInt_add, z_m1, Int32.reduceToInt, Int64.reduceToInt, Int32.reduceToNatClampNeg, Int.bmod_def] at i_44)
        refine vB (v_X8_among (by first | assumption | decide)) (fun e_50 f_50 q_50 => ?_)
        have z_50 : -1 ≤ Int32.toInt e_50 ∧ Int32.toInt e_50 ≤ 2 := by obtain ⟨r9, e9, h9⟩ := @w_X8_among P e_30.2.2; rw [f_50] at e9; cases e9; exact h9
        exact T_57 _ _ _ k_30 kn_30 x0_30 p_jY_30 p_jZ_30 (by first | omega | (simp only [Int32.toInt_add, Int32.toInt_sub, Int32.toInt_mul, Int32.toInt_toInt64, Int64.toInt_add, z_m1, Int32.reduceToInt, Int64.reduceToInt, Int32.reduceToNatClampNeg, Int.bmod_def, or_true, true_or, and_true, true_and] <;> omega)) (by first | omega | (simp only [Int32.toInt_add, Int32.toInt_sub, Int32.toInt_mul, Int32.toInt_toInt64, Int64.toInt_add, z_m1, Int32.reduceToInt, Int64.reduceToInt, Int32.reduceToNatClampNeg, Int.bmod_def, or_true, true_or, and_true, true_and] <;> omega))
      · have i_44 : ¬ Int32.toInt (e_30.2.1 P 18) = Int32.toInt (2 : Int32) := fun q => h_44 (Int32.toInt_inj.mp q)
        (try simp only [Int32.toInt_add, Int32.toInt_sub, Int32.toInt_mul, Int32.toInt_toInt64, Int64.toInt_add, z_m1, Int32.reduceToInt, Int64.reduceToInt, Int32.reduceToNatClampNeg, Int.bmod_def] at i_44)
        exact T_57 _ _ _ k_30 kn_30 x0_30 p_jY_30 p_jZ_30 (by first | omega | (simp only [Int32.toInt_add, Int32.toInt_sub, Int32.toInt_mul, Int32.toInt_toInt64, Int64.toInt_add, z_m1, Int32.reduceToInt, Int64.reduceToInt, Int32.reduceToNatClampNeg, Int.bmod_def, or_true, true_or, and_true, true_and] <;> omega)) (by first | omega | (simp only [Int32.toInt_add, Int32.toInt_sub, Int32.toInt_mul, Int32.toInt_toInt64, Int64.toInt_add, z_m1, Int32.reduceToInt, Int64.reduceToInt, Int32.reduceToNatClampNeg, Int.bmod_def, or_true, true_or, and_true, true_and] <;> omega))
    · have i_36 : ¬ Int32.toInt v0 = Int32.toInt (5 : Int32) := fun q => h_36 (Int32.toInt_inj.mp q)
      (try simp only [Int32.toInt_add, Int32.toInt_sub, Int32.toInt_mul, Int32.toInt_toInt64, Int64.toInt_add, z_m1, Int32.reduceToInt, Int64.reduceToInt, Int32.reduceToNatClampNeg, Int.bmod_def] at i_36)
      refine vB (v_X8_number x0_30 p_jY_30 (by first | omega | (simp only [Int32.toInt_add, Int32.toInt_sub, Int32.toInt_mul, Int32.toInt_toInt64, Int64.toInt_add, z_m1, Int32.reduceToInt, Int64.reduceToInt, Int32.reduceToNatClampNeg, Int.bmod_def, or_true, true_or, and_true, true_and] <;> omega))) (fun e_86 f_86 q_86 => ?_)
      have k_86 : ∀ a j, ¬ WM_X8_readOnce P a j → e_86.2.1 a j = M0 a j := fun a j h => (q_86.1 a j (wz_M_X8_number_X8_readOnce h)).trans (k_30 a j h)
      have kn_86 : ∀ a j, ¬ WN_X8_readOnce P a j → e_86.2.2 a j = N0 a j := fun a j h => (q_86.2.1 a j (wz_N_X8_number_X8_readOnce h)).trans (kn_30 a j h)
      have b_86 := q_86.2.2.1
      have c15_86 : Int32.toInt (e_86.2.1 P 15) = Int32.toInt (e_30.2.1 P 15) := congrArg Int32.toInt (q_86.1 P 15 (wc_X8_number_15))
      have c28_86 : Int32.toInt (e_86.2.1 P 28) = Int32.toInt (e_30.2.1 P 28) := congrArg Int32.toInt (q_86.1 P 28 (wc_X8_number_28))
      have c29_86 : Int32.toInt (e_86.2.1 P 29) = Int32.toInt (e_30.2.1 P 29) := congrArg Int32.toInt (q_86.1 P 29 (wc_X8_number_29))
      have c30_86 : Int32.toInt (e_86.2.1 P 30) = Int32.toInt (e_30.2.1 P 30) := congrArg Int32.toInt (q_86.1 P 30 (wc_X8_number_30))
      have n_86 : nA P e_86.2.1 = nA P e_30.2.1 := nA_congr (fun a j h => q_86.1 a j (wf_nA_X8_number h))
      have p_jY_86 : jY P e_86.2.1 := jY.mono p_jY_30 (fun a j h => q_86.1 a j (wf_jY_X8_number h))
      obtain ⟨u0_jY_86, u1_jY_86, u2_jY_86, u3_jY_86, u4_jY_86, u5_jY_86⟩ := id p_jY_86
      have p_jZ_86 : jZ P e_86.2.1 := jZ.mono p_jZ_30 (fun a j h => q_86.1 a j (wf_jZ_X8_number h))
      obtain ⟨x0_86, x1_86, x2_86⟩ := q_86.2.2.2
      obtain ⟨u0_jX_86, u1_jX_86, u2_jX_86, u3_jX_86⟩ := id x0_86
      (try simp only [Int32.toInt_add, Int32.toInt_sub, Int32.toInt_mul, Int32.toInt_toInt64, Int64.toInt_add, z_m1, Int32.reduceToInt, Int64.reduceToInt, Int32.reduceToNatClampNeg, Int.bmod_def] at x1_86)
      (try simp only [Int32.toInt_add, Int32.toInt_sub, Int32.toInt_mul, Int32.toInt_toInt64, Int64.toInt_add, z_m1, Int32.reduceToInt, Int64.reduceToInt, Int32.reduceToNatClampNeg, Int.bmod_def] at x2_86)
      refine vIf (fun h_89 => ?_) (fun h_89 => ?_)
      · have i_89 := congrArg Int32.toInt h_89
        (try simp only [Int32.toInt_add, Int32.toInt_sub, Int32.toInt_mul, Int32.toInt_toInt64, Int64.toInt_add, z_m1, Int32.reduceToInt, Int64.reduceToInt, Int32.reduceToNatClampNeg, Int.bmod_def] at i_89)
        exact ⟨_, rfl, k_86, kn_86, (by first | exact Or.inl rfl | exact Or.inr rfl | assumption), ⟨x0_86, p_jY_86, p_jZ_86, (by first | omega | (simp only [Int32.toInt_add, Int32.toInt_sub, Int32.toInt_mul, Int32.toInt_toInt64, Int64.toInt_add, z_m1, Int32.reduceToInt, Int64.reduceToInt, Int32.reduceToNatClampNeg, Int.bmod_def, or_true, true_or, and_true, true_and] <;> omega))⟩⟩
      · have i_89 : ¬ Int32.toInt e_86.1 = Int32.toInt (0 : Int32) := fun q => h_89 (Int32.toInt_inj.mp q)
        (try simp only [Int32.toInt_add, Int32.toInt_sub, Int32.toInt_mul, Int32.toInt_toInt64, Int64.toInt_add, z_m1, Int32.reduceToInt, Int64.reduceToInt, Int32.reduceToNatClampNeg, Int.bmod_def] at i_89)
        refine vIf (fun h_101 => ?_) (fun h_101 => ?_)
        · have i_101 := congrArg Int32.toInt h_101
          (try simp only [Int32.toInt_add, Int32.toInt_sub, Int32.toInt_mul, Int32.toInt_toInt64, Int64.toInt_add, z_m1, Int32.reduceToInt, Int64.reduceToInt, Int32.reduceToNatClampNeg, Int.bmod_def] at i_101)
          exact T_111 _ _ _ k_86 kn_86 x0_86 p_jY_86 p_jZ_86 (by first | omega | (simp only [Int32.toInt_add, Int32.toInt_sub, Int32.toInt_mul, Int32.toInt_toInt64, Int64.toInt_add, z_m1, Int32.reduceToInt, Int64.reduceToInt, Int32.reduceToNatClampNeg, Int.bmod_def, or_true, true_or, and_true, true_and] <;> omega)) (by first | omega | (simp only [Int32.toInt_add, Int32.toInt_sub, Int32.toInt_mul, Int32.toInt_toInt64, Int64.toInt_add, z_m1, Int32.reduceToInt, Int64.reduceToInt, Int32.reduceToNatClampNeg, Int.bmod_def, or_true, true_or, and_true, true_and] <;> omega)) (by first | omega | (simp only [Int32.toInt_add, Int32.toInt_sub, Int32.toInt_mul, Int32.toInt_toInt64, Int64.toInt_add, z_m1, Int32.reduceToInt, Int64.reduceToInt, Int32.reduceToNatClampNeg, Int.bmod_def, or_true, true_or, and_true, true_and] <;> omega))
        · have i_101 : ¬ Int32.toInt v0 = Int32.toInt (6 : Int32) := fun q => h_101 (Int32.toInt_inj.mp q)
          (try simp only [Int32.toInt_add, Int32.toInt_sub, Int32.toInt_mul, Int32.toInt_toInt64, Int64.toInt_add, z_m1, Int32.reduceToInt, Int64.reduceToInt, Int32.reduceToNatClampNeg, Int.bmod_def] at i_101)
          exact T_111 _ _ _ k_86 kn_86 x0_86 p_jY_86 p_jZ_86 (by first | omega | (simp only [Int32.toInt_add, Int32.toInt_sub, Int32.toInt_mul, Int32.toInt_toInt64, Int64.toInt_add, z_m1, Int32.reduceToInt, Int64.reduceToInt, Int32.reduceToNatClampNeg, Int.bmod_def, or_true, true_or, and_true, true_and] <;> omega)) (by first | omega | (simp only [Int32.toInt_add, Int32.toInt_sub, Int32.toInt_mul, Int32.toInt_toInt64, Int64.toInt_add, z_m1, Int32.reduceToInt, Int64.reduceToInt, Int32.reduceToNatClampNeg, Int.bmod_def, or_true, true_or, and_true, true_and] <;> omega)) (by first | omega | (simp only [Int32.toInt_add, Int32.toInt_sub, Int32.toInt_mul, Int32.toInt_toInt64, Int64.toInt_add, z_m1, Int32.reduceToInt, Int64.reduceToInt, Int32.reduceToNatClampNeg, Int.bmod_def, or_true, true_or, and_true, true_and] <;> omega))
  · have i_8 : ¬ Int32.toInt e_5 = Int32.toInt (0 : Int32) := fun q => h_8 (Int32.toInt_inj.mp q)
    (try simp only [Int32.toInt_add, Int32.toInt_sub, Int32.toInt_mul, Int32.toInt_toInt64, Int64.toInt_add, z_m1, Int32.reduceToInt, Int64.reduceToInt, Int32.reduceToNatClampNeg, Int.bmod_def] at i_8)
    refine vB (v_X8_bad) (fun e_13 f_13 q_13 => ?_)
    have k_13 : ∀ a j, ¬ WM_X8_readOnce P a j → e_13.2 a j = M0 a j := fun a j h => (q_13.1 a j (wz_M_X8_bad_X8_readOnce h))
    have b_13 := q_13.2.1
    have c15_13 : Int32.toInt (e_13.2 P 15) = Int32.toInt (M0 P 15) := congrArg Int32.toInt (q_13.1 P 15 (wc_X8_bad_15))
    have c17_13 : Int32.toInt (e_13.2 P 17) = Int32.toInt (M0 P 17) := congrArg Int32.toInt (q_13.1 P 17 (wc_X8_bad_17))
    have c18_13 : Int32.toInt (e_13.2 P 18) = Int32.toInt (M0 P 18) := congrArg Int32.toInt (q_13.1 P 18 (wc_X8_bad_18))
    have c20_13 : Int32.toInt (e_13.2 P 20) = Int32.toInt (M0 P 20) := congrArg Int32.toInt (q_13.1 P 20 (wc_X8_bad_20))
    have c28_13 : Int32.toInt (e_13.2 P 28) = Int32.toInt (M0 P 28) := congrArg Int32.toInt (q_13.1 P 28 (wc_X8_bad_28))
    have c29_13 : Int32.toInt (e_13.2 P 29) = Int32.toInt (M0 P 29) := congrArg Int32.toInt (q_13.1 P 29 (wc_X8_bad_29))
    have c30_13 : Int32.toInt (e_13.2 P 30) = Int32.toInt (M0 P 30) := congrArg Int32.toInt (q_13.1 P 30 (wc_X8_bad_30))
    have c31_13 : Int32.toInt (e_13.2 P 31) = Int32.toInt (M0 P 31) := congrArg Int32.toInt (q_13.1 P 31 (wc_X8_bad_31))
    have n_13 : nA P e_13.2 = nA P M0 := nA_congr (fun a j h => q_13.1 a j (wf_nA_X8_bad h))
    have p_jX_13 : jX P e_13.2 := jX.mono p_jX (fun a j h => q_13.1 a j (wf_jX_X8_bad h))
    obtain ⟨u0_jX_13, u1_jX_13, u2_jX_13, u3_jX_13⟩ := id p_jX_13
    have p_jY_13 : jY P e_13.2 := jY.mono p_jY (fun a j h => q_13.1 a j (wf_jY_X8_bad h))
    obtain ⟨u0_jY_13, u1_jY_13, u2_jY_13, u3_jY_13, u4_jY_13, u5_jY_13⟩ := id p_jY_13
    have p_jZ_13 : jZ P e_13.2 := jZ.mono p_jZ (fun a j h => q_13.1 a j (wf_jZ_X8_bad h))
    have x0_13 := q_13.2.2
    (try simp only [Int32.toInt_add, Int32.toInt_sub, Int32.toInt_mul, Int32.toInt_toInt64, Int64.toInt_add, z_m1, Int32.reduceToInt, Int64.reduceToInt, Int32.reduceToNatClampNeg, Int.bmod_def] at x0_13)
    exact ⟨_, rfl, k_13, (fun _ _ _ => rfl), (by first | exact Or.inl rfl | exact Or.inr rfl | assumption), ⟨p_jX_13, p_jY_13, p_jZ_13, (by first | omega | (simp only [Int32.toInt_add, Int32.toInt_sub, Int32.toInt_mul, Int32.toInt_toInt64, Int64.toInt_add, z_m1, Int32.reduceToInt, Int64.reduceToInt, Int32.reduceToNatClampNeg, Int.bmod_def, or_true, true_or, and_true, true_and] <;> omega))⟩⟩
