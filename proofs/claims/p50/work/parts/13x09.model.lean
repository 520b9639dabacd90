def WM_X8_readUnit (P : Nat) (a j : Nat) : Prop := (P + 2 ≤ a ∧ a < P + 3) ∨ (a = P ∧ (j = 16 ∨ j = 17 ∨ j = 18 ∨ j = 19 ∨ j = 20 ∨ j = 21 ∨ j = 22 ∨ j = 28 ∨ j = 31))
def WN_X8_readUnit (P : Nat) (a j : Nat) : Prop := (P + 8 ≤ a ∧ a < P + 9) ∨ (a = P ∧ (j = 24 ∨ j = 32))
theorem wz_M_X8_bad_X8_readUnit {P a j : Nat} (h : ¬ WM_X8_readUnit P a j) : ¬ WM_X8_bad P a j := by unfold WM_X8_bad; unfold WM_X8_readUnit at h; omega
theorem wf_jZ_X8_bad {P a j : Nat} (h : (a = P + 2 ∨ (a = P ∧ (j = 28 ∨ j = 29 ∨ j = 30)))) : ¬ WM_X8_bad P a j := by unfold WM_X8_bad; omega
theorem wz_M_X8_next_X8_readUnit {P a j : Nat} (h : ¬ WM_X8_readUnit P a j) : ¬ WM_X8_next P a j := by unfold WM_X8_next; unfold WM_X8_readUnit at h; omega
theorem wz_N_X8_next_X8_readUnit {P a j : Nat} (h : ¬ WN_X8_readUnit P a j) : ¬ WN_X8_next P a j := by unfold WN_X8_next; unfold WN_X8_readUnit at h; omega
theorem wf_jZ_X8_next {P a j : Nat} (h : (a = P + 2 ∨ (a = P ∧ (j = 28 ∨ j = 29 ∨ j = 30)))) : ¬ WM_X8_next P a j := by unfold WM_X8_next; omega
theorem wz_M_X8_newName_X8_readUnit {P a j : Nat} (h : ¬ WM_X8_readUnit P a j) : ¬ WM_X8_newName P a j := by unfold WM_X8_newName; unfold WM_X8_readUnit at h; omega
theorem wz_N_X8_newName_X8_readUnit {P a j : Nat} (h : ¬ WN_X8_readUnit P a j) : ¬ WN_X8_newName P a j := by unfold WN_X8_newName; unfold WN_X8_readUnit at h; omega
theorem wc_X8_newName_15 {P : Nat} : ¬ WM_X8_newName P P 15 := by unfold WM_X8_newName; omega
theorem wc_X8_newName_28 {P : Nat} : ¬ WM_X8_newName P P 28 := by unfold WM_X8_newName; omega
theorem wc_X8_newName_29 {P : Nat} : ¬ WM_X8_newName P P 29 := by unfold WM_X8_newName; omega
theorem wc_X8_newName_30 {P : Nat} : ¬ WM_X8_newName P P 30 := by unfold WM_X8_newName; omega
theorem wc_X8_newName_31 {P : Nat} : ¬ WM_X8_newName P P 31 := by unfold WM_X8_newName; omega
theorem wf_nA_X8_newName {P a j : Nat} (h : (a = P + 1 ∨ (a = P ∧ j = 8))) : ¬ WM_X8_newName P a j := by unfold WM_X8_newName; omega
theorem wf_jY_X8_newName {P a j : Nat} (h : (a = P ∧ (j = 28 ∨ j = 29 ∨ j = 30))) : ¬ WM_X8_newName P a j := by unfold WM_X8_newName; omega
theorem wf_jZ_X8_newName {P a j : Nat} (h : (a = P + 2 ∨ (a = P ∧ (j = 28 ∨ j = 29 ∨ j = 30)))) : ¬ WM_X8_newName P a j := by unfold WM_X8_newName; omega
theorem wz_M_X8_number_X8_readUnit {P a j : Nat} (h : ¬ WM_X8_readUnit P a j) : ¬ WM_X8_number P a j := by unfold WM_X8_number; unfold WM_X8_readUnit at h; omega
theorem wz_N_X8_number_X8_readUnit {P a j : Nat} (h : ¬ WN_X8_readUnit P a j) : ¬ WN_X8_number P a j := by unfold WN_X8_number; unfold WN_X8_readUnit at h; omega
theorem wc_X8_number_15 {P : Nat} : ¬ WM_X8_number P P 15 := by unfold WM_X8_number; omega
theorem wc_X8_number_28 {P : Nat} : ¬ WM_X8_number P P 28 := by unfold WM_X8_number; omega
theorem wc_X8_number_29 {P : Nat} : ¬ WM_X8_number P P 29 := by unfold WM_X8_number; omega
theorem wc_X8_number_30 {P : Nat} : ¬ WM_X8_number P P 30 := by unfold WM_X8_number; omega
theorem wf_nA_X8_number {P a j : Nat} (h : (a = P + 1 ∨ (a = P ∧ j = 8))) : ¬ WM_X8_number P a j := by unfold WM_X8_number; omega
theorem wf_jY_X8_number {P a j : Nat} (h : (a = P ∧ (j = 28 ∨ j = 29 ∨ j = 30))) : ¬ WM_X8_number P a j := by unfold WM_X8_number; omega
theorem wf_jZ_X8_number {P a j : Nat} (h : (a = P + 2 ∨ (a = P ∧ (j = 28 ∨ j = 29 ∨ j = 30)))) : ¬ WM_X8_number P a j := by unfold WM_X8_number; omega
theorem wq_X8_readUnit_N8_r {P a j : Nat} (h : ¬ WN_X8_readUnit P a j) : ¬ a = P + 8 := by unfold WN_X8_readUnit at h; omega
theorem wq_X8_readUnit_M2_r {P a j : Nat} (h : ¬ WM_X8_readUnit P a j) : ¬ a = P + 2 := by unfold WM_X8_readUnit at h; omega
theorem wf_nA_M2_r {P a j : Nat} (h : (a = P + 1 ∨ (a = P ∧ j = 8))) : ¬ a = P + 2 := by omega
theorem wf_jY_M2_r {P a j : Nat} (h : (a = P ∧ (j = 28 ∨ j = 29 ∨ j = 30))) : ¬ a = P + 2 := by omega
theorem wf_jX_M2_r {P a j : Nat} (h : (a = P ∧ (j = 15 ∨ j = 17))) : ¬ a = P + 2 := by omega
theorem wq_X8_readUnit_M0_28 {P a j : Nat} (h : ¬ WM_X8_readUnit P a j) : ¬ (a = P ∧ j = 28) := by unfold WM_X8_readUnit at h; omega
theorem wf_nA_M0_28 {P a j : Nat} (h : (a = P + 1 ∨ (a = P ∧ j = 8))) : ¬ (a = P ∧ j = 28) := by omega
theorem wf_jX_M0_28 {P a j : Nat} (h : (a = P ∧ (j = 15 ∨ j = 17))) : ¬ (a = P ∧ j = 28) := by omega
set_option maxRecDepth 100000 in
set_option maxHeartbeats 4000000 in
theorem v_X8_readUnit {P : Nat}  {M0 : zMt} {N0 : zNt}  (p_jX : jX P M0) (p_jY : jY P M0) (p_jZ : jZ P M0) : ∃ r, D_X8_readUnit P M0 N0 = some r ∧ ((∀ a j, ¬ WM_X8_readUnit P a j → r.2.1 a j = M0 a j) ∧ (∀ a j, ¬ WN_X8_readUnit P a j → r.2.2 a j = N0 a j) ∧ (r.1 = 0 ∨ r.1 = 1) ∧ ((jX P r.2.1) ∧ (jY P r.2.1) ∧ (jZ P r.2.1) ∧ (Int32.toInt (M0 P 17) ≤ Int32.toInt (r.2.1 P 17)))) := by
  obtain ⟨u0_jX, u1_jX, u2_jX, u3_jX⟩ := id p_jX
  obtain ⟨u0_jY, u1_jY, u2_jY, u3_jY, u4_jY, u5_jY⟩ := id p_jY
  have T_38 : ∀ (M_38 : zMt) (N_38 : zNt), (∀ a j, ¬ WM_X8_readUnit P a j → M_38 a j = M0 a j) → (∀ a j, ¬ WN_X8_readUnit P a j → N_38 a j = N0 a j) → (jX P M_38) → (jY P M_38) → (jZ P M_38) → (Int32.toInt (M0 P 17) ≤ Int32.toInt (M_38 P 17)) → ∃ r, D_X8_readUnit_38 P M_38 N_38 = some r ∧ ((∀ a j, ¬ WM_X8_readUnit P a j → r.2.1 a j = M0 a j) ∧ (∀ a j, ¬ WN_X8_readUnit P a j → r.2.2 a j = N0 a j) ∧ (r.1 = 0 ∨ r.1 = 1) ∧ ((jX P r.2.1) ∧ (jY P r.2.1) ∧ (jZ P r.2.1) ∧ (Int32.toInt (M0 P 17) ≤ Int32.toInt (r.2.1 P 17)))) := by
    intro M_38 N_38 k_38 kn_38 p_jX_38 p_jY_38 p_jZ_38 f0_38
    obtain ⟨u0_jX_38, u1_jX_38, u2_jX_38, u3_jX_38⟩ := id p_jX_38
    obtain ⟨u0_jY_38, u1_jY_38, u2_jY_38, u3_jY_38, u4_jY_38, u5_jY_38⟩ := id p_jY_38
    unfold D_X8_readUnit_38
    exact ⟨_, rfl, k_38, kn_38, (by first | exact Or.inl rfl | exact Or.inr rfl | assumption), ⟨p_jX_38, p_jY_38, p_jZ_38, (by first | omega | (simp only [Int32.toInt_add, Int32.toInt_sub, Int32.toInt_mul, Int32.toInt_toInt64, Int64.toInt_add, z_m1, Int32.reduceToInt, Int64.reduceToInt, Int32.reduceToNatClampNeg, Int.bmod_def, or_true, true_or, and_true, true_and] <;> omega))⟩⟩
  unfold D_X8_readUnit
  refine vIf (fun h_5 => ?_) (fun h_5 => ?_)
  · have i_5 := congrArg Int32.toInt h_5
    (try simp only [Int32.toInt_add, Int32.toInt_sub, Int32.toInt_mul, Int32.toInt_toInt64, Int64.toInt_add, z_m1, Int32.reduceToInt, Int64.reduceToInt, Int32.reduceToNatClampNeg, Int.bmod_def] at i_5)
    refine vB (v_X8_bad) (fun e_10 f_10 q_10 => ?_)
    have k_10 : ∀ a j, ¬ WM_X8_readUnit P a j → e_10.2 a j = M0 a j := fun a j h => (q_10.1 a j (wz_M_X8_bad_X8_readUnit h))
    have b_10 := q_10.2.1
    have c15_10 : Int32.toInt (e_10.2 P 15) = Int32.toInt (M0 P 15) := congrArg Int32.toInt (q_10.1 P 15 (wc_X8_bad_15))
    have c17_10 : Int32.toInt (e_10.2 P 17) = Int32.toInt (M0 P 17) := congrArg Int32.toInt (q_10.1 P 17 (wc_X8_bad_17))
    have c18_10 : Int32.toInt (e_10.2 P 18) = Int32.toInt (M0 P 18) := congrArg Int32.toInt (q_10.1 P 18 (wc_X8_bad_18))
    have c20_10 : Int32.toInt (e_10.2 P 20) = Int32.toInt (M0 P 20) := congrArg Int32.toInt (q_10.1 P 20 (wc_X8_bad_20))
    have c28_10 : Int32.toInt (e_10.2 P 28) = Int32.toInt (M0 P 28) := congrArg Int32.toInt (q_10.1 P 28 (wc_X8_bad_28))
    have c29_10 : Int32.toInt (e_10.2 P 29) = Int32.toInt (M0 P 29) := congrArg Int32.toInt (q_10.1 P 29 (wc_X8_bad_29))
    have c30_10 : Int32.toInt (e_10.2 P 30) = Int32.toInt (M0 P 30) := congrArg Int32.toInt (q_10.1 P 30 (wc_X8_bad_30))
    have c31_10 : Int32.toInt (e_10.2 P 31) = Int32.toInt (M0 P 31) := congrArg Int32.toInt (q_10.1 P 31 (wc_X8_bad_31))
    have n_10 : nA P e_10.2 = nA P M0 := nA_congr (fun a j h => q_10.1 a j (wf_nA_X8_bad h))
    have p_jX_10 : jX P e_10.2 := jX.mono p_jX (fun a j h => q_10.1 a j (wf_jX_X8_bad h))
    obtain ⟨u0_jX_10, u1_jX_10, u2_jX_10, u3_jX_10⟩ := id p_jX_10
    have p_jY_10 : jY P e_10.2 := jY.mono p_jY (fun a j h => q_10.1 a j (wf_jY_X8_bad h))
    obtain ⟨u0_jY_10, u1_jY_10, u2_jY_10, u3_jY_10, u4_jY_10, u5_jY_10⟩ := id p_jY_10
    have p_jZ_10 : jZ P e_10.2 := jZ.mono p_jZ (fun a j h => q_10.1 a j (wf_jZ_X8_bad h))
    have x0_10 := q_10.2.2
    (try simp only [Int32.toInt_add, Int32.toInt_sub, Int32.toInt_mul, Int32.toInt_toInt64, Int64.toInt_add, z_m1, Int32.reduceToInt, Int64.reduceToInt, Int32.reduceToNatClampNeg, Int.bmod_def] at x0_10)
    exact ⟨_, rfl, k_10, (fun _ _ _ => rfl), (by first | exact Or.inl rfl | exact Or.inr rfl | assumption), ⟨p_jX_10, p_jY_10, p_jZ_10, (by first | omega | (simp only [Int32.toInt_add, Int32.toInt_sub, Int32.toInt_mul, Int32.toInt_toInt64, Int64.toInt_add, z_m1, Int32.reduceToInt, Int64.reduceToInt, Int32.reduceToNatClampNeg, Int.bmod_def, or_true, true_or, and_true, true_and] <;> omega))⟩⟩
  · have i_5 : ¬ Int32.toInt (M0 P 28) = Int32.toInt (5 : Int32) := fun q => h_5 (Int32.toInt_inj.mp q)
    (try simp only [Int32.toInt_add, Int32.toInt_sub, Int32.toInt_mul, Int32.toInt_toInt64, Int64.toInt_add, z_m1, Int32.reduceToInt, Int64.reduceToInt, Int32.reduceToNatClampNeg, Int.bmod_def] at i_5)
    refine vB (v_X8_next p_jX) (fun e_15 f_15 q_15 => ?_)
    have k_15 : ∀ a j, ¬ WM_X8_readUnit P a j → e_15.2.1 a j = M0 a j := fun a j h => (q_15.1 a j (wz_M_X8_next_X8_readUnit h))
    have kn_15 : ∀ a j, ¬ WN_X8_readUnit P a j → e_15.2.2 a j = N0 a j := fun a j h => (q_15.2.1 a j (wz_N_X8_next_X8_readUnit h))
    have b_15 := q_15.2.2.1
    have c15_15 : Int32.toInt (e_15.2.1 P 15) = Int32.toInt (M0 P 15) := congrArg Int32.toInt (q_15.1 P 15 (wc_X8_next_15))
    have c28_15 : Int32.toInt (e_15.2.1 P 28) = Int32.toInt (M0 P 28) := congrArg Int32.toInt (q_15.1 P 28 (wc_X8_next_28))
    have c29_15 : Int32.toInt (e_15.2.1 P 29) = Int32.toInt (M0 P 29) := congrArg Int32.toInt (q_15.1 P 29 (wc_X8_next_29))
    have c30_15 : Int32.toInt (e_15.2.1 P 30) = Int32.toInt (M0 P 30) := congrArg Int32.toInt (q_15.1 P 30 (wc_X8_next_30))
    have c31_15 : Int32.toInt (e_15.2.1 P 31) = Int32.toInt (M0 P 31) := congrArg Int32.toInt (q_15.1 P 31 (wc_X8_next_31))
    have n_15 : nA P e_15.2.1 = nA P M0 := nA_congr (fun a j h => q_15.1 a j (wf_nA_X8_next h))
    have p_jY_15 : jY P e_15.2.1 := jY.mono p_jY (fun a j h => q_15.1 a j (wf_jY_X8_next h))
    obtain ⟨u0_jY_15, u1_jY_15, u2_jY_15, u3_jY_15, u4_jY_15, u5_jY_15⟩ := id p_jY_15
    have p_jZ_15 : jZ P e_15.2.1 := jZ.mono p_jZ (fun a j h => q_15.1 a j (wf_jZ_X8_next h))
    obtain ⟨x0_15, x1_15, x2_15, x3_15⟩ := q_15.2.2.2
    obtain ⟨u0_jX_15, u1_jX_15, u2_jX_15, u3_jX_15⟩ := id x0_15
    (try simp only [Int32.toInt_add, Int32.toInt_sub, Int32.toInt_mul, Int32.toInt_toInt64, Int64.toInt_add, z_m1, Int32.reduceToInt, Int64.reduceToInt, Int32.reduceToNatClampNeg, Int.bmod_def] at x1_15)
    (try simp only [Int32.toInt_add, Int32.toInt_sub, Int32.toInt_mul, Int32.toInt_toInt64, Int64.toInt_add, z_m1, Int32.reduceToInt, Int64.reduceToInt, Int32.reduceToNatClampNeg, Int.bmod_def] at x2_15)
    (try simp only [Int32.toInt_add, Int32.toInt_sub, Int32.toInt_mul, Int32.toInt_toInt64, Int64.toInt_add, z_m1, Int32.reduceToInt, Int64.reduceToInt, Int32.reduceToNatClampNeg, Int.bmod_def] at x3_15)
    refine vIf (fun h_18 => ?_) (fun h_18 => ?_)
    · have i_18 := congrArg Int32.toInt h_18
      (try simp only [Int32.toInt_add, Int32.toInt_sub, Int32.toInt_mul, Int32.toInt_toInt64, Int64.toInt_add, z_m1, Int32.reduceToInt, Int64.reduceToInt, Int32.reduceToNatClampNeg, Int.bmod_def] at i_18)
      exact T_38 _ _ k_15 kn_15 x0_15 p_jY_15 p_jZ_15 (by first | omega | (simp only [Int32.toInt_add, Int32.toInt_sub, Int32.toInt_mul, Int32.toInt_toInt64, Int64.toInt_add, z_m1, Int32.reduceToInt, Int64.reduceToInt, Int32.reduceToNatClampNeg, Int.bmod_def, or_true, true_or, and_true, true_and] <;> omega))
    · have i_18 : ¬ Int32.toInt e_15.1 = Int32.toInt (0 : Int32) := fun q => h_18 (Int32.toInt_inj.mp q)
      (try simp only [Int32.toInt_add, Int32.toInt_sub, Int32.toInt_mul, Int32.toInt_toInt64, Int64.toInt_add, z_m1, Int32.reduceToInt, Int64.reduceToInt, Int32.reduceToNatClampNeg, Int.bmod_def] at i_18)
      refine vB (v_X8_newName x0_15 p_jY_15) (fun e_22 f_22 q_22 => ?_)
      have k_22 : ∀ a j, ¬ WM_X8_readUnit P a j → e_22.2.1 a j = M0 a j := fun a j h => (q_22.1 a j (wz_M_X8_newName_X8_readUnit h)).trans (k_15 a j h)
      have kn_22 : ∀ a j, ¬ WN_X8_readUnit P a j → e_22.2.2 a j = N0 a j := fun a j h => (q_22.2.1 a j (wz_N_X8_newName_X8_readUnit h)).trans (kn_15 a j h)
      have b_22 := q_22.2.2.1
      have c15_22 : Int32.toInt (e_22.2.1 P 15) = Int32.toInt (e_15.2.1 P 15) := congrArg Int32.toInt (q_22.1 P 15 (wc_X8_newName_15))
      have c28_22 : Int32.toInt (e_22.2.1 P 28) = Int32.toInt (e_15.2.1 P 28) := congrArg Int32.toInt (q_22.1 P 28 (wc_X8_newName_28))
      have c29_22 : Int32.toInt (e_22.2.1 P 29) = Int32.toInt (e_15.2.1 P 29) := congrArg Int32.toInt (q_22.1 P 29 (wc_X8_newName_29))
      have c30_22 : Int32.toInt (e_22.2.1 P 30) = Int32.toInt (e_15.2.1 P 30) := congrArg Int32.toInt (q_22.1 P 30 (wc_X8_newName_30))
      have c31_22 : Int32.toInt (e_22.2.1 P 31) = Int32.toInt (e_15.2.1 P 31) := congrArg Int32.toInt (q_22.1 P 31 (wc_X8_newName_31))
      have n_22 : nA P e_22.2.1 = nA P e_15.2.1 := nA_congr (fun a j h => q_22.1 a j (wf_nA_X8_newName h))
      have p_jY_22 : jY P e_22.2.1 := jY.mono p_jY_15 (fun a j h => q_22.1 a j (wf_jY_X8_newName h))
      obtain ⟨u0_jY_22, u1_jY_22, u2_jY_22, u3_jY_22, u4_jY_22, u5_jY_22⟩ := id p_jY_22
      have p_jZ_22 : jZ P e_22.2.1 := jZ.mono p_jZ_15 (fun a j h => q_22.1 a j (wf_jZ_X8_newName h))
      obtain ⟨x0_22, x1_22⟩ := q_22.2.2.2
      obtain ⟨u0_jX_22, u1_jX_22, u2_jX_22, u3_jX_22⟩ := id x0_22
      (try simp only [Int32.toInt_add, Int32.toInt_sub, Int32.toInt_mul, Int32.toInt_toInt64, Int64.toInt_add, z_m1, Int32.reduceToInt, Int64.reduceToInt, Int32.reduceToNatClampNeg, Int.bmod_def] at x1_22)
      refine vIf (fun h_25 => ?_) (fun h_25 => ?_)
      · have i_25 := congrArg Int32.toInt h_25
        (try simp only [Int32.toInt_add, Int32.toInt_sub, Int32.toInt_mul, Int32.toInt_toInt64, Int64.toInt_add, z_m1, Int32.reduceToInt, Int64.reduceToInt, Int32.reduceToNatClampNeg, Int.bmod_def] at i_25)
        exact T_38 _ _ k_22 kn_22 x0_22 p_jY_22 p_jZ_22 (by first | omega | (simp only [Int32.toInt_add, Int32.toInt_sub, Int32.toInt_mul, Int32.toInt_toInt64, Int64.toInt_add, z_m1, Int32.reduceToInt, Int64.reduceToInt, Int32.reduceToNatClampNeg, Int.bmod_def, or_true, true_or, and_true, true_and] <;> omega))
      · have i_25 : ¬ Int32.toInt e_22.1 = Int32.toInt (0 : Int32) := fun q => h_25 (Int32.toInt_inj.mp q)
        (try simp only [Int32.toInt_add, Int32.toInt_sub, Int32.toInt_mul, Int32.toInt_toInt64, Int64.toInt_add, z_m1, Int32.reduceToInt, Int64.reduceToInt, Int32.reduceToNatClampNeg, Int.bmod_def] at i_25)
        refine vB (v_X8_number x0_22 p_jY_22 (by first | omega | (simp only [Int32.toInt_add, Int32.toInt_sub, Int32.toInt_mul, Int32.toInt_toInt64, Int64.toInt_add, z_m1, Int32.reduceToInt, Int64.reduceToInt, Int32.reduceToNatClampNeg, Int.bmod_def, or_true, true_or, and_true, true_and] <;> omega))) (fun e_32 f_32 q_32 => ?_)
        have k_32 : ∀ a j, ¬ WM_X8_readUnit P a j → e_32.2.1 a j = M0 a j := fun a j h => (q_32.1 a j (wz_M_X8_number_X8_readUnit h)).trans (k_22 a j h)
        have kn_32 : ∀ a j, ¬ WN_X8_readUnit P a j → e_32.2.2 a j = N0 a j := fun a j h => (q_32.2.1 a j (wz_N_X8_number_X8_readUnit h)).trans (kn_22 a j h)
        have b_32 := q_32.2.2.1
        have c15_32 : Int32.toInt (e_32.2.1 P 15) = Int32.toInt (e_22.2.1 P 15) := congrArg Int32.toInt (q_32.1 P 15 (wc_X8_number_15))
        have c28_32 : Int32.toInt (e_32.2.1 P 28) = Int32.toInt (e_22.2.1 P 28) := congrArg Int32.toInt (q_32.1 P 28 (wc_X8_number_28))
        have c29_32 : Int32.toInt (e_32.2.1 P 29) = Int32.toInt (e_22.2.1 P 29) := congrArg Int32.toInt (q_32.1 P 29 (wc_X8_number_29))
        have c30_32 : Int32.toInt (e_32.2.1 P 30) = Int32.toInt (e_22.2.1 P 30) := congrArg Int32.toInt (q_32.1 P 30 (wc_X8_number_30))
        have n_32 : nA P e_32.2.1 = nA P e_22.2.1 := nA_congr (fun a j h => q_32.1 a j (wf_nA_X8_number h))
        have p_jY_32 : jY P e_32.2.1 := jY.mono p_jY_22 (fun a j h => q_32.1 a j (wf_jY_X8_number h))
        obtain ⟨u0_jY_32, u1_jY_32, u2_jY_32, u3_jY_32, u4_jY_32, u5_jY_32⟩ := id p_jY_32
        have p_jZ_32 : jZ P e_32.2.1 := jZ.mono p_jZ_22 (fun a j h => q_32.1 a j (wf_jZ_X8_number h))
        obtain ⟨x0_32, x1_32, x2_32⟩ := q_32.2.2.2
        obtain ⟨u0_jX_32, u1_jX_32, u2_jX_32, u3_jX_32⟩ := id x0_32
        (try simp only [Int32.toInt_add, Int32.toInt_sub, Int32.toInt_mul, Int32.toInt_toInt64, Int64.toInt_add, z_m1, Int32.reduceToInt, Int64.reduceToInt, Int32.reduceToNatClampNeg, Int.bmod_def] at x1_32)
        (try simp only [Int32.toInt_add, Int32.toInt_sub, Int32.toInt_mul, Int32.toInt_toInt64, Int64.toInt_add, z_m1, Int32.reduceToInt, Int64.reduceToInt, Int32.reduceToNatClampNeg, Int.bmod_def] at x2_32)
        refine vIf (fun h_35 => ?_) (fun h_35 => ?_)
        · have i_35 := congrArg Int32.toInt h_35
          (try simp only [Int32.toInt_add, Int32.toInt_sub, Int32.toInt_mul, Int32.toInt_toInt64, Int64.toInt_add, z_m1, Int32.reduceToInt, Int64.reduceToInt, Int32.reduceToNatClampNeg, Int.bmod_def] at i_35)
          exact T_38 _ _ k_32 kn_32 x0_32 p_jY_32 p_jZ_32 (by first | omega | (simp only [Int32.toInt_add, Int32.toInt_sub, Int32.toInt_mul, Int32.toInt_toInt64, Int64.toInt_add, z_m1, Int32.reduceToInt, Int64.reduceToInt, Int32.reduceToNatClampNeg, Int.bmod_def, or_true, true_or, and_true, true_and] <;> omega))
        · have i_35 : ¬ Int32.toInt e_32.1 = Int32.toInt (0 : Int32) := fun q => h_35 (Int32.toInt_inj.mp q)
          (try simp only [Int32.toInt_add, Int32.toInt_sub, Int32.toInt_mul, Int32.toInt_toInt64, Int64.toInt_add, z_m1, Int32.reduceToInt, Int64.reduceToInt, Int32.reduceToNatClampNeg, Int.bmod_def] at i_35)
          refine vI (vp_of (by first | omega | (simp only [Int32.toInt_add, Int32.toInt_sub, Int32.toInt_mul, Int32.toInt_toInt64, Int64.toInt_add, z_m1, Int32.reduceToInt, Int64.reduceToInt, Int32.reduceToNatClampNeg, Int.bmod_def, or_true, true_or, and_true, true_and] <;> omega)) (by first | omega | (simp only [Int32.toInt_add, Int32.toInt_sub, Int32.toInt_mul, Int32.toInt_toInt64, Int64.toInt_add, z_m1, Int32.reduceToInt, Int64.reduceToInt, Int32.reduceToNatClampNeg, Int.bmod_def, or_true, true_or, and_true, true_and] <;> omega))) ?_
          refine vLn (W := WN_X8_readUnit P) (fun a j h => (zu_ne (fun z => wq_X8_readUnit_N8_r h z.1)).trans (kn_32 a j h)) (fun N_52 f_52 kn_52 => ?_)
          refine vI (vp_of (by first | omega | (simp only [Int32.toInt_add, Int32.toInt_sub, Int32.toInt_mul, Int32.toInt_toInt64, Int64.toInt_add, z_m1, Int32.reduceToInt, Int64.reduceToInt, Int32.reduceToNatClampNeg, Int.bmod_def, or_true, true_or, and_true, true_and] <;> omega)) (by first | omega | (simp only [Int32.toInt_add, Int32.toInt_sub, Int32.toInt_mul, Int32.toInt_toInt64, Int64.toInt_add, z_m1, Int32.reduceToInt, Int64.reduceToInt, Int32.reduceToNatClampNeg, Int.bmod_def, or_true, true_or, and_true, true_and] <;> omega))) ?_
          refine vLm (W := WM_X8_readUnit P) (fun a j h => (zu_ne (fun z => wq_X8_readUnit_M2_r h z.1)).trans (k_32 a j h)) (fun M_68 f_68 k_68 => ?_)
          have c15_68 : Int32.toInt (M_68 P 15) = Int32.toInt (e_32.2.1 P 15) := congrArg Int32.toInt ((congrFun (congrFun f_68.symm P) 15).trans (zu_ne (fun z => wq_pne0 (by decide) z.1)))
          have c17_68 : Int32.toInt (M_68 P 17) = Int32.toInt (e_32.2.1 P 17) := congrArg Int32.toInt ((congrFun (congrFun f_68.symm P) 17).trans (zu_ne (fun z => wq_pne0 (by decide) z.1)))
          have c18_68 : Int32.toInt (M_68 P 18) = Int32.toInt (e_32.2.1 P 18) := congrArg Int32.toInt ((congrFun (congrFun f_68.symm P) 18).trans (zu_ne (fun z => wq_pne0 (by decide) z.1)))
          have c20_68 : Int32.toInt (M_68 P 20) = Int32.toInt (e_32.2.1 P 20) := congrArg Int32.toInt ((congrFun (congrFun f_68.symm P) 20).trans (zu_ne (fun z => wq_pne0 (by decide) z.1)))
          have c28_68 : Int32.toInt (M_68 P 28) = Int32.toInt (e_32.2.1 P 28) := congrArg Int32.toInt ((congrFun (congrFun f_68.symm P) 28).trans (zu_ne (fun z => wq_pne0 (by decide) z.1)))
          have c29_68 : Int32.toInt (M_68 P 29) = Int32.toInt (e_32.2.1 P 29) := congrArg Int32.toInt ((congrFun (congrFun f_68.symm P) 29).trans (zu_ne (fun z => wq_pne0 (by decide) z.1)))
          have c30_68 : Int32.toInt (M_68 P 30) = Int32.toInt (e_32.2.1 P 30) := congrArg Int32.toInt ((congrFun (congrFun f_68.symm P) 30).trans (zu_ne (fun z => wq_pne0 (by decide) z.1)))
          have c31_68 : Int32.toInt (M_68 P 31) = Int32.toInt (e_32.2.1 P 31) := congrArg Int32.toInt ((congrFun (congrFun f_68.symm P) 31).trans (zu_ne (fun z => wq_pne0 (by decide) z.1)))
          have n_68 : nA P M_68 = nA P e_32.2.1 := nA_congr (fun a j h => (congrFun (congrFun f_68.symm a) j).trans (zu_ne (fun z => wf_nA_M2_r h z.1)))
          have p_jY_68 : jY P M_68 := jY.mono p_jY_32 (fun a j h => (congrFun (congrFun f_68.symm a) j).trans (zu_ne (fun z => wf_jY_M2_r h z.1)))
          obtain ⟨u0_jY_68, u1_jY_68, u2_jY_68, u3_jY_68, u4_jY_68, u5_jY_68⟩ := id p_jY_68
          have p_jZ_68 : jZ P M_68 := jZ.put p_jZ_32 (by omega) f_68 (Or.inr (Or.inr (Or.inl ⟨(by have h1 := z_cl (x := (62 : Int32) + e_32.2.1 P 28) (by first | omega | (simp only [Int32.toInt_add, Int32.toInt_sub, Int32.toInt_mul, Int32.toInt_toInt64, Int64.toInt_add, z_m1, Int32.reduceToInt, Int64.reduceToInt, Int32.reduceToNatClampNeg, Int.bmod_def, or_true, true_or, and_true, true_and] <;> omega)); have h2 : 62 ≤ Int32.toInt ((62 : Int32) + e_32.2.1 P 28) ∧ Int32.toInt ((62 : Int32) + e_32.2.1 P 28) < 67 := (by first | omega | (simp only [Int32.toInt_add, Int32.toInt_sub, Int32.toInt_mul, Int32.toInt_toInt64, Int64.toInt_add, z_m1, Int32.reduceToInt, Int64.reduceToInt, Int32.reduceToNatClampNeg, Int.bmod_def, or_true, true_or, and_true, true_and] <;> omega)); omega), (by have h1 := z_cl (x := (62 : Int32) + e_32.2.1 P 28) (by first | omega | (simp only [Int32.toInt_add, Int32.toInt_sub, Int32.toInt_mul, Int32.toInt_toInt64, Int64.toInt_add, z_m1, Int32.reduceToInt, Int64.reduceToInt, Int32.reduceToNatClampNeg, Int.bmod_def, or_true, true_or, and_true, true_and] <;> omega)); have h2 : 62 ≤ Int32.toInt ((62 : Int32) + e_32.2.1 P 28) ∧ Int32.toInt ((62 : Int32) + e_32.2.1 P 28) < 67 := (by first | omega | (simp only [Int32.toInt_add, Int32.toInt_sub, Int32.toInt_mul, Int32.toInt_toInt64, Int64.toInt_add, z_m1, Int32.reduceToInt, Int64.reduceToInt, Int32.reduceToNatClampNeg, Int.bmod_def, or_true, true_or, and_true, true_and] <;> omega)); omega), (by first | omega | (simp only [Int32.toInt_add, Int32.toInt_sub, Int32.toInt_mul, Int32.toInt_toInt64, Int64.toInt_add, z_m1, Int32.reduceToInt, Int64.reduceToInt, Int32.reduceToNatClampNeg, Int.bmod_def, or_true, true_or, and_true, true_and] <;> omega)), (by first | omega | (simp only [Int32.toInt_add, Int32.toInt_sub, Int32.toInt_mul, Int32.toInt_toInt64, Int64.toInt_add, z_m1, Int32.reduceToInt, Int64.reduceToInt, Int32.reduceToNatClampNeg, Int.bmod_def, or_true, true_or, and_true, true_and] <;> omega))⟩)))
          have p_jX_68 : jX P M_68 := jX.mono x0_32 (fun a j h => (congrFun (congrFun f_68.symm a) j).trans (zu_ne (fun z => wf_jX_M2_r h z.1)))
          obtain ⟨u0_jX_68, u1_jX_68, u2_jX_68, u3_jX_68⟩ := id p_jX_68
          refine vLm (W := WM_X8_readUnit P) (fun a j h => (zu_ne (wq_X8_readUnit_M0_28 h)).trans (k_68 a j h)) (fun M_76 f_76 k_76 => ?_)
          have c15_76 : Int32.toInt (M_76 P 15) = Int32.toInt (M_68 P 15) := congrArg Int32.toInt ((congrFun (congrFun f_76.symm P) 15).trans (zu_ne (fun z => absurd z.2 (by decide))))
          have c17_76 : Int32.toInt (M_76 P 17) = Int32.toInt (M_68 P 17) := congrArg Int32.toInt ((congrFun (congrFun f_76.symm P) 17).trans (zu_ne (fun z => absurd z.2 (by decide))))
          have c18_76 : Int32.toInt (M_76 P 18) = Int32.toInt (M_68 P 18) := congrArg Int32.toInt ((congrFun (congrFun f_76.symm P) 18).trans (zu_ne (fun z => absurd z.2 (by decide))))
          have c20_76 : Int32.toInt (M_76 P 20) = Int32.toInt (M_68 P 20) := congrArg Int32.toInt ((congrFun (congrFun f_76.symm P) 20).trans (zu_ne (fun z => absurd z.2 (by decide))))
          have c29_76 : Int32.toInt (M_76 P 29) = Int32.toInt (M_68 P 29) := congrArg Int32.toInt ((congrFun (congrFun f_76.symm P) 29).trans (zu_ne (fun z => absurd z.2 (by decide))))
          have c30_76 : Int32.toInt (M_76 P 30) = Int32.toInt (M_68 P 30) := congrArg Int32.toInt ((congrFun (congrFun f_76.symm P) 30).trans (zu_ne (fun z => absurd z.2 (by decide))))
          have c31_76 : Int32.toInt (M_76 P 31) = Int32.toInt (M_68 P 31) := congrArg Int32.toInt ((congrFun (congrFun f_76.symm P) 31).trans (zu_ne (fun z => absurd z.2 (by decide))))
          have n_76 : nA P M_76 = nA P M_68 := nA_congr (fun a j h => (congrFun (congrFun f_76.symm a) j).trans (zu_ne (wf_nA_M0_28 h)))
          have p_jY_76 : jY P M_76 := jY.put p_jY_68 f_76 (Or.inl ⟨rfl, (by first | omega | (simp only [Int32.toInt_add, Int32.toInt_sub, Int32.toInt_mul, Int32.toInt_toInt64, Int64.toInt_add, z_m1, Int32.reduceToInt, Int64.reduceToInt, Int32.reduceToNatClampNeg, Int.bmod_def, or_true, true_or, and_true, true_and] <;> omega)), (by first | omega | (simp only [Int32.toInt_add, Int32.toInt_sub, Int32.toInt_mul, Int32.toInt_toInt64, Int64.toInt_add, z_m1, Int32.reduceToInt, Int64.reduceToInt, Int32.reduceToNatClampNeg, Int.bmod_def, or_true, true_or, and_true, true_and] <;> omega))⟩)
          obtain ⟨u0_jY_76, u1_jY_76, u2_jY_76, u3_jY_76, u4_jY_76, u5_jY_76⟩ := id p_jY_76
          have p_jZ_76 : jZ P M_76 := jZ.up p_jZ_68 f_76 (Or.inl ⟨rfl, (by first | omega | (simp only [Int32.toInt_add, Int32.toInt_sub, Int32.toInt_mul, Int32.toInt_toInt64, Int64.toInt_add, z_m1, Int32.reduceToInt, Int64.reduceToInt, Int32.reduceToNatClampNeg, Int.bmod_def, or_true, true_or, and_true, true_and] <;> omega))⟩)
          have p_jX_76 : jX P M_76 := jX.mono p_jX_68 (fun a j h => (congrFun (congrFun f_76.symm a) j).trans (zu_ne (wf_jX_M0_28 h)))
          obtain ⟨u0_jX_76, u1_jX_76, u2_jX_76, u3_jX_76⟩ := id p_jX_76
          exact ⟨_, rfl, k_76, kn_52, (by first | exact Or.inl rfl | exact Or.inr rfl | assumption), ⟨p_jX_76, p_jY_76, p_jZ_76, (by first | omega | (simp only [Int32.toInt_add, Int32.toInt_sub, Int32.toInt_mul, Int32.toInt_toInt64, Int64.toInt_add, z_m1, Int32.reduceToInt, Int64.reduceToInt, Int32.reduceToNatClampNeg, Int.bmod_def, or_true, true_or, and_true, true_and] <;> omega))⟩⟩
def WM_X8_readHunter (P : Nat) (a j : Nat) : Prop := (P + 2 ≤ a ∧ a < P + 3) ∨ (P + 6 ≤ a ∧ a < P + 7) ∨ (a = P ∧ (j = 16 ∨ j = 17 ∨ j = 18 ∨ j = 19 ∨ j = 20 ∨ j = 21 ∨ j = 22 ∨ j = 29 ∨ j = 31))
def WN_X8_readHunter (P : Nat) (a j : Nat) : Prop := (P + 9 ≤ a ∧ a < P + 10) ∨ (a = P ∧ (j = 24 ∨ j = 32))
theorem wq_X8_readHunter_M0_29 {P a j : Nat} (h : ¬ WM_X8_readHunter P a j) : ¬ (a = P ∧ j = 29) := by unfold WM_X8_readHunter at h; omega
theorem wf_nA_M0_29 {P a j : Nat} (h : (a = P + 1 ∨ (a = P ∧ j = 8))) : ¬ (a = P ∧ j = 29) := by omega
theorem wf_jX_M0_29 {P a j : Nat} (h : (a = P ∧ (j = 15 ∨ j = 17))) : ¬ (a = P ∧ j = 29) := by omega
theorem wq_X8_readHunter_M6_r {P a j : Nat} (h : ¬ WM_X8_readHunter P a j) : ¬ a = P + 6 := by unfold WM_X8_readHunter at h; omega
theorem wf_nA_M6_r {P a j : Nat} (h : (a = P + 1 ∨ (a = P ∧ j = 8))) : ¬ a = P + 6 := by omega
theorem wf_jX_M6_r {P a j : Nat} (h : (a = P ∧ (j = 15 ∨ j = 17))) : ¬ a = P + 6 := by omega
theorem wf_jY_M6_r {P a j : Nat} (h : (a = P ∧ (j = 28 ∨ j = 29 ∨ j = 30))) : ¬ a = P + 6 := by omega
theorem wf_jZ_M6_r {P a j : Nat} (h : (a = P + 2 ∨ (a = P ∧ (j = 28 ∨ j = 29 ∨ j = 30)))) : ¬ a = P + 6 := by omega
theorem wz_M_X8_next_X8_readHunter {P a j : Nat} (h : ¬ WM_X8_readHunter P a j) : ¬ WM_X8_next P a j := by unfold WM_X8_next; unfold WM_X8_readHunter at h; omega
theorem wz_N_X8_next_X8_readHunter {P a j : Nat} (h : ¬ WN_X8_readHunter P a j) : ¬ WN_X8_next P a j := by unfold WN_X8_next; unfold WN_X8_readHunter at h; omega
theorem wz_M_X8_bad_X8_readHunter {P a j : Nat} (h : ¬ WM_X8_readHunter P a j) : ¬ WM_X8_bad P a j := by unfold WM_X8_bad; unfold WM_X8_readHunter at h; omega
theorem wz_M_X8_newName_X8_readHunter {P a j : Nat} (h : ¬ WM_X8_readHunter P a j) : ¬ WM_X8_newName P a j := by unfold WM_X8_newName; unfold WM_X8_readHunter at h; omega
theorem wz_N_X8_newName_X8_readHunter {P a j : Nat} (h : ¬ WN_X8_readHunter P a j) : ¬ WN_X8_newName P a j := by unfold WN_X8_newName; unfold WN_X8_readHunter at h; omega
theorem wz_M_X8_number_X8_readHunter {P a j : Nat} (h : ¬ WM_X8_readHunter P a j) : ¬ WM_X8_number P a j := by unfold WM_X8_number; unfold WM_X8_readHunter at h; omega
theorem wz_N_X8_number_X8_readHunter {P a j : Nat} (h : ¬ WN_X8_readHunter P a j) : ¬ WN_X8_number P a j := by unfold WN_X8_number; unfold WN_X8_readHunter at h; omega
theorem wq_X8_readHunter_N9_r {P a j : Nat} (h : ¬ WN_X8_readHunter P a j) : ¬ a = P + 9 := by unfold WN_X8_readHunter at h; omega
theorem wq_X8_readHunter_M2_r {P a j : Nat} (h : ¬ WM_X8_readHunter P a j) : ¬ a = P + 2 := by unfold WM_X8_readHunter at h; omega
set_option maxRecDepth 100000 in
set_option maxHeartbeats 4000000 in
theorem v_X8_readHunter {P : Nat}  {M0 : zMt} {N0 : zNt}  (p_jX : jX P M0) (p_jY : jY P M0) (p_jZ : jZ P M0) : ∃ r, D_X8_readHunter P M0 N0 = some r ∧ ((∀ a j, ¬ WM_X8_readHunter P a j → r.2.1 a j = M0 a j) ∧ (∀ a j, ¬ WN_X8_readHunter P a j → r.2.2 a j = N0 a j) ∧ (r.1 = 0 ∨ r.1 = 1) ∧ ((jX P r.2.1) ∧ (jY P r.2.1) ∧ (jZ P r.2.1) ∧ (Int32.toInt (M0 P 17) ≤ Int32.toInt (r.2.1 P 17)))) := by
  obtain ⟨u0_jX, u1_jX, u2_jX, u3_jX⟩ := id p_jX
  obtain ⟨u0_jY, u1_jY, u2_jY, u3_jY, u4_jY, u5_jY⟩ := id p_jY
  have T_116 : ∀ (M_116 : zMt) (N_116 : zNt), (∀ a j, ¬ WM_X8_readHunter P a j → M_116 a j = M0 a j) → (∀ a j, ¬ WN_X8_readHunter P a j → N_116 a j = N0 a j) → (jX P M_116) → (jY P M_116) → (jZ P M_116) → (Int32.toInt (M0 P 17) ≤ Int32.toInt (M_116 P 17)) → (Int32.toInt (M_116 P 29) ≤ 9) → ∃ r, D_X8_readHunter_116 P M_116 N_116 = some r ∧ ((∀ a j, ¬ WM_X8_readHunter P a j → r.2.1 a j = M0 a j) ∧ (∀ a j, ¬ WN_X8_readHunter P a j → r.2.2 a j = N0 a j) ∧ (r.1 = 0 ∨ r.1 = 1) ∧ ((jX P r.2.1) ∧ (jY P r.2.1) ∧ (jZ P r.2.1) ∧ (Int32.toInt (M0 P 17) ≤ Int32.toInt (r.2.1 P 17)))) := by
    intro M_116 N_116 k_116 kn_116 p_jX_116 p_jY_116 p_jZ_116 f0_116 f1_116
    obtain ⟨u0_jX_116, u1_jX_116, u2_jX_116, u3_jX_116⟩ := id p_jX_116
    obtain ⟨u0_jY_116, u1_jY_116, u2_jY_116, u3_jY_116, u4_jY_116, u5_jY_116⟩ := id p_jY_116
    unfold D_X8_readHunter_116
    refine vLm (W := WM_X8_readHunter P) (fun a j h => (zu_ne (wq_X8_readHunter_M0_29 h)).trans (k_116 a j h)) (fun M_123 f_123 k_123 => ?_)
    have c15_123 : Int32.toInt (M_123 P 15) = Int32.toInt (M_116 P 15) := congrArg Int32.toInt ((congrFun (congrFun f_123.symm P) 15).trans (zu_ne (fun z => absurd z.2 (by decide))))
    have c17_123 : Int32.toInt (M_123 P 17) = Int32.toInt (M_116 P 17) := congrArg Int32.toInt ((congrFun (congrFun f_123.symm P) 17).trans (zu_ne (fun z => absurd z.2 (by decide))))
    have c18_123 : Int32.toInt (M_123 P 18) = Int32.toInt (M_116 P 18) := congrArg Int32.toInt ((congrFun (congrFun f_123.symm P) 18).trans (zu_ne (fun z => absurd z.2 (by decide))))
    have c20_123 : Int32.toInt (M_123 P 20) = Int32.toInt (M_116 P 20) := congrArg Int32.toInt ((congrFun (congrFun f_123.symm P) 20).trans (zu_ne (fun z => absurd z.2 (by decide))))
    have c28_123 : Int32.toInt (M_123 P 28) = Int32.toInt (M_116 P 28) := congrArg Int32.toInt ((congrFun (congrFun f_123.symm P) 28).trans (zu_ne (fun z => absurd z.2 (by decide))))
    have c30_123 : Int32.toInt (M_123 P 30) = Int32.toInt (M_116 P 30) := congrArg Int32.toInt ((congrFun (congrFun f_123.symm P) 30).trans (zu_ne (fun z => absurd z.2 (by decide))))
    have c31_123 : Int32.toInt (M_123 P 31) = Int32.toInt (M_116 P 31) := congrArg Int32.toInt ((congrFun (congrFun f_123.symm P) 31).trans (zu_ne (fun z => absurd z.2 (by decide))))
    have n_123 : nA P M_123 = nA P M_116 := nA_congr (fun a j h => (congrFun (congrFun f_123.symm a) j).trans (zu_ne (wf_nA_M0_29 h)))
    have p_jX_123 : jX P M_123 := jX.mono p_jX_116 (fun a j h => (congrFun (congrFun f_123.symm a) j).trans (zu_ne (wf_jX_M0_29 h)))
    obtain ⟨u0_jX_123, u1_jX_123, u2_jX_123, u3_jX_123⟩ := id p_jX_123
    have p_jY_123 : jY P M_123 := jY.put p_jY_116 f_123 (Or.inr (Or.inl ⟨rfl, (by first | omega | (simp only [Int32.toInt_add, Int32.toInt_sub, Int32.toInt_mul, Int32.toInt_toInt64, Int64.toInt_add, z_m1, Int32.reduceToInt, Int64.reduceToInt, Int32.reduceToNatClampNeg, Int.bmod_def, or_true, true_or, and_true, true_and] <;> omega)), (by first | omega | (simp only [Int32.toInt_add, Int32.toInt_sub, Int32.toInt_mul, Int32.toInt_toInt64, Int64.toInt_add, z_m1, Int32.reduceToInt, Int64.reduceToInt, Int32.reduceToNatClampNeg, Int.bmod_def, or_true, true_or, and_true, true_and] <;> omega))⟩))
    obtain ⟨u0_jY_123, u1_jY_123, u2_jY_123, u3_jY_123, u4_jY_123, u5_jY_123⟩ := id p_jY_123
    have p_jZ_123 : jZ P M_123 := jZ.up p_jZ_116 f_123 (Or.inr (Or.inl ⟨rfl, (by first | omega | (simp only [Int32.toInt_add, Int32.toInt_sub, Int32.toInt_mul, Int32.toInt_toInt64, Int64.toInt_add, z_m1, Int32.reduceToInt, Int64.reduceToInt, Int32.reduceToNatClampNeg, Int.bmod_def, or_true, true_or, and_true, true_and] <;> omega))⟩))
    exact ⟨_, rfl, k_123, kn_116, (by first | exact Or.inl rfl | exact Or.inr rfl | assumption), ⟨p_jX_123, p_jY_123, p_jZ_123, (by first | omega | (simp only [Int32.toInt_add, Int32.toInt_sub, Int32.toInt_mul, Int32.toInt_toInt64, Int64.toInt_add, z_m1, Int32.reduceToInt, Int64.reduceToInt, Int32.reduceToNatClampNeg, Int.bmod_def, or_true, true_or, and_true, true_and] <;> omega))⟩⟩
  have T_98 : ∀ (y1_98 : Int32) (y2_98 : Int32) (M_98 : zMt) (N_98 : zNt), (∀ a j, ¬ WM_X8_readHunter P a j → M_98 a j = M0 a j) → (∀ a j, ¬ WN_X8_readHunter P a j → N_98 a j = N0 a j) → (jX P M_98) → (jY P M_98) → (jZ P M_98) → (y2_98 = 0 ∨ y2_98 = 1) → (Int32.toInt (M0 P 17) ≤ Int32.toInt (M_98 P 17)) → (Int32.toInt (M_98 P 29) ≤ 9) → (0 ≤ Int32.toInt y1_98 ∧ Int32.toInt y1_98 ≤ 9) → ∃ r, D_X8_readHunter_98 P y1_98 y2_98 M_98 N_98 = some r ∧ ((∀ a j, ¬ WM_X8_readHunter P a j → r.2.1 a j = M0 a j) ∧ (∀ a j, ¬ WN_X8_readHunter P a j → r.2.2 a j = N0 a j) ∧ (r.1 = 0 ∨ r.1 = 1) ∧ ((jX P r.2.1) ∧ (jY P r.2.1) ∧ (jZ P r.2.1) ∧ (Int32.toInt (M0 P 17) ≤ Int32.toInt (r.2.1 P 17)))) := by
    intro y1_98 y2_98 M_98o N_98 k_98 kn_98 p_jX_98 p_jY_98 p_jZ_98 f0_98 f1_98 f2_98 f3_98
    obtain ⟨u0_jX_98, u1_jX_98, u2_jX_98, u3_jX_98⟩ := id p_jX_98
    obtain ⟨u0_jY_98, u1_jY_98, u2_jY_98, u3_jY_98, u4_jY_98, u5_jY_98⟩ := id p_jY_98
    unfold D_X8_readHunter_98
    refine vI (vp_of (by first | omega | (simp only [Int32.toInt_add, Int32.toInt_sub, Int32.toInt_mul, Int32.toInt_toInt64, Int64.toInt_add, z_m1, Int32.reduceToInt, Int64.reduceToInt, Int32.reduceToNatClampNeg, Int.bmod_def, or_true, true_or, and_true, true_and] <;> omega)) (by first | omega | (simp only [Int32.toInt_add, Int32.toInt_sub, Int32.toInt_mul, Int32.toInt_toInt64, Int64.toInt_add, z_m1, Int32.reduceToInt, Int64.reduceToInt, Int32.reduceToNatClampNeg, Int.bmod_def, or_true, true_or, and_true, true_and] <;> omega))) ?_
    refine vLm (W := WM_X8_readHunter P) (fun a j h => (zu_ne (fun z => wq_X8_readHunter_M6_r h z.1)).trans (k_98 a j h)) (fun M_98 f_98 k_98 => ?_)
    have c15_98 : Int32.toInt (M_98 P 15) = Int32.toInt (M_98o P 15) := congrArg Int32.toInt ((congrFun (congrFun f_98.symm P) 15).trans (zu_ne (fun z => wq_pne0 (by decide) z.1)))
    have c17_98 : Int32.toInt (M_98 P 17) = Int32.toInt (M_98o P 17) := congrArg Int32.toInt ((congrFun (congrFun f_98.symm P) 17).trans (zu_ne (fun z => wq_pne0 (by decide) z.1)))
    have c18_98 : Int32.toInt (M_98 P 18) = Int32.toInt (M_98o P 18) := congrArg Int32.toInt ((congrFun (congrFun f_98.symm P) 18).trans (zu_ne (fun z => wq_pne0 (by decide) z.1)))
    have c20_98 : Int32.toInt (M_98 P 20) = Int32.toInt (M_98o P 20) := congrArg Int32.toInt ((congrFun (congrFun f_98.symm P) 20).trans (zu_ne (fun z => wq_pne0 (by decide) z.1)))
    have c28_98 : Int32.toInt (M_98 P 28) = Int32.toInt (M_98o P 28) := congrArg Int32.toInt ((congrFun (congrFun f_98.symm P) 28).trans (zu_ne (fun z => wq_pne0 (by decide) z.1)))
    have c29_98 : Int32.toInt (M_98 P 29) = Int32.toInt (M_98o P 29) := congrArg Int32.toInt ((congrFun (congrFun f_98.symm P) 29).trans (zu_ne (fun z => wq_pne0 (by decide) z.1)))
    have c30_98 : Int32.toInt (M_98 P 30) = Int32.toInt (M_98o P 30) := congrArg Int32.toInt ((congrFun (congrFun f_98.symm P) 30).trans (zu_ne (fun z => wq_pne0 (by decide) z.1)))
    have c31_98 : Int32.toInt (M_98 P 31) = Int32.toInt (M_98o P 31) := congrArg Int32.toInt ((congrFun (congrFun f_98.symm P) 31).trans (zu_ne (fun z => wq_pne0 (by decide) z.1)))
    have n_98 : nA P M_98 = nA P M_98o := nA_congr (fun a j h => (congrFun (congrFun f_98.symm a) j).trans (zu_ne (fun z => wf_nA_M6_r h z.1)))
    have p_jX_98 : jX P M_98 := jX.mono p_jX_98 (fun a j h => (congrFun (congrFun f_98.symm a) j).trans (zu_ne (fun z => wf_jX_M6_r h z.1)))
    obtain ⟨u0_jX_98, u1_jX_98, u2_jX_98, u3_jX_98⟩ := id p_jX_98
    have p_jY_98 : jY P M_98 := jY.mono p_jY_98 (fun a j h => (congrFun (congrFun f_98.symm a) j).trans (zu_ne (fun z => wf_jY_M6_r h z.1)))
    obtain ⟨u0_jY_98, u1_jY_98, u2_jY_98, u3_jY_98, u4_jY_98, u5_jY_98⟩ := id p_jY_98
    have p_jZ_98 : jZ P M_98 := jZ.mono p_jZ_98 (fun a j h => (congrFun (congrFun f_98.symm a) j).trans (zu_ne (fun z => wf_jZ_M6_r h z.1)))
    refine vI (vp_of (by first | omega | (simp only [Int32.toInt_add, Int32.toInt_sub, Int32.toInt_mul, Int32.toInt_toInt64, Int64.toInt_add, z_m1, Int32.reduceToInt, Int64.reduceToInt, Int32.reduceToNatClampNeg, Int.bmod_def, or_true, true_or, and_true, true_and] <;> omega)) (by first | omega | (simp only [Int32.toInt_add, Int32.toInt_sub, Int32.toInt_mul, Int32.toInt_toInt64, Int64.toInt_add, z_m1, Int32.reduceToInt, Int64.reduceToInt, Int32.reduceToNatClampNeg, Int.bmod_def, or_true, true_or, and_true, true_and] <;> omega))) ?_
    refine vIf (fun h_108 => ?_) (fun h_108 => ?_)
    · have i_108 := congrArg Int32.toInt h_108
      (try simp only [Int32.toInt_add, Int32.toInt_sub, Int32.toInt_mul, Int32.toInt_toInt64, Int64.toInt_add, z_m1, Int32.reduceToInt, Int64.reduceToInt, Int32.reduceToNatClampNeg, Int.bmod_def] at i_108)
      exact T_116 _ _ k_98 kn_98 p_jX_98 p_jY_98 p_jZ_98 (by first | omega | (simp only [Int32.toInt_add, Int32.toInt_sub, Int32.toInt_mul, Int32.toInt_toInt64, Int64.toInt_add, z_m1, Int32.reduceToInt, Int64.reduceToInt, Int32.reduceToNatClampNeg, Int.bmod_def, or_true, true_or, and_true, true_and] <;> omega)) (by first | omega | (simp only [Int32.toInt_add, Int32.toInt_sub, Int32.toInt_mul, Int32.toInt_toInt64, Int64.toInt_add, z_m1, Int32.reduceToInt, Int64.reduceToInt, Int32.reduceToNatClampNeg, Int.bmod_def, or_true, true_or, and_true, true_and] <;> omega))
    · have i_108 : ¬ Int32.toInt (M_98 (P + 6) (M_98 P 29).toNatClampNeg) = Int32.toInt (0 : Int32) := fun q => h_108 (Int32.toInt_inj.mp q)
      (try simp only [Int32.toInt_add, Int32.toInt_sub, Int32.toInt_mul, Int32.toInt_toInt64, Int64.toInt_add, z_m1, Int32.reduceToInt, Int64.reduceToInt, Int32.reduceToNatClampNeg, Int.bmod_def] at i_108)
      refine vB (v_X8_next p_jX_98) (fun e_112 f_112 q_112 => ?_)
      have k_112 : ∀ a j, ¬ WM_X8_readHunter P a j → e_112.2.1 a j = M0 a j := fun a j h => (q_112.1 a j (wz_M_X8_next_X8_readHunter h)).trans (k_98 a j h)
      have kn_112 : ∀ a j, ¬ WN_X8_readHunter P a j → e_112.2.2 a j = N0 a j := fun a j h => (q_112.2.1 a j (wz_N_X8_next_X8_readHunter h)).trans (kn_98 a j h)
      have b_112 := q_112.2.2.1
      have c15_112 : Int32.toInt (e_112.2.1 P 15) = Int32.toInt (M_98 P 15) := congrArg Int32.toInt (q_112.1 P 15 (wc_X8_next_15))
      have c28_112 : Int32.toInt (e_112.2.1 P 28) = Int32.toInt (M_98 P 28) := congrArg Int32.toInt (q_112.1 P 28 (wc_X8_next_28))
      have c29_112 : Int32.toInt (e_112.2.1 P 29) = Int32.toInt (M_98 P 29) := congrArg Int32.toInt (q_112.1 P 29 (wc_X8_next_29))
      have c30_112 : Int32.toInt (e_112.2.1 P 30) = Int32.toInt (M_98 P 30) := congrArg Int32.toInt (q_112.1 P 30 (wc_X8_next_30))
      have c31_112 : Int32.toInt (e_112.2.1 P 31) = Int32.toInt (M_98 P 31) := congrArg Int32.toInt (q_112.1 P 31 (wc_X8_next_31))
      have n_112 : nA P e_112.2.1 = nA P M_98 := nA_congr (fun a j h => q_112.1 a j (wf_nA_X8_next h))
      have p_jY_112 : jY P e_112.2.1 := jY.mono p_jY_98 (fun a j h => q_112.1 a j (wf_jY_X8_next h))
      obtain ⟨u0_jY_112, u1_jY_112, u2_jY_112, u3_jY_112, u4_jY_112, u5_jY_112⟩ := id p_jY_112
      have p_jZ_112 : jZ P e_112.2.1 := jZ.mono p_jZ_98 (fun a j h => q_112.1 a j (wf_jZ_X8_next h))
      obtain ⟨x0_112, x1_112, x2_112, x3_112⟩ := q_112.2.2.2
      obtain ⟨u0_jX_112, u1_jX_112, u2_jX_112, u3_jX_112⟩ := id x0_112
      (try simp only [Int32.toInt_add, Int32.toInt_sub, Int32.toInt_mul, Int32.toInt_toInt64, Int64.toInt_add, z_m1, Int32.reduceToInt, Int64.reduceToInt, Int32.reduceToNatClampNeg, Int.bmod_def] at x1_112)
      (try simp only [Int32.toInt_add, Int32.toInt_sub, Int32.toInt_mul, Int32.toInt_toInt64, Int64.toInt_add, z_m1, Int32.reduceToInt, Int64.reduceToInt, Int32.reduceToNatClampNeg, Int.bmod_def] at x2_112)
      (try simp only [Int32.toInt_add, Int32.toInt_sub, Int32.toInt_mul, Int32.toInt_toInt64, Int64.toInt_add, z_m1, Int32.reduceToInt, Int64.reduceToInt, Int32.reduceToNatClampNeg, Int.bmod_def] at x3_112)
      exact T_116 _ _ k_112 kn_112 x0_112 p_jY_112 p_jZ_112 (by first | omega | (simp only [Int32.toInt_add, Int32.toInt_sub, Int32.toInt_mul, Int32.toInt_toInt64, Int64.toInt_add, z_m1, Int32.reduceToInt, Int64.reduceToInt, Int32.reduceToNatClampNeg, Int.bmod_def, or_true, true_or, and_true, true_and] <;> omega)) (by first | omega | (simp only [Int32.toInt_add, Int32.toInt_sub, Int32.toInt_mul, Int32.toInt_toInt64, Int64.toInt_add, z_m1, Int32.reduceToInt, Int64.reduceToInt, Int32.reduceToNatClampNeg, Int.bmod_def, or_true, true_or, and_true, true_and] <;> omega))
  have T_97 : ∀ (y1_97 : Int32) (M_97 : zMt) (N_97 : zNt), (∀ a j, ¬ WM_X8_readHunter P a j → M_97 a j = M0 a j) → (∀ a j, ¬ WN_X8_readHunter P a j → N_97 a j = N0 a j) → (jX P M_97) → (jY P M_97) → (jZ P M_97) → (Int32.toInt (M0 P 17) ≤ Int32.toInt (M_97 P 17)) → (Int32.toInt (M_97 P 29) ≤ 9) → (0 ≤ Int32.toInt y1_97 ∧ Int32.toInt y1_97 ≤ 9) → ∃ r, D_X8_readHunter_97 P y1_97 M_97 N_97 = some r ∧ ((∀ a j, ¬ WM_X8_readHunter P a j → r.2.1 a j = M0 a j) ∧ (∀ a j, ¬ WN_X8_readHunter P a j → r.2.2 a j = N0 a j) ∧ (r.1 = 0 ∨ r.1 = 1) ∧ ((jX P r.2.1) ∧ (jY P r.2.1) ∧ (jZ P r.2.1) ∧ (Int32.toInt (M0 P 17) ≤ Int32.toInt (r.2.1 P 17)))) := by
    intro y1_97 M_97 N_97 k_97 kn_97 p_jX_97 p_jY_97 p_jZ_97 f0_97 f1_97 f2_97
    obtain ⟨u0_jX_97, u1_jX_97, u2_jX_97, u3_jX_97⟩ := id p_jX_97
    obtain ⟨u0_jY_97, u1_jY_97, u2_jY_97, u3_jY_97, u4_jY_97, u5_jY_97⟩ := id p_jY_97
    unfold D_X8_readHunter_97
    exact T_98 _ _ _ _ k_97 kn_97 p_jX_97 p_jY_97 p_jZ_97 (by first | exact Or.inl rfl | exact Or.inr rfl | assumption) (by first | omega | (simp only [Int32.toInt_add, Int32.toInt_sub, Int32.toInt_mul, Int32.toInt_toInt64, Int64.toInt_add, z_m1, Int32.reduceToInt, Int64.reduceToInt, Int32.reduceToNatClampNeg, Int.bmod_def, or_true, true_or, and_true, true_and] <;> omega)) (by first | omega | (simp only [Int32.toInt_add, Int32.toInt_sub, Int32.toInt_mul, Int32.toInt_toInt64, Int64.toInt_add, z_m1, Int32.reduceToInt, Int64.reduceToInt, Int32.reduceToNatClampNeg, Int.bmod_def, or_true, true_or, and_true, true_and] <;> omega)) (by first | omega | (simp only [Int32.toInt_add, Int32.toInt_sub, Int32.toInt_mul, Int32.toInt_toInt64, Int64.toInt_add, z_m1, Int32.reduceToInt, Int64.reduceToInt, Int32.reduceToNatClampNeg, Int.bmod_def, or_true, true_or, and_true, true_and] <;> omega))
  have T_39 : ∀ (M_39 : zMt) (N_39 : zNt), (∀ a j, ¬ WM_X8_readHunter P a j → M_39 a j = M0 a j) → (∀ a j, ¬ WN_X8_readHunter P a j → N_39 a j = N0 a j) → (jX P M_39) → (jY P M_39) → (jZ P M_39) → (Int32.toInt (M0 P 17) ≤ Int32.toInt (M_39 P 17)) → ∃ r, D_X8_readHunter_39 P M_39 N_39 = some r ∧ ((∀ a j, ¬ WM_X8_readHunter P a j → r.2.1 a j = M0 a j) ∧ (∀ a j, ¬ WN_X8_readHunter P a j → r.2.2 a j = N0 a j) ∧ (r.1 = 0 ∨ r.1 = 1) ∧ ((jX P r.2.1) ∧ (jY P r.2.1) ∧ (jZ P r.2.1) ∧ (Int32.toInt (M0 P 17) ≤ Int32.toInt (r.2.1 P 17)))) := by
    intro M_39 N_39 k_39 kn_39 p_jX_39 p_jY_39 p_jZ_39 f0_39
    obtain ⟨u0_jX_39, u1_jX_39, u2_jX_39, u3_jX_39⟩ := id p_jX_39
    obtain ⟨u0_jY_39, u1_jY_39, u2_jY_39, u3_jY_39, u4_jY_39, u5_jY_39⟩ := id p_jY_39
    unfold D_X8_readHunter_39
    exact ⟨_, rfl, k_39, kn_39, (by first | exact Or.inl rfl | exact Or.inr rfl | assumption), ⟨p_jX_39, p_jY_39, p_jZ_39, (by first | omega | (simp only [Int32.toInt_add, Int32.toInt_sub, Int32.toInt_mul, Int32.toInt_toInt64, Int64.toInt_add, z_m1, Int32.reduceToInt, Int64.reduceToInt, Int32.reduceToNatClampNeg, Int.bmod_def, or_true, true_or, and_true, true_and] <;> omega))⟩⟩
  unfold D_X8_readHunter
  refine vIf (fun h_6 => ?_) (fun h_6 => ?_)
  · have i_6 := congrArg Int32.toInt h_6
    (try simp only [Int32.toInt_add, Int32.toInt_sub, Int32.toInt_mul, Int32.toInt_toInt64, Int64.toInt_add, z_m1, Int32.reduceToInt, Int64.reduceToInt, Int32.reduceToNatClampNeg, Int.bmod_def] at i_6)
    refine vB (v_X8_bad) (fun e_11 f_11 q_11 => ?_)
    have k_11 : ∀ a j, ¬ WM_X8_readHunter P a j → e_11.2 a j = M0 a j := fun a j h => (q_11.1 a j (wz_M_X8_bad_X8_readHunter h))
    have b_11 := q_11.2.1
    have c15_11 : Int32.toInt (e_11.2 P 15) = Int32.toInt (M0 P 15) := congrArg Int32.toInt (q_11.1 P 15 (wc_X8_bad_15))
    have c17_11 : Int32.toInt (e_11.2 P 17) = Int32.toInt (M0 P 17) := congrArg Int32.toInt (q_11.1 P 17 (wc_X8_bad_17))
    have c18_11 : Int32.toInt (e_11.2 P 18) = Int32.toInt (M0 P 18) := congrArg Int32.toInt (q_11.1 P 18 (wc_X8_bad_18))
    have c20_11 : Int32.toInt (e_11.2 P 20) = Int32.toInt (M0 P 20) := congrArg Int32.toInt (q_11.1 P 20 (wc_X8_bad_20))
    have c28_11 : Int32.toInt (e_11.2 P 28) = Int32.toInt (M0 P 28) := congrArg Int32.toInt (q_11.1 P 28 (wc_X8_bad_28))
    have c29_11 : Int32.toInt (e_11.2 P 29) = Int32.toInt (M0 P 29) := congrArg Int32.toInt (q_11.1 P 29 (wc_X8_bad_29))
    have c30_11 : Int32.toInt (e_11.2 P 30) = Int32.toInt (M0 P 30) := congrArg Int32.toInt (q_11.1 P 30 (wc_X8_bad_30))
    have c31_11 : Int32.toInt (e_11.2 P 31) = Int32.toInt (M0 P 31) := congrArg Int32.toInt (q_11.1 P 31 (wc_X8_bad_31))
    have n_11 : nA P e_11.2 = nA P M0 := nA_congr (fun a j h => q_11.1 a j (wf_nA_X8_bad h))
    have p_jX_11 : jX P e_11.2 := jX.mono p_jX (fun a j h => q_11.1 a j (wf_jX_X8_bad h))
    obtain ⟨u0_jX_11, u1_jX_11, u2_jX_11, u3_jX_11⟩ := id p_jX_11
    have p_jY_11 : jY P e_11.2 := jY.mono p_jY (fun a j h => q_11.1 a j (wf_jY_X8_bad h))
    obtain ⟨u0_jY_11, u1_jY_11, u2_jY_11, u3_jY_11, u4_jY_11, u5_jY_11⟩ := id p_jY_11
    have p_jZ_11 : jZ P e_11.2 := jZ.mono p_jZ (fun a j h => q_11.1 a j (wf_jZ_X8_bad h))
    have x0_11 := q_11.2.2
    (try simp only [Int32.toInt_add, Int32.toInt_sub, Int32.toInt_mul, Int32.toInt_toInt64, Int64.toInt_add, z_m1, Int32.reduceToInt, Int64.reduceToInt, Int32.reduceToNatClampNeg, Int.bmod_def] at x0_11)
    exact ⟨_, rfl, k_11, (fun _ _ _ => rfl), (by first | exact Or.inl rfl | exact Or.inr rfl | assumption), ⟨p_jX_11, p_jY_11, p_jZ_11, (by first | omega | (simp only [Int32.toInt_add, Int32.toInt_sub, Int32.toInt_mul, Int32.toInt_toInt64, Int64.toInt_add, z_m1, Int32.reduceToInt, Int64.reduceToInt, Int32.reduceToNatClampNeg, Int.bmod_def, or_true, true_or, and_true, true_and] <;> omega))⟩⟩
  · have i_6 : ¬ Int32.toInt (M0 P 29) = Int32.toInt (10 : Int32) := fun q => h_6 (Int32.toInt_inj.mp q)
    (try simp only [Int32.toInt_add, Int32.toInt_sub, Int32.toInt_mul, Int32.toInt_toInt64, Int64.toInt_add, z_m1, Int32.reduceToInt, Int64.reduceToInt, Int32.reduceToNatClampNeg, Int.bmod_def] at i_6)
    refine vB (v_X8_next p_jX) (fun e_16 f_16 q_16 => ?_)
    have k_16 : ∀ a j, ¬ WM_X8_readHunter P a j → e_16.2.1 a j = M0 a j := fun a j h => (q_16.1 a j (wz_M_X8_next_X8_readHunter h))
    have kn_16 : ∀ a j, ¬ WN_X8_readHunter P a j → e_16.2.2 a j = N0 a j := fun a j h => (q_16.2.1 a j (wz_N_X8_next_X8_readHunter h))
    have b_16 := q_16.2.2.1
    have c15_16 : Int32.toInt (e_16.2.1 P 15) = Int32.toInt (M0 P 15) := congrArg Int32.toInt (q_16.1 P 15 (wc_X8_next_15))
    have c28_16 : Int32.toInt (e_16.2.1 P 28) = Int32.toInt (M0 P 28) := congrArg Int32.toInt (q_16.1 P 28 (wc_X8_next_28))
    have c29_16 : Int32.toInt (e_16.2.1 P 29) = Int32.toInt (M0 P 29) := congrArg Int32.toInt (q_16.1 P 29 (wc_X8_next_29))
    have c30_16 : Int32.toInt (e_16.2.1 P 30) = Int32.toInt (M0 P 30) := congrArg Int32.toInt (q_16.1 P 30 (wc_X8_next_30))
    have c31_16 : Int32.toInt (e_16.2.1 P 31) = Int32.toInt (M0 P 31) := congrArg Int32.toInt (q_16.1 P 31 (wc_X8_next_31))
    have n_16 : nA P e_16.2.1 = nA P M0 := nA_congr (fun a j h => q_16.1 a j (wf_nA_X8_next h))
    have p_jY_16 : jY P e_16.2.1 := jY.mono p_jY (fun a j h => q_16.1 a j (wf_jY_X8_next h))
    obtain ⟨u0_jY_16, u1_jY_16, u2_jY_16, u3_jY_16, u4_jY_16, u5_jY_16⟩ := id p_jY_16
    have p_jZ_16 : jZ P e_16.2.1 := jZ.mono p_jZ (fun a j h => q_16.1 a j (wf_jZ_X8_next h))
    obtain ⟨x0_16, x1_16, x2_16, x3_16⟩ := q_16.2.2.2
    obtain ⟨u0_jX_16, u1_jX_16, u2_jX_16, u3_jX_16⟩ := id x0_16
    (try simp only [Int32.toInt_add, Int32.toInt_sub, Int32.toInt_mul, Int32.toInt_toInt64, Int64.toInt_add, z_m1, Int32.reduceToInt, Int64.reduceToInt, Int32.reduceToNatClampNeg, Int.bmod_def] at x1_16)
    (try simp only [Int32.toInt_add, Int32.toInt_sub, Int32.toInt_mul, Int32.toInt_toInt64, Int64.toInt_add, z_m1, Int32.reduceToInt, Int64.reduceToInt, Int32.reduceToNatClampNeg, Int.bmod_def] at x2_16)
    (try simp only [Int32.toInt_add, Int32.toInt_sub, Int32.toInt_mul, Int32.toInt_toInt64, Int64.toInt_add, z_m1, Int32.reduceToInt, Int64.reduceToInt, Int32.reduceToNatClampNeg, Int.bmod_def] at x3_16)
    refine vIf (fun h_19 => ?_) (fun h_19 => ?_)
    · have i_19 := congrArg Int32.toInt h_19
      (try simp only [Int32.toInt_add, Int32.toInt_sub, Int32.toInt_mul, Int32.toInt_toInt64, Int64.toInt_add, z_m1, Int32.reduceToInt, Int64.reduceToInt, Int32.reduceToNatClampNeg, Int.bmod_def] at i_19)
      exact T_39 _ _ k_16 kn_16 x0_16 p_jY_16 p_jZ_16 (by first | omega | (simp only [Int32.toInt_add, Int32.toInt_sub, Int32.toInt_mul, Int32.toInt_toInt64, Int64.toInt_add, z_m1, Int32.reduceToInt, Int64.reduceToInt, Int32.reduceToNatClampNeg, Int.bmod_def, or_true, true_or, and_true, true_and] <;> omega))
    · have i_19 : ¬ Int32.toInt e_16.1 = Int32.toInt (0 : Int32) := fun q => h_19 (Int32.toInt_inj.mp q)
      (try simp only [Int32.toInt_add, Int32.toInt_sub, Int32.toInt_mul, Int32.toInt_toInt64, Int64.toInt_add, z_m1, Int32.reduceToInt, Int64.reduceToInt, Int32.reduceToNatClampNeg, Int.bmod_def] at i_19)
      refine vB (v_X8_newName x0_16 p_jY_16) (fun e_23 f_23 q_23 => ?_)
      have k_23 : ∀ a j, ¬ WM_X8_readHunter P a j → e_23.2.1 a j = M0 a j := fun a j h => (q_23.1 a j (wz_M_X8_newName_X8_readHunter h)).trans (k_16 a j h)
      have kn_23 : ∀ a j, ¬ WN_X8_readHunter P a j → e_23.2.2 a j = N0 a j := fun a j h => (q_23.2.1 a j (wz_N_X8_newName_X8_readHunter h)).trans (kn_16 a j h)
      have b_23 := q_23.2.2.1
      have c15_23 : Int32.toInt (e_23.2.1 P 15) = Int32.toInt (e_16.2.1 P 15) := congrArg Int32.toInt (q_23.1 P 15 (wc_X8_newName_15))
      have c28_23 : Int32.toInt (e_23.2.1 P 28) = Int32.toInt (e_16.2.1 P 28) := congrArg Int32.toInt (q_23.1 P 28 (wc_X8_newName_28))
      have c29_23 : Int32.toInt (e_23.2.1 P 29) = Int32.toInt (e_16.2.1 P 29) := congrArg Int32.toInt (q_23.1 P 29 (wc_X8_newName_29))
      have c30_23 : Int32.toInt (e_23.2.1 P 30) = Int32.toInt (e_16.2.1 P 30) := congrArg Int32.toInt (q_23.1 P 30 (wc_X8_newName_30))
      have c31_23 : Int32.toInt (e_23.2.1 P 31) = Int32.toInt (e_16.2.1 P 31) := congrArg Int32.toInt (q_23.1 P 31 (wc_X8_newName_31))
      have n_23 : nA P e_23.2.1 = nA P e_16.2.1 := nA_congr (fun a j h => q_23.1 a j (wf_nA_X8_newName h))
      have p_jY_23 : jY P e_23.2.1 := jY.mono p_jY_16 (fun a j h => q_23.1 a j (wf_jY_X8_newName h))
      obtain ⟨u0_jY_23, u1_jY_23, u2_jY_23, u3_jY_23, u4_jY_23, u5_jY_23⟩ := id p_jY_23
      have p_jZ_23 : jZ P e_23.2.1 := jZ.mono p_jZ_16 (fun a j h => q_23.1 a j (wf_jZ_X8_newName h))
      obtain ⟨x0_23, x1_23⟩ := q_23.2.2.2
      obtain ⟨u0_jX_23, u1_jX_23, u2_jX_23, u3_jX_23⟩ := id x0_23
      (try simp only [Int32.toInt_add, Int32.toInt_sub, Int32.toInt_mul, Int32.toInt_toInt64, Int64.toInt_add, z_m1, Int32.reduceToInt, Int64.reduceToInt, Int32.reduceToNatClampNeg, Int.bmod_def] at x1_23)
      refine vIf (fun h_26 => ?_) (fun h_26 => ?_)
      · have i_26 := congrArg Int32.toInt h_26
        (try simp only [Int32.toInt_add, Int32.toInt_sub, Int32.toInt_mul, Int32.toInt_toInt64, Int64.toInt_add, z_m1, Int32.reduceToInt, Int64.reduceToInt, Int32.reduceToNatClampNeg, Int.bmod_def] at i_26)
        exact T_39 _ _ k_23 kn_23 x0_23 p_jY_23 p_jZ_23 (by first | omega | (simp only [Int32.toInt_add, Int32.toInt_sub, Int32.toInt_mul, Int32.toInt_toInt64, Int64.toInt_add, z_m1, Int32.reduceToInt, Int64.reduceToInt, Int32.reduceToNatClampNeg, Int.bmod_def, or_true, true_or, and_true, true_and] <;> omega))
      · have i_26 : ¬ Int32.toInt e_23.1 = Int32.toInt (0 : Int32) := fun q => h_26 (Int32.toInt_inj.mp q)
        (try simp only [Int32.toInt_add, Int32.toInt_sub, Int32.toInt_mul, Int32.toInt_toInt64, Int64.toInt_add, z_m1, Int32.reduceToInt, Int64.reduceToInt, Int32.reduceToNatClampNeg, Int.bmod_def] at i_26)
        refine vB (v_X8_number x0_23 p_jY_23 (by first | omega | (simp only [Int32.toInt_add, Int32.toInt_sub, Int32.toInt_mul, Int32.toInt_toInt64, Int64.toInt_add, z_m1, Int32.reduceToInt, Int64.reduceToInt, Int32.reduceToNatClampNeg, Int.bmod_def, or_true, true_or, and_true, true_and] <;> omega))) (fun e_33 f_33 q_33 => ?_)
        have k_33 : ∀ a j, ¬ WM_X8_readHunter P a j → e_33.2.1 a j = M0 a j := fun a j h => (q_33.1 a j (wz_M_X8_number_X8_readHunter h)).trans (k_23 a j h)
        have kn_33 : ∀ a j, ¬ WN_X8_readHunter P a j → e_33.2.2 a j = N0 a j := fun a j h => (q_33.2.1 a j (wz_N_X8_number_X8_readHunter h)).trans (kn_23 a j h)
        have b_33 := q_33.2.2.1
        have c15_33 : Int32.toInt (e_33.2.1 P 15) = Int32.toInt (e_23.2.1 P 15) := congrArg Int32.toInt (q_33.1 P 15 (wc_X8_number_15))
        have c28_33 : Int32.toInt (e_33.2.1 P 28) = Int32.toInt (e_23.2.1 P 28) := congrArg Int32.toInt (q_33.1 P 28 (wc_X8_number_28))
        have c29_33 : Int32.toInt (e_33.2.1 P 29) = Int32.toInt (e_23.2.1 P 29) := congrArg Int32.toInt (q_33.1 P 29 (wc_X8_number_29))
        have c30_33 : Int32.toInt (e_33.2.1 P 30) = Int32.toInt (e_23.2.1 P 30) := congrArg Int32.toInt (q_33.1 P 30 (wc_X8_number_30))
        have n_33 : nA P e_33.2.1 = nA P e_23.2.1 := nA_congr (fun a j h => q_33.1 a j (wf_nA_X8_number h))
        have p_jY_33 : jY P e_33.2.1 := jY.mono p_jY_23 (fun a j h => q_33.1 a j (wf_jY_X8_number h))
        obtain ⟨u0_jY_33, u1_jY_33, u2_jY_33, u3_jY_33, u4_jY_33, u5_jY_33⟩ := id p_jY_33
        have p_jZ_33 : jZ P e_33.2.1 := jZ.mono p_jZ_23 (fun a j h => q_33.1 a j (wf_jZ_X8_number h))
        obtain ⟨x0_33, x1_33, x2_33⟩ := q_33.2.2.2
        obtain ⟨u0_jX_33, u1_jX_33, u2_jX_33, u3_jX_33⟩ := id x0_33
        (try simp only [Int32.toInt_add, Int32.toInt_sub, Int32.toInt_mul, Int32.toInt_toInt64, Int64.toInt_add, z_m1, Int32.reduceToInt, Int64.reduceToInt, Int32.reduceToNatClampNeg, Int.bmod_def] at x1_33)
        (try simp only [Int32.toInt_add, Int32.toInt_sub, Int32.toInt_mul, Int32.toInt_toInt64, Int64.toInt_add, z_m1, Int32.reduceToInt, Int64.reduceToInt, Int32.reduceToNatClampNeg, Int.bmod_def] at x2_33)
        refine vIf (fun h_36 => ?_) (fun h_36 => ?_)
        · have i_36 := congrArg Int32.toInt h_36
          (try simp only [Int32.toInt_add, Int32.toInt_sub, Int32.toInt_mul, Int32.toInt_toInt64, Int64.toInt_add, z_m1, Int32.reduceToInt, Int64.reduceToInt, Int32.reduceToNatClampNeg, Int.bmod_def] at i_36)
          exact T_39 _ _ k_33 kn_33 x0_33 p_jY_33 p_jZ_33 (by first | omega | (simp only [Int32.toInt_add, Int32.toInt_sub, Int32.toInt_mul, Int32.toInt_toInt64, Int64.toInt_add, z_m1, Int32.reduceToInt, Int64.reduceToInt, Int32.reduceToNatClampNeg, Int.bmod_def, or_true, true_or, and_true, true_and] <;> omega))
        · have i_36 : ¬ Int32.toInt e_33.1 = Int32.toInt (0 : Int32) := fun q => h_36 (Int32.toInt_inj.mp q)
          (try simp only [Int32.toInt_add, Int32.toInt_sub, Int32.toInt_mul, Int32.toInt_toInt64, Int64.toInt_add, z_m1, Int32.reduceToInt, Int64.reduceToInt, Int32.reduceToNatClampNeg, Int.bmod_def] at i_36)
          refine vI (vp_of (by first | omega | (simp only [Int32.toInt_add, Int32.toInt_sub, Int32.toInt_mul, Int32.toInt_toInt64, Int64.toInt_add, z_m1, Int32.reduceToInt, Int64.reduceToInt, Int32.reduceToNatClampNeg, Int.bmod_def, or_true, true_or, and_true, true_and] <;> omega)) (by first | omega | (simp only [Int32.toInt_add, Int32.toInt_sub, Int32.toInt_mul, Int32.toInt_toInt64, Int64.toInt_add, z_m1, Int32.reduceToInt, Int64.reduceToInt, Int32.reduceToNatClampNeg, Int.bmod_def, or_true, true_or, and_true, true_and] <;> omega))) ?_
          refine vLn (W := WN_X8_readHunter P) (fun a j h => (zu_ne (fun z => wq_X8_readHunter_N9_r h z.1)).trans (kn_33 a j h)) (fun N_53 f_53 kn_53 => ?_)
          refine vI (vp_of (by first | omega | (simp only [Int32.toInt_add, Int32.toInt_sub, Int32.toInt_mul, Int32.toInt_toInt64, Int64.toInt_add, z_m1, Int32.reduceToInt, Int64.reduceToInt, Int32.reduceToNatClampNeg, Int.bmod_def, or_true, true_or, and_true, true_and] <;> omega)) (by first | omega | (simp only [Int32.toInt_add, Int32.toInt_sub, Int32.toInt_mul, Int32.toInt_toInt64, Int64.toInt_add, z_m1, Int32.reduceToInt, Int64.reduceToInt, Int32.reduceToNatClampNeg, Int.bmod_def, or_true, true_or, and_true, true_and] <;> omega))) ?_
          refine vLm (W := WM_X8_readHunter P) (fun a j h => (zu_ne (fun z => wq_X8_readHunter_M2_r h z.1)).trans (k_33 a j h)) (fun M_68 f_68 k_68 => ?_)
          have c15_68 : Int32.toInt (M_68 P 15) = Int32.toInt (e_33.2.1 P 15) := congrArg Int32.toInt ((congrFun (congrFun f_68.symm P) 15).trans (zu_ne (fun z => wq_pne0 (by decide) z.1)))
          have c17_68 : Int32.toInt (M_68 P 17) = Int32.toInt (e_33.2.1 P 17) := congrArg Int32.toInt ((congrFun (congrFun f_68.symm P) 17).trans (zu_ne (fun z => wq_pne0 (by decide) z.1)))
          have c18_68 : Int32.toInt (M_68 P 18) = Int32.toInt (e_33.2.1 P 18) := congrArg Int32.toInt ((congrFun (congrFun f_68.symm P) 18).trans (zu_ne (fun z => wq_pne0 (by decide) z.1)))
          have c20_68 : Int32.toInt (M_68 P 20) = Int32.toInt (e_33.2.1 P 20) := congrArg Int32.toInt ((congrFun (congrFun f_68.symm P) 20).trans (zu_ne (fun z => wq_pne0 (by decide) z.1)))
          have c28_68 : Int32.toInt (M_68 P 28) = Int32.toInt (e_33.2.1 P 28) := congrArg Int32.toInt ((congrFun (congrFun f_68.symm P) 28).trans (zu_ne (fun z => wq_pne0 (by decide) z.1)))
          have c29_68 : Int32.toInt (M_68 P 29) = Int32.toInt (e_33.2.1 P 29) := congrArg Int32.toInt ((congrFun (congrFun f_68.symm P) 29).trans (zu_ne (fun z => wq_pne0 (by decide) z.1)))
          have c30_68 : Int32.toInt (M_68 P 30) = Int32.toInt (e_33.2.1 P 30) := congrArg Int32.toInt ((congrFun (congrFun f_68.symm P) 30).trans (zu_ne (fun z => wq_pne0 (by decide) z.1)))
          have c31_68 : Int32.toInt (M_68 P 31) = Int32.toInt (e_33.2.1 P 31) := congrArg Int32.toInt ((congrFun (congrFun f_68.symm P) 31).trans (zu_ne (fun z => wq_pne0 (by decide) z.1)))
          have n_68 : nA P M_68 = nA P e_33.2.1 := nA_congr (fun a j h => (congrFun (congrFun f_68.symm a) j).trans (zu_ne (fun z => wf_nA_M2_r h z.1)))
          have p_jY_68 : jY P M_68 := jY.mono p_jY_33 (fun a j h => (congrFun (congrFun f_68.symm a) j).trans (zu_ne (fun z => wf_jY_M2_r h z.1)))
          obtain ⟨u0_jY_68, u1_jY_68, u2_jY_68, u3_jY_68, u4_jY_68, u5_jY_68⟩ := id p_jY_68
          have p_jZ_68 : jZ P M_68 := jZ.put p_jZ_33 (by omega) f_68 (Or.inl ⟨(by have h1 := z_cl (x := (0 : Int32) + e_33.2.1 P 29) (by first | omega | (simp only [Int32.toInt_add, Int32.toInt_sub, Int32.toInt_mul, Int32.toInt_toInt64, Int64.toInt_add, z_m1, Int32.reduceToInt, Int64.reduceToInt, Int32.reduceToNatClampNeg, Int.bmod_def, or_true, true_or, and_true, true_and] <;> omega)); have h2 : 0 ≤ Int32.toInt ((0 : Int32) + e_33.2.1 P 29) ∧ Int32.toInt ((0 : Int32) + e_33.2.1 P 29) < 10 := (by first | omega | (simp only [Int32.toInt_add, Int32.toInt_sub, Int32.toInt_mul, Int32.toInt_toInt64, Int64.toInt_add, z_m1, Int32.reduceToInt, Int64.reduceToInt, Int32.reduceToNatClampNeg, Int.bmod_def, or_true, true_or, and_true, true_and] <;> omega)); omega), (by first | omega | (simp only [Int32.toInt_add, Int32.toInt_sub, Int32.toInt_mul, Int32.toInt_toInt64, Int64.toInt_add, z_m1, Int32.reduceToInt, Int64.reduceToInt, Int32.reduceToNatClampNeg, Int.bmod_def, or_true, true_or, and_true, true_and] <;> omega)), (by first | omega | (simp only [Int32.toInt_add, Int32.toInt_sub, Int32.toInt_mul, Int32.toInt_toInt64, Int64.toInt_add, z_m1, Int32.reduceToInt, Int64.reduceToInt, Int32.reduceToNatClampNeg, Int.bmod_def, or_true, true_or, and_true, true_and] <;> omega))⟩)
          have p_jX_68 : jX P M_68 := jX.mono x0_33 (fun a j h => (congrFun (congrFun f_68.symm a) j).trans (zu_ne (fun z => wf_jX_M2_r h z.1)))
          obtain ⟨u0_jX_68, u1_jX_68, u2_jX_68, u3_jX_68⟩ := id p_jX_68
          refine vIf (fun h_82 => ?_) (fun h_82 => ?_)
          · have i_82 := congrArg Int32.toInt h_82
            (try simp only [Int32.toInt_add, Int32.toInt_sub, Int32.toInt_mul, Int32.toInt_toInt64, Int64.toInt_add, z_m1, Int32.reduceToInt, Int64.reduceToInt, Int32.reduceToNatClampNeg, Int.bmod_def] at i_82)
            refine vIf (fun h_90 => ?_) (fun h_90 => ?_)
            · have i_90 := congrArg Int32.toInt h_90
              (try simp only [Int32.toInt_add, Int32.toInt_sub, Int32.toInt_mul, Int32.toInt_toInt64, Int64.toInt_add, z_m1, Int32.reduceToInt, Int64.reduceToInt, Int32.reduceToNatClampNeg, Int.bmod_def] at i_90)
              exact T_98 _ _ _ _ k_68 kn_53 p_jX_68 p_jY_68 p_jZ_68 (by first | exact Or.inl rfl | exact Or.inr rfl | assumption) (by first | omega | (simp only [Int32.toInt_add, Int32.toInt_sub, Int32.toInt_mul, Int32.toInt_toInt64, Int64.toInt_add, z_m1, Int32.reduceToInt, Int64.reduceToInt, Int32.reduceToNatClampNeg, Int.bmod_def, or_true, true_or, and_true, true_and] <;> omega)) (by first | omega | (simp only [Int32.toInt_add, Int32.toInt_sub, Int32.toInt_mul, Int32.toInt_toInt64, Int64.toInt_add, z_m1, Int32.reduceToInt, Int64.reduceToInt, Int32.reduceToNatClampNeg, Int.bmod_def, or_true, true_or, and_true, true_and] <;> omega)) (by first | omega | (simp only [Int32.toInt_add, Int32.toInt_sub, Int32.toInt_mul, Int32.toInt_toInt64, Int64.toInt_add, z_m1, Int32.reduceToInt, Int64.reduceToInt, Int32.reduceToNatClampNeg, Int.bmod_def, or_true, true_or, and_true, true_and] <;> omega))
            · have i_90 : ¬ Int32.toInt (M_68 P 19) = Int32.toInt (2 : Int32) := fun q => h_90 (Int32.toInt_inj.mp q)
              (try simp only [Int32.toInt_add, Int32.toInt_sub, Int32.toInt_mul, Int32.toInt_toInt64, Int64.toInt_add, z_m1, Int32.reduceToInt, Int64.reduceToInt, Int32.reduceToNatClampNeg, Int.bmod_def] at i_90)
              exact T_97 _ _ _ k_68 kn_53 p_jX_68 p_jY_68 p_jZ_68 (by first | omega | (simp only [Int32.toInt_add, Int32.toInt_sub, Int32.toInt_mul, Int32.toInt_toInt64, Int64.toInt_add, z_m1, Int32.reduceToInt, Int64.reduceToInt, Int32.reduceToNatClampNeg, Int.bmod_def, or_true, true_or, and_true, true_and] <;> omega)) (by first | omega | (simp only [Int32.toInt_add, Int32.toInt_sub, Int32.toInt_mul, Int32.toInt_toInt64, Int64.toInt_add, z_m1, Int32.reduceToInt, Int64.reduceToInt, Int32.reduceToNatClampNeg, Int.bmod_def, or_true, true_or, and_true, true_and] <;> omega)) (by first | omega | (simp only [Int32.toInt_add, Int32.toInt_sub, Int32.toInt_mul, Int32.toInt_toInt64, Int64.toInt_add, z_m1, Int32.reduceToInt, Int64.reduceToInt, Int32.reduceToNatClampNeg, Int.bmod_def, or_true, true_or, and_true, true_and] <;> omega))
          · have i_82 : ¬ Int32.toInt (M_68 P 18) = Int32.toInt (2 : Int32) := fun q => h_82 (Int32.toInt_inj.mp q)
            (try simp only [Int32.toInt_add, Int32.toInt_sub, Int32.toInt_mul, Int32.toInt_toInt64, Int64.toInt_add, z_m1, Int32.reduceToInt, Int64.reduceToInt, Int32.reduceToNatClampNeg, Int.bmod_def] at i_82)
            exact T_97 _ _ _ k_68 kn_53 p_jX_68 p_jY_68 p_jZ_68 (by first | omega | (simp only [Int32.toInt_add, Int32.toInt_sub, Int32.toInt_mul, Int32.toInt_toInt64, Int64.toInt_add, z_m1, Int32.reduceToInt, Int64.reduceToInt, Int32.reduceToNatClampNeg, Int.bmod_def, or_true, true_or, and_true, true_and] <;> omega)) (by first | omega | (simp only [Int32.toInt_add, Int32.toInt_sub, Int32.toInt_mul, Int32.toInt_toInt64, Int64.toInt_add, z_m1, Int32.reduceToInt, Int64.reduceToInt, Int32.reduceToNatClampNeg, Int.bmod_def, or_true, true_or, and_true, true_and] <;> omega)) (by first | omega | (simp only [Int32.toInt_add, Int32.toInt_sub, Int32.toInt_mul, Int32.toInt_toInt64, Int64.toInt_add, z_m1, Int32.reduceToInt, Int64.reduceToInt, Int32.reduceToNatClampNeg, Int.bmod_def, or_true, true_or, and_true, true_and] <;> omega))
def WM_X8_readAsks (P : Nat) (a j : Nat) : Prop := (P + 2 ≤ a ∧ a < P + 3) ∨ (a = P ∧ (j = 16 ∨ j = 17 ∨ j = 18 ∨ j = 19 ∨ j = 20 ∨ j = 21 ∨ j = 22))
def WN_X8_readAsks (P : Nat) (a j : Nat) : Prop := (a = P ∧ (j = 24))
theorem wz_M_X8_bad_X8_readAsks {P a j : Nat} (h : ¬ WM_X8_readAsks P a j) : ¬ WM_X8_bad P a j := by unfold WM_X8_bad; unfold WM_X8_readAsks at h; omega
theorem wq_X8_readAsks_M2_r {P a j : Nat} (h : ¬ WM_X8_readAsks P a j) : ¬ a = P + 2 := by unfold WM_X8_readAsks at h; omega
theorem wz_M_X8_next_X8_readAsks {P a j : Nat} (h : ¬ WM_X8_readAsks P a j) : ¬ WM_X8_next P a j := by unfold WM_X8_next; unfold WM_X8_readAsks at h; omega
theorem wz_N_X8_next_X8_readAsks {P a j : Nat} (h : ¬ WN_X8_readAsks P a j) : ¬ WN_X8_next P a j := by unfold WN_X8_next; unfold WN_X8_readAsks at h; omega
set_option maxRecDepth 100000 in
set_option maxHeartbeats 4000000 in
theorem v_X8_readAsks {P : Nat}  {M0 : zMt} {N0 : zNt}  (p_jX : jX P M0) (p_jY : jY P M0) (p_jZ : jZ P M0) : ∃ r, D_X8_readAsks P M0 N0 = some r ∧ ((∀ a j, ¬ WM_X8_readAsks P a j → r.2.1 a j = M0 a j) ∧ (∀ a j, ¬ WN_X8_readAsks P a j → r.2.2 a j = N0 a j) ∧ (r.1 = 0 ∨ r.1 = 1) ∧ ((jX P r.2.1) ∧ (jY P r.2.1) ∧ (jZ P r.2.1) ∧ (Int32.toInt (M0 P 17) ≤ Int32.toInt (r.2.1 P 17)))) := by
  obtain ⟨u0_jX, u1_jX, u2_jX, u3_jX⟩ := id p_jX
  obtain ⟨u0_jY, u1_jY, u2_jY, u3_jY, u4_jY, u5_jY⟩ := id p_jY
  have T_149 : ∀ (M_149 : zMt) (N_149 : zNt), (∀ a j, ¬ WM_X8_readAsks P a j → M_149 a j = M0 a j) → (∀ a j, ¬ WN_X8_readAsks P a j → N_149 a j = N0 a j) → (jX P M_149) → (jY P M_149) → (jZ P M_149) → (Int32.toInt (M0 P 17) ≤ Int32.toInt (M_149 P 17)) → ∃ r, D_X8_readAsks_149 P M_149 N_149 = some r ∧ ((∀ a j, ¬ WM_X8_readAsks P a j → r.2.1 a j = M0 a j) ∧ (∀ a j, ¬ WN_X8_readAsks P a j → r.2.2 a j = N0 a j) ∧ (r.1 = 0 ∨ r.1 = 1) ∧ ((jX P r.2.1) ∧ (jY P r.2.1) ∧ (jZ P r.2.1) ∧ (Int32.toInt (M0 P 17) ≤ Int32.toInt (r.2.1 P 17)))) := by
    intro M_149 N_149 k_149 kn_149 p_jX_149 p_jY_149 p_jZ_149 f0_149
    obtain ⟨u0_jX_149, u1_jX_149, u2_jX_149, u3_jX_149⟩ := id p_jX_149
    obtain ⟨u0_jY_149, u1_jY_149, u2_jY_149, u3_jY_149, u4_jY_149, u5_jY_149⟩ := id p_jY_149
    unfold D_X8_readAsks_149
    refine vB (v_X8_bad) (fun e_151 f_151 q_151 => ?_)
    have k_151 : ∀ a j, ¬ WM_X8_readAsks P a j → e_151.2 a j = M0 a j := fun a j h => (q_151.1 a j (wz_M_X8_bad_X8_readAsks h)).trans (k_149 a j h)
    have b_151 := q_151.2.1
    have c15_151 : Int32.toInt (e_151.2 P 15) = Int32.toInt (M_149 P 15) := congrArg Int32.toInt (q_151.1 P 15 (wc_X8_bad_15))
    have c17_151 : Int32.toInt (e_151.2 P 17) = Int32.toInt (M_149 P 17) := congrArg Int32.toInt (q_151.1 P 17 (wc_X8_bad_17))
    have c18_151 : Int32.toInt (e_151.2 P 18) = Int32.toInt (M_149 P 18) := congrArg Int32.toInt (q_151.1 P 18 (wc_X8_bad_18))
    have c20_151 : Int32.toInt (e_151.2 P 20) = Int32.toInt (M_149 P 20) := congrArg Int32.toInt (q_151.1 P 20 (wc_X8_bad_20))
    have c28_151 : Int32.toInt (e_151.2 P 28) = Int32.toInt (M_149 P 28) := congrArg Int32.toInt (q_151.1 P 28 (wc_X8_bad_28))
    have c29_151 : Int32.toInt (e_151.2 P 29) = Int32.toInt (M_149 P 29) := congrArg Int32.toInt (q_151.1 P 29 (wc_X8_bad_29))
    have c30_151 : Int32.toInt (e_151.2 P 30) = Int32.toInt (M_149 P 30) := congrArg Int32.toInt (q_151.1 P 30 (wc_X8_bad_30))
    have c31_151 : Int32.toInt (e_151.2 P 31) = Int32.toInt (M_149 P 31) := congrArg Int32.toInt (q_151.1 P 31 (wc_X8_bad_31))
    have n_151 : nA P e_151.2 = nA P M_149 := nA_congr (fun a j h => q_151.1 a j (wf_nA_X8_bad h))
    have p_jX_151 : jX P e_151.2 := jX.mono p_jX_149 (fun a j h => q_151.1 a j (wf_jX_X8_bad h))
    obtain ⟨u0_jX_151, u1_jX_151, u2_jX_151, u3_jX_151⟩ := id p_jX_151
    have p_jY_151 : jY P e_151.2 := jY.mono p_jY_149 (fun a j h => q_151.1 a j (wf_jY_X8_bad h))
    obtain ⟨u0_jY_151, u1_jY_151, u2_jY_151, u3_jY_151, u4_jY_151, u5_jY_151⟩ := id p_jY_151
    have p_jZ_151 : jZ P e_151.2 := jZ.mono p_jZ_149 (fun a j h => q_151.1 a j (wf_jZ_X8_bad h))
    have x0_151 := q_151.2.2
    (try simp only [Int32.toInt_add, Int32.toInt_sub, Int32.toInt_mul, Int32.toInt_toInt64, Int64.toInt_add, z_m1, Int32.reduceToInt, Int64.reduceToInt, Int32.reduceToNatClampNeg, Int.bmod_def] at x0_151)
    exact ⟨_, rfl, k_151, kn_149, (by first | exact Or.inl rfl | exact Or.inr rfl | assumption), ⟨p_jX_151, p_jY_151, p_jZ_151, (by first | omega | (simp only [Int32.toInt_add, Int32.toInt_sub, Int32.toInt_mul, Int32.toInt_toInt64, Int64.toInt_add, z_m1, Int32.reduceToInt, Int64.reduceToInt, Int32.reduceToNatClampNeg, Int.bmod_def, or_true, true_or, and_true, true_and] <;> omega))⟩⟩
  have TL_124 : ∀ u : Nat, ∀ (x3_124 : Int32) (x4_124 : Int32) (M_124 : zMt) (N_124 : zNt), (∀ a j, ¬ WM_X8_readAsks P a j → M_124 a j = M0 a j) → (∀ a j, ¬ WN_X8_readAsks P a j → N_124 a j = N0 a j) → (jX P M_124) → (jY P M_124) → (jZ P M_124) → (0 ≤ Int32.toInt x4_124) → (Int32.toInt (M0 P 17) ≤ Int32.toInt (M_124 P 17)) → (20 ≤ Int32.toInt x3_124 ∧ Int32.toInt x3_124 ≤ 59) → (0 ≤ Int32.toInt x4_124 ∧ Int32.toInt x4_124 ≤ 3) → (3 - Int32.toInt x4_124).toNat < u → ∃ r, D_X8_readAsks_124 P u x3_124 x4_124 M_124 N_124 = some r ∧ ((∀ a j, ¬ WM_X8_readAsks P a j → r.2.1 a j = M0 a j) ∧ (∀ a j, ¬ WN_X8_readAsks P a j → r.2.2 a j = N0 a j) ∧ (r.1 = 0 ∨ r.1 = 1) ∧ ((jX P r.2.1) ∧ (jY P r.2.1) ∧ (jZ P r.2.1) ∧ (Int32.toInt (M0 P 17) ≤ Int32.toInt (r.2.1 P 17)))) := by
    intro u
    induction u with
    | zero => intro x3_124 x4_124 M_124 N_124 k_124 kn_124 p_jX_124 p_jY_124 p_jZ_124 f0_124 f1_124 f2_124 f3_124 hm_124; exact absurd hm_124 (Nat.not_lt_zero _)
    | succ u_124 ih_124 =>
      have TL_187 : ∀ u : Nat, ∀ (x3_187 : Int32) (x4_187 : Int32) (x5_187 : Int32) (x6_187 : Int32) (M_187 : zMt) (N_187 : zNt), (∀ a j, ¬ WM_X8_readAsks P a j → M_187 a j = M0 a j) → (∀ a j, ¬ WN_X8_readAsks P a j → N_187 a j = N0 a j) → (jX P M_187) → (jY P M_187) → (jZ P M_187) → (0 ≤ Int32.toInt x4_187) → (0 ≤ Int32.toInt x6_187) → (Int32.toInt (M0 P 17) ≤ Int32.toInt (M_187 P 17)) → (20 ≤ Int32.toInt x3_187 ∧ Int32.toInt x3_187 ≤ 59) → (0 ≤ Int32.toInt x4_187 ∧ Int32.toInt x4_187 ≤ 2) → (0 ≤ Int32.toInt x5_187 ∧ Int32.toInt x5_187 < Int32.toInt (M_187 P 28)) → (0 ≤ Int32.toInt x6_187 ∧ Int32.toInt x6_187 ≤ Int32.toInt x4_187) → ((3 - Int32.toInt x4_187).toNat < u_124 + 1) → (2147483648 - Int32.toInt x6_187).toNat < u → ∃ r, D_X8_readAsks_187 P (D_X8_readAsks_124 P u_124) u x3_187 x4_187 x5_187 x6_187 M_187 N_187 = some r ∧ ((∀ a j, ¬ WM_X8_readAsks P a j → r.2.1 a j = M0 a j) ∧ (∀ a j, ¬ WN_X8_readAsks P a j → r.2.2 a j = N0 a j) ∧ (r.1 = 0 ∨ r.1 = 1) ∧ ((jX P r.2.1) ∧ (jY P r.2.1) ∧ (jZ P r.2.1) ∧ (Int32.toInt (M0 P 17) ≤ Int32.toInt (r.2.1 P 17)))) := by
        intro u
        induction u with
        | zero => intro x3_187 x4_187 x5_187 x6_187 M_187 N_187 k_187 kn_187 p_jX_187 p_jY_187 p_jZ_187 f0_187 f1_187 f2_187 f3_187 f4_187 f5_187 f6_187 f7_187 hm_187; exact absurd hm_187 (Nat.not_lt_zero _)
        | succ u_187 ih_187 =>
          intro x3_187 x4_187 x5_187 x6_187 M_187 N_187 k_187 kn_187 p_jX_187 p_jY_187 p_jZ_187 f0_187 f1_187 f2_187 f3_187 f4_187 f5_187 f6_187 f7_187 hm_187
          obtain ⟨u0_jX_187, u1_jX_187, u2_jX_187, u3_jX_187⟩ := id p_jX_187
          obtain ⟨u0_jY_187, u1_jY_187, u2_jY_187, u3_jY_187, u4_jY_187, u5_jY_187⟩ := id p_jY_187
          rw [D_X8_readAsks_187]
          refine vIf (fun h_191 => ?_) (fun h_191 => ?_)
          · have i_191 := Int32.le_iff_toInt_le.mp h_191
            (try simp only [Int32.toInt_add, Int32.toInt_sub, Int32.toInt_mul, Int32.toInt_toInt64, Int64.toInt_add, z_m1, Int32.reduceToInt, Int64.reduceToInt, Int32.reduceToNatClampNeg, Int.bmod_def] at i_191)
            refine vI (vp_of (by first | omega | (simp only [Int32.toInt_add, Int32.toInt_sub, Int32.toInt_mul, Int32.toInt_toInt64, Int64.toInt_add, z_m1, Int32.reduceToInt, Int64.reduceToInt, Int32.reduceToNatClampNeg, Int.bmod_def, or_true, true_or, and_true, true_and] <;> omega)) (by first | omega | (simp only [Int32.toInt_add, Int32.toInt_sub, Int32.toInt_mul, Int32.toInt_toInt64, Int64.toInt_add, z_m1, Int32.reduceToInt, Int64.reduceToInt, Int32.reduceToNatClampNeg, Int.bmod_def, or_true, true_or, and_true, true_and] <;> omega))) ?_
            refine vLm (W := WM_X8_readAsks P) (fun a j h => (zu_ne (fun z => wq_X8_readAsks_M2_r h z.1)).trans (k_187 a j h)) (fun M_230 f_230 k_230 => ?_)
            have c15_230 : Int32.toInt (M_230 P 15) = Int32.toInt (M_187 P 15) := congrArg Int32.toInt ((congrFun (congrFun f_230.symm P) 15).trans (zu_ne (fun z => wq_pne0 (by decide) z.1)))
            have c17_230 : Int32.toInt (M_230 P 17) = Int32.toInt (M_187 P 17) := congrArg Int32.toInt ((congrFun (congrFun f_230.symm P) 17).trans (zu_ne (fun z => wq_pne0 (by decide) z.1)))
            have c18_230 : Int32.toInt (M_230 P 18) = Int32.toInt (M_187 P 18) := congrArg Int32.toInt ((congrFun (congrFun f_230.symm P) 18).trans (zu_ne (fun z => wq_pne0 (by decide) z.1)))
            have c20_230 : Int32.toInt (M_230 P 20) = Int32.toInt (M_187 P 20) := congrArg Int32.toInt ((congrFun (congrFun f_230.symm P) 20).trans (zu_ne (fun z => wq_pne0 (by decide) z.1)))
            have c28_230 : Int32.toInt (M_230 P 28) = Int32.toInt (M_187 P 28) := congrArg Int32.toInt ((congrFun (congrFun f_230.symm P) 28).trans (zu_ne (fun z => wq_pne0 (by decide) z.1)))
            have c29_230 : Int32.toInt (M_230 P 29) = Int32.toInt (M_187 P 29) := congrArg Int32.toInt ((congrFun (congrFun f_230.symm P) 29).trans (zu_ne (fun z => wq_pne0 (by decide) z.1)))
            have c30_230 : Int32.toInt (M_230 P 30) = Int32.toInt (M_187 P 30) := congrArg Int32.toInt ((congrFun (congrFun f_230.symm P) 30).trans (zu_ne (fun z => wq_pne0 (by decide) z.1)))
            have c31_230 : Int32.toInt (M_230 P 31) = Int32.toInt (M_187 P 31) := congrArg Int32.toInt ((congrFun (congrFun f_230.symm P) 31).trans (zu_ne (fun z => wq_pne0 (by decide) z.1)))
            have n_230 : nA P M_230 = nA P M_187 := nA_congr (fun a j h => (congrFun (congrFun f_230.symm a) j).trans (zu_ne (fun z => wf_nA_M2_r h z.1)))
            have p_jX_230 : jX P M_230 := jX.mono p_jX_187 (fun a j h => (congrFun (congrFun f_230.symm a) j).trans (zu_ne (fun z => wf_jX_M2_r h z.1)))
            obtain ⟨u0_jX_230, u1_jX_230, u2_jX_230, u3_jX_230⟩ := id p_jX_230
            have p_jY_230 : jY P M_230 := jY.mono p_jY_187 (fun a j h => (congrFun (congrFun f_230.symm a) j).trans (zu_ne (fun z => wf_jY_M2_r h z.1)))
            obtain ⟨u0_jY_230, u1_jY_230, u2_jY_230, u3_jY_230, u4_jY_230, u5_jY_230⟩ := id p_jY_230
            have p_jZ_230 : jZ P M_230 := jZ.put p_jZ_187 (by omega) f_230 (Or.inr (Or.inl ⟨(by have h1 := z_cl (x := x3_187 + x4_187) (by first | omega | (simp only [Int32.toInt_add, Int32.toInt_sub, Int32.toInt_mul, Int32.toInt_toInt64, Int64.toInt_add, z_m1, Int32.reduceToInt, Int64.reduceToInt, Int32.reduceToNatClampNeg, Int.bmod_def, or_true, true_or, and_true, true_and] <;> omega)); have h2 : 20 ≤ Int32.toInt (x3_187 + x4_187) ∧ Int32.toInt (x3_187 + x4_187) < 62 := (by first | omega | (simp only [Int32.toInt_add, Int32.toInt_sub, Int32.toInt_mul, Int32.toInt_toInt64, Int64.toInt_add, z_m1, Int32.reduceToInt, Int64.reduceToInt, Int32.reduceToNatClampNeg, Int.bmod_def, or_true, true_or, and_true, true_and] <;> omega)); omega), (by have h1 := z_cl (x := x3_187 + x4_187) (by first | omega | (simp only [Int32.toInt_add, Int32.toInt_sub, Int32.toInt_mul, Int32.toInt_toInt64, Int64.toInt_add, z_m1, Int32.reduceToInt, Int64.reduceToInt, Int32.reduceToNatClampNeg, Int.bmod_def, or_true, true_or, and_true, true_and] <;> omega)); have h2 : 20 ≤ Int32.toInt (x3_187 + x4_187) ∧ Int32.toInt (x3_187 + x4_187) < 62 := (by first | omega | (simp only [Int32.toInt_add, Int32.toInt_sub, Int32.toInt_mul, Int32.toInt_toInt64, Int64.toInt_add, z_m1, Int32.reduceToInt, Int64.reduceToInt, Int32.reduceToNatClampNeg, Int.bmod_def, or_true, true_or, and_true, true_and] <;> omega)); omega), (by first | omega | (simp only [Int32.toInt_add, Int32.toInt_sub, Int32.toInt_mul, Int32.toInt_toInt64, Int64.toInt_add, z_m1, Int32.reduceToInt, Int64.reduceToInt, Int32.reduceToNatClampNeg, Int.bmod_def, or_true, true_or, and_true, true_and] <;> omega)), (by first | omega | (simp only [Int32.toInt_add, Int32.toInt_sub, Int32.toInt_mul, Int32.toInt_toInt64, Int64.toInt_add, z_m1, Int32.reduceToInt, Int64.reduceToInt, Int32.reduceToNatClampNeg, Int.bmod_def, or_true, true_or, and_true, true_and] <;> omega))⟩))
            refine vB (v_X8_next p_jX_230) (fun e_235 f_235 q_235 => ?_)
            have k_235 : ∀ a j, ¬ WM_X8_readAsks P a j → e_235.2.1 a j = M0 a j := fun a j h => (q_235.1 a j (wz_M_X8_next_X8_readAsks h)).trans (k_230 a j h)
            have kn_235 : ∀ a j, ¬ WN_X8_readAsks P a j → e_235.2.2 a j = N0 a j := fun a j h => (q_235.2.1 a j (wz_N_X8_next_X8_readAsks h)).trans (kn_187 a j h)
            have b_235 := q_235.2.2.1
            have c15_235 : Int32.toInt (e_235.2.1 P 15) = Int32.toInt (M_230 P 15) := congrArg Int32.toInt (q_235.1 P 15 (wc_X8_next_15))
            have c28_235 : Int32.toInt (e_235.2.1 P 28) = Int32.toInt (M_230 P 28) := congrArg Int32.toInt (q_235.1 P 28 (wc_X8_next_28))
            have c29_235 : Int32.toInt (e_235.2.1 P 29) = Int32.toInt (M_230 P 29) := congrArg Int32.toInt (q_235.1 P 29 (wc_X8_next_29))
            have c30_235 : Int32.toInt (e_235.2.1 P 30) = Int32.toInt (M_230 P 30) := congrArg Int32.toInt (q_235.1 P 30 (wc_X8_next_30))
            have c31_235 : Int32.toInt (e_235.2.1 P 31) = Int32.toInt (M_230 P 31) := congrArg Int32.toInt (q_235.1 P 31 (wc_X8_next_31))
            have n_235 : nA P e_235.2.1 = nA P M_230 := nA_congr (fun a j h => q_235.1 a j (wf_nA_X8_next h))
            have p_jY_235 : jY P e_235.2.1 := jY.mono p_jY_230 (fun a j h => q_235.1 a j (wf_jY_X8_next h))
            obtain ⟨u0_jY_235, u1_jY_235, u2_jY_235, u3_jY_235, u4_jY_235, u5_jY_235⟩ := id p_jY_235
            have p_jZ_235 : jZ P e_235.2.1 := jZ.mono p_jZ_230 (fun a j h => q_235.1 a j (wf_jZ_X8_next h))
            obtain ⟨x0_235, x1_235, x2_235, x3_235⟩ := q_235.2.2.2
            obtain ⟨u0_jX_235, u1_jX_235, u2_jX_235, u3_jX_235⟩ := id x0_235
            (try simp only [Int32.toInt_add, Int32.toInt_sub, Int32.toInt_mul, Int32.toInt_toInt64, Int64.toInt_add, z_m1, Int32.reduceToInt, Int64.reduceToInt, Int32.reduceToNatClampNeg, Int.bmod_def] at x1_235)
            (try simp only [Int32.toInt_add, Int32.toInt_sub, Int32.toInt_mul, Int32.toInt_toInt64, Int64.toInt_add, z_m1, Int32.reduceToInt, Int64.reduceToInt, Int32.reduceToNatClampNeg, Int.bmod_def] at x2_235)
            (try simp only [Int32.toInt_add, Int32.toInt_sub, Int32.toInt_mul, Int32.toInt_toInt64, Int64.toInt_add, z_m1, Int32.reduceToInt, Int64.reduceToInt, Int32.reduceToNatClampNeg, Int.bmod_def] at x3_235)
            exact ih_124 _ _ _ _ k_235 kn_235 x0_235 p_jY_235 p_jZ_235 (by first | omega | (simp only [Int32.toInt_add, Int32.toInt_sub, Int32.toInt_mul, Int32.toInt_toInt64, Int64.toInt_add, z_m1, Int32.reduceToInt, Int64.reduceToInt, Int32.reduceToNatClampNeg, Int.bmod_def, or_true, true_or, and_true, true_and] <;> omega)) (by first | omega | (simp only [Int32.toInt_add, Int32.toInt_sub, Int32.toInt_mul, Int32.toInt_toInt64, Int64.toInt_add, z_m1, Int32.reduceToInt, Int64.reduceToInt, Int32.reduceToNatClampNeg, Int.bmod_def, or_true, true_or, and_true, true_and] <;> omega)) (by first | omega | (simp only [Int32.toInt_add, Int32.toInt_sub, Int32.toInt_mul, Int32.toInt_toInt64, Int64.toInt_add, z_m1, Int32.reduceToInt, Int64.reduceToInt, Int32.reduceToNatClampNeg, Int.bmod_def, or_true, true_or, and_true, true_and] <;> omega)) (by first | omega | (simp only [Int32.toInt_add, Int32.toInt_sub, Int32.toInt_mul, Int32.toInt_toInt64, Int64.toInt_add, z_m1, Int32.reduceToInt, Int64.reduceToInt, Int32.reduceToNatClampNeg, Int.bmod_def, or_true, true_or, and_true, true_and] <;> omega)) (by first | omega | (simp only [Int32.toInt_add, Int32.toInt_sub, Int32.toInt_mul, Int32.toInt_toInt64, Int64.toInt_add, z_m1, Int32.reduceToInt, Int64.reduceToInt, Int32.reduceToNatClampNeg, Int.bmod_def, or_true, true_or, and_true, true_and] <;> omega))
          · have i_191 := Int32.lt_iff_toInt_lt.mp (Int32.not_le.mp h_191)
            (try simp only [Int32.toInt_add, Int32.toInt_sub, Int32.toInt_mul, Int32.toInt_toInt64, Int64.toInt_add, z_m1, Int32.reduceToInt, Int64.reduceToInt, Int32.reduceToNatClampNeg, Int.bmod_def] at i_191)
            refine vI (vp_of (by first | omega | (simp only [Int32.toInt_add, Int32.toInt_sub, Int32.toInt_mul, Int32.toInt_toInt64, Int64.toInt_add, z_m1, Int32.reduceToInt, Int64.reduceToInt, Int32.reduceToNatClampNeg, Int.bmod_def, or_true, true_or, and_true, true_and] <;> omega)) (by first | omega | (simp only [Int32.toInt_add, Int32.toInt_sub, Int32.toInt_mul, Int32.toInt_toInt64, Int64.toInt_add, z_m1, Int32.reduceToInt, Int64.reduceToInt, Int32.reduceToNatClampNeg, Int.bmod_def, or_true, true_or, and_true, true_and] <;> omega))) ?_
            refine vIf (fun h_205 => ?_) (fun h_205 => ?_)
            · have i_205 := congrArg Int32.toInt h_205
              (try simp only [Int32.toInt_add, Int32.toInt_sub, Int32.toInt_mul, Int32.toInt_toInt64, Int64.toInt_add, z_m1, Int32.reduceToInt, Int64.reduceToInt, Int32.reduceToNatClampNeg, Int.bmod_def] at i_205)
              refine vB (v_X8_bad) (fun e_210 f_210 q_210 => ?_)
              have k_210 : ∀ a j, ¬ WM_X8_readAsks P a j → e_210.2 a j = M0 a j := fun a j h => (q_210.1 a j (wz_M_X8_bad_X8_readAsks h)).trans (k_187 a j h)
              have b_210 := q_210.2.1
              have c15_210 : Int32.toInt (e_210.2 P 15) = Int32.toInt (M_187 P 15) := congrArg Int32.toInt (q_210.1 P 15 (wc_X8_bad_15))
              have c17_210 : Int32.toInt (e_210.2 P 17) = Int32.toInt (M_187 P 17) := congrArg Int32.toInt (q_210.1 P 17 (wc_X8_bad_17))
              have c18_210 : Int32.toInt (e_210.2 P 18) = Int32.toInt (M_187 P 18) := congrArg Int32.toInt (q_210.1 P 18 (wc_X8_bad_18))
              have c20_210 : Int32.toInt (e_210.2 P 20) = Int32.toInt (M_187 P 20) := congrArg Int32.toInt (q_210.1 P 20 (wc_X8_bad_20))
              have c28_210 : Int32.toInt (e_210.2 P 28) = Int32.toInt (M_187 P 28) := congrArg Int32.toInt (q_210.1 P 28 (wc_X8_bad_28))
              have c29_210 : Int32.toInt (e_210.2 P 29) = Int32.toInt (M_187 P 29) := congrArg Int32.toInt (q_210.1 P 29 (wc_X8_bad_29))
              have c30_210 : Int32.toInt (e_210.2 P 30) = Int32.toInt (M_187 P 30) := congrArg Int32.toInt (q_210.1 P 30 (wc_X8_bad_30))
              have c31_210 : Int32.toInt (e_210.2 P 31) = Int32.toInt (M_187 P 31) := congrArg Int32.toInt (q_210.1 P 31 (wc_X8_bad_31))
              have n_210 : nA P e_210.2 = nA P M_187 := nA_congr (fun a j h => q_210.1 a j (wf_nA_X8_bad h))
              have p_jX_210 : jX P e_210.2 := jX.mono p_jX_187 (fun a j h => q_210.1 a j (wf_jX_X8_bad h))
              obtain ⟨u0_jX_210, u1_jX_210, u2_jX_210, u3_jX_210⟩ := id p_jX_210
              have p_jY_210 : jY P e_210.2 := jY.mono p_jY_187 (fun a j h => q_210.1 a j (wf_jY_X8_bad h))
              obtain ⟨u0_jY_210, u1_jY_210, u2_jY_210, u3_jY_210, u4_jY_210, u5_jY_210⟩ := id p_jY_210
              have p_jZ_210 : jZ P e_210.2 := jZ.mono p_jZ_187 (fun a j h => q_210.1 a j (wf_jZ_X8_bad h))
              have x0_210 := q_210.2.2
              (try simp only [Int32.toInt_add, Int32.toInt_sub, Int32.toInt_mul, Int32.toInt_toInt64, Int64.toInt_add, z_m1, Int32.reduceToInt, Int64.reduceToInt, Int32.reduceToNatClampNeg, Int.bmod_def] at x0_210)
              exact ⟨_, rfl, k_210, kn_187, (by first | exact Or.inl rfl | exact Or.inr rfl | assumption), ⟨p_jX_210, p_jY_210, p_jZ_210, (by first | omega | (simp only [Int32.toInt_add, Int32.toInt_sub, Int32.toInt_mul, Int32.toInt_toInt64, Int64.toInt_add, z_m1, Int32.reduceToInt, Int64.reduceToInt, Int32.reduceToNatClampNeg, Int.bmod_def, or_true, true_or, and_true, true_and] <;> omega))⟩⟩
            · have i_205 : ¬ Int32.toInt (M_187 (P + 2) (x3_187 + x6_187).toNatClampNeg) = Int32.toInt x5_187 := fun q => h_205 (Int32.toInt_inj.mp q)
              (try simp only [Int32.toInt_add, Int32.toInt_sub, Int32.toInt_mul, Int32.toInt_toInt64, Int64.toInt_add, z_m1, Int32.reduceToInt, Int64.reduceToInt, Int32.reduceToNatClampNeg, Int.bmod_def] at i_205)
              exact ih_187 _ _ _ _ _ _ k_187 kn_187 p_jX_187 p_jY_187 p_jZ_187 (by first | omega | (simp only [Int32.toInt_add, Int32.toInt_sub, Int32.toInt_mul, Int32.toInt_toInt64, Int64.toInt_add, z_m1, Int32.reduceToInt, Int64.reduceToInt, Int32.reduceToNatClampNeg, Int.bmod_def, or_true, true_or, and_true, true_and] <;> omega)) (by first | omega | (simp only [Int32.toInt_add, Int32.toInt_sub, Int32.toInt_mul, Int32.toInt_toInt64, Int64.toInt_add, z_m1, Int32.reduceToInt, Int64.reduceToInt, Int32.reduceToNatClampNeg, Int.bmod_def, or_true, true_or, and_true, true_and] <;> omega)) (by first | omega | (simp only [Int32.toInt_add, Int32.toInt_sub, Int32.toInt_mul, Int32.toInt_toInt64, Int64.toInt_add, z_m1, Int32.reduceToInt, Int64.reduceToInt, Int32.reduceToNatClampNeg, Int.bmod_def, or_true, true_or, and_true, true_and] <;> omega)) (by first | omega | (simp only [Int32.toInt_add, Int32.toInt_sub, Int32.toInt_mul, Int32.toInt_toInt64, Int64.toInt_add, z_m1, Int32.reduceToInt, Int64.reduceToInt, Int32.reduceToNatClampNeg, Int.bmod_def, or_true, true_or, and_true, true_and] <;> omega)) (by first | omega | (simp only [Int32.toInt_add, Int32.toInt_sub, Int32.toInt_mul, Int32.toInt_toInt64, Int64.toInt_add, z_m1, Int32.reduceToInt, Int64.reduceToInt, Int32.reduceToNatClampNeg, Int.bmod_def, or_true, true_or, and_true, true_and] <;> omega)) (by first | omega | (simp only [Int32.toInt_add, Int32.toInt_sub, Int32.toInt_mul, Int32.toInt_toInt64, Int64.toInt_add, z_m1, Int32.reduceToInt, Int64.reduceToInt, Int32.reduceToNatClampNeg, Int.bmod_def, or_true, true_or, and_true, true_and] <;> omega)) (by first | omega | (simp only [Int32.toInt_add, Int32.toInt_sub, Int32.toInt_mul, Int32.toInt_toInt64, Int64.toInt_add, z_m1, Int32.reduceToInt, Int64.reduceToInt, Int32.reduceToNatClampNeg, Int.bmod_def, or_true, true_or, and_true, true_and] <;> omega)) (by first | omega | (simp only [Int32.toInt_add, Int32.toInt_sub, Int32.toInt_mul, Int32.toInt_toInt64, Int64.toInt_add, z_m1, Int32.reduceToInt, Int64.reduceToInt, Int32.reduceToNatClampNeg, Int.bmod_def, or_true, true_or, and_true, true_and] <;> omega)) (z_up1 (by first | assumption | exact z_lt (by assumption) | exact z_lt2 (by assumption) | exact z_lt3 (by assumption) (by first | assumption | decide)) hm_187)
      have T_187 : ∀ (x3_187 : Int32) (x4_187 : Int32) (x5_187 : Int32) (x6_187 : Int32) (M_187 : zMt) (N_187 : zNt), (∀ a j, ¬ WM_X8_readAsks P a j → M_187 a j = M0 a j) → (∀ a j, ¬ WN_X8_readAsks P a j → N_187 a j = N0 a j) → (jX P M_187) → (jY P M_187) → (jZ P M_187) → (0 ≤ Int32.toInt x4_187) → (0 ≤ Int32.toInt x6_187) → (Int32.toInt (M0 P 17) ≤ Int32.toInt (M_187 P 17)) → (20 ≤ Int32.toInt x3_187 ∧ Int32.toInt x3_187 ≤ 59) → (0 ≤ Int32.toInt x4_187 ∧ Int32.toInt x4_187 ≤ 2) → (0 ≤ Int32.toInt x5_187 ∧ Int32.toInt x5_187 < Int32.toInt (M_187 P 28)) → (0 ≤ Int32.toInt x6_187 ∧ Int32.toInt x6_187 ≤ Int32.toInt x4_187) → ((3 - Int32.toInt x4_187).toNat < u_124 + 1) → ∃ r, D_X8_readAsks_187 P (D_X8_readAsks_124 P u_124) zFu x3_187 x4_187 x5_187 x6_187 M_187 N_187 = some r ∧ ((∀ a j, ¬ WM_X8_readAsks P a j → r.2.1 a j = M0 a j) ∧ (∀ a j, ¬ WN_X8_readAsks P a j → r.2.2 a j = N0 a j) ∧ (r.1 = 0 ∨ r.1 = 1) ∧ ((jX P r.2.1) ∧ (jY P r.2.1) ∧ (jZ P r.2.1) ∧ (Int32.toInt (M0 P 17) ≤ Int32.toInt (r.2.1 P 17)))) := fun x3_187 x4_187 x5_187 x6_187 M_187 N_187 k_187 kn_187 p_jX_187 p_jY_187 p_jZ_187 f0_187 f1_187 f2_187 f3_187 f4_187 f5_187 f6_187 f7_187 => TL_187 zFu x3_187 x4_187 x5_187 x6_187 M_187 N_187 k_187 kn_187 p_jX_187 p_jY_187 p_jZ_187 f0_187 f1_187 f2_187 f3_187 f4_187 f5_187 f6_187 f7_187 (zFu_up _)
      have T_136 : ∀ (x3_136 : Int32) (x4_136 : Int32) (M_136 : zMt) (N_136 : zNt), (∀ a j, ¬ WM_X8_readAsks P a j → M_136 a j = M0 a j) → (∀ a j, ¬ WN_X8_readAsks P a j → N_136 a j = N0 a j) → (jX P M_136) → (jY P M_136) → (jZ P M_136) → (0 ≤ Int32.toInt x4_136) → (Int32.toInt (M0 P 17) ≤ Int32.toInt (M_136 P 17)) → (20 ≤ Int32.toInt x3_136 ∧ Int32.toInt x3_136 ≤ 59) → (0 ≤ Int32.toInt x4_136 ∧ Int32.toInt x4_136 ≤ 3) → ((3 - Int32.toInt x4_136).toNat < u_124 + 1) → ∃ r, D_X8_readAsks_136 P (D_X8_readAsks_124 P u_124) x3_136 x4_136 M_136 N_136 = some r ∧ ((∀ a j, ¬ WM_X8_readAsks P a j → r.2.1 a j = M0 a j) ∧ (∀ a j, ¬ WN_X8_readAsks P a j → r.2.2 a j = N0 a j) ∧ (r.1 = 0 ∨ r.1 = 1) ∧ ((jX P r.2.1) ∧ (jY P r.2.1) ∧ (jZ P r.2.1) ∧ (Int32.toInt (M0 P 17) ≤ Int32.toInt (r.2.1 P 17)))) := by
        intro x3_136 x4_136 M_136 N_136 k_136 kn_136 p_jX_136 p_jY_136 p_jZ_136 f0_136 f1_136 f2_136 f3_136 f4_136
        obtain ⟨u0_jX_136, u1_jX_136, u2_jX_136, u3_jX_136⟩ := id p_jX_136
        obtain ⟨u0_jY_136, u1_jY_136, u2_jY_136, u3_jY_136, u4_jY_136, u5_jY_136⟩ := id p_jY_136
        unfold D_X8_readAsks_136
        refine vB (v_X8_isName) (fun e_137 f_137 q_137 => ?_)
        have b_137 := q_137
        refine vIf (fun h_140 => ?_) (fun h_140 => ?_)
        · have i_140 := congrArg Int32.toInt h_140
          (try simp only [Int32.toInt_add, Int32.toInt_sub, Int32.toInt_mul, Int32.toInt_toInt64, Int64.toInt_add, z_m1, Int32.reduceToInt, Int64.reduceToInt, Int32.reduceToNatClampNeg, Int.bmod_def] at i_140)
          exact T_149 _ _ k_136 kn_136 p_jX_136 p_jY_136 p_jZ_136 (by first | omega | (simp only [Int32.toInt_add, Int32.toInt_sub, Int32.toInt_mul, Int32.toInt_toInt64, Int64.toInt_add, z_m1, Int32.reduceToInt, Int64.reduceToInt, Int32.reduceToNatClampNeg, Int.bmod_def, or_true, true_or, and_true, true_and] <;> omega))
        · have i_140 : ¬ Int32.toInt e_137 = Int32.toInt (0 : Int32) := fun q => h_140 (Int32.toInt_inj.mp q)
          (try simp only [Int32.toInt_add, Int32.toInt_sub, Int32.toInt_mul, Int32.toInt_toInt64, Int64.toInt_add, z_m1, Int32.reduceToInt, Int64.reduceToInt, Int32.reduceToNatClampNeg, Int.bmod_def] at i_140)
          refine vIf (fun h_146 => ?_) (fun h_146 => ?_)
          · have i_146 := congrArg Int32.toInt h_146
            (try simp only [Int32.toInt_add, Int32.toInt_sub, Int32.toInt_mul, Int32.toInt_toInt64, Int64.toInt_add, z_m1, Int32.reduceToInt, Int64.reduceToInt, Int32.reduceToNatClampNeg, Int.bmod_def] at i_146)
            exact T_149 _ _ k_136 kn_136 p_jX_136 p_jY_136 p_jZ_136 (by first | omega | (simp only [Int32.toInt_add, Int32.toInt_sub, Int32.toInt_mul, Int32.toInt_toInt64, Int64.toInt_add, z_m1, Int32.reduceToInt, Int64.reduceToInt, Int32.reduceToNatClampNeg, Int.bmod_def, or_true, true_or, and_true, true_and] <;> omega))
          · have i_146 : ¬ Int32.toInt x4_136 = Int32.toInt (3 : Int32) := fun q => h_146 (Int32.toInt_inj.mp q)
            (try simp only [Int32.toInt_add, Int32.toInt_sub, Int32.toInt_mul, Int32.toInt_toInt64, Int64.toInt_add, z_m1, Int32.reduceToInt, Int64.reduceToInt, Int32.reduceToNatClampNeg, Int.bmod_def] at i_146)
            refine vB (v_X8_found (by first | omega | (simp only [Int32.toInt_add, Int32.toInt_sub, Int32.toInt_mul, Int32.toInt_toInt64, Int64.toInt_add, z_m1, Int32.reduceToInt, Int64.reduceToInt, Int32.reduceToNatClampNeg, Int.bmod_def, or_true, true_or, and_true, true_and] <;> omega)) (by first | omega | (simp only [Int32.toInt_add, Int32.toInt_sub, Int32.toInt_mul, Int32.toInt_toInt64, Int64.toInt_add, z_m1, Int32.reduceToInt, Int64.reduceToInt, Int32.reduceToNatClampNeg, Int.bmod_def, or_true, true_or, and_true, true_and] <;> omega))) (fun e_167 f_167 q_167 => ?_)
            obtain ⟨x0_167, x1_167⟩ := q_167
            (try simp only [Int32.toInt_add, Int32.toInt_sub, Int32.toInt_mul, Int32.toInt_toInt64, Int64.toInt_add, z_m1, Int32.reduceToInt, Int64.reduceToInt, Int32.reduceToNatClampNeg, Int.bmod_def] at x0_167)
            (try simp only [Int32.toInt_add, Int32.toInt_sub, Int32.toInt_mul, Int32.toInt_toInt64, Int64.toInt_add, z_m1, Int32.reduceToInt, Int64.reduceToInt, Int32.reduceToNatClampNeg, Int.bmod_def] at x1_167)
            refine vIf (fun h_175 => ?_) (fun h_175 => ?_)
            · have i_175 := congrArg Int32.toInt h_175
              (try simp only [Int32.toInt_add, Int32.toInt_sub, Int32.toInt_mul, Int32.toInt_toInt64, Int64.toInt_add, z_m1, Int32.reduceToInt, Int64.reduceToInt, Int32.reduceToNatClampNeg, Int.bmod_def] at i_175)
              refine vB (v_X8_bad) (fun e_180 f_180 q_180 => ?_)
              have k_180 : ∀ a j, ¬ WM_X8_readAsks P a j → e_180.2 a j = M0 a j := fun a j h => (q_180.1 a j (wz_M_X8_bad_X8_readAsks h)).trans (k_136 a j h)
              have b_180 := q_180.2.1
              have c15_180 : Int32.toInt (e_180.2 P 15) = Int32.toInt (M_136 P 15) := congrArg Int32.toInt (q_180.1 P 15 (wc_X8_bad_15))
              have c17_180 : Int32.toInt (e_180.2 P 17) = Int32.toInt (M_136 P 17) := congrArg Int32.toInt (q_180.1 P 17 (wc_X8_bad_17))
              have c18_180 : Int32.toInt (e_180.2 P 18) = Int32.toInt (M_136 P 18) := congrArg Int32.toInt (q_180.1 P 18 (wc_X8_bad_18))
              have c20_180 : Int32.toInt (e_180.2 P 20) = Int32.toInt (M_136 P 20) := congrArg Int32.toInt (q_180.1 P 20 (wc_X8_bad_20))
              have c28_180 : Int32.toInt (e_180.2 P 28) = Int32.toInt (M_136 P 28) := congrArg Int32.toInt (q_180.1 P 28 (wc_X8_bad_28))
              have c29_180 : Int32.toInt (e_180.2 P 29) = Int32.toInt (M_136 P 29) := congrArg Int32.toInt (q_180.1 P 29 (wc_X8_bad_29))
              have c30_180 : Int32.toInt (e_180.2 P 30) = Int32.toInt (M_136 P 30) := congrArg Int32.toInt (q_180.1 P 30 (wc_X8_bad_30))
              have c31_180 : Int32.toInt (e_180.2 P 31) = Int32.toInt (M_136 P 31) := congrArg Int32.toInt (q_180.1 P 31 (wc_X8_bad_31))
              have n_180 : nA P e_180.2 = nA P M_136 := nA_congr (fun a j h => q_180.1 a j (wf_nA_X8_bad h))
              have p_jX_180 : jX P e_180.2 := jX.mono p_jX_136 (fun a j h => q_180.1 a j (wf_jX_X8_bad h))
              obtain ⟨u0_jX_180, u1_jX_180, u2_jX_180, u3_jX_180⟩ := id p_jX_180
              have p_jY_180 : jY P e_180.2 := jY.mono p_jY_136 (fun a j h => q_180.1 a j (wf_jY_X8_bad h))
              obtain ⟨u0_jY_180, u1_jY_180, u2_jY_180, u3_jY_180, u4_jY_180, u5_jY_180⟩ := id p_jY_180
              have p_jZ_180 : jZ P e_180.2 := jZ.mono p_jZ_136 (fun a j h => q_180.1 a j (wf_jZ_X8_bad h))
              have x0_180 := q_180.2.2
              (try simp only [Int32.toInt_add, Int32.toInt_sub, Int32.toInt_mul, Int32.toInt_toInt64, Int64.toInt_add, z_m1, Int32.reduceToInt, Int64.reduceToInt, Int32.reduceToNatClampNeg, Int.bmod_def] at x0_180)
              exact ⟨_, rfl, k_180, kn_136, (by first | exact Or.inl rfl | exact Or.inr rfl | assumption), ⟨p_jX_180, p_jY_180, p_jZ_180, (by first | omega | (simp only [Int32.toInt_add, Int32.toInt_sub, Int32.toInt_mul, Int32.toInt_toInt64, Int64.toInt_add, z_m1, Int32.reduceToInt, Int64.reduceToInt, Int32.reduceToNatClampNeg, Int.bmod_def, or_true, true_or, and_true, true_and] <;> omega))⟩⟩
            · have i_175 : ¬ Int32.toInt e_167 = Int32.toInt (-1 : Int32) := fun q => h_175 (Int32.toInt_inj.mp q)
              (try simp only [Int32.toInt_add, Int32.toInt_sub, Int32.toInt_mul, Int32.toInt_toInt64, Int64.toInt_add, z_m1, Int32.reduceToInt, Int64.reduceToInt, Int32.reduceToNatClampNeg, Int.bmod_def] at i_175)
              exact T_187 _ _ _ _ _ _ k_136 kn_136 p_jX_136 p_jY_136 p_jZ_136 (by first | omega | (simp only [Int32.toInt_add, Int32.toInt_sub, Int32.toInt_mul, Int32.toInt_toInt64, Int64.toInt_add, z_m1, Int32.reduceToInt, Int64.reduceToInt, Int32.reduceToNatClampNeg, Int.bmod_def, or_true, true_or, and_true, true_and] <;> omega)) (by first | omega | (simp only [Int32.toInt_add, Int32.toInt_sub, Int32.toInt_mul, Int32.toInt_toInt64, Int64.toInt_add, z_m1, Int32.reduceToInt, Int64.reduceToInt, Int32.reduceToNatClampNeg, Int.bmod_def, or_true, true_or, and_true, true_and] <;> omega)) (by first | omega | (simp only [Int32.toInt_add, Int32.toInt_sub, Int32.toInt_mul, Int32.toInt_toInt64, Int64.toInt_add, z_m1, Int32.reduceToInt, Int64.reduceToInt, Int32.reduceToNatClampNeg, Int.bmod_def, or_true, true_or, and_true, true_and] <;> omega)) (by first | omega | (simp only [Int32.toInt_add, Int32.toInt_sub, Int32.toInt_mul, Int32.toInt_toInt64, Int64.toInt_add, z_m1, Int32.reduceToInt, Int64.reduceToInt, Int32.reduceToNatClampNeg, Int.bmod_def, or_true, true_or, and_true, true_and] <;> omega)) (by first | omega | (simp only [Int32.toInt_add, Int32.toInt_sub, Int32.toInt_mul, Int32.toInt_toInt64, Int64.toInt_add, z_m1, Int32.reduceToInt, Int64.reduceToInt, Int32.reduceToNatClampNeg, Int.bmod_def, or_true, true_or, and_true, true_and] <;> omega)) (by first | omega | (simp only [Int32.toInt_add, Int32.toInt_sub, Int32.toInt_mul, Int32.toInt_toInt64, Int64.toInt_add, z_m1, Int32.reduceToInt, Int64.reduceToInt, Int32.reduceToNatClampNeg, Int.bmod_def, or_true, true_or, and_true, true_and] <;> omega)) (by first | omega | (simp only [Int32.toInt_add, Int32.toInt_sub, Int32.toInt_mul, Int32.toInt_toInt64, Int64.toInt_add, z_m1, Int32.reduceToInt, Int64.reduceToInt, Int32.reduceToNatClampNeg, Int.bmod_def, or_true, true_or, and_true, true_and] <;> omega)) (by first | omega | (simp only [Int32.toInt_add, Int32.toInt_sub, Int32.toInt_mul, Int32.toInt_toInt64, Int64.toInt_add, z_m1, Int32.reduceToInt, Int64.reduceToInt, Int32.reduceToNatClampNeg, Int.bmod_def, or_true, true_or, and_true, true_and] <;> omega))
      intro x3_124 x4_124 M_124 N_124 k_124 kn_124 p_jX_124 p_jY_124 p_jZ_124 f0_124 f1_124 f2_124 f3_124 hm_124
      obtain ⟨u0_jX_124, u1_jX_124, u2_jX_124, u3_jX_124⟩ := id p_jX_124
      obtain ⟨u0_jY_124, u1_jY_124, u2_jY_124, u3_jY_124, u4_jY_124, u5_jY_124⟩ := id p_jY_124
      rw [D_X8_readAsks_124]
      refine vIf (fun h_126 => ?_) (fun h_126 => ?_)
      · have i_126 := congrArg Int32.toInt h_126
        (try simp only [Int32.toInt_add, Int32.toInt_sub, Int32.toInt_mul, Int32.toInt_toInt64, Int64.toInt_add, z_m1, Int32.reduceToInt, Int64.reduceToInt, Int32.reduceToNatClampNeg, Int.bmod_def] at i_126)
        exact T_136 _ _ _ _ k_124 kn_124 p_jX_124 p_jY_124 p_jZ_124 (by first | omega | (simp only [Int32.toInt_add, Int32.toInt_sub, Int32.toInt_mul, Int32.toInt_toInt64, Int64.toInt_add, z_m1, Int32.reduceToInt, Int64.reduceToInt, Int32.reduceToNatClampNeg, Int.bmod_def, or_true, true_or, and_true, true_and] <;> omega)) (by first | omega | (simp only [Int32.toInt_add, Int32.toInt_sub, Int32.toInt_mul, Int32.toInt_toInt64, Int64.toInt_add, z_m1, Int32.reduceToInt, Int64.reduceToInt, Int32.reduceToNatClampNeg, Int.bmod_def, or_true, true_or, and_true, true_and] <;> omega)) (by first | omega | (simp only [Int32.toInt_add, Int32.toInt_sub, Int32.toInt_mul, Int32.toInt_toInt64, Int64.toInt_add, z_m1, Int32.reduceToInt, Int64.reduceToInt, Int32.reduceToNatClampNeg, Int.bmod_def, or_true, true_or, and_true, true_and] <;> omega)) (by first | omega | (simp only [Int32.toInt_add, Int32.toInt_sub, Int32.toInt_mul, Int32.toInt_toInt64, Int64.toInt_add, z_m1, Int32.reduceToInt, Int64.reduceToInt, Int32.reduceToNatClampNeg, Int.bmod_def, or_true, true_or, and_true, true_and] <;> omega)) (by first | omega | (simp only [Int32.toInt_add, Int32.toInt_sub, Int32.toInt_mul, Int32.toInt_toInt64, Int64.toInt_add, z_m1, Int32.reduceToInt, Int64.reduceToInt, Int32.reduceToNatClampNeg, Int.bmod_def, or_true, true_or, and_true, true_and] <;> omega))
      · have i_126 : ¬ Int32.toInt x4_124 = Int32.toInt (0 : Int32) := fun q => h_126 (Int32.toInt_inj.mp q)
        (try simp only [Int32.toInt_add, Int32.toInt_sub, Int32.toInt_mul, Int32.toInt_toInt64, Int64.toInt_add, z_m1, Int32.reduceToInt, Int64.reduceToInt, Int32.reduceToNatClampNeg, Int.bmod_def] at i_126)
        refine vB (v_X8_isName) (fun e_130 f_130 q_130 => ?_)
        have b_130 := q_130
        refine vIf (fun h_133 => ?_) (fun h_133 => ?_)
        · have i_133 := congrArg Int32.toInt h_133
          (try simp only [Int32.toInt_add, Int32.toInt_sub, Int32.toInt_mul, Int32.toInt_toInt64, Int64.toInt_add, z_m1, Int32.reduceToInt, Int64.reduceToInt, Int32.reduceToNatClampNeg, Int.bmod_def] at i_133)
          exact ⟨_, rfl, k_124, kn_124, (by first | exact Or.inl rfl | exact Or.inr rfl | assumption), ⟨p_jX_124, p_jY_124, p_jZ_124, (by first | omega | (simp only [Int32.toInt_add, Int32.toInt_sub, Int32.toInt_mul, Int32.toInt_toInt64, Int64.toInt_add, z_m1, Int32.reduceToInt, Int64.reduceToInt, Int32.reduceToNatClampNeg, Int.bmod_def, or_true, true_or, and_true, true_and] <;> omega))⟩⟩
        · have i_133 : ¬ Int32.toInt e_130 = Int32.toInt (0 : Int32) := fun q => h_133 (Int32.toInt_inj.mp q)
          (try simp only [Int32.toInt_add, Int32.toInt_sub, Int32.toInt_mul, Int32.toInt_toInt64, Int64.toInt_add, z_m1, Int32.reduceToInt, Int64.reduceToInt, Int32.reduceToNatClampNeg, Int.bmod_def] at i_133)
          exact T_136 _ _ _ _ k_124 kn_124 p_jX_124 p_jY_124 p_jZ_124 (by first | omega | (simp only [Int32.toInt_add, Int32.toInt_sub, Int32.toInt_mul, Int32.toInt_toInt64, Int64.toInt_add, z_m1, Int32.reduceToInt, Int64.reduceToInt, Int32.reduceToNatClampNeg, Int.bmod_def, or_true, true_or, and_true, true_and] <;> omega)) (by first | omega | (simp only [Int32.toInt_add, Int32.toInt_sub, Int32.toInt_mul, Int32.toInt_toInt64, Int64.toInt_add, z_m1, Int32.reduceToInt, Int64.reduceToInt, Int32.reduceToNatClampNeg, Int.bmod_def, or_true, true_or, and_true, true_and] <;> omega)) (by first | omega | (simp only [Int32.toInt_add, Int32.toInt_sub, Int32.toInt_mul, Int32.toInt_toInt64, Int64.toInt_add, z_m1, Int32.reduceToInt, Int64.reduceToInt, Int32.reduceToNatClampNeg, Int.bmod_def, or_true, true_or, and_true, true_and] <;> omega)) (by first | omega | (simp only [Int32.toInt_add, Int32.toInt_sub, Int32.toInt_mul, Int32.toInt_toInt64, Int64.toInt_add, z_m1, Int32.reduceToInt, Int64.reduceToInt, Int32.reduceToNatClampNeg, Int.bmod_def, or_true, true_or, and_true, true_and] <;> omega)) (by first | omega | (simp only [Int32.toInt_add, Int32.toInt_sub, Int32.toInt_mul, Int32.toInt_toInt64, Int64.toInt_add, z_m1, Int32.reduceToInt, Int64.reduceToInt, Int32.reduceToNatClampNeg, Int.bmod_def, or_true, true_or, and_true, true_and] <;> omega))
  have T_124 : ∀ (x3_124 : Int32) (x4_124 : Int32) (M_124 : zMt) (N_124 : zNt), (∀ a j, ¬ WM_X8_readAsks P a j → M_124 a j = M0 a j) → (∀ a j, ¬ WN_X8_readAsks P a j → N_124 a j = N0 a j) → (jX P M_124) → (jY P M_124) → (jZ P M_124) → (0 ≤ Int32.toInt x4_124) → (Int32.toInt (M0 P 17) ≤ Int32.toInt (M_124 P 17)) → (20 ≤ Int32.toInt x3_124 ∧ Int32.toInt x3_124 ≤ 59) → (0 ≤ Int32.toInt x4_124 ∧ Int32.toInt x4_124 ≤ 3) → ∃ r, D_X8_readAsks_124 P zFu x3_124 x4_124 M_124 N_124 = some r ∧ ((∀ a j, ¬ WM_X8_readAsks P a j → r.2.1 a j = M0 a j) ∧ (∀ a j, ¬ WN_X8_readAsks P a j → r.2.2 a j = N0 a j) ∧ (r.1 = 0 ∨ r.1 = 1) ∧ ((jX P r.2.1) ∧ (jY P r.2.1) ∧ (jZ P r.2.1) ∧ (Int32.toInt (M0 P 17) ≤ Int32.toInt (r.2.1 P 17)))) := fun x3_124 x4_124 M_124 N_124 k_124 kn_124 p_jX_124 p_jY_124 p_jZ_124 f0_124 f1_124 f2_124 f3_124 => TL_124 zFu x3_124 x4_124 M_124 N_124 k_124 kn_124 p_jX_124 p_jY_124 p_jZ_124 f0_124 f1_124 f2_124 f3_124 (by unfold zFu; omega)
  have T_99 : ∀ (y0_99 : Int32) (M_99 : zMt) (N_99 : zNt), (∀ a j, ¬ WM_X8_readAsks P a j → M_99 a j = M0 a j) → (∀ a j, ¬ WN_X8_readAsks P a j → N_99 a j = N0 a j) → (jX P M_99) → (jY P M_99) → (jZ P M_99) → (Int32.toInt (M0 P 17) ≤ Int32.toInt (M_99 P 17)) → (20 ≤ Int32.toInt y0_99 ∧ Int32.toInt y0_99 ≤ 59) → ∃ r, D_X8_readAsks_99 P y0_99 M_99 N_99 = some r ∧ ((∀ a j, ¬ WM_X8_readAsks P a j → r.2.1 a j = M0 a j) ∧ (∀ a j, ¬ WN_X8_readAsks P a j → r.2.2 a j = N0 a j) ∧ (r.1 = 0 ∨ r.1 = 1) ∧ ((jX P r.2.1) ∧ (jY P r.2.1) ∧ (jZ P r.2.1) ∧ (Int32.toInt (M0 P 17) ≤ Int32.toInt (r.2.1 P 17)))) := by
    intro y0_99 M_99 N_99 k_99 kn_99 p_jX_99 p_jY_99 p_jZ_99 f0_99 f1_99
    obtain ⟨u0_jX_99, u1_jX_99, u2_jX_99, u3_jX_99⟩ := id p_jX_99
    obtain ⟨u0_jY_99, u1_jY_99, u2_jY_99, u3_jY_99, u4_jY_99, u5_jY_99⟩ := id p_jY_99
    unfold D_X8_readAsks_99
    refine vI (vp_of (by first | omega | (simp only [Int32.toInt_add, Int32.toInt_sub, Int32.toInt_mul, Int32.toInt_toInt64, Int64.toInt_add, z_m1, Int32.reduceToInt, Int64.reduceToInt, Int32.reduceToNatClampNeg, Int.bmod_def, or_true, true_or, and_true, true_and] <;> omega)) (by first | omega | (simp only [Int32.toInt_add, Int32.toInt_sub, Int32.toInt_mul, Int32.toInt_toInt64, Int64.toInt_add, z_m1, Int32.reduceToInt, Int64.reduceToInt, Int32.reduceToNatClampNeg, Int.bmod_def, or_true, true_or, and_true, true_and] <;> omega))) ?_
    refine vIf (fun h_107 => ?_) (fun h_107 => ?_)
    · have i_107 := congrArg Int32.toInt h_107
      (try simp only [Int32.toInt_add, Int32.toInt_sub, Int32.toInt_mul, Int32.toInt_toInt64, Int64.toInt_add, z_m1, Int32.reduceToInt, Int64.reduceToInt, Int32.reduceToNatClampNeg, Int.bmod_def] at i_107)
      refine vB (v_X8_next p_jX_99) (fun e_117 f_117 q_117 => ?_)
      have k_117 : ∀ a j, ¬ WM_X8_readAsks P a j → e_117.2.1 a j = M0 a j := fun a j h => (q_117.1 a j (wz_M_X8_next_X8_readAsks h)).trans (k_99 a j h)
      have kn_117 : ∀ a j, ¬ WN_X8_readAsks P a j → e_117.2.2 a j = N0 a j := fun a j h => (q_117.2.1 a j (wz_N_X8_next_X8_readAsks h)).trans (kn_99 a j h)
      have b_117 := q_117.2.2.1
      have c15_117 : Int32.toInt (e_117.2.1 P 15) = Int32.toInt (M_99 P 15) := congrArg Int32.toInt (q_117.1 P 15 (wc_X8_next_15))
      have c28_117 : Int32.toInt (e_117.2.1 P 28) = Int32.toInt (M_99 P 28) := congrArg Int32.toInt (q_117.1 P 28 (wc_X8_next_28))
      have c29_117 : Int32.toInt (e_117.2.1 P 29) = Int32.toInt (M_99 P 29) := congrArg Int32.toInt (q_117.1 P 29 (wc_X8_next_29))
      have c30_117 : Int32.toInt (e_117.2.1 P 30) = Int32.toInt (M_99 P 30) := congrArg Int32.toInt (q_117.1 P 30 (wc_X8_next_30))
      have c31_117 : Int32.toInt (e_117.2.1 P 31) = Int32.toInt (M_99 P 31) := congrArg Int32.toInt (q_117.1 P 31 (wc_X8_next_31))
      have n_117 : nA P e_117.2.1 = nA P M_99 := nA_congr (fun a j h => q_117.1 a j (wf_nA_X8_next h))
      have p_jY_117 : jY P e_117.2.1 := jY.mono p_jY_99 (fun a j h => q_117.1 a j (wf_jY_X8_next h))
      obtain ⟨u0_jY_117, u1_jY_117, u2_jY_117, u3_jY_117, u4_jY_117, u5_jY_117⟩ := id p_jY_117
      have p_jZ_117 : jZ P e_117.2.1 := jZ.mono p_jZ_99 (fun a j h => q_117.1 a j (wf_jZ_X8_next h))
      obtain ⟨x0_117, x1_117, x2_117, x3_117⟩ := q_117.2.2.2
      obtain ⟨u0_jX_117, u1_jX_117, u2_jX_117, u3_jX_117⟩ := id x0_117
      (try simp only [Int32.toInt_add, Int32.toInt_sub, Int32.toInt_mul, Int32.toInt_toInt64, Int64.toInt_add, z_m1, Int32.reduceToInt, Int64.reduceToInt, Int32.reduceToNatClampNeg, Int.bmod_def] at x1_117)
      (try simp only [Int32.toInt_add, Int32.toInt_sub, Int32.toInt_mul, Int32.toInt_toInt64, Int64.toInt_add, z_m1, Int32.reduceToInt, Int64.reduceToInt, Int32.reduceToNatClampNeg, Int.bmod_def] at x2_117)
      (try simp only [Int32.toInt_add, Int32.toInt_sub, Int32.toInt_mul, Int32.toInt_toInt64, Int64.toInt_add, z_m1, Int32.reduceToInt, Int64.reduceToInt, Int32.reduceToNatClampNeg, Int.bmod_def] at x3_117)
      exact T_124 _ _ _ _ k_117 kn_117 x0_117 p_jY_117 p_jZ_117 (by first | omega | (simp only [Int32.toInt_add, Int32.toInt_sub, Int32.toInt_mul, Int32.toInt_toInt64, Int64.toInt_add, z_m1, Int32.reduceToInt, Int64.reduceToInt, Int32.reduceToNatClampNeg, Int.bmod_def, or_true, true_or, and_true, true_and] <;> omega)) (by first | omega | (simp only [Int32.toInt_add, Int32.toInt_sub, Int32.toInt_mul, Int32.toInt_toInt64, Int64.toInt_add, z_m1, Int32.reduceToInt, Int64.reduceToInt, Int32.reduceToNatClampNeg, Int.bmod_def, or_true, true_or, and_true, true_and] <;> omega)) (by first | omega | (simp only [Int32.toInt_add, Int32.toInt_sub, Int32.toInt_mul, Int32.toInt_toInt64, Int64.toInt_add, z_m1, Int32.reduceToInt, Int64.reduceToInt, Int32.reduceToNatClampNeg, Int.bmod_def, or_true, true_or, and_true, true_and] <;> omega)) (by first | omega | (simp only [Int32.toInt_add, Int32.toInt_sub, Int32.toInt_mul, Int32.toInt_toInt64, Int64.toInt_add, z_m1, Int32.reduceToInt, Int64.reduceToInt, Int32.reduceToNatClampNeg, Int.bmod_def, or_true, true_or, and_true, true_and] <;> omega))
    · have i_107 : ¬ Int32.toInt (M_99 (P + 2) y0_99.toNatClampNeg) = Int32.toInt (-1 : Int32) := fun q => h_107 (Int32.toInt_inj.mp q)
      (try simp only [Int32.toInt_add, Int32.toInt_sub, Int32.toInt_mul, Int32.toInt_toInt64, Int64.toInt_add, z_m1, Int32.reduceToInt, Int64.reduceToInt, Int32.reduceToNatClampNeg, Int.bmod_def] at i_107)
      refine vB (v_X8_bad) (fun e_112 f_112 q_112 => ?_)
      have k_112 : ∀ a j, ¬ WM_X8_readAsks P a j → e_112.2 a j = M0 a j := fun a j h => (q_112.1 a j (wz_M_X8_bad_X8_readAsks h)).trans (k_99 a j h)
      have b_112 := q_112.2.1
      have c15_112 : Int32.toInt (e_112.2 P 15) = Int32.toInt (M_99 P 15) := congrArg Int32.toInt (q_112.1 P 15 (wc_X8_bad_15))
      have c17_112 : Int32.toInt (e_112.2 P 17) = Int32.toInt (M_99 P 17) := congrArg Int32.toInt (q_112.1 P 17 (wc_X8_bad_17))
      have c18_112 : Int32.toInt (e_112.2 P 18) = Int32.toInt (M_99 P 18) := congrArg Int32.toInt (q_112.1 P 18 (wc_X8_bad_18))
      have c20_112 : Int32.toInt (e_112.2 P 20) = Int32.toInt (M_99 P 20) := congrArg Int32.toInt (q_112.1 P 20 (wc_X8_bad_20))
      have c28_112 : Int32.toInt (e_112.2 P 28) = Int32.toInt (M_99 P 28) := congrArg Int32.toInt (q_112.1 P 28 (wc_X8_bad_28))
      have c29_112 : Int32.toInt (e_112.2 P 29) = Int32.toInt (M_99 P 29) := congrArg Int32.toInt (q_112.1 P 29 (wc_X8_bad_29))
      have c30_112 : Int32.toInt (e_112.2 P 30) = Int32.toInt (M_99 P 30) := congrArg Int32.toInt (q_112.1 P 30 (wc_X8_bad_30))
      have c31_112 : Int32.toInt (e_112.2 P 31) = Int32.toInt (M_99 P 31) := congrArg Int32.toInt (q_112.1 P 31 (wc_X8_bad_31))
      have n_112 : nA P e_112.2 = nA P M_99 := nA_congr (fun a j h => q_112.1 a j (wf_nA_X8_bad h))
      have p_jX_112 : jX P e_112.2 := jX.mono p_jX_99 (fun a j h => q_112.1 a j (wf_jX_X8_bad h))
      obtain ⟨u0_jX_112, u1_jX_112, u2_jX_112, u3_jX_112⟩ := id p_jX_112
      have p_jY_112 : jY P e_112.2 := jY.mono p_jY_99 (fun a j h => q_112.1 a j (wf_jY_X8_bad h))
      obtain ⟨u0_jY_112, u1_jY_112, u2_jY_112, u3_jY_112, u4_jY_112, u5_jY_112⟩ := id p_jY_112
      have p_jZ_112 : jZ P e_112.2 := jZ.mono p_jZ_99 (fun a j h => q_112.1 a j (wf_jZ_X8_bad h))
      have x0_112 := q_112.2.2
      (try simp only [Int32.toInt_add, Int32.toInt_sub, Int32.toInt_mul, Int32.toInt_toInt64, Int64.toInt_add, z_m1, Int32.reduceToInt, Int64.reduceToInt, Int32.reduceToNatClampNeg, Int.bmod_def] at x0_112)
      exact ⟨_, rfl, k_112, kn_99, (by first | exact Or.inl rfl | exact Or.inr rfl | assumption), ⟨p_jX_112, p_jY_112, p_jZ_112, (by first | omega | (simp only [Int32.toInt_add, Int32.toInt_sub, Int32.toInt_mul, Int32.toInt_toInt64, Int64.toInt_add, z_m1, Int32.reduceToInt, Int64.reduceToInt, Int32.reduceToNatClampNeg, Int.bmod_def, or_true, true_or, and_true, true_and] <;> omega))⟩⟩
  have T_79 : ∀ (x1_79 : Int32) (x2_79 : Int32) (M_79 : zMt) (N_79 : zNt), (∀ a j, ¬ WM_X8_readAsks P a j → M_79 a j = M0 a j) → (∀ a j, ¬ WN_X8_readAsks P a j → N_79 a j = N0 a j) → (jX P M_79) → (jY P M_79) → (jZ P M_79) → (Int32.toInt (M0 P 17) ≤ Int32.toInt (M_79 P 17)) → ((Int32.toInt x2_79 = -1 ∧ 0 ≤ Int32.toInt x1_79 ∧ Int32.toInt x1_79 < 10) ∨ (0 ≤ Int32.toInt x2_79 ∧ Int32.toInt x2_79 < 4)) → ∃ r, D_X8_readAsks_79 P x1_79 x2_79 M_79 N_79 = some r ∧ ((∀ a j, ¬ WM_X8_readAsks P a j → r.2.1 a j = M0 a j) ∧ (∀ a j, ¬ WN_X8_readAsks P a j → r.2.2 a j = N0 a j) ∧ (r.1 = 0 ∨ r.1 = 1) ∧ ((jX P r.2.1) ∧ (jY P r.2.1) ∧ (jZ P r.2.1) ∧ (Int32.toInt (M0 P 17) ≤ Int32.toInt (r.2.1 P 17)))) := by
    intro x1_79 x2_79 M_79 N_79 k_79 kn_79 p_jX_79 p_jY_79 p_jZ_79 f0_79 f1_79
    obtain ⟨u0_jX_79, u1_jX_79, u2_jX_79, u3_jX_79⟩ := id p_jX_79
    obtain ⟨u0_jY_79, u1_jY_79, u2_jY_79, u3_jY_79, u4_jY_79, u5_jY_79⟩ := id p_jY_79
    unfold D_X8_readAsks_79
    refine vIf (fun h_81 => ?_) (fun h_81 => ?_)
    · have i_81 := congrArg Int32.toInt h_81
      (try simp only [Int32.toInt_add, Int32.toInt_sub, Int32.toInt_mul, Int32.toInt_toInt64, Int64.toInt_add, z_m1, Int32.reduceToInt, Int64.reduceToInt, Int32.reduceToNatClampNeg, Int.bmod_def] at i_81)
      exact T_99 _ _ _ k_79 kn_79 p_jX_79 p_jY_79 p_jZ_79 (by first | omega | (simp only [Int32.toInt_add, Int32.toInt_sub, Int32.toInt_mul, Int32.toInt_toInt64, Int64.toInt_add, z_m1, Int32.reduceToInt, Int64.reduceToInt, Int32.reduceToNatClampNeg, Int.bmod_def, or_true, true_or, and_true, true_and] <;> omega)) (by first | (have q9 : ¬ _ := i_81; exact z_at50 (by omega) (by omega)) | exact z_at20 (by omega) (by omega))
    · have i_81 : ¬ Int32.toInt x2_79 = Int32.toInt (-1 : Int32) := fun q => h_81 (Int32.toInt_inj.mp q)
      (try simp only [Int32.toInt_add, Int32.toInt_sub, Int32.toInt_mul, Int32.toInt_toInt64, Int64.toInt_add, z_m1, Int32.reduceToInt, Int64.reduceToInt, Int32.reduceToNatClampNeg, Int.bmod_def] at i_81)
      exact T_99 _ _ _ k_79 kn_79 p_jX_79 p_jY_79 p_jZ_79 (by first | omega | (simp only [Int32.toInt_add, Int32.toInt_sub, Int32.toInt_mul, Int32.toInt_toInt64, Int64.toInt_add, z_m1, Int32.reduceToInt, Int64.reduceToInt, Int32.reduceToNatClampNeg, Int.bmod_def, or_true, true_or, and_true, true_and] <;> omega)) (by first | (have q9 : ¬ _ := i_81; exact z_at50 (by omega) (by omega)) | exact z_at20 (by omega) (by omega))
  have T_73 : ∀ (M_73 : zMt) (N_73 : zNt), (∀ a j, ¬ WM_X8_readAsks P a j → M_73 a j = M0 a j) → (∀ a j, ¬ WN_X8_readAsks P a j → N_73 a j = N0 a j) → (jX P M_73) → (jY P M_73) → (jZ P M_73) → (Int32.toInt (M0 P 17) ≤ Int32.toInt (M_73 P 17)) → ∃ r, D_X8_readAsks_73 P M_73 N_73 = some r ∧ ((∀ a j, ¬ WM_X8_readAsks P a j → r.2.1 a j = M0 a j) ∧ (∀ a j, ¬ WN_X8_readAsks P a j → r.2.2 a j = N0 a j) ∧ (r.1 = 0 ∨ r.1 = 1) ∧ ((jX P r.2.1) ∧ (jY P r.2.1) ∧ (jZ P r.2.1) ∧ (Int32.toInt (M0 P 17) ≤ Int32.toInt (r.2.1 P 17)))) := by
    intro M_73 N_73 k_73 kn_73 p_jX_73 p_jY_73 p_jZ_73 f0_73
    obtain ⟨u0_jX_73, u1_jX_73, u2_jX_73, u3_jX_73⟩ := id p_jX_73
    obtain ⟨u0_jY_73, u1_jY_73, u2_jY_73, u3_jY_73, u4_jY_73, u5_jY_73⟩ := id p_jY_73
    unfold D_X8_readAsks_73
    refine vB (v_X8_bad) (fun e_75 f_75 q_75 => ?_)
    have k_75 : ∀ a j, ¬ WM_X8_readAsks P a j → e_75.2 a j = M0 a j := fun a j h => (q_75.1 a j (wz_M_X8_bad_X8_readAsks h)).trans (k_73 a j h)
    have b_75 := q_75.2.1
    have c15_75 : Int32.toInt (e_75.2 P 15) = Int32.toInt (M_73 P 15) := congrArg Int32.toInt (q_75.1 P 15 (wc_X8_bad_15))
    have c17_75 : Int32.toInt (e_75.2 P 17) = Int32.toInt (M_73 P 17) := congrArg Int32.toInt (q_75.1 P 17 (wc_X8_bad_17))
    have c18_75 : Int32.toInt (e_75.2 P 18) = Int32.toInt (M_73 P 18) := congrArg Int32.toInt (q_75.1 P 18 (wc_X8_bad_18))
    have c20_75 : Int32.toInt (e_75.2 P 20) = Int32.toInt (M_73 P 20) := congrArg Int32.toInt (q_75.1 P 20 (wc_X8_bad_20))
    have c28_75 : Int32.toInt (e_75.2 P 28) = Int32.toInt (M_73 P 28) := congrArg Int32.toInt (q_75.1 P 28 (wc_X8_bad_28))
    have c29_75 : Int32.toInt (e_75.2 P 29) = Int32.toInt (M_73 P 29) := congrArg Int32.toInt (q_75.1 P 29 (wc_X8_bad_29))
    have c30_75 : Int32.toInt (e_75.2 P 30) = Int32.toInt (M_73 P 30) := congrArg Int32.toInt (q_75.1 P 30 (wc_X8_bad_30))
    have c31_75 : Int32.toInt (e_75.2 P 31) = Int32.toInt (M_73 P 31) := congrArg Int32.toInt (q_75.1 P 31 (wc_X8_bad_31))
    have n_75 : nA P e_75.2 = nA P M_73 := nA_congr (fun a j h => q_75.1 a j (wf_nA_X8_bad h))
    have p_jX_75 : jX P e_75.2 := jX.mono p_jX_73 (fun a j h => q_75.1 a j (wf_jX_X8_bad h))
    obtain ⟨u0_jX_75, u1_jX_75, u2_jX_75, u3_jX_75⟩ := id p_jX_75
    have p_jY_75 : jY P e_75.2 := jY.mono p_jY_73 (fun a j h => q_75.1 a j (wf_jY_X8_bad h))
    obtain ⟨u0_jY_75, u1_jY_75, u2_jY_75, u3_jY_75, u4_jY_75, u5_jY_75⟩ := id p_jY_75
    have p_jZ_75 : jZ P e_75.2 := jZ.mono p_jZ_73 (fun a j h => q_75.1 a j (wf_jZ_X8_bad h))
    have x0_75 := q_75.2.2
    (try simp only [Int32.toInt_add, Int32.toInt_sub, Int32.toInt_mul, Int32.toInt_toInt64, Int64.toInt_add, z_m1, Int32.reduceToInt, Int64.reduceToInt, Int32.reduceToNatClampNeg, Int.bmod_def] at x0_75)
    exact ⟨_, rfl, k_75, kn_73, (by first | exact Or.inl rfl | exact Or.inr rfl | assumption), ⟨p_jX_75, p_jY_75, p_jZ_75, (by first | omega | (simp only [Int32.toInt_add, Int32.toInt_sub, Int32.toInt_mul, Int32.toInt_toInt64, Int64.toInt_add, z_m1, Int32.reduceToInt, Int64.reduceToInt, Int32.reduceToNatClampNeg, Int.bmod_def, or_true, true_or, and_true, true_and] <;> omega))⟩⟩
  unfold D_X8_readAsks
  refine vB (v_X8_next p_jX) (fun e_1 f_1 q_1 => ?_)
  have k_1 : ∀ a j, ¬ WM_X8_readAsks P a j → e_1.2.1 a j = M0 a j := fun a j h => (q_1.1 a j (wz_M_X8_next_X8_readAsks h))
  have kn_1 : ∀ a j, ¬ WN_X8_readAsks P a j → e_1.2.2 a j = N0 a j := fun a j h => (q_1.2.1 a j (wz_N_X8_next_X8_readAsks h))
  have b_1 := q_1.2.2.1
  have c15_1 : Int32.toInt (e_1.2.1 P 15) = Int32.toInt (M0 P 15) := congrArg Int32.toInt (q_1.1 P 15 (wc_X8_next_15))
  have c28_1 : Int32.toInt (e_1.2.1 P 28) = Int32.toInt (M0 P 28) := congrArg Int32.toInt (q_1.1 P 28 (wc_X8_next_28))
  have c29_1 : Int32.toInt (e_1.2.1 P 29) = Int32.toInt (M0 P 29) := congrArg Int32.toInt (q_1.1 P 29 (wc_X8_next_29))
  have c30_1 : Int32.toInt (e_1.2.1 P 30) = Int32.toInt (M0 P 30) := congrArg Int32.toInt (q_1.1 P 30 (wc_X8_next_30))
  have c31_1 : Int32.toInt (e_1.2.1 P 31) = Int32.toInt (M0 P 31) := congrArg Int32.toInt (q_1.1 P 31 (wc_X8_next_31))
  have n_1 : nA P e_1.2.1 = nA P M0 := nA_congr (fun a j h => q_1.1 a j (wf_nA_X8_next h))
  have p_jY_1 : jY P e_1.2.1 := jY.mono p_jY (fun a j h => q_1.1 a j (wf_jY_X8_next h))
  obtain ⟨u0_jY_1, u1_jY_1, u2_jY_1, u3_jY_1, u4_jY_1, u5_jY_1⟩ := id p_jY_1
  have p_jZ_1 : jZ P e_1.2.1 := jZ.mono p_jZ (fun a j h => q_1.1 a j (wf_jZ_X8_next h))
  obtain ⟨x0_1, x1_1, x2_1, x3_1⟩ := q_1.2.2.2
  obtain ⟨u0_jX_1, u1_jX_1, u2_jX_1, u3_jX_1⟩ := id x0_1
  (try simp only [Int32.toInt_add, Int32.toInt_sub, Int32.toInt_mul, Int32.toInt_toInt64, Int64.toInt_add, z_m1, Int32.reduceToInt, Int64.reduceToInt, Int32.reduceToNatClampNeg, Int.bmod_def] at x1_1)
  (try simp only [Int32.toInt_add, Int32.toInt_sub, Int32.toInt_mul, Int32.toInt_toInt64, Int64.toInt_add, z_m1, Int32.reduceToInt, Int64.reduceToInt, Int32.reduceToNatClampNeg, Int.bmod_def] at x2_1)
  (try simp only [Int32.toInt_add, Int32.toInt_sub, Int32.toInt_mul, Int32.toInt_toInt64, Int64.toInt_add, z_m1, Int32.reduceToInt, Int64.reduceToInt, Int32.reduceToNatClampNeg, Int.bmod_def] at x3_1)
  refine vB (v_X8_isName) (fun e_6 f_6 q_6 => ?_)
  have b_6 := q_6
  refine vIf (fun h_9 => ?_) (fun h_9 => ?_)
  · have i_9 := congrArg Int32.toInt h_9
    (try simp only [Int32.toInt_add, Int32.toInt_sub, Int32.toInt_mul, Int32.toInt_toInt64, Int64.toInt_add, z_m1, Int32.reduceToInt, Int64.reduceToInt, Int32.reduceToNatClampNeg, Int.bmod_def] at i_9)
    refine vB (v_X8_bad) (fun e_14 f_14 q_14 => ?_)
    have k_14 : ∀ a j, ¬ WM_X8_readAsks P a j → e_14.2 a j = M0 a j := fun a j h => (q_14.1 a j (wz_M_X8_bad_X8_readAsks h)).trans (k_1 a j h)
    have b_14 := q_14.2.1
    have c15_14 : Int32.toInt (e_14.2 P 15) = Int32.toInt (e_1.2.1 P 15) := congrArg Int32.toInt (q_14.1 P 15 (wc_X8_bad_15))
    have c17_14 : Int32.toInt (e_14.2 P 17) = Int32.toInt (e_1.2.1 P 17) := congrArg Int32.toInt (q_14.1 P 17 (wc_X8_bad_17))
    have c18_14 : Int32.toInt (e_14.2 P 18) = Int32.toInt (e_1.2.1 P 18) := congrArg Int32.toInt (q_14.1 P 18 (wc_X8_bad_18))
    have c20_14 : Int32.toInt (e_14.2 P 20) = Int32.toInt (e_1.2.1 P 20) := congrArg Int32.toInt (q_14.1 P 20 (wc_X8_bad_20))
    have c28_14 : Int32.toInt (e_14.2 P 28) = Int32.toInt (e_1.2.1 P 28) := congrArg Int32.toInt (q_14.1 P 28 (wc_X8_bad_28))
    have c29_14 : Int32.toInt (e_14.2 P 29) = Int32.toInt (e_1.2.1 P 29) := congrArg Int32.toInt (q_14.1 P 29 (wc_X8_bad_29))
    have c30_14 : Int32.toInt (e_14.2 P 30) = Int32.toInt (e_1.2.1 P 30) := congrArg Int32.toInt (q_14.1 P 30 (wc_X8_bad_30))
    have c31_14 : Int32.toInt (e_14.2 P 31) = Int32.toInt (e_1.2.1 P 31) := congrArg Int32.toInt (q_14.1 P 31 (wc_X8_bad_31))
    have n_14 : nA P e_14.2 = nA P e_1.2.1 := nA_congr (fun a j h => q_14.1 a j (wf_nA_X8_bad h))
    have p_jY_14 : jY P e_14.2 := jY.mono p_jY_1 (fun a j h => q_14.1 a j (wf_jY_X8_bad h))
    obtain ⟨u0_jY_14, u1_jY_14, u2_jY_14, u3_jY_14, u4_jY_14, u5_jY_14⟩ := id p_jY_14
    have p_jZ_14 : jZ P e_14.2 := jZ.mono p_jZ_1 (fun a j h => q_14.1 a j (wf_jZ_X8_bad h))
    have p_jX_14 : jX P e_14.2 := jX.mono x0_1 (fun a j h => q_14.1 a j (wf_jX_X8_bad h))
    obtain ⟨u0_jX_14, u1_jX_14, u2_jX_14, u3_jX_14⟩ := id p_jX_14
    have x0_14 := q_14.2.2
    (try simp only [Int32.toInt_add, Int32.toInt_sub, Int32.toInt_mul, Int32.toInt_toInt64, Int64.toInt_add, z_m1, Int32.reduceToInt, Int64.reduceToInt, Int32.reduceToNatClampNeg, Int.bmod_def] at x0_14)
    exact ⟨_, rfl, k_14, kn_1, (by first | exact Or.inl rfl | exact Or.inr rfl | assumption), ⟨p_jX_14, p_jY_14, p_jZ_14, (by first | omega | (simp only [Int32.toInt_add, Int32.toInt_sub, Int32.toInt_mul, Int32.toInt_toInt64, Int64.toInt_add, z_m1, Int32.reduceToInt, Int64.reduceToInt, Int32.reduceToNatClampNeg, Int.bmod_def, or_true, true_or, and_true, true_and] <;> omega))⟩⟩
  · have i_9 : ¬ Int32.toInt e_6 = Int32.toInt (0 : Int32) := fun q => h_9 (Int32.toInt_inj.mp q)
    (try simp only [Int32.toInt_add, Int32.toInt_sub, Int32.toInt_mul, Int32.toInt_toInt64, Int64.toInt_add, z_m1, Int32.reduceToInt, Int64.reduceToInt, Int32.reduceToNatClampNeg, Int.bmod_def] at i_9)
    refine vB (v_X8_found (by first | omega | (simp only [Int32.toInt_add, Int32.toInt_sub, Int32.toInt_mul, Int32.toInt_toInt64, Int64.toInt_add, z_m1, Int32.reduceToInt, Int64.reduceToInt, Int32.reduceToNatClampNeg, Int.bmod_def, or_true, true_or, and_true, true_and] <;> omega)) (by first | omega | (simp only [Int32.toInt_add, Int32.toInt_sub, Int32.toInt_mul, Int32.toInt_toInt64, Int64.toInt_add, z_m1, Int32.reduceToInt, Int64.reduceToInt, Int32.reduceToNatClampNeg, Int.bmod_def, or_true, true_or, and_true, true_and] <;> omega))) (fun e_30 f_30 q_30 => ?_)
    obtain ⟨x0_30, x1_30⟩ := q_30
    (try simp only [Int32.toInt_add, Int32.toInt_sub, Int32.toInt_mul, Int32.toInt_toInt64, Int64.toInt_add, z_m1, Int32.reduceToInt, Int64.reduceToInt, Int32.reduceToNatClampNeg, Int.bmod_def] at x0_30)
    (try simp only [Int32.toInt_add, Int32.toInt_sub, Int32.toInt_mul, Int32.toInt_toInt64, Int64.toInt_add, z_m1, Int32.reduceToInt, Int64.reduceToInt, Int32.reduceToNatClampNeg, Int.bmod_def] at x1_30)
    refine vB (v_X8_found (by first | omega | (simp only [Int32.toInt_add, Int32.toInt_sub, Int32.toInt_mul, Int32.toInt_toInt64, Int64.toInt_add, z_m1, Int32.reduceToInt, Int64.reduceToInt, Int32.reduceToNatClampNeg, Int.bmod_def, or_true, true_or, and_true, true_and] <;> omega)) (by first | omega | (simp only [Int32.toInt_add, Int32.toInt_sub, Int32.toInt_mul, Int32.toInt_toInt64, Int64.toInt_add, z_m1, Int32.reduceToInt, Int64.reduceToInt, Int32.reduceToNatClampNeg, Int.bmod_def, or_true, true_or, and_true, true_and] <;> omega))) (fun e_46 f_46 q_46 => ?_)
    obtain ⟨x0_46, x1_46⟩ := q_46
    (try simp only [Int32.toInt_add, Int32.toInt_sub, Int32.toInt_mul, Int32.toInt_toInt64, Int64.toInt_add, z_m1, Int32.reduceToInt, Int64.reduceToInt, Int32.reduceToNatClampNeg, Int.bmod_def] at x0_46)
    (try simp only [Int32.toInt_add, Int32.toInt_sub, Int32.toInt_mul, Int32.toInt_toInt64, Int64.toInt_add, z_m1, Int32.reduceToInt, Int64.reduceToInt, Int32.reduceToNatClampNeg, Int.bmod_def] at x1_46)
    refine vIf (fun h_52 => ?_) (fun h_52 => ?_)
    · have i_52 := congrArg Int32.toInt h_52
      (try simp only [Int32.toInt_add, Int32.toInt_sub, Int32.toInt_mul, Int32.toInt_toInt64, Int64.toInt_add, z_m1, Int32.reduceToInt, Int64.reduceToInt, Int32.reduceToNatClampNeg, Int.bmod_def] at i_52)
      refine vIf (fun h_57 => ?_) (fun h_57 => ?_)
      · have i_57 := congrArg Int32.toInt h_57
        (try simp only [Int32.toInt_add, Int32.toInt_sub, Int32.toInt_mul, Int32.toInt_toInt64, Int64.toInt_add, z_m1, Int32.reduceToInt, Int64.reduceToInt, Int32.reduceToNatClampNeg, Int.bmod_def] at i_57)
        exact T_73 _ _ k_1 kn_1 x0_1 p_jY_1 p_jZ_1 (by first | omega | (simp only [Int32.toInt_add, Int32.toInt_sub, Int32.toInt_mul, Int32.toInt_toInt64, Int64.toInt_add, z_m1, Int32.reduceToInt, Int64.reduceToInt, Int32.reduceToNatClampNeg, Int.bmod_def, or_true, true_or, and_true, true_and] <;> omega))
      · have i_57 : ¬ Int32.toInt e_30 = Int32.toInt (-1 : Int32) := fun q => h_57 (Int32.toInt_inj.mp q)
        (try simp only [Int32.toInt_add, Int32.toInt_sub, Int32.toInt_mul, Int32.toInt_toInt64, Int64.toInt_add, z_m1, Int32.reduceToInt, Int64.reduceToInt, Int32.reduceToNatClampNeg, Int.bmod_def] at i_57)
        refine vI (vp_of (by first | omega | (simp only [Int32.toInt_add, Int32.toInt_sub, Int32.toInt_mul, Int32.toInt_toInt64, Int64.toInt_add, z_m1, Int32.reduceToInt, Int64.reduceToInt, Int32.reduceToNatClampNeg, Int.bmod_def, or_true, true_or, and_true, true_and] <;> omega)) (by first | omega | (simp only [Int32.toInt_add, Int32.toInt_sub, Int32.toInt_mul, Int32.toInt_toInt64, Int64.toInt_add, z_m1, Int32.reduceToInt, Int64.reduceToInt, Int32.reduceToNatClampNeg, Int.bmod_def, or_true, true_or, and_true, true_and] <;> omega))) ?_
        refine vIf (fun h_70 => ?_) (fun h_70 => ?_)
        · have i_70 := congrArg Int32.toInt h_70
          (try simp only [Int32.toInt_add, Int32.toInt_sub, Int32.toInt_mul, Int32.toInt_toInt64, Int64.toInt_add, z_m1, Int32.reduceToInt, Int64.reduceToInt, Int32.reduceToNatClampNeg, Int.bmod_def] at i_70)
          exact T_79 _ _ _ _ k_1 kn_1 x0_1 p_jY_1 p_jZ_1 (by first | omega | (simp only [Int32.toInt_add, Int32.toInt_sub, Int32.toInt_mul, Int32.toInt_toInt64, Int64.toInt_add, z_m1, Int32.reduceToInt, Int64.reduceToInt, Int32.reduceToNatClampNeg, Int.bmod_def, or_true, true_or, and_true, true_and] <;> omega)) (by first | omega | (simp only [Int32.toInt_add, Int32.toInt_sub, Int32.toInt_mul, Int32.toInt_toInt64, Int64.toInt_add, z_m1, Int32.reduceToInt, Int64.reduceToInt, Int32.reduceToNatClampNeg, Int.bmod_def, or_true, true_or, and_true, true_and] <;> omega))
        · have i_70 : ¬ Int32.toInt (e_1.2.1 (P + 2) ((10 : Int32) + e_30).toNatClampNeg) = Int32.toInt (-1 : Int32) := fun q => h_70 (Int32.toInt_inj.mp q)
          (try simp only [Int32.toInt_add, Int32.toInt_sub, Int32.toInt_mul, Int32.toInt_toInt64, Int64.toInt_add, z_m1, Int32.reduceToInt, Int64.reduceToInt, Int32.reduceToNatClampNeg, Int.bmod_def] at i_70)
          exact T_73 _ _ k_1 kn_1 x0_1 p_jY_1 p_jZ_1 (by first | omega | (simp only [Int32.toInt_add, Int32.toInt_sub, Int32.toInt_mul, Int32.toInt_toInt64, Int64.toInt_add, z_m1, Int32.reduceToInt, Int64.reduceToInt, Int32.reduceToNatClampNeg, Int.bmod_def, or_true, true_or, and_true, true_and] <;> omega))
    · have i_52 : ¬ Int32.toInt e_46 = Int32.toInt (-1 : Int32) := fun q => h_52 (Int32.toInt_inj.mp q)
      (try simp only [Int32.toInt_add, Int32.toInt_sub, Int32.toInt_mul, Int32.toInt_toInt64, Int64.toInt_add, z_m1, Int32.reduceToInt, Int64.reduceToInt, Int32.reduceToNatClampNeg, Int.bmod_def] at i_52)
      exact T_79 _ _ _ _ k_1 kn_1 x0_1 p_jY_1 p_jZ_1 (by first | omega | (simp only [Int32.toInt_add, Int32.toInt_sub, Int32.toInt_mul, Int32.toInt_toInt64, Int64.toInt_add, z_m1, Int32.reduceToInt, Int64.reduceToInt, Int32.reduceToNatClampNeg, Int.bmod_def, or_true, true_or, and_true, true_and] <;> omega)) (by first | omega | (simp only [Int32.toInt_add, Int32.toInt_sub, Int32.toInt_mul, Int32.toInt_toInt64, Int64.toInt_add, z_m1, Int32.reduceToInt, Int64.reduceToInt, Int32.reduceToNatClampNeg, Int.bmod_def, or_true, true_or, and_true, true_and] <;> omega))
