def WM_X8_readParty (P : Nat) (a j : Nat) : Prop := (P + 2 ≤ a ∧ a < P + 3) ∨ (a = P ∧ (j = 16 ∨ j = 17 ∨ j = 18 ∨ j = 19 ∨ j = 20 ∨ j = 21 ∨ j = 22 ∨ j = 30))
def WN_X8_readParty (P : Nat) (a j : Nat) : Prop := (P + 10 ≤ a ∧ a < P + 11) ∨ (a = P ∧ (j = 24 ∨ j = 32))
theorem v_X8_readParty {P : Nat} {M0 : zMt} {N0 : zNt} (p_jX : jX P M0) (p_jY : jY P M0) (p_jZ : jZ P M0) : ∃ r, D_X8_readParty P M0 N0 = some r ∧ ((∀ a j, ¬ WM_X8_readParty P a j → r.2.1 a j = M0 a j) ∧ (∀ a j, ¬ WN_X8_readParty P a j → r.2.2 a j = N0 a j) ∧ (r.1 = 0 ∨ r.1 = 1) ∧ ((jX P r.2.1) ∧ (jY P r.2.1) ∧ (jZ P r.2.1) ∧ (Int32.toInt (M0 P 17) ≤ Int32.toInt (r.2.1 P 17)))) := by
  obtain ⟨r, e, k, kn, q⟩ := h_X8_readParty p_jX p_jY p_jZ
  exact ⟨r, e, fun a j h => k a j (by unfold jWP; unfold WM_X8_readParty at h; omega), fun a j h => kn a j (by unfold jWN; unfold WN_X8_readParty at h; omega), q⟩
def WM_X8_readLine (P : Nat) (a j : Nat) : Prop := (P + 2 ≤ a ∧ a < P + 3) ∨ (P + 6 ≤ a ∧ a < P + 7) ∨ (a = P ∧ (j = 16 ∨ j = 17 ∨ j = 18 ∨ j = 19 ∨ j = 20 ∨ j = 21 ∨ j = 22 ∨ j = 23 ∨ j = 28 ∨ j = 29 ∨ j = 30 ∨ j = 31))
def WN_X8_readLine (P : Nat) (a j : Nat) : Prop := (P + 8 ≤ a ∧ a < P + 11) ∨ (a = P ∧ (j = 24 ∨ j = 32))
theorem wz_M_X8_next_X8_readLine {P a j : Nat} (h : ¬ WM_X8_readLine P a j) : ¬ WM_X8_next P a j := by unfold WM_X8_next; unfold WM_X8_readLine at h; omega
theorem wz_N_X8_next_X8_readLine {P a j : Nat} (h : ¬ WN_X8_readLine P a j) : ¬ WN_X8_next P a j := by unfold WN_X8_next; unfold WN_X8_readLine at h; omega
theorem wz_M_X8_bad_X8_readLine {P a j : Nat} (h : ¬ WM_X8_readLine P a j) : ¬ WM_X8_bad P a j := by unfold WM_X8_bad; unfold WM_X8_readLine at h; omega
theorem wz_M_X8_readOnce_X8_readLine {P a j : Nat} (h : ¬ WM_X8_readLine P a j) : ¬ WM_X8_readOnce P a j := by unfold WM_X8_readOnce; unfold WM_X8_readLine at h; omega
theorem wz_N_X8_readOnce_X8_readLine {P a j : Nat} (h : ¬ WN_X8_readLine P a j) : ¬ WN_X8_readOnce P a j := by unfold WN_X8_readOnce; unfold WN_X8_readLine at h; omega
theorem wc_X8_readOnce_15 {P : Nat} : ¬ WM_X8_readOnce P P 15 := by unfold WM_X8_readOnce; omega
theorem wc_X8_readOnce_28 {P : Nat} : ¬ WM_X8_readOnce P P 28 := by unfold WM_X8_readOnce; omega
theorem wc_X8_readOnce_29 {P : Nat} : ¬ WM_X8_readOnce P P 29 := by unfold WM_X8_readOnce; omega
theorem wc_X8_readOnce_30 {P : Nat} : ¬ WM_X8_readOnce P P 30 := by unfold WM_X8_readOnce; omega
theorem wf_nA_X8_readOnce {P a j : Nat} (h : (a = P + 1 ∨ (a = P ∧ j = 8))) : ¬ WM_X8_readOnce P a j := by unfold WM_X8_readOnce; omega
theorem wf_jY_X8_readOnce {P a j : Nat} (h : (a = P ∧ (j = 28 ∨ j = 29 ∨ j = 30))) : ¬ WM_X8_readOnce P a j := by unfold WM_X8_readOnce; omega
theorem wz_M_X8_readUnit_X8_readLine {P a j : Nat} (h : ¬ WM_X8_readLine P a j) : ¬ WM_X8_readUnit P a j := by unfold WM_X8_readUnit; unfold WM_X8_readLine at h; omega
theorem wz_N_X8_readUnit_X8_readLine {P a j : Nat} (h : ¬ WN_X8_readLine P a j) : ¬ WN_X8_readUnit P a j := by unfold WN_X8_readUnit; unfold WN_X8_readLine at h; omega
theorem wc_X8_readUnit_15 {P : Nat} : ¬ WM_X8_readUnit P P 15 := by unfold WM_X8_readUnit; omega
theorem wc_X8_readUnit_29 {P : Nat} : ¬ WM_X8_readUnit P P 29 := by unfold WM_X8_readUnit; omega
theorem wc_X8_readUnit_30 {P : Nat} : ¬ WM_X8_readUnit P P 30 := by unfold WM_X8_readUnit; omega
theorem wf_nA_X8_readUnit {P a j : Nat} (h : (a = P + 1 ∨ (a = P ∧ j = 8))) : ¬ WM_X8_readUnit P a j := by unfold WM_X8_readUnit; omega
theorem wz_M_X8_readHunter_X8_readLine {P a j : Nat} (h : ¬ WM_X8_readLine P a j) : ¬ WM_X8_readHunter P a j := by unfold WM_X8_readHunter; unfold WM_X8_readLine at h; omega
theorem wz_N_X8_readHunter_X8_readLine {P a j : Nat} (h : ¬ WN_X8_readLine P a j) : ¬ WN_X8_readHunter P a j := by unfold WN_X8_readHunter; unfold WN_X8_readLine at h; omega
theorem wc_X8_readHunter_15 {P : Nat} : ¬ WM_X8_readHunter P P 15 := by unfold WM_X8_readHunter; omega
theorem wc_X8_readHunter_28 {P : Nat} : ¬ WM_X8_readHunter P P 28 := by unfold WM_X8_readHunter; omega
theorem wc_X8_readHunter_30 {P : Nat} : ¬ WM_X8_readHunter P P 30 := by unfold WM_X8_readHunter; omega
theorem wf_nA_X8_readHunter {P a j : Nat} (h : (a = P + 1 ∨ (a = P ∧ j = 8))) : ¬ WM_X8_readHunter P a j := by unfold WM_X8_readHunter; omega
theorem wz_M_X8_readParty_X8_readLine {P a j : Nat} (h : ¬ WM_X8_readLine P a j) : ¬ WM_X8_readParty P a j := by unfold WM_X8_readParty; unfold WM_X8_readLine at h; omega
theorem wz_N_X8_readParty_X8_readLine {P a j : Nat} (h : ¬ WN_X8_readLine P a j) : ¬ WN_X8_readParty P a j := by unfold WN_X8_readParty; unfold WN_X8_readLine at h; omega
theorem wc_X8_readParty_15 {P : Nat} : ¬ WM_X8_readParty P P 15 := by unfold WM_X8_readParty; omega
theorem wc_X8_readParty_28 {P : Nat} : ¬ WM_X8_readParty P P 28 := by unfold WM_X8_readParty; omega
theorem wc_X8_readParty_29 {P : Nat} : ¬ WM_X8_readParty P P 29 := by unfold WM_X8_readParty; omega
theorem wc_X8_readParty_31 {P : Nat} : ¬ WM_X8_readParty P P 31 := by unfold WM_X8_readParty; omega
theorem wf_nA_X8_readParty {P a j : Nat} (h : (a = P + 1 ∨ (a = P ∧ j = 8))) : ¬ WM_X8_readParty P a j := by unfold WM_X8_readParty; omega
theorem wz_M_X8_readAsks_X8_readLine {P a j : Nat} (h : ¬ WM_X8_readLine P a j) : ¬ WM_X8_readAsks P a j := by unfold WM_X8_readAsks; unfold WM_X8_readLine at h; omega
theorem wz_N_X8_readAsks_X8_readLine {P a j : Nat} (h : ¬ WN_X8_readLine P a j) : ¬ WN_X8_readAsks P a j := by unfold WN_X8_readAsks; unfold WN_X8_readLine at h; omega
theorem wc_X8_readAsks_15 {P : Nat} : ¬ WM_X8_readAsks P P 15 := by unfold WM_X8_readAsks; omega
theorem wc_X8_readAsks_28 {P : Nat} : ¬ WM_X8_readAsks P P 28 := by unfold WM_X8_readAsks; omega
theorem wc_X8_readAsks_29 {P : Nat} : ¬ WM_X8_readAsks P P 29 := by unfold WM_X8_readAsks; omega
theorem wc_X8_readAsks_30 {P : Nat} : ¬ WM_X8_readAsks P P 30 := by unfold WM_X8_readAsks; omega
theorem wc_X8_readAsks_31 {P : Nat} : ¬ WM_X8_readAsks P P 31 := by unfold WM_X8_readAsks; omega
theorem wf_nA_X8_readAsks {P a j : Nat} (h : (a = P + 1 ∨ (a = P ∧ j = 8))) : ¬ WM_X8_readAsks P a j := by unfold WM_X8_readAsks; omega
theorem wf_jY_X8_readAsks {P a j : Nat} (h : (a = P ∧ (j = 28 ∨ j = 29 ∨ j = 30))) : ¬ WM_X8_readAsks P a j := by unfold WM_X8_readAsks; omega
set_option maxRecDepth 100000 in
set_option maxHeartbeats 4000000 in
theorem v_X8_readLine {P : Nat}  {M0 : zMt} {N0 : zNt}  (p_jX : jX P M0) (p_jY : jY P M0) (p_jZ : jZ P M0) : ∃ r, D_X8_readLine P M0 N0 = some r ∧ ((∀ a j, ¬ WM_X8_readLine P a j → r.2.1 a j = M0 a j) ∧ (∀ a j, ¬ WN_X8_readLine P a j → r.2.2 a j = N0 a j) ∧ (r.1 = 0 ∨ r.1 = 1) ∧ ((jX P r.2.1) ∧ (jY P r.2.1) ∧ (jZ P r.2.1) ∧ (Int32.toInt (M0 P 17) ≤ Int32.toInt (r.2.1 P 17)) ∧ (Int32.toInt r.1 = 0 ∨ Int32.toInt (r.2.1 P 18) = 0 ∨ Int32.toInt (M0 P 17) < Int32.toInt (r.2.1 P 17)))) := by
  obtain ⟨u0_jX, u1_jX, u2_jX, u3_jX⟩ := id p_jX
  obtain ⟨u0_jY, u1_jY, u2_jY, u3_jY, u4_jY, u5_jY⟩ := id p_jY
  have T_140 : ∀ (y0_140 : Int32) (M_140 : zMt) (N_140 : zNt), (∀ a j, ¬ WM_X8_readLine P a j → M_140 a j = M0 a j) → (∀ a j, ¬ WN_X8_readLine P a j → N_140 a j = N0 a j) → (jX P M_140) → (jY P M_140) → (jZ P M_140) → (y0_140 = 0 ∨ y0_140 = 1) → (Int32.toInt (M0 P 17) ≤ Int32.toInt (M_140 P 17)) → (Int32.toInt y0_140 = 0 ∨ Int32.toInt (M_140 P 18) = 0 ∨ Int32.toInt (M0 P 17) < Int32.toInt (M_140 P 17)) → ∃ r, D_X8_readLine_140 P y0_140 M_140 N_140 = some r ∧ ((∀ a j, ¬ WM_X8_readLine P a j → r.2.1 a j = M0 a j) ∧ (∀ a j, ¬ WN_X8_readLine P a j → r.2.2 a j = N0 a j) ∧ (r.1 = 0 ∨ r.1 = 1) ∧ ((jX P r.2.1) ∧ (jY P r.2.1) ∧ (jZ P r.2.1) ∧ (Int32.toInt (M0 P 17) ≤ Int32.toInt (r.2.1 P 17)) ∧ (Int32.toInt r.1 = 0 ∨ Int32.toInt (r.2.1 P 18) = 0 ∨ Int32.toInt (M0 P 17) < Int32.toInt (r.2.1 P 17)))) := by
    intro y0_140 M_140 N_140 k_140 kn_140 p_jX_140 p_jY_140 p_jZ_140 f0_140 f1_140 f2_140
    obtain ⟨u0_jX_140, u1_jX_140, u2_jX_140, u3_jX_140⟩ := id p_jX_140
    obtain ⟨u0_jY_140, u1_jY_140, u2_jY_140, u3_jY_140, u4_jY_140, u5_jY_140⟩ := id p_jY_140
    unfold D_X8_readLine_140
    exact ⟨_, rfl, k_140, kn_140, (by first | exact Or.inl rfl | exact Or.inr rfl | assumption), ⟨p_jX_140, p_jY_140, p_jZ_140, (by first | omega | (simp only [Int32.toInt_add, Int32.toInt_sub, Int32.toInt_mul, Int32.toInt_toInt64, Int64.toInt_add, z_m1, Int32.reduceToInt, Int64.reduceToInt, Int32.reduceToNatClampNeg, Int.bmod_def, or_true, true_or, and_true, true_and] <;> omega)), (by first | omega | (simp only [Int32.toInt_add, Int32.toInt_sub, Int32.toInt_mul, Int32.toInt_toInt64, Int64.toInt_add, z_m1, Int32.reduceToInt, Int64.reduceToInt, Int32.reduceToNatClampNeg, Int.bmod_def, or_true, true_or, and_true, true_and] <;> omega))⟩⟩
  have T_114 : ∀ (x1_114 : Int32) (M_114 : zMt) (N_114 : zNt), (∀ a j, ¬ WM_X8_readLine P a j → M_114 a j = M0 a j) → (∀ a j, ¬ WN_X8_readLine P a j → N_114 a j = N0 a j) → (jX P M_114) → (jY P M_114) → (jZ P M_114) → (x1_114 = 0 ∨ x1_114 = 1) → (Int32.toInt (M0 P 17) ≤ Int32.toInt (M_114 P 17)) → ∃ r, D_X8_readLine_114 P x1_114 M_114 N_114 = some r ∧ ((∀ a j, ¬ WM_X8_readLine P a j → r.2.1 a j = M0 a j) ∧ (∀ a j, ¬ WN_X8_readLine P a j → r.2.2 a j = N0 a j) ∧ (r.1 = 0 ∨ r.1 = 1) ∧ ((jX P r.2.1) ∧ (jY P r.2.1) ∧ (jZ P r.2.1) ∧ (Int32.toInt (M0 P 17) ≤ Int32.toInt (r.2.1 P 17)) ∧ (Int32.toInt r.1 = 0 ∨ Int32.toInt (r.2.1 P 18) = 0 ∨ Int32.toInt (M0 P 17) < Int32.toInt (r.2.1 P 17)))) := by
    intro x1_114 M_114 N_114 k_114 kn_114 p_jX_114 p_jY_114 p_jZ_114 f0_114 f1_114
    obtain ⟨u0_jX_114, u1_jX_114, u2_jX_114, u3_jX_114⟩ := id p_jX_114
    obtain ⟨u0_jY_114, u1_jY_114, u2_jY_114, u3_jY_114, u4_jY_114, u5_jY_114⟩ := id p_jY_114
    unfold D_X8_readLine_114
    refine vIf (fun h_115 => ?_) (fun h_115 => ?_)
    · have i_115 := congrArg Int32.toInt h_115
      (try simp only [Int32.toInt_add, Int32.toInt_sub, Int32.toInt_mul, Int32.toInt_toInt64, Int64.toInt_add, z_m1, Int32.reduceToInt, Int64.reduceToInt, Int32.reduceToNatClampNeg, Int.bmod_def] at i_115)
      exact ⟨_, rfl, k_114, kn_114, (by first | exact Or.inl rfl | exact Or.inr rfl | assumption), ⟨p_jX_114, p_jY_114, p_jZ_114, (by first | omega | (simp only [Int32.toInt_add, Int32.toInt_sub, Int32.toInt_mul, Int32.toInt_toInt64, Int64.toInt_add, z_m1, Int32.reduceToInt, Int64.reduceToInt, Int32.reduceToNatClampNeg, Int.bmod_def, or_true, true_or, and_true, true_and] <;> omega)), (by first | omega | (simp only [Int32.toInt_add, Int32.toInt_sub, Int32.toInt_mul, Int32.toInt_toInt64, Int64.toInt_add, z_m1, Int32.reduceToInt, Int64.reduceToInt, Int32.reduceToNatClampNeg, Int.bmod_def, or_true, true_or, and_true, true_and] <;> omega))⟩⟩
    · have i_115 : ¬ Int32.toInt x1_114 = Int32.toInt (0 : Int32) := fun q => h_115 (Int32.toInt_inj.mp q)
      (try simp only [Int32.toInt_add, Int32.toInt_sub, Int32.toInt_mul, Int32.toInt_toInt64, Int64.toInt_add, z_m1, Int32.reduceToInt, Int64.reduceToInt, Int32.reduceToNatClampNeg, Int.bmod_def] at i_115)
      refine vIf (fun h_125 => ?_) (fun h_125 => ?_)
      · have i_125 := congrArg Int32.toInt h_125
        (try simp only [Int32.toInt_add, Int32.toInt_sub, Int32.toInt_mul, Int32.toInt_toInt64, Int64.toInt_add, z_m1, Int32.reduceToInt, Int64.reduceToInt, Int32.reduceToNatClampNeg, Int.bmod_def] at i_125)
        refine vB (v_X8_next p_jX_114) (fun e_129 f_129 q_129 => ?_)
        have k_129 : ∀ a j, ¬ WM_X8_readLine P a j → e_129.2.1 a j = M0 a j := fun a j h => (q_129.1 a j (wz_M_X8_next_X8_readLine h)).trans (k_114 a j h)
        have kn_129 : ∀ a j, ¬ WN_X8_readLine P a j → e_129.2.2 a j = N0 a j := fun a j h => (q_129.2.1 a j (wz_N_X8_next_X8_readLine h)).trans (kn_114 a j h)
        have b_129 := q_129.2.2.1
        have c15_129 : Int32.toInt (e_129.2.1 P 15) = Int32.toInt (M_114 P 15) := congrArg Int32.toInt (q_129.1 P 15 (wc_X8_next_15))
        have c28_129 : Int32.toInt (e_129.2.1 P 28) = Int32.toInt (M_114 P 28) := congrArg Int32.toInt (q_129.1 P 28 (wc_X8_next_28))
        have c29_129 : Int32.toInt (e_129.2.1 P 29) = Int32.toInt (M_114 P 29) := congrArg Int32.toInt (q_129.1 P 29 (wc_X8_next_29))
        have c30_129 : Int32.toInt (e_129.2.1 P 30) = Int32.toInt (M_114 P 30) := congrArg Int32.toInt (q_129.1 P 30 (wc_X8_next_30))
        have c31_129 : Int32.toInt (e_129.2.1 P 31) = Int32.toInt (M_114 P 31) := congrArg Int32.toInt (q_129.1 P 31 (wc_X8_next_31))
        have n_129 : nA P e_129.2.1 = nA P M_114 := nA_congr (fun a j h => q_129.1 a j (wf_nA_X8_next h))
        have p_jY_129 : jY P e_129.2.1 := jY.mono p_jY_114 (fun a j h => q_129.1 a j (wf_jY_X8_next h))
        obtain ⟨u0_jY_129, u1_jY_129, u2_jY_129, u3_jY_129, u4_jY_129, u5_jY_129⟩ := id p_jY_129
        have p_jZ_129 : jZ P e_129.2.1 := jZ.mono p_jZ_114 (fun a j h => q_129.1 a j (wf_jZ_X8_next h))
        obtain ⟨x0_129, x1_129, x2_129, x3_129⟩ := q_129.2.2.2
        obtain ⟨u0_jX_129, u1_jX_129, u2_jX_129, u3_jX_129⟩ := id x0_129
        (try simp only [Int32.toInt_add, Int32.toInt_sub, Int32.toInt_mul, Int32.toInt_toInt64, Int64.toInt_add, z_m1, Int32.reduceToInt, Int64.reduceToInt, Int32.reduceToNatClampNeg, Int.bmod_def] at x1_129)
        (try simp only [Int32.toInt_add, Int32.toInt_sub, Int32.toInt_mul, Int32.toInt_toInt64, Int64.toInt_add, z_m1, Int32.reduceToInt, Int64.reduceToInt, Int32.reduceToNatClampNeg, Int.bmod_def] at x2_129)
        (try simp only [Int32.toInt_add, Int32.toInt_sub, Int32.toInt_mul, Int32.toInt_toInt64, Int64.toInt_add, z_m1, Int32.reduceToInt, Int64.reduceToInt, Int32.reduceToNatClampNeg, Int.bmod_def] at x3_129)
        exact T_140 _ _ _ k_129 kn_129 x0_129 p_jY_129 p_jZ_129 (by first | exact Or.inl rfl | exact Or.inr rfl | assumption) (by first | omega | (simp only [Int32.toInt_add, Int32.toInt_sub, Int32.toInt_mul, Int32.toInt_toInt64, Int64.toInt_add, z_m1, Int32.reduceToInt, Int64.reduceToInt, Int32.reduceToNatClampNeg, Int.bmod_def, or_true, true_or, and_true, true_and] <;> omega)) (by first | omega | (simp only [Int32.toInt_add, Int32.toInt_sub, Int32.toInt_mul, Int32.toInt_toInt64, Int64.toInt_add, z_m1, Int32.reduceToInt, Int64.reduceToInt, Int32.reduceToNatClampNeg, Int.bmod_def, or_true, true_or, and_true, true_and] <;> omega))
      · have i_125 : ¬ Int32.toInt (M_114 P 18) = Int32.toInt (4 : Int32) := fun q => h_125 (Int32.toInt_inj.mp q)
        (try simp only [Int32.toInt_add, Int32.toInt_sub, Int32.toInt_mul, Int32.toInt_toInt64, Int64.toInt_add, z_m1, Int32.reduceToInt, Int64.reduceToInt, Int32.reduceToNatClampNeg, Int.bmod_def] at i_125)
        refine vB (v_X8_bad) (fun e_137 f_137 q_137 => ?_)
        have k_137 : ∀ a j, ¬ WM_X8_readLine P a j → e_137.2 a j = M0 a j := fun a j h => (q_137.1 a j (wz_M_X8_bad_X8_readLine h)).trans (k_114 a j h)
        have b_137 := q_137.2.1
        have c15_137 : Int32.toInt (e_137.2 P 15) = Int32.toInt (M_114 P 15) := congrArg Int32.toInt (q_137.1 P 15 (wc_X8_bad_15))
        have c17_137 : Int32.toInt (e_137.2 P 17) = Int32.toInt (M_114 P 17) := congrArg Int32.toInt (q_137.1 P 17 (wc_X8_bad_17))
        have c18_137 : Int32.toInt (e_137.2 P 18) = Int32.toInt (M_114 P 18) := congrArg Int32.toInt (q_137.1 P 18 (wc_X8_bad_18))
        have c20_137 : Int32.toInt (e_137.2 P 20) = Int32.toInt (M_114 P 20) := congrArg Int32.toInt (q_137.1 P 20 (wc_X8_bad_20))
        have c28_137 : Int32.toInt (e_137.2 P 28) = Int32.toInt (M_114 P 28) := congrArg Int32.toInt (q_137.1 P 28 (wc_X8_bad_28))
        have c29_137 : Int32.toInt (e_137.2 P 29) = Int32.toInt (M_114 P 29) := congrArg Int32.toInt (q_137.1 P 29 (wc_X8_bad_29))
        have c30_137 : Int32.toInt (e_137.2 P 30) = Int32.toInt (M_114 P 30) := congrArg Int32.toInt (q_137.1 P 30 (wc_X8_bad_30))
        have c31_137 : Int32.toInt (e_137.2 P 31) = Int32.toInt (M_114 P 31) := congrArg Int32.toInt (q_137.1 P 31 (wc_X8_bad_31))
        have n_137 : nA P e_137.2 = nA P M_114 := nA_congr (fun a j h => q_137.1 a j (wf_nA_X8_bad h))
        have p_jX_137 : jX P e_137.2 := jX.mono p_jX_114 (fun a j h => q_137.1 a j (wf_jX_X8_bad h))
        obtain ⟨u0_jX_137, u1_jX_137, u2_jX_137, u3_jX_137⟩ := id p_jX_137
        have p_jY_137 : jY P e_137.2 := jY.mono p_jY_114 (fun a j h => q_137.1 a j (wf_jY_X8_bad h))
        obtain ⟨u0_jY_137, u1_jY_137, u2_jY_137, u3_jY_137, u4_jY_137, u5_jY_137⟩ := id p_jY_137
        have p_jZ_137 : jZ P e_137.2 := jZ.mono p_jZ_114 (fun a j h => q_137.1 a j (wf_jZ_X8_bad h))
        have x0_137 := q_137.2.2
        (try simp only [Int32.toInt_add, Int32.toInt_sub, Int32.toInt_mul, Int32.toInt_toInt64, Int64.toInt_add, z_m1, Int32.reduceToInt, Int64.reduceToInt, Int32.reduceToNatClampNeg, Int.bmod_def] at x0_137)
        exact T_140 _ _ _ k_137 kn_114 p_jX_137 p_jY_137 p_jZ_137 (by first | exact Or.inl rfl | exact Or.inr rfl | assumption) (by first | omega | (simp only [Int32.toInt_add, Int32.toInt_sub, Int32.toInt_mul, Int32.toInt_toInt64, Int64.toInt_add, z_m1, Int32.reduceToInt, Int64.reduceToInt, Int32.reduceToNatClampNeg, Int.bmod_def, or_true, true_or, and_true, true_and] <;> omega)) (by first | omega | (simp only [Int32.toInt_add, Int32.toInt_sub, Int32.toInt_mul, Int32.toInt_toInt64, Int64.toInt_add, z_m1, Int32.reduceToInt, Int64.reduceToInt, Int32.reduceToNatClampNeg, Int.bmod_def, or_true, true_or, and_true, true_and] <;> omega))
  have T_108 : ∀ (M_108 : zMt) (N_108 : zNt), (∀ a j, ¬ WM_X8_readLine P a j → M_108 a j = M0 a j) → (∀ a j, ¬ WN_X8_readLine P a j → N_108 a j = N0 a j) → (jX P M_108) → (jY P M_108) → (jZ P M_108) → (Int32.toInt (M0 P 17) ≤ Int32.toInt (M_108 P 17)) → ∃ r, D_X8_readLine_108 P M_108 N_108 = some r ∧ ((∀ a j, ¬ WM_X8_readLine P a j → r.2.1 a j = M0 a j) ∧ (∀ a j, ¬ WN_X8_readLine P a j → r.2.2 a j = N0 a j) ∧ (r.1 = 0 ∨ r.1 = 1) ∧ ((jX P r.2.1) ∧ (jY P r.2.1) ∧ (jZ P r.2.1) ∧ (Int32.toInt (M0 P 17) ≤ Int32.toInt (r.2.1 P 17)) ∧ (Int32.toInt r.1 = 0 ∨ Int32.toInt (r.2.1 P 18) = 0 ∨ Int32.toInt (M0 P 17) < Int32.toInt (r.2.1 P 17)))) := by
    intro M_108 N_108 k_108 kn_108 p_jX_108 p_jY_108 p_jZ_108 f0_108
    obtain ⟨u0_jX_108, u1_jX_108, u2_jX_108, u3_jX_108⟩ := id p_jX_108
    obtain ⟨u0_jY_108, u1_jY_108, u2_jY_108, u3_jY_108, u4_jY_108, u5_jY_108⟩ := id p_jY_108
    unfold D_X8_readLine_108
    refine vB (v_X8_bad) (fun e_110 f_110 q_110 => ?_)
    have k_110 : ∀ a j, ¬ WM_X8_readLine P a j → e_110.2 a j = M0 a j := fun a j h => (q_110.1 a j (wz_M_X8_bad_X8_readLine h)).trans (k_108 a j h)
    have b_110 := q_110.2.1
    have c15_110 : Int32.toInt (e_110.2 P 15) = Int32.toInt (M_108 P 15) := congrArg Int32.toInt (q_110.1 P 15 (wc_X8_bad_15))
    have c17_110 : Int32.toInt (e_110.2 P 17) = Int32.toInt (M_108 P 17) := congrArg Int32.toInt (q_110.1 P 17 (wc_X8_bad_17))
    have c18_110 : Int32.toInt (e_110.2 P 18) = Int32.toInt (M_108 P 18) := congrArg Int32.toInt (q_110.1 P 18 (wc_X8_bad_18))
    have c20_110 : Int32.toInt (e_110.2 P 20) = Int32.toInt (M_108 P 20) := congrArg Int32.toInt (q_110.1 P 20 (wc_X8_bad_20))
    have c28_110 : Int32.toInt (e_110.2 P 28) = Int32.toInt (M_108 P 28) := congrArg Int32.toInt (q_110.1 P 28 (wc_X8_bad_28))
    have c29_110 : Int32.toInt (e_110.2 P 29) = Int32.toInt (M_108 P 29) := congrArg Int32.toInt (q_110.1 P 29 (wc_X8_bad_29))
    have c30_110 : Int32.toInt (e_110.2 P 30) = Int32.toInt (M_108 P 30) := congrArg Int32.toInt (q_110.1 P 30 (wc_X8_bad_30))
    have c31_110 : Int32.toInt (e_110.2 P 31) = Int32.toInt (M_108 P 31) := congrArg Int32.toInt (q_110.1 P 31 (wc_X8_bad_31))
    have n_110 : nA P e_110.2 = nA P M_108 := nA_congr (fun a j h => q_110.1 a j (wf_nA_X8_bad h))
    have p_jX_110 : jX P e_110.2 := jX.mono p_jX_108 (fun a j h => q_110.1 a j (wf_jX_X8_bad h))
    obtain ⟨u0_jX_110, u1_jX_110, u2_jX_110, u3_jX_110⟩ := id p_jX_110
    have p_jY_110 : jY P e_110.2 := jY.mono p_jY_108 (fun a j h => q_110.1 a j (wf_jY_X8_bad h))
    obtain ⟨u0_jY_110, u1_jY_110, u2_jY_110, u3_jY_110, u4_jY_110, u5_jY_110⟩ := id p_jY_110
    have p_jZ_110 : jZ P e_110.2 := jZ.mono p_jZ_108 (fun a j h => q_110.1 a j (wf_jZ_X8_bad h))
    have x0_110 := q_110.2.2
    (try simp only [Int32.toInt_add, Int32.toInt_sub, Int32.toInt_mul, Int32.toInt_toInt64, Int64.toInt_add, z_m1, Int32.reduceToInt, Int64.reduceToInt, Int32.reduceToNatClampNeg, Int.bmod_def] at x0_110)
    exact ⟨_, rfl, k_110, kn_108, (by first | exact Or.inl rfl | exact Or.inr rfl | assumption), ⟨p_jX_110, p_jY_110, p_jZ_110, (by first | omega | (simp only [Int32.toInt_add, Int32.toInt_sub, Int32.toInt_mul, Int32.toInt_toInt64, Int64.toInt_add, z_m1, Int32.reduceToInt, Int64.reduceToInt, Int32.reduceToNatClampNeg, Int.bmod_def, or_true, true_or, and_true, true_and] <;> omega)), (by first | omega | (simp only [Int32.toInt_add, Int32.toInt_sub, Int32.toInt_mul, Int32.toInt_toInt64, Int64.toInt_add, z_m1, Int32.reduceToInt, Int64.reduceToInt, Int32.reduceToNatClampNeg, Int.bmod_def, or_true, true_or, and_true, true_and] <;> omega))⟩⟩
  have T_96 : ∀ (M_96 : zMt) (N_96 : zNt), (∀ a j, ¬ WM_X8_readLine P a j → M_96 a j = M0 a j) → (∀ a j, ¬ WN_X8_readLine P a j → N_96 a j = N0 a j) → (jX P M_96) → (jY P M_96) → (jZ P M_96) → (Int32.toInt (M0 P 17) ≤ Int32.toInt (M_96 P 17)) → ∃ r, D_X8_readLine_96 P M_96 N_96 = some r ∧ ((∀ a j, ¬ WM_X8_readLine P a j → r.2.1 a j = M0 a j) ∧ (∀ a j, ¬ WN_X8_readLine P a j → r.2.2 a j = N0 a j) ∧ (r.1 = 0 ∨ r.1 = 1) ∧ ((jX P r.2.1) ∧ (jY P r.2.1) ∧ (jZ P r.2.1) ∧ (Int32.toInt (M0 P 17) ≤ Int32.toInt (r.2.1 P 17)) ∧ (Int32.toInt r.1 = 0 ∨ Int32.toInt (r.2.1 P 18) = 0 ∨ Int32.toInt (M0 P 17) < Int32.toInt (r.2.1 P 17)))) := by
    intro M_96 N_96 k_96 kn_96 p_jX_96 p_jY_96 p_jZ_96 f0_96
    obtain ⟨u0_jX_96, u1_jX_96, u2_jX_96, u3_jX_96⟩ := id p_jX_96
    obtain ⟨u0_jY_96, u1_jY_96, u2_jY_96, u3_jY_96, u4_jY_96, u5_jY_96⟩ := id p_jY_96
    unfold D_X8_readLine_96
    refine vB (v_X8_readOnce p_jX_96 p_jY_96 p_jZ_96) (fun e_101 f_101 q_101 => ?_)
    have k_101 : ∀ a j, ¬ WM_X8_readLine P a j → e_101.2.1 a j = M0 a j := fun a j h => (q_101.1 a j (wz_M_X8_readOnce_X8_readLine h)).trans (k_96 a j h)
    have kn_101 : ∀ a j, ¬ WN_X8_readLine P a j → e_101.2.2 a j = N0 a j := fun a j h => (q_101.2.1 a j (wz_N_X8_readOnce_X8_readLine h)).trans (kn_96 a j h)
    have b_101 := q_101.2.2.1
    have c15_101 : Int32.toInt (e_101.2.1 P 15) = Int32.toInt (M_96 P 15) := congrArg Int32.toInt (q_101.1 P 15 (wc_X8_readOnce_15))
    have c28_101 : Int32.toInt (e_101.2.1 P 28) = Int32.toInt (M_96 P 28) := congrArg Int32.toInt (q_101.1 P 28 (wc_X8_readOnce_28))
    have c29_101 : Int32.toInt (e_101.2.1 P 29) = Int32.toInt (M_96 P 29) := congrArg Int32.toInt (q_101.1 P 29 (wc_X8_readOnce_29))
    have c30_101 : Int32.toInt (e_101.2.1 P 30) = Int32.toInt (M_96 P 30) := congrArg Int32.toInt (q_101.1 P 30 (wc_X8_readOnce_30))
    have n_101 : nA P e_101.2.1 = nA P M_96 := nA_congr (fun a j h => q_101.1 a j (wf_nA_X8_readOnce h))
    have p_jY_101 : jY P e_101.2.1 := jY.mono p_jY_96 (fun a j h => q_101.1 a j (wf_jY_X8_readOnce h))
    obtain ⟨u0_jY_101, u1_jY_101, u2_jY_101, u3_jY_101, u4_jY_101, u5_jY_101⟩ := id p_jY_101
    obtain ⟨x0_101, x1_101, x2_101, x3_101⟩ := q_101.2.2.2
    obtain ⟨u0_jX_101, u1_jX_101, u2_jX_101, u3_jX_101⟩ := id x0_101
    obtain ⟨u0_jY_101, u1_jY_101, u2_jY_101, u3_jY_101, u4_jY_101, u5_jY_101⟩ := id x1_101
    (try simp only [Int32.toInt_add, Int32.toInt_sub, Int32.toInt_mul, Int32.toInt_toInt64, Int64.toInt_add, z_m1, Int32.reduceToInt, Int64.reduceToInt, Int32.reduceToNatClampNeg, Int.bmod_def] at x3_101)
    exact T_114 _ _ _ k_101 kn_101 x0_101 x1_101 x2_101 (by first | exact Or.inl rfl | exact Or.inr rfl | assumption) (by first | omega | (simp only [Int32.toInt_add, Int32.toInt_sub, Int32.toInt_mul, Int32.toInt_toInt64, Int64.toInt_add, z_m1, Int32.reduceToInt, Int64.reduceToInt, Int32.reduceToNatClampNeg, Int.bmod_def, or_true, true_or, and_true, true_and] <;> omega))
  have T_16 : ∀ (y0_16 : Int32) (M_16 : zMt) (N_16 : zNt), (∀ a j, ¬ WM_X8_readLine P a j → M_16 a j = M0 a j) → (∀ a j, ¬ WN_X8_readLine P a j → N_16 a j = N0 a j) → (jX P M_16) → (jY P M_16) → (jZ P M_16) → (Int32.toInt (M0 P 17) ≤ Int32.toInt (M_16 P 17)) → ∃ r, D_X8_readLine_16 P y0_16 M_16 N_16 = some r ∧ ((∀ a j, ¬ WM_X8_readLine P a j → r.2.1 a j = M0 a j) ∧ (∀ a j, ¬ WN_X8_readLine P a j → r.2.2 a j = N0 a j) ∧ (r.1 = 0 ∨ r.1 = 1) ∧ ((jX P r.2.1) ∧ (jY P r.2.1) ∧ (jZ P r.2.1) ∧ (Int32.toInt (M0 P 17) ≤ Int32.toInt (r.2.1 P 17)) ∧ (Int32.toInt r.1 = 0 ∨ Int32.toInt (r.2.1 P 18) = 0 ∨ Int32.toInt (M0 P 17) < Int32.toInt (r.2.1 P 17)))) := by
    intro y0_16 M_16 N_16 k_16 kn_16 p_jX_16 p_jY_16 p_jZ_16 f0_16
    obtain ⟨u0_jX_16, u1_jX_16, u2_jX_16, u3_jX_16⟩ := id p_jX_16
    obtain ⟨u0_jY_16, u1_jY_16, u2_jY_16, u3_jY_16, u4_jY_16, u5_jY_16⟩ := id p_jY_16
    unfold D_X8_readLine_16
    refine vIf (fun h_16 => ?_) (fun h_16_0 => ?_)
    · skip
      refine vB (v_X8_readUnit p_jX_16 p_jY_16 p_jZ_16) (fun e_65 f_65 q_65 => ?_)
      have k_65 : ∀ a j, ¬ WM_X8_readLine P a j → e_65.2.1 a j = M0 a j := fun a j h => (q_65.1 a j (wz_M_X8_readUnit_X8_readLine h)).trans (k_16 a j h)
      have kn_65 : ∀ a j, ¬ WN_X8_readLine P a j → e_65.2.2 a j = N0 a j := fun a j h => (q_65.2.1 a j (wz_N_X8_readUnit_X8_readLine h)).trans (kn_16 a j h)
      have b_65 := q_65.2.2.1
      have c15_65 : Int32.toInt (e_65.2.1 P 15) = Int32.toInt (M_16 P 15) := congrArg Int32.toInt (q_65.1 P 15 (wc_X8_readUnit_15))
      have c29_65 : Int32.toInt (e_65.2.1 P 29) = Int32.toInt (M_16 P 29) := congrArg Int32.toInt (q_65.1 P 29 (wc_X8_readUnit_29))
      have c30_65 : Int32.toInt (e_65.2.1 P 30) = Int32.toInt (M_16 P 30) := congrArg Int32.toInt (q_65.1 P 30 (wc_X8_readUnit_30))
      have n_65 : nA P e_65.2.1 = nA P M_16 := nA_congr (fun a j h => q_65.1 a j (wf_nA_X8_readUnit h))
      obtain ⟨x0_65, x1_65, x2_65, x3_65⟩ := q_65.2.2.2
      obtain ⟨u0_jX_65, u1_jX_65, u2_jX_65, u3_jX_65⟩ := id x0_65
      obtain ⟨u0_jY_65, u1_jY_65, u2_jY_65, u3_jY_65, u4_jY_65, u5_jY_65⟩ := id x1_65
      (try simp only [Int32.toInt_add, Int32.toInt_sub, Int32.toInt_mul, Int32.toInt_toInt64, Int64.toInt_add, z_m1, Int32.reduceToInt, Int64.reduceToInt, Int32.reduceToNatClampNeg, Int.bmod_def] at x3_65)
      exact T_114 _ _ _ k_65 kn_65 x0_65 x1_65 x2_65 (by first | exact Or.inl rfl | exact Or.inr rfl | assumption) (by first | omega | (simp only [Int32.toInt_add, Int32.toInt_sub, Int32.toInt_mul, Int32.toInt_toInt64, Int64.toInt_add, z_m1, Int32.reduceToInt, Int64.reduceToInt, Int32.reduceToNatClampNeg, Int.bmod_def, or_true, true_or, and_true, true_and] <;> omega))
    refine vIf (fun h_16 => ?_) (fun h_16_1 => ?_)
    · skip
      refine vB (v_X8_readHunter p_jX_16 p_jY_16 p_jZ_16) (fun e_73 f_73 q_73 => ?_)
      have k_73 : ∀ a j, ¬ WM_X8_readLine P a j → e_73.2.1 a j = M0 a j := fun a j h => (q_73.1 a j (wz_M_X8_readHunter_X8_readLine h)).trans (k_16 a j h)
      have kn_73 : ∀ a j, ¬ WN_X8_readLine P a j → e_73.2.2 a j = N0 a j := fun a j h => (q_73.2.1 a j (wz_N_X8_readHunter_X8_readLine h)).trans (kn_16 a j h)
      have b_73 := q_73.2.2.1
      have c15_73 : Int32.toInt (e_73.2.1 P 15) = Int32.toInt (M_16 P 15) := congrArg Int32.toInt (q_73.1 P 15 (wc_X8_readHunter_15))
      have c28_73 : Int32.toInt (e_73.2.1 P 28) = Int32.toInt (M_16 P 28) := congrArg Int32.toInt (q_73.1 P 28 (wc_X8_readHunter_28))
      have c30_73 : Int32.toInt (e_73.2.1 P 30) = Int32.toInt (M_16 P 30) := congrArg Int32.toInt (q_73.1 P 30 (wc_X8_readHunter_30))
      have n_73 : nA P e_73.2.1 = nA P M_16 := nA_congr (fun a j h => q_73.1 a j (wf_nA_X8_readHunter h))
      obtain ⟨x0_73, x1_73, x2_73, x3_73⟩ := q_73.2.2.2
      obtain ⟨u0_jX_73, u1_jX_73, u2_jX_73, u3_jX_73⟩ := id x0_73
      obtain ⟨u0_jY_73, u1_jY_73, u2_jY_73, u3_jY_73, u4_jY_73, u5_jY_73⟩ := id x1_73
      (try simp only [Int32.toInt_add, Int32.toInt_sub, Int32.toInt_mul, Int32.toInt_toInt64, Int64.toInt_add, z_m1, Int32.reduceToInt, Int64.reduceToInt, Int32.reduceToNatClampNeg, Int.bmod_def] at x3_73)
      exact T_114 _ _ _ k_73 kn_73 x0_73 x1_73 x2_73 (by first | exact Or.inl rfl | exact Or.inr rfl | assumption) (by first | omega | (simp only [Int32.toInt_add, Int32.toInt_sub, Int32.toInt_mul, Int32.toInt_toInt64, Int64.toInt_add, z_m1, Int32.reduceToInt, Int64.reduceToInt, Int32.reduceToNatClampNeg, Int.bmod_def, or_true, true_or, and_true, true_and] <;> omega))
    refine vIf (fun h_16 => ?_) (fun h_16_2 => ?_)
    · skip
      exact T_108 _ _ k_16 kn_16 p_jX_16 p_jY_16 p_jZ_16 (by first | omega | (simp only [Int32.toInt_add, Int32.toInt_sub, Int32.toInt_mul, Int32.toInt_toInt64, Int64.toInt_add, z_m1, Int32.reduceToInt, Int64.reduceToInt, Int32.reduceToNatClampNeg, Int.bmod_def, or_true, true_or, and_true, true_and] <;> omega))
    refine vIf (fun h_16 => ?_) (fun h_16_3 => ?_)
    · skip
      refine vB (v_X8_readParty p_jX_16 p_jY_16 p_jZ_16) (fun e_81 f_81 q_81 => ?_)
      have k_81 : ∀ a j, ¬ WM_X8_readLine P a j → e_81.2.1 a j = M0 a j := fun a j h => (q_81.1 a j (wz_M_X8_readParty_X8_readLine h)).trans (k_16 a j h)
      have kn_81 : ∀ a j, ¬ WN_X8_readLine P a j → e_81.2.2 a j = N0 a j := fun a j h => (q_81.2.1 a j (wz_N_X8_readParty_X8_readLine h)).trans (kn_16 a j h)
      have b_81 := q_81.2.2.1
      have c15_81 : Int32.toInt (e_81.2.1 P 15) = Int32.toInt (M_16 P 15) := congrArg Int32.toInt (q_81.1 P 15 (wc_X8_readParty_15))
      have c28_81 : Int32.toInt (e_81.2.1 P 28) = Int32.toInt (M_16 P 28) := congrArg Int32.toInt (q_81.1 P 28 (wc_X8_readParty_28))
      have c29_81 : Int32.toInt (e_81.2.1 P 29) = Int32.toInt (M_16 P 29) := congrArg Int32.toInt (q_81.1 P 29 (wc_X8_readParty_29))
      have c31_81 : Int32.toInt (e_81.2.1 P 31) = Int32.toInt (M_16 P 31) := congrArg Int32.toInt (q_81.1 P 31 (wc_X8_readParty_31))
      have n_81 : nA P e_81.2.1 = nA P M_16 := nA_congr (fun a j h => q_81.1 a j (wf_nA_X8_readParty h))
      obtain ⟨x0_81, x1_81, x2_81, x3_81⟩ := q_81.2.2.2
      obtain ⟨u0_jX_81, u1_jX_81, u2_jX_81, u3_jX_81⟩ := id x0_81
      obtain ⟨u0_jY_81, u1_jY_81, u2_jY_81, u3_jY_81, u4_jY_81, u5_jY_81⟩ := id x1_81
      (try simp only [Int32.toInt_add, Int32.toInt_sub, Int32.toInt_mul, Int32.toInt_toInt64, Int64.toInt_add, z_m1, Int32.reduceToInt, Int64.reduceToInt, Int32.reduceToNatClampNeg, Int.bmod_def] at x3_81)
      exact T_114 _ _ _ k_81 kn_81 x0_81 x1_81 x2_81 (by first | exact Or.inl rfl | exact Or.inr rfl | assumption) (by first | omega | (simp only [Int32.toInt_add, Int32.toInt_sub, Int32.toInt_mul, Int32.toInt_toInt64, Int64.toInt_add, z_m1, Int32.reduceToInt, Int64.reduceToInt, Int32.reduceToNatClampNeg, Int.bmod_def, or_true, true_or, and_true, true_and] <;> omega))
    refine vIf (fun h_16 => ?_) (fun h_16_4 => ?_)
    · skip
      refine vB (v_X8_readAsks p_jX_16 p_jY_16 p_jZ_16) (fun e_89 f_89 q_89 => ?_)
      have k_89 : ∀ a j, ¬ WM_X8_readLine P a j → e_89.2.1 a j = M0 a j := fun a j h => (q_89.1 a j (wz_M_X8_readAsks_X8_readLine h)).trans (k_16 a j h)
      have kn_89 : ∀ a j, ¬ WN_X8_readLine P a j → e_89.2.2 a j = N0 a j := fun a j h => (q_89.2.1 a j (wz_N_X8_readAsks_X8_readLine h)).trans (kn_16 a j h)
      have b_89 := q_89.2.2.1
      have c15_89 : Int32.toInt (e_89.2.1 P 15) = Int32.toInt (M_16 P 15) := congrArg Int32.toInt (q_89.1 P 15 (wc_X8_readAsks_15))
      have c28_89 : Int32.toInt (e_89.2.1 P 28) = Int32.toInt (M_16 P 28) := congrArg Int32.toInt (q_89.1 P 28 (wc_X8_readAsks_28))
      have c29_89 : Int32.toInt (e_89.2.1 P 29) = Int32.toInt (M_16 P 29) := congrArg Int32.toInt (q_89.1 P 29 (wc_X8_readAsks_29))
      have c30_89 : Int32.toInt (e_89.2.1 P 30) = Int32.toInt (M_16 P 30) := congrArg Int32.toInt (q_89.1 P 30 (wc_X8_readAsks_30))
      have c31_89 : Int32.toInt (e_89.2.1 P 31) = Int32.toInt (M_16 P 31) := congrArg Int32.toInt (q_89.1 P 31 (wc_X8_readAsks_31))
      have n_89 : nA P e_89.2.1 = nA P M_16 := nA_congr (fun a j h => q_89.1 a j (wf_nA_X8_readAsks h))
      have p_jY_89 : jY P e_89.2.1 := jY.mono p_jY_16 (fun a j h => q_89.1 a j (wf_jY_X8_readAsks h))
      obtain ⟨u0_jY_89, u1_jY_89, u2_jY_89, u3_jY_89, u4_jY_89, u5_jY_89⟩ := id p_jY_89
      obtain ⟨x0_89, x1_89, x2_89, x3_89⟩ := q_89.2.2.2
      obtain ⟨u0_jX_89, u1_jX_89, u2_jX_89, u3_jX_89⟩ := id x0_89
      obtain ⟨u0_jY_89, u1_jY_89, u2_jY_89, u3_jY_89, u4_jY_89, u5_jY_89⟩ := id x1_89
      (try simp only [Int32.toInt_add, Int32.toInt_sub, Int32.toInt_mul, Int32.toInt_toInt64, Int64.toInt_add, z_m1, Int32.reduceToInt, Int64.reduceToInt, Int32.reduceToNatClampNeg, Int.bmod_def] at x3_89)
      exact T_114 _ _ _ k_89 kn_89 x0_89 x1_89 x2_89 (by first | exact Or.inl rfl | exact Or.inr rfl | assumption) (by first | omega | (simp only [Int32.toInt_add, Int32.toInt_sub, Int32.toInt_mul, Int32.toInt_toInt64, Int64.toInt_add, z_m1, Int32.reduceToInt, Int64.reduceToInt, Int32.reduceToNatClampNeg, Int.bmod_def, or_true, true_or, and_true, true_and] <;> omega))
    refine vIf (fun h_16 => ?_) (fun h_16_5 => ?_)
    · skip
      exact T_96 _ _ k_16 kn_16 p_jX_16 p_jY_16 p_jZ_16 (by first | omega | (simp only [Int32.toInt_add, Int32.toInt_sub, Int32.toInt_mul, Int32.toInt_toInt64, Int64.toInt_add, z_m1, Int32.reduceToInt, Int64.reduceToInt, Int32.reduceToNatClampNeg, Int.bmod_def, or_true, true_or, and_true, true_and] <;> omega))
    refine vIf (fun h_16 => ?_) (fun h_16_6 => ?_)
    · skip
      exact T_96 _ _ k_16 kn_16 p_jX_16 p_jY_16 p_jZ_16 (by first | omega | (simp only [Int32.toInt_add, Int32.toInt_sub, Int32.toInt_mul, Int32.toInt_toInt64, Int64.toInt_add, z_m1, Int32.reduceToInt, Int64.reduceToInt, Int32.reduceToNatClampNeg, Int.bmod_def, or_true, true_or, and_true, true_and] <;> omega))
    refine vIf (fun h_16 => ?_) (fun h_16_7 => ?_)
    · skip
      exact T_96 _ _ k_16 kn_16 p_jX_16 p_jY_16 p_jZ_16 (by first | omega | (simp only [Int32.toInt_add, Int32.toInt_sub, Int32.toInt_mul, Int32.toInt_toInt64, Int64.toInt_add, z_m1, Int32.reduceToInt, Int64.reduceToInt, Int32.reduceToNatClampNeg, Int.bmod_def, or_true, true_or, and_true, true_and] <;> omega))
    exact T_108 _ _ k_16 kn_16 p_jX_16 p_jY_16 p_jZ_16 (by first | omega | (simp only [Int32.toInt_add, Int32.toInt_sub, Int32.toInt_mul, Int32.toInt_toInt64, Int64.toInt_add, z_m1, Int32.reduceToInt, Int64.reduceToInt, Int32.reduceToNatClampNeg, Int.bmod_def, or_true, true_or, and_true, true_and] <;> omega))
  unfold D_X8_readLine
  refine vIf (fun h_5 => ?_) (fun h_5 => ?_)
  · have i_5 := congrArg Int32.toInt h_5
    (try simp only [Int32.toInt_add, Int32.toInt_sub, Int32.toInt_mul, Int32.toInt_toInt64, Int64.toInt_add, z_m1, Int32.reduceToInt, Int64.reduceToInt, Int32.reduceToNatClampNeg, Int.bmod_def] at i_5)
    exact T_16 _ _ _ (fun _ _ _ => rfl) (fun _ _ _ => rfl) p_jX p_jY p_jZ (by first | omega | (simp only [Int32.toInt_add, Int32.toInt_sub, Int32.toInt_mul, Int32.toInt_toInt64, Int64.toInt_add, z_m1, Int32.reduceToInt, Int64.reduceToInt, Int32.reduceToNatClampNeg, Int.bmod_def, or_true, true_or, and_true, true_and] <;> omega))
  · have i_5 : ¬ Int32.toInt (M0 P 18) = Int32.toInt (2 : Int32) := fun q => h_5 (Int32.toInt_inj.mp q)
    (try simp only [Int32.toInt_add, Int32.toInt_sub, Int32.toInt_mul, Int32.toInt_toInt64, Int64.toInt_add, z_m1, Int32.reduceToInt, Int64.reduceToInt, Int32.reduceToNatClampNeg, Int.bmod_def] at i_5)
    exact T_16 _ _ _ (fun _ _ _ => rfl) (fun _ _ _ => rfl) p_jX p_jY p_jZ (by first | omega | (simp only [Int32.toInt_add, Int32.toInt_sub, Int32.toInt_mul, Int32.toInt_toInt64, Int64.toInt_add, z_m1, Int32.reduceToInt, Int64.reduceToInt, Int32.reduceToNatClampNeg, Int.bmod_def, or_true, true_or, and_true, true_and] <;> omega))
/-! load -/
def jW164 (P a j : Nat) : Prop := a = P + 5 ∨ (a = P ∧ (j = 6 ∨ j = 7 ∨ j = 8 ∨ j = 9 ∨ j = 12))
theorem w_load164 {P : Nat} {N : zNt} : ∀ (u k : Nat) (M : zMt), k ≤ 10 → 10 - k < u → ∃ r, D_X8_load_164 P u (nI k) M N = some r ∧ ((∀ a j, ¬ jW164 P a j → r.2.1 a j = M a j) ∧ r.2.2 = N ∧ r.2.1 P 7 = M P 28 ∧ r.2.1 P 8 = M P 29 ∧ r.2.1 P 9 = 0) := by
  intro u
  induction u with
  | zero => intro k M _ h; omega
  | succ u ih =>
    intro k M hk hu
    rw [D_X8_load_164]
    refine vIf (fun hc => ?_) (fun hc => ?_)
    · refine vLm (W := fun a j => a = P ∧ j = 7) (M0 := M) (fun a j (h : ¬ (a = P ∧ j = 7)) => zu_ne h) (fun M1 f1 k1 => ?_)
      refine vLm (W := fun a j => a = P ∧ j = 8) (M0 := M1) (fun a j (h : ¬ (a = P ∧ j = 8)) => zu_ne h) (fun M2 f2 k2 => ?_)
      refine vLm (W := fun a j => a = P ∧ j = 9) (M0 := M2) (fun a j (h : ¬ (a = P ∧ j = 9)) => zu_ne h) (fun M3 f3 k3 => ?_)
      have k1 : ∀ a j, ¬ (a = P ∧ j = 7) → M1 a j = M a j := k1
      have k2 : ∀ a j, ¬ (a = P ∧ j = 8) → M2 a j = M1 a j := k2
      have k3 : ∀ a j, ¬ (a = P ∧ j = 9) → M3 a j = M2 a j := k3
      refine vB v_X8_gives (fun e f q => ?_)
      have k4 : ∀ a j, ¬ (a = P ∧ (j = 6 ∨ j = 12)) → e.2 a j = M3 a j := q
      refine ⟨_, rfl, fun a j h => ?_, rfl, ?_, ?_, ?_⟩
      · unfold jW164 at h
        exact (k4 a j (by omega)).trans ((k3 a j (by omega)).trans ((k2 a j (by omega)).trans (k1 a j (by omega))))
      · show e.2 P 7 = _
        rw [k4 P 7 (by omega), k3 P 7 (by omega), k2 P 7 (by omega), ← f1, zu_eq]
      · show e.2 P 8 = _
        rw [k4 P 8 (by omega), k3 P 8 (by omega), ← f2, zu_eq, k1 P 29 (by omega)]
      · show e.2 P 9 = _
        rw [k4 P 9 (by omega), ← f3, zu_eq]
    · have hlt : k < 10 := Nat.lt_of_not_le (fun q => hc ((nI_leI (a := 10) (b := k) (by decide) (by omega)).mpr q))
      have T : ∀ y : Int32, ∃ r, D_X8_load_197 P (D_X8_load_164 P u) (nI k) (nI k) y M N = some r ∧ ((∀ a j, ¬ jW164 P a j → r.2.1 a j = M a j) ∧ r.2.2 = N ∧ r.2.1 P 7 = M P 28 ∧ r.2.1 P 8 = M P 29 ∧ r.2.1 P 9 = 0) := by
        intro y
        unfold D_X8_load_197
        refine vI (vp_in_nI hlt (by decide)) ?_
        refine vLm (W := fun a j => a = P + 5) (M0 := M) (fun a j (h : ¬ a = P + 5) => zu_ne (by omega)) (fun M1 f1 k1 => ?_)
        have k1 : ∀ a j, ¬ a = P + 5 → M1 a j = M a j := k1
        rw [nI_1]
        obtain ⟨r, h1, h2, h3, h4, h5, h6⟩ := ih (k + 1) M1 (by omega) (by omega)
        exact ⟨r, h1, fun a j h => (h2 a j h).trans (k1 a j (by unfold jW164 at h; omega)), h3, h4.trans (k1 P 28 (by omega)), h5.trans (k1 P 29 (by omega)), h6⟩
      refine vIf (fun _ => T 0) (fun _ => ?_)
      refine vI (vp_in_nI hlt (by decide)) ?_
      exact vIf (fun _ => T 0) (fun _ => T 1)
def jW138 (P a j : Nat) : Prop := a = P + 1 ∨ jW164 P a j
theorem w_load138 {P : Nat} {N : zNt} : ∀ (u k : Nat) (M : zMt), k ≤ 82 → 82 - k < u → (∀ j, j < k → M (P + 1) j = M (P + 2) j) → ∃ r, D_X8_load_138 P u (nI k) M N = some r ∧ ((∀ a j, ¬ jW138 P a j → r.2.1 a j = M a j) ∧ r.2.2 = N ∧ r.2.1 P 7 = M P 28 ∧ r.2.1 P 8 = M P 29 ∧ r.2.1 P 9 = 0 ∧ ∀ j, j < 82 → r.2.1 (P + 1) j = M (P + 2) j) := by
  intro u
  induction u with
  | zero => intro k M _ h; omega
  | succ u ih =>
    intro k M hk hu hj
    rw [D_X8_load_138]
    refine vIf (fun hc => ?_) (fun hc => ?_)
    · have hk2 : 82 ≤ k := (nI_leI (a := 82) (b := k) (by decide) (by omega)).mp hc
      obtain ⟨r, h1, h2, h3, h4, h5, h6⟩ := w_load164 (P := P) (N := N) zFu 0 M (by omega) (by unfold zFu; omega)
      exact ⟨r, h1, fun a j h => h2 a j (fun z => h (Or.inr z)), h3, h4, h5, h6, fun j hj2 => (h2 (P + 1) j (by unfold jW164; omega)).trans (hj j (by omega))⟩
    · have hlt : k < 82 := Nat.lt_of_not_le (fun q => hc ((nI_leI (a := 82) (b := k) (by decide) (by omega)).mpr q))
      refine vI (vp_in_nI hlt (by decide)) (vI (vp_in_nI hlt (by decide)) ?_)
      rw [nI_clamp (by omega), nI_1]
      refine vLm (W := fun a j => a = P + 1 ∧ j = k) (M0 := M) (fun a j (h : ¬ (a = P + 1 ∧ j = k)) => zu_ne h) (fun M1 f1 k1 => ?_)
      have k1 : ∀ a j, ¬ (a = P + 1 ∧ j = k) → M1 a j = M a j := k1
      obtain ⟨r, h1, h2, h3, h4, h5, h6, h7⟩ := ih (k + 1) M1 (by omega) (by omega) (fun j hj2 => by
        rw [k1 (P + 2) j (by omega)]
        by_cases q : j = k
        · subst q; rw [← f1, zu_eq]
        · rw [k1 (P + 1) j (by omega)]; exact hj j (by omega))
      exact ⟨r, h1, fun a j h => (h2 a j h).trans (k1 a j (by unfold jW138 at h; omega)), h3, h4.trans (k1 P 28 (by omega)), h5.trans (k1 P 29 (by omega)), h6, fun j hj2 => (h7 j hj2).trans (k1 (P + 2) j (by omega))⟩
/-- what is kept between calls -/
def jJ (P : Nat) (M : zMt) : Prop := jB P M ∧ jS P M ∧ jR P M ∧ jK P M ∧ jT P M
theorem jJ.mono {P : Nat} {M M' : zMt} (h : jJ P M) (hf : ∀ a j, (a = P + 1 ∨ a = P + 4 ∨ a = P + 19 ∨ (a = P ∧ (j = 7 ∨ j = 8 ∨ j = 9 ∨ j = 11 ∨ j = 33 ∨ j = 64))) → M' a j = M a j) : jJ P M' :=
  ⟨h.1.mono (fun a j q => hf a j (by omega)), h.2.1.mono (fun a j q => hf a j (by omega)), h.2.2.1.mono (fun a j q => hf a j (by omega)), h.2.2.2.1.mono (fun a j q => hf a j (by omega)), h.2.2.2.2.mono (fun a j q => hf a j (by omega))⟩
def jW98 (P a j : Nat) : Prop := a = P + 2 ∨ (a = P ∧ (j = 13 ∨ j = 14)) ∨ jW138 P a j
theorem w_load98 {P : Nat} {N : zNt} {x2 : Int32} {M : zMt} (hJ : jJ P M) (hY : jY P M) (hZ : jZ P M) : ∃ r, D_X8_load_98 P x2 M N = some r ∧ ((∀ a j, ¬ jW98 P a j → r.2.1 a j = M a j) ∧ r.2.2 = N ∧ jJ P r.2.1) := by
  unfold D_X8_load_98
  refine vLm (W := fun a j => a = P ∧ j = 13) (M0 := M) (fun a j (h : ¬ (a = P ∧ j = 13)) => zu_ne h) (fun M1 f1 k1 => ?_)
  refine vLm (W := fun a j => a = P ∧ j = 14) (M0 := M1) (fun a j (h : ¬ (a = P ∧ j = 14)) => zu_ne h) (fun M2 f2 k2 => ?_)
  have k1 : ∀ a j, ¬ (a = P ∧ j = 13) → M1 a j = M a j := k1
  have k2 : ∀ a j, ¬ (a = P ∧ j = 14) → M2 a j = M1 a j := k2
  have k3 : ∀ a j, ¬ (a = P ∧ (j = 13 ∨ j = 14)) → M2 a j = M a j := fun a j h => (k2 a j (by omega)).trans (k1 a j (by omega))
  refine vIf (fun _ => ?_) (fun _ => ?_)
  · refine vB v_X8_refuse (fun e f q => ?_)
    have k4 : ∀ a j, ¬ (a = P ∧ (j = 6 ∨ j = 12)) → e.2 a j = M2 a j := q
    have k5 : ∀ a j, ¬ (a = P ∧ (j = 6 ∨ j = 12 ∨ j = 13 ∨ j = 14)) → e.2 a j = M a j := fun a j h => (k4 a j (by omega)).trans (k3 a j (by omega))
    exact ⟨_, rfl, fun a j h => k5 a j (by unfold jW98 jW138 jW164 at h; omega), rfl, hJ.mono (fun a j h => k5 a j (by omega))⟩
  · refine vI (by unfold vp_in; decide) ?_
    refine vLm (W := fun a j => a = P + 2 ∧ j = 70) (M0 := M2) (fun a j (h : ¬ (a = P + 2 ∧ j = 70)) => zu_ne (by rw [show (70 : Int32).toNatClampNeg = 70 by decide]; omega)) (fun M3 f3 k4 => ?_)
    have k4 : ∀ a j, ¬ (a = P + 2 ∧ j = 70) → M3 a j = M2 a j := k4
    have f70 : M3 (P + 2) 70 = M P 30 := by
      rw [← f3, show (70 : Int32).toNatClampNeg = 70 by decide, zu_eq, k3 P 30 (by omega)]
    have k5 : ∀ a j, ¬ ((a = P + 2 ∧ j = 70) ∨ (a = P ∧ (j = 13 ∨ j = 14))) → M3 a j = M a j := fun a j h => (k4 a j (by omega)).trans (k3 a j (by omega))
    obtain ⟨r, h1, h2, h3, h4, h5, h6, h7⟩ := w_load138 (P := P) (N := N) zFu 0 M3 (by omega) (by unfold zFu; omega) (fun j hj => by omega)
    rw [show nI 0 = (0 : Int32) by decide] at h1
    have k6 : ∀ a j, ¬ jW98 P a j → r.2.1 a j = M a j := fun a j h => (h2 a j (fun z => h (Or.inr (Or.inr z)))).trans (k5 a j (by unfold jW98 at h; omega))
    refine ⟨r, h1, k6, h3, ?_⟩
    obtain ⟨⟨b1, b2, b3, b4, b5, b6⟩, -, hR, -, ⟨t1, t2, t3, t4, t5, t6⟩⟩ := hJ
    obtain ⟨y1, y2, y3, y4, y5, y6⟩ := hY
    have e7 : r.2.1 P 7 = M P 28 := h4.trans (k5 P 28 (by omega))
    have e8 : r.2.1 P 8 = M P 29 := h5.trans (k5 P 29 (by omega))
    have o0 : (0 : Int32).toInt = 0 := by decide
    refine ⟨⟨by rw [e7]; exact y1, by rw [e7]; exact y2, by rw [e8]; exact y3, by rw [e8]; exact y4, ?_, ?_⟩, ?_, hR.mono (fun a j h => k6 a j (by unfold jW98 jW138 jW164; omega)), ?_, by rw [h6, o0]; omega, by rw [h6, o0]; omega, ?_, ?_, ?_, ?_⟩
    · rw [k6 P 33 (by unfold jW98 jW138 jW164; omega)]; exact b5
    · rw [k6 P 33 (by unfold jW98 jW138 jW164; omega)]; exact b6
    · show jRow _ _ _
      rw [e7, e8]
      refine jRowP.done hZ y4 (fun j h1 h2 => (h7 j h1).trans (k5 (P + 2) j (by omega))) (by rw [h7 70 (by omega), f70]) ⟨y5, y6⟩
    · intro k hk
      rw [h6, o0] at hk
      omega
    · rw [k6 P 11 (by unfold jW98 jW138 jW164; omega)]; exact t3
    · rw [k6 P 11 (by unfold jW98 jW138 jW164; omega)]; exact t4
    · rw [k6 P 64 (by unfold jW98 jW138 jW164; omega)]; exact t5
    · rw [k6 P 64 (by unfold jW98 jW138 jW164; omega)]; exact t6
def jWL (P a j : Nat) : Prop := a = P + 1 ∨ a = P + 2 ∨ a = P + 5 ∨ a = P + 6 ∨ (a = P ∧ j ≤ 31 ∧ ¬ j = 11)
theorem w_load79 {P : Nat} : ∀ (u : Nat) (x2 : Int32) (M : zMt) (N : zNt), jJ P M → jX P M → jY P M → jZ P M → ((1 ≤ u ∧ (x2.toInt = 0 ∨ (M P 18).toInt = 0)) ∨ (M P 15).toInt - (M P 17).toInt + 1 < u) → ∃ r, D_X8_load_79 P u x2 M N = some r ∧ ((∀ a j, ¬ jWL P a j → r.2.1 a j = M a j) ∧ (∀ a j, ¬ ((P + 8 ≤ a ∧ a < P + 11) ∨ a = P) → r.2.2 a j = N a j) ∧ jJ P r.2.1) := by
  intro u
  induction u with
  | zero =>
    intro x2 M N _ hX _ _ h
    obtain ⟨-, -, -, h4⟩ := hX
    omega
  | succ u ih =>
    intro x2 M N hJ hX hY hZ hu
    have o0 : (0 : Int32).toInt = 0 := by decide
    rw [D_X8_load_79]
    have T98 : ∃ r, D_X8_load_98 P x2 M N = some r ∧ ((∀ a j, ¬ jWL P a j → r.2.1 a j = M a j) ∧ (∀ a j, ¬ ((P + 8 ≤ a ∧ a < P + 11) ∨ a = P) → r.2.2 a j = N a j) ∧ jJ P r.2.1) := by
      obtain ⟨r, h1, h2, h3, h4⟩ := w_load98 (N := N) (x2 := x2) hJ hY hZ
      exact ⟨r, h1, fun a j h => h2 a j (by unfold jWL at h; unfold jW98 jW138 jW164; omega), fun a j _ => by rw [h3], h4⟩
    refine vIf (fun _ => T98) (fun hx => vIf (fun _ => T98) (fun h18 => ?_))
    have hx : ¬ x2.toInt = 0 := fun z => hx (Int32.toInt_inj.mp (z.trans o0.symm))
    have h18 : ¬ (M P 18).toInt = 0 := fun z => h18 (Int32.toInt_inj.mp (z.trans o0.symm))
    refine vB (v_X8_readLine hX hY hZ) (fun e f q => ?_)
    obtain ⟨k1, kn1, hr, hX1, hY1, hZ1, hl, hg⟩ := q
    have k1 : ∀ a j, ¬ ((P + 2 ≤ a ∧ a < P + 3) ∨ (P + 6 ≤ a ∧ a < P + 7) ∨ (a = P ∧ (j = 16 ∨ j = 17 ∨ j = 18 ∨ j = 19 ∨ j = 20 ∨ j = 21 ∨ j = 22 ∨ j = 23 ∨ j = 28 ∨ j = 29 ∨ j = 30 ∨ j = 31))) → e.2.1 a j = M a j := k1
    have kn1 : ∀ a j, ¬ ((P + 8 ≤ a ∧ a < P + 11) ∨ (a = P ∧ (j = 24 ∨ j = 32))) → e.2.2 a j = N a j := kn1
    have e15 : (e.2.1 P 15).toInt = (M P 15).toInt := by rw [k1 P 15 (by omega)]
    obtain ⟨-, -, -, x4⟩ := id hX
    obtain ⟨r, h1, h2, h3, h4⟩ := ih e.1 e.2.1 e.2.2 (hJ.mono (fun a j h => k1 a j (by omega))) hX1 hY1 hZ1 (by omega)
    exact ⟨r, h1, fun a j h => (h2 a j h).trans (k1 a j (by unfold jWL at h; omega)), fun a j h => (h3 a j h).trans (kn1 a j (by omega)), h4⟩
def ld9 (P : Nat) (v : Int32) (M : zMt) : zMt := zu (zu (zu (zu (zu (zu (zu (zu (zu M P 15 v) P 11 (0 : Int32)) P 17 (0 : Int32)) P 21 (0 : Int32)) P 22 (-1 : Int32)) P 23 (0 : Int32)) P 28 (0 : Int32)) P 29 (0 : Int32)) P 30 (0 : Int32)
theorem ld9_ne {P : Nat} {v : Int32} {M : zMt} {a j : Nat} (h : ¬ (a = P ∧ (j = 15 ∨ j = 11 ∨ j = 17 ∨ j = 21 ∨ j = 22 ∨ j = 23 ∨ j = 28 ∨ j = 29 ∨ j = 30))) : ld9 P v M a j = M a j := by
  unfold ld9
  rw [zu_ne (by omega), zu_ne (by omega), zu_ne (by omega), zu_ne (by omega), zu_ne (by omega), zu_ne (by omega), zu_ne (by omega), zu_ne (by omega), zu_ne (by omega)]
theorem ld9_15 {P : Nat} {v : Int32} {M : zMt} : ld9 P v M P 15 = v := by
  unfold ld9
  rw [zu_ne (by omega), zu_ne (by omega), zu_ne (by omega), zu_ne (by omega), zu_ne (by omega), zu_ne (by omega), zu_ne (by omega), zu_ne (by omega), zu_eq]
theorem ld9_11 {P : Nat} {v : Int32} {M : zMt} : ld9 P v M P 11 = 0 := by
  unfold ld9
  rw [zu_ne (by omega), zu_ne (by omega), zu_ne (by omega), zu_ne (by omega), zu_ne (by omega), zu_ne (by omega), zu_ne (by omega), zu_eq]
theorem ld9_17 {P : Nat} {v : Int32} {M : zMt} : ld9 P v M P 17 = 0 := by
  unfold ld9
  rw [zu_ne (by omega), zu_ne (by omega), zu_ne (by omega), zu_ne (by omega), zu_ne (by omega), zu_ne (by omega), zu_eq]
theorem ld9_28 {P : Nat} {v : Int32} {M : zMt} : ld9 P v M P 28 = 0 := by
  unfold ld9
  rw [zu_ne (by omega), zu_ne (by omega), zu_eq]
theorem ld9_29 {P : Nat} {v : Int32} {M : zMt} : ld9 P v M P 29 = 0 := by
  unfold ld9
  rw [zu_ne (by omega), zu_eq]
theorem ld9_30 {P : Nat} {v : Int32} {M : zMt} : ld9 P v M P 30 = 0 := by
  unfold ld9
  rw [zu_eq]
def WM_X8_load (P a j : Nat) : Prop := a = P + 1 ∨ a = P + 2 ∨ a = P + 5 ∨ a = P + 6 ∨ (a = P ∧ j ≤ 31)
def WN_X8_load (P a _j : Nat) : Prop := (P + 8 ≤ a ∧ a < P + 11) ∨ a = P
theorem ld9_let {P : Nat} {v : Int32} {M : zMt} {f : zMt → Option (Int32 × zMt × zNt)} : (zLt (zu M P 15 v) fun M_22 => zLt (zu M_22 P 11 (0 : Int32)) fun M_27 => zLt (zu M_27 P 17 (0 : Int32)) fun M_32 => zLt (zu M_32 P 21 (0 : Int32)) fun M_37 => zLt (zu M_37 P 22 (-1 : Int32)) fun M_42 => zLt (zu M_42 P 23 (0 : Int32)) fun M_47 => zLt (zu M_47 P 28 (0 : Int32)) fun M_52 => zLt (zu M_52 P 29 (0 : Int32)) fun M_57 => zLt (zu M_57 P 30 (0 : Int32)) f) = f (ld9 P v M) := rfl
theorem v_X8_load {P : Nat} {v0 : Int32} {M0 : zMt} {N0 : zNt} (p_jB : jB P M0) (p_jS : jS P M0) (p_jR : jR P M0) (p_jK : jK P M0) (p_jT : jT P M0) : ∃ r, D_X8_load P v0 M0 N0 = some r ∧ ((∀ a j, ¬ WM_X8_load P a j → r.2.1 a j = M0 a j) ∧ (∀ a j, ¬ WN_X8_load P a j → r.2.2 a j = N0 a j) ∧ jJ P r.2.1 ∧ ((v0 < 0 ∨ ¬ v0 ≤ M0 P 11) ∧ r.2.1 P 11 = M0 P 11 ∨ (¬ v0 < 0 ∧ v0 ≤ M0 P 11) ∧ r.2.1 P 11 = 0)) := by
  have hJ : jJ P M0 := ⟨p_jB, p_jS, p_jR, p_jK, p_jT⟩
  have o0 : (0 : Int32).toInt = 0 := by decide
  have o0l : (0 : Int64).toInt = 0 := by decide
  unfold D_X8_load
  refine vB v_X8_isFrom (fun e f q => ?_)
  rw [Int32.toInt_toInt64, Int32.toInt_toInt64, o0l] at q
  refine vIf (fun h0 => ?_) (fun h0 => ?_)
  · have hv : v0.toInt < 0 ∨ (M0 P 11).toInt < v0.toInt := by
      rcases q.2 with ⟨a, _⟩ | ⟨_, b⟩
      · rw [h0, o0] at a; omega
      · exact b
    refine vB v_X8_refuse (fun e2 f2 q2 => ?_)
    have k2 : ∀ a j, ¬ (a = P ∧ (j = 6 ∨ j = 12)) → e2.2 a j = M0 a j := q2
    refine ⟨_, rfl, fun a j h => k2 a j (by unfold WM_X8_load at h; omega), fun _ _ _ => rfl, hJ.mono (fun a j h => k2 a j (by omega)), Or.inl ⟨?_, k2 P 11 (by omega)⟩⟩
    rcases hv with z | z
    · exact Or.inl (Int32.lt_iff_toInt_lt.mpr (by rw [o0]; exact z))
    · exact Or.inr (fun y => by have := Int32.le_iff_toInt_le.mp y; omega)
  · have hv : 0 ≤ v0.toInt ∧ v0.toInt ≤ (M0 P 11).toInt := by
      rcases q.2 with ⟨_, b⟩ | ⟨a, _⟩
      · exact b
      · exact absurd (Int32.toInt_inj.mp (a.trans o0.symm)) h0
    have hvr : ¬ v0 < 0 ∧ v0 ≤ M0 P 11 := ⟨z_nlt hv.1, Int32.le_iff_toInt_le.mpr hv.2⟩
    obtain ⟨t1, t2, t3, t4, t5, t6⟩ := id p_jT
    rw [ld9_let]
    refine vB w_X8_begins (fun e1 f1 q1 => ?_)
    obtain ⟨b1, b2, b3, b4⟩ := q1
    have g : ∀ a j, ¬ ((a = P + 2 ∧ j < 82) ∨ (a = P ∧ (j = 15 ∨ j = 11 ∨ j = 17 ∨ j = 21 ∨ j = 22 ∨ j = 23 ∨ j = 28 ∨ j = 29 ∨ j = 30))) → e1 a j = M0 a j := fun a j h => (b1 a j (by omega)).trans (ld9_ne (by omega))
    have g15 : e1 P 15 = v0 := (b1 P 15 (by omega)).trans ld9_15
    have g11 : e1 P 11 = 0 := (b1 P 11 (by omega)).trans ld9_11
    have g17 : e1 P 17 = 0 := (b1 P 17 (by omega)).trans ld9_17
    have g28 : e1 P 28 = 0 := (b1 P 28 (by omega)).trans ld9_28
    have g29 : e1 P 29 = 0 := (b1 P 29 (by omega)).trans ld9_29
    have g30 : e1 P 30 = 0 := (b1 P 30 (by omega)).trans ld9_30
    have hX : jX P e1 := by unfold jX; rw [g15, g17, o0]; omega
    have hY : jY P e1 := by unfold jY; rw [g28, g29, g30, o0]; omega
    have hZ : jZ P e1 := jZ.empty b2 b3 b4 g28 g29 g30
    have hJ1 : jJ P e1 := by
      refine ⟨p_jB.mono (fun a j h => g a j (by omega)), p_jS.mono (fun a j h => g a j (by omega)), p_jR.mono (fun a j h => g a j (by omega)), p_jK.mono (fun a j h => g a j (by omega)), ?_⟩
      unfold jT
      rw [g P 9 (by omega), g P 64 (by omega), g11, o0]
      omega
    refine vB (v_X8_next hX) (fun e2 f2 q2 => ?_)
    obtain ⟨k2, kn2, -, hX2, -, -, -⟩ := q2
    have k2 : ∀ a j, ¬ (a = P ∧ (j = 16 ∨ j = 17 ∨ j = 18 ∨ j = 19 ∨ j = 20)) → e2.2.1 a j = e1 a j := k2
    have kn2 : ∀ a j, ¬ (a = P ∧ (j = 24)) → e2.2.2 a j = N0 a j := kn2
    obtain ⟨x1, x2, x3, x4⟩ := id hX2
    obtain ⟨r, h1, h2, h3, h4⟩ := w_load79 (P := P) zFu 1 e2.2.1 e2.2.2 (hJ1.mono (fun a j h => k2 a j (by omega))) hX2 (hY.mono (fun a j h => k2 a j (by omega))) (hZ.mono (fun a j h => k2 a j (by omega))) (Or.inr (by unfold zFu; omega))
    refine ⟨r, h1, fun a j h => ?_, fun a j h => ?_, h4, Or.inr ⟨hvr, ?_⟩⟩
    · unfold WM_X8_load at h
      exact (h2 a j (by unfold jWL; omega)).trans ((k2 a j (by omega)).trans (g a j (by omega)))
    · unfold WN_X8_load at h
      exact (h3 a j (by omega)).trans (kn2 a j (by omega))
    · exact (h2 P 11 (by unfold jWL; omega)).trans ((k2 P 11 (by omega)).trans g11)
/-- every applicant has a hunter; free hunters stand alone -/
def jM (P : Nat) (M : zMt) : Prop := ∀ a : Nat, (a : Int) < (M P 33).toInt → ∃ h : Nat, (h : Int) < (M P 8).toInt ∧ bitAt (M (P + 11) a) h
def jF (P : Nat) (M : zMt) : Prop := ∀ h : Nat, (h : Int) < (M P 8).toInt → M (P + 1) (10 + h) = -1 → ∃ a : Nat, (a : Int) < (M P 33).toInt ∧ M (P + 11) a = (1 : Int32) <<< (nI h &&& 31)
theorem h2_X8_laysApplicants {P : Nat} {M0 : zMt} (hB : jB P M0) (hS : jS P M0) : ∃ r, D_X8_laysApplicants P M0 = some r ∧ ((∀ x j, ¬ WA P x j → r x j = M0 x j) ∧ jB P r ∧ jL P r ∧ jH P r ∧ (r P 33).toInt = nA P r ∧ jM P r ∧ jF P r) := by
  obtain ⟨b1, b2, b3, b4, b5, b6⟩ := id hB
  have hi := hS.ints
  have hn := nA_le hB hS
  obtain ⟨s1, s2, s3, s4, s5, s6⟩ := id hS
  obtain ⟨H, hH⟩ : ∃ H : Nat, (M0 P 8).toInt = H := ⟨(M0 P 8).toInt.toNat, by omega⟩
  obtain ⟨pn, hpn⟩ : ∃ pn : Nat, (M0 (P + 1) 70).toInt = pn := ⟨(M0 (P + 1) 70).toInt.toNat, by omega⟩
  have hnA : nA P M0 = (fr (M0 (P + 1)) H : Int) + pn := by unfold nA; rw [hpn, hH, Int.toNat_natCast]
  have z0 : ∀ k : Nat, (10 : Int32) + nI k = nI (10 + k) := fun k => by rw [show (10 : Int32) = nI 10 from rfl, nI_add]
  have c70 : (70 : Int32).toNatClampNeg = 70 := by decide
  have v70 : vp_in (70 : Int32) 82 := by unfold vp_in; decide
  have o1 : (1 : Int32).toInt = 1 := by decide
  -- the last loop: each applicant is laid
  have L198 : ∀ (u i : Nat) (M : zMt), (M P 33).toInt = nA P M0 → (i : Int) ≤ nA P M0 → nA P M0 - i < u → (∀ x j, ¬ WA P x j → M x j = M0 x j) → jQ P H M (nA P M0).toNat → (∀ h : Nat, h < H → ∃ a : Nat, (a : Int) < nA P M0 ∧ bitAt (M (P + 11) a) h) → (∀ h : Nat, h < H → M0 (P + 1) (10 + h) = -1 → ∃ a : Nat, (a : Int) < nA P M0 ∧ M (P + 11) a = (1 : Int32) <<< (nI h &&& 31)) → (∀ a : Nat, a < i → 1 ≤ (M (P + 14) a).toInt ∧ (M (P + 14) a).toInt ≤ 10 ∧ 1 ≤ (M (P + 17) a).toInt ∧ (M (P + 17) a).toInt ≤ 401) → ∃ r, D_X8_laysApplicants_198 P u (nI i) M = some r ∧ ((∀ x j, ¬ WA P x j → r x j = M0 x j) ∧ jB P r ∧ jL P r ∧ jH P r ∧ (r P 33).toInt = nA P r ∧ jM P r ∧ jF P r) := by
    intro u
    induction u with
    | zero => intro i M h1 h2 h3; omega
    | succ u ih =>
      intro i M h33 h2 hu k hQ hC hF hT
      have e8 : M P 8 = M0 P 8 := k P 8 (by unfold WA; omega)
      have e7 : M P 7 = M0 P 7 := k P 7 (by unfold WA; omega)
      have hit : (nI i).toInt = i := nI_toInt (by omega)
      have hnM : nA P M = nA P M0 := nA_congr (fun a j h => k a j (by unfold WA; omega))
      rw [D_X8_laysApplicants_198]
      refine vIf (fun hc => ?_) (fun hc => ?_)
      · have hge := Int32.le_iff_toInt_le.mp hc
        rw [hit] at hge
        refine ⟨_, rfl, k, ?_, ?_, ?_, by rw [hnM, h33], ?_, ?_⟩
        · unfold jB
          rw [e8, e7]
          exact ⟨b1, b2, b3, b4, by omega, by omega⟩
        · intro a ha
          obtain ⟨q1, q2, _⟩ := hQ a (by omega)
          obtain ⟨q4, q5, q6, q7⟩ := hT a (by omega)
          exact ⟨q1, q2, q4, q5, q6, q7⟩
        · intro h hh
          rw [e8, hH] at hh
          obtain ⟨a, q1, q2⟩ := hC h (by omega)
          exact ⟨a, by omega, q2⟩
        · intro a ha
          obtain ⟨_, _, h, hh, hb⟩ := hQ a (by omega)
          exact ⟨h, by rw [e8]; omega, hb⟩
        · intro h hh hq
          rw [e8, hH] at hh
          rw [k (P + 1) (10 + h) (by unfold WA; omega)] at hq
          obtain ⟨a, a1, a2⟩ := hF h (by omega) hq
          exact ⟨a, by omega, a2⟩
      · have hlt := Int32.lt_iff_toInt_lt.mp (Int32.not_le.mp hc)
        rw [hit] at hlt
        have hBM : jB P M := by
          unfold jB
          rw [e8, e7]
          exact ⟨b1, b2, b3, b4, by omega, by omega⟩
        have hSM : jS P M := hS.mono (fun a j h => k a j (by unfold WA; omega))
        refine vB (v_X8_laysOne (a := i) hBM hSM (by omega) (by
          obtain ⟨_, _, h, hh, hb⟩ := hQ i (by omega)
          exact ⟨h, by rw [e8]; omega, hb⟩)) (fun M1 f1 q1 => ?_)
        obtain ⟨k1, t1, t2, t3, t4⟩ := q1
        rw [nI_1]
        refine ih (i + 1) M1 ?_ (by omega) (by omega) (fun x j h => (k1 x j (by unfold WL1; unfold WA at h; omega)).trans (k x j h)) ?_ ?_ ?_ ?_
        · rw [k1 P 33 (by unfold WL1; omega)]; exact h33
        · intro a ha
          rw [k1 (P + 13) a (by unfold WL1; omega), k1 (P + 11) a (by unfold WL1; omega)]
          exact hQ a ha
        · intro h hh
          obtain ⟨a, q1, q2⟩ := hC h hh
          exact ⟨a, q1, by rw [k1 (P + 11) a (by unfold WL1; omega)]; exact q2⟩
        · intro h hh hq
          obtain ⟨a, q1, q2⟩ := hF h hh hq
          exact ⟨a, q1, by rw [k1 (P + 11) a (by unfold WL1; omega)]; exact q2⟩
        · intro a ha
          by_cases q : a = i
          · subst q; exact ⟨t1, t2, t3, t4⟩
          · rw [k1 (P + 14) a (by unfold WL1; omega), k1 (P + 17) a (by unfold WL1; omega)]
            exact hT a (by omega)
  -- the parties
  have L86 : ∀ (u p : Nat) (M : zMt), p ≤ pn → pn - p < u → (∀ x j, ¬ WA P x j → M x j = M0 x j) → M P 33 = nI (fr (M0 (P + 1)) H + p) → jQ P H M (fr (M0 (P + 1)) H + p) → (∀ h : Nat, h < H → (M0 (P + 1) (10 + h)).toInt < p → ∃ a : Nat, a < fr (M0 (P + 1)) H + p ∧ bitAt (M (P + 11) a) h) → (∀ h : Nat, h < H → M0 (P + 1) (10 + h) = -1 → ∃ a : Nat, a < fr (M0 (P + 1)) H + p ∧ M (P + 11) a = (1 : Int32) <<< (nI h &&& 31)) → ∃ r, D_X8_laysApplicants_86 P u (nI p) M = some r ∧ ((∀ x j, ¬ WA P x j → r x j = M0 x j) ∧ jB P r ∧ jL P r ∧ jH P r ∧ (r P 33).toInt = nA P r ∧ jM P r ∧ jF P r) := by
    intro u
    induction u with
    | zero => intro p M h1 h2; omega
    | succ u ih =>
      intro p M hp hu k h33 hQ hC hF
      have e70 : M (P + 1) 70 = M0 (P + 1) 70 := k (P + 1) 70 (by unfold WA; omega)
      have hpt : (nI p).toInt = p := nI_toInt (by omega)
      rw [D_X8_laysApplicants_86]
      refine vI v70 ?_
      rw [c70, e70]
      refine vIf (fun hc => ?_) (fun hc => ?_)
      · have hge := Int32.le_iff_toInt_le.mp hc
        rw [hpt, hpn] at hge
        have hpp : p = pn := by omega
        subst hpp
        refine L198 zFu 0 M ?_ (by omega) (by unfold zFu; omega) k ?_ ?_ ?_ (fun a ha => absurd ha (Nat.not_lt_zero a))
        · rw [h33, nI_toInt (by omega), hnA]
          omega
        · rw [hnA]
          exact hQ
        · intro h hh
          obtain ⟨a, q1, q2⟩ := hC h hh (by have := (s2 h (by omega)).2; omega)
          exact ⟨a, by omega, q2⟩
        · intro h hh hq
          obtain ⟨a, q1, q2⟩ := hF h hh hq
          exact ⟨a, by omega, q2⟩
      · have hlt := Int32.lt_iff_toInt_lt.mp (Int32.not_le.mp hc)
        rw [hpt, hpn] at hlt
        generalize hcd : fr (M0 (P + 1)) H + p = cc at h33 hQ hC hF
        have hcc : cc < 10 := by omega
        have hcl : (nI cc).toNatClampNeg = cc := nI_clamp (by omega)
        have vcc : vp_in (nI cc) 10 := vp_in_nI hcc (by decide)
        rw [h33, hcl]
        refine vI vcc ?_
        refine vLm (W := WA P) (fun x j h => (zu_ne (by unfold WA at h; omega)).trans (k x j h)) (fun M1 f1 k1 => ?_)
        -- the inner loop
        have L109 : ∀ (v j : Nat) (M' : zMt), j ≤ H → H - j < v → (∀ x y, ¬ WA P x y → M' x y = M0 x y) → M' P 33 = nI cc → (∀ a : Nat, a < cc → M' (P + 13) a = M (P + 13) a ∧ M' (P + 11) a = M (P + 11) a) → (∀ h : Nat, h < j → (M0 (P + 1) (10 + h)).toInt = p → bitAt (M' (P + 11) cc) h) → ∃ r, D_X8_laysApplicants_109 P (D_X8_laysApplicants_86 P u) v (nI p) (nI j) M' = some r ∧ ((∀ x j, ¬ WA P x j → r x j = M0 x j) ∧ jB P r ∧ jL P r ∧ jH P r ∧ (r P 33).toInt = nA P r ∧ jM P r ∧ jF P r) := by
          intro v
          induction v with
          | zero => intro j M' h1 h2; omega
          | succ v ihv =>
            intro j M' hj hv k' h33' hK hb
            have e8 : M' P 8 = M0 P 8 := k' P 8 (by unfold WA; omega)
            have hjt : (nI j).toInt = j := nI_toInt (by omega)
            rw [D_X8_laysApplicants_109, e8, h33', hcl]
            refine vIf (fun hc2 => ?_) (fun hc2 => ?_)
            · have hge := Int32.le_iff_toInt_le.mp hc2
              rw [hjt, hH] at hge
              have hjj : j = H := by omega
              subst hjj
              refine vI vcc ?_
              refine vLm (W := WA P) (fun x j h => (zu_ne (by unfold WA at h; omega)).trans (k' x j h)) (fun M2 f2 k2 => ?_)
              have e33 : M2 P 33 = nI cc := by rw [← f2, zu_ne (by omega)]; exact h33'
              rw [e33, hcl]
              refine vI vcc ?_
              refine vLm (W := WA P) (fun x j h => (zu_ne (by unfold WA at h; omega)).trans (k2 x j h)) (fun M3 f3 k3 => ?_)
              have e333 : M3 P 33 = nI cc := by rw [← f3, zu_ne (by omega)]; exact e33
              rw [e333]
              refine vLm (W := WA P) (fun x j h => (zu_ne (by unfold WA at h; omega)).trans (k3 x j h)) (fun M4 f4 k4 => ?_)
              have e334 : M4 P 33 = nI (cc + 1) := by rw [← f4, zu_eq, nI_1]
              have f11 : ∀ a : Nat, M4 (P + 11) a = M' (P + 11) a := fun a => by rw [← f4, zu_ne (by omega), ← f3, zu_ne (by omega), ← f2, zu_ne (by omega)]
              have f13 : ∀ a : Nat, a < cc → M4 (P + 13) a = M' (P + 13) a := fun a ha => by rw [← f4, zu_ne (by omega), ← f3, zu_ne (by omega), ← f2, zu_ne (by omega)]
              have f13c : M4 (P + 13) cc = nI (50 + 3 * p) := by
                rw [← f4, zu_ne (by omega), ← f3, zu_eq]
                rw [show (3 : Int32) * nI p = nI (3 * p) from (by rw [show (3 : Int32) = nI 3 from rfl]; unfold nI; rw [Int32.ofNat_mul]), show (50 : Int32) = nI 50 from rfl, nI_add]
              rw [nI_1]
              refine ih (p + 1) M4 (by omega) (by omega) k4 (by rw [e334, ← hcd, Nat.add_assoc]) ?_ ?_ ?_
              · rw [← Nat.add_assoc, hcd]
                refine hQ.put (fun a ha => ⟨(f13 a ha).trans (hK a ha).1, (f11 a).trans (hK a ha).2⟩) ⟨?_, ?_, ?_⟩
                · rw [f13c, nI_toInt (by omega)]; omega
                · rw [f13c, nI_toInt (by omega)]; omega
                · obtain ⟨h, h1, h2⟩ := s6 p (by omega)
                  exact ⟨h, by omega, by rw [f11]; exact hb h (by omega) h2⟩
              · intro h hh hlt2
                by_cases q : (M0 (P + 1) (10 + h)).toInt = p
                · exact ⟨cc, by omega, by rw [f11]; exact hb h hh q⟩
                · obtain ⟨a, a1, a2⟩ := hC h hh (by omega)
                  exact ⟨a, by omega, by rw [f11, (hK a a1).2]; exact a2⟩
              · intro h hh hq
                obtain ⟨a, a1, a2⟩ := hF h hh hq
                exact ⟨a, by omega, by rw [f11, (hK a a1).2]; exact a2⟩
            · have hlt2 := Int32.lt_iff_toInt_lt.mp (Int32.not_le.mp hc2)
              rw [hjt, hH] at hlt2
              have hcj : (nI (10 + j)).toNatClampNeg = 10 + j := nI_clamp (by omega)
              rw [z0, hcj]
              refine vI vcc (vI (vp_in_nI (by omega) (by decide)) ?_)
              have eP : M' (P + 1) (10 + j) = M0 (P + 1) (10 + j) := k' (P + 1) (10 + j) (by unfold WA; omega)
              rw [eP]
              have T147 : ∀ y : Int32, (∀ h : Nat, h < j + 1 → (M0 (P + 1) (10 + h)).toInt = p → bitAt (M' (P + 11) cc ||| y) h) → ∃ r, D_X8_laysApplicants_147 P (D_X8_laysApplicants_86 P u) (D_X8_laysApplicants_109 P (D_X8_laysApplicants_86 P u) v) (nI p) (nI j) (nI cc) (M' (P + 11) cc) y M' = some r ∧ ((∀ x j, ¬ WA P x j → r x j = M0 x j) ∧ jB P r ∧ jL P r ∧ jH P r ∧ (r P 33).toInt = nA P r ∧ jM P r ∧ jF P r) := by
                intro y hy
                unfold D_X8_laysApplicants_147
                refine vI vcc ?_
                rw [hcl]
                refine vLm (W := WA P) (fun x j h => (zu_ne (by unfold WA at h; omega)).trans (k' x j h)) (fun M2 f2 k2 => ?_)
                rw [nI_1]
                refine ihv (j + 1) M2 (by omega) (by omega) k2 (by rw [← f2, zu_ne (by omega)]; exact h33') (fun a ha => ?_) (fun h hh hq => ?_)
                · rw [← f2, zu_ne (by omega), zu_ne (by omega)]
                  exact hK a ha
                · rw [← f2, zu_eq]
                  exact hy h hh hq
              refine vIf (fun hq => T147 _ (fun h hh he => ?_)) (fun hq => T147 _ (fun h hh he => ?_))
              · rw [bitAt_or (by omega)]
                by_cases q : h = j
                · subst q
                  exact Or.inr ((bitAt_one h (by omega) h (by omega)).mpr rfl)
                · exact Or.inl (hb h (by omega) he)
              · rw [bitAt_or (by omega)]
                refine Or.inl (hb h ?_ he)
                have : h ≠ j := fun q => by
                  subst q
                  exact hq (Int32.toInt_inj.mp (by rw [he, hpt]))
                omega
        refine L109 zFu 0 M1 (by omega) (by unfold zFu; omega) k1 (by rw [← f1, zu_ne (by omega)]; exact h33) (fun a ha => ?_) (fun h hh => absurd hh (Nat.not_lt_zero h))
        rw [← f1, zu_ne (by omega), zu_ne (by omega)]
        exact ⟨rfl, rfl⟩
  -- the hunters that are in no party
  have L7 : ∀ (u i : Nat) (M : zMt), i ≤ H → H - i < u → (∀ x j, ¬ WA P x j → M x j = M0 x j) → M P 33 = nI (fr (M0 (P + 1)) i) → jQ P H M (fr (M0 (P + 1)) i) → (∀ h : Nat, h < i → M0 (P + 1) (10 + h) = -1 → ∃ a : Nat, a < fr (M0 (P + 1)) i ∧ M (P + 11) a = (1 : Int32) <<< (nI h &&& 31)) → ∃ r, D_X8_laysApplicants_7 P u (nI i) M = some r ∧ ((∀ x j, ¬ WA P x j → r x j = M0 x j) ∧ jB P r ∧ jL P r ∧ jH P r ∧ (r P 33).toInt = nA P r ∧ jM P r ∧ jF P r) := by
    intro u
    induction u with
    | zero => intro i M h1 h2; omega
    | succ u ih =>
      intro i M hi1 hu k h33 hQ hC
      have e8 : M P 8 = M0 P 8 := k P 8 (by unfold WA; omega)
      have hit : (nI i).toInt = i := nI_toInt (by omega)
      rw [D_X8_laysApplicants_7, e8]
      refine vIf (fun hc => ?_) (fun hc => ?_)
      · have hge := Int32.le_iff_toInt_le.mp hc
        rw [hit, hH] at hge
        have hii : i = H := by omega
        subst hii
        refine L86 zFu 0 M (by omega) (by unfold zFu; omega) k h33 hQ (fun h hh hl => ?_) (fun h hh hq => hC h hh hq)
        obtain ⟨a, a1, a2⟩ := hC h hh (Int32.toInt_inj.mp (by have := (s2 h (by omega)).1; rw [z_m1]; omega))
        exact ⟨a, a1, by rw [a2]; exact (bitAt_one h (by omega) h (by omega)).mpr rfl⟩
      · have hlt := Int32.lt_iff_toInt_lt.mp (Int32.not_le.mp hc)
        rw [hit, hH] at hlt
        have hcj : (nI (10 + i)).toNatClampNeg = 10 + i := nI_clamp (by omega)
        rw [z0, hcj]
        refine vI (vp_in_nI (by omega) (by decide)) ?_
        have eP : M (P + 1) (10 + i) = M0 (P + 1) (10 + i) := k (P + 1) (10 + i) (by unfold WA; omega)
        rw [eP]
        have hfs : fr (M0 (P + 1)) (i + 1) = fr (M0 (P + 1)) i + (if M0 (P + 1) (10 + i) = -1 then 1 else 0) := rfl
        have hfl := fr_le (M0 (P + 1)) i
        refine vIf (fun hq => ?_) (fun hq => ?_)
        · rw [if_pos hq] at hfs
          generalize hcd : fr (M0 (P + 1)) i = cc at h33 hQ hC hfs hfl
          have hcl : (nI cc).toNatClampNeg = cc := nI_clamp (by omega)
          have vcc : vp_in (nI cc) 10 := vp_in_nI (by omega) (by decide)
          rw [h33, hcl]
          refine vI vcc ?_
          refine vLm (W := WA P) (fun x j h => (zu_ne (by unfold WA at h; omega)).trans (k x j h)) (fun M1 f1 k1 => ?_)
          have e1 : M1 P 33 = nI cc := by rw [← f1, zu_ne (by omega)]; exact h33
          rw [e1, hcl]
          refine vI vcc ?_
          refine vLm (W := WA P) (fun x j h => (zu_ne (by unfold WA at h; omega)).trans (k1 x j h)) (fun M2 f2 k2 => ?_)
          have e2 : M2 P 33 = nI cc := by rw [← f2, zu_ne (by omega)]; exact e1
          rw [e2, hcl]
          refine vI vcc ?_
          refine vLm (W := WA P) (fun x j h => (zu_ne (by unfold WA at h; omega)).trans (k2 x j h)) (fun M3 f3 k3 => ?_)
          have e3 : M3 P 33 = nI cc := by rw [← f3, zu_ne (by omega)]; exact e2
          rw [e3]
          refine vLm (W := WA P) (fun x j h => (zu_ne (by unfold WA at h; omega)).trans (k3 x j h)) (fun M4 f4 k4 => ?_)
          have e4 : M4 P 33 = nI (cc + 1) := by rw [← f4, zu_eq, nI_1]
          have f11 : ∀ a : Nat, a < cc → M4 (P + 11) a = M (P + 11) a := fun a ha => by rw [← f4, zu_ne (by omega), ← f3, zu_ne (by omega), ← f2, zu_ne (by omega), ← f1, zu_ne (by omega)]
          have f11c : M4 (P + 11) cc = (1 : Int32) <<< (nI i &&& 31) := by rw [← f4, zu_ne (by omega), ← f3, zu_ne (by omega), ← f2, zu_ne (by omega), ← f1, zu_eq]
          have f13 : ∀ a : Nat, a < cc → M4 (P + 13) a = M (P + 13) a := fun a ha => by rw [← f4, zu_ne (by omega), ← f3, zu_ne (by omega), ← f2, zu_ne (by omega), ← f1, zu_ne (by omega)]
          have f13c : M4 (P + 13) cc = nI (20 + 3 * i) := by
            rw [← f4, zu_ne (by omega), ← f3, zu_eq]
            rw [show (3 : Int32) * nI i = nI (3 * i) from (by rw [show (3 : Int32) = nI 3 from rfl]; unfold nI; rw [Int32.ofNat_mul]), show (20 : Int32) = nI 20 from rfl, nI_add]
          unfold D_X8_laysApplicants_78
          rw [nI_1]
          have hbi : bitAt (M4 (P + 11) cc) i := by rw [f11c]; exact (bitAt_one i (by omega) i (by omega)).mpr rfl
          refine ih (i + 1) M4 (by omega) (by omega) k4 (by rw [e4, hfs]) ?_ (fun h hh he => ?_)
          · rw [hfs]
            refine hQ.put (fun a ha => ⟨f13 a ha, f11 a ha⟩) ⟨?_, ?_, i, by omega, hbi⟩
            · rw [f13c, nI_toInt (by omega)]; omega
            · rw [f13c, nI_toInt (by omega)]; omega
          · by_cases q : h = i
            · subst q; exact ⟨cc, by omega, f11c⟩
            · obtain ⟨a, a1, a2⟩ := hC h (by omega) he
              exact ⟨a, by omega, by rw [f11 a a1]; exact a2⟩
        · rw [if_neg hq] at hfs
          unfold D_X8_laysApplicants_78
          rw [nI_1]
          refine ih (i + 1) M (by omega) (by omega) k (by rw [hfs]; exact h33) (by rw [hfs]; exact hQ) (fun h hh he => ?_)
          have : h ≠ i := fun q => by subst q; exact hq he
          rw [hfs]
          exact hC h (by omega) he
  unfold D_X8_laysApplicants
  refine vLm (W := WA P) (fun x j h => zu_ne (by unfold WA at h; omega)) (fun M1 f1 k1 => ?_)
  exact L7 zFu 0 M1 (by omega) (by unfold zFu; omega) k1 (by rw [← f1, zu_eq]; rfl) (fun a ha => absurd ha (Nat.not_lt_zero a)) (fun h hh => absurd hh (Nat.not_lt_zero h))
theorem h_X8_laysJoined {P h o m a1 a2 : Nat} {M0 : zMt} (hB : jB P M0) (hS : jS P M0) (hm : (M0 P 33).toInt = m) (m8 : m ≤ 8) (hh : (h : Int) < (M0 P 8).toInt) (hoo : (o : Int) < (M0 P 8).toInt) (hne : h ≠ o) (hJ : jQ P (M0 P 8).toInt M0 m) (ha1 : a1 < m) (e1 : M0 (P + 11) a1 = (1 : Int32) <<< (nI h &&& 31)) (ha2 : a2 < m) (e2 : M0 (P + 11) a2 = (1 : Int32) <<< (nI o &&& 31)) : ∃ r, D_X8_laysJoined P (nI h) (nI o) M0 = some r ∧ ((∀ x j, ¬ WA P x j → r.2 x j = M0 x j) ∧ jB P r.2 ∧ jL P r.2 ∧ (r.2 P 33).toInt ≤ 7 ∧ 0 ≤ r.1.toInt ∧ r.1.toInt < 7) := by
  obtain ⟨b1, b2, b3, b4, b5, b6⟩ := id hB
  have h12 : a1 ≠ a2 := fun z => by
    subst z
    rw [e1] at e2
    have q1 := (bitAt_one h (by omega) h (by omega)).mpr rfl
    rw [e2] at q1
    exact hne ((bitAt_one o (by omega) h (by omega)).mp q1).symm
  -- all are laid
  have L133 : ∀ (u i w mm : Nat) (M : zMt), w < 7 → mm ≤ 7 → (M P 33).toInt = mm → i ≤ mm → mm - i < u → (∀ x j, ¬ WA P x j → M x j = M0 x j) → jQ P (M0 P 8).toInt M mm → (∀ a : Nat, a < i → 1 ≤ (M (P + 14) a).toInt ∧ (M (P + 14) a).toInt ≤ 10 ∧ 1 ≤ (M (P + 17) a).toInt ∧ (M (P + 17) a).toInt ≤ 401) → ∃ r, D_X8_laysJoined_133 P u (nI w) (nI i) M = some r ∧ ((∀ x j, ¬ WA P x j → r.2 x j = M0 x j) ∧ jB P r.2 ∧ jL P r.2 ∧ (r.2 P 33).toInt ≤ 7 ∧ 0 ≤ r.1.toInt ∧ r.1.toInt < 7) := by
    intro u
    induction u with
    | zero => intro i w mm M h1 h2 h3 h4 h5; omega
    | succ u ih =>
      intro i w mm M hw hmm h33 hi hu k hQ hT
      have e8 : M P 8 = M0 P 8 := k P 8 (by unfold WA; omega)
      have e7 : M P 7 = M0 P 7 := k P 7 (by unfold WA; omega)
      have hit : (nI i).toInt = i := nI_toInt (by omega)
      have hwt : (nI w).toInt = w := nI_toInt (by omega)
      have hBM : jB P M := by
        unfold jB
        rw [e8, e7]
        exact ⟨b1, b2, b3, b4, by omega, by omega⟩
      rw [D_X8_laysJoined_133]
      refine vIf (fun hc => ?_) (fun hc => ?_)
      · have hge := Int32.le_iff_toInt_le.mp hc
        rw [hit] at hge
        refine ⟨_, rfl, k, hBM, ?_, ?_, ?_, ?_⟩
        · intro a ha
          have ha' : (a : Int) < (M P 33).toInt := ha
          obtain ⟨q1, q2, _⟩ := hQ a (by omega)
          obtain ⟨q4, q5, q6, q7⟩ := hT a (by omega)
          exact ⟨q1, q2, q4, q5, q6, q7⟩
        · show (M P 33).toInt ≤ 7
          omega
        · show 0 ≤ (nI w).toInt
          omega
        · show (nI w).toInt < 7
          omega
      · have hlt := Int32.lt_iff_toInt_lt.mp (Int32.not_le.mp hc)
        rw [hit] at hlt
        have hSM : jS P M := hS.mono (fun a j h => k a j (by unfold WA; omega))
        refine vB (v_X8_laysOne (a := i) hBM hSM (by omega) (by
          obtain ⟨_, _, x, hx, hb⟩ := hQ i (by omega)
          exact ⟨x, by rw [e8]; omega, hb⟩)) (fun M1 f1 q1 => ?_)
        obtain ⟨k1, t1, t2, t3, t4⟩ := q1
        rw [nI_1]
        refine ih (i + 1) w mm M1 hw hmm (by rw [k1 P 33 (by unfold WL1; omega)]; exact h33) (by omega) (by omega) (fun x j h => (k1 x j (by unfold WL1; unfold WA at h; omega)).trans (k x j h)) (fun a ha => ?_) (fun a ha => ?_)
        · rw [k1 (P + 13) a (by unfold WL1; omega), k1 (P + 11) a (by unfold WL1; omega)]
          exact hQ a ha
        · by_cases q : a = i
          · subst q; exact ⟨t1, t2, t3, t4⟩
          · rw [k1 (P + 14) a (by unfold WL1; omega), k1 (P + 17) a (by unfold WL1; omega)]
            exact hT a (by omega)
  -- all but the two come down
  have L5 : ∀ (u k w : Nat) (M : zMt), k ≤ m → m - k < u → w + (if a1 < k then 1 else 0) + (if a2 < k then 1 else 0) ≤ k → (∀ x j, ¬ WA P x j → M x j = M0 x j) → M P 33 = M0 P 33 → jQ P (M0 P 8).toInt M w → (∀ a, k ≤ a → M (P + 11) a = M0 (P + 11) a ∧ M (P + 13) a = M0 (P + 13) a) → ∃ r, D_X8_laysJoined_5 P u (nI h) (nI o) (nI w) (nI k) M = some r ∧ ((∀ x j, ¬ WA P x j → r.2 x j = M0 x j) ∧ jB P r.2 ∧ jL P r.2 ∧ (r.2 P 33).toInt ≤ 7 ∧ 0 ≤ r.1.toInt ∧ r.1.toInt < 7) := by
    intro u
    induction u with
    | zero => intro k w M h1 h2; omega
    | succ u ih =>
      intro k w M hk hu hc kk h33 hQ hr
      have hkt : (nI k).toInt = k := nI_toInt (by omega)
      have hwk : w ≤ k := by omega
      have hcw : (nI w).toNatClampNeg = w := nI_clamp (by omega)
      have hck : (nI k).toNatClampNeg = k := nI_clamp (by omega)
      rw [D_X8_laysJoined_5, h33]
      refine vIf (fun hg => ?_) (fun hg => ?_)
      · have hge := Int32.le_iff_toInt_le.mp hg
        rw [hkt, hm] at hge
        have hkm : k = m := by omega
        subst hkm
        rw [if_pos ha1, if_pos ha2] at hc
        have vw : vp_in (nI w) 10 := vp_in_nI (by omega) (by decide)
        refine vI vw ?_
        rw [hcw]
        refine vLm (W := WA P) (M0 := M0) (fun x j h => (zu_ne (by unfold WA at h; omega)).trans (kk x j h)) (fun M1 f1 k1 => ?_)
        refine vI vw ?_
        refine vLm (W := WA P) (M0 := M0) (fun x j h => (zu_ne (by unfold WA at h; omega)).trans (k1 x j h)) (fun M2 f2 k2 => ?_)
        refine vI vw ?_
        refine vLm (W := WA P) (M0 := M0) (fun x j h => (zu_ne (by unfold WA at h; omega)).trans (k2 x j h)) (fun M3 f3 k3 => ?_)
        rw [nI_1]
        refine vLm (W := WA P) (M0 := M0) (fun x j h => (zu_ne (by unfold WA at h; omega)).trans (k3 x j h)) (fun M4 f4 k4 => ?_)
        have f11 : ∀ a : Nat, a < w → M4 (P + 11) a = M (P + 11) a := fun a ha => by rw [← f4, zu_ne (by omega), ← f3, zu_ne (by omega), ← f2, zu_ne (by omega), ← f1, zu_ne (by omega)]
        have f13 : ∀ a : Nat, a < w → M4 (P + 13) a = M (P + 13) a := fun a ha => by rw [← f4, zu_ne (by omega), ← f3, zu_ne (by omega), ← f2, zu_ne (by omega), ← f1, zu_ne (by omega)]
        have f11c : M4 (P + 11) w = ((1 : Int32) <<< (nI h &&& 31)) ||| ((1 : Int32) <<< (nI o &&& 31)) := by rw [← f4, zu_ne (by omega), ← f3, zu_ne (by omega), ← f2, zu_ne (by omega), ← f1, zu_eq]
        have f13c : M4 (P + 13) w = nI (20 + 3 * h) := by
          rw [← f4, zu_ne (by omega), ← f3, zu_eq, n_mul3, show (20 : Int32) = nI 20 from rfl, nI_add]
        refine L133 zFu 0 w (w + 1) M4 (by omega) (by omega) (by rw [← f4, zu_eq, nI_toInt (by omega)]) (by omega) (by unfold zFu; omega) k4 ?_ (fun a ha => absurd ha (Nat.not_lt_zero a))
        refine hQ.put (fun a ha => ⟨f13 a ha, f11 a ha⟩) ⟨?_, ?_, h, hh, ?_⟩
        · rw [f13c, nI_toInt (by omega)]; omega
        · rw [f13c, nI_toInt (by omega)]; omega
        · rw [f11c, bitAt_or (by omega)]
          exact Or.inl ((bitAt_one h (by omega) h (by omega)).mpr rfl)
      · have hlt := Int32.lt_iff_toInt_lt.mp (Int32.not_le.mp hg)
        rw [hkt, hm] at hlt
        have vk : vp_in (nI k) 10 := vp_in_nI (by omega) (by decide)
        have vw : vp_in (nI w) 10 := vp_in_nI (by omega) (by decide)
        have hrk := hr k (by omega)
        refine vI vk ?_
        rw [hck, hcw, hrk.1]
        have hsk : w + (if a1 < k + 1 then 1 else 0) + (if a2 < k + 1 then 1 else 0) ≤ k + 1 := by
          by_cases q1 : a1 < k
          · rw [if_pos q1] at hc
            rw [if_pos (show a1 < k + 1 by omega)]
            by_cases q2 : a2 < k
            · rw [if_pos q2] at hc; rw [if_pos (show a2 < k + 1 by omega)]; omega
            · rw [if_neg q2] at hc; split <;> omega
          · rw [if_neg q1] at hc
            by_cases q2 : a2 < k
            · rw [if_pos q2] at hc; rw [if_pos (show a2 < k + 1 by omega)]; split <;> omega
            · rw [if_neg q2] at hc
              by_cases z : a1 = k
              · rw [if_neg (show ¬ a2 < k + 1 by omega)]; split <;> omega
              · rw [if_neg (show ¬ a1 < k + 1 by omega)]; split <;> omega
        have T85 : ∃ r, D_X8_laysJoined_85 P (D_X8_laysJoined_5 P u) (nI h) (nI o) (nI w) (nI k) M = some r ∧ ((∀ x j, ¬ WA P x j → r.2 x j = M0 x j) ∧ jB P r.2 ∧ jL P r.2 ∧ (r.2 P 33).toInt ≤ 7 ∧ 0 ≤ r.1.toInt ∧ r.1.toInt < 7) := by
          unfold D_X8_laysJoined_85
          rw [nI_1]
          exact ih (k + 1) w M (by omega) (by omega) hsk kk h33 hQ (fun a ha => hr a (by omega))
        refine vIf (fun _ => T85) (fun hn1 => ?_)
        refine vI vk ?_
        refine vIf (fun _ => T85) (fun hn2 => ?_)
        have hk1 : k ≠ a1 := fun z => by subst z; exact hn1 e1
        have hk2 : k ≠ a2 := fun z => by subst z; exact hn2 e2
        refine vI vk (vI vw ?_)
        refine vLm (W := WA P) (M0 := M0) (fun x j h => (zu_ne (by unfold WA at h; omega)).trans (kk x j h)) (fun M1 f1 k1 => ?_)
        refine vI vk (vI vw ?_)
        refine vLm (W := WA P) (M0 := M0) (fun x j h => (zu_ne (by unfold WA at h; omega)).trans (k1 x j h)) (fun M2 f2 k2 => ?_)
        refine vI vk (vI vw ?_)
        refine vLm (W := WA P) (M0 := M0) (fun x j h => (zu_ne (by unfold WA at h; omega)).trans (k2 x j h)) (fun M3 f3 k3 => ?_)
        unfold D_X8_laysJoined_85
        rw [nI_1, nI_1]
        have f11 : ∀ a : Nat, a ≠ w → M3 (P + 11) a = M (P + 11) a := fun a ha => by rw [← f3, zu_ne (by omega), ← f2, zu_ne (by omega), ← f1, zu_ne (by omega)]
        have f13 : ∀ a : Nat, a ≠ w → M3 (P + 13) a = M (P + 13) a := fun a ha => by rw [← f3, zu_ne (by omega), ← f2, zu_ne (by omega), ← f1, zu_ne (by omega)]
        have f11c : M3 (P + 11) w = M0 (P + 11) k := by rw [← f3, zu_ne (by omega), ← f2, zu_ne (by omega), ← f1, zu_eq]
        have f13c : M3 (P + 13) w = M0 (P + 13) k := by
          rw [← f3, zu_eq, ← f2, zu_ne (by omega), ← f1, zu_ne (by omega)]
          exact hrk.2
        refine ih (k + 1) (w + 1) M3 (by omega) (by omega) ?_ k3 ?_ ?_ (fun a ha => ?_)
        · by_cases q1 : a1 < k
          · rw [if_pos q1] at hc
            rw [if_pos (show a1 < k + 1 by omega)]
            by_cases q2 : a2 < k
            · rw [if_pos q2] at hc; rw [if_pos (show a2 < k + 1 by omega)]; omega
            · rw [if_neg q2] at hc; rw [if_neg (show ¬ a2 < k + 1 by omega)]; omega
          · rw [if_neg q1] at hc
            rw [if_neg (show ¬ a1 < k + 1 by omega)]
            by_cases q2 : a2 < k
            · rw [if_pos q2] at hc; rw [if_pos (show a2 < k + 1 by omega)]; omega
            · rw [if_neg q2] at hc; rw [if_neg (show ¬ a2 < k + 1 by omega)]; omega
        · rw [← f3, zu_ne (by omega), ← f2, zu_ne (by omega), ← f1, zu_ne (by omega)]; exact h33
        · refine hQ.put (fun a ha => ⟨f13 a (by omega), f11 a (by omega)⟩) ?_
          rw [f11c, f13c]
          exact hJ k (by omega)
        · rw [f11 a (by omega), f13 a (by omega)]
          exact hr a (by omega)
  unfold D_X8_laysJoined
  refine L5 zFu 0 0 M0 (by omega) (by unfold zFu; omega) ?_ (fun _ _ _ => rfl) rfl (fun a ha => absurd ha (Nat.not_lt_zero a)) (fun _ _ => ⟨rfl, rfl⟩)
  rw [if_neg (Nat.not_lt_zero a1), if_neg (Nat.not_lt_zero a2)]
  omega
/-- what the reference's together writes -/
def WM_X8_together (P a j : Nat) : Prop := (P + 11 ≤ a ∧ a < P + 23) ∨ a = P + 29 ∨ (a = P ∧ (j = 6 ∨ j = 12 ∨ j = 33 ∨ (54 ≤ j ∧ j < 58)))
def WN_X8_together (P a j : Nat) : Prop := (P + 24 ≤ a ∧ a < P + 29) ∨ (a = P ∧ j = 59)
theorem v_X8_together {P : Nat} {v0 v1 : Int32} {M0 : zMt} {N0 : zNt} (p_jB : jB P M0) (p_jS : jS P M0) (p_jR : jR P M0) (p_jK : jK P M0) (p_jT : jT P M0) : ∃ r, D_X8_together P v0 v1 M0 N0 = some r ∧ ((∀ a j, ¬ WM_X8_together P a j → r.2.1 a j = M0 a j) ∧ (∀ a j, ¬ WN_X8_together P a j → r.2.2 a j = N0 a j) ∧ jB P r.2.1 ∧ jS P r.2.1 ∧ jR P r.2.1 ∧ jK P r.2.1 ∧ jT P r.2.1) := by
  have fin : ∀ (v : Int64) (M : zMt) (N : zNt), (∀ a j, ¬ WM_X8_together P a j → M a j = M0 a j) → (∀ a j, ¬ WN_X8_together P a j → N a j = N0 a j) → jB P M → jR P M → ∃ r, some (v, M, N) = some r ∧ ((∀ a j, ¬ WM_X8_together P a j → r.2.1 a j = M0 a j) ∧ (∀ a j, ¬ WN_X8_together P a j → r.2.2 a j = N0 a j) ∧ jB P r.2.1 ∧ jS P r.2.1 ∧ jR P r.2.1 ∧ jK P r.2.1 ∧ jT P r.2.1) := fun v M N k kn hB hR =>
    ⟨_, rfl, k, kn, hB, p_jS.mono (fun a j h => k a j (by unfold WM_X8_together; omega)), hR, p_jK.mono (fun a j h => k a j (by unfold WM_X8_together; omega)), p_jT.mono (fun a j h => k a j (by unfold WM_X8_together; omega))⟩
  have R : ∀ (M : zMt) (s : Int32), (∀ a j, ¬ WM_X8_together P a j → M a j = M0 a j) → jB P M → jR P M → ∃ r, (zB (D_X8_refuse P s M) fun e => some ((Int32.toInt64 e.1), e.2, N0)) = some r ∧ ((∀ a j, ¬ WM_X8_together P a j → r.2.1 a j = M0 a j) ∧ (∀ a j, ¬ WN_X8_together P a j → r.2.2 a j = N0 a j) ∧ jB P r.2.1 ∧ jS P r.2.1 ∧ jR P r.2.1 ∧ jK P r.2.1 ∧ jT P r.2.1) := fun M s k hB hR =>
    vB v_X8_refuse (fun e f q => fin _ _ _ (fun a j h => (q a j (by unfold WM_X8_refuse; unfold WM_X8_together at h; omega)).trans (k a j h)) (fun _ _ _ => rfl) (hB.mono (fun a j h => q a j (by unfold WM_X8_refuse; omega))) (hR.mono (fun a j h => q a j (by unfold WM_X8_refuse; omega))))
  obtain ⟨b1, b2, b3, b4, b5, b6⟩ := id p_jB
  have R16 : ∃ r, D_X8_together_16 P M0 N0 = some r ∧ ((∀ a j, ¬ WM_X8_together P a j → r.2.1 a j = M0 a j) ∧ (∀ a j, ¬ WN_X8_together P a j → r.2.2 a j = N0 a j) ∧ jB P r.2.1 ∧ jS P r.2.1 ∧ jR P r.2.1 ∧ jK P r.2.1 ∧ jT P r.2.1) := R M0 2 (fun _ _ _ => rfl) p_jB p_jR
  have R61 : ∃ r, D_X8_together_61 P M0 N0 = some r ∧ ((∀ a j, ¬ WM_X8_together P a j → r.2.1 a j = M0 a j) ∧ (∀ a j, ¬ WN_X8_together P a j → r.2.2 a j = N0 a j) ∧ jB P r.2.1 ∧ jS P r.2.1 ∧ jR P r.2.1 ∧ jK P r.2.1 ∧ jT P r.2.1) := R M0 7 (fun _ _ _ => rfl) p_jB p_jR
  have nz : ∀ e : Int32, ¬ e = 0 → ¬ e.toInt = 0 := fun e h q => h (Int32.toInt_inj.mp (by rw [q]; decide))
  unfold D_X8_together
  refine vB (v_X8_isHunter p_jB) (fun e1 f1 q1 => ?_)
  refine vIf (fun _ => R16) (fun h1 => ?_)
  have hv0 := q1.2.resolve_left (nz _ h1)
  refine vB (v_X8_isHunter p_jB) (fun e2 f2 q2 => ?_)
  refine vIf (fun _ => R16) (fun h2 => ?_)
  have hv1 := q2.2.resolve_left (nz _ h2)
  refine vIf (fun _ => R M0 4 (fun _ _ _ => rfl) p_jB p_jR) (fun hne => ?_)
  obtain ⟨h, hh, hht⟩ : ∃ h : Nat, v0 = nI h ∧ (h : Int) = v0.toInt := ⟨v0.toInt.toNat, z_toN hv0.1, by omega⟩
  obtain ⟨o, oo, oot⟩ : ∃ o : Nat, v1 = nI o ∧ (o : Int) = v1.toInt := ⟨v1.toInt.toNat, z_toN hv1.1, by omega⟩
  subst hh
  subst oo
  have l10 : (10 : Int32) = nI 10 := rfl
  rw [l10, n_add, n_add, nI_clamp (n := 10 + h) (by omega), nI_clamp (n := 10 + o) (by omega)]
  refine vI (vp_in_nI (by omega) (by decide)) ?_
  refine vIf (fun hf1 => ?_) (fun _ => R61)
  refine vI (vp_in_nI (by omega) (by decide)) ?_
  refine vIf (fun hf2 => ?_) (fun _ => R61)
  obtain ⟨M1, d1, k1, hB1, hL1, hH1, hN1, hM1, hF1⟩ := h2_X8_laysApplicants p_jB p_jS
  rw [d1]
  show ∃ r, (if M1 P 33 ≤ 8 then _ else _) = some r ∧ _
  have e8 : M1 P 8 = M0 P 8 := k1 P 8 (by unfold WA; omega)
  have kk1 : ∀ a j, ¬ WM_X8_together P a j → M1 a j = M0 a j := fun a j h => k1 a j (by unfold WA; unfold WM_X8_together at h; omega)
  have hR1 : jR P M1 := p_jR.mono (fun a j h => k1 a j (by unfold WA; omega))
  have hS1 : jS P M1 := p_jS.mono (fun a j h => k1 a j (by unfold WA; omega))
  refine vIf (fun h8 => ?_) (fun _ => R M1 3 kk1 hB1 hR1)
  have h8' := Int32.le_iff_toInt_le.mp h8
  have o8 : (8 : Int32).toInt = 8 := by decide
  obtain ⟨c1, c2, c3, c4, c5, c6⟩ := id hB1
  obtain ⟨a1, ha1, ea1⟩ := hF1 h (by rw [e8]; omega) (by rw [k1 (P + 1) (10 + h) (by unfold WA; omega)]; exact hf1)
  obtain ⟨a2, ha2, ea2⟩ := hF1 o (by rw [e8]; omega) (by rw [k1 (P + 1) (10 + o) (by unfold WA; omega)]; exact hf2)
  obtain ⟨r2, d2, k2, hB2, hL2, h27, h20, h2l⟩ := h_X8_laysJoined (h := h) (o := o) (m := (M1 P 33).toInt.toNat) (a1 := a1) (a2 := a2) hB1 hS1 (by omega) (by omega) (by rw [e8]; omega) (by rw [e8]; omega) (fun z => hne (by rw [z])) (fun a ha => by
    obtain ⟨x1, x2, _⟩ := hL1 a (by omega)
    exact ⟨x1, x2, hM1 a (by omega)⟩) (by omega) ea1 (by omega) ea2
  refine vB ⟨r2, d2, rfl⟩ (H := fun e => e = r2) (fun e2 f3 q3 => ?_)
  subst q3
  have hR2 : jR P e2.2 := hR1.mono (fun a j h => k2 a j (by unfold WA; omega))
  have hS2 : jS P e2.2 := hS1.mono (fun a j h => k2 a j (by unfold WA; omega))
  refine vB (v_X8_allOrders hB2 hS2 hL2 hR2 h27) (fun e3 f4 q4 => ?_)
  have hB3 : jB P e3.1 := hB2.mono (fun a j h => q4.1 a j (by unfold WM_X8_allOrders; omega))
  refine vB (v_X8_chanceOf hB3 h20 h2l) (fun e4 f5 _ => ?_)
  refine vB v_X8_givesLong (fun e5 f6 q6 => ?_)
  refine fin _ _ _ (fun a j h => (q6 a j (by unfold WM_X8_givesLong; unfold WM_X8_together at h; omega)).trans ((q4.1 a j (by unfold WM_X8_allOrders; unfold WM_X8_together at h; omega)).trans ((k2 a j (by unfold WA; unfold WM_X8_together at h; omega)).trans (kk1 a j h)))) (fun a j h => q4.2.1 a j (by unfold WN_X8_allOrders; unfold WN_X8_together at h; omega)) (hB3.mono (fun a j h => q6 a j (by unfold WM_X8_givesLong; omega))) (q4.2.2.mono (fun a j h => q6 a j (by unfold WM_X8_givesLong; omega)))
/-! what load leaves of the tape -/
theorem w_X7_load {P : Nat} {v0 : Int32} {M0 : zMt} {N0 : zNt} : ∃ r, D_X7_load P v0 M0 N0 = some r ∧ ((v0 < 0 ∨ ¬ v0 ≤ M0 P 1) ∧ r.2.1 P 1 = M0 P 1 ∨ (¬ v0 < 0 ∧ v0 ≤ M0 P 1) ∧ r.2.1 P 1 = 0) := by
  unfold D_X7_load
  refine vIf (fun h1 => ?_) (fun h1 => ?_)
  · unfold D_X7_load_12
    exact vB v_X7_refuse (fun e f q => ⟨_, rfl, Or.inl ⟨Or.inl h1, q P 1 (by unfold WM_X7_refuse; omega)⟩⟩)
  · refine vIf (fun h2 => ?_) (fun h2 => ?_)
    · refine vB v_X3_read (fun e f q => ?_)
      refine vLm (W := fun a j => ¬ (a = P ∧ j = 1)) (M0 := zu e.2.1 P 1 (0 : Int32)) (fun a j _ => rfl) (fun y fy _ => ?_)
      have y1 : y P 1 = 0 := by rw [← fy, zu_eq]
      refine vIf (fun h3 => ?_) (fun h3 => ?_)
      · exact vB v_X7_refuse (fun e2 f2 q2 => ⟨_, rfl, Or.inr ⟨⟨h1, h2⟩, (q2 P 1 (by unfold WM_X7_refuse; omega)).trans y1⟩⟩)
      · refine vB v_X4_take (fun e2 f2 q2 => vB v_X1_forget (fun e3 f3 q3 => vB v_X7_changed (fun e4 f4 q4 => ⟨_, rfl, Or.inr ⟨⟨h1, h2⟩, ?_⟩⟩)))
        exact (q4 P 1 (by unfold WM_X7_changed; omega)).trans ((q3 P 1 (by unfold WM_X1_forget; omega)).trans ((q2 P 1 (by unfold WM_X4_take; omega)).trans y1))
    · unfold D_X7_load_12
      exact vB v_X7_refuse (fun e f q => ⟨_, rfl, Or.inl ⟨Or.inr h2, q P 1 (by unfold WM_X7_refuse; omega)⟩⟩)
/-! WORDS AS NUMBERS: the class counts their letters by 27, the reference by 32 -/
def eC (b : Int) (f : Nat → Int) : Nat → Int
  | 0 => 0
  | k + 1 => eC b f k * b + f k
theorem eC_0 (b : Int) (f : Nat → Int) : eC b f 0 = 0 := rfl
theorem eC_s (b : Int) (f : Nat → Int) (k : Nat) : eC b f (k + 1) = eC b f k * b + f k := rfl
def dgs (f : Nat → Int) (k : Nat) : Prop := ∀ i, i < k → 1 ≤ f i ∧ f i ≤ 26
theorem dgs.dn {f : Nat → Int} {k : Nat} (h : dgs f (k + 1)) : dgs f k := fun i hi => h i (by omega)
theorem eC_congr {b : Int} {f g : Nat → Int} : ∀ {k : Nat}, (∀ i, i < k → f i = g i) → eC b f k = eC b g k
  | 0, _ => rfl
  | k + 1, h => by rw [eC_s, eC_s, eC_congr (fun i hi => h i (by omega)), h k (by omega)]
theorem eC_pos {b : Int} (hb : b = 27 ∨ b = 32) {f : Nat → Int} : ∀ {k : Nat}, dgs f k → 0 ≤ eC b f k
  | 0, _ => Int.le_refl 0
  | k + 1, h => by
    have h1 := eC_pos hb h.dn
    have h2 := h k (by omega)
    rw [eC_s]
    rcases hb with rfl | rfl <;> omega
theorem eC_inj {b : Int} (hb : b = 27 ∨ b = 32) {f g : Nat → Int} : ∀ {k k' : Nat}, dgs f k → dgs g k' → eC b f k = eC b g k' → k = k' ∧ ∀ i, i < k → f i = g i
  | 0, 0, _, _, _ => ⟨rfl, fun i hi => by omega⟩
  | 0, k' + 1, _, h2, e => by
    have h3 := eC_pos hb h2.dn
    have h4 := h2 k' (by omega)
    rw [eC_s, eC_0] at e
    rcases hb with rfl | rfl <;> omega
  | k + 1, 0, h2, _, e => by
    have h3 := eC_pos hb h2.dn
    have h4 := h2 k (by omega)
    rw [eC_s, eC_0] at e
    rcases hb with rfl | rfl <;> omega
  | k + 1, k' + 1, h1, h2, e => by
    have p1 := eC_pos hb h1.dn
    have p2 := eC_pos hb h2.dn
    have d1 := h1 k (by omega)
    have d2 := h2 k' (by omega)
    rw [eC_s, eC_s] at e
    have e1 : f k = g k' := by rcases hb with rfl | rfl <;> omega
    have e2 : eC b f k = eC b g k' := by rcases hb with rfl | rfl <;> omega
    obtain ⟨q1, q2⟩ := eC_inj hb h1.dn h2.dn e2
    subst q1
    refine ⟨rfl, fun i hi => ?_⟩
    by_cases q : i = k
    · subst q; exact e1
    · exact q2 i (by omega)
theorem eC_eq {b : Int} (hb : b = 27 ∨ b = 32) {f g : Nat → Int} {k k' : Nat} (h1 : dgs f k) (h2 : dgs g k') : eC b f k = eC b g k' ↔ (k = k' ∧ ∀ i, i < k → f i = g i) :=
  ⟨eC_inj hb h1 h2, fun h => by obtain ⟨q, r⟩ := h; subst q; exact eC_congr r⟩
theorem eC_iff {f g : Nat → Int} {k k' : Nat} (h1 : dgs f k) (h2 : dgs g k') : eC 27 f k = eC 27 g k' ↔ eC 32 f k = eC 32 g k' := (eC_eq (Or.inl rfl) h1 h2).trans (eC_eq (Or.inr rfl) h1 h2).symm
def p32 : Nat → Int
  | 0 => 1
  | k + 1 => p32 k * 32
theorem eC_lt {b : Int} (hb : b = 27 ∨ b = 32) {f : Nat → Int} : ∀ {k : Nat}, dgs f k → eC b f k < p32 k
  | 0, _ => by show (0 : Int) < 1; decide
  | k + 1, h => by
    have h1 := eC_lt hb h.dn
    have h2 := h k (by omega)
    have h3 := eC_pos hb h.dn
    rw [eC_s]
    show _ < p32 k * 32
    rcases hb with rfl | rfl <;> omega
theorem p32_le : ∀ k, k ≤ 8 → p32 k ≤ 1099511627776 := by decide
theorem eC_lt8 {b : Int} (hb : b = 27 ∨ b = 32) {f : Nat → Int} {k : Nat} (h : dgs f k) (hk : k ≤ 8) : eC b f k < 1099511627776 := by
  have h1 := eC_lt hb h
  have h2 := p32_le k hk
  omega
theorem l_27 {x : Int64} {y : Int32} (h0 : 0 ≤ x.toInt) (h1 : x.toInt < 1099511627776) (y0 : 97 ≤ y.toInt) (y1 : y.toInt ≤ 122) : (x * (27 : Int64) + Int32.toInt64 ((y - (97 : Int32)) + (1 : Int32))).toInt = x.toInt * 27 + (y.toInt - 96) := by
  have o97 : (97 : Int32).toInt = 97 := by decide
  have o1 : (1 : Int32).toInt = 1 := by decide
  have o27 : (27 : Int64).toInt = 27 := by decide
  have e1 : (y - (97 : Int32)).toInt = y.toInt - 97 := by rw [z_sub (by omega) (by omega), o97]
  have e2 : ((y - (97 : Int32)) + (1 : Int32)).toInt = y.toInt - 96 := by rw [z_add (by omega) (by omega), e1, o1]; omega
  rw [Int64.toInt_add, Int64.toInt_mul, Int32.toInt_toInt64, e2, o27, Int.bmod_def, Int.bmod_def]
  omega
theorem l_32 {x : Int64} {y : Int32} (h0 : 0 ≤ x.toInt) (h1 : x.toInt < 1099511627776) (y0 : 97 ≤ y.toInt) (y1 : y.toInt ≤ 122) : ((x <<< (Int32.toInt64 (5 : Int32) &&& 63)) ||| ((Int32.toInt64 y) - (96 : Int64))).toInt = x.toInt * 32 + (y.toInt - 96) := by
  have o96 : (96 : Int64).toInt = 96 := by decide
  have ed : ((Int32.toInt64 y) - (96 : Int64)).toInt = y.toInt - 96 := by
    rw [Int64.toInt_sub, Int32.toInt_toInt64, o96, Int.bmod_def]
    omega
  generalize ((Int32.toInt64 y) - (96 : Int64)) = d at ed
  have hs : (Int32.toInt64 (5 : Int32) &&& 63).toBitVec.smod 64 = 5#64 := by decide
  have hx : (x.toBitVec.toNat : Int) = x.toInt := by
    have := x.toBitVec.toInt_eq_toNat_cond
    rw [show x.toBitVec.toInt = x.toInt from rfl] at this
    have := x.toBitVec.isLt
    split at * <;> omega
  have hd : (d.toBitVec.toNat : Int) = d.toInt := by
    have := d.toBitVec.toInt_eq_toNat_cond
    rw [show d.toBitVec.toInt = d.toInt from rfl] at this
    have := d.toBitVec.isLt
    split at * <;> omega
  have hn : ((x <<< (Int32.toInt64 (5 : Int32) &&& 63)) ||| d).toBitVec.toNat = x.toBitVec.toNat * 32 + d.toBitVec.toNat := by
    rw [Int64.toBitVec_or, Int64.toBitVec_shiftLeft, hs, BitVec.toNat_or, BitVec.shiftLeft_eq', BitVec.toNat_shiftLeft, show (5#64).toNat = 5 by decide, Nat.mod_eq_of_lt (by rw [Nat.shiftLeft_eq]; omega), ← Nat.shiftLeft_add_eq_or_of_lt (by omega : d.toBitVec.toNat < 2 ^ 5), Nat.shiftLeft_eq]
  show ((x <<< (Int32.toInt64 (5 : Int32) &&& 63)) ||| d).toBitVec.toInt = _
  rw [BitVec.toInt_eq_toNat_cond, hn]
  split <;> omega
/-! TOKENS: what the two readers make of the same text -/
theorem zB_s {α β : Type} {o : Option α} {e : α} {f : α → Option β} (h : o = some e) : zB o f = f e := by rw [h]; rfl
def isB (v : Int32) : Bool := decide (v = 10) || decide (v = 32)
def isL (v : Int32) : Bool := decide (97 ≤ v.toInt) && decide (v.toInt ≤ 122)
def isD (v : Int32) : Bool := decide (48 ≤ v.toInt) && decide (v.toInt ≤ 57)
theorem isB_iff {v : Int32} : isB v = true ↔ v = 10 ∨ v = 32 := by unfold isB; rw [Bool.or_eq_true, decide_eq_true_eq, decide_eq_true_eq]
theorem isL_iff {v : Int32} : isL v = true ↔ 97 ≤ v.toInt ∧ v.toInt ≤ 122 := by unfold isL; rw [Bool.and_eq_true, decide_eq_true_eq, decide_eq_true_eq]
theorem isD_iff {v : Int32} : isD v = true ↔ 48 ≤ v.toInt ∧ v.toInt ≤ 57 := by unfold isD; rw [Bool.and_eq_true, decide_eq_true_eq, decide_eq_true_eq]
theorem l_bl {v : Int32} : D_X3_isBlank v = some (if isB v then 1 else 0) := by
  unfold D_X3_isBlank D_X3_isBlank_12 D_X3_isBlank_17
  by_cases h : v = 10
  · rw [if_pos h, if_pos (isB_iff.mpr (Or.inl h))]
  · rw [if_neg h]
    by_cases h2 : v = 32
    · rw [if_pos h2, if_pos (isB_iff.mpr (Or.inr h2))]
    · rw [if_neg h2, if_neg (fun q => (isB_iff.mp q).elim h h2)]
theorem l_ran {v lo hi : Int32} {a b : Int} (ha : lo.toInt = a) (hb : hi.toInt = b) : (if v < lo then some (0 : Int32) else if hi < v then some (0 : Int32) else some (1 : Int32)) = some (if decide (a ≤ v.toInt) && decide (v.toInt ≤ b) then 1 else 0) := by
  by_cases h : v < lo
  · have := Int32.lt_iff_toInt_lt.mp h
    rw [if_pos h, if_neg (by rw [Bool.and_eq_true, decide_eq_true_eq, decide_eq_true_eq]; omega)]
  · have h1 := Int32.le_iff_toInt_le.mp (Int32.not_lt.mp h)
    rw [if_neg h]
    by_cases h2 : hi < v
    · have := Int32.lt_iff_toInt_lt.mp h2
      rw [if_pos h2, if_neg (by rw [Bool.and_eq_true, decide_eq_true_eq, decide_eq_true_eq]; omega)]
    · have h3 := Int32.le_iff_toInt_le.mp (Int32.not_lt.mp h2)
      rw [if_neg h2, if_pos (by rw [Bool.and_eq_true, decide_eq_true_eq, decide_eq_true_eq]; omega)]
theorem l_let3 {v : Int32} : D_X3_isLetter v = some (if isL v then 1 else 0) := l_ran (by decide) (by decide)
theorem l_dig3 {v : Int32} : D_X3_isDigit v = some (if isD v then 1 else 0) := l_ran (by decide) (by decide)
theorem l_let8 {v : Int32} : D_X8_isLetter v = some (if isL v then 1 else 0) := l_ran (by decide) (by decide)
theorem l_dig8 {v : Int32} : D_X8_isDigit v = some (if isD v then 1 else 0) := l_ran (by decide) (by decide)
theorem if01 {c : Bool} : ((if c then (1 : Int32) else 0) = 0) ↔ c = false := by cases c <;> decide
/-- how far a run goes -/
def rn' (p : Int32 → Bool) (t : Nat → Int32) (n : Nat) : Nat → Nat → Nat
  | 0, x => x
  | u + 1, x => if x < n ∧ p (t x) = true then rn' p t n u (x + 1) else x
def rn (p : Int32 → Bool) (t : Nat → Int32) (n x : Nat) : Nat := rn' p t n (n - x) x
theorem rn_go {p : Int32 → Bool} {t : Nat → Int32} {n x : Nat} (h : x < n) (hp : p (t x) = true) : rn p t n x = rn p t n (x + 1) := by
  unfold rn
  rw [show n - x = (n - (x + 1)) + 1 by omega]
  show (if _ then _ else _) = _
  rw [if_pos ⟨h, hp⟩]
theorem rn_stop {p : Int32 → Bool} {t : Nat → Int32} {n x : Nat} (h : ¬ (x < n ∧ p (t x) = true)) : rn p t n x = x := by
  unfold rn
  cases n - x with
  | zero => rfl
  | succ u =>
    show (if _ then _ else _) = _
    rw [if_neg h]
theorem rn_spec {p : Int32 → Bool} {t : Nat → Int32} {n : Nat} : ∀ (d x : Nat), n - x ≤ d → x ≤ n → x ≤ rn p t n x ∧ rn p t n x ≤ n ∧ (∀ i, x ≤ i → i < rn p t n x → p (t i) = true) ∧ (rn p t n x < n → p (t (rn p t n x)) = false) := by
  intro d
  induction d with
  | zero =>
    intro x h hx
    rw [rn_stop (by omega)]
    exact ⟨Nat.le_refl x, hx, fun i h1 h2 => by omega, fun q => by omega⟩
  | succ d ih =>
    intro x h hx
    by_cases q : x < n ∧ p (t x) = true
    · obtain ⟨h1, h2, h3, h4⟩ := ih (x + 1) (by omega) (by omega)
      rw [rn_go q.1 q.2]
      refine ⟨by omega, h2, fun i h5 h6 => ?_, h4⟩
      by_cases z : i = x
      · subst z; exact q.2
      · exact h3 i (by omega) h6
    · rw [rn_stop q]
      refine ⟨Nat.le_refl x, hx, fun i h1 h2 => by omega, fun h5 => ?_⟩
      cases hp : p (t x) with
      | false => rfl
      | true => exact absurd ⟨h5, hp⟩ q
/-- the text, in the class's row and in the reference's -/
def tx (Q n : Nat) (t : Nat → Int32) (A : zMt) : Prop := n ≤ 700 ∧ A Q 4 = nI n ∧ ∀ k, k < n → A (Q + 9) k = t k
def ty (P n : Nat) (t : Nat → Int32) (B : zMt) : Prop := n ≤ 700 ∧ B P 15 = nI n ∧ ∀ k, k < n → B (P + 7) k = t k ∧ 0 ≤ (t k).toInt
theorem tx.mono {Q n : Nat} {t : Nat → Int32} {A A' : zMt} (h : tx Q n t A) (hf : ∀ a j, (a = Q ∧ j = 4) ∨ a = Q + 9 → A' a j = A a j) : tx Q n t A' := ⟨h.1, by rw [hf Q 4 (by omega)]; exact h.2.1, fun k hk => by rw [hf (Q + 9) k (by omega)]; exact h.2.2 k hk⟩
theorem ty.mono {P n : Nat} {t : Nat → Int32} {B B' : zMt} (h : ty P n t B) (hf : ∀ a j, (a = P ∧ j = 15) ∨ a = P + 7 → B' a j = B a j) : ty P n t B' := ⟨h.1, by rw [hf P 15 (by omega)]; exact h.2.1, fun k hk => by rw [hf (P + 7) k (by omega)]; exact h.2.2 k hk⟩
theorem leL {a k : Nat} {x : Int32} (hx : x = nI a) (ha : a < 2147483648) (hk : k < 2147483648) : x ≤ nI k ↔ a ≤ k := by rw [hx]; exact nI_leI (by omega) (by omega)
theorem leR {b k : Nat} {x : Int32} (hx : x = nI b) (hb : b < 2147483648) (hk : k < 2147483648) : nI k ≤ x ↔ k ≤ b := by rw [hx]; exact nI_leI (by omega) (by omega)
theorem ltL {a k : Nat} {x : Int32} (hx : x = nI a) (ha : a < 2147483648) (hk : k < 2147483648) : x < nI k ↔ a < k := by rw [hx]; exact nI_ltI (by omega) (by omega)
theorem ltR {b k : Nat} {x : Int32} (hx : x = nI b) (hb : b < 2147483648) (hk : k < 2147483648) : nI k < x ↔ k < b := by rw [hx]; exact nI_ltI (by omega) (by omega)
theorem nI_add1 {k : Nat} : nI k + 1 = nI (k + 1) := nI_1 k
/-! the class's step -/
theorem c_blank {Q n : Nat} {t : Nat → Int32} {N : zNt} : ∀ (u x : Nat) (A : zMt), tx Q n t A → A Q 5 = nI x → x ≤ n → n - x < u → ∃ A', D_X3_step_0 Q u A N = D_X3_step_41 Q A' N ∧ A' Q 5 = nI (rn isB t n x) ∧ (∀ a j, ¬ (a = Q ∧ j = 5) → A' a j = A a j) := by
  intro u
  induction u with
  | zero => intro x A _ _ _ h; omega
  | succ u ih =>
    intro x A hT h5 hx hu
    obtain ⟨hn, h4, ht⟩ := id hT
    rw [D_X3_step_0, h4, h5]
    by_cases hc : n ≤ x
    · rw [if_pos ((nI_leI (by omega) (by omega)).mpr hc)]
      exact ⟨A, rfl, by rw [rn_stop (by omega)]; exact h5, fun _ _ _ => rfl⟩
    · rw [if_neg (fun q => hc ((nI_leI (by omega) (by omega)).mp q)), zrd_nI (by omega) (by decide), ht x (by omega), zB_s l_bl]
      by_cases hb : isB (t x) = true
      · rw [if_neg (by rw [if01, hb]; decide)]
        show ∃ A', D_X3_step_0 Q u (zu A Q 5 (nI x + 1)) N = _ ∧ _
        rw [nI_add1]
        have k1 : ∀ a j, ¬ (a = Q ∧ j = 5) → zu A Q 5 (nI (x + 1)) a j = A a j := fun a j h => zu_ne h
        obtain ⟨A', e1, e2, e3⟩ := ih (x + 1) (zu A Q 5 (nI (x + 1))) (hT.mono (fun a j h => k1 a j (by omega))) zu_eq (by omega) (by omega)
        exact ⟨A', e1, by rw [rn_go (by omega) hb]; exact e2, fun a j h => (e3 a j h).trans (k1 a j h)⟩
      · have hb : isB (t x) = false := by cases h : isB (t x) with
          | false => rfl
          | true => exact absurd h hb
        rw [if_pos (by rw [if01]; exact hb)]
        exact ⟨A, rfl, by rw [rn_stop (by rw [hb]; rintro ⟨_, q⟩; cases q)]; exact h5, fun _ _ _ => rfl⟩
def wv (t : Nat → Int32) (s : Nat) : Nat → Int64
  | 0 => 0
  | k + 1 => (wv t s k * (27 : Int64)) + (Int32.toInt64 ((t (s + k) - (97 : Int32)) + (1 : Int32)))
theorem c_word {Q n s : Nat} {t : Nat → Int32} : ∀ (u k : Nat) (A : zMt) (N : zNt), tx Q n t A → A Q 5 = nI (s + k) → s + k ≤ n → N Q 8 = wv t s k → n - (s + k) < u → ∃ A' N', D_X3_stepWord_5 Q u A N = D_X3_stepWord_76 Q A' N' ∧ A' Q 5 = nI (rn isL t n (s + k)) ∧ N' Q 8 = wv t s (rn isL t n (s + k) - s) ∧ (∀ a j, ¬ (a = Q ∧ j = 5) → A' a j = A a j) ∧ (∀ a j, ¬ (a = Q ∧ j = 8) → N' a j = N a j) := by
  intro u
  induction u with
  | zero => intro k A N _ _ _ _ h; omega
  | succ u ih =>
    intro k A N hT h5 hx h8 hu
    obtain ⟨hn, h4, ht⟩ := id hT
    have fin : rn isL t n (s + k) = s + k → ∃ A' N', D_X3_stepWord_76 Q A N = D_X3_stepWord_76 Q A' N' ∧ A' Q 5 = nI (rn isL t n (s + k)) ∧ N' Q 8 = wv t s (rn isL t n (s + k) - s) ∧ (∀ a j, ¬ (a = Q ∧ j = 5) → A' a j = A a j) ∧ (∀ a j, ¬ (a = Q ∧ j = 8) → N' a j = N a j) := fun e => ⟨A, N, rfl, by rw [e]; exact h5, by rw [e, Nat.add_sub_cancel_left]; exact h8, fun _ _ _ => rfl, fun _ _ _ => rfl⟩
    rw [D_X3_stepWord_5, h4, h5]
    by_cases hc : n ≤ s + k
    · rw [if_pos ((nI_leI (by omega) (by omega)).mpr hc)]
      exact fin (rn_stop (by omega))
    · rw [if_neg (fun q => hc ((nI_leI (by omega) (by omega)).mp q)), zrd_nI (by omega) (by decide), ht (s + k) (by omega), zB_s l_let3]
      by_cases hb : isL (t (s + k)) = true
      · rw [if_neg (by rw [if01, hb]; decide)]
        show ∃ A' N', D_X3_stepWord_5 Q u (zu A Q 5 (nI (s + k) + 1)) (zu N Q 8 (((N Q 8) * (27 : Int64)) + (Int32.toInt64 ((t (s + k) - (97 : Int32)) + (1 : Int32))))) = _ ∧ _
        rw [nI_add1, h8]
        have k1 : ∀ a j, ¬ (a = Q ∧ j = 5) → zu A Q 5 (nI (s + k + 1)) a j = A a j := fun a j h => zu_ne h
        obtain ⟨A', N', e1, e2, e3, e4, e5⟩ := ih (k + 1) (zu A Q 5 (nI (s + k + 1))) (zu N Q 8 (wv t s (k + 1))) (hT.mono (fun a j h => k1 a j (by omega))) zu_eq (by omega) zu_eq (by omega)
        rw [rn_go (by omega) hb]
        exact ⟨A', N', e1, e2, e3, fun a j h => (e4 a j h).trans (k1 a j h), fun a j h => (e5 a j h).trans (zu_ne h)⟩
      · have hb : isL (t (s + k)) = false := by cases h : isL (t (s + k)) with
          | false => rfl
          | true => exact absurd h hb
        rw [if_pos (by rw [if01]; exact hb)]
        exact fin (rn_stop (by rw [hb]; rintro ⟨_, q⟩; cases q))
def nv (t : Nat → Int32) (s : Nat) : Nat → Int32
  | 0 => 0
  | k + 1 => (nv t s k * (10 : Int32)) + (t (s + k) - (48 : Int32))
theorem c_num {Q n s : Nat} {t : Nat → Int32} : ∀ (u k : Nat) (A : zMt), tx Q n t A → A Q 5 = nI (s + k) → s + k ≤ n → A Q 9 = nv t s k → n - (s + k) < u → ∃ A', D_X3_stepNumber_5 Q u A = D_X3_stepNumber_72 Q A' ∧ A' Q 5 = nI (rn isD t n (s + k)) ∧ A' Q 9 = nv t s (rn isD t n (s + k) - s) ∧ (∀ a j, ¬ (a = Q ∧ (j = 5 ∨ j = 9)) → A' a j = A a j) := by
  intro u
  induction u with
  | zero => intro k A _ _ _ _ h; omega
  | succ u ih =>
    intro k A hT h5 hx h9 hu
    obtain ⟨hn, h4, ht⟩ := id hT
    have fin : rn isD t n (s + k) = s + k → ∃ A', D_X3_stepNumber_72 Q A = D_X3_stepNumber_72 Q A' ∧ A' Q 5 = nI (rn isD t n (s + k)) ∧ A' Q 9 = nv t s (rn isD t n (s + k) - s) ∧ (∀ a j, ¬ (a = Q ∧ (j = 5 ∨ j = 9)) → A' a j = A a j) := fun e => ⟨A, rfl, by rw [e]; exact h5, by rw [e, Nat.add_sub_cancel_left]; exact h9, fun _ _ _ => rfl⟩
    rw [D_X3_stepNumber_5, h4, h5]
    by_cases hc : n ≤ s + k
    · rw [if_pos ((nI_leI (by omega) (by omega)).mpr hc)]
      exact fin (rn_stop (by omega))
    · rw [if_neg (fun q => hc ((nI_leI (by omega) (by omega)).mp q)), zrd_nI (by omega) (by decide), ht (s + k) (by omega), zB_s l_dig3]
      by_cases hb : isD (t (s + k)) = true
      · rw [if_neg (by rw [if01, hb]; decide)]
        have e5 : ∀ v : Int32, zu A Q 9 v Q 5 = nI (s + k) := fun v => (zu_ne (by omega)).trans h5
        show ∃ A', D_X3_stepNumber_5 Q u (zu (zu A Q 9 (((A Q 9) * (10 : Int32)) + (t (s + k) - (48 : Int32)))) Q 5 (zu A Q 9 (((A Q 9) * (10 : Int32)) + (t (s + k) - (48 : Int32))) Q 5 + 1)) = _ ∧ _
        rw [e5, nI_add1, h9]
        have k1 : ∀ a j, ¬ (a = Q ∧ (j = 5 ∨ j = 9)) → zu (zu A Q 9 (nv t s (k + 1))) Q 5 (nI (s + k + 1)) a j = A a j := fun a j h => (zu_ne (by omega)).trans (zu_ne (by omega))
        obtain ⟨A', e1, e2, e3, e4⟩ := ih (k + 1) (zu (zu A Q 9 (nv t s (k + 1))) Q 5 (nI (s + k + 1))) (hT.mono (fun a j h => k1 a j (by omega))) zu_eq (by omega) ((zu_ne (by omega)).trans zu_eq) (by omega)
        rw [rn_go (by omega) hb]
        exact ⟨A', e1, e2, e3, fun a j h => (e4 a j h).trans (k1 a j h)⟩
      · have hb : isD (t (s + k)) = false := by cases h : isD (t (s + k)) with
          | false => rfl
          | true => exact absurd h hb
        rw [if_pos (by rw [if01]; exact hb)]
        exact fin (rn_stop (by rw [hb]; rintro ⟨_, q⟩; cases q))
/-! the reference's step -/
theorem m_byte {P n x : Nat} {t : Nat → Int32} {B : zMt} (hT : ty P n t B) (hx : x < n) : D_X8_byteAt P B (nI x) = some (t x) := by
  obtain ⟨hn, h15, ht⟩ := hT
  unfold D_X8_byteAt
  rw [h15, if_neg (fun q => absurd ((nI_leI (by omega) (by omega)).mp q) (by omega))]
  unfold zI
  rw [if_neg (vp_in_nI (by omega) (by decide)), nI_clamp (by omega), (ht x hx).1]
  rfl
theorem m_byte0 {P n x : Nat} {t : Nat → Int32} {B : zMt} (hT : ty P n t B) (hx : n ≤ x) (hx2 : x ≤ 700) : D_X8_byteAt P B (nI x) = some (-1) := by
  obtain ⟨hn, h15, ht⟩ := hT
  unfold D_X8_byteAt
  rw [h15, if_pos ((nI_leI (by omega) (by omega)).mpr hx)]
  rfl
noncomputable def m_at0 (P : Nat) (M_0 : zMt) (N_0 : zNt) : Option (Int32 × zMt × zNt) :=
  zLt (zu M_0 P 16 (M_0 P 17)) fun M_44 =>
  zLt (zu M_44 P 19 (-1 : Int32)) fun M_49 =>
  zB (D_X8_byteAt P M_49 (M_49 P 17)) fun e_57 =>
  if e_57 = (-1 : Int32) then
    zLt (zu M_49 P 18 (0 : Int32)) fun M_68 =>
    D_X8_next_320 P M_68 N_0
  else
    zB (D_X8_isLetter e_57) fun e_75 =>
    if e_75 = 0 then
      zB (D_X8_isDigit e_57) fun e_196 =>
      if e_196 = 0 then
        zLt (zu M_49 P 17 ((M_49 P 17) + (1 : Int32))) fun M_302 =>
        if e_57 = (59 : Int32) then
          D_X8_next_317 P (4 : Int32) M_302 N_0
        else
          D_X8_next_317 P (1 : Int32) M_302 N_0
      else
        zLt (zu M_49 P 20 (0 : Int32)) fun M_204 =>
        D_X8_next_207 P zFu M_204 N_0
    else
      zLt (zu N_0 P 24 (0 : Int64)) fun N_83 =>
      D_X8_next_86 P zFu M_49 N_83
theorem m_next0 {P : Nat} {u : Nat} {M : zMt} {N : zNt} : D_X8_next_0 P (u + 1) M N = zB (D_X8_byteAt P M (M P 17)) fun e_5 =>
    if e_5 = (32 : Int32) then
      D_X8_next_26 P (D_X8_next_0 P u) M N
    else
      zB (D_X8_byteAt P M (M P 17)) fun e_18 =>
      if e_18 = (10 : Int32) then
        D_X8_next_26 P (D_X8_next_0 P u) M N
      else m_at0 P M N := rfl
theorem m_blank {P n : Nat} {t : Nat → Int32} {N : zNt} : ∀ (u x : Nat) (B : zMt), ty P n t B → B P 17 = nI x → x ≤ n → n - x < u → ∃ B', D_X8_next_0 P u B N = m_at0 P B' N ∧ B' P 17 = nI (rn isB t n x) ∧ (∀ a j, ¬ (a = P ∧ j = 17) → B' a j = B a j) := by
  intro u
  induction u with
  | zero => intro x B _ _ _ h; omega
  | succ u ih =>
    intro x B hT h17 hx hu
    obtain ⟨hn, h15, ht⟩ := id hT
    rw [m_next0, h17]
    by_cases hc : n ≤ x
    · rw [zB_s (m_byte0 hT hc (by omega)), if_neg (by decide), zB_s (m_byte0 hT hc (by omega)), if_neg (by decide)]
      exact ⟨B, rfl, by rw [rn_stop (by omega)]; exact h17, fun _ _ _ => rfl⟩
    · have hlt : x < n := by omega
      have go : isB (t x) = true → ∃ B', D_X8_next_26 P (D_X8_next_0 P u) B N = m_at0 P B' N ∧ B' P 17 = nI (rn isB t n x) ∧ (∀ a j, ¬ (a = P ∧ j = 17) → B' a j = B a j) := fun hb => by
        show ∃ B', D_X8_next_0 P u (zu B P 17 (B P 17 + 1)) N = _ ∧ _
        rw [h17, nI_add1]
        have k1 : ∀ a j, ¬ (a = P ∧ j = 17) → zu B P 17 (nI (x + 1)) a j = B a j := fun a j h => zu_ne h
        obtain ⟨B', e1, e2, e3⟩ := ih (x + 1) (zu B P 17 (nI (x + 1))) (hT.mono (fun a j h => k1 a j (by omega))) zu_eq (by omega) (by omega)
        rw [rn_go hlt hb]
        exact ⟨B', e1, e2, fun a j h => (e3 a j h).trans (k1 a j h)⟩
      rw [zB_s (m_byte hT hlt)]
      by_cases h32 : t x = 32
      · rw [if_pos h32]
        exact go (isB_iff.mpr (Or.inr h32))
      · rw [if_neg h32, zB_s (m_byte hT hlt)]
        by_cases h10 : t x = 10
        · rw [if_pos h10]
          exact go (isB_iff.mpr (Or.inl h10))
        · rw [if_neg h10]
          exact ⟨B, rfl, by rw [rn_stop (fun q => (isB_iff.mp q.2).elim h10 h32)]; exact h17, fun _ _ _ => rfl⟩
def xv (t : Nat → Int32) (s : Nat) : Nat → Int64
  | 0 => 0
  | k + 1 => if k < 8 then ((xv t s k <<< (Int32.toInt64 (5 : Int32) &&& 63)) ||| ((Int32.toInt64 (t (s + k))) - (96 : Int64))) else xv t s k
noncomputable def m_w86 (P : Nat) (M_86 : zMt) (N_86 : zNt) : Option (Int32 × zMt × zNt) :=
  if ((M_86 P 17) - (M_86 P 16)) ≤ (8 : Int32) then D_X8_next_171 P (2 : Int32) M_86 N_86 else D_X8_next_171 P (1 : Int32) M_86 N_86
theorem m_next86 {P u : Nat} {M : zMt} {N : zNt} : D_X8_next_86 P (u + 1) M N = zB (D_X8_byteAt P M (M P 17)) fun e_91 =>
    zB (D_X8_isLetter e_91) fun e_94 =>
    if e_94 = 0 then m_w86 P M N
    else
      if (8 : Int32) ≤ ((M P 17) - (M P 16)) then
        D_X8_next_138 P (D_X8_next_86 P u) M N
      else
        zB (D_X8_byteAt P M (M P 17)) fun e_126 =>
        zLt (zu N P 24 (((N P 24) <<< (Int32.toInt64 (5 : Int32) &&& 63)) ||| ((Int32.toInt64 e_126) - (96 : Int64)))) fun N_135 =>
        D_X8_next_138 P (D_X8_next_86 P u) M N_135 := rfl
theorem nI_subk {s k : Nat} (h : s + k ≤ 700) : nI (s + k) - nI s = nI k := by
  apply Int32.toInt_inj.mp
  have e1 : (nI (s + k)).toInt = (s + k : Nat) := nI_toInt (by omega)
  have e2 : (nI s).toInt = (s : Nat) := nI_toInt (by omega)
  have e3 : (nI k).toInt = (k : Nat) := nI_toInt (by omega)
  rw [z_sub (by rw [e1, e2]; omega) (by rw [e1, e2]; omega), e1, e2, e3]
  omega
theorem notL : isL (-1) = false := by decide
theorem notD : isD (-1) = false := by decide
theorem m_word {P n s : Nat} {t : Nat → Int32} : ∀ (u k : Nat) (B : zMt) (N : zNt), ty P n t B → B P 17 = nI (s + k) → B P 16 = nI s → s + k ≤ n → N P 24 = xv t s k → n - (s + k) < u → ∃ B' N', D_X8_next_86 P u B N = m_w86 P B' N' ∧ B' P 17 = nI (rn isL t n (s + k)) ∧ N' P 24 = xv t s (rn isL t n (s + k) - s) ∧ (∀ a j, ¬ (a = P ∧ j = 17) → B' a j = B a j) ∧ (∀ a j, ¬ (a = P ∧ j = 24) → N' a j = N a j) := by
  intro u
  induction u with
  | zero => intro k B N _ _ _ _ _ h; omega
  | succ u ih =>
    intro k B N hT h17 h16 hx h24 hu
    obtain ⟨hn, h15, ht⟩ := id hT
    have fin : rn isL t n (s + k) = s + k → ∃ B' N', m_w86 P B N = m_w86 P B' N' ∧ B' P 17 = nI (rn isL t n (s + k)) ∧ N' P 24 = xv t s (rn isL t n (s + k) - s) ∧ (∀ a j, ¬ (a = P ∧ j = 17) → B' a j = B a j) ∧ (∀ a j, ¬ (a = P ∧ j = 24) → N' a j = N a j) := fun e => ⟨B, N, rfl, by rw [e]; exact h17, by rw [e, Nat.add_sub_cancel_left]; exact h24, fun _ _ _ => rfl, fun _ _ _ => rfl⟩
    rw [m_next86, h17]
    by_cases hc : n ≤ s + k
    · rw [zB_s (m_byte0 hT hc (by omega)), zB_s l_let8, notL, if_pos (by decide)]
      exact fin (rn_stop (by omega))
    · have hlt : s + k < n := by omega
      rw [zB_s (m_byte hT hlt), zB_s l_let8]
      by_cases hb : isL (t (s + k)) = true
      · rw [if_neg (by rw [if01, hb]; decide), h16, nI_subk (by omega), rn_go hlt hb]
        by_cases h8 : k < 8
        · rw [if_neg (by intro q; exact absurd ((leL (x := 8) (a := 8) (by decide) (by decide) (by omega)).mp q) (by omega)), zB_s (m_byte hT hlt), h24]
          show ∃ B' N', D_X8_next_86 P u (zu B P 17 (B P 17 + 1)) (zu N P 24 ((xv t s k <<< (Int32.toInt64 (5 : Int32) &&& 63)) ||| ((Int32.toInt64 (t (s + k))) - (96 : Int64)))) = _ ∧ _
          have ex : xv t s (k + 1) = ((xv t s k <<< (Int32.toInt64 (5 : Int32) &&& 63)) ||| ((Int32.toInt64 (t (s + k))) - (96 : Int64))) := if_pos h8
          rw [h17, nI_add1, ← ex]
          have k1 : ∀ a j, ¬ (a = P ∧ j = 17) → zu B P 17 (nI (s + k + 1)) a j = B a j := fun a j h => zu_ne h
          obtain ⟨B', N', e1, e2, e3, e4, e5⟩ := ih (k + 1) (zu B P 17 (nI (s + k + 1))) (zu N P 24 (xv t s (k + 1))) (hT.mono (fun a j h => k1 a j (by omega))) zu_eq ((k1 P 16 (by omega)).trans h16) (by omega) zu_eq (by omega)
          exact ⟨B', N', e1, e2, e3, fun a j h => (e4 a j h).trans (k1 a j h), fun a j h => (e5 a j h).trans (zu_ne h)⟩
        · rw [if_pos (by exact (leL (x := 8) (a := 8) (by decide) (by decide) (by omega)).mpr (by omega))]
          show ∃ B' N', D_X8_next_86 P u (zu B P 17 (B P 17 + 1)) N = _ ∧ _
          have ex : xv t s (k + 1) = xv t s k := if_neg h8
          rw [h17, nI_add1]
          have k1 : ∀ a j, ¬ (a = P ∧ j = 17) → zu B P 17 (nI (s + k + 1)) a j = B a j := fun a j h => zu_ne h
          obtain ⟨B', N', e1, e2, e3, e4, e5⟩ := ih (k + 1) (zu B P 17 (nI (s + k + 1))) N (hT.mono (fun a j h => k1 a j (by omega))) zu_eq ((k1 P 16 (by omega)).trans h16) (by omega) (h24.trans ex.symm) (by omega)
          exact ⟨B', N', e1, e2, e3, fun a j h => (e4 a j h).trans (k1 a j h), e5⟩
      · have hb : isL (t (s + k)) = false := by cases h : isL (t (s + k)) with
          | false => rfl
          | true => exact absurd h hb
        rw [if_pos (by rw [if01]; exact hb)]
        exact fin (rn_stop (by rw [hb]; rintro ⟨_, q⟩; cases q))
def yv (t : Nat → Int32) (s : Nat) : Nat → Int32
  | 0 => 0
  | k + 1 => if k < 3 then (((10 : Int32) * yv t s k) + t (s + k)) - (48 : Int32) else yv t s k
noncomputable def m_w207 (P : Nat) (M : zMt) (N : zNt) : Option (Int32 × zMt × zNt) :=
  if ((M P 17) - (M P 16)) ≤ (3 : Int32) then D_X8_next_289 P (3 : Int32) M N else D_X8_next_289 P (1 : Int32) M N
theorem m_next207 {P u : Nat} {M : zMt} {N : zNt} : D_X8_next_207 P (u + 1) M N = zB (D_X8_byteAt P M (M P 17)) fun e_212 =>
    zB (D_X8_isDigit e_212) fun e_215 =>
    if e_215 = 0 then m_w207 P M N
    else
      if (3 : Int32) ≤ ((M P 17) - (M P 16)) then
        D_X8_next_257 P (D_X8_next_207 P u) M N
      else
        zB (D_X8_byteAt P M (M P 17)) fun e_247 =>
        zLt (zu M P 20 ((((10 : Int32) * (M P 20)) + e_247) - (48 : Int32))) fun M_254 =>
        D_X8_next_257 P (D_X8_next_207 P u) M_254 N := rfl
theorem m_num {P n s : Nat} {t : Nat → Int32} {N : zNt} : ∀ (u k : Nat) (B : zMt), ty P n t B → B P 17 = nI (s + k) → B P 16 = nI s → s + k ≤ n → B P 20 = yv t s k → n - (s + k) < u → ∃ B', D_X8_next_207 P u B N = m_w207 P B' N ∧ B' P 17 = nI (rn isD t n (s + k)) ∧ B' P 20 = yv t s (rn isD t n (s + k) - s) ∧ (∀ a j, ¬ (a = P ∧ (j = 17 ∨ j = 20)) → B' a j = B a j) := by
  intro u
  induction u with
  | zero => intro k B _ _ _ _ _ h; omega
  | succ u ih =>
    intro k B hT h17 h16 hx h20 hu
    obtain ⟨hn, h15, ht⟩ := id hT
    have fin : rn isD t n (s + k) = s + k → ∃ B', m_w207 P B N = m_w207 P B' N ∧ B' P 17 = nI (rn isD t n (s + k)) ∧ B' P 20 = yv t s (rn isD t n (s + k) - s) ∧ (∀ a j, ¬ (a = P ∧ (j = 17 ∨ j = 20)) → B' a j = B a j) := fun e => ⟨B, rfl, by rw [e]; exact h17, by rw [e, Nat.add_sub_cancel_left]; exact h20, fun _ _ _ => rfl⟩
    rw [m_next207, h17]
    by_cases hc : n ≤ s + k
    · rw [zB_s (m_byte0 hT hc (by omega)), zB_s l_dig8, notD, if_pos (by decide)]
      exact fin (rn_stop (by omega))
    · have hlt : s + k < n := by omega
      rw [zB_s (m_byte hT hlt), zB_s l_dig8]
      by_cases hb : isD (t (s + k)) = true
      · rw [if_neg (by rw [if01, hb]; decide), h16, nI_subk (by omega), rn_go hlt hb]
        by_cases h8 : k < 3
        · rw [if_neg (by intro q; exact absurd ((leL (x := 3) (a := 3) (by decide) (by decide) (by omega)).mp q) (by omega)), zB_s (m_byte hT hlt), h20]
          have e17 : ∀ v : Int32, zu B P 20 v P 17 = nI (s + k) := fun v => (zu_ne (by omega)).trans h17
          have ex : yv t s (k + 1) = (((10 : Int32) * yv t s k) + t (s + k)) - (48 : Int32) := if_pos h8
          rw [← ex]
          show ∃ B', D_X8_next_207 P u (zu (zu B P 20 (yv t s (k + 1))) P 17 (zu B P 20 (yv t s (k + 1)) P 17 + 1)) N = _ ∧ _
          rw [e17, nI_add1]
          have k1 : ∀ a j, ¬ (a = P ∧ (j = 17 ∨ j = 20)) → zu (zu B P 20 (yv t s (k + 1))) P 17 (nI (s + k + 1)) a j = B a j := fun a j h => (zu_ne (by omega)).trans (zu_ne (by omega))
          obtain ⟨B', e1, e2, e3, e4⟩ := ih (k + 1) (zu (zu B P 20 (yv t s (k + 1))) P 17 (nI (s + k + 1))) (hT.mono (fun a j h => k1 a j (by omega))) zu_eq ((k1 P 16 (by omega)).trans h16) (by omega) ((zu_ne (by omega)).trans zu_eq) (by omega)
          exact ⟨B', e1, e2, e3, fun a j h => (e4 a j h).trans (k1 a j h)⟩
        · rw [if_pos (by exact (leL (x := 3) (a := 3) (by decide) (by decide) (by omega)).mpr (by omega))]
          show ∃ B', D_X8_next_207 P u (zu B P 17 (B P 17 + 1)) N = _ ∧ _
          have ex : yv t s (k + 1) = yv t s k := if_neg h8
          rw [h17, nI_add1]
          have k1 : ∀ a j, ¬ (a = P ∧ j = 17) → zu B P 17 (nI (s + k + 1)) a j = B a j := fun a j h => zu_ne h
          obtain ⟨B', e1, e2, e3, e4⟩ := ih (k + 1) (zu B P 17 (nI (s + k + 1))) (hT.mono (fun a j h => k1 a j (by omega))) zu_eq ((k1 P 16 (by omega)).trans h16) (by omega) ((k1 P 20 (by omega)).trans (h20.trans ex.symm)) (by omega)
          exact ⟨B', e1, e2, e3, fun a j h => (e4 a j h).trans (k1 a j (by omega))⟩
      · have hb : isD (t (s + k)) = false := by cases h : isD (t (s + k)) with
          | false => rfl
          | true => exact absurd h hb
        rw [if_pos (by rw [if01]; exact hb)]
        exact fin (rn_stop (by rw [hb]; rintro ⟨_, q⟩; cases q))
/-! one step of both readers -/
noncomputable def c_k (Q : Nat) (M_46 : zMt) (N_41 : zNt) : Option (zMt × zNt) :=
  if (M_46 Q 5) < (M_46 Q 4) then
    zB (D_X3_isLetter (zrd 0 (M_46 (Q + 9)) 700 (M_46 Q 5))) fun e_81 =>
    if e_81 = 0 then
      zB (D_X3_isDigit (zrd 0 (M_46 (Q + 9)) 700 (M_46 Q 5))) fun e_95 =>
      if e_95 = 0 then
        if (zrd 0 (M_46 (Q + 9)) 700 (M_46 Q 5)) = (59 : Int32) then
          zLt (zu M_46 Q 6 (3 : Int32)) fun M_116 =>
          zLt (zu M_116 Q 5 ((M_116 Q 5) + (1 : Int32))) fun M_126 =>
          D_X3_step_137 Q M_126 N_41
        else
          zLt (zu M_46 Q 6 (4 : Int32)) fun M_134 =>
          D_X3_step_137 Q M_134 N_41
      else
        zB (D_X3_stepNumber Q M_46) fun e_102 =>
        D_X3_step_137 Q e_102 N_41
    else
      zB (D_X3_stepWord Q M_46 N_41) fun e_88 =>
      D_X3_step_137 Q e_88.1 e_88.2
  else
    zLt (zu M_46 Q 6 (0 : Int32)) fun M_74 =>
    D_X3_step_137 Q M_74 N_41
theorem c_41 {Q : Nat} {A : zMt} {N : zNt} : D_X3_step_41 Q A N = c_k Q (zu A Q 7 (A Q 5)) N := rfl
def c_G (Q n s : Nat) (t : Nat → Int32) (A : zMt) (N : zNt) (a : zMt × zNt) : Prop :=
  (∀ r j, ¬ (r = Q ∧ (j = 5 ∨ j = 6 ∨ j = 7 ∨ j = 9)) → a.1 r j = A r j) ∧ (∀ r j, ¬ (r = Q ∧ j = 8) → a.2 r j = N r j) ∧ a.1 Q 7 = nI s ∧
  (¬ s < n → a.1 Q 6 = 0) ∧
  (s < n → isL (t s) = true → (rn isL t n s - s ≤ 8 → a.1 Q 6 = 1 ∧ a.1 Q 5 = nI (rn isL t n s) ∧ a.2 Q 8 = wv t s (rn isL t n s - s)) ∧ (¬ rn isL t n s - s ≤ 8 → a.1 Q 6 = 4)) ∧
  (s < n → isL (t s) = false → isD (t s) = true → (rn isD t n s - s ≤ 3 → a.1 Q 6 = 2 ∧ a.1 Q 5 = nI (rn isD t n s) ∧ a.1 Q 9 = nv t s (rn isD t n s - s)) ∧ (¬ rn isD t n s - s ≤ 3 → a.1 Q 6 = 4)) ∧
  (s < n → isL (t s) = false → isD (t s) = false → (t s = 59 → a.1 Q 6 = 3 ∧ a.1 Q 5 = nI (s + 1)) ∧ (¬ t s = 59 → a.1 Q 6 = 4)) ∧
  (a.1 Q 9 = A Q 9 ∨ a.1 Q 6 = 2 ∨ a.1 Q 6 = 4)
theorem c_stepk {Q n s : Nat} {t : Nat → Int32} {A : zMt} {N : zNt} (hT : tx Q n t A) (h5 : A Q 5 = nI s) (h7 : A Q 7 = nI s) (hs : s ≤ n) : ∃ a, c_k Q A N = some a ∧ c_G Q n s t A N a := by
  obtain ⟨hn, h4, ht⟩ := id hT
  unfold c_k
  rw [h4, h5]
  by_cases hlt : s < n
  · have hz : zrd 0 (A (Q + 9)) 700 (nI s) = t s := by rw [zrd_nI (by omega) (by decide), ht s hlt]
    rw [if_pos ((nI_ltI (by omega) (by omega)).mpr hlt), hz, zB_s l_let3]
    by_cases hL : isL (t s) = true
    · rw [if_neg (by rw [if01, hL]; decide)]
      have h8 : zu N Q 8 (0 : Int64) Q 8 = wv t s 0 := zu_eq
      obtain ⟨A', N', e1, e2, e3, e4, e5⟩ := c_word (Q := Q) (n := n) (s := s) (t := t) zFu 0 A (zu N Q 8 (0 : Int64)) hT h5 (by omega) h8 (by unfold zFu; omega)
      have e4 : ∀ a j, ¬ (a = Q ∧ j = 5) → A' a j = A a j := e4
      have e0 : D_X3_stepWord Q A N = D_X3_stepWord_76 Q A' N' := e1
      obtain ⟨r1, r2, r3, r4⟩ := rn_spec (p := isL) (t := t) (n := n) (n - s) s (Nat.le_refl _) hs
      have e2 : A' Q 5 = nI (rn isL t n s) := e2
      have e3 : N' Q 8 = wv t s (rn isL t n s - s) := e3
      have e7 : A' Q 7 = nI s := (e4 Q 7 (by omega)).trans h7
      have hsub : A' Q 5 - A' Q 7 = nI (rn isL t n s - s) := by
        rw [e2, e7, show rn isL t n s = s + (rn isL t n s - s) by omega, nI_subk (by omega), Nat.add_sub_cancel_left]
      have e76 : D_X3_stepWord_76 Q A' N' = some (zu A' Q 6 (if rn isL t n s - s ≤ 8 then 1 else 4), N') := by
        unfold D_X3_stepWord_76
        rw [hsub]
        by_cases q : rn isL t n s - s ≤ 8
        · rw [if_neg (by intro z; exact absurd ((ltL (x := 8) (a := 8) (by decide) (by decide) (by omega)).mp z) (by omega)), if_pos q]
          rfl
        · rw [if_pos (by exact (ltL (x := 8) (a := 8) (by decide) (by decide) (by omega)).mpr (by omega)), if_neg q]
          rfl
      rw [zB_s (e0.trans e76)]
      refine ⟨_, rfl, fun r j h => ?_, fun r j h => ?_, ?_, fun q => absurd hlt q, fun _ _ => ⟨fun q => ⟨?_, ?_, e3⟩, fun q => ?_⟩, fun _ q => absurd (q.symm.trans hL) (by decide), fun _ q => absurd (q.symm.trans hL) (by decide), Or.inl ((zu_ne (by omega)).trans (e4 Q 9 (by omega)))⟩
      · exact (zu_ne (by omega)).trans (e4 r j (by omega))
      · exact (e5 r j h).trans (zu_ne h)
      · exact (zu_ne (by omega)).trans e7
      · show zu A' Q 6 _ Q 6 = 1
        rw [zu_eq, if_pos q]
      · exact (zu_ne (by omega)).trans e2
      · show zu A' Q 6 _ Q 6 = 4
        rw [zu_eq, if_neg q]
    · have hL : isL (t s) = false := by cases h : isL (t s) with
        | false => rfl
        | true => exact absurd h hL
      rw [if_pos (by rw [if01]; exact hL), zB_s l_dig3]
      by_cases hD : isD (t s) = true
      · rw [if_neg (by rw [if01, hD]; decide)]
        have k0 : ∀ a j, ¬ (a = Q ∧ j = 9) → zu A Q 9 (0 : Int32) a j = A a j := fun a j h => zu_ne h
        obtain ⟨A', e1, e2, e3, e4⟩ := c_num (Q := Q) (n := n) (s := s) (t := t) zFu 0 (zu A Q 9 (0 : Int32)) (hT.mono (fun a j h => k0 a j (by omega))) ((k0 Q 5 (by omega)).trans h5) (by omega) zu_eq (by unfold zFu; omega)
        have e4 : ∀ a j, ¬ (a = Q ∧ (j = 5 ∨ j = 9)) → A' a j = A a j := fun a j h => (e4 a j h).trans (k0 a j (by omega))
        have e0 : D_X3_stepNumber Q A = D_X3_stepNumber_72 Q A' := e1
        obtain ⟨r1, r2, r3, r4⟩ := rn_spec (p := isD) (t := t) (n := n) (n - s) s (Nat.le_refl _) hs
        have e2 : A' Q 5 = nI (rn isD t n s) := e2
        have e3 : A' Q 9 = nv t s (rn isD t n s - s) := e3
        have e7 : A' Q 7 = nI s := (e4 Q 7 (by omega)).trans h7
        have hsub : A' Q 5 - A' Q 7 = nI (rn isD t n s - s) := by
          rw [e2, e7, show rn isD t n s = s + (rn isD t n s - s) by omega, nI_subk (by omega), Nat.add_sub_cancel_left]
        have e76 : D_X3_stepNumber_72 Q A' = some (zu A' Q 6 (if rn isD t n s - s ≤ 3 then 2 else 4)) := by
          unfold D_X3_stepNumber_72
          rw [hsub]
          by_cases q : rn isD t n s - s ≤ 3
          · rw [if_neg (by intro z; exact absurd ((ltL (x := 3) (a := 3) (by decide) (by decide) (by omega)).mp z) (by omega)), if_pos q]
            rfl
          · rw [if_pos (by exact (ltL (x := 3) (a := 3) (by decide) (by decide) (by omega)).mpr (by omega)), if_neg q]
            rfl
        rw [zB_s (e0.trans e76)]
        refine ⟨_, rfl, fun r j h => ?_, fun r j h => rfl, ?_, fun q => absurd hlt q, fun _ q => absurd (hL.symm.trans q) (by decide), fun _ _ _ => ⟨fun q => ⟨?_, ?_, ?_⟩, fun q => ?_⟩, fun _ _ q => absurd (q.symm.trans hD) (by decide), ?_⟩
        · exact (zu_ne (by omega)).trans (e4 r j (by omega))
        · exact (zu_ne (by omega)).trans e7
        · show zu A' Q 6 _ Q 6 = 2
          rw [zu_eq, if_pos q]
        · exact (zu_ne (by omega)).trans e2
        · exact (zu_ne (by omega)).trans e3
        · show zu A' Q 6 _ Q 6 = 4
          rw [zu_eq, if_neg q]
        · refine Or.inr ?_
          show zu A' Q 6 _ Q 6 = 2 ∨ zu A' Q 6 _ Q 6 = 4
          rw [zu_eq]
          by_cases q : rn isD t n s - s ≤ 3
          · exact Or.inl (if_pos q)
          · exact Or.inr (if_neg q)
      · have hD : isD (t s) = false := by cases h : isD (t s) with
          | false => rfl
          | true => exact absurd h hD
        rw [if_pos (by rw [if01]; exact hD)]
        by_cases h59 : t s = 59
        · rw [if_pos h59]
          have e5 : zu A Q 6 (3 : Int32) Q 5 = nI s := (zu_ne (by omega)).trans h5
          show ∃ a, some (zu (zu A Q 6 (3 : Int32)) Q 5 (zu A Q 6 (3 : Int32) Q 5 + 1), N) = some a ∧ _
          rw [e5, nI_add1]
          refine ⟨_, rfl, fun r j h => (zu_ne (by omega)).trans (zu_ne (by omega)), fun r j h => rfl, (zu_ne (by omega)).trans ((zu_ne (by omega)).trans h7), fun q => absurd hlt q, fun _ q => absurd (hL.symm.trans q) (by decide), fun _ _ q => absurd (hD.symm.trans q) (by decide), fun _ _ _ => ⟨fun _ => ⟨(zu_ne (by omega)).trans zu_eq, zu_eq⟩, fun q => absurd h59 q⟩, Or.inl ((zu_ne (by omega)).trans (zu_ne (by omega)))⟩
        · rw [if_neg h59]
          refine ⟨_, rfl, fun r j h => zu_ne (by omega), fun r j h => rfl, (zu_ne (by omega)).trans h7, fun q => absurd hlt q, fun _ q => absurd (hL.symm.trans q) (by decide), fun _ _ q => absurd (hD.symm.trans q) (by decide), fun _ _ _ => ⟨fun q => absurd q h59, fun _ => zu_eq⟩, Or.inl (zu_ne (by omega))⟩
  · rw [if_neg (fun z => hlt ((nI_ltI (by omega) (by omega)).mp z))]
    refine ⟨_, rfl, fun r j h => zu_ne (by omega), fun r j h => rfl, (zu_ne (by omega)).trans h7, fun _ => zu_eq, fun q => absurd q hlt, fun q => absurd q hlt, fun q => absurd q hlt, Or.inl (zu_ne (by omega))⟩
theorem c_step {Q n x : Nat} {t : Nat → Int32} {A : zMt} {N : zNt} (hT : tx Q n t A) (h5 : A Q 5 = nI x) (hx : x ≤ n) : ∃ a, D_X3_step Q A N = some a ∧ c_G Q n (rn isB t n x) t A N a := by
  obtain ⟨A1, e1, e2, e3⟩ := c_blank (N := N) zFu x A hT h5 hx (by have := hT.1; unfold zFu; omega)
  obtain ⟨r1, r2, -, -⟩ := rn_spec (p := isB) (t := t) (n := n) (n - x) x (Nat.le_refl _) hx
  have k1 : ∀ a j, ¬ (a = Q ∧ (j = 5 ∨ j = 7)) → zu A1 Q 7 (A1 Q 5) a j = A a j := fun a j h => (zu_ne (by omega)).trans (e3 a j (by omega))
  obtain ⟨a, h1, h2, h3, h4, h5, h6, h7, h8, h9⟩ := c_stepk (Q := Q) (n := n) (s := rn isB t n x) (t := t) (A := zu A1 Q 7 (A1 Q 5)) (N := N) (hT.mono (fun a j h => k1 a j (by omega))) ((zu_ne (by omega)).trans e2) (zu_eq.trans e2) r2
  exact ⟨a, (show D_X3_step Q A N = D_X3_step_0 Q zFu A N from rfl).trans (e1.trans (c_41.trans h1)), fun r j h => (h2 r j h).trans (k1 r j (by omega)), h3, h4, h5, h6, h7, h8, by rw [← k1 Q 9 (by omega)]; exact h9⟩
def m_G (P n s : Nat) (t : Nat → Int32) (B : zMt) (N : zNt) (b : Int32 × zMt × zNt) : Prop :=
  (∀ r j, ¬ (r = P ∧ (16 ≤ j ∧ j ≤ 20)) → b.2.1 r j = B r j) ∧ (∀ r j, ¬ (r = P ∧ j = 24) → b.2.2 r j = N r j) ∧ b.1 = 1 ∧ b.2.1 P 16 = nI s ∧
  (¬ s < n → b.2.1 P 18 = 0) ∧
  (s < n → isL (t s) = true → (rn isL t n s - s ≤ 8 → b.2.1 P 18 = 2 ∧ b.2.1 P 17 = nI (rn isL t n s) ∧ b.2.2 P 24 = xv t s (rn isL t n s - s) ∧ D_X8_among P 11 b.2.2 = some (b.2.1 P 19)) ∧ (¬ rn isL t n s - s ≤ 8 → b.2.1 P 18 = 1)) ∧
  (s < n → isL (t s) = false → isD (t s) = true → (rn isD t n s - s ≤ 3 → b.2.1 P 18 = 3 ∧ b.2.1 P 17 = nI (rn isD t n s) ∧ b.2.1 P 20 = yv t s (rn isD t n s - s)) ∧ (¬ rn isD t n s - s ≤ 3 → b.2.1 P 18 = 1)) ∧
  (s < n → isL (t s) = false → isD (t s) = false → (t s = 59 → b.2.1 P 18 = 4 ∧ b.2.1 P 17 = nI (s + 1)) ∧ (¬ t s = 59 → b.2.1 P 18 = 1))
noncomputable def m_k (P : Nat) (M_49 : zMt) (N_0 : zNt) : Option (Int32 × zMt × zNt) :=
  zB (D_X8_byteAt P M_49 (M_49 P 17)) fun e_57 =>
  if e_57 = (-1 : Int32) then
    zLt (zu M_49 P 18 (0 : Int32)) fun M_68 =>
    D_X8_next_320 P M_68 N_0
  else
    zB (D_X8_isLetter e_57) fun e_75 =>
    if e_75 = 0 then
      zB (D_X8_isDigit e_57) fun e_196 =>
      if e_196 = 0 then
        zLt (zu M_49 P 17 ((M_49 P 17) + (1 : Int32))) fun M_302 =>
        if e_57 = (59 : Int32) then
          D_X8_next_317 P (4 : Int32) M_302 N_0
        else
          D_X8_next_317 P (1 : Int32) M_302 N_0
      else
        zLt (zu M_49 P 20 (0 : Int32)) fun M_204 =>
        D_X8_next_207 P zFu M_204 N_0
    else
      zLt (zu N_0 P 24 (0 : Int64)) fun N_83 =>
      D_X8_next_86 P zFu M_49 N_83
theorem m_atk {P : Nat} {B : zMt} {N : zNt} : m_at0 P B N = m_k P (zu (zu B P 16 (B P 17)) P 19 (-1 : Int32)) N := rfl
theorem m_stepk {P n s : Nat} {t : Nat → Int32} {B : zMt} {N : zNt} (hT : ty P n t B) (h17 : B P 17 = nI s) (h16 : B P 16 = nI s) (hs : s ≤ n) : ∃ b, m_k P B N = some b ∧ m_G P n s t B N b := by
  obtain ⟨hn, h15, ht⟩ := id hT
  unfold m_k
  rw [h17]
  by_cases hlt : s < n
  · have hne : ¬ t s = -1 := fun q => by
      have h0 := (ht s hlt).2
      rw [q] at h0
      exact absurd h0 (by decide)
    rw [zB_s (m_byte hT hlt), if_neg hne, zB_s l_let8]
    by_cases hL : isL (t s) = true
    · rw [if_neg (by rw [if01, hL]; decide)]
      obtain ⟨B', N', e1, e2, e3, e4, e5⟩ := m_word (P := P) (n := n) (s := s) (t := t) zFu 0 B (zu N P 24 (0 : Int64)) hT h17 h16 (by omega) zu_eq (by unfold zFu; omega)
      have e4 : ∀ a j, ¬ (a = P ∧ j = 17) → B' a j = B a j := e4
      have e5 : ∀ a j, ¬ (a = P ∧ j = 24) → N' a j = N a j := fun a j h => (e5 a j h).trans (zu_ne h)
      obtain ⟨r1, r2, r3, r4⟩ := rn_spec (p := isL) (t := t) (n := n) (n - s) s (Nat.le_refl _) hs
      have e2 : B' P 17 = nI (rn isL t n s) := e2
      have e3 : N' P 24 = xv t s (rn isL t n s - s) := e3
      have e16 : B' P 16 = nI s := (e4 P 16 (by omega)).trans h16
      have hsub : B' P 17 - B' P 16 = nI (rn isL t n s - s) := by
        rw [e2, e16, show rn isL t n s = s + (rn isL t n s - s) by omega, nI_subk (by omega), Nat.add_sub_cancel_left]
      show ∃ b, D_X8_next_86 P zFu B (zu N P 24 (0 : Int64)) = some b ∧ _
      rw [e1]
      unfold m_w86
      rw [hsub]
      by_cases q : rn isL t n s - s ≤ 8
      · rw [if_pos (by exact (leR (x := 8) (b := 8) (by decide) (by decide) (by omega)).mpr q)]
        obtain ⟨w, hw, -⟩ := v_X8_among (P := P) (w0 := 11) (N := N') (by decide)
        show ∃ b, (if zu B' P 18 (2 : Int32) P 18 = (2 : Int32) then zB (D_X8_among P 11 N') fun e_186 => zLt (zu (zu B' P 18 (2 : Int32)) P 19 e_186) fun M_189 => D_X8_next_320 P M_189 N' else _) = some b ∧ _
        rw [if_pos zu_eq, zB_s hw]
        refine ⟨_, rfl, fun r j h => (zu_ne (by omega)).trans ((zu_ne (by omega)).trans (e4 r j (by omega))), e5, rfl, (zu_ne (by omega)).trans ((zu_ne (by omega)).trans e16), fun z => absurd hlt z, fun _ _ => ⟨fun _ => ⟨(zu_ne (by omega)).trans zu_eq, (zu_ne (by omega)).trans ((zu_ne (by omega)).trans e2), e3, ?_⟩, fun z => absurd q z⟩, fun _ z => absurd (z.symm.trans hL) (by decide), fun _ z => absurd (z.symm.trans hL) (by decide)⟩
        show D_X8_among P 11 N' = some (zu (zu B' P 18 (2 : Int32)) P 19 w P 19)
        rw [zu_eq]
        exact hw
      · rw [if_neg (fun z => q ((leR (x := 8) (b := 8) (by decide) (by decide) (by omega)).mp z))]
        show ∃ b, (if zu B' P 18 (1 : Int32) P 18 = (2 : Int32) then _ else D_X8_next_320 P (zu B' P 18 (1 : Int32)) N') = some b ∧ _
        rw [if_neg (by rw [zu_eq]; decide)]
        refine ⟨_, rfl, fun r j h => (zu_ne (by omega)).trans (e4 r j (by omega)), e5, rfl, (zu_ne (by omega)).trans e16, fun z => absurd hlt z, fun _ _ => ⟨fun z => absurd z q, fun _ => zu_eq⟩, fun _ z => absurd (z.symm.trans hL) (by decide), fun _ z => absurd (z.symm.trans hL) (by decide)⟩
    · have hL : isL (t s) = false := by cases h : isL (t s) with
        | false => rfl
        | true => exact absurd h hL
      rw [if_pos (by rw [if01]; exact hL), zB_s l_dig8]
      by_cases hD : isD (t s) = true
      · rw [if_neg (by rw [if01, hD]; decide)]
        have k0 : ∀ a j, ¬ (a = P ∧ j = 20) → zu B P 20 (0 : Int32) a j = B a j := fun a j h => zu_ne h
        obtain ⟨B', e1, e2, e3, e4⟩ := m_num (P := P) (n := n) (s := s) (t := t) (N := N) zFu 0 (zu B P 20 (0 : Int32)) (hT.mono (fun a j h => k0 a j (by omega))) ((k0 P 17 (by omega)).trans h17) ((k0 P 16 (by omega)).trans h16) (by omega) zu_eq (by unfold zFu; omega)
        have e4 : ∀ a j, ¬ (a = P ∧ (j = 17 ∨ j = 20)) → B' a j = B a j := fun a j h => (e4 a j h).trans (k0 a j (by omega))
        obtain ⟨r1, r2, r3, r4⟩ := rn_spec (p := isD) (t := t) (n := n) (n - s) s (Nat.le_refl _) hs
        have e2 : B' P 17 = nI (rn isD t n s) := e2
        have e3 : B' P 20 = yv t s (rn isD t n s - s) := e3
        have e16 : B' P 16 = nI s := (e4 P 16 (by omega)).trans h16
        have hsub : B' P 17 - B' P 16 = nI (rn isD t n s - s) := by
          rw [e2, e16, show rn isD t n s = s + (rn isD t n s - s) by omega, nI_subk (by omega), Nat.add_sub_cancel_left]
        show ∃ b, D_X8_next_207 P zFu (zu B P 20 (0 : Int32)) N = some b ∧ _
        rw [e1]
        unfold m_w207
        rw [hsub]
        by_cases q : rn isD t n s - s ≤ 3
        · rw [if_pos (by exact (leR (x := 3) (b := 3) (by decide) (by decide) (by omega)).mpr q)]
          refine ⟨_, rfl, fun r j h => (zu_ne (by omega)).trans (e4 r j (by omega)), fun _ _ _ => rfl, rfl, (zu_ne (by omega)).trans e16, fun z => absurd hlt z, fun _ z => absurd (hL.symm.trans z) (by decide), fun _ _ _ => ⟨fun _ => ⟨zu_eq, (zu_ne (by omega)).trans e2, (zu_ne (by omega)).trans e3⟩, fun z => absurd q z⟩, fun _ _ z => absurd (z.symm.trans hD) (by decide)⟩
        · rw [if_neg (fun z => q ((leR (x := 3) (b := 3) (by decide) (by decide) (by omega)).mp z))]
          refine ⟨_, rfl, fun r j h => (zu_ne (by omega)).trans (e4 r j (by omega)), fun _ _ _ => rfl, rfl, (zu_ne (by omega)).trans e16, fun z => absurd hlt z, fun _ z => absurd (hL.symm.trans z) (by decide), fun _ _ _ => ⟨fun z => absurd z q, fun _ => zu_eq⟩, fun _ _ z => absurd (z.symm.trans hD) (by decide)⟩
      · have hD : isD (t s) = false := by cases h : isD (t s) with
          | false => rfl
          | true => exact absurd h hD
        rw [if_pos (by rw [if01]; exact hD)]
        show ∃ b, (if t s = (59 : Int32) then D_X8_next_317 P (4 : Int32) (zu B P 17 (nI s + (1 : Int32))) N else D_X8_next_317 P (1 : Int32) (zu B P 17 (nI s + (1 : Int32))) N) = some b ∧ _
        rw [nI_add1]
        by_cases h59 : t s = 59
        · rw [if_pos h59]
          refine ⟨_, rfl, fun r j h => (zu_ne (by omega)).trans (zu_ne (by omega)), fun _ _ _ => rfl, rfl, (zu_ne (by omega)).trans ((zu_ne (by omega)).trans h16), fun z => absurd hlt z, fun _ z => absurd (hL.symm.trans z) (by decide), fun _ _ z => absurd (hD.symm.trans z) (by decide), fun _ _ _ => ⟨fun _ => ⟨zu_eq, (zu_ne (by omega)).trans zu_eq⟩, fun z => absurd h59 z⟩⟩
        · rw [if_neg h59]
          refine ⟨_, rfl, fun r j h => (zu_ne (by omega)).trans (zu_ne (by omega)), fun _ _ _ => rfl, rfl, (zu_ne (by omega)).trans ((zu_ne (by omega)).trans h16), fun z => absurd hlt z, fun _ z => absurd (hL.symm.trans z) (by decide), fun _ _ z => absurd (hD.symm.trans z) (by decide), fun _ _ _ => ⟨fun z => absurd z h59, fun _ => zu_eq⟩⟩
  · rw [zB_s (m_byte0 hT (by omega) (by omega)), if_pos rfl]
    refine ⟨_, rfl, fun r j h => zu_ne (by omega), fun _ _ _ => rfl, rfl, (zu_ne (by omega)).trans h16, fun _ => zu_eq, fun z => absurd z hlt, fun z => absurd z hlt, fun z => absurd z hlt⟩
theorem m_step {P n x : Nat} {t : Nat → Int32} {B : zMt} {N : zNt} (hT : ty P n t B) (h17 : B P 17 = nI x) (hx : x ≤ n) : ∃ b, D_X8_next P B N = some b ∧ m_G P n (rn isB t n x) t B N b := by
  obtain ⟨B1, e1, e2, e3⟩ := m_blank (N := N) zFu x B hT h17 hx (by have := hT.1; unfold zFu; omega)
  obtain ⟨r1, r2, -, -⟩ := rn_spec (p := isB) (t := t) (n := n) (n - x) x (Nat.le_refl _) hx
  have k1 : ∀ a j, ¬ (a = P ∧ (16 ≤ j ∧ j ≤ 20)) → zu (zu B1 P 16 (B1 P 17)) P 19 (-1 : Int32) a j = B a j := fun a j h => (zu_ne (by omega)).trans ((zu_ne (by omega)).trans (e3 a j (by omega)))
  obtain ⟨b, h1, h2, h3, h4⟩ := m_stepk (P := P) (n := n) (s := rn isB t n x) (t := t) (B := zu (zu B1 P 16 (B1 P 17)) P 19 (-1 : Int32)) (N := N) (hT.mono (fun a j h => k1 a j (by omega))) ((zu_ne (by omega)).trans ((zu_ne (by omega)).trans e2)) ((zu_ne (by omega)).trans (zu_eq.trans e2)) r2
  exact ⟨b, (show D_X8_next P B N = D_X8_next_0 P zFu B N from rfl).trans (e1.trans (m_atk.trans h1)), fun r j h => (h2 r j h).trans (k1 r j h), h3, h4⟩
/-! THE TOKEN that both stand at -/
def cdg (t : Nat → Int32) (s : Nat) : Nat → Int := fun i => (t (s + i)).toInt - 96
theorem cdg_dgs {t : Nat → Int32} {s k : Nat} (h : ∀ i, i < k → isL (t (s + i)) = true) : dgs (cdg t s) k := fun i hi => by
  have := isL_iff.mp (h i hi)
  unfold cdg
  omega
theorem wv_eC {t : Nat → Int32} {s : Nat} : ∀ {k : Nat}, k ≤ 8 → (∀ i, i < k → isL (t (s + i)) = true) → (wv t s k).toInt = eC 27 (cdg t s) k
  | 0, _, _ => by show (0 : Int64).toInt = 0; decide
  | k + 1, hk, h => by
    have ih := wv_eC (t := t) (s := s) (k := k) (by omega) (fun i hi => h i (by omega))
    have hd := cdg_dgs (t := t) (s := s) (k := k) (fun i hi => h i (by omega))
    have h1 := eC_pos (Or.inl rfl) hd
    have h2 := eC_lt8 (Or.inl rfl) hd (by omega)
    have h3 := isL_iff.mp (h k (by omega))
    show ((wv t s k * (27 : Int64)) + (Int32.toInt64 ((t (s + k) - (97 : Int32)) + (1 : Int32)))).toInt = eC 27 (cdg t s) k * 27 + cdg t s k
    rw [l_27 (by omega) (by omega) h3.1 h3.2, ih]
    rfl
theorem xv_eC {t : Nat → Int32} {s : Nat} : ∀ {k : Nat}, k ≤ 8 → (∀ i, i < k → isL (t (s + i)) = true) → (xv t s k).toInt = eC 32 (cdg t s) k
  | 0, _, _ => by show (0 : Int64).toInt = 0; decide
  | k + 1, hk, h => by
    have ih := xv_eC (t := t) (s := s) (k := k) (by omega) (fun i hi => h i (by omega))
    have hd := cdg_dgs (t := t) (s := s) (k := k) (fun i hi => h i (by omega))
    have h1 := eC_pos (Or.inr rfl) hd
    have h2 := eC_lt8 (Or.inr rfl) hd (by omega)
    have h3 := isL_iff.mp (h k (by omega))
    show (if k < 8 then ((xv t s k <<< (Int32.toInt64 (5 : Int32) &&& 63)) ||| ((Int32.toInt64 (t (s + k))) - (96 : Int64))) else xv t s k).toInt = eC 32 (cdg t s) k * 32 + cdg t s k
    rw [if_pos (by omega), l_32 (by omega) (by omega) h3.1 h3.2, ih]
    rfl
theorem n_ring {v c : Int32} : (v * (10 : Int32)) + (c - (48 : Int32)) = (((10 : Int32) * v) + c) - (48 : Int32) := by
  rw [Int32.mul_comm, Int32.sub_eq_add_neg, Int32.sub_eq_add_neg, Int32.add_assoc]
theorem nv_yv {t : Nat → Int32} {s : Nat} : ∀ {k : Nat}, k ≤ 3 → nv t s k = yv t s k
  | 0, _ => rfl
  | k + 1, hk => by
    show (nv t s k * (10 : Int32)) + (t (s + k) - (48 : Int32)) = if k < 3 then _ else _
    rw [if_pos (by omega), nv_yv (by omega), n_ring]
def p10 : Nat → Int
  | 0 => 1
  | k + 1 => p10 k * 10
theorem p10_le : ∀ k, k ≤ 3 → p10 k ≤ 1000 := by decide
theorem nv_le {t : Nat → Int32} {s : Nat} : ∀ {k : Nat}, k ≤ 3 → (∀ i, i < k → isD (t (s + i)) = true) → 0 ≤ (nv t s k).toInt ∧ (nv t s k).toInt < p10 k
  | 0, _, _ => ⟨by show 0 ≤ (0 : Int32).toInt; decide, by show (0 : Int32).toInt < 1; decide⟩
  | k + 1, hk, h => by
    have ih := nv_le (t := t) (s := s) (k := k) (by omega) (fun i hi => h i (by omega))
    have h3 := isD_iff.mp (h k (by omega))
    have h4 := p10_le k (by omega)
    have o48 : (48 : Int32).toInt = 48 := by decide
    have o10 : (10 : Int32).toInt = 10 := by decide
    have e1 : (t (s + k) - (48 : Int32)).toInt = (t (s + k)).toInt - 48 := by rw [z_sub (by omega) (by omega), o48]
    have e2 : (nv t s k * (10 : Int32)).toInt = (nv t s k).toInt * 10 := by rw [z_mul (by rw [o10]; omega) (by rw [o10]; omega), o10]
    show 0 ≤ ((nv t s k * (10 : Int32)) + (t (s + k) - (48 : Int32))).toInt ∧ ((nv t s k * (10 : Int32)) + (t (s + k) - (48 : Int32))).toInt < p10 k * 10
    rw [z_add (by omega) (by omega), e1, e2]
    omega
/-! which of the words that are no names -/
def say (t : Nat → Int32) (s k j : Nat) : Prop := k = zLen.getD j 0 ∧ ∀ i, i < k → t (s + i) = zCh j i
def cdw (j : Nat) : Nat → Int := fun i => (zCh j i).toInt - 96
theorem cdw_dgs : ∀ j, j < 11 → ∀ i, i < zLen.getD j 0 → 1 ≤ cdw j i ∧ cdw j i ≤ 26 := by decide +kernel
theorem say_eC {t : Nat → Int32} {s k j : Nat} (hd : dgs (cdg t s) k) (hj : j < 11) : say t s k j ↔ eC 32 (cdg t s) k = eC 32 (cdw j) (zLen.getD j 0) := by
  rw [eC_eq (Or.inr rfl) hd (cdw_dgs j hj)]
  unfold say
  constructor
  · rintro ⟨h1, h2⟩
    exact ⟨h1, fun i hi => by unfold cdg cdw; rw [h2 i hi]⟩
  · rintro ⟨h1, h2⟩
    refine ⟨h1, fun i hi => Int32.toInt_inj.mp ?_⟩
    have := h2 i hi
    unfold cdg cdw at this
    omega
/-! the reference's lists of words, walked -/
def itv (w : Nat) : Nat → Int64
  | 0 => 0
  | i + 1 => if zCh w i = 32 then 0 else ((itv w i <<< (Int32.toInt64 (5 : Int32) &&& 63)) ||| ((Int32.toInt64 (zCh w i)) - (96 : Int64)))
def spw (w : Nat) : Nat → Nat
  | 0 => 0
  | i + 1 => spw w i + (if zCh w i = 32 then 1 else 0)
theorem m_amongL {P w : Nat} {N : zNt} (hw : zLen.getD w 0 < 1000) : ∀ (u i : Nat), i ≤ zLen.getD w 0 → zLen.getD w 0 - i < u → ∃ r, D_X8_among_7 P w N u (nI (spw w i)) (itv w i) (nI i) = some r ∧ ((∃ i', i ≤ i' ∧ i' < zLen.getD w 0 ∧ zCh w i' = 32 ∧ itv w i' = N P 24 ∧ r = nI (spw w i')) ∨ (r = -1 ∧ ∀ i', i ≤ i' → i' < zLen.getD w 0 → zCh w i' = 32 → ¬ itv w i' = N P 24)) := by
  intro u
  induction u with
  | zero => intro i _ h; omega
  | succ u ih =>
    intro i hi hu
    rw [D_X8_among_7, show Int32.ofNat (zLen.getD w 0) = nI (zLen.getD w 0) from rfl]
    by_cases hc : zLen.getD w 0 ≤ i
    · rw [if_pos ((nI_leI (by omega) (by omega)).mpr hc)]
      exact ⟨_, rfl, Or.inr ⟨rfl, fun i' h1 h2 => by omega⟩⟩
    · rw [if_neg (fun q => hc ((nI_leI (by omega) (by omega)).mp q))]
      unfold zI
      rw [if_neg (vp_in_nI (by omega) (by omega)), nI_clamp (by omega)]
      by_cases h32 : zCh w i = 32
      · have e1 : spw w (i + 1) = spw w i + 1 := by show spw w i + _ = _; rw [if_pos h32]
        have e2 : itv w (i + 1) = 0 := if_pos h32
        rw [if_pos h32]
        by_cases hq : itv w i = N P 24
        · rw [if_pos ((lg_cmp_eq _ _).mpr hq)]
          exact ⟨_, rfl, Or.inl ⟨i, Nat.le_refl i, by omega, h32, hq, rfl⟩⟩
        · rw [if_neg (fun z => hq ((lg_cmp_eq _ _).mp z))]
          show ∃ r, D_X8_among_7 P w N u (nI (spw w i) + 1) (0 : Int64) (nI i + 1) = some r ∧ _
          obtain ⟨r, h1, h2⟩ := ih (i + 1) (by omega) (by omega)
          rw [e1, e2] at h1
          rw [nI_add1, nI_add1]
          refine ⟨r, h1, ?_⟩
          rcases h2 with ⟨i', g1, g2, g3, g4, g5⟩ | ⟨g1, g2⟩
          · exact Or.inl ⟨i', by omega, g2, g3, g4, g5⟩
          · refine Or.inr ⟨g1, fun i' h3 h4 h5 => ?_⟩
            by_cases z : i' = i
            · subst z; exact hq
            · exact g2 i' (by omega) h4 h5
      · have e1 : spw w (i + 1) = spw w i := by show spw w i + _ = _; rw [if_neg h32, Nat.add_zero]
        have e2 : itv w (i + 1) = ((itv w i <<< (Int32.toInt64 (5 : Int32) &&& 63)) ||| ((Int32.toInt64 (zCh w i)) - (96 : Int64))) := if_neg h32
        rw [if_neg h32]
        show ∃ r, D_X8_among_7 P w N u (nI (spw w i)) ((itv w i <<< (Int32.toInt64 (5 : Int32) &&& 63)) ||| ((Int32.toInt64 (zCh w i)) - (96 : Int64))) (nI i + 1) = some r ∧ _
        obtain ⟨r, h1, h2⟩ := ih (i + 1) (by omega) (by omega)
        rw [e1, e2] at h1
        rw [nI_add1]
        refine ⟨r, h1, ?_⟩
        rcases h2 with ⟨i', g1, g2, g3, g4, g5⟩ | ⟨g1, g2⟩
        · exact Or.inl ⟨i', by omega, g2, g3, g4, g5⟩
        · refine Or.inr ⟨g1, fun i' h3 h4 h5 => ?_⟩
          by_cases z : i' = i
          · subst z; exact absurd h5 h32
          · exact g2 i' (by omega) h4 h5
/-- the words of a list, and where their blanks stand -/
def wls (w : Nat) : List Nat := if w = 11 then [0, 1, 2, 3, 4, 5, 6, 7] else [10, 8, 9]
def wps (w : Nat) : List Nat := if w = 11 then [4, 11, 17, 23, 28, 32, 39, 46] else [5, 10, 17]
theorem w_t1 : ∀ w, (w = 11 ∨ w = 12) → ∀ i, i < zLen.getD w 0 → zCh w i = 32 → ∃ m, m < (wls w).length ∧ i = (wps w).getD m 0 := by
  rintro w (rfl | rfl) <;> decide +kernel
theorem w_t2 : ∀ w, (w = 11 ∨ w = 12) → ∀ m, m < (wls w).length → (wps w).getD m 0 < zLen.getD w 0 ∧ zCh w ((wps w).getD m 0) = 32 ∧ spw w ((wps w).getD m 0) = m ∧ (itv w ((wps w).getD m 0)).toInt = eC 32 (cdw ((wls w).getD m 0)) (zLen.getD ((wls w).getD m 0) 0) ∧ (wls w).getD m 0 < 11 := by
  rintro w (rfl | rfl) <;> decide +kernel
theorem w_t3 : ∀ w, (w = 11 ∨ w = 12) → zLen.getD w 0 < 1000 := by
  rintro w (rfl | rfl) <;> decide
theorem m_among {P w s k : Nat} {t : Nat → Int32} {N : zNt} (hw : w = 11 ∨ w = 12) (hd : dgs (cdg t s) k) (he : (N P 24).toInt = eC 32 (cdg t s) k) : ∃ r, D_X8_among P w N = some r ∧ ((∃ m, m < (wls w).length ∧ r = nI m ∧ say t s k ((wls w).getD m 0)) ∨ (r = -1 ∧ ∀ m, m < (wls w).length → ¬ say t s k ((wls w).getD m 0))) := by
  obtain ⟨r, h1, h2⟩ := m_amongL (P := P) (N := N) (w_t3 w hw) zFu 0 (by omega) (by have := w_t3 w hw; unfold zFu; omega)
  refine ⟨r, h1, ?_⟩
  rcases h2 with ⟨i', -, g2, g3, g4, g5⟩ | ⟨g1, g2⟩
  · obtain ⟨m, hm, e⟩ := w_t1 w hw i' g2 g3
    obtain ⟨q1, q2, q3, q4, q5⟩ := w_t2 w hw m hm
    refine Or.inl ⟨m, hm, by rw [g5, e, q3], (say_eC hd q5).mpr ?_⟩
    rw [← he, ← g4, e]
    exact q4
  · refine Or.inr ⟨g1, fun m hm hs => ?_⟩
    obtain ⟨q1, q2, q3, q4, q5⟩ := w_t2 w hw m hm
    refine g2 _ (Nat.zero_le _) q1 q2 (Int64.toInt_inj.mp ?_)
    rw [q4, he]
    exact ((say_eC hd q5).mp hs).symm
/-! both readers at one token -/
def wh (t : Nat → Int32) (s k : Nat) (w : Int32) : Prop := (∃ j, j < 8 ∧ w = nI j ∧ say t s k j) ∨ (w = -1 ∧ ∀ j, j < 8 → ¬ say t s k j)
def tW (Q P n : Nat) (t : Nat → Int32) (A : zMt) (NA : zNt) (B : zMt) (NB : zNt) (s k : Nat) : Prop :=
  A Q 6 = 1 ∧ B P 18 = 2 ∧ A Q 5 = nI (s + k) ∧ B P 17 = nI (s + k) ∧ 1 ≤ k ∧ k ≤ 8 ∧ s + k ≤ n ∧ dgs (cdg t s) k ∧ (NA Q 8).toInt = eC 27 (cdg t s) k ∧ (NB P 24).toInt = eC 32 (cdg t s) k ∧ wh t s k (B P 19)
def tN (Q P n : Nat) (A B : zMt) (x : Nat) : Prop := A Q 6 = 2 ∧ B P 18 = 3 ∧ A Q 5 = nI x ∧ B P 17 = nI x ∧ x ≤ n ∧ A Q 9 = B P 20 ∧ 0 ≤ (A Q 9).toInt ∧ (A Q 9).toInt ≤ 999
def tS (Q P n : Nat) (A B : zMt) (x : Nat) : Prop := A Q 6 = 3 ∧ B P 18 = 4 ∧ A Q 5 = nI x ∧ B P 17 = nI x ∧ x ≤ n
def tk (Q P n : Nat) (t : Nat → Int32) (A : zMt) (NA : zNt) (B : zMt) (NB : zNt) : Prop :=
  ∃ s, s ≤ n ∧ A Q 7 = nI s ∧ B P 16 = nI s ∧ ((A Q 6 = 0 ∧ B P 18 = 0) ∨ (A Q 6 = 4 ∧ B P 18 = 1) ∨ (∃ k, tW Q P n t A NA B NB s k) ∨ (∃ x, tN Q P n A B x) ∨ (∃ x, tS Q P n A B x))
def fq (Q : Nat) (A A' : zMt) : Prop := ∀ r j, ¬ (r = Q ∧ (j = 5 ∨ j = 6 ∨ j = 7 ∨ j = 9)) → A' r j = A r j
def fqn (Q : Nat) (N N' : zNt) : Prop := ∀ r j, ¬ (r = Q ∧ j = 8) → N' r j = N r j
def fp (P : Nat) (B B' : zMt) : Prop := ∀ r j, ¬ (r = P ∧ (16 ≤ j ∧ j ≤ 20)) → B' r j = B r j
def fpn (P : Nat) (N N' : zNt) : Prop := ∀ r j, ¬ (r = P ∧ j = 24) → N' r j = N r j
/-- a step that both can make: where they stand next is one place -/
def nx (Q P n : Nat) (A B : zMt) : Prop := ∃ x, x ≤ n ∧ A Q 5 = nI x ∧ B P 17 = nI x
theorem tW.nx {Q P n : Nat} {t : Nat → Int32} {A B : zMt} {NA NB : zNt} {s k : Nat} (h : tW Q P n t A NA B NB s k) : nx Q P n A B := ⟨s + k, h.2.2.2.2.2.2.1, h.2.2.1, h.2.2.2.1⟩
theorem tN.nx {Q P n : Nat} {A B : zMt} {x : Nat} (h : tN Q P n A B x) : nx Q P n A B := ⟨x, h.2.2.2.2.1, h.2.2.1, h.2.2.2.1⟩
theorem tS.nx {Q P n : Nat} {A B : zMt} {x : Nat} (h : tS Q P n A B x) : nx Q P n A B := ⟨x, h.2.2.2.2, h.2.2.1, h.2.2.2.1⟩
theorem s_step {Q P n : Nat} {t : Nat → Int32} {A B : zMt} {NA NB : zNt} (hX : tx Q n t A) (hY : ty P n t B) (hN : nx Q P n A B) : ∃ a, D_X3_step Q A NA = some a ∧ ∃ b, D_X8_next P B NB = some b ∧ b.1 = 1 ∧ fq Q A a.1 ∧ fqn Q NA a.2 ∧ fp P B b.2.1 ∧ fpn P NB b.2.2 ∧ (a.1 Q 9 = A Q 9 ∨ a.1 Q 6 = 2 ∨ a.1 Q 6 = 4) ∧ tk Q P n t a.1 a.2 b.2.1 b.2.2 := by
  obtain ⟨x, hx, h5, h17⟩ := hN
  obtain ⟨a, ea, a1, a2, a3, a4, a5, a6, a7, a8⟩ := c_step (N := NA) hX h5 hx
  obtain ⟨b, eb, b1, b2, b3, b4, b5, b6, b7, b8⟩ := m_step (N := NB) hY h17 hx
  obtain ⟨r1, r2, -, -⟩ := rn_spec (p := isB) (t := t) (n := n) (n - x) x (Nat.le_refl _) hx
  generalize rn isB t n x = s at *
  refine ⟨a, ea, b, eb, b3, a1, a2, b1, b2, a8, s, r2, a3, b4, ?_⟩
  by_cases hlt : s < n
  · by_cases hL : isL (t s) = true
    · obtain ⟨c1, c2⟩ := a5 hlt hL
      obtain ⟨d1, d2⟩ := b6 hlt hL
      by_cases q : rn isL t n s - s ≤ 8
      · obtain ⟨e1, e2, e3⟩ := c1 q
        obtain ⟨g1, g2, g3, g4⟩ := d1 q
        obtain ⟨p1, p2, p3, p4⟩ := rn_spec (p := isL) (t := t) (n := n) (n - s) s (Nat.le_refl _) r2
        have hgo : s + 1 ≤ rn isL t n s := by
          rw [rn_go hlt hL]
          exact (rn_spec (p := isL) (t := t) (n := n) (n - (s + 1)) (s + 1) (Nat.le_refl _) hlt).1
        have hsum : rn isL t n s = s + (rn isL t n s - s) := by omega
        have hall : ∀ i, i < rn isL t n s - s → isL (t (s + i)) = true := fun i hi => p3 (s + i) (by omega) (by omega)
        have hdg := cdg_dgs hall
        have he : (b.2.2 P 24).toInt = eC 32 (cdg t s) (rn isL t n s - s) := by rw [g3]; exact xv_eC q hall
        obtain ⟨w, hw, hwh⟩ := m_among (P := P) (w := 11) (N := b.2.2) (Or.inl rfl) hdg he
        rw [g4] at hw
        cases hw
        refine Or.inr (Or.inr (Or.inl ⟨rn isL t n s - s, e1, g1, by rw [← hsum]; exact e2, by rw [← hsum]; exact g2, by omega, q, by omega, hdg, by rw [e3]; exact wv_eC q hall, he, ?_⟩))
        rcases hwh with ⟨m, hm, h1, h2⟩ | ⟨h1, h2⟩
        · have hm8 : m < 8 := hm
          have e : (wls 11).getD m 0 = m := (show ∀ m, m < 8 → (wls 11).getD m 0 = m by decide) m hm8
          rw [e] at h2
          exact Or.inl ⟨m, hm8, h1, h2⟩
        · refine Or.inr ⟨h1, fun j hj => ?_⟩
          have e : (wls 11).getD j 0 = j := (show ∀ m, m < 8 → (wls 11).getD m 0 = m by decide) j hj
          have := h2 j hj
          rw [e] at this
          exact this
      · exact Or.inr (Or.inl ⟨c2 q, d2 q⟩)
    · have hL : isL (t s) = false := by cases h : isL (t s) with
        | false => rfl
        | true => exact absurd h hL
      by_cases hD : isD (t s) = true
      · obtain ⟨c1, c2⟩ := a6 hlt hL hD
        obtain ⟨d1, d2⟩ := b7 hlt hL hD
        by_cases q : rn isD t n s - s ≤ 3
        · obtain ⟨e1, e2, e3⟩ := c1 q
          obtain ⟨g1, g2, g3⟩ := d1 q
          obtain ⟨p1, p2, p3, p4⟩ := rn_spec (p := isD) (t := t) (n := n) (n - s) s (Nat.le_refl _) r2
          have hv := nv_le (t := t) (s := s) q (fun i hi => p3 (s + i) (by omega) (by omega))
          have hp := p10_le _ q
          refine Or.inr (Or.inr (Or.inr (Or.inl ⟨rn isD t n s, e1, g1, e2, g2, p2, ?_, ?_, ?_⟩)))
          · rw [e3, g3]; exact nv_yv q
          · rw [e3]; exact hv.1
          · rw [e3]; omega
        · exact Or.inr (Or.inl ⟨c2 q, d2 q⟩)
      · have hD : isD (t s) = false := by cases h : isD (t s) with
          | false => rfl
          | true => exact absurd h hD
        obtain ⟨c1, c2⟩ := a7 hlt hL hD
        obtain ⟨d1, d2⟩ := b8 hlt hL hD
        by_cases q : t s = 59
        · exact Or.inr (Or.inr (Or.inr (Or.inr ⟨s + 1, (c1 q).1, (d1 q).1, (c1 q).2, (d1 q).2, by omega⟩)))
        · exact Or.inr (Or.inl ⟨c2 q, d2 q⟩)
  · exact Or.inl ⟨a4 hlt, b5 hlt⟩
/-! what stands at the token -/
theorem nI_inj {a b : Nat} (ha : a < 2147483648) (hb : b < 2147483648) (h : nI a = nI b) : a = b := by
  have := congrArg Int32.toInt h
  rw [nI_toInt ha, nI_toInt hb] at this
  omega
theorem c_saysL {Q n s k j : Nat} {t : Nat → Int32} {A : zMt} (hT : tx Q n t A) (h7 : A Q 7 = nI s) (hsk : s + k ≤ n) (hk : k = zLen.getD j 0) : ∀ (u i : Nat), i ≤ k → k - i < u → (∀ i', i' < i → t (s + i') = zCh j i') → ∃ r, D_X3_says_28 Q j A u (nI i) = some r ∧ ((r = 1 ∧ say t s k j) ∨ (r = 0 ∧ ¬ say t s k j)) := by
  obtain ⟨hn, h4, ht⟩ := hT
  intro u
  induction u with
  | zero => intro i _ h; omega
  | succ u ih =>
    intro i hi hu hp
    rw [D_X3_says_28, ← hk, show Int32.ofNat k = nI k from rfl]
    by_cases hc : k ≤ i
    · rw [if_pos ((nI_leI (by omega) (by omega)).mpr hc)]
      exact ⟨_, rfl, Or.inl ⟨rfl, hk, fun i' h => hp i' (by omega)⟩⟩
    · rw [if_neg (fun q => hc ((nI_leI (by omega) (by omega)).mp q))]
      unfold zI
      have es : A Q 7 + nI i = nI (s + i) := by
        rw [h7]
        apply Int32.toInt_inj.mp
        have e1 : (nI s).toInt = (s : Nat) := nI_toInt (by omega)
        have e2 : (nI i).toInt = (i : Nat) := nI_toInt (by omega)
        have e3 : (nI (s + i)).toInt = (s + i : Nat) := nI_toInt (by omega)
        rw [z_add (by rw [e1, e2]; omega) (by rw [e1, e2]; omega), e1, e2, e3]
        omega
      rw [if_neg (vp_in_nI (by omega) (by omega)), es, zrd_nI (by omega) (by decide), ht (s + i) (by omega), nI_clamp (by omega), nI_add1]
      by_cases q : t (s + i) = zCh j i
      · rw [if_pos q]
        exact ih (i + 1) (by omega) (by omega) (fun i' h => by
          by_cases z : i' = i
          · subst z; exact q
          · exact hp i' (by omega))
      · rw [if_neg q]
        exact ⟨_, rfl, Or.inr ⟨rfl, fun h => q (h.2 i (by omega))⟩⟩
theorem c_says {Q n s k j : Nat} {t : Nat → Int32} {A : zMt} (hT : tx Q n t A) (h6 : A Q 6 = 1) (h7 : A Q 7 = nI s) (h5 : A Q 5 = nI (s + k)) (hsk : s + k ≤ n) (hj : j < 11) : ∃ r, D_X3_says Q j A = some r ∧ ((r = 1 ∧ say t s k j) ∨ (r = 0 ∧ ¬ say t s k j)) := by
  have hl : zLen.getD j 0 ≤ 6 := (show ∀ j, j < 11 → zLen.getD j 0 ≤ 6 by decide) j hj
  have hn := hT.1
  unfold D_X3_says
  rw [if_pos h6, h5, h7, nI_subk (by omega)]
  by_cases q : k = zLen.getD j 0
  · rw [if_pos (by rw [← q]; rfl)]
    exact c_saysL hT h7 hsk q zFu 0 (by omega) (by unfold zFu; omega) (fun i' h => by omega)
  · rw [if_neg (by intro z; exact q (nI_inj (by omega) (by omega) z))]
    exact ⟨_, rfl, Or.inr ⟨rfl, fun h => q h.1⟩⟩
theorem c_says0 {Q j : Nat} {A : zMt} (h6 : ¬ A Q 6 = 1) : D_X3_says Q j A = some 0 := by
  unfold D_X3_says
  rw [if_neg h6]
  rfl
theorem zB_s2 {α β : Type} {o : Option α} {f : α → Option β} {H : α → Prop} {G : β → Prop} (h : ∃ e, o = some e ∧ H e) (k : ∀ e, H e → ∃ r, f e = some r ∧ G r) : ∃ r, zB o f = some r ∧ G r := vB h (fun e _ q => k e q)
theorem c_isName {Q n s k : Nat} {t : Nat → Int32} {A : zMt} (hT : tx Q n t A) (h6 : A Q 6 = 1) (h7 : A Q 7 = nI s) (h5 : A Q 5 = nI (s + k)) (hsk : s + k ≤ n) : ∃ r, D_X3_isName Q A = some r ∧ ((r = 1 ∧ ∀ j, j < 8 → ¬ say t s k j) ∨ (r = 0 ∧ ∃ j, j < 8 ∧ say t s k j)) := by
  unfold D_X3_isName
  rw [if_pos h6]
  have S : ∀ j, j < 11 → ∃ r, D_X3_says Q j A = some r ∧ ((r = 1 ∧ say t s k j) ∨ (r = 0 ∧ ¬ say t s k j)) := fun j hj => c_says hT h6 h7 h5 hsk hj
  have no : ∀ (j : Nat) (r : Int32), j < 8 → ((r = 1 ∧ say t s k j) ∨ (r = 0 ∧ ¬ say t s k j)) → ¬ r = 0 → ∃ r2, D_X3_isName_84 Q A = some r2 ∧ ((r2 = 1 ∧ ∀ j, j < 8 → ¬ say t s k j) ∨ (r2 = 0 ∧ ∃ j, j < 8 ∧ say t s k j)) := fun j r hj q hr => by
    rcases q with ⟨_, q⟩ | ⟨q, _⟩
    · exact ⟨0, rfl, Or.inr ⟨rfl, j, hj, q⟩⟩
    · exact absurd q hr
  have yes : ∀ (j : Nat) (r : Int32), ((r = 1 ∧ say t s k j) ∨ (r = 0 ∧ ¬ say t s k j)) → r = 0 → ¬ say t s k j := fun j r q hr => by
    rcases q with ⟨q, _⟩ | ⟨_, q⟩
    · rw [hr] at q; exact absurd q (by decide)
    · exact q
  refine zB_s2 (S 0 (by decide)) (fun r0 q0 => vIf (fun z0 => ?_) (fun z0 => no 0 r0 (by decide) q0 z0))
  refine zB_s2 (S 1 (by decide)) (fun r1 q1 => vIf (fun z1 => ?_) (fun z1 => no 1 r1 (by decide) q1 z1))
  refine zB_s2 (S 2 (by decide)) (fun r2 q2 => vIf (fun z2 => ?_) (fun z2 => no 2 r2 (by decide) q2 z2))
  refine zB_s2 (S 3 (by decide)) (fun r3 q3 => vIf (fun z3 => ?_) (fun z3 => no 3 r3 (by decide) q3 z3))
  refine zB_s2 (S 4 (by decide)) (fun r4 q4 => vIf (fun z4 => ?_) (fun z4 => no 4 r4 (by decide) q4 z4))
  refine zB_s2 (S 5 (by decide)) (fun r5 q5 => vIf (fun z5 => ?_) (fun z5 => no 5 r5 (by decide) q5 z5))
  refine zB_s2 (S 6 (by decide)) (fun r6 q6 => vIf (fun z6 => ?_) (fun z6 => no 6 r6 (by decide) q6 z6))
  refine zB_s2 (S 7 (by decide)) (fun r7 q7 => vIf (fun z7 => ?_) (fun z7 => no 7 r7 (by decide) q7 z7))
  refine ⟨1, rfl, Or.inl ⟨rfl, fun j hj => ?_⟩⟩
  have hj2 : j = 0 ∨ j = 1 ∨ j = 2 ∨ j = 3 ∨ j = 4 ∨ j = 5 ∨ j = 6 ∨ j = 7 := by omega
  rcases hj2 with rfl | rfl | rfl | rfl | rfl | rfl | rfl | rfl
  · exact yes 0 r0 q0 z0
  · exact yes 1 r1 q1 z1
  · exact yes 2 r2 q2 z2
  · exact yes 3 r3 q3 z3
  · exact yes 4 r4 q4 z4
  · exact yes 5 r5 q5 z5
  · exact yes 6 r6 q6 z6
  · exact yes 7 r7 q7 z7
theorem c_isName0 {Q : Nat} {A : zMt} (h6 : ¬ A Q 6 = 1) : D_X3_isName Q A = some 0 := by
  unfold D_X3_isName
  rw [if_neg h6]
  rfl
/-- both say alike whether a name stands here -/
theorem s_isName {Q P n : Nat} {t : Nat → Int32} {A B : zMt} {NA NB : zNt} (hX : tx Q n t A) (hK : tk Q P n t A NA B NB) : ∃ r, D_X3_isName Q A = some r ∧ D_X8_isName P B = some r ∧ (r = 0 ∨ (r = 1 ∧ ∃ s k, A Q 7 = nI s ∧ B P 16 = nI s ∧ tW Q P n t A NA B NB s k)) := by
  obtain ⟨s, hs, h7, h16, hK⟩ := hK
  have zero : ¬ A Q 6 = 1 → ¬ B P 18 = 2 → ∃ r, D_X3_isName Q A = some r ∧ D_X8_isName P B = some r ∧ (r = 0 ∨ (r = 1 ∧ ∃ s k, A Q 7 = nI s ∧ B P 16 = nI s ∧ tW Q P n t A NA B NB s k)) := fun h1 h2 => by
    refine ⟨0, c_isName0 h1, ?_, Or.inl rfl⟩
    unfold D_X8_isName
    rw [if_neg h2]
    rfl
  rcases hK with ⟨h1, h2⟩ | ⟨h1, h2⟩ | ⟨k, hW⟩ | ⟨x, h1, h2, -⟩ | ⟨x, h1, h2, -⟩
  · exact zero (by rw [h1]; decide) (by rw [h2]; decide)
  · exact zero (by rw [h1]; decide) (by rw [h2]; decide)
  · obtain ⟨w1, w2, w3, w4, w5, w6, w7, w8, w9, w10, w11⟩ := id hW
    obtain ⟨r, e, q⟩ := c_isName hX w1 h7 w3 w7
    refine ⟨r, e, ?_, ?_⟩
    · unfold D_X8_isName
      rw [if_pos w2]
      rcases q with ⟨q1, q2⟩ | ⟨q1, j, q2, q3⟩
      · rcases w11 with ⟨j, u1, u2, u3⟩ | ⟨u1, u2⟩
        · exact absurd u3 (q2 j u1)
        · rw [if_pos u1, q1]; rfl
      · rcases w11 with ⟨j, u1, u2, u3⟩ | ⟨u1, u2⟩
        · rw [if_neg (by rw [u2]; intro z; have := congrArg Int32.toInt z; rw [nI_toInt (by omega), show (-1 : Int32).toInt = -1 by decide] at this; omega), q1]; rfl
        · exact absurd q3 (u2 j q2)
    · rcases q with ⟨q1, q2⟩ | ⟨q1, -⟩
      · exact Or.inr ⟨q1, s, k, h7, h16, hW⟩
      · exact Or.inl q1
  · exact zero (by rw [h1]; decide) (by rw [h2]; decide)
  · exact zero (by rw [h1]; decide) (by rw [h2]; decide)
/-- a fault told by both -/
def FR (Q P : Nat) (A B : zMt) : Prop := A Q 1 = B P 21 ∧ A Q 2 = B P 22
theorem tk.bad {Q P n : Nat} {t : Nat → Int32} {A B : zMt} {NA NB : zNt} (hK : tk Q P n t A NA B NB) : (A Q 6 = 4 ↔ B P 18 = 1) ∧ A Q 7 = B P 16 := by
  obtain ⟨s, hs, h7, h16, hK⟩ := hK
  refine ⟨?_, h7.trans h16.symm⟩
  rcases hK with ⟨h1, h2⟩ | ⟨h1, h2⟩ | ⟨k, h1, h2, -⟩ | ⟨x, h1, h2, -⟩ | ⟨x, h1, h2, -⟩ <;> rw [h1, h2] <;> decide
theorem s_fail {Q P n : Nat} {t : Nat → Int32} {A B : zMt} {NA NB : zNt} {v : Int32} (hK : tk Q P n t A NA B NB) : ∃ a, D_X3_fail Q v A = some a ∧ ∃ b, D_X8_bad P v B = some b ∧ a.1 = 0 ∧ b.1 = 0 ∧ FR Q P a.2 b.2 := by
  obtain ⟨h1, h2⟩ := hK.bad
  have key : ∀ y : Int32, FR Q P (zu (zu A Q 1 y) Q 2 (zu A Q 1 y Q 7)) (zu (zu B P 21 y) P 22 (zu B P 21 y P 16)) := fun y => by
    refine ⟨?_, ?_⟩
    · rw [zu_ne (by omega), zu_eq, zu_ne (by omega), zu_eq]
    · rw [zu_eq, zu_eq, zu_ne (by omega), zu_ne (by omega)]; exact h2
  unfold D_X3_fail D_X8_bad
  by_cases q : A Q 6 = 4
  · rw [if_pos q, if_pos (h1.mp q)]
    exact ⟨_, rfl, _, rfl, rfl, rfl, key 1⟩
  · rw [if_neg q, if_neg (fun z => q (h1.mpr z))]
    exact ⟨_, rfl, _, rfl, rfl, rfl, key v⟩
/-! NAMES: two words that stand for one name -/
def nmR (t : Nat → Int32) (x y : Int64) : Prop := ∃ s k, dgs (cdg t s) k ∧ x.toInt = eC 27 (cdg t s) k ∧ y.toInt = eC 32 (cdg t s) k
theorem nmR.iff {t : Nat → Int32} {x y x' y' : Int64} (h : nmR t x y) (h' : nmR t x' y') : x = x' ↔ y = y' := by
  obtain ⟨s, k, d, e1, e2⟩ := h
  obtain ⟨s', k', d', e1', e2'⟩ := h'
  rw [← Int64.toInt_inj, ← Int64.toInt_inj, e1, e2, e1', e2']
  exact eC_iff d d'
def cFind (Qr : Nat) (N : zNt) (c : Nat) (w : Int64) (r : Int32) : Prop := (r = -1 ∧ ∀ i, i < c → ¬ N Qr i = w) ∨ ∃ i, i < c ∧ r = nI i ∧ N Qr i = w
theorem s_findL {Qr nQ Pr nP c : Nat} {t : Nat → Int32} {N NB : zNt} {w w' : Int64} (hQ : c ≤ nQ) (hP : c ≤ nP) (hQ2 : nQ < 1000) (hP2 : nP < 1000) (hw : nmR t w w') (hn : ∀ i, i < c → nmR t (N Qr i) (NB Pr i)) : ∀ (u i : Nat), i ≤ c → c - i < u → (∀ i', i' < i → ¬ N Qr i' = w) → ∃ r, D_X3_find_3 Qr nQ N u (nI c) w (nI i) = some r ∧ D_X8_found_3 Pr nP NB u (nI c) w' (nI i) = some r ∧ cFind Qr N c w r := by
  intro u
  induction u with
  | zero => intro i _ h; omega
  | succ u ih =>
    intro i hi hu hp
    rw [D_X3_find_3, D_X8_found_3]
    by_cases hc : c ≤ i
    · rw [if_pos ((nI_leI (by omega) (by omega)).mpr hc), if_pos ((nI_leI (by omega) (by omega)).mpr hc)]
      exact ⟨_, rfl, rfl, Or.inl ⟨rfl, fun i' h => hp i' (by omega)⟩⟩
    · have hne : ¬ nI c ≤ nI i := fun q => hc ((nI_leI (by omega) (by omega)).mp q)
      rw [if_neg hne, if_neg hne, zrd_nI (by omega) (by omega)]
      unfold zI
      rw [if_neg (vp_in_nI (by omega) (by omega)), nI_clamp (by omega), nI_add1]
      have hiff := (hn i (by omega)).iff hw
      by_cases q : N Qr i = w
      · rw [if_pos ((lg_cmp_eq _ _).mpr q), if_pos ((lg_cmp_eq _ _).mpr (hiff.mp q))]
        exact ⟨_, rfl, rfl, Or.inr ⟨i, by omega, rfl, q⟩⟩
      · rw [if_neg (fun z => q ((lg_cmp_eq _ _).mp z)), if_neg (fun z => q (hiff.mpr ((lg_cmp_eq _ _).mp z)))]
        exact ih (i + 1) (by omega) (by omega) (fun i' h => by
          by_cases z : i' = i
          · subst z; exact q
          · exact hp i' (by omega))
theorem s_find {Qr nQ Pr nP c : Nat} {t : Nat → Int32} {N NB : zNt} {w w' : Int64} (hQ : c ≤ nQ) (hP : c ≤ nP) (hQ2 : nQ < 1000) (hP2 : nP < 1000) (hw : nmR t w w') (hn : ∀ i, i < c → nmR t (N Qr i) (NB Pr i)) : ∃ r, D_X3_find Qr nQ N (nI c) w = some r ∧ D_X8_found Pr nP NB (nI c) w' = some r ∧ cFind Qr N c w r :=
  s_findL hQ hP hQ2 hP2 hw hn zFu 0 (Nat.zero_le c) (by unfold zFu; omega) (fun i' h => by omega)
theorem tW.nm {Q P n : Nat} {t : Nat → Int32} {A B : zMt} {NA NB : zNt} {s k : Nat} (h : tW Q P n t A NA B NB s k) : nmR t (NA Q 8) (NB P 24) := ⟨s, k, h.2.2.2.2.2.2.2.1, h.2.2.2.2.2.2.2.2.1, h.2.2.2.2.2.2.2.2.2.1⟩
/-! THE LIST as both have read it so far -/
def wsh (A B : zMt) (Q P h base : Nat) : Prop := ∃ c, c ≤ 3 ∧ A (Q + 6) h = nI c ∧ (∀ k, k < 3 → A (Q + 7) (3 * h + k) = B (P + 2) (base + k)) ∧ (∀ k, k < 3 → (k < c ↔ ¬ B (P + 2) (base + k) = -1))
/-- counts -/
def dC (Q P : Nat) (A B : zMt) (U H G : Nat) : Prop := U ≤ 5 ∧ H ≤ 10 ∧ G ≤ 4 ∧ A (Q + 1) 0 = nI U ∧ B P 28 = nI U ∧ A (Q + 1) 1 = nI H ∧ B P 29 = nI H ∧ A (Q + 1) 2 = nI G ∧ B P 30 = nI G
/-- names -/
def dN (Q P : Nat) (t : Nat → Int32) (NA NB : zNt) (U H G : Nat) : Prop := (∀ i, i < U → nmR t (NA (Q + 10) i) (NB (P + 8) i)) ∧ (∀ i, i < H → nmR t (NA (Q + 11) i) (NB (P + 9) i)) ∧ (∀ i, i < G → nmR t (NA (Q + 12) i) (NB (P + 10) i)) ∧ (∀ i j, i < H → j < G → ¬ NA (Q + 11) i = NA (Q + 12) j)
/-- the rows -/
def dR (Q P : Nat) (A B : zMt) (U H G : Nat) : Prop :=
  (∀ u, u < 5 → A (Q + 2) u = B (P + 2) (62 + u)) ∧
  (∀ h, h < 10 → A (Q + 3) h = B (P + 2) h) ∧
  (∀ h, h < H → A (Q + 4) h = B (P + 6) h ∧ (A (Q + 4) h = 0 ∨ A (Q + 4) h = 1)) ∧
  (∀ h, h < 10 → A (Q + 5) h = B (P + 2) (10 + h) ∧ (A (Q + 5) h = -1 ∨ ∃ g, g < G ∧ A (Q + 5) h = nI g) ∧ (h < H ∨ A (Q + 5) h = -1)) ∧
  (∀ h, h < 10 → A (Q + 5) h = -1 → wsh A B Q P h (20 + 3 * h)) ∧
  (∀ h g, h < 10 → g < G → A (Q + 5) h = nI g → wsh A B Q P h (50 + 3 * g)) ∧
  (∀ g k, G ≤ g → g < 4 → k < 3 → B (P + 2) (50 + 3 * g + k) = -1) ∧
  (∀ h, h < 10 → H ≤ h → A (Q + 6) h = 0) ∧
  (∀ g, g < G → ∃ h, h < H ∧ A (Q + 5) h = nI g) ∧
  (A (Q + 1) 3 = B (P + 2) 67 ∧ A (Q + 1) 4 = B (P + 2) 68 ∧ A (Q + 1) 5 = B (P + 2) 69) ∧
  (A (Q + 1) 6 = 0 ∧ B (P + 2) 71 = 0 ∧ (∀ h, h < 10 → A (Q + 8) h = -1 ∧ B (P + 2) (72 + h) = -1) ∧ (∀ u, U ≤ u → u < 5 → A (Q + 2) u = 0) ∧ (∀ h, H ≤ h → h < 10 → A (Q + 4) h = 0))
/-- what comes once -/
def dO (Q P : Nat) (A B : zMt) : Prop := (A Q 11 = 0 ↔ ¬ bitAt (B P 23) 5) ∧ (A Q 12 = 0 ↔ ¬ bitAt (B P 23) 6) ∧ (A Q 13 = 0 ↔ ¬ bitAt (B P 23) 7) ∧ (A Q 11 = 0 → A (Q + 1) 3 = 0)
def dD (Q P : Nat) (t : Nat → Int32) (A : zMt) (NA : zNt) (B : zMt) (NB : zNt) : Prop := (∃ U H G, dC Q P A B U H G ∧ dN Q P t NA NB U H G ∧ dR Q P A B U H G) ∧ dO Q P A B ∧ A Q 1 = 0 ∧ B P 21 = 0 ∧ A Q 2 = -1 ∧ B P 22 = -1
/-- a step leaves the list -/
def kA (Q : Nat) (A A' : zMt) : Prop := ∀ r j, ¬ (r = Q ∧ (j = 5 ∨ j = 6 ∨ j = 7 ∨ j = 9)) → ¬ r = Q + 13 → A' r j = A r j
def kB (P : Nat) (B B' : zMt) : Prop := ∀ r j, ¬ (r = P ∧ ((16 ≤ j ∧ j ≤ 20) ∨ j = 31)) → B' r j = B r j
def kNA (Q : Nat) (N N' : zNt) : Prop := ∀ r j, ¬ (r = Q ∧ (j = 8 ∨ j = 10)) → N' r j = N r j
def kNB (P : Nat) (N N' : zNt) : Prop := ∀ r j, ¬ (r = P ∧ (j = 24 ∨ j = 32)) → N' r j = N r j
theorem fq.kA {Q : Nat} {A A' : zMt} (h : fq Q A A') : kA Q A A' := fun r j q _ => h r j q
theorem fp.kB {P : Nat} {B B' : zMt} (h : fp P B B') : kB P B B' := fun r j q => h r j (by omega)
theorem fqn.kNA {Q : Nat} {N N' : zNt} (h : fqn Q N N') : kNA Q N N' := fun r j q => h r j (by omega)
theorem fpn.kNB {P : Nat} {N N' : zNt} (h : fpn P N N') : kNB P N N' := fun r j q => h r j (by omega)
theorem kA.tr {Q : Nat} {A A' A2 : zMt} (h : kA Q A A') (h' : kA Q A' A2) : kA Q A A2 := fun r j q z => (h' r j q z).trans (h r j q z)
theorem kB.tr {P : Nat} {B B' B2 : zMt} (h : kB P B B') (h' : kB P B' B2) : kB P B B2 := fun r j q => (h' r j q).trans (h r j q)
theorem kNA.tr {Q : Nat} {A A' A2 : zNt} (h : kNA Q A A') (h' : kNA Q A' A2) : kNA Q A A2 := fun r j q => (h' r j q).trans (h r j q)
theorem kNB.tr {P : Nat} {B B' B2 : zNt} (h : kNB P B B') (h' : kNB P B' B2) : kNB P B B2 := fun r j q => (h' r j q).trans (h r j q)
theorem kA.rf {Q : Nat} {A : zMt} : kA Q A A := fun _ _ _ _ => rfl
theorem kB.rf {P : Nat} {B : zMt} : kB P B B := fun _ _ _ => rfl
theorem kNA.rf {Q : Nat} {N : zNt} : kNA Q N N := fun _ _ _ => rfl
theorem kNB.rf {P : Nat} {N : zNt} : kNB P N N := fun _ _ _ => rfl
theorem tx.k {Q n : Nat} {t : Nat → Int32} {A A' : zMt} (h : tx Q n t A) (k : kA Q A A') : tx Q n t A' := h.mono (fun a j q => k a j (by omega) (by omega))
theorem ty.k {P n : Nat} {t : Nat → Int32} {B B' : zMt} (h : ty P n t B) (k : kB P B B') : ty P n t B' := h.mono (fun a j q => k a j (by omega))
theorem wsh.k {A A' B B' : zMt} {Q P h base : Nat} (w : wsh A B Q P h base) (a6 : A' (Q + 6) h = A (Q + 6) h) (a7 : ∀ k, k < 3 → A' (Q + 7) (3 * h + k) = A (Q + 7) (3 * h + k)) (b : ∀ k, k < 3 → B' (P + 2) (base + k) = B (P + 2) (base + k)) : wsh A' B' Q P h base := by
  obtain ⟨c, h1, h2, h3, h4⟩ := w
  refine ⟨c, h1, by rw [a6]; exact h2, fun k hk => ?_, fun k hk => ?_⟩
  · rw [a7 k hk, b k hk]; exact h3 k hk
  · rw [b k hk]; exact h4 k hk
theorem dC.k {Q P : Nat} {A A' B B' : zMt} {U H G : Nat} (h : dC Q P A B U H G) (a : kA Q A A') (b : kB P B B') : dC Q P A' B' U H G := by
  unfold dC
  rw [a (Q + 1) 0 (by omega) (by omega), a (Q + 1) 1 (by omega) (by omega), a (Q + 1) 2 (by omega) (by omega), b P 28 (by omega), b P 29 (by omega), b P 30 (by omega)]
  exact h
theorem dN.k {Q P : Nat} {t : Nat → Int32} {NA NA' NB NB' : zNt} {U H G : Nat} (h : dN Q P t NA NB U H G) (a : kNA Q NA NA') (b : kNB P NB NB') : dN Q P t NA' NB' U H G := by
  obtain ⟨h1, h2, h3, h4⟩ := h
  refine ⟨fun i hi => ?_, fun i hi => ?_, fun i hi => ?_, fun i j hi hj => ?_⟩
  · rw [a (Q + 10) i (by omega), b (P + 8) i (by omega)]; exact h1 i hi
  · rw [a (Q + 11) i (by omega), b (P + 9) i (by omega)]; exact h2 i hi
  · rw [a (Q + 12) i (by omega), b (P + 10) i (by omega)]; exact h3 i hi
  · rw [a (Q + 11) i (by omega), a (Q + 12) j (by omega)]; exact h4 i j hi hj
theorem dR.k {Q P : Nat} {A A' B B' : zMt} {U H G : Nat} (h : dR Q P A B U H G) (a : kA Q A A') (b : kB P B B') : dR Q P A' B' U H G := by
  have ea : ∀ i, (1 ≤ i ∧ i ≤ 8) → A' (Q + i) = A (Q + i) := fun i hi => funext fun j => a (Q + i) j (by omega) (by omega)
  have eb : B' (P + 2) = B (P + 2) := funext fun j => b (P + 2) j (by omega)
  have eb6 : B' (P + 6) = B (P + 6) := funext fun j => b (P + 6) j (by omega)
  unfold dR wsh
  rw [ea 1 (by omega), ea 2 (by omega), ea 3 (by omega), ea 4 (by omega), ea 5 (by omega), ea 6 (by omega), ea 7 (by omega), ea 8 (by omega), eb, eb6]
  exact h
theorem dO.k {Q P : Nat} {A A' B B' : zMt} (h : dO Q P A B) (a : kA Q A A') (b : kB P B B') : dO Q P A' B' := by
  unfold dO
  rw [a Q 11 (by omega) (by omega), a Q 12 (by omega) (by omega), a Q 13 (by omega) (by omega), a (Q + 1) 3 (by omega) (by omega), b P 23 (by omega)]
  exact h
theorem dD.k {Q P : Nat} {t : Nat → Int32} {A A' B B' : zMt} {NA NA' NB NB' : zNt} (h : dD Q P t A NA B NB) (a : kA Q A A') (na : kNA Q NA NA') (b : kB P B B') (nb : kNB P NB NB') : dD Q P t A' NA' B' NB' := by
  obtain ⟨⟨U, H, G, h1, h2, h3⟩, h4, h5, h6, h7, h8⟩ := h
  refine ⟨⟨U, H, G, h1.k a b, h2.k na nb, h3.k a b⟩, h4.k a b, ?_, ?_, ?_, ?_⟩
  · rw [a Q 1 (by omega) (by omega)]; exact h5
  · rw [b P 21 (by omega)]; exact h6
  · rw [a Q 2 (by omega) (by omega)]; exact h7
  · rw [b P 22 (by omega)]; exact h8
/-- a step, with all that is held -/
def stp (Q P n : Nat) (t : Nat → Int32) (A : zMt) (NA : zNt) (B : zMt) (NB : zNt) (a : zMt × zNt) (b : Int32 × zMt × zNt) : Prop :=
  b.1 = 1 ∧ kA Q A a.1 ∧ kNA Q NA a.2 ∧ kB P B b.2.1 ∧ kNB P NB b.2.2 ∧ tx Q n t a.1 ∧ ty P n t b.2.1 ∧ tk Q P n t a.1 a.2 b.2.1 b.2.2 ∧ a.2 Q 10 = NA Q 10 ∧ b.2.2 P 32 = NB P 32 ∧ b.2.1 P 31 = B P 31 ∧ (∀ j, a.1 (Q + 13) j = A (Q + 13) j) ∧ (a.1 Q 9 = A Q 9 ∨ a.1 Q 6 = 2 ∨ a.1 Q 6 = 4)
theorem r_step {Q P n : Nat} {t : Nat → Int32} {A B : zMt} {NA NB : zNt} (hX : tx Q n t A) (hY : ty P n t B) (hN : nx Q P n A B) : ∃ a, D_X3_step Q A NA = some a ∧ ∃ b, D_X8_next P B NB = some b ∧ stp Q P n t A NA B NB a b := by
  obtain ⟨a, h1, b, h2, h3, h4, h5, h6, h7, h9, h8⟩ := s_step (NA := NA) (NB := NB) hX hY hN
  exact ⟨a, h1, b, h2, h3, h4.kA, h5.kNA, h6.kB, h7.kNB, hX.k h4.kA, hY.k h6.kB, h8, h5 Q 10 (by omega), h7 P 32 (by omega), h6 P 31 (by omega), fun j => h4 (Q + 13) j (by omega), h9⟩
/-- at the head of a line: where no line can begin, the list doesn't matter any more -/
def RLn (Q P n : Nat) (t : Nat → Int32) (A : zMt) (NA : zNt) (B : zMt) (NB : zNt) : Prop := tx Q n t A ∧ ty P n t B ∧ tk Q P n t A NA B NB ∧ (A Q 6 = 2 ∨ A Q 6 = 4 ∨ dD Q P t A NA B NB)
/-! two readings side by side -/
def two {α β : Type} (X : Option α) (Y : Option β) (R : α → β → Prop) : Prop := ∃ a, X = some a ∧ ∃ b, Y = some b ∧ R a b
theorem two.mk {α β : Type} {a : α} {b : β} {R : α → β → Prop} (h : R a b) : two (some a) (some b) R := ⟨a, rfl, b, rfl, h⟩
theorem two.imp {α β : Type} {X : Option α} {Y : Option β} {R R' : α → β → Prop} (h : two X Y R) (k : ∀ a b, R a b → R' a b) : two X Y R' := by
  obtain ⟨a, h1, b, h2, h3⟩ := h
  exact ⟨a, h1, b, h2, k a b h3⟩
theorem two.bind {α β γ δ : Type} {X : Option α} {Y : Option β} {f : α → Option γ} {g : β → Option δ} {R : α → β → Prop} {R' : γ → δ → Prop} (h : two X Y R) (k : ∀ a b, R a b → two (f a) (g b) R') : two (zB X f) (zB Y g) R' := by
  obtain ⟨a, h1, b, h2, h3⟩ := h
  rw [h1, h2]
  exact k a b h3
theorem two.l {α β γ : Type} {X : Option α} {e : α} {Y : Option β} {f : α → Option γ} {R : γ → β → Prop} (h : X = some e) (k : two (f e) Y R) : two (zB X f) Y R := by rw [h]; exact k
theorem two.r {α β γ : Type} {X : Option α} {e : γ} {Y : Option γ} {f : γ → Option β} {R : α → β → Prop} (h : Y = some e) (k : two X (f e) R) : two X (zB Y f) R := by rw [h]; exact k
theorem two.ite {α β : Type} {X X' : Option α} {Y Y' : Option β} {R : α → β → Prop} {c d : Prop} [Decidable c] [Decidable d] (h : c ↔ d) (h1 : c → two X Y R) (h2 : ¬ c → two X' Y' R) : two (if c then X else X') (if d then Y else Y') R := by
  by_cases q : c
  · rw [if_pos q, if_pos (h.mp q)]; exact h1 q
  · rw [if_neg q, if_neg (fun z => q (h.mpr z))]; exact h2 q
theorem two.il {α β : Type} {i : Int32} {n : Nat} {X : Option α} {Y : Option β} {R : α → β → Prop} (hi : vp_in i n) (h : two X Y R) : two (zI i n X) Y R := by
  unfold zI
  rw [if_neg hi]
  exact h
theorem two.ir {α β : Type} {i : Int32} {n : Nat} {X : Option α} {Y : Option β} {R : α → β → Prop} (hi : vp_in i n) (h : two X Y R) : two X (zI i n Y) R := by
  unfold zI
  rw [if_neg hi]
  exact h
theorem nI_ne {k : Nat} (h : k < 2147483648) : ¬ nI k = -1 := fun z => by
  have := congrArg Int32.toInt z
  rw [nI_toInt h, show (-1 : Int32).toInt = -1 by decide] at this
  omega
theorem cFind.none {Qr c : Nat} {N : zNt} {w : Int64} {r : Int32} (h : cFind Qr N c w r) (hc : c < 1000) (e : r = -1) : ∀ i, i < c → ¬ N Qr i = w := by
  rcases h with ⟨_, h⟩ | ⟨i, h1, h2, _⟩
  · exact h
  · exact absurd (h2.symm.trans e) (nI_ne (by omega))
theorem cFind.some {Qr c : Nat} {N : zNt} {w : Int64} {r : Int32} (h : cFind Qr N c w r) (e : ¬ r = -1) : ∃ i, i < c ∧ r = nI i ∧ N Qr i = w := by
  rcases h with ⟨h, _⟩ | h
  · exact absurd h e
  · exact h
/-- both fail alike -/
def FL (Q P : Nat) (a b : Int32 × zMt × zNt) : Prop := a.1 = 0 ∧ b.1 = 0 ∧ FR Q P a.2.1 b.2.1
theorem t_fail {Q P n : Nat} {t : Nat → Int32} {A B : zMt} {NA NB : zNt} {v : Int32} (hK : tk Q P n t A NA B NB) : two (zB (D_X3_fail Q v A) fun e => some (e.1, e.2, NA)) (zB (D_X8_bad P v B) fun e => some (e.1, e.2, NB)) (FL Q P) := by
  obtain ⟨a, h1, b, h2, h3, h4, h5⟩ := s_fail (v := v) hK
  rw [h1, h2]
  exact two.mk ⟨h3, h4, h5⟩
theorem t_failO {Q P n : Nat} {t : Nat → Int32} {A B : zMt} {NA NB : zNt} {v : Int32} {R : Int32 × zMt × zNt → Int32 × zMt × zNt → Prop} (hK : tk Q P n t A NA B NB) : two (zB (D_X3_fail Q v A) fun e => some (e.1, e.2, NA)) (zB (D_X8_bad P v B) fun e => some (e.1, e.2, NB)) (fun a b => FL Q P a b ∨ R a b) := (t_fail hK).imp (fun _ _ h => Or.inl h)
theorem t_step {Q P n : Nat} {t : Nat → Int32} {A B : zMt} {NA NB : zNt} (hX : tx Q n t A) (hY : ty P n t B) (hN : nx Q P n A B) : two (D_X3_step Q A NA) (D_X8_next P B NB) (stp Q P n t A NA B NB) := r_step hX hY hN
/-! what kind of token -/
theorem tk.num {Q P n : Nat} {t : Nat → Int32} {A B : zMt} {NA NB : zNt} (hK : tk Q P n t A NA B NB) : (A Q 6 = 2 ↔ B P 18 = 3) ∧ (A Q 6 = 2 → ∃ x, tN Q P n A B x) := by
  obtain ⟨s, hs, h7, h16, hK⟩ := hK
  rcases hK with ⟨h1, h2⟩ | ⟨h1, h2⟩ | ⟨k, h1, h2, -⟩ | ⟨x, hx⟩ | ⟨x, h1, h2, -⟩
  · rw [h1, h2]; exact ⟨by decide, fun z => absurd z (by decide)⟩
  · rw [h1, h2]; exact ⟨by decide, fun z => absurd z (by decide)⟩
  · rw [h1, h2]; exact ⟨by decide, fun z => absurd z (by decide)⟩
  · refine ⟨?_, fun _ => ⟨x, hx⟩⟩
    rw [hx.1, hx.2.1]; decide
  · rw [h1, h2]; exact ⟨by decide, fun z => absurd z (by decide)⟩
theorem tk.sgn {Q P n : Nat} {t : Nat → Int32} {A B : zMt} {NA NB : zNt} (hK : tk Q P n t A NA B NB) : (A Q 6 = 3 ↔ B P 18 = 4) ∧ (A Q 6 = 3 → ∃ x, tS Q P n A B x) := by
  obtain ⟨s, hs, h7, h16, hK⟩ := hK
  rcases hK with ⟨h1, h2⟩ | ⟨h1, h2⟩ | ⟨k, h1, h2, -⟩ | ⟨x, h1, h2, -⟩ | ⟨x, hx⟩
  · rw [h1, h2]; exact ⟨by decide, fun z => absurd z (by decide)⟩
  · rw [h1, h2]; exact ⟨by decide, fun z => absurd z (by decide)⟩
  · rw [h1, h2]; exact ⟨by decide, fun z => absurd z (by decide)⟩
  · rw [h1, h2]; exact ⟨by decide, fun z => absurd z (by decide)⟩
  · refine ⟨?_, fun _ => ⟨x, hx⟩⟩
    rw [hx.1, hx.2.1]; decide
theorem tk.wrd {Q P n : Nat} {t : Nat → Int32} {A B : zMt} {NA NB : zNt} (hK : tk Q P n t A NA B NB) : (A Q 6 = 1 ↔ B P 18 = 2) ∧ (A Q 6 = 1 → ∃ s k, A Q 7 = nI s ∧ tW Q P n t A NA B NB s k) := by
  obtain ⟨s, hs, h7, h16, hK⟩ := hK
  rcases hK with ⟨h1, h2⟩ | ⟨h1, h2⟩ | ⟨k, hx⟩ | ⟨x, h1, h2, -⟩ | ⟨x, h1, h2, -⟩
  · rw [h1, h2]; exact ⟨by decide, fun z => absurd z (by decide)⟩
  · rw [h1, h2]; exact ⟨by decide, fun z => absurd z (by decide)⟩
  · refine ⟨?_, fun _ => ⟨s, k, h7, hx⟩⟩
    rw [hx.1, hx.2.1]; decide
  · rw [h1, h2]; exact ⟨by decide, fun z => absurd z (by decide)⟩
  · rw [h1, h2]; exact ⟨by decide, fun z => absurd z (by decide)⟩
theorem say_one : ∀ j, j < 8 → ∀ j', j' < 8 → zLen.getD j 0 = zLen.getD j' 0 → (∀ i, i < zLen.getD j 0 → zCh j i = zCh j' i) → j = j' := by decide +kernel
theorem wh.iff {t : Nat → Int32} {s k j : Nat} {w : Int32} (h : wh t s k w) (hj : j < 8) : w = nI j ↔ say t s k j := by
  rcases h with ⟨m, h1, h2, h3⟩ | ⟨h1, h2⟩
  · constructor
    · intro e
      have : m = j := nI_inj (by omega) (by omega) (h2.symm.trans e)
      subst this
      exact h3
    · intro h4
      have : m = j := say_one m h1 j hj (h3.1.symm.trans h4.1) (fun i hi => (h3.2 i (by rw [h3.1]; exact hi)).symm.trans (h4.2 i (by rw [h3.1]; exact hi)))
      rw [h2, this]
  · constructor
    · intro e
      exact absurd (e.symm.trans h1) (nI_ne (by omega))
    · intro h4
      exact absurd h4 (h2 j hj)
/-! parts of lines -/
theorem t_number {Q P n : Nat} {t : Nat → Int32} {A B : zMt} {NA NB : zNt} {m : Int32} (hX : tx Q n t A) (hY : ty P n t B) (hK : tk Q P n t A NA B NB) (hm : 0 ≤ m.toInt) : two (D_X3_numberUpTo Q m A NA) (D_X8_number P 0 m B NB) (fun a b => FL Q P a b ∨ (a.1 = 1 ∧ ∃ B', kB P B B' ∧ B' P 31 = B P 20 ∧ 0 ≤ (B P 20).toInt ∧ (B P 20).toInt ≤ m.toInt ∧ A Q 9 = B P 20 ∧ stp Q P n t A NA B' NB (a.2.1, a.2.2) b)) := by
  unfold D_X3_numberUpTo D_X8_number
  refine two.ite hK.num.1 (fun h2 => ?_) (fun _ => t_failO hK)
  obtain ⟨x, hx⟩ := hK.num.2 h2
  obtain ⟨-, -, -, -, -, e9, g0, g9⟩ := id hx
  have o0 : (0 : Int32).toInt = 0 := by decide
  obtain ⟨r, hr, q1, q2⟩ := v_X8_isFrom (v0 := Int32.toInt64 (B P 20)) (v1 := Int32.toInt64 0) (v2 := Int32.toInt64 m)
  rw [Int32.toInt_toInt64, Int32.toInt_toInt64, Int32.toInt_toInt64, o0] at q2
  refine two.r hr ?_
  by_cases hle : A Q 9 ≤ m
  · have hle2 := Int32.le_iff_toInt_le.mp hle
    have hr1 : ¬ r = 0 := fun z => by
      rcases q2 with ⟨w, _⟩ | ⟨_, w⟩
      · rw [z, o0] at w; omega
      · rw [e9] at g0 hle2; omega
    rw [if_pos hle, if_neg hr1]
    have kB' : kB P B (zu B P 31 (B P 20)) := fun r j h => zu_ne (by omega)
    obtain ⟨x', hx1, hx2, hx3⟩ := hx.nx
    refine two.bind (t_step (A := A) (B := zu B P 31 (B P 20)) (NA := NA) (NB := NB) hX (hY.k kB') ⟨x', hx1, hx2, (zu_ne (by omega)).trans hx3⟩) (fun a b h => two.mk (Or.inr ⟨rfl, zu B P 31 (B P 20), kB', zu_eq, by rw [← e9]; exact g0, by rw [← e9]; exact hle2, e9, h⟩))
  · have hr0 : r = 0 := by
      rcases q2 with ⟨_, _, w⟩ | ⟨w, _⟩
      · rw [← e9] at w; exact absurd (Int32.le_iff_toInt_le.mpr w) hle
      · exact Int32.toInt_inj.mp (w.trans o0.symm)
    rw [if_neg hle, if_pos hr0]
    exact t_failO hK
theorem t_end {Q P n : Nat} {t : Nat → Int32} {A B : zMt} {NA NB : zNt} {x1 : Int32} (hX : tx Q n t A) (hY : ty P n t B) (hK : tk Q P n t A NA B NB) (hx1 : ¬ x1 = 0) : two (D_X3_endOfLine Q A NA) (D_X8_readLine_114 P x1 B NB) (fun a b => FL Q P a b ∨ (a.1 = 1 ∧ A Q 6 = 3 ∧ stp Q P n t A NA B NB (a.2.1, a.2.2) b)) := by
  unfold D_X3_endOfLine D_X8_readLine_114
  rw [if_neg hx1]
  refine two.ite hK.sgn.1 (fun h2 => ?_) (fun _ => t_failO hK)
  obtain ⟨x, hx⟩ := hK.sgn.2 h2
  exact two.bind (t_step (NA := NA) (NB := NB) hX hY hx.nx) (fun a b h => two.mk (Or.inr ⟨rfl, h2, h⟩))
theorem s_taken {Q P : Nat} {t : Nat → Int32} {A B : zMt} {NA NB : zNt} {U H G : Nat} {w : Int64} (hC : dC Q P A B U H G) (hN : dN Q P t NA NB U H G) (hw : nmR t w (NB P 24)) : ∃ r, D_X3_isTaken Q A NA w = some r ∧ D_X8_isTaken P B NB = some r ∧ (r = 0 → (∀ i, i < U → ¬ NA (Q + 10) i = w) ∧ (∀ i, i < H → ¬ NA (Q + 11) i = w) ∧ (∀ i, i < G → ¬ NA (Q + 12) i = w)) := by
  obtain ⟨c1, c2, c3, c4, c5, c6, c7, c8, c9⟩ := hC
  obtain ⟨n1, n2, n3, n4⟩ := hN
  obtain ⟨r1, e1, f1, k1⟩ := s_find (Qr := Q + 10) (nQ := 5) (Pr := P + 8) (nP := 5) (c := U) c1 c1 (by omega) (by omega) hw n1
  obtain ⟨r2, e2, f2, k2⟩ := s_find (Qr := Q + 11) (nQ := 10) (Pr := P + 9) (nP := 10) (c := H) c2 c2 (by omega) (by omega) hw n2
  obtain ⟨r3, e3, f3, k3⟩ := s_find (Qr := Q + 12) (nQ := 4) (Pr := P + 10) (nP := 4) (c := G) c3 c3 (by omega) (by omega) hw n3
  unfold D_X3_isTaken D_X8_isTaken
  rw [c4, c5, c6, c7, c8, c9, zB_s e1, zB_s f1]
  by_cases q1 : r1 = -1
  · rw [if_pos q1, if_pos q1, zB_s e2, zB_s f2]
    by_cases q2 : r2 = -1
    · rw [if_pos q2, if_pos q2, zB_s e3, zB_s f3]
      by_cases q3 : r3 = -1
      · rw [if_pos q3, if_pos q3]
        exact ⟨0, rfl, rfl, fun _ => ⟨k1.none (by omega) q1, k2.none (by omega) q2, k3.none (by omega) q3⟩⟩
      · rw [if_neg q3, if_neg q3]
        exact ⟨1, rfl, rfl, fun z => absurd z (by decide)⟩
    · rw [if_neg q2, if_neg q2]
      exact ⟨1, rfl, rfl, fun z => absurd z (by decide)⟩
  · rw [if_neg q1, if_neg q1]
    exact ⟨1, rfl, rfl, fun z => absurd z (by decide)⟩
theorem t_newName {Q P n : Nat} {t : Nat → Int32} {A B : zMt} {NA NB : zNt} {U H G : Nat} (hX : tx Q n t A) (hY : ty P n t B) (hK : tk Q P n t A NA B NB) (hC : dC Q P A B U H G) (hN : dN Q P t NA NB U H G) : two (D_X3_readNewName Q A NA) (D_X8_newName P B NB) (fun a b => FL Q P a b ∨ (a.1 = 1 ∧ ∃ NA' NB', kNA Q NA NA' ∧ kNB P NB NB' ∧ nmR t (NA' Q 10) (NB' P 32) ∧ (∀ i, i < U → ¬ NA (Q + 10) i = NA' Q 10) ∧ (∀ i, i < H → ¬ NA (Q + 11) i = NA' Q 10) ∧ (∀ i, i < G → ¬ NA (Q + 12) i = NA' Q 10) ∧ stp Q P n t A NA' B NB' (a.2.1, a.2.2) b)) := by
  unfold D_X3_readNewName D_X8_newName
  obtain ⟨r, e1, e2, hr⟩ := s_isName hX hK
  refine two.l e1 (two.r e2 ?_)
  by_cases h0 : r = 0
  · rw [if_pos h0, if_pos h0]
    exact t_failO hK
  · rw [if_neg h0, if_neg h0]
    obtain ⟨-, s, k, h7, h16, hW⟩ := hr.resolve_left h0
    obtain ⟨r2, g1, g2, hr2⟩ := s_taken hC hN hW.nm
    refine two.l g1 (two.r g2 ?_)
    by_cases h2 : r2 = 0
    · rw [if_pos h2, if_pos h2]
      obtain ⟨k1, k2, k3⟩ := hr2 h2
      have ka : kNA Q NA (zu NA Q 10 (NA Q 8)) := fun r j h => zu_ne (by omega)
      have kb : kNB P NB (zu NB P 32 (NB P 24)) := fun r j h => zu_ne (by omega)
      have hnm := hW.nm
      refine two.bind (t_step (A := A) (B := B) (NA := zu NA Q 10 (NA Q 8)) (NB := zu NB P 32 (NB P 24)) hX hY hW.nx) (fun a b h => two.mk (Or.inr ⟨rfl, _, _, ka, kb, ?_, ?_, ?_, ?_, h⟩))
      · rw [zu_eq, zu_eq]; exact hnm
      · rw [zu_eq]; exact k1
      · rw [zu_eq]; exact k2
      · rw [zu_eq]; exact k3
    · rw [if_neg h2, if_neg h2]
      exact t_failO hK
/-! LINES -/
theorem zB_zB {α β γ : Type} {o : Option α} {f : α → Option β} {g : β → Option γ} : zB (zB o f) g = zB o (fun e => zB (f e) g) := by cases o <;> rfl
theorem zB_if {α β : Type} {c : Prop} [Decidable c] {X Y : Option α} {g : α → Option β} : zB (if c then X else Y) g = if c then zB X g else zB Y g := by
  by_cases h : c
  · rw [if_pos h, if_pos h]
  · rw [if_neg h, if_neg h]
theorem zB_zI {α β : Type} {i : Int32} {n : Nat} {o : Option α} {g : α → Option β} : zB (zI i n o) g = zI i n (zB o g) := by
  unfold zI
  by_cases h : i < 0 ∨ n ≤ i.toNatClampNeg
  · rw [if_pos h, if_pos h]
    rfl
  · rw [if_neg h, if_neg h]
theorem zB_zLt {α β γ : Type} {a : α} {f : α → Option β} {g : β → Option γ} : zB (zLt a f) g = zLt a (fun x => zB (f x) g) := rfl
theorem two.letr {α β γ : Type} {X : Option α} {a : γ} {f : γ → Option β} {R : α → β → Prop} (h : two X (f a) R) : two X (zLt a f) R := h
theorem two.letl {α β γ : Type} {Y : Option β} {a : γ} {f : γ → Option α} {R : α → β → Prop} (h : two (f a) Y R) : two (zLt a f) Y R := h
theorem two.bindl {α β γ : Type} {X : Option α} {Y : Option β} {f : α → Option γ} {R : α → β → Prop} {R' : γ → β → Prop} (h : two X Y R) (k : ∀ a b, R a b → two (f a) (some b) R') : two (zB X f) Y R' := by
  obtain ⟨a, h1, b, h2, h3⟩ := h
  rw [h1, h2]
  exact k a b h3
def LR (Q P n : Nat) (t : Nat → Int32) (a b : Int32 × zMt × zNt) : Prop := FL Q P a b ∨ (a.1 = 1 ∧ b.1 = 1 ∧ RLn Q P n t a.2.1 a.2.2 b.2.1 b.2.2)
theorem t_dn {Q P n : Nat} {t : Nat → Int32} {a b : Int32 × zMt × zNt} (h : FL Q P a b) : two (some ((0 : Int32), a.2.1, a.2.2)) (D_X8_readLine_114 P (0 : Int32) b.2.1 b.2.2) (LR Q P n t) := by
  unfold D_X8_readLine_114
  rw [if_pos rfl]
  exact two.mk (Or.inl ⟨rfl, rfl, h.2.2⟩)
theorem t_dn2 {Q P n : Nat} {t : Nat → Int32} {a b : Int32 × zMt × zNt} (h : FL Q P a b) : two (some a) (D_X8_readLine_114 P b.1 b.2.1 b.2.2) (LR Q P n t) := by
  unfold D_X8_readLine_114
  rw [if_pos h.2.1]
  exact two.mk (Or.inl ⟨h.1, rfl, h.2.2⟩)
theorem tk.mono {Q P n : Nat} {t : Nat → Int32} {A A' B B' : zMt} {NA NA' NB NB' : zNt} (h : tk Q P n t A NA B NB) (a : ∀ j, (j = 5 ∨ j = 6 ∨ j = 7 ∨ j = 9) → A' Q j = A Q j) (na : NA' Q 8 = NA Q 8) (b : ∀ j, (16 ≤ j ∧ j ≤ 20) → B' P j = B P j) (nb : NB' P 24 = NB P 24) : tk Q P n t A' NA' B' NB' := by
  unfold tk tW tN tS
  rw [a 5 (by omega), a 6 (by omega), a 7 (by omega), a 9 (by omega), na, b 16 (by omega), b 17 (by omega), b 18 (by omega), b 19 (by omega), b 20 (by omega), nb]
  exact h
/-- from the head of a line to its end, but for what the line itself adds -/
def gA (Q : Nat) (X : Nat → Nat → Prop) (A A' : zMt) : Prop := ∀ r j, ¬ (r = Q ∧ (j = 5 ∨ j = 6 ∨ j = 7 ∨ j = 9)) → ¬ r = Q + 13 → ¬ X r j → A' r j = A r j
def gB (P : Nat) (X : Nat → Nat → Prop) (B B' : zMt) : Prop := ∀ r j, ¬ (r = P ∧ ((16 ≤ j ∧ j ≤ 20) ∨ j = 31)) → ¬ X r j → B' r j = B r j
def gN (Q i k : Nat) (X : Nat → Nat → Prop) (N N' : zNt) : Prop := ∀ r j, ¬ (r = Q ∧ (j = i ∨ j = k)) → ¬ X r j → N' r j = N r j
theorem d_unit {Q P : Nat} {t : Nat → Int32} {A A' B B' : zMt} {NA NA' NB NB' : zNt} {U H G : Nat} {v : Int32} (hC : dC Q P A B U H G) (hN : dN Q P t NA NB U H G) (hR : dR Q P A B U H G) (hU : U < 5)
    (a : gA Q (fun r j => (r = Q + 1 ∧ j = 0) ∨ (r = Q + 2 ∧ j = U)) A A') (a0 : A' (Q + 1) 0 = nI (U + 1)) (a1 : A' (Q + 2) U = v)
    (na : gN Q 8 10 (fun r j => r = Q + 10 ∧ j = U) NA NA')
    (b : gB P (fun r j => (r = P ∧ j = 28) ∨ (r = P + 2 ∧ j = 62 + U)) B B') (b0 : B' P 28 = nI (U + 1)) (b1 : B' (P + 2) (62 + U) = v)
    (nb : gN P 24 32 (fun r j => r = P + 8 ∧ j = U) NB NB') (hn : nmR t (NA' (Q + 10) U) (NB' (P + 8) U)) : dC Q P A' B' (U + 1) H G ∧ dN Q P t NA' NB' (U + 1) H G ∧ dR Q P A' B' (U + 1) H G := by
  have a : ∀ r j, ¬ (r = Q ∧ (j = 5 ∨ j = 6 ∨ j = 7 ∨ j = 9)) → ¬ r = Q + 13 → ¬ ((r = Q + 1 ∧ j = 0) ∨ (r = Q + 2 ∧ j = U)) → A' r j = A r j := a
  have b : ∀ r j, ¬ (r = P ∧ ((16 ≤ j ∧ j ≤ 20) ∨ j = 31)) → ¬ ((r = P ∧ j = 28) ∨ (r = P + 2 ∧ j = 62 + U)) → B' r j = B r j := b
  have na : ∀ r j, ¬ (r = Q ∧ (j = 8 ∨ j = 10)) → ¬ (r = Q + 10 ∧ j = U) → NA' r j = NA r j := na
  have nb : ∀ r j, ¬ (r = P ∧ (j = 24 ∨ j = 32)) → ¬ (r = P + 8 ∧ j = U) → NB' r j = NB r j := nb
  obtain ⟨c1, c2, c3, c4, c5, c6, c7, c8, c9⟩ := hC
  obtain ⟨n1, n2, n3, n4⟩ := hN
  obtain ⟨r1, r2, r3, r4, r5, r6, r7, r8, r9, ⟨s1, s2, s3⟩, ⟨u1, u2, u3, u4, u5⟩⟩ := hR
  refine ⟨⟨by omega, c2, c3, a0, b0, ?_, ?_, ?_, ?_⟩, ⟨fun i hi => ?_, fun i hi => ?_, fun i hi => ?_, fun i j hi hj => ?_⟩, ⟨fun u hu => ?_, fun h hh => ?_, fun h hh => ?_, fun h hh => ?_, fun h hh he => ?_, fun h g hh hg he => ?_, fun g k h1 h2 h3 => ?_, fun h h1 h2 => ?_, fun g hg => ?_, ⟨?_, ?_, ?_⟩, ⟨?_, ?_, fun h hh => ⟨?_, ?_⟩, fun u hu1 hu2 => ?_, fun h hh1 hh2 => ?_⟩⟩⟩
  · rw [a (Q + 1) 1 (by omega) (by omega) (by omega)]; exact c6
  · rw [b P 29 (by omega) (by omega)]; exact c7
  · rw [a (Q + 1) 2 (by omega) (by omega) (by omega)]; exact c8
  · rw [b P 30 (by omega) (by omega)]; exact c9
  · by_cases q : i = U
    · subst q; exact hn
    · rw [na (Q + 10) i (by omega) (by omega), nb (P + 8) i (by omega) (by omega)]; exact n1 i (by omega)
  · rw [na (Q + 11) i (by omega) (by omega), nb (P + 9) i (by omega) (by omega)]; exact n2 i hi
  · rw [na (Q + 12) i (by omega) (by omega), nb (P + 10) i (by omega) (by omega)]; exact n3 i hi
  · rw [na (Q + 11) i (by omega) (by omega), na (Q + 12) j (by omega) (by omega)]; exact n4 i j hi hj
  · by_cases q : u = U
    · subst q; rw [a1, b1]
    · rw [a (Q + 2) u (by omega) (by omega) (by omega), b (P + 2) (62 + u) (by omega) (by omega)]; exact r1 u hu
  · rw [a (Q + 3) h (by omega) (by omega) (by omega), b (P + 2) h (by omega) (by omega)]; exact r2 h hh
  · rw [a (Q + 4) h (by omega) (by omega) (by omega), b (P + 6) h (by omega) (by omega)]; exact r3 h hh
  · rw [a (Q + 5) h (by omega) (by omega) (by omega), b (P + 2) (10 + h) (by omega) (by omega)]; exact r4 h hh
  · rw [a (Q + 5) h (by omega) (by omega) (by omega)] at he
    exact (r5 h hh he).k (a (Q + 6) h (by omega) (by omega) (by omega)) (fun k hk => a (Q + 7) _ (by omega) (by omega) (by omega)) (fun k hk => b (P + 2) _ (by omega) (by omega))
  · rw [a (Q + 5) h (by omega) (by omega) (by omega)] at he
    exact (r6 h g hh hg he).k (a (Q + 6) h (by omega) (by omega) (by omega)) (fun k hk => a (Q + 7) _ (by omega) (by omega) (by omega)) (fun k hk => b (P + 2) _ (by omega) (by omega))
  · rw [b (P + 2) (50 + 3 * g + k) (by omega) (by omega)]; exact r7 g k h1 h2 h3
  · rw [a (Q + 6) h (by omega) (by omega) (by omega)]; exact r8 h h1 h2
  · obtain ⟨h, h1, h2⟩ := r9 g hg
    exact ⟨h, h1, by rw [a (Q + 5) h (by omega) (by omega) (by omega)]; exact h2⟩
  · rw [a (Q + 1) 3 (by omega) (by omega) (by omega), b (P + 2) 67 (by omega) (by omega)]; exact s1
  · rw [a (Q + 1) 4 (by omega) (by omega) (by omega), b (P + 2) 68 (by omega) (by omega)]; exact s2
  · rw [a (Q + 1) 5 (by omega) (by omega) (by omega), b (P + 2) 69 (by omega) (by omega)]; exact s3
  · rw [a (Q + 1) 6 (by omega) (by omega) (by omega)]; exact u1
  · rw [b (P + 2) 71 (by omega) (by omega)]; exact u2
  · rw [a (Q + 8) h (by omega) (by omega) (by omega)]; exact (u3 h hh).1
  · rw [b (P + 2) (72 + h) (by omega) (by omega)]; exact (u3 h hh).2
  · rw [a (Q + 2) u (by omega) (by omega) (by omega)]; exact u4 u (by omega) hu2
  · rw [a (Q + 4) h (by omega) (by omega) (by omega)]; exact u5 h (by omega) hh2
/-- what comes once, and no fault yet, where these stay -/
theorem dO.g {Q P : Nat} {A A' B B' : zMt} (h : dO Q P A B) (a : ∀ j, (j = 11 ∨ j = 12 ∨ j = 13) → A' Q j = A Q j) (a3 : A' (Q + 1) 3 = A (Q + 1) 3) (b : B' P 23 = B P 23) : dO Q P A' B' := by
  unfold dO
  rw [a 11 (by omega), a 12 (by omega), a 13 (by omega), a3, b]
  exact h
theorem l_unit {Q P n : Nat} {t : Nat → Int32} {A B : zMt} {NA NB : zNt} (hX : tx Q n t A) (hY : ty P n t B) (hN : nx Q P n A B) {U H G : Nat} (hC : dC Q P A B U H G) (hM : dN Q P t NA NB U H G) (hR : dR Q P A B U H G) (hO : dO Q P A B) (hF : A Q 1 = 0 ∧ B P 21 = 0 ∧ A Q 2 = -1 ∧ B P 22 = -1) (hU : U < 5) : two (D_X3_readUnit Q A NA) (zB (D_X8_readUnit P B NB) fun e => D_X8_readLine_114 P e.1 e.2.1 e.2.2) (LR Q P n t) := by
  have hc5 : B P 28 = nI U := hC.2.2.2.2.1
  unfold D_X3_readUnit D_X8_readUnit
  rw [if_neg (by rw [hc5]; exact fun z => absurd (nI_inj (b := 5) (by omega) (by omega) z) (by omega)), zB_zB]
  refine two.bind (t_step hX hY hN) (fun a1 b1 h1 => ?_)
  obtain ⟨i1, ka1, kna1, kb1, knb1, x1, y1, k1, p1, q1, o1, w1, v1⟩ := h1
  rw [if_neg (by rw [i1]; decide), zB_zB]
  have hC1 := hC.k ka1 kb1
  have hM1 := hM.k kna1 knb1
  refine two.bind (t_newName x1 y1 k1 hC1 hM1) (fun a2 b2 h2 => ?_)
  rcases h2 with h2 | ⟨j2, NA', NB', kna', knb', hnm, f1, f2, f3, i2, ka2, kna2, kb2, knb2, x2, y2, k2, p2, q2, o2, w2, v2⟩
  · rw [if_pos h2.1, if_pos h2.2.1]
    exact t_dn (a := a2) (b := b2) h2
  rw [if_neg (by rw [j2]; decide), if_neg (by rw [i2]; decide), zB_zB]
  refine two.bind (t_number x2 y2 k2 (by decide)) (fun a3 b3 h3 => ?_)
  rcases h3 with h3 | ⟨j3, B', kb', e31, g0, g1, e9, i3, ka3, kna3, kb3, knb3, x3, y3, k3, p3, q3, o3, w3, v3⟩
  · rw [if_pos h3.1, if_pos h3.2.1]
    exact t_dn (a := a3) (b := b3) h3
  rw [if_neg (by rw [j3]; decide), if_neg (by rw [i3]; decide), zB_zI]
  have kA3 : kA Q A a3.2.1 := (ka1.tr ka2).tr ka3
  have kB3 : kB P B b3.2.1 := ((kb1.tr kb2).tr kb').tr kb3
  have kNA3 : kNA Q NA a3.2.2 := ((kna1.tr kna').tr kna2).tr kna3
  have kNB3 : kNB P NB b3.2.2 := ((knb1.tr knb').tr knb2).tr knb3
  have c28 : b3.2.1 P 28 = nI U := (kB3 P 28 (by omega)).trans hc5
  have cU : a3.2.1 (Q + 1) 0 = nI U := (kA3 (Q + 1) 0 (by omega) (by omega)).trans hC.2.2.2.1
  have e62 : (62 : Int32) + nI U = nI (62 + U) := (show ∀ k, k < 5 → (62 : Int32) + nI k = nI (62 + k) by decide) U hU
  rw [c28]
  refine two.ir (vp_in_nI hU (by decide)) ?_
  rw [zB_zLt]
  refine two.letr ?_
  rw [zB_zI, e62]
  refine two.ir (vp_in_nI (by omega) (by decide)) ?_
  rw [zB_zLt]
  refine two.letr ?_
  rw [zB_zLt]
  refine two.letr ?_
  rw [nI_clamp (by omega), nI_clamp (by omega)]
  have c28' : zu b3.2.1 (P + 2) (62 + U) (b3.2.1 P 31) P 28 = nI U := (zu_ne (by omega)).trans c28
  rw [c28', nI_add1]
  show two _ (D_X8_readLine_114 P (1 : Int32) (zu (zu b3.2.1 (P + 2) (62 + U) (b3.2.1 P 31)) P 28 (nI (U + 1))) (zu b3.2.2 (P + 8) U (b3.2.2 P 32))) _
  have kM : ∀ r j, ¬ ((r = P + 2 ∧ j = 62 + U) ∨ (r = P ∧ j = 28)) → zu (zu b3.2.1 (P + 2) (62 + U) (b3.2.1 P 31)) P 28 (nI (U + 1)) r j = b3.2.1 r j := fun r j h => (zu_ne (by omega)).trans (zu_ne (by omega))
  have kMn : ∀ r j, ¬ (r = P + 8 ∧ j = U) → zu b3.2.2 (P + 8) U (b3.2.2 P 32) r j = b3.2.2 r j := fun r j h => zu_ne (by omega)
  refine two.bindl (t_end (x1 := 1) x3 (y3.mono (fun r j h => kM r j (by omega))) (k3.mono (fun _ _ => rfl) rfl (fun j h => kM P j (by omega)) (kMn P 24 (by omega))) (by decide)) (fun a4 b4 h4 => ?_)
  rcases h4 with h4 | ⟨j4, s4, i4, ka4, kna4, kb4, knb4, x4, y4, k4, p4, q4, o4, w4, v4⟩
  · rw [if_pos h4.1]
    exact two.mk (Or.inl ⟨rfl, h4.2.1, h4.2.2⟩)
  rw [if_neg (by rw [j4]; decide)]
  refine two.letl ?_
  have cU4 : a4.2.1 (Q + 1) 0 = nI U := (ka4 (Q + 1) 0 (by omega) (by omega)).trans cU
  rw [cU4, zwr_nI hU (by decide)]
  have eadd : D_X4_addUnit (Q + 1) (a4.2.1 Q 9) a4.2.1 = some (zu (zu a4.2.1 (Q + 2) U (a4.2.1 Q 9)) (Q + 1) 0 (nI (U + 1))) := by
    unfold D_X4_addUnit
    rw [cU4, zwr_nI hU (by decide)]
    show some (zu (zu a4.2.1 (Q + 1 + 1) U (a4.2.1 Q 9)) (Q + 1) 0 (zu a4.2.1 (Q + 1 + 1) U (a4.2.1 Q 9) (Q + 1) 0 + 1)) = _
    rw [show zu a4.2.1 (Q + 1 + 1) U (a4.2.1 Q 9) (Q + 1) 0 = nI U from (zu_ne (by omega)).trans cU4, nI_add1]
  refine two.l eadd (two.mk (Or.inr ⟨rfl, i4, ?_⟩))
  have kF : ∀ r j, ¬ ((r = Q + 1 ∧ j = 0) ∨ (r = Q + 2 ∧ j = U)) → zu (zu a4.2.1 (Q + 2) U (a4.2.1 Q 9)) (Q + 1) 0 (nI (U + 1)) r j = a4.2.1 r j := fun r j h => (zu_ne (by omega)).trans (zu_ne (by omega))
  have kFn : ∀ r j, ¬ (r = Q + 10 ∧ j = U) → zu a4.2.2 (Q + 10) U (a4.2.2 Q 10) r j = a4.2.2 r j := fun r j h => zu_ne (by omega)
  refine ⟨x4.mono (fun r j h => kF r j (by omega)), y4, k4.mono (fun j h => kF Q j (by omega)) (kFn Q 8 (by omega)) (fun _ _ => rfl) rfl, ?_⟩
  show zu (zu a4.2.1 (Q + 2) U (a4.2.1 Q 9)) (Q + 1) 0 (nI (U + 1)) Q 6 = 2 ∨ zu (zu a4.2.1 (Q + 2) U (a4.2.1 Q 9)) (Q + 1) 0 (nI (U + 1)) Q 6 = 4 ∨ _
  rw [kF Q 6 (by omega)]
  rcases v4 with v4 | v4 | v4
  · refine Or.inr (Or.inr ?_)
    have v3' : a3.2.1 Q 9 = a2.2.1 Q 9 := by
      rcases v3 with v3 | v3 | v3
      · exact v3
      · exact absurd (s4.symm.trans v3) (by decide)
      · exact absurd (s4.symm.trans v3) (by decide)
    have ev : a4.2.1 Q 9 = b3.2.1 P 31 := v4.trans (v3'.trans (e9.trans (e31.symm.trans o3.symm)))
    have kA4 : kA Q A a4.2.1 := kA3.tr ka4
    have kNA4 : kNA Q NA a4.2.2 := kNA3.tr kna4
    obtain ⟨d1, d2, d3⟩ := d_unit (A' := zu (zu a4.2.1 (Q + 2) U (a4.2.1 Q 9)) (Q + 1) 0 (nI (U + 1))) (NA' := zu a4.2.2 (Q + 10) U (a4.2.2 Q 10)) (B' := b4.2.1) (NB' := b4.2.2) (v := a4.2.1 Q 9) hC hM hR hU
      (fun r j h1 h2 h3 => (kF r j h3).trans (kA4 r j h1 h2)) zu_eq ((zu_ne (by omega)).trans zu_eq)
      (fun r j h1 h2 => (kFn r j h2).trans (kNA4 r j h1))
      (fun r j h1 h2 => (kb4 r j h1).trans ((kM r j (fun z => h2 (z.symm))).trans (kB3 r j h1)))
      ((kb4 P 28 (by omega)).trans zu_eq)
      ((kb4 (P + 2) (62 + U) (by omega)).trans ((zu_ne (by omega)).trans (zu_eq.trans ev.symm)))
      (fun r j h1 h2 => (knb4 r j h1).trans ((kMn r j h2).trans (kNB3 r j h1)))
      (by rw [zu_eq, knb4 (P + 8) U (by omega), zu_eq, p4, p3, p2, q3, q2]; exact hnm)
    refine ⟨⟨U + 1, H, G, d1, d2, d3⟩, hO.g (fun j h => (kF Q j (by omega)).trans (kA4 Q j (by omega) (by omega))) ((kF (Q + 1) 3 (by omega)).trans (kA4 (Q + 1) 3 (by omega) (by omega))) ((kb4 P 23 (by omega)).trans ((kM P 23 (by omega)).trans (kB3 P 23 (by omega)))), ?_, ?_, ?_, ?_⟩
    · exact (kF Q 1 (by omega)).trans ((kA4 Q 1 (by omega) (by omega)).trans hF.1)
    · rw [kb4 P 21 (by omega), kM P 21 (by omega), kB3 P 21 (by omega)]; exact hF.2.1
    · exact (kF Q 2 (by omega)).trans ((kA4 Q 2 (by omega) (by omega)).trans hF.2.2.1)
    · rw [kb4 P 22 (by omega), kM P 22 (by omega), kB3 P 22 (by omega)]; exact hF.2.2.2
  · exact Or.inl v4
  · exact Or.inr (Or.inl v4)
/-! the line of a hunter -/
theorem d_hunter {Q P : Nat} {t : Nat → Int32} {A A' B B' : zMt} {NA NA' NB NB' : zNt} {U H G : Nat} {v g : Int32} (hg : g = 0 ∨ g = 1) (hC : dC Q P A B U H G) (hN : dN Q P t NA NB U H G) (hR : dR Q P A B U H G) (hH : H < 10)
    (a : gA Q (fun r j => (r = Q + 1 ∧ j = 1) ∨ (r = Q + 3 ∧ j = H) ∨ (r = Q + 4 ∧ j = H)) A A') (a0 : A' (Q + 1) 1 = nI (H + 1)) (a1 : A' (Q + 3) H = v) (a2 : A' (Q + 4) H = g)
    (na : gN Q 8 10 (fun r j => r = Q + 11 ∧ j = H) NA NA')
    (b : gB P (fun r j => (r = P ∧ j = 29) ∨ (r = P + 2 ∧ j = H) ∨ (r = P + 6 ∧ j = H)) B B') (b0 : B' P 29 = nI (H + 1)) (b1 : B' (P + 2) H = v) (b2 : B' (P + 6) H = g)
    (nb : gN P 24 32 (fun r j => r = P + 9 ∧ j = H) NB NB') (hn : nmR t (NA' (Q + 11) H) (NB' (P + 9) H)) (hd : ∀ i, i < G → ¬ NA (Q + 12) i = NA' (Q + 11) H) : dC Q P A' B' U (H + 1) G ∧ dN Q P t NA' NB' U (H + 1) G ∧ dR Q P A' B' U (H + 1) G := by
  have a : ∀ r j, ¬ (r = Q ∧ (j = 5 ∨ j = 6 ∨ j = 7 ∨ j = 9)) → ¬ r = Q + 13 → ¬ ((r = Q + 1 ∧ j = 1) ∨ (r = Q + 3 ∧ j = H) ∨ (r = Q + 4 ∧ j = H)) → A' r j = A r j := a
  have b : ∀ r j, ¬ (r = P ∧ ((16 ≤ j ∧ j ≤ 20) ∨ j = 31)) → ¬ ((r = P ∧ j = 29) ∨ (r = P + 2 ∧ j = H) ∨ (r = P + 6 ∧ j = H)) → B' r j = B r j := b
  have na : ∀ r j, ¬ (r = Q ∧ (j = 8 ∨ j = 10)) → ¬ (r = Q + 11 ∧ j = H) → NA' r j = NA r j := na
  have nb : ∀ r j, ¬ (r = P ∧ (j = 24 ∨ j = 32)) → ¬ (r = P + 9 ∧ j = H) → NB' r j = NB r j := nb
  obtain ⟨c1, c2, c3, c4, c5, c6, c7, c8, c9⟩ := hC
  obtain ⟨n1, n2, n3, n4⟩ := hN
  obtain ⟨r1, r2, r3, r4, r5, r6, r7, r8, r9, ⟨s1, s2, s3⟩, ⟨u1, u2, u3, u4, u5⟩⟩ := hR
  refine ⟨⟨c1, by omega, c3, ?_, ?_, a0, b0, ?_, ?_⟩, ⟨fun i hi => ?_, fun i hi => ?_, fun i hi => ?_, fun i j hi hj => ?_⟩, ⟨fun u hu => ?_, fun h hh => ?_, fun h hh => ?_, fun h hh => ?_, fun h hh he => ?_, fun h g hh hg he => ?_, fun g k h1 h2 h3 => ?_, fun h h1 h2 => ?_, fun g hg => ?_, ⟨?_, ?_, ?_⟩, ⟨?_, ?_, fun h hh => ⟨?_, ?_⟩, fun u hu1 hu2 => ?_, fun h hh1 hh2 => ?_⟩⟩⟩
  · rw [a (Q + 1) 0 (by omega) (by omega) (by omega)]; exact c4
  · rw [b P 28 (by omega) (by omega)]; exact c5
  · rw [a (Q + 1) 2 (by omega) (by omega) (by omega)]; exact c8
  · rw [b P 30 (by omega) (by omega)]; exact c9
  · rw [na (Q + 10) i (by omega) (by omega), nb (P + 8) i (by omega) (by omega)]; exact n1 i hi
  · by_cases q : i = H
    · subst q; exact hn
    · rw [na (Q + 11) i (by omega) (by omega), nb (P + 9) i (by omega) (by omega)]; exact n2 i (by omega)
  · rw [na (Q + 12) i (by omega) (by omega), nb (P + 10) i (by omega) (by omega)]; exact n3 i hi
  · rw [na (Q + 12) j (by omega) (by omega)]
    by_cases q : i = H
    · subst q; exact fun z => hd j hj z.symm
    · rw [na (Q + 11) i (by omega) (by omega)]; exact n4 i j (by omega) hj
  · rw [a (Q + 2) u (by omega) (by omega) (by omega), b (P + 2) (62 + u) (by omega) (by omega)]; exact r1 u hu
  · by_cases q : h = H
    · subst q; rw [a1, b1]
    · rw [a (Q + 3) h (by omega) (by omega) (by omega), b (P + 2) h (by omega) (by omega)]; exact r2 h hh
  · by_cases q : h = H
    · subst q; rw [a2, b2]; exact ⟨rfl, hg⟩
    · rw [a (Q + 4) h (by omega) (by omega) (by omega), b (P + 6) h (by omega) (by omega)]; exact r3 h (by omega)
  · rw [a (Q + 5) h (by omega) (by omega) (by omega), b (P + 2) (10 + h) (by omega) (by omega)]
    obtain ⟨q1, q2, q3⟩ := r4 h hh
    exact ⟨q1, q2, q3.imp (fun z => by omega) id⟩
  · rw [a (Q + 5) h (by omega) (by omega) (by omega)] at he
    exact (r5 h hh he).k (a (Q + 6) h (by omega) (by omega) (by omega)) (fun k hk => a (Q + 7) _ (by omega) (by omega) (by omega)) (fun k hk => b (P + 2) _ (by omega) (by omega))
  · rw [a (Q + 5) h (by omega) (by omega) (by omega)] at he
    exact (r6 h g hh hg he).k (a (Q + 6) h (by omega) (by omega) (by omega)) (fun k hk => a (Q + 7) _ (by omega) (by omega) (by omega)) (fun k hk => b (P + 2) _ (by omega) (by omega))
  · rw [b (P + 2) (50 + 3 * g + k) (by omega) (by omega)]; exact r7 g k h1 h2 h3
  · rw [a (Q + 6) h (by omega) (by omega) (by omega)]; exact r8 h h1 (by omega)
  · obtain ⟨h, h1, h2⟩ := r9 g hg
    exact ⟨h, by omega, by rw [a (Q + 5) h (by omega) (by omega) (by omega)]; exact h2⟩
  · rw [a (Q + 1) 3 (by omega) (by omega) (by omega), b (P + 2) 67 (by omega) (by omega)]; exact s1
  · rw [a (Q + 1) 4 (by omega) (by omega) (by omega), b (P + 2) 68 (by omega) (by omega)]; exact s2
  · rw [a (Q + 1) 5 (by omega) (by omega) (by omega), b (P + 2) 69 (by omega) (by omega)]; exact s3
  · rw [a (Q + 1) 6 (by omega) (by omega) (by omega)]; exact u1
  · rw [b (P + 2) 71 (by omega) (by omega)]; exact u2
  · rw [a (Q + 8) h (by omega) (by omega) (by omega)]; exact (u3 h hh).1
  · rw [b (P + 2) (72 + h) (by omega) (by omega)]; exact (u3 h hh).2
  · rw [a (Q + 2) u (by omega) (by omega) (by omega)]; exact u4 u (by omega) hu2
  · rw [a (Q + 4) h (by omega) (by omega) (by omega)]; exact u5 h (by omega) hh2
/-- the end of a hunter's line -/
theorem l_hunter39 {Q P n : Nat} {t : Nat → Int32} {A A3 B B3 : zMt} {NA NA3 NB NB3 : zNt} {U H G : Nat} {v g : Int32} (hC : dC Q P A B U H G) (hM : dN Q P t NA NB U H G) (hR : dR Q P A B U H G) (hO : dO Q P A B) (hF : A Q 1 = 0 ∧ B P 21 = 0 ∧ A Q 2 = -1 ∧ B P 22 = -1) (hH : H < 10)
    (x3 : tx Q n t A3) (y3 : ty P n t B3) (k3 : tk Q P n t A3 NA3 B3 NB3) (kA3 : kA Q A A3) (kNA3 : kNA Q NA NA3)
    (kB3 : gB P (fun r j => (r = P + 2 ∧ j = H) ∨ (r = P + 6 ∧ j = H)) B B3) (kNB3 : gN P 24 32 (fun r j => r = P + 9 ∧ j = H) NB NB3)
    (e9 : A3 Q 6 = 3 → A3 Q 9 = v) (b1 : B3 (P + 2) H = v) (b2 : B3 (P + 6) H = g) (hg : g = 0 ∨ g = 1) (hnm : nmR t (NA3 Q 10) (NB3 (P + 9) H)) (hd : ∀ i, i < G → ¬ NA (Q + 12) i = NA3 Q 10) : two (D_X3_readHunter_39 Q g A3 NA3) (D_X8_readLine_114 P (1 : Int32) (zu B3 P 29 (nI (H + 1))) NB3) (LR Q P n t) := by
  have kB3 : ∀ r j, ¬ (r = P ∧ ((16 ≤ j ∧ j ≤ 20) ∨ j = 31)) → ¬ ((r = P + 2 ∧ j = H) ∨ (r = P + 6 ∧ j = H)) → B3 r j = B r j := kB3
  have kNB3 : ∀ r j, ¬ (r = P ∧ (j = 24 ∨ j = 32)) → ¬ (r = P + 9 ∧ j = H) → NB3 r j = NB r j := kNB3
  have kM : ∀ r j, ¬ (r = P ∧ j = 29) → zu B3 P 29 (nI (H + 1)) r j = B3 r j := fun r j h => zu_ne h
  unfold D_X3_readHunter_39
  refine two.bindl (t_end (x1 := 1) x3 (y3.mono (fun r j h => kM r j (by omega))) (k3.mono (fun _ _ => rfl) rfl (fun j h => kM P j (by omega)) rfl) (by decide)) (fun a4 b4 h4 => ?_)
  rcases h4 with h4 | ⟨j4, s4, i4, ka4, kna4, kb4, knb4, x4, y4, k4, p4, q4, o4, w4, v4⟩
  · rw [if_pos h4.1]
    exact two.mk (Or.inl ⟨rfl, h4.2.1, h4.2.2⟩)
  rw [if_neg (by rw [j4]; decide)]
  refine two.letl ?_
  have cU4 : a4.2.1 (Q + 1) 1 = nI H := (ka4 (Q + 1) 1 (by omega) (by omega)).trans ((kA3 (Q + 1) 1 (by omega) (by omega)).trans hC.2.2.2.2.2.1)
  rw [cU4, zwr_nI hH (by decide)]
  have eadd : D_X4_addHunter (Q + 1) (a4.2.1 Q 9) g a4.2.1 = some (zu (zu (zu a4.2.1 (Q + 3) H (a4.2.1 Q 9)) (Q + 4) H g) (Q + 1) 1 (nI (H + 1))) := by
    have fin : ∀ y : Int32, D_X4_addHunter_29 (Q + 1) (zu a4.2.1 (Q + 3) H (a4.2.1 Q 9) (Q + 1) 1) y (zu a4.2.1 (Q + 3) H (a4.2.1 Q 9)) = some (zu (zu (zu a4.2.1 (Q + 3) H (a4.2.1 Q 9)) (Q + 4) H y) (Q + 1) 1 (nI (H + 1))) := fun y => by
      have e1 : zu a4.2.1 (Q + 3) H (a4.2.1 Q 9) (Q + 1) 1 = nI H := (zu_ne (by omega)).trans cU4
      unfold D_X4_addHunter_29
      rw [e1, zwr_nI hH (by decide)]
      show some (zu (zu (zu a4.2.1 (Q + 3) H (a4.2.1 Q 9)) (Q + 1 + 3) H y) (Q + 1) 1 (zu (zu a4.2.1 (Q + 3) H (a4.2.1 Q 9)) (Q + 1 + 3) H y (Q + 1) 1 + 1)) = _
      rw [show zu (zu a4.2.1 (Q + 3) H (a4.2.1 Q 9)) (Q + 1 + 3) H y (Q + 1) 1 = nI H from (zu_ne (by omega)).trans e1, nI_add1]
    unfold D_X4_addHunter
    rw [cU4, zwr_nI hH (by decide)]
    rcases hg with rfl | rfl
    · exact fin 0
    · exact fin 1
  refine two.l eadd (two.mk (Or.inr ⟨rfl, i4, ?_⟩))
  have kF : ∀ r j, ¬ ((r = Q + 1 ∧ j = 1) ∨ (r = Q + 3 ∧ j = H) ∨ (r = Q + 4 ∧ j = H)) → zu (zu (zu a4.2.1 (Q + 3) H (a4.2.1 Q 9)) (Q + 4) H g) (Q + 1) 1 (nI (H + 1)) r j = a4.2.1 r j := fun r j h => (zu_ne (by omega)).trans ((zu_ne (by omega)).trans (zu_ne (by omega)))
  have kFn : ∀ r j, ¬ (r = Q + 11 ∧ j = H) → zu a4.2.2 (Q + 11) H (a4.2.2 Q 10) r j = a4.2.2 r j := fun r j h => zu_ne (by omega)
  refine ⟨x4.mono (fun r j h => kF r j (by omega)), y4, k4.mono (fun j h => kF Q j (by omega)) (kFn Q 8 (by omega)) (fun _ _ => rfl) rfl, ?_⟩
  show zu (zu (zu a4.2.1 (Q + 3) H (a4.2.1 Q 9)) (Q + 4) H g) (Q + 1) 1 (nI (H + 1)) Q 6 = 2 ∨ zu (zu (zu a4.2.1 (Q + 3) H (a4.2.1 Q 9)) (Q + 4) H g) (Q + 1) 1 (nI (H + 1)) Q 6 = 4 ∨ _
  rw [kF Q 6 (by omega)]
  rcases v4 with v4 | v4 | v4
  · refine Or.inr (Or.inr ?_)
    have ev : a4.2.1 Q 9 = v := v4.trans (e9 s4)
    have kA4 : kA Q A a4.2.1 := kA3.tr ka4
    have kNA4 : kNA Q NA a4.2.2 := kNA3.tr kna4
    obtain ⟨d1, d2, d3⟩ := d_hunter (A' := zu (zu (zu a4.2.1 (Q + 3) H (a4.2.1 Q 9)) (Q + 4) H g) (Q + 1) 1 (nI (H + 1))) (NA' := zu a4.2.2 (Q + 11) H (a4.2.2 Q 10)) (B' := b4.2.1) (NB' := b4.2.2) (v := a4.2.1 Q 9) (g := g) hg hC hM hR hH
      (fun r j h1 h2 h3 => (kF r j h3).trans (kA4 r j h1 h2)) zu_eq ((zu_ne (by omega)).trans ((zu_ne (by omega)).trans zu_eq)) ((zu_ne (by omega)).trans zu_eq)
      (fun r j h1 h2 => (kFn r j h2).trans (kNA4 r j h1))
      (fun r j h1 h2 => (kb4 r j h1).trans ((kM r j (fun z => h2 (Or.inl z))).trans (kB3 r j h1 (fun z => h2 (Or.inr z)))))
      ((kb4 P 29 (by omega)).trans zu_eq)
      ((kb4 (P + 2) H (by omega)).trans ((kM (P + 2) H (by omega)).trans (b1.trans ev.symm)))
      ((kb4 (P + 6) H (by omega)).trans ((kM (P + 6) H (by omega)).trans b2))
      (fun r j h1 h2 => (knb4 r j h1).trans (kNB3 r j h1 h2))
      (by rw [zu_eq, knb4 (P + 9) H (by omega), p4]; exact hnm)
      (fun i hi => by rw [zu_eq, p4]; exact hd i hi)
    refine ⟨⟨U, H + 1, G, d1, d2, d3⟩, hO.g (fun j h => (kF Q j (by omega)).trans (kA4 Q j (by omega) (by omega))) ((kF (Q + 1) 3 (by omega)).trans (kA4 (Q + 1) 3 (by omega) (by omega))) ((kb4 P 23 (by omega)).trans ((kM P 23 (by omega)).trans (kB3 P 23 (by omega) (by omega)))), ?_, ?_, ?_, ?_⟩
    · exact (kF Q 1 (by omega)).trans ((kA4 Q 1 (by omega) (by omega)).trans hF.1)
    · rw [kb4 P 21 (by omega), kM P 21 (by omega), kB3 P 21 (by omega) (by omega)]; exact hF.2.1
    · exact (kF Q 2 (by omega)).trans ((kA4 Q 2 (by omega) (by omega)).trans hF.2.2.1)
    · rw [kb4 P 22 (by omega), kM P 22 (by omega), kB3 P 22 (by omega) (by omega)]; exact hF.2.2.2
  · exact Or.inl v4
  · exact Or.inr (Or.inl v4)
theorem l_hunter {Q P n : Nat} {t : Nat → Int32} {A B : zMt} {NA NB : zNt} (hX : tx Q n t A) (hY : ty P n t B) (hN : nx Q P n A B) {U H G : Nat} (hC : dC Q P A B U H G) (hM : dN Q P t NA NB U H G) (hR : dR Q P A B U H G) (hO : dO Q P A B) (hF : A Q 1 = 0 ∧ B P 21 = 0 ∧ A Q 2 = -1 ∧ B P 22 = -1) (hH : H < 10) : two (D_X3_readHunter Q A NA) (zB (D_X8_readHunter P B NB) fun e => D_X8_readLine_114 P e.1 e.2.1 e.2.2) (LR Q P n t) := by
  have hc5 : B P 29 = nI H := hC.2.2.2.2.2.2.1
  unfold D_X3_readHunter D_X8_readHunter
  rw [if_neg (by rw [hc5]; exact fun z => absurd (nI_inj (b := 10) (by omega) (by omega) z) (by omega)), zB_zB]
  refine two.bind (t_step hX hY hN) (fun a1 b1 h1 => ?_)
  obtain ⟨i1, ka1, kna1, kb1, knb1, x1, y1, k1, p1, q1, o1, w1, v1⟩ := h1
  rw [if_neg (by rw [i1]; decide), zB_zB]
  have hC1 := hC.k ka1 kb1
  have hM1 := hM.k kna1 knb1
  refine two.bind (t_newName x1 y1 k1 hC1 hM1) (fun a2 b2 h2 => ?_)
  rcases h2 with h2 | ⟨j2, NA', NB', kna', knb', hnm, f1, f2, f3, i2, ka2, kna2, kb2, knb2, x2, y2, k2, p2, q2, o2, w2, v2⟩
  · rw [if_pos h2.1, if_pos h2.2.1]
    exact t_dn (a := a2) (b := b2) h2
  rw [if_neg (by rw [j2]; decide), if_neg (by rw [i2]; decide), zB_zB]
  refine two.bind (t_number x2 y2 k2 (by decide)) (fun a3 b3 h3 => ?_)
  rcases h3 with h3 | ⟨j3, B', kb', e31, g0, g1, e9, i3, ka3, kna3, kb3, knb3, x3, y3, k3, p3, q3, o3, w3, v3⟩
  · rw [if_pos h3.1, if_pos h3.2.1]
    exact t_dn (a := a3) (b := b3) h3
  rw [if_neg (by rw [j3]; decide), if_neg (by rw [i3]; decide), zB_zI]
  have kA3 : kA Q A a3.2.1 := (ka1.tr ka2).tr ka3
  have kB3 : kB P B b3.2.1 := ((kb1.tr kb2).tr kb').tr kb3
  have kNA3 : kNA Q NA a3.2.2 := ((kna1.tr kna').tr kna2).tr kna3
  have kNB3 : kNB P NB b3.2.2 := ((knb1.tr knb').tr knb2).tr knb3
  have c29 : b3.2.1 P 29 = nI H := (kB3 P 29 (by omega)).trans hc5
  have e0 : (0 : Int32) + nI H = nI H := (show ∀ k, k < 10 → (0 : Int32) + nI k = nI k by decide) H hH
  rw [c29]
  refine two.ir (vp_in_nI hH (by decide)) ?_
  rw [zB_zLt]
  refine two.letr ?_
  rw [zB_zI, e0]
  refine two.ir (vp_in_nI (by omega) (by decide)) ?_
  rw [zB_zLt]
  refine two.letr ?_
  rw [nI_clamp (by omega)]
  have kM : ∀ r j, ¬ (r = P + 2 ∧ j = H) → zu b3.2.1 (P + 2) H (b3.2.1 P 31) r j = b3.2.1 r j := fun r j h => zu_ne h
  have kMn : ∀ r j, ¬ (r = P + 9 ∧ j = H) → zu b3.2.2 (P + 9) H (b3.2.2 P 32) r j = b3.2.2 r j := fun r j h => zu_ne (by omega)
  have eM : zu b3.2.1 (P + 2) H (b3.2.1 P 31) (P + 2) H = a2.2.1 Q 9 := zu_eq.trans (o3.trans (e31.trans e9.symm))
  have eN : zu b3.2.2 (P + 9) H (b3.2.2 P 32) (P + 9) H = NB' P 32 := zu_eq.trans (q3.trans q2)
  have c29' : zu b3.2.1 (P + 2) H (b3.2.1 P 31) P 29 = nI H := (kM P 29 (by omega)).trans c29
  have hnm3 : nmR t (a3.2.2 Q 10) (NB' P 32) := by rw [p3, p2]; exact hnm
  have hd3 : ∀ i, i < G → ¬ NA (Q + 12) i = a3.2.2 Q 10 := fun i hi z => f3 i hi (by rw [kna1 (Q + 12) i (by omega), z, p3, p2])
  generalize hM3 : zu b3.2.1 (P + 2) H (b3.2.1 P 31) = M3 at *
  generalize hN3 : zu b3.2.2 (P + 9) H (b3.2.2 P 32) = N3 at *
  have kM : ∀ r j, ¬ (r = P + 2 ∧ j = H) → M3 r j = b3.2.1 r j := kM
  have kMn : ∀ r j, ¬ (r = P + 9 ∧ j = H) → N3 r j = b3.2.2 r j := kMn
  have y3' : ty P n t M3 := y3.mono (fun r j h => kM r j (by omega))
  have k3' : tk Q P n t a3.2.1 a3.2.2 M3 N3 := k3.mono (fun _ _ => rfl) rfl (fun j h => kM P j (by omega)) (kMn P 24 (by omega))
  have gNB : gN P 24 32 (fun r j => r = P + 9 ∧ j = H) NB N3 := fun r j h1 h2 => (kMn r j h2).trans (kNB3 r j h1)
  have plain : two (D_X3_readHunter_39 Q 0 a3.2.1 a3.2.2) (zB (D_X8_readHunter_97 P (M3 P 29) M3 N3) fun e => D_X8_readLine_114 P e.1 e.2.1 e.2.2) (LR Q P n t) := by
    unfold D_X8_readHunter_97 D_X8_readHunter_98
    rw [c29', zB_zI]
    refine two.ir (vp_in_nI hH (by decide)) ?_
    rw [zB_zLt]
    refine two.letr ?_
    rw [zB_zI, nI_clamp (by omega), show zu M3 (P + 6) H (0 : Int32) P 29 = nI H from (zu_ne (by omega)).trans c29']
    refine two.ir (vp_in_nI hH (by decide)) ?_
    rw [nI_clamp (by omega), if_pos zu_eq]
    unfold D_X8_readHunter_116
    rw [show zu M3 (P + 6) H (0 : Int32) P 29 = nI H from (zu_ne (by omega)).trans c29', nI_add1]
    show two _ (D_X8_readLine_114 P (1 : Int32) (zu (zu M3 (P + 6) H (0 : Int32)) P 29 (nI (H + 1))) N3) _
    have kM6 : ∀ r j, ¬ (r = P + 6 ∧ j = H) → zu M3 (P + 6) H (0 : Int32) r j = M3 r j := fun r j h => zu_ne h
    refine l_hunter39 (v := a2.2.1 Q 9) hC hM hR hO hF hH x3 (y3'.mono (fun r j h => kM6 r j (by omega))) (k3'.mono (fun _ _ => rfl) rfl (fun j h => kM6 P j (by omega)) rfl) kA3 kNA3 (fun r j h1 h2 => (kM6 r j (fun z => h2 (Or.inr z))).trans ((kM r j (fun z => h2 (Or.inl z))).trans (kB3 r j h1))) gNB ?_ ((kM6 (P + 2) H (by omega)).trans eM) zu_eq (Or.inl rfl) (by rw [eN]; exact hnm3) hd3
    intro s
    rcases v3 with v3 | v3 | v3
    · exact v3
    · exact absurd (s.symm.trans v3) (by decide)
    · exact absurd (s.symm.trans v3) (by decide)
  obtain ⟨w61, w62⟩ := k3'.wrd
  by_cases q6 : a3.2.1 Q 6 = 1
  · rw [if_pos (w61.mp q6)]
    obtain ⟨s, k, h7, hW⟩ := w62 q6
    obtain ⟨u1, u2, u3, u4, u5, u6, u7, u8, u9, u10, u11⟩ := id hW
    obtain ⟨r, er, hr⟩ := c_says (j := 2) x3 u1 h7 u3 u7 (by decide)
    refine two.l er ?_
    have hwi : M3 P 19 = (2 : Int32) ↔ say t s k 2 := by rw [show (2 : Int32) = nI 2 by decide]; exact u11.iff (by decide)
    by_cases qs : say t s k 2
    · have hr1 : r = 1 := by
        rcases hr with ⟨z, _⟩ | ⟨_, z⟩
        · exact z
        · exact absurd qs z
      rw [if_neg (by rw [hr1]; decide), if_pos (hwi.mpr qs), hr1]
      unfold D_X8_readHunter_98
      rw [c29', zB_zI]
      refine two.ir (vp_in_nI hH (by decide)) ?_
      rw [zB_zLt]
      refine two.letr ?_
      rw [zB_zI, nI_clamp (by omega), show zu M3 (P + 6) H (1 : Int32) P 29 = nI H from (zu_ne (by omega)).trans c29']
      refine two.ir (vp_in_nI hH (by decide)) ?_
      rw [nI_clamp (by omega), if_neg (by rw [zu_eq]; decide), zB_zB]
      have kM6 : ∀ r j, ¬ (r = P + 6 ∧ j = H) → zu M3 (P + 6) H (1 : Int32) r j = M3 r j := fun r j h => zu_ne h
      obtain ⟨xx, hx1, hx2, hx3⟩ := hW.nx
      refine two.bind (t_step (NA := a3.2.2) (NB := N3) x3 (y3'.mono (fun r j h => kM6 r j (by omega))) ⟨xx, hx1, hx2, (kM6 P 17 (by omega)).trans hx3⟩) (fun a5 b5 h5 => ?_)
      obtain ⟨i5, ka5, kna5, kb5, knb5, x5, y5, k5, p5, q5, o5, w5, v5⟩ := h5
      have c295 : b5.2.1 P 29 = nI H := (kb5 P 29 (by omega)).trans ((kM6 P 29 (by omega)).trans c29')
      unfold D_X8_readHunter_116
      rw [c295, nI_add1]
      show two _ (D_X8_readLine_114 P (1 : Int32) (zu b5.2.1 P 29 (nI (H + 1))) b5.2.2) _
      refine l_hunter39 (v := a2.2.1 Q 9) hC hM hR hO hF hH x5 y5 k5 (kA3.tr ka5) (kNA3.tr kna5) (fun r j h1 h2 => (kb5 r j h1).trans ((kM6 r j (fun z => h2 (Or.inr z))).trans ((kM r j (fun z => h2 (Or.inl z))).trans (kB3 r j h1)))) (fun r j h1 h2 => (knb5 r j h1).trans (gNB r j h1 h2)) ?_ ((kb5 (P + 2) H (by omega)).trans ((kM6 (P + 2) H (by omega)).trans eM)) ((kb5 (P + 6) H (by omega)).trans zu_eq) (Or.inr rfl) (by rw [knb5 (P + 9) H (by omega), eN, p5]; exact hnm3) (fun i hi => by rw [p5]; exact hd3 i hi)
      intro s6
      have e3 : a3.2.1 Q 9 = a2.2.1 Q 9 := by
        rcases v3 with v3 | v3 | v3
        · exact v3
        · exact absurd (q6.symm.trans v3) (by decide)
        · exact absurd (q6.symm.trans v3) (by decide)
      rcases v5 with v5 | v5 | v5
      · exact v5.trans e3
      · exact absurd (s6.symm.trans v5) (by decide)
      · exact absurd (s6.symm.trans v5) (by decide)
    · have hr0 : r = 0 := by
        rcases hr with ⟨_, z⟩ | ⟨z, _⟩
        · exact absurd z qs
        · exact z
      rw [if_pos hr0, if_neg (fun z => qs (hwi.mp z)), hr0]
      exact plain
  · rw [if_neg (fun z => q6 (w61.mpr z))]
    refine two.l (c_says0 q6) ?_
    rw [if_pos rfl]
    exact plain
/-! the line of a party -/
theorem d_party {Q P : Nat} {t : Nat → Int32} {A A' B B' : zMt} {NA NA' NB NB' : zNt} {U H G : Nat} {s : Int32} (hC : dC Q P A B U H G) (hN : dN Q P t NA NB U H G) (hR : dR Q P A B U H G) (hG : G < 4)
    (hs : ∀ h, h < 10 → bitAt s h → h < H ∧ A (Q + 5) h = -1 ∧ A (Q + 6) h = 0) (hx : ∃ h, h < 10 ∧ bitAt s h)
    (a : gA Q (fun r j => (r = Q + 1 ∧ j = 2) ∨ (r = Q + 5 ∧ j < H ∧ bitAt s j)) A A') (a0 : A' (Q + 1) 2 = nI (G + 1)) (a1 : ∀ h, h < H → bitAt s h → A' (Q + 5) h = nI G)
    (na : gN Q 8 10 (fun r j => r = Q + 12 ∧ j = G) NA NA')
    (b : gB P (fun r j => (r = P ∧ j = 30) ∨ (r = P + 2 ∧ ∃ h, h < H ∧ j = 10 + h ∧ bitAt s h)) B B') (b0 : B' P 30 = nI (G + 1)) (b1 : ∀ h, h < H → bitAt s h → B' (P + 2) (10 + h) = nI G)
    (nb : gN P 24 32 (fun r j => r = P + 10 ∧ j = G) NB NB') (hn : nmR t (NA' (Q + 12) G) (NB' (P + 10) G)) (hd : ∀ i, i < H → ¬ NA (Q + 11) i = NA' (Q + 12) G) : dC Q P A' B' U H (G + 1) ∧ dN Q P t NA' NB' U H (G + 1) ∧ dR Q P A' B' U H (G + 1) := by
  have a : ∀ r j, ¬ (r = Q ∧ (j = 5 ∨ j = 6 ∨ j = 7 ∨ j = 9)) → ¬ r = Q + 13 → ¬ ((r = Q + 1 ∧ j = 2) ∨ (r = Q + 5 ∧ j < H ∧ bitAt s j)) → A' r j = A r j := a
  have b : ∀ r j, ¬ (r = P ∧ ((16 ≤ j ∧ j ≤ 20) ∨ j = 31)) → ¬ ((r = P ∧ j = 30) ∨ (r = P + 2 ∧ ∃ h, h < H ∧ j = 10 + h ∧ bitAt s h)) → B' r j = B r j := b
  have na : ∀ r j, ¬ (r = Q ∧ (j = 8 ∨ j = 10)) → ¬ (r = Q + 12 ∧ j = G) → NA' r j = NA r j := na
  have nb : ∀ r j, ¬ (r = P ∧ (j = 24 ∨ j = 32)) → ¬ (r = P + 10 ∧ j = G) → NB' r j = NB r j := nb
  obtain ⟨c1, c2, c3, c4, c5, c6, c7, c8, c9⟩ := hC
  obtain ⟨n1, n2, n3, n4⟩ := hN
  obtain ⟨r1, r2, r3, r4, r5, r6, r7, r8, r9, ⟨s1, s2, s3⟩, ⟨u1, u2, u3, u4, u5⟩⟩ := hR
  have aR : ∀ i j, (1 ≤ i ∧ i ≤ 8 ∧ i ≠ 5) → ¬ (i = 1 ∧ j = 2) → A' (Q + i) j = A (Q + i) j := fun i j hi hj => a (Q + i) j (by omega) (by omega) (by rintro (⟨h1, h2⟩ | ⟨h1, -⟩) <;> omega)
  have aP : ∀ j, ¬ (j < H ∧ bitAt s j) → A' (Q + 5) j = A (Q + 5) j := fun j hj => a (Q + 5) j (by omega) (by omega) (by rintro (⟨h1, h2⟩ | ⟨h1, h2⟩); omega; exact hj h2)
  have bR : ∀ j, (j < 10 ∨ 20 ≤ j) → B' (P + 2) j = B (P + 2) j := fun j hj => b (P + 2) j (by omega) (by rintro (⟨h1, h2⟩ | ⟨h1, h, h2, h3, -⟩) <;> omega)
  have bP : ∀ h, h < 10 → ¬ (h < H ∧ bitAt s h) → B' (P + 2) (10 + h) = B (P + 2) (10 + h) := fun h hh hj => b (P + 2) (10 + h) (by omega) (by
    rintro (⟨h1, h2⟩ | ⟨h1, h', h2, h3, h4⟩)
    · omega
    · have : h' = h := by omega
      subst this
      exact hj ⟨h2, h4⟩)
  have b6 : ∀ j, B' (P + 6) j = B (P + 6) j := fun j => b (P + 6) j (by omega) (by rintro (⟨h1, h2⟩ | ⟨h1, -⟩) <;> omega)
  have bQ : ∀ j, (j = 28 ∨ j = 29) → B' P j = B P j := fun j hj => b P j (by omega) (by rintro (⟨h1, h2⟩ | ⟨h1, -⟩) <;> omega)
  have wk : ∀ h base, wsh A B Q P h base → 20 ≤ base → wsh A' B' Q P h base := fun h base w hb => w.k (aR 6 h (by omega) (by omega)) (fun k hk => aR 7 _ (by omega) (by omega)) (fun k hk => bR _ (by omega))
  refine ⟨⟨c1, c2, by omega, ?_, ?_, ?_, ?_, a0, b0⟩, ⟨fun i hi => ?_, fun i hi => ?_, fun i hi => ?_, fun i j hi hj => ?_⟩, ⟨fun u hu => ?_, fun h hh => ?_, fun h hh => ?_, fun h hh => ?_, fun h hh he => ?_, fun h g hh hg he => ?_, fun g k h1 h2 h3 => ?_, fun h h1 h2 => ?_, fun g hg => ?_, ⟨?_, ?_, ?_⟩, ⟨?_, ?_, fun h hh => ⟨?_, ?_⟩, fun u hu1 hu2 => ?_, fun h hh1 hh2 => ?_⟩⟩⟩
  · rw [aR 1 0 (by omega) (by omega)]; exact c4
  · rw [bQ 28 (by omega)]; exact c5
  · rw [aR 1 1 (by omega) (by omega)]; exact c6
  · rw [bQ 29 (by omega)]; exact c7
  · rw [na (Q + 10) i (by omega) (by omega), nb (P + 8) i (by omega) (by omega)]; exact n1 i hi
  · rw [na (Q + 11) i (by omega) (by omega), nb (P + 9) i (by omega) (by omega)]; exact n2 i hi
  · by_cases q : i = G
    · subst q; exact hn
    · rw [na (Q + 12) i (by omega) (by omega), nb (P + 10) i (by omega) (by omega)]; exact n3 i (by omega)
  · rw [na (Q + 11) i (by omega) (by omega)]
    by_cases q : j = G
    · subst q; exact hd i hi
    · rw [na (Q + 12) j (by omega) (by omega)]; exact n4 i j hi (by omega)
  · rw [aR 2 u (by omega) (by omega), bR (62 + u) (by omega)]; exact r1 u hu
  · rw [aR 3 h (by omega) (by omega), bR h (by omega)]; exact r2 h hh
  · rw [aR 4 h (by omega) (by omega), b6 h]; exact r3 h hh
  · by_cases q : h < H ∧ bitAt s h
    · rw [a1 h q.1 q.2, b1 h q.1 q.2]
      exact ⟨rfl, Or.inr ⟨G, by omega, rfl⟩, Or.inl q.1⟩
    · rw [aP h q, bP h hh q]
      obtain ⟨q1, q2, q3⟩ := r4 h hh
      exact ⟨q1, q2.imp id (fun ⟨g, g1, g2⟩ => ⟨g, by omega, g2⟩), q3⟩
  · by_cases q : h < H ∧ bitAt s h
    · rw [a1 h q.1 q.2] at he
      exact absurd he (nI_ne (by omega))
    · rw [aP h q] at he
      exact wk h _ (r5 h hh he) (by omega)
  · by_cases q : h < H ∧ bitAt s h
    · rw [a1 h q.1 q.2] at he
      have : G = g := nI_inj (by omega) (by omega) he
      subst this
      obtain ⟨-, m2, m3⟩ := hs h hh q.2
      obtain ⟨c, w1, w2, w3, w4⟩ := r5 h hh m2
      have hc : c = 0 := nI_inj (by omega) (by omega) (w2.symm.trans (m3.trans (by decide)))
      subst hc
      have hb : ∀ k, k < 3 → B (P + 2) (20 + 3 * h + k) = -1 := fun k hk => Classical.byContradiction (fun z => absurd ((w4 k hk).mpr z) (by omega))
      refine ⟨0, by omega, (aR 6 h (by omega) (by omega)).trans w2, fun k hk => ?_, fun k hk => ?_⟩
      · rw [aR 7 _ (by omega) (by omega), w3 k hk, hb k hk, bR _ (by omega), r7 G k (by omega) (by omega) hk]
      · rw [bR _ (by omega), r7 G k (by omega) (by omega) hk]
        exact ⟨fun z => absurd z (by omega), fun z => absurd rfl z⟩
    · rw [aP h q] at he
      have hg2 : g < G := by
        rcases (r4 h hh).2.1 with z | ⟨g', z1, z2⟩
        · exact absurd (he.symm.trans z) (nI_ne (by omega))
        · have : g = g' := nI_inj (by omega) (by omega) (he.symm.trans z2)
          omega
      exact wk h _ (r6 h g hh hg2 he) (by omega)
  · rw [bR _ (by omega)]; exact r7 g k (by omega) h2 h3
  · rw [aR 6 h (by omega) (by omega)]; exact r8 h h1 h2
  · by_cases q : g = G
    · subst q
      obtain ⟨h, h1, h2⟩ := hx
      obtain ⟨m1, -, -⟩ := hs h h1 h2
      exact ⟨h, m1, a1 h m1 h2⟩
    · obtain ⟨h, h1, h2⟩ := r9 g (by omega)
      refine ⟨h, h1, ?_⟩
      rw [aP h (fun z => ?_)]
      · exact h2
      · exact absurd (h2.symm.trans (hs h (by omega) z.2).2.1) (nI_ne (by omega))
  · rw [aR 1 3 (by omega) (by omega), bR 67 (by omega)]; exact s1
  · rw [aR 1 4 (by omega) (by omega), bR 68 (by omega)]; exact s2
  · rw [aR 1 5 (by omega) (by omega), bR 69 (by omega)]; exact s3
  · rw [aR 1 6 (by omega) (by omega)]; exact u1
  · rw [bR 71 (by omega)]; exact u2
  · rw [aR 8 h (by omega) (by omega)]; exact (u3 h hh).1
  · rw [bR (72 + h) (by omega)]; exact (u3 h hh).2
  · rw [aR 2 u (by omega) (by omega)]; exact u4 u (by omega) hu2
  · rw [aR 4 h (by omega) (by omega)]; exact u5 h (by omega) hh2
/-- the class tells the party to its hunters -/
theorem c_addParty {R H G : Nat} {s : Int32} (hH : H ≤ 10) : ∀ (u k : Nat) (A : zMt), A R 1 = nI H → A R 2 = nI G → k ≤ H → H - k < u → G < 4 → ∃ A', D_X4_addParty_2 R u s (nI k) A = some A' ∧ A' R 2 = nI (G + 1) ∧ (∀ h, k ≤ h → h < H → bitAt s h → A' (R + 4) h = nI G) ∧ (∀ r j, ¬ (r = R ∧ j = 2) → ¬ (r = R + 4 ∧ k ≤ j ∧ j < H ∧ bitAt s j) → A' r j = A r j) := by
  intro u
  induction u with
  | zero => intro k A _ _ _ h; omega
  | succ u ih =>
    intro k A h1 h2 hk hu hG
    rw [D_X4_addParty_2, h1]
    by_cases hc : H ≤ k
    · rw [if_pos ((nI_leI (by omega) (by omega)).mpr hc)]
      show ∃ A', some (zu A R 2 (A R 2 + 1)) = some A' ∧ _
      rw [h2, nI_add1]
      exact ⟨_, rfl, zu_eq, fun h q1 q2 => by omega, fun r j q _ => zu_ne q⟩
    · rw [if_neg (fun q => hc ((nI_leI (by omega) (by omega)).mp q))]
      by_cases hb : bitAt s k
      · rw [if_pos (show ((s >>> (nI k &&& 31)) &&& (1 : Int32)) = (1 : Int32) from hb), zwr_nI (by omega) (by decide), h2]
        show ∃ A', D_X4_addParty_2 R u s (nI k + 1) (zu A (R + 4) k (nI G)) = some A' ∧ _
        rw [nI_add1]
        obtain ⟨A', e1, e2, e3, e4⟩ := ih (k + 1) (zu A (R + 4) k (nI G)) ((zu_ne (by omega)).trans h1) ((zu_ne (by omega)).trans h2) (by omega) (by omega) hG
        refine ⟨A', e1, e2, fun h q1 q2 q3 => ?_, fun r j q1 q2 => (e4 r j q1 (fun z => q2 ⟨z.1, by omega, z.2.2⟩)).trans (zu_ne (fun z => q2 ⟨z.1, by omega, by omega, z.2 ▸ hb⟩))⟩
        by_cases z : h = k
        · subst z
          exact (e4 (R + 4) h (by omega) (by omega)).trans zu_eq
        · exact e3 h (by omega) q2 q3
      · rw [if_neg (show ¬ ((s >>> (nI k &&& 31)) &&& (1 : Int32)) = (1 : Int32) from hb)]
        show ∃ A', D_X4_addParty_2 R u s (nI k + 1) A = some A' ∧ _
        rw [nI_add1]
        obtain ⟨A', e1, e2, e3, e4⟩ := ih (k + 1) A h1 h2 (by omega) (by omega) hG
        refine ⟨A', e1, e2, fun h q1 q2 q3 => ?_, fun r j q1 q2 => e4 r j q1 (fun z => q2 ⟨z.1, by omega, z.2.2⟩)⟩
        have : h ≠ k := fun z => hb (z ▸ q3)
        exact e3 h (by omega) q2 q3
/-- the reference does -/
theorem m_161 {P H G : Nat} {x : Int64} {s : Int32} {N : zNt} (hH : H ≤ 10) (hG : G < 4) : ∀ (u k : Nat) (B : zMt), B P 29 = nI H → B P 30 = nI G → k ≤ H → H - k < u → ∃ B', D_X8_readParty_161 P u x s (nI k) B N = some ((1 : Int32), B', zu N (P + 10) G x) ∧ B' P 30 = nI (G + 1) ∧ (∀ h, k ≤ h → h < H → bitAt s h → B' (P + 2) (10 + h) = nI G) ∧ (∀ r j, ¬ (r = P ∧ j = 30) → ¬ (r = P + 2 ∧ ∃ h, k ≤ h ∧ h < H ∧ j = 10 + h ∧ bitAt s h) → B' r j = B r j) := by
  intro u
  induction u with
  | zero => intro k B _ _ _ h; omega
  | succ u ih =>
    intro k B h1 h2 hk hu
    rw [D_X8_readParty_161, h1, h2]
    by_cases hc : H ≤ k
    · rw [if_pos ((nI_leI (by omega) (by omega)).mpr hc)]
      unfold zI
      rw [if_neg (vp_in_nI hG (by decide)), nI_clamp (by omega), nI_add1]
      exact ⟨_, rfl, zu_eq, fun h q1 q2 => by omega, fun r j q _ => zu_ne q⟩
    · rw [if_neg (fun q => hc ((nI_leI (by omega) (by omega)).mp q))]
      obtain ⟨e, he, q⟩ := v_X8_has (v0 := s) (v1 := nI k)
      rw [zB_s he]
      by_cases hb : bitAt s k
      · have he0 : ¬ e = 0 := fun z => by
          rcases q.2 with ⟨w, _⟩ | ⟨_, w⟩
          · rw [z] at w; exact absurd w (by decide)
          · exact w hb
        have e10 : (10 : Int32) + nI k = nI (10 + k) := (show ∀ k, k < 10 → (10 : Int32) + nI k = nI (10 + k) by decide) k (by omega)
        rw [if_neg he0, e10]
        unfold zI
        rw [if_neg (vp_in_nI (by omega) (by decide)), nI_clamp (by omega)]
        show ∃ B', D_X8_readParty_161 P u x s (nI k + 1) (zu B (P + 2) (10 + k) (nI G)) N = _ ∧ _
        rw [nI_add1]
        obtain ⟨B', e1, e2, e3, e4⟩ := ih (k + 1) (zu B (P + 2) (10 + k) (nI G)) ((zu_ne (by omega)).trans h1) ((zu_ne (by omega)).trans h2) (by omega) (by omega)
        refine ⟨B', e1, e2, fun h q1 q2 q3 => ?_, fun r j q1 q2 => (e4 r j q1 (fun z => q2 ⟨z.1, by obtain ⟨h, w1, w2, w3, w4⟩ := z.2; exact ⟨h, by omega, w2, w3, w4⟩⟩)).trans (zu_ne (fun z => q2 ⟨z.1, k, Nat.le_refl k, by omega, z.2, hb⟩))⟩
        by_cases z : h = k
        · subst z
          exact (e4 (P + 2) (10 + h) (by omega) (by rintro ⟨-, h', w1, w2, w3, -⟩; omega)).trans zu_eq
        · exact e3 h (by omega) q2 q3
      · have he0 : e = 0 := by
          rcases q.2 with ⟨_, w⟩ | ⟨w, _⟩
          · exact absurd w hb
          · exact w
        rw [if_pos he0]
        show ∃ B', D_X8_readParty_161 P u x s (nI k + 1) B N = _ ∧ _
        rw [nI_add1]
        obtain ⟨B', e1, e2, e3, e4⟩ := ih (k + 1) B h1 h2 (by omega) (by omega)
        refine ⟨B', e1, e2, fun h q1 q2 q3 => ?_, fun r j q1 q2 => e4 r j q1 (fun z => q2 ⟨z.1, by obtain ⟨h, w1, w2, w3, w4⟩ := z.2; exact ⟨h, by omega, w2, w3, w4⟩⟩)⟩
        have : h ≠ k := fun z => hb (z ▸ q3)
        exact e3 h (by omega) q2 q3
/-- what is kept through the line -/
def pK (Q P n : Nat) (t : Nat → Int32) (A0 A : zMt) (NA0 NA : zNt) (B0 B : zMt) (NB0 NB : zNt) : Prop := kA Q A0 A ∧ kNA Q NA0 NA ∧ kB P B0 B ∧ kNB P NB0 NB ∧ tx Q n t A ∧ ty P n t B ∧ tk Q P n t A NA B NB
def dF (Q P : Nat) (A B : zMt) : Prop := A Q 1 = 0 ∧ B P 21 = 0 ∧ A Q 2 = -1 ∧ B P 22 = -1
/-- the end of a party's line -/
theorem l_party106 {Q P n : Nat} {t : Nat → Int32} {A A3 B B3 : zMt} {NA NA3 NB NB3 : zNt} {U H G : Nat} {s : Int32} {x : Int64} (hC : dC Q P A B U H G) (hM : dN Q P t NA NB U H G) (hR : dR Q P A B U H G) (hO : dO Q P A B) (hF : dF Q P A B) (hG : G < 4)
    (hs : ∀ h, h < 10 → bitAt s h → h < H ∧ A (Q + 5) h = -1 ∧ A (Q + 6) h = 0) (hx : ∃ h, h < 10 ∧ bitAt s h)
    (hK : pK Q P n t A A3 NA NA3 B B3 NB NB3) (hnm : nmR t (NA3 Q 10) x) (hd : ∀ i, i < H → ¬ NA (Q + 11) i = NA3 Q 10) : two (D_X3_readParty_106 Q s A3 NA3) (zB (D_X8_readParty_161 P zFu x s (0 : Int32) B3 NB3) fun e => D_X8_readLine_114 P e.1 e.2.1 e.2.2) (LR Q P n t) := by
  obtain ⟨kA3, kNA3, kB3, kNB3, x3, y3, k3⟩ := hK
  obtain ⟨c1, c2, c3, c4, c5, c6, c7, c8, c9⟩ := id hC
  obtain ⟨B', e1, e2, e3, e4⟩ := m_161 (P := P) (x := x) (s := s) (N := NB3) c2 hG zFu 0 B3 ((kB3 P 29 (by omega)).trans c7) ((kB3 P 30 (by omega)).trans c9) (by omega) (by unfold zFu; omega)
  rw [show nI 0 = (0 : Int32) by decide] at e1
  refine two.r e1 ?_
  show two _ (D_X8_readLine_114 P (1 : Int32) B' (zu NB3 (P + 10) G x)) _
  have kM : ∀ r j, ¬ (r = P ∧ j = 30) → ¬ r = P + 2 → B' r j = B3 r j := fun r j h1 h2 => e4 r j h1 (fun z => h2 z.1)
  unfold D_X3_readParty_106
  refine two.bindl (t_end (x1 := 1) x3 (y3.mono (fun r j h => kM r j (by omega) (by omega))) (k3.mono (fun _ _ => rfl) rfl (fun j h => kM P j (by omega) (by omega)) (zu_ne (by omega))) (by decide)) (fun a4 b4 h4 => ?_)
  rcases h4 with h4 | ⟨j4, s4, i4, ka4, kna4, kb4, knb4, x4, y4, k4, p4, q4, o4, w4, v4⟩
  · rw [if_pos h4.1]
    exact two.mk (Or.inl ⟨rfl, h4.2.1, h4.2.2⟩)
  rw [if_neg (by rw [j4]; decide)]
  refine two.letl ?_
  have kA4 : kA Q A a4.2.1 := kA3.tr ka4
  have kNA4 : kNA Q NA a4.2.2 := kNA3.tr kna4
  have cG : a4.2.1 (Q + 1) 2 = nI G := (kA4 (Q + 1) 2 (by omega) (by omega)).trans c8
  have cH : a4.2.1 (Q + 1) 1 = nI H := (kA4 (Q + 1) 1 (by omega) (by omega)).trans c6
  rw [cG, zwr_nI hG (by decide)]
  obtain ⟨A', f1, f2, f3, f4⟩ := c_addParty (R := Q + 1) (s := s) c2 zFu 0 a4.2.1 cH cG (by omega) (by unfold zFu; omega) hG
  rw [show nI 0 = (0 : Int32) by decide] at f1
  refine two.l (show D_X4_addParty (Q + 1) s a4.2.1 = some A' from f1) (two.mk (Or.inr ⟨rfl, i4, ?_⟩))
  have kF : ∀ r j, ¬ (r = Q + 1 ∧ j = 2) → ¬ r = Q + 5 → A' r j = a4.2.1 r j := fun r j h1 h2 => f4 r j h1 (fun z => h2 z.1)
  have kFn : ∀ r j, ¬ (r = Q + 12 ∧ j = G) → zu a4.2.2 (Q + 12) G (a4.2.2 Q 10) r j = a4.2.2 r j := fun r j h => zu_ne (by omega)
  refine ⟨x4.mono (fun r j h => kF r j (by omega) (by omega)), y4, k4.mono (fun j h => kF Q j (by omega) (by omega)) (kFn Q 8 (by omega)) (fun _ _ => rfl) rfl, Or.inr (Or.inr ?_)⟩
  obtain ⟨d1, d2, d3⟩ := d_party (A' := A') (NA' := zu a4.2.2 (Q + 12) G (a4.2.2 Q 10)) (B' := b4.2.1) (NB' := b4.2.2) (s := s) hC hM hR hG hs hx
    (fun r j h1 h2 h3 => (f4 r j (fun z => h3 (Or.inl z)) (fun z => h3 (Or.inr ⟨z.1, z.2.2⟩))).trans (kA4 r j h1 h2)) f2 (fun h h1 h2 => f3 h (Nat.zero_le h) h1 h2)
    (fun r j h1 h2 => (kFn r j h2).trans (kNA4 r j h1))
    (fun r j h1 h2 => (kb4 r j h1).trans ((e4 r j (fun z => h2 (Or.inl z)) (fun z => h2 (Or.inr ⟨z.1, by obtain ⟨h, w1, w2, w3, w4⟩ := z.2; exact ⟨h, w2, w3, w4⟩⟩))).trans (kB3 r j h1)))
    ((kb4 P 30 (by omega)).trans e2)
    (fun h h1 h2 => (kb4 (P + 2) (10 + h) (by omega)).trans (e3 h (Nat.zero_le h) h1 h2))
    (fun r j h1 h2 => (knb4 r j h1).trans ((zu_ne h2).trans (kNB3 r j h1)))
    (by rw [zu_eq, knb4 (P + 10) G (by omega), zu_eq, p4]; exact hnm)
    (fun i hi => by rw [zu_eq, p4]; exact hd i hi)
  refine ⟨⟨U, H, G + 1, d1, d2, d3⟩, hO.g (fun j h => (kF Q j (by omega) (by omega)).trans (kA4 Q j (by omega) (by omega))) ((kF (Q + 1) 3 (by omega) (by omega)).trans (kA4 (Q + 1) 3 (by omega) (by omega))) ((kb4 P 23 (by omega)).trans ((kM P 23 (by omega) (by omega)).trans (kB3 P 23 (by omega)))), ?_, ?_, ?_, ?_⟩
  · show A' Q 1 = 0
    rw [kF Q 1 (by omega) (by omega), kA4 Q 1 (by omega) (by omega)]; exact hF.1
  · rw [kb4 P 21 (by omega), kM P 21 (by omega) (by omega), kB3 P 21 (by omega)]; exact hF.2.1
  · show A' Q 2 = -1
    rw [kF Q 2 (by omega) (by omega), kA4 Q 2 (by omega) (by omega)]; exact hF.2.2.1
  · rw [kb4 P 22 (by omega), kM P 22 (by omega) (by omega), kB3 P 22 (by omega)]; exact hF.2.2.2
/-- where no name stands and no end of the line either -/
theorem l_noEnd {Q P n : Nat} {t : Nat → Int32} {A B B' : zMt} {NA NB NB' : zNt} (k3 : tk Q P n t A NA B NB) (h6 : ¬ A Q 6 = 3) (kb : ∀ j, (16 ≤ j ∧ j ≤ 20) → B' P j = B P j) (nb : NB' P 24 = NB P 24) : two (zB (D_X3_fail Q (2 : Int32) A) fun e => some (e.1, e.2, NA)) (D_X8_readLine_114 P (1 : Int32) B' NB') (LR Q P n t) := by
  have k3' : tk Q P n t A NA B' NB' := k3.mono (fun _ _ => rfl) rfl kb nb
  unfold D_X8_readLine_114
  rw [if_neg (by decide), if_neg (fun z => h6 (k3'.sgn.1.mpr z))]
  exact (t_fail (NA := NA) (NB := NB') k3').imp (fun _ _ h => Or.inl h)
theorem bitK_or {s : Int32} {k h : Nat} (hk : k < 10) (hh : h < 10) : bitAt (s ||| ((1 : Int32) <<< (nI k &&& 31))) h ↔ bitAt s h ∨ k = h := by
  rw [bitAt_or hh]
  exact or_congr Iff.rfl (bitAt_one k hk h hh)
/-- is the hunter free: both say alike -/
theorem s_free {Q P : Nat} {A B : zMt} {U H G h : Nat} (hC : dC Q P A B U H G) (hR : dR Q P A B U H G) (hh : h < H) : (A (Q + 5) h = -1 ↔ B (P + 2) (10 + h) = -1) ∧ (A (Q + 5) h = -1 → (A (Q + 6) h = 0 ↔ B (P + 2) (20 + 3 * h) = -1)) := by
  obtain ⟨c1, c2, -⟩ := hC
  obtain ⟨r1, r2, r3, r4, r5, -⟩ := hR
  refine ⟨by rw [(r4 h (by omega)).1], fun he => ?_⟩
  obtain ⟨c, w1, w2, w3, w4⟩ := r5 h (by omega) he
  have w := w4 0 (by omega)
  rw [Nat.add_zero] at w
  rw [w2]
  constructor
  · intro z
    have hc : c = 0 := nI_inj (by omega) (by omega) (z.trans (by decide))
    exact Classical.byContradiction (fun q => absurd (w.mpr q) (by omega))
  · intro z
    have : ¬ 0 < c := fun q => w.mp q z
    have hc : c = 0 := by omega
    rw [hc]; decide
theorem l_party17 {Q P n : Nat} {t : Nat → Int32} {A B : zMt} {NA NB : zNt} {U H G : Nat} {x : Int64} {w : Int64} (hC : dC Q P A B U H G) (hM : dN Q P t NA NB U H G) (hR : dR Q P A B U H G) (hO : dO Q P A B) (hF : dF Q P A B) (hG : G < 4) (hnm : nmR t w x) (hd : ∀ i, i < H → ¬ NA (Q + 11) i = w) : ∀ (u c : Nat) (s : Int32) (A3 : zMt) (NA3 : zNt) (B3 : zMt) (NB3 : zNt), pK Q P n t A A3 NA NA3 B B3 NB NB3 → NA3 Q 10 = w → c ≤ 4 → 4 - c < u → (∀ h, h < 10 → bitAt s h → h < H ∧ A (Q + 5) h = -1 ∧ A (Q + 6) h = 0) → (c = 0 ∨ ∃ h, h < 10 ∧ bitAt s h) → two (D_X3_readParty_17 Q u s (nI c) A3 NA3) (zB (D_X8_readParty_40 P u x s (nI c) B3 NB3) fun e => D_X8_readLine_114 P e.1 e.2.1 e.2.2) (LR Q P n t) := by
  intro u
  induction u with
  | zero => intro c s A3 NA3 B3 NB3 _ _ _ h; omega
  | succ u ih =>
    intro c s A3 NA3 B3 NB3 hK hw hc hu hs hx
    obtain ⟨kA3, kNA3, kB3, kNB3, x3, y3, k3⟩ := id hK
    have hC3 := hC.k kA3 kB3
    have hM3 := hM.k kNA3 kNB3
    have hR3 := hR.k kA3 kB3
    obtain ⟨c1, c2, c3, c4, c5, c6, c7, c8, c9⟩ := id hC3
    obtain ⟨r, er, er8, hr⟩ := s_isName x3 k3
    -- the end
    have fin : ∀ hx : ∃ h, h < 10 ∧ bitAt s h, two (D_X3_readParty_106 Q s A3 NA3) (zB (D_X8_readParty_161 P zFu x s (0 : Int32) B3 NB3) fun e => D_X8_readLine_114 P e.1 e.2.1 e.2.2) (LR Q P n t) := fun hx => l_party106 hC hM hR hO hF hG hs hx hK (by rw [hw]; exact hnm) (fun i hi => by rw [hw]; exact hd i hi)
    -- one mate more
    have more : c < 4 → r = 1 → two (D_X3_readParty_35 Q (D_X3_readParty_17 Q u) s (nI c) A3 NA3) (zB (D_X8_readParty_53 P (D_X8_readParty_40 P u) x s (nI c) B3 NB3) fun e => D_X8_readLine_114 P e.1 e.2.1 e.2.2) (LR Q P n t) := by
      intro hc4 hr1
      obtain ⟨-, s0, k, h7, h16, hW⟩ := hr.resolve_left (by rw [hr1]; decide)
      unfold D_X3_readParty_35 D_X8_readParty_53
      refine two.l er ?_
      rw [zB_zB]
      refine two.r er8 ?_
      rw [if_neg (by rw [hr1]; decide), if_neg (by rw [hr1]; decide), if_neg (by intro z; exact absurd (nI_inj (b := 4) (by omega) (by omega) z) (by omega)), zB_zB, c6, c7]
      obtain ⟨e, g1, g2, hf⟩ := s_find (Qr := Q + 11) (nQ := 10) (Pr := P + 9) (nP := 10) (c := H) c2 c2 (by omega) (by omega) hW.nm hM3.2.1
      refine two.l g1 (two.r g2 ?_)
      have bad4 : two (D_X3_readParty_84 Q A3 NA3) (zB (D_X8_readParty_134 P B3 NB3) fun e => D_X8_readLine_114 P e.1 e.2.1 e.2.2) (LR Q P n t) := by
        unfold D_X3_readParty_84 D_X8_readParty_134
        obtain ⟨a, f1, b, f2, f3⟩ := t_fail (NA := NA3) (NB := NB3) (v := 4) k3
        rw [f1, f2]
        exact t_dn2 (a := a) (b := b) f3
      by_cases he : e = -1
      · rw [if_pos he]
        unfold D_X3_isFree
        rw [if_pos he]
        exact bad4
      · obtain ⟨h, hh, e2, -⟩ := hf.some he
        subst e2
        rw [if_neg he]
        unfold D_X3_isFree
        rw [if_neg he, zrd_nI (by omega) (by decide), zrd_nI (by omega) (by decide), zB_zI]
        have e10 : (10 : Int32) + nI h = nI (10 + h) := (show ∀ k, k < 10 → (10 : Int32) + nI k = nI (10 + k) by decide) h (by omega)
        have e20 : (20 : Int32) + (3 : Int32) * nI h = nI (20 + 3 * h) := (show ∀ k, k < 10 → (20 : Int32) + (3 : Int32) * nI k = nI (20 + 3 * k) by decide) h (by omega)
        rw [e10, e20]
        refine two.ir (vp_in_nI (by omega) (by decide)) ?_
        rw [nI_clamp (by omega)]
        obtain ⟨q1, q2⟩ := s_free hC3 hR3 hh
        by_cases hp : A3 (Q + 5) h = -1
        · rw [if_pos hp, if_pos (q1.mp hp), zB_zI]
          refine two.ir (vp_in_nI (by omega) (by decide)) ?_
          rw [nI_clamp (by omega)]
          by_cases hwc : A3 (Q + 6) h = 0
          · rw [if_pos hwc, if_pos ((q2 hp).mp hwc), zB_zB]
            refine two.l (e := 1) rfl ?_
            rw [if_neg (by decide)]
            obtain ⟨e3, he3, hq3⟩ := v_X8_has (v0 := s) (v1 := nI h)
            refine two.r he3 ?_
            by_cases hb : bitAt s h
            · have e30 : ¬ e3 = 0 := fun z => by
                rcases hq3.2 with ⟨w, _⟩ | ⟨_, w⟩
                · rw [z] at w; exact absurd w (by decide)
                · exact w hb
              rw [if_pos (show ((s >>> (nI h &&& 31)) &&& (1 : Int32)) = (1 : Int32) from hb), if_neg e30]
              exact bad4
            · have e30 : e3 = 0 := by
                rcases hq3.2 with ⟨_, w⟩ | ⟨w, _⟩
                · exact absurd w hb
                · exact w
              rw [if_neg (show ¬ ((s >>> (nI h &&& 31)) &&& (1 : Int32)) = (1 : Int32) from hb), if_pos e30, zB_zB]
              refine two.bind (t_step x3 y3 hW.nx) (fun a4 b4 h4 => ?_)
              obtain ⟨i4, ka4, kna4, kb4, knb4, x4, y4, k4, p4, q4, o4, w4, v4⟩ := h4
              rw [nI_add1]
              refine ih (c + 1) _ a4.1 a4.2 b4.2.1 b4.2.2 ⟨kA3.tr ka4, kNA3.tr kna4, kB3.tr kb4, kNB3.tr knb4, x4, y4, k4⟩ (p4.trans hw) (by omega) (by omega) ?_ (Or.inr ⟨h, by omega, (bitK_or (by omega) (by omega)).mpr (Or.inr rfl)⟩)
              intro h' hh' hb'
              rcases (bitK_or (by omega) hh').mp hb' with z | z
              · exact hs h' hh' z
              · subst z
                exact ⟨hh, (kA3 (Q + 5) h (by omega) (by omega)).symm.trans hp, (kA3 (Q + 6) h (by omega) (by omega)).symm.trans hwc⟩
          · rw [if_neg hwc, if_neg (fun z => hwc ((q2 hp).mpr z))]
            exact bad4
        · rw [if_neg hp, if_neg (fun z => hp (q1.mpr z))]
          exact bad4
    rw [D_X3_readParty_17, D_X8_readParty_40]
    by_cases h4 : 4 ≤ c
    · have hc4 : c = 4 := by omega
      subst hc4
      have hx' := hx.resolve_left (by omega)
      rw [if_pos (by exact (leL (x := 4) (a := 4) (by decide) (by decide) (by omega)).mpr (by omega)), if_neg (by intro z; exact absurd ((ltR (x := 2) (b := 2) (by decide) (by decide) (by omega)).mp z) (by omega)), zB_zB]
      refine two.r er8 ?_
      by_cases hr0 : r = 0
      · rw [if_pos hr0]
        exact fin hx'
      · rw [if_neg hr0]
        obtain ⟨-, s0, k, h7, h16, hW⟩ := hr.resolve_left hr0
        unfold D_X8_readParty_53
        rw [zB_zB]
        refine two.r er8 ?_
        rw [if_neg hr0, if_pos (show nI 4 = (4 : Int32) by decide)]
        have h63 : ¬ A3 Q 6 = 3 := fun z => absurd (hW.1.symm.trans z) (by decide)
        unfold D_X3_readParty_106 D_X3_endOfLine D_X8_readParty_66
        rw [if_neg h63]
        obtain ⟨a, f1, b, f2, f3⟩ := t_fail (NA := NA3) (NB := NB3) (v := 2) k3
        rw [f1, f2]
        show two (if a.1 = 0 then some ((0 : Int32), a.2.1, a.2.2) else _) (D_X8_readLine_114 P b.1 b.2.1 b.2.2) _
        rw [if_pos f3.1, f3.2.1]
        exact t_dn (a := a) (b := b) f3
    · rw [if_neg (by intro z; exact h4 ((leL (x := 4) (a := 4) (by decide) (by decide) (by omega)).mp z))]
      by_cases h2 : c < 2
      · have hlt : nI c < (2 : Int32) := (ltR (x := 2) (b := 2) (by decide) (by decide) (by omega)).mpr h2
        rw [if_pos hlt, if_pos hlt]
        rcases hr with hr0 | ⟨hr1, hh⟩
        · unfold D_X3_readParty_35 D_X8_readParty_53
          refine two.l er ?_
          rw [zB_zB]
          refine two.r er8 ?_
          rw [if_pos hr0, if_pos hr0]
          unfold D_X8_readParty_66
          obtain ⟨a, f1, b, f2, f3⟩ := t_fail (NA := NA3) (NB := NB3) (v := 2) k3
          rw [f1, f2]
          exact t_dn2 (a := a) (b := b) f3
        · exact more (by omega) hr1
      · have hx' := hx.resolve_left (by omega)
        have hge : ¬ nI c < (2 : Int32) := fun z => h2 ((ltR (x := 2) (b := 2) (by decide) (by decide) (by omega)).mp z)
        rw [if_neg hge, if_neg hge, zB_zB]
        refine two.r er8 ?_
        by_cases hr0 : r = 0
        · rw [if_pos hr0]
          by_cases h63 : A3 Q 6 = 3
          · rw [if_pos h63]
            exact fin hx'
          · rw [if_neg h63]
            unfold D_X3_readParty_35
            refine two.l er ?_
            rw [if_pos hr0]
            obtain ⟨B', e1, e2, e3, e4⟩ := m_161 (P := P) (x := x) (s := s) (N := NB3) c2 hG zFu 0 B3 c7 c9 (by omega) (by unfold zFu; omega)
            rw [show nI 0 = (0 : Int32) by decide] at e1
            refine two.r e1 ?_
            exact l_noEnd k3 h63 (fun j hj => e4 P j (by omega) (by omega)) (zu_ne (by omega))
        · have hr1 : r = 1 := (hr.resolve_left hr0).1
          obtain ⟨-, s0, k, h7, h16, hW⟩ := hr.resolve_left hr0
          have h63 : ¬ A3 Q 6 = 3 := fun z => absurd (hW.1.symm.trans z) (by decide)
          rw [if_neg hr0, if_neg h63]
          exact more (by omega) hr1
theorem l_party {Q P n : Nat} {t : Nat → Int32} {A B : zMt} {NA NB : zNt} (hX : tx Q n t A) (hY : ty P n t B) (hN : nx Q P n A B) {U H G : Nat} (hC : dC Q P A B U H G) (hM : dN Q P t NA NB U H G) (hR : dR Q P A B U H G) (hO : dO Q P A B) (hF : dF Q P A B) (hG : G < 4) : two (D_X3_readParty Q A NA) (zB (D_X8_readParty P B NB) fun e => D_X8_readLine_114 P e.1 e.2.1 e.2.2) (LR Q P n t) := by
  have hc5 : B P 30 = nI G := hC.2.2.2.2.2.2.2.2
  unfold D_X3_readParty D_X8_readParty
  rw [if_neg (by rw [hc5]; exact fun z => absurd (nI_inj (b := 4) (by omega) (by omega) z) (by omega)), zB_zB]
  refine two.bind (t_step hX hY hN) (fun a1 b1 h1 => ?_)
  obtain ⟨i1, ka1, kna1, kb1, knb1, x1, y1, k1, p1, q1, o1, w1, v1⟩ := h1
  rw [if_neg (by rw [i1]; decide), zB_zB]
  have hC1 := hC.k ka1 kb1
  have hM1 := hM.k kna1 knb1
  refine two.bind (t_newName x1 y1 k1 hC1 hM1) (fun a2 b2 h2 => ?_)
  rcases h2 with h2 | ⟨j2, NA', NB', kna', knb', hnm, f1, f2, f3, i2, ka2, kna2, kb2, knb2, x2, y2, k2, p2, q2, o2, w2, v2⟩
  · rw [if_pos h2.1, if_pos h2.2.1]
    exact t_dn (a := a2) (b := b2) h2
  rw [if_neg (by rw [j2]; decide), if_neg (by rw [i2]; decide)]
  exact l_party17 (w := a2.2.2 Q 10) hC hM hR hO hF hG (by rw [p2, q2]; exact hnm) (fun i hi z => f2 i hi (by rw [kna1 (Q + 11) i (by omega), z, p2])) zFu 0 0 a2.2.1 a2.2.2 b2.2.1 b2.2.2 ⟨ka1.tr ka2, (kna1.tr kna').tr kna2, kb1.tr kb2, (knb1.tr knb').tr knb2, x2, y2, k2⟩ rfl (by omega) (by unfold zFu; omega) (fun h _ hb => absurd hb bitAt_0) (Or.inl rfl)
/-! the line of what somebody asks for -/
def bOf (A : zMt) (Q G h base : Nat) : Prop := (A (Q + 5) h = -1 ∧ base = 20 + 3 * h) ∨ ∃ g, g < G ∧ A (Q + 5) h = nI g ∧ base = 50 + 3 * g
/-- who asks: the hunters as bits, the place of their choices -/
def aK (Q P : Nat) (A B : zMt) (H G : Nat) (s : Int32) (base : Nat) : Prop :=
  ((∃ h, h < H ∧ base = 20 + 3 * h) ∨ ∃ g, g < G ∧ base = 50 + 3 * g) ∧
  (∀ h, h < 10 → bitAt s h → h < H ∧ bOf A Q G h base) ∧ (∀ h, h < H → bOf A Q G h base → bitAt s h) ∧ (∀ k, k < 3 → B (P + 2) (base + k) = -1)
theorem d_asks {Q P : Nat} {A A' B B' : zMt} {U H G c base : Nat} {s : Int32} {w : Nat → Int32} (hC : dC Q P A B U H G) (hR : dR Q P A B U H G) (hK : aK Q P A B H G s base) (hc : c ≤ 3) (hw : ∀ k, k < 3 → (k < c ↔ ¬ w k = -1))
    (a : gA Q (fun r j => (r = Q + 6 ∧ j < H ∧ bitAt s j) ∨ (r = Q + 7 ∧ ∃ h k, h < H ∧ k < 3 ∧ j = 3 * h + k ∧ bitAt s h)) A A') (a1 : ∀ h, h < H → bitAt s h → A' (Q + 6) h = nI c) (a2 : ∀ h k, h < H → k < 3 → bitAt s h → A' (Q + 7) (3 * h + k) = w k)
    (b : gB P (fun r j => r = P + 2 ∧ base ≤ j ∧ j < base + 3) B B') (b1 : ∀ k, k < 3 → B' (P + 2) (base + k) = w k) : dC Q P A' B' U H G ∧ dR Q P A' B' U H G := by
  have a : ∀ r j, ¬ (r = Q ∧ (j = 5 ∨ j = 6 ∨ j = 7 ∨ j = 9)) → ¬ r = Q + 13 → ¬ ((r = Q + 6 ∧ j < H ∧ bitAt s j) ∨ (r = Q + 7 ∧ ∃ h k, h < H ∧ k < 3 ∧ j = 3 * h + k ∧ bitAt s h)) → A' r j = A r j := a
  have b : ∀ r j, ¬ (r = P ∧ ((16 ≤ j ∧ j ≤ 20) ∨ j = 31)) → ¬ (r = P + 2 ∧ base ≤ j ∧ j < base + 3) → B' r j = B r j := b
  obtain ⟨k1, k2, k3, k4⟩ := hK
  obtain ⟨c1, c2, c3, c4, c5, c6, c7, c8, c9⟩ := hC
  obtain ⟨r1, r2, r3, r4, r5, r6, r7, r8, r9, ⟨s1, s2, s3⟩, ⟨u1, u2, u3, u4, u5⟩⟩ := hR
  have aR : ∀ i j, (1 ≤ i ∧ i ≤ 8 ∧ i ≠ 6 ∧ i ≠ 7) → A' (Q + i) j = A (Q + i) j := fun i j hi => a (Q + i) j (by omega) (by omega) (by rintro (⟨h1, -⟩ | ⟨h1, -⟩) <;> omega)
  have bR : ∀ j, (j < 20 ∨ 62 ≤ j) → B' (P + 2) j = B (P + 2) j := fun j hj => b (P + 2) j (by omega) (by
    rcases k1 with ⟨h, z1, z2⟩ | ⟨g, z1, z2⟩ <;> omega)
  have bQ : ∀ j, (28 ≤ j ∧ j ≤ 30) → B' P j = B P j := fun j hj => b P j (by omega) (by omega)
  have b6 : ∀ j, B' (P + 6) j = B (P + 6) j := fun j => b (P + 6) j (by omega) (by omega)
  have key : ∀ h base', h < 10 → ((A (Q + 5) h = -1 ∧ base' = 20 + 3 * h) ∨ ∃ g, g < G ∧ A (Q + 5) h = nI g ∧ base' = 50 + 3 * g) → wsh A B Q P h base' → wsh A' B' Q P h base' := fun h base' hh hb w0 => by
    by_cases q : bitAt s h
    · obtain ⟨q1, q2⟩ := k2 h hh q
      have e : base' = base := by
        rcases hb with ⟨z1, z2⟩ | ⟨g, z1, z2, z3⟩
        · rcases q2 with ⟨y1, y2⟩ | ⟨g', y1, y2, y3⟩
          · omega
          · exact absurd (y2.symm.trans z1) (nI_ne (by omega))
        · rcases q2 with ⟨y1, y2⟩ | ⟨g', y1, y2, y3⟩
          · exact absurd (z2.symm.trans y1) (nI_ne (by omega))
          · have : g = g' := nI_inj (by omega) (by omega) (z2.symm.trans y2)
            omega
      subst e
      exact ⟨c, hc, a1 h q1 q, fun k hk => by rw [a2 h k q1 hk q, b1 k hk], fun k hk => by rw [b1 k hk]; exact hw k hk⟩
    · have hne : base' + 3 ≤ base ∨ base + 3 ≤ base' := by
        have hn : ¬ base' = base := fun z => by
          subst z
          by_cases hH : h < H
          · exact q (k3 h hH hb)
          · rcases hb with ⟨z1, z2⟩ | ⟨g, z1, z2, z3⟩
            · rcases k1 with ⟨h', y1, y2⟩ | ⟨g, y1, y2⟩ <;> omega
            · rcases (r4 h hh).2.2 with y | y
              · omega
              · exact absurd (z2.symm.trans y) (nI_ne (by omega))
        rcases k1 with ⟨h', y1, y2⟩ | ⟨g, y1, y2⟩ <;> rcases hb with ⟨z1, z2⟩ | ⟨g', z1, z2, z3⟩ <;> omega
      refine w0.k (a (Q + 6) h (by omega) (by omega) ?_) (fun k hk => a (Q + 7) _ (by omega) (by omega) ?_) (fun k hk => b (P + 2) _ (by omega) (by omega))
      · rintro (⟨-, -, z⟩ | ⟨z, -⟩)
        · exact q z
        · omega
      · rintro (⟨z, -⟩ | ⟨-, h', k', y1, y2, y3, y4⟩)
        · omega
        · have : h' = h := by omega
          exact q (this ▸ y4)
  refine ⟨⟨c1, c2, c3, ?_, ?_, ?_, ?_, ?_, ?_⟩, ⟨fun u hu => ?_, fun h hh => ?_, fun h hh => ?_, fun h hh => ?_, fun h hh he => ?_, fun h g hh hg he => ?_, fun g k h1 h2 h3 => ?_, fun h h1 h2 => ?_, fun g hg => ?_, ⟨?_, ?_, ?_⟩, ⟨?_, ?_, fun h hh => ⟨?_, ?_⟩, fun u hu1 hu2 => ?_, fun h hh1 hh2 => ?_⟩⟩⟩
  · rw [aR 1 0 (by omega)]; exact c4
  · rw [bQ 28 (by omega)]; exact c5
  · rw [aR 1 1 (by omega)]; exact c6
  · rw [bQ 29 (by omega)]; exact c7
  · rw [aR 1 2 (by omega)]; exact c8
  · rw [bQ 30 (by omega)]; exact c9
  · rw [aR 2 u (by omega), bR (62 + u) (by omega)]; exact r1 u hu
  · rw [aR 3 h (by omega), bR h (by omega)]; exact r2 h hh
  · rw [aR 4 h (by omega), b6 h]; exact r3 h hh
  · rw [aR 5 h (by omega), bR (10 + h) (by omega)]; exact r4 h hh
  · rw [aR 5 h (by omega)] at he
    exact key h _ hh (Or.inl ⟨he, rfl⟩) (r5 h hh he)
  · rw [aR 5 h (by omega)] at he
    exact key h _ hh (Or.inr ⟨g, hg, he, rfl⟩) (r6 h g hh hg he)
  · rw [b (P + 2) (50 + 3 * g + k) (by omega) (by rcases k1 with ⟨h', y1, y2⟩ | ⟨g', y1, y2⟩ <;> omega)]; exact r7 g k h1 h2 h3
  · rw [a (Q + 6) h (by omega) (by omega) (by rintro (⟨-, z, -⟩ | ⟨z, -⟩) <;> omega)]; exact r8 h h1 h2
  · obtain ⟨h, h1, h2⟩ := r9 g hg
    exact ⟨h, h1, by rw [aR 5 h (by omega)]; exact h2⟩
  · rw [aR 1 3 (by omega), bR 67 (by omega)]; exact s1
  · rw [aR 1 4 (by omega), bR 68 (by omega)]; exact s2
  · rw [aR 1 5 (by omega), bR 69 (by omega)]; exact s3
  · rw [aR 1 6 (by omega)]; exact u1
  · rw [bR 71 (by omega)]; exact u2
  · rw [aR 8 h (by omega)]; exact (u3 h hh).1
  · rw [bR (72 + h) (by omega)]; exact (u3 h hh).2
  · rw [aR 2 u (by omega)]; exact u4 u (by omega) hu2
  · rw [aR 4 h (by omega)]; exact u5 h (by omega) hh2
/-- the class writes the choices down -/
theorem c_wish38 {R H : Nat} {s x2 x3 x4 x5 : Int32} (hH : H ≤ 10) : ∀ (u h0 : Nat) (A : zMt), A R 1 = nI H → h0 ≤ H → H - h0 < u → ∃ A', D_X4_wishFor_38 R u s x2 x3 x4 x5 (nI h0) A = some A' ∧ (∀ h, h0 ≤ h → h < H → bitAt s h → A' (R + 5) h = x5 ∧ A' (R + 6) (3 * h) = x2 ∧ A' (R + 6) (3 * h + 1) = x3 ∧ A' (R + 6) (3 * h + 2) = x4) ∧ (∀ r j, ¬ (r = R + 5 ∧ j < H ∧ bitAt s j) → ¬ (r = R + 6 ∧ ∃ h k, h < H ∧ k < 3 ∧ j = 3 * h + k ∧ bitAt s h) → A' r j = A r j) ∧ (∀ j, j < h0 → A' (R + 5) j = A (R + 5) j) ∧ (∀ j, j < 3 * h0 → A' (R + 6) j = A (R + 6) j) := by
  intro u
  induction u with
  | zero => intro h0 A _ _ h; omega
  | succ u ih =>
    intro h0 A h1 hk hu
    rw [D_X4_wishFor_38, h1]
    by_cases hc : H ≤ h0
    · rw [if_pos ((nI_leI (by omega) (by omega)).mpr hc)]
      exact ⟨A, rfl, fun h q1 q2 => by omega, fun _ _ _ _ => rfl, fun _ _ => rfl, fun _ _ => rfl⟩
    · rw [if_neg (fun q => hc ((nI_leI (by omega) (by omega)).mp q))]
      by_cases hb : bitAt s h0
      · have e3 : nI h0 * (3 : Int32) = nI (3 * h0) := (show ∀ k, k < 10 → nI k * (3 : Int32) = nI (3 * k) by decide) h0 (by omega)
        have e4 : nI (3 * h0) + (1 : Int32) = nI (3 * h0 + 1) := nI_add1
        have e5 : nI (3 * h0) + (2 : Int32) = nI (3 * h0 + 2) := (show ∀ k, k < 10 → nI (3 * k) + (2 : Int32) = nI (3 * k + 2) by decide) h0 (by omega)
        rw [if_pos (show ((s >>> (nI h0 &&& 31)) &&& (1 : Int32)) = (1 : Int32) from hb), e3, e4, e5, zwr_nI (by omega) (by decide)]
        show ∃ A', (zLt (zwr (zu A (R + 5) h0 x5) (R + 6) 30 (nI (3 * h0)) x2) fun M_77 => zLt (zwr M_77 (R + 6) 30 (nI (3 * h0 + 1)) x3) fun M_91 => zLt (zwr M_91 (R + 6) 30 (nI (3 * h0 + 2)) x4) fun M_106 => D_X4_wishFor_38 R u s x2 x3 x4 x5 (nI h0 + 1) M_106) = some A' ∧ _
        rw [zwr_nI (by omega) (by decide)]
        show ∃ A', (zLt (zwr (zu (zu A (R + 5) h0 x5) (R + 6) (3 * h0) x2) (R + 6) 30 (nI (3 * h0 + 1)) x3) fun M_91 => zLt (zwr M_91 (R + 6) 30 (nI (3 * h0 + 2)) x4) fun M_106 => D_X4_wishFor_38 R u s x2 x3 x4 x5 (nI h0 + 1) M_106) = some A' ∧ _
        rw [zwr_nI (by omega) (by decide)]
        show ∃ A', (zLt (zwr (zu (zu (zu A (R + 5) h0 x5) (R + 6) (3 * h0) x2) (R + 6) (3 * h0 + 1) x3) (R + 6) 30 (nI (3 * h0 + 2)) x4) fun M_106 => D_X4_wishFor_38 R u s x2 x3 x4 x5 (nI h0 + 1) M_106) = some A' ∧ _
        rw [zwr_nI (by omega) (by decide), nI_add1]
        generalize hA2 : zu (zu (zu (zu A (R + 5) h0 x5) (R + 6) (3 * h0) x2) (R + 6) (3 * h0 + 1) x3) (R + 6) (3 * h0 + 2) x4 = A2
        have g0 : ∀ r j, ¬ (r = R + 5 ∧ j = h0) → ¬ (r = R + 6 ∧ 3 * h0 ≤ j ∧ j < 3 * h0 + 3) → A2 r j = A r j := fun r j q1 q2 => by
          rw [← hA2, zu_ne (by omega), zu_ne (by omega), zu_ne (by omega), zu_ne (by omega)]
        have g1 : A2 (R + 5) h0 = x5 := by rw [← hA2, zu_ne (by omega), zu_ne (by omega), zu_ne (by omega), zu_eq]
        have g2 : A2 (R + 6) (3 * h0) = x2 := by rw [← hA2, zu_ne (by omega), zu_ne (by omega), zu_eq]
        have g3 : A2 (R + 6) (3 * h0 + 1) = x3 := by rw [← hA2, zu_ne (by omega), zu_eq]
        have g4 : A2 (R + 6) (3 * h0 + 2) = x4 := by rw [← hA2, zu_eq]
        show ∃ A', D_X4_wishFor_38 R u s x2 x3 x4 x5 (nI (h0 + 1)) A2 = some A' ∧ _
        obtain ⟨A', f1, f2, f3, f4, f5⟩ := ih (h0 + 1) A2 ((g0 R 1 (by omega) (by omega)).trans h1) (by omega) (by omega)
        refine ⟨A', f1, fun h q1 q2 q3 => ?_, fun r j q1 q2 => ?_, fun j q => ?_, fun j q => ?_⟩
        · by_cases z : h = h0
          · subst z
            rw [f4 h (by omega), f5 (3 * h) (by omega), f5 (3 * h + 1) (by omega), f5 (3 * h + 2) (by omega)]
            exact ⟨g1, g2, g3, g4⟩
          · exact f2 h (by omega) q2 q3
        · refine (f3 r j q1 q2).trans (g0 r j (fun z => q1 ⟨z.1, by omega, z.2 ▸ hb⟩) (fun z => q2 ⟨z.1, h0, j - 3 * h0, by omega, by omega, by omega, hb⟩))
        · exact (f4 j (by omega)).trans (g0 (R + 5) j (by omega) (by omega))
        · exact (f5 j (by omega)).trans (g0 (R + 6) j (by omega) (by omega))
      · rw [if_neg (show ¬ ((s >>> (nI h0 &&& 31)) &&& (1 : Int32)) = (1 : Int32) from hb)]
        show ∃ A', D_X4_wishFor_38 R u s x2 x3 x4 x5 (nI h0 + 1) A = some A' ∧ _
        rw [nI_add1]
        obtain ⟨A', f1, f2, f3, f4, f5⟩ := ih (h0 + 1) A h1 (by omega) (by omega)
        refine ⟨A', f1, fun h q1 q2 q3 => ?_, f3, fun j q => f4 j (by omega), fun j q => f5 j (by omega)⟩
        have : h ≠ h0 := fun z => hb (z ▸ q3)
        exact f2 h (by omega) q2 q3
theorem c_wish {R H c : Nat} {s : Int32} {w : Nat → Int32} {A : zMt} (hH : H ≤ 10) (h1 : A R 1 = nI H) (hc : c ≤ 3) (hw : ∀ k, k < 3 → (k < c ↔ ¬ w k = -1)) : ∃ A', D_X4_wishFor R s (w 0) (w 1) (w 2) A = some A' ∧ (∀ h, h < H → bitAt s h → A' (R + 5) h = nI c ∧ ∀ k, k < 3 → A' (R + 6) (3 * h + k) = w k) ∧ (∀ r j, ¬ (r = R + 5 ∧ j < H ∧ bitAt s j) → ¬ (r = R + 6 ∧ ∃ h k, h < H ∧ k < 3 ∧ j = 3 * h + k ∧ bitAt s h) → A' r j = A r j) := by
  have main : ∀ y : Int32, y = nI c → ∃ A', D_X4_wishFor_38 R zFu s (w 0) (w 1) (w 2) y (0 : Int32) A = some A' ∧ (∀ h, h < H → bitAt s h → A' (R + 5) h = nI c ∧ ∀ k, k < 3 → A' (R + 6) (3 * h + k) = w k) ∧ (∀ r j, ¬ (r = R + 5 ∧ j < H ∧ bitAt s j) → ¬ (r = R + 6 ∧ ∃ h k, h < H ∧ k < 3 ∧ j = 3 * h + k ∧ bitAt s h) → A' r j = A r j) := fun y hy => by
    obtain ⟨A', f1, f2, f3, -, -⟩ := c_wish38 (R := R) (s := s) (x2 := w 0) (x3 := w 1) (x4 := w 2) (x5 := y) hH zFu 0 A h1 (by omega) (by unfold zFu; omega)
    rw [show nI 0 = (0 : Int32) by decide] at f1
    refine ⟨A', f1, fun h q1 q2 => ?_, f3⟩
    obtain ⟨g1, g2, g3, g4⟩ := f2 h (Nat.zero_le h) q1 q2
    refine ⟨g1.trans hy, fun k hk => ?_⟩
    have : k = 0 ∨ k = 1 ∨ k = 2 := by omega
    rcases this with rfl | rfl | rfl
    · exact g2
    · exact g3
    · exact g4
  have d0 := hw 0 (by omega)
  have d1 := hw 1 (by omega)
  have d2 := hw 2 (by omega)
  unfold D_X4_wishFor D_X4_wishFor_10 D_X4_wishFor_20 D_X4_wishFor_32
  have hcc : c = 0 ∨ c = 1 ∨ c = 2 ∨ c = 3 := by omega
  rcases hcc with rfl | rfl | rfl | rfl
  · have e0 : w 0 = -1 := Classical.byContradiction (fun z => absurd (d0.mpr z) (by omega))
    have e1 : w 1 = -1 := Classical.byContradiction (fun z => absurd (d1.mpr z) (by omega))
    have e2 : w 2 = -1 := Classical.byContradiction (fun z => absurd (d2.mpr z) (by omega))
    rw [if_pos e0, if_pos e1, if_pos e2]
    exact main _ (by decide)
  · have e0 : ¬ w 0 = -1 := d0.mp (by omega)
    have e1 : w 1 = -1 := Classical.byContradiction (fun z => absurd (d1.mpr z) (by omega))
    have e2 : w 2 = -1 := Classical.byContradiction (fun z => absurd (d2.mpr z) (by omega))
    rw [if_neg e0, if_pos e1, if_pos e2]
    exact main _ (by decide)
  · have e0 : ¬ w 0 = -1 := d0.mp (by omega)
    have e1 : ¬ w 1 = -1 := d1.mp (by omega)
    have e2 : w 2 = -1 := Classical.byContradiction (fun z => absurd (d2.mpr z) (by omega))
    rw [if_neg e0, if_neg e1, if_pos e2]
    exact main _ (by decide)
  · have e0 : ¬ w 0 = -1 := d0.mp (by omega)
    have e1 : ¬ w 1 = -1 := d1.mp (by omega)
    have e2 : ¬ w 2 = -1 := d2.mp (by omega)
    rw [if_neg e0, if_neg e1, if_neg e2]
    exact main _ (by decide)
/-! the choices one by one -/
def aW (Q P : Nat) (A B : zMt) (c base : Nat) (w : Nat → Int32) : Prop := (∀ k, k < 3 → A (Q + 13) k = w k ∧ B (P + 2) (base + k) = w k) ∧ (∀ k, k < 3 → (k < c ↔ ¬ w k = -1))
theorem l_asks150 {Q P n : Nat} {t : Nat → Int32} {A A3 B B3 : zMt} {NA NA3 NB NB3 : zNt} {U H G c base : Nat} {s : Int32} {w : Nat → Int32} (hC : dC Q P A B U H G) (hM : dN Q P t NA NB U H G) (hR : dR Q P A B U H G) (hO : dO Q P A B) (hF : dF Q P A B) (hK : aK Q P A B H G s base) (hc : c ≤ 3)
    (kA3 : kA Q A A3) (kNA3 : kNA Q NA NA3) (kB3 : gB P (fun r j => r = P + 2 ∧ base ≤ j ∧ j < base + 3) B B3) (kNB3 : kNB P NB NB3) (x3 : tx Q n t A3) (y3 : ty P n t B3) (k3 : tk Q P n t A3 NA3 B3 NB3) (hW : aW Q P A3 B3 c base w) : two (D_X3_readAsks_150 Q s A3 NA3) (D_X8_readLine_114 P (1 : Int32) B3 NB3) (LR Q P n t) := by
  have kB3 : ∀ r j, ¬ (r = P ∧ ((16 ≤ j ∧ j ≤ 20) ∨ j = 31)) → ¬ (r = P + 2 ∧ base ≤ j ∧ j < base + 3) → B3 r j = B r j := kB3
  unfold D_X3_readAsks_150
  refine two.bindl (t_end (x1 := 1) x3 y3 k3 (by decide)) (fun a4 b4 h4 => ?_)
  rcases h4 with h4 | ⟨j4, s4, i4, ka4, kna4, kb4, knb4, x4, y4, k4, p4, q4, o4, w4, v4⟩
  · rw [if_pos h4.1]
    exact two.mk (Or.inl ⟨rfl, h4.2.1, h4.2.2⟩)
  rw [if_neg (by rw [j4]; decide)]
  have kA4 : kA Q A a4.2.1 := kA3.tr ka4
  have kNA4 : kNA Q NA a4.2.2 := kNA3.tr kna4
  obtain ⟨hW1, hW2⟩ := hW
  have z0 : zrd 0 (a4.2.1 (Q + 13)) 3 (0 : Int32) = w 0 := by
    rw [show (0 : Int32) = nI 0 by decide, zrd_nI (by omega) (by decide), w4 0]; exact (hW1 0 (by omega)).1
  have z1 : zrd 0 (a4.2.1 (Q + 13)) 3 (1 : Int32) = w 1 := by
    rw [show (1 : Int32) = nI 1 by decide, zrd_nI (by omega) (by decide), w4 1]; exact (hW1 1 (by omega)).1
  have z2 : zrd 0 (a4.2.1 (Q + 13)) 3 (2 : Int32) = w 2 := by
    rw [show (2 : Int32) = nI 2 by decide, zrd_nI (by omega) (by decide), w4 2]; exact (hW1 2 (by omega)).1
  rw [z0, z1, z2]
  have cH : a4.2.1 (Q + 1) 1 = nI H := (kA4 (Q + 1) 1 (by omega) (by omega)).trans hC.2.2.2.2.2.1
  obtain ⟨A', f1, f2, f3⟩ := c_wish (R := Q + 1) (s := s) (A := a4.2.1) hC.2.1 cH hc hW2
  refine two.l f1 (two.mk (Or.inr ⟨rfl, i4, ?_⟩))
  have kF : ∀ r j, ¬ r = Q + 6 → ¬ r = Q + 7 → A' r j = a4.2.1 r j := fun r j h1 h2 => f3 r j (fun z => h1 z.1) (fun z => h2 z.1)
  refine ⟨x4.mono (fun r j h => kF r j (by omega) (by omega)), y4, k4.mono (fun j h => kF Q j (by omega) (by omega)) rfl (fun _ _ => rfl) rfl, Or.inr (Or.inr ?_)⟩
  obtain ⟨d1, d3⟩ := d_asks (A' := A') (B' := b4.2.1) (s := s) (w := w) hC hR hK hc hW2
    (fun r j h1 h2 h3 => (f3 r j (fun z => h3 (Or.inl z)) (fun z => h3 (Or.inr z))).trans (kA4 r j h1 h2)) (fun h h1 h2 => (f2 h h1 h2).1) (fun h k h1 h2 h3 => (f2 h h1 h3).2 k h2)
    (fun r j h1 h2 => (kb4 r j h1).trans (kB3 r j h1 h2)) (fun k hk => (kb4 (P + 2) (base + k) (by omega)).trans (hW1 k hk).2)
  have knb : kNB P NB b4.2.2 := kNB3.tr knb4
  refine ⟨⟨U, H, G, d1, hM.k kNA4 knb, d3⟩, hO.g (fun j h => (kF Q j (by omega) (by omega)).trans (kA4 Q j (by omega) (by omega))) ((kF (Q + 1) 3 (by omega) (by omega)).trans (kA4 (Q + 1) 3 (by omega) (by omega))) ((kb4 P 23 (by omega)).trans (kB3 P 23 (by omega) (by omega))), ?_, ?_, ?_, ?_⟩
  · show A' Q 1 = 0
    rw [kF Q 1 (by omega) (by omega), kA4 Q 1 (by omega) (by omega)]; exact hF.1
  · rw [kb4 P 21 (by omega), kB3 P 21 (by omega) (by omega)]; exact hF.2.1
  · show A' Q 2 = -1
    rw [kF Q 2 (by omega) (by omega), kA4 Q 2 (by omega) (by omega)]; exact hF.2.2.1
  · rw [kb4 P 22 (by omega), kB3 P 22 (by omega) (by omega)]; exact hF.2.2.2
/-- the reference looks whether the unit is among the choices -/
theorem m_187 {P c base : Nat} {v : Int32} {B : zMt} {NB : zNt} {k124 : Int32 → Int32 → zMt → zNt → Option (Int32 × zMt × zNt)} (hb : base + c < 82) : ∀ (u i : Nat), i ≤ c → c - i < u → (∀ i', i' < i → ¬ B (P + 2) (base + i') = v) →
    ((∃ i', i' < c ∧ B (P + 2) (base + i') = v) ∧ D_X8_readAsks_187 P k124 u (nI base) (nI c) v (nI i) B NB = zB (D_X8_bad P (4 : Int32) B) fun e => some (e.1, e.2, NB)) ∨
    ((∀ i', i' < c → ¬ B (P + 2) (base + i') = v) ∧ D_X8_readAsks_187 P k124 u (nI base) (nI c) v (nI i) B NB = zB (D_X8_next P (zu B (P + 2) (base + c) v) NB) fun e => k124 (nI base) (nI (c + 1)) e.2.1 e.2.2) := by
  have add : ∀ x y : Nat, x + y < 82 → nI x + nI y = nI (x + y) := fun x y h => by
    apply Int32.toInt_inj.mp
    have e1 : (nI x).toInt = (x : Nat) := nI_toInt (by omega)
    have e2 : (nI y).toInt = (y : Nat) := nI_toInt (by omega)
    have e3 : (nI (x + y)).toInt = (x + y : Nat) := nI_toInt (by omega)
    rw [z_add (by rw [e1, e2]; omega) (by rw [e1, e2]; omega), e1, e2, e3]
    omega
  intro u
  induction u with
  | zero => intro i _ h; omega
  | succ u ih =>
    intro i hi hu hp
    rw [D_X8_readAsks_187]
    by_cases hc : c ≤ i
    · rw [if_pos ((nI_leI (by omega) (by omega)).mpr hc), add base c hb]
      unfold zI
      rw [if_neg (vp_in_nI hb (by decide)), nI_clamp (by omega), nI_add1]
      exact Or.inr ⟨fun i' h => hp i' (by omega), rfl⟩
    · rw [if_neg (fun q => hc ((nI_leI (by omega) (by omega)).mp q)), add base i (by omega)]
      unfold zI
      rw [if_neg (vp_in_nI (by omega) (by decide)), nI_clamp (by omega)]
      by_cases q : B (P + 2) (base + i) = v
      · rw [if_pos q]
        exact Or.inl ⟨⟨i, by omega, q⟩, rfl⟩
      · rw [if_neg q, nI_add1]
        exact ih (i + 1) (by omega) (by omega) (fun i' h => by
          by_cases z : i' = i
          · subst z; exact q
          · exact hp i' (by omega))
theorem l_asks46 {Q P n : Nat} {t : Nat → Int32} {A B : zMt} {NA NB : zNt} {U H G base : Nat} {s : Int32} (hC : dC Q P A B U H G) (hM : dN Q P t NA NB U H G) (hR : dR Q P A B U H G) (hO : dO Q P A B) (hF : dF Q P A B) (hK : aK Q P A B H G s base) (hb : base < 70 ∧ 20 ≤ base) : ∀ (u c : Nat) (w : Nat → Int32) (A3 : zMt) (NA3 : zNt) (B3 : zMt) (NB3 : zNt), kA Q A A3 → kNA Q NA NA3 → gB P (fun r j => r = P + 2 ∧ base ≤ j ∧ j < base + 3) B B3 → kNB P NB NB3 → tx Q n t A3 → ty P n t B3 → tk Q P n t A3 NA3 B3 NB3 → aW Q P A3 B3 c base w → c ≤ 3 → 3 - c < u → two (D_X3_readAsks_46 Q u s (nI c) A3 NA3) (zB (D_X8_readAsks_124 P u (nI base) (nI c) B3 NB3) fun e => D_X8_readLine_114 P e.1 e.2.1 e.2.2) (LR Q P n t) := by
  intro u
  induction u with
  | zero => intro c w A3 NA3 B3 NB3 _ _ _ _ _ _ _ _ _ h; omega
  | succ u ih =>
    intro c w A3 NA3 B3 NB3 kA3 kNA3 kB3 kNB3 x3 y3 k3 hW hc hu
    have kB3' : ∀ r j, ¬ (r = P ∧ ((16 ≤ j ∧ j ≤ 20) ∨ j = 31)) → ¬ (r = P + 2 ∧ base ≤ j ∧ j < base + 3) → B3 r j = B r j := kB3
    obtain ⟨c1, c2, c3, c4, c5, c6, c7, c8, c9⟩ := id hC
    have hM3 := hM.k kNA3 kNB3
    have hU3 : A3 (Q + 1) 0 = nI U := (kA3 (Q + 1) 0 (by omega) (by omega)).trans c4
    have hU8 : B3 P 28 = nI U := (kB3' P 28 (by omega) (by omega)).trans c5
    obtain ⟨hW1, hW2⟩ := id hW
    obtain ⟨r, er, er8, hr⟩ := s_isName x3 k3
    have fin : 1 ≤ c → two (D_X3_readAsks_150 Q s A3 NA3) (D_X8_readLine_114 P (1 : Int32) B3 NB3) (LR Q P n t) := fun _ => l_asks150 hC hM hR hO hF hK hc kA3 kNA3 kB3 kNB3 x3 y3 k3 hW
    have more : c < 3 → r = 1 → two (D_X3_readAsks_64 Q (D_X3_readAsks_46 Q u) s (nI c) A3 NA3) (zB (D_X8_readAsks_136 P (D_X8_readAsks_124 P u) (nI base) (nI c) B3 NB3) fun e => D_X8_readLine_114 P e.1 e.2.1 e.2.2) (LR Q P n t) := by
      intro hc3 hr1
      obtain ⟨-, s0, k, h7, h16, hT⟩ := hr.resolve_left (by rw [hr1]; decide)
      unfold D_X3_readAsks_64 D_X8_readAsks_136
      refine two.l er ?_
      rw [zB_zB]
      refine two.r er8 ?_
      rw [if_neg (by rw [hr1]; decide), if_neg (by rw [hr1]; decide), if_neg (by intro z; exact absurd (nI_inj (b := 3) (by omega) (by omega) z) (by omega)), zB_zB, hU3, hU8]
      obtain ⟨e, g1, g2, hf⟩ := s_find (Qr := Q + 10) (nQ := 5) (Pr := P + 8) (nP := 5) (c := U) c1 c1 (by omega) (by omega) hT.nm hM3.1
      refine two.l g1 (two.r g2 ?_)
      have bad4 : two (D_X3_readAsks_125 Q A3 NA3) (zB (zB (D_X8_bad P (4 : Int32) B3) fun e => some (e.1, e.2, NB3)) fun e => D_X8_readLine_114 P e.1 e.2.1 e.2.2) (LR Q P n t) := by
        unfold D_X3_readAsks_125
        obtain ⟨a, f1, b, f2, f3⟩ := t_fail (NA := NA3) (NB := NB3) (v := 4) k3
        rw [f1, f2]
        exact t_dn2 (a := a) (b := b) f3
      by_cases he : e = -1
      · rw [if_pos he, if_pos he]
        exact bad4
      · obtain ⟨uu, huu, e2, -⟩ := hf.some he
        subst e2
        rw [if_neg he, if_neg he]
        have z0 : zrd 0 (A3 (Q + 13)) 3 (0 : Int32) = w 0 := by
          rw [show (0 : Int32) = nI 0 by decide, zrd_nI (by omega) (by decide)]; exact (hW1 0 (by omega)).1
        have z1 : zrd 0 (A3 (Q + 13)) 3 (1 : Int32) = w 1 := by
          rw [show (1 : Int32) = nI 1 by decide, zrd_nI (by omega) (by decide)]; exact (hW1 1 (by omega)).1
        rw [z0, z1]
        have m := m_187 (P := P) (c := c) (base := base) (v := nI uu) (B := B3) (NB := NB3) (k124 := D_X8_readAsks_124 P u) (by omega) zFu 0 (by omega) (by unfold zFu; omega) (fun i' h => by omega)
        rw [show nI 0 = (0 : Int32) by decide] at m
        have hno : ∀ k, k < 3 → c ≤ k → ¬ w k = nI uu := fun k hk hck z => by
          have : w k = -1 := Classical.byContradiction (fun q => absurd ((hW2 k hk).mpr q) (by omega))
          exact nI_ne (by omega) (z.symm.trans this)
        by_cases q0 : w 0 = nI uu
        · rw [if_pos q0]
          rcases m with ⟨-, m2⟩ | ⟨m1, -⟩
          · rw [m2]; exact bad4
          · by_cases hc0 : 0 < c
            · exact absurd ((hW1 0 (by omega)).2.trans q0) (m1 0 hc0)
            · exact absurd q0 (hno 0 (by omega) (by omega))
        · rw [if_neg q0]
          by_cases q1 : w 1 = nI uu
          · rw [if_pos q1]
            rcases m with ⟨-, m2⟩ | ⟨m1, -⟩
            · rw [m2]; exact bad4
            · by_cases hc0 : 1 < c
              · exact absurd ((hW1 1 (by omega)).2.trans q1) (m1 1 hc0)
              · exact absurd q1 (hno 1 (by omega) (by omega))
          · rw [if_neg q1]
            rcases m with ⟨⟨i', i1, i2⟩, -⟩ | ⟨-, m2⟩
            · have hi : i' = 0 ∨ i' = 1 := by omega
              rcases hi with rfl | rfl
              · exact absurd ((hW1 0 (by omega)).2.symm.trans i2) q0
              · exact absurd ((hW1 1 (by omega)).2.symm.trans i2) q1
            · rw [m2, zB_zB, zwr_nI hc3 (by decide)]
              refine two.letl ?_
              have kA' : kA Q A3 (zu A3 (Q + 13) c (nI uu)) := fun r j h1 h2 => zu_ne (by omega)
              have kQ : ∀ j, zu A3 (Q + 13) c (nI uu) Q j = A3 Q j := fun j => zu_ne (by omega)
              have kB' : ∀ r j, ¬ (r = P + 2 ∧ j = base + c) → zu B3 (P + 2) (base + c) (nI uu) r j = B3 r j := fun r j h => zu_ne h
              obtain ⟨xx, hx1, hx2, hx3⟩ := hT.nx
              refine two.bind (t_step (A := zu A3 (Q + 13) c (nI uu)) (B := zu B3 (P + 2) (base + c) (nI uu)) (NA := NA3) (NB := NB3) (x3.k kA') (y3.mono (fun r j h => kB' r j (by omega))) ⟨xx, hx1, (kQ 5).trans hx2, (kB' P 17 (by omega)).trans hx3⟩) (fun a4 b4 h4 => ?_)
              obtain ⟨i4, ka4, kna4, kb4, knb4, x4, y4, k4, p4, q4, o4, w4, v4⟩ := h4
              rw [nI_add1]
              refine ih (c + 1) (fun k => if k = c then nI uu else w k) a4.1 a4.2 b4.2.1 b4.2.2 ((kA3.tr kA').tr ka4) (kNA3.tr kna4) (fun r j h1 h2 => (kb4 r j h1).trans ((kB' r j (fun z => h2 ⟨z.1, by omega, by omega⟩)).trans (kB3' r j h1 h2))) (kNB3.tr knb4) x4 y4 k4 ⟨fun k hk => ?_, fun k hk => ?_⟩ (by omega) (by omega)
              · rw [w4 k, kb4 (P + 2) (base + k) (by omega)]
                show zu A3 (Q + 13) c (nI uu) (Q + 13) k = (if k = c then nI uu else w k) ∧ zu B3 (P + 2) (base + c) (nI uu) (P + 2) (base + k) = (if k = c then nI uu else w k)
                by_cases q : k = c
                · subst q
                  rw [if_pos rfl, zu_eq, zu_eq]
                  exact ⟨rfl, rfl⟩
                · rw [if_neg q, zu_ne (by omega), zu_ne (by omega)]
                  exact hW1 k hk
              · show k < c + 1 ↔ ¬ (if k = c then nI uu else w k) = -1
                by_cases q : k = c
                · subst q
                  rw [if_pos rfl]
                  exact ⟨fun _ => nI_ne (by omega), fun _ => by omega⟩
                · rw [if_neg q, ← hW2 k hk]
                  omega
    rw [D_X3_readAsks_46, D_X8_readAsks_124]
    by_cases h3 : 3 ≤ c
    · have hc3 : c = 3 := by omega
      subst hc3
      rw [if_pos (by exact (leL (x := 3) (a := 3) (by decide) (by decide) (by omega)).mpr (by omega)), if_neg (by intro z; exact absurd (nI_inj (b := 0) (by omega) (by omega) z) (by omega)), zB_zB]
      refine two.r er8 ?_
      by_cases hr0 : r = 0
      · rw [if_pos hr0]
        exact fin (by omega)
      · rw [if_neg hr0]
        obtain ⟨-, s0, k, h7, h16, hT⟩ := hr.resolve_left hr0
        unfold D_X8_readAsks_136
        rw [zB_zB]
        refine two.r er8 ?_
        rw [if_neg hr0, if_pos (show nI 3 = (3 : Int32) by decide)]
        have h63 : ¬ A3 Q 6 = 3 := fun z => absurd (hT.1.symm.trans z) (by decide)
        unfold D_X3_readAsks_150 D_X3_endOfLine D_X8_readAsks_149
        rw [if_neg h63]
        obtain ⟨a, f1, b, f2, f3⟩ := t_fail (NA := NA3) (NB := NB3) (v := 2) k3
        rw [f1, f2]
        show two (if a.1 = 0 then some ((0 : Int32), a.2.1, a.2.2) else _) (D_X8_readLine_114 P b.1 b.2.1 b.2.2) _
        rw [if_pos f3.1, f3.2.1]
        exact t_dn (a := a) (b := b) f3
    · rw [if_neg (by intro z; exact h3 ((leL (x := 3) (a := 3) (by decide) (by decide) (by omega)).mp z))]
      by_cases h1 : c < 1
      · have hc0 : c = 0 := by omega
        subst hc0
        rw [if_pos (by exact (ltR (x := 1) (b := 1) (by decide) (by decide) (by omega)).mpr h1), if_pos (show nI 0 = (0 : Int32) by decide)]
        rcases hr with hr0 | ⟨hr1, hh⟩
        · unfold D_X3_readAsks_64 D_X8_readAsks_136
          refine two.l er ?_
          rw [zB_zB]
          refine two.r er8 ?_
          rw [if_pos hr0, if_pos hr0]
          unfold D_X8_readAsks_149
          obtain ⟨a, f1, b, f2, f3⟩ := t_fail (NA := NA3) (NB := NB3) (v := 2) k3
          rw [f1, f2]
          exact t_dn2 (a := a) (b := b) f3
        · exact more (by omega) hr1
      · rw [if_neg (by intro z; exact h1 ((ltR (x := 1) (b := 1) (by decide) (by decide) (by omega)).mp z)), if_neg (show ¬ nI c = (0 : Int32) from fun z => absurd (nI_inj (b := 0) (by omega) (by omega) z) (by omega)), zB_zB]
        refine two.r er8 ?_
        by_cases hr0 : r = 0
        · rw [if_pos hr0]
          show two _ (D_X8_readLine_114 P (1 : Int32) B3 NB3) _
          by_cases h63 : A3 Q 6 = 3
          · rw [if_pos h63]
            exact fin (by omega)
          · rw [if_neg h63]
            unfold D_X3_readAsks_64
            refine two.l er ?_
            rw [if_pos hr0]
            exact l_noEnd k3 h63 (fun _ _ => rfl) rfl
        · have hr1 : r = 1 := (hr.resolve_left hr0).1
          obtain ⟨-, s0, k, h7, h16, hT⟩ := hr.resolve_left hr0
          have h63 : ¬ A3 Q 6 = 3 := fun z => absurd (hT.1.symm.trans z) (by decide)
          rw [if_neg hr0, if_neg h63]
          exact more (by omega) hr1
/-! who asks -/
theorem c_asker55 {Q H g : Nat} {A : zMt} {N : zNt} (hH : H ≤ 10) (h1 : A (Q + 1) 1 = nI H) : ∀ (u i : Nat) (s : Int32), i ≤ H → H - i < u → (∀ h, h < 10 → (bitAt s h ↔ h < i ∧ A (Q + 5) h = nI g ∧ A (Q + 6) h = 0)) → (s = 0 ∨ ∃ h, h < 10 ∧ bitAt s h) → g < 4 → ∃ s', D_X3_asker_55 Q A N u (nI g) s (nI i) = some s' ∧ (∀ h, h < 10 → (bitAt s' h ↔ h < H ∧ A (Q + 5) h = nI g ∧ A (Q + 6) h = 0)) ∧ (s' = 0 ∨ ∃ h, h < 10 ∧ bitAt s' h) := by
  intro u
  induction u with
  | zero => intro i s _ h; omega
  | succ u ih =>
    intro i s hi hu hs hz hg
    rw [D_X3_asker_55, if_neg (nI_ne (by omega)), h1]
    by_cases hc : H ≤ i
    · rw [if_pos ((nI_leI (by omega) (by omega)).mpr hc)]
      have : i = H := by omega
      subst this
      exact ⟨s, rfl, hs, hz⟩
    · rw [if_neg (fun q => hc ((nI_leI (by omega) (by omega)).mp q)), zrd_nI (by omega) (by decide), zrd_nI (by omega) (by decide)]
      have skip : ¬ (A (Q + 5) i = nI g ∧ A (Q + 6) i = 0) → ∃ s', D_X3_asker_110 Q A N (D_X3_asker_55 Q A N u) (nI g) s (nI i) = some s' ∧ (∀ h, h < 10 → (bitAt s' h ↔ h < H ∧ A (Q + 5) h = nI g ∧ A (Q + 6) h = 0)) ∧ (s' = 0 ∨ ∃ h, h < 10 ∧ bitAt s' h) := fun hn => by
        unfold D_X3_asker_110
        rw [nI_add1]
        refine ih (i + 1) s (by omega) (by omega) (fun h hh => (hs h hh).trans ⟨fun z => ⟨by omega, z.2⟩, fun z => ⟨?_, z.2⟩⟩) hz hg
        have : h ≠ i := fun y => hn (y ▸ z.2)
        omega
      by_cases q1 : A (Q + 5) i = nI g
      · rw [if_pos q1]
        by_cases q2 : A (Q + 6) i = 0
        · rw [if_pos q2]
          unfold D_X3_asker_110
          rw [nI_add1]
          refine ih (i + 1) _ (by omega) (by omega) (fun h hh => ?_) (Or.inr ⟨i, by omega, (bitK_or (by omega) (by omega)).mpr (Or.inr rfl)⟩) hg
          rw [bitK_or (by omega) hh, hs h hh]
          constructor
          · rintro (z | z)
            · exact ⟨by omega, z.2⟩
            · subst z; exact ⟨by omega, q1, q2⟩
          · intro z
            by_cases y : h = i
            · exact Or.inr y.symm
            · exact Or.inl ⟨by omega, z.2⟩
        · rw [if_neg q2]
          exact skip (fun z => q2 z.2)
      · rw [if_neg q1]
        exact skip (fun z => q1 z.1)
theorem bitK_ne {s : Int32} {h : Nat} (hb : bitAt s h) : ¬ s = 0 := fun z => by subst z; exact bitAt_0 hb
theorem wsh.z {A B : zMt} {Q P h base : Nat} (w : wsh A B Q P h base) : A (Q + 6) h = 0 ↔ B (P + 2) base = -1 := by
  obtain ⟨c, w1, w2, w3, w4⟩ := w
  have w := w4 0 (by omega)
  rw [Nat.add_zero] at w
  rw [w2]
  constructor
  · intro z
    have hc : c = 0 := nI_inj (by omega) (by omega) (z.trans (by decide))
    exact Classical.byContradiction (fun q => absurd (w.mpr q) (by omega))
  · intro z
    have : ¬ 0 < c := fun q => w.mp q z
    have hc : c = 0 := by omega
    rw [hc]; decide
theorem wsh.e {A B : zMt} {Q P h base : Nat} (w : wsh A B Q P h base) (z : B (P + 2) base = -1) : ∀ k, k < 3 → B (P + 2) (base + k) = -1 := by
  obtain ⟨c, w1, w2, w3, w4⟩ := w
  have w0 := w4 0 (by omega)
  rw [Nat.add_zero] at w0
  have : ¬ 0 < c := fun q => w0.mp q z
  exact fun k hk => Classical.byContradiction (fun q => absurd ((w4 k hk).mpr q) (by omega))
theorem bitK_one {k h : Nat} (hk : k < 10) (hh : h < 10) : bitAt ((1 : Int32) <<< (nI k &&& 31)) h ↔ k = h := bitAt_one k hk h hh
/-- from behind the name: who asks, then the choices -/
theorem l_asks {Q P n : Nat} {t : Nat → Int32} {A B : zMt} {NA NB : zNt} (hX : tx Q n t A) (hY : ty P n t B) (hN : nx Q P n A B) {U H G : Nat} (hC : dC Q P A B U H G) (hM : dN Q P t NA NB U H G) (hR : dR Q P A B U H G) (hO : dO Q P A B) (hF : dF Q P A B) : two (D_X3_readAsks Q A NA) (zB (D_X8_readAsks P B NB) fun e => D_X8_readLine_114 P e.1 e.2.1 e.2.2) (LR Q P n t) := by
  unfold D_X3_readAsks D_X8_readAsks
  rw [zB_zB]
  refine two.bind (t_step hX hY hN) (fun a1 b1 h1 => ?_)
  obtain ⟨i1, ka1, kna1, kb1, knb1, x1, y1, k1, p1, q1, o1, w1, v1⟩ := h1
  obtain ⟨r, er, er8, hr⟩ := s_isName x1 k1
  refine two.l er ?_
  rw [zB_zB]
  refine two.r er8 ?_
  by_cases hr0 : r = 0
  · rw [if_pos hr0, if_pos hr0]
    obtain ⟨a, f1, b, f2, f3⟩ := t_fail (NA := a1.2) (NB := b1.2.2) (v := 2) k1
    rw [f1, f2]
    exact t_dn2 (a := a) (b := b) f3
  rw [if_neg hr0, if_neg hr0]
  obtain ⟨-, s0, k, h7, h16, hT⟩ := hr.resolve_left hr0
  have hC1 := hC.k ka1 kb1
  have hM1 := hM.k kna1 knb1
  have hR1 := hR.k ka1 kb1
  have hO1 := hO.k ka1 kb1
  have hF1 : dF Q P a1.1 b1.2.1 := ⟨(ka1 Q 1 (by omega) (by omega)).trans hF.1, (kb1 P 21 (by omega)).trans hF.2.1, (ka1 Q 2 (by omega) (by omega)).trans hF.2.2.1, (kb1 P 22 (by omega)).trans hF.2.2.2⟩
  obtain ⟨c1, c2, c3, c4, c5, c6, c7, c8, c9⟩ := id hC1
  obtain ⟨r1, r2, r3, r4, r5, r6, r7, r8, r9, -⟩ := id hR1
  obtain ⟨eh, g1, g2, hfh⟩ := s_find (Qr := Q + 11) (nQ := 10) (Pr := P + 9) (nP := 10) (c := H) c2 c2 (by omega) (by omega) hT.nm hM1.2.1
  obtain ⟨ep, g3, g4, hfp⟩ := s_find (Qr := Q + 12) (nQ := 4) (Pr := P + 10) (nP := 4) (c := G) c3 c3 (by omega) (by omega) hT.nm hM1.2.2.1
  rw [zB_zB, c7, c9]
  refine two.r g2 ?_
  rw [zB_zB]
  refine two.r g4 ?_
  unfold D_X3_asker
  rw [c6, c8, zB_s g1]
  -- nobody may ask
  have bad4 : two (zB (some (0 : Int32)) fun e_18 => if e_18 = 0 then zB (D_X3_fail Q (4 : Int32) a1.1) fun e_28 => some (e_28.1, e_28.2, a1.2) else zB (D_X3_step Q a1.1 a1.2) fun e_33 => zLt (zfil e_33.1 (Q + 13) 3 (-1 : Int32)) fun M_41 => D_X3_readAsks_46 Q zFu e_18 (0 : Int32) M_41 e_33.2) (zB (zB (D_X8_bad P (4 : Int32) b1.2.1) fun e => some (e.1, e.2, b1.2.2)) fun e => D_X8_readLine_114 P e.1 e.2.1 e.2.2) (LR Q P n t) := by
    refine two.l rfl ?_
    rw [if_pos rfl]
    obtain ⟨a, f1, b, f2, f3⟩ := t_fail (NA := a1.2) (NB := b1.2.2) (v := 4) k1
    rw [f1, f2]
    exact t_dn2 (a := a) (b := b) f3
  -- somebody asks
  have go : ∀ (s : Int32) (base : Nat), aK Q P a1.1 b1.2.1 H G s base → ¬ s = 0 → base < 70 → 20 ≤ base → two (zB (some s) fun e_18 => if e_18 = 0 then zB (D_X3_fail Q (4 : Int32) a1.1) fun e_28 => some (e_28.1, e_28.2, a1.2) else zB (D_X3_step Q a1.1 a1.2) fun e_33 => zLt (zfil e_33.1 (Q + 13) 3 (-1 : Int32)) fun M_41 => D_X3_readAsks_46 Q zFu e_18 (0 : Int32) M_41 e_33.2) (zB (D_X8_readAsks_99 P (nI base) b1.2.1 b1.2.2) fun e => D_X8_readLine_114 P e.1 e.2.1 e.2.2) (LR Q P n t) := fun s base hK hs0 hb1 hb2 => by
    refine two.l rfl ?_
    rw [if_neg hs0]
    unfold D_X8_readAsks_99
    rw [zB_zI]
    refine two.ir (vp_in_nI (by omega) (by decide)) ?_
    rw [nI_clamp (by omega), if_pos (show b1.2.1 (P + 2) base = -1 from hK.2.2.2 0 (by omega)), zB_zB]
    refine two.bind (t_step x1 y1 hT.nx) (fun a4 b4 h4 => ?_)
    obtain ⟨i4, ka4, kna4, kb4, knb4, x4, y4, k4, p4, q4, o4, w4, v4⟩ := h4
    refine two.letl ?_
    have kf : ∀ r j, ¬ r = Q + 13 → zfil a4.1 (Q + 13) 3 (-1 : Int32) r j = a4.1 r j := fun r j h => congrFun (zfil_row h) j
    have kf13 : ∀ j, j < 3 → zfil a4.1 (Q + 13) 3 (-1 : Int32) (Q + 13) j = -1 := fun j hj => if_pos ⟨rfl, hj⟩
    have kA' : kA Q a4.1 (zfil a4.1 (Q + 13) 3 (-1 : Int32)) := fun r j h1 h2 => kf r j h2
    have t0 := l_asks46 hC1 hM1 hR1 hO1 hF1 hK ⟨hb1, hb2⟩ zFu 0 (fun _ => -1) (zfil a4.1 (Q + 13) 3 (-1 : Int32)) a4.2 b4.2.1 b4.2.2 (ka4.tr kA') kna4 (fun r j h1 h2 => kb4 r j h1) knb4 (x4.k kA') y4 (k4.mono (fun j h => kf Q j (by omega)) rfl (fun _ _ => rfl) rfl) ⟨fun k hk => ⟨kf13 k hk, (kb4 (P + 2) (base + k) (by omega)).trans (hK.2.2.2 k hk)⟩, fun k hk => ⟨fun z => absurd z (by omega), fun z => absurd rfl z⟩⟩ (by omega) (by unfold zFu; omega)
    rw [show nI 0 = (0 : Int32) by decide] at t0
    exact t0
  have noP : ∀ s : Int32, D_X3_asker_55 Q a1.1 a1.2 zFu (-1 : Int32) s (0 : Int32) = some s := fun s => by
    show D_X3_asker_55 Q a1.1 a1.2 (4294967296 + 1) (-1 : Int32) s (0 : Int32) = some s
    rw [D_X3_asker_55, if_pos rfl]
    rfl
  by_cases he : eh = -1
  · -- no hunter of this name
    unfold D_X3_isFree
    rw [if_pos he]
    have e38 : D_X3_isFree_38 Q a1.1 = some 0 := rfl
    rw [zB_s e38, if_pos rfl, zB_s g3]
    by_cases hp : ep = -1
    · rw [if_pos hp, if_pos he, hp, noP]
      exact bad4
    · obtain ⟨g, hg, e2, -⟩ := hfp.some hp
      subst e2
      rw [if_neg hp]
      obtain ⟨s', f1, f2, f3⟩ := c_asker55 (Q := Q) (H := H) (g := g) (A := a1.1) (N := a1.2) c2 c6 zFu 0 0 (by omega) (by unfold zFu; omega) (fun h hh => ⟨fun z => absurd z bitAt_0, fun z => absurd z.1 (by omega)⟩) (Or.inl rfl) (by omega)
      rw [show nI 0 = (0 : Int32) by decide] at f1
      rw [f1]
      obtain ⟨h0, hh0, hm0⟩ := r9 g hg
      have w0 := r6 h0 g (by omega) hg hm0
      have e50 : (50 : Int32) + (3 : Int32) * nI g = nI (50 + 3 * g) := (show ∀ k, k < 4 → (50 : Int32) + (3 : Int32) * nI k = nI (50 + 3 * k) by decide) g (by omega)
      unfold D_X8_readAsks_79
      rw [if_neg hp, e50]
      by_cases hz : b1.2.1 (P + 2) (50 + 3 * g) = -1
      · have hb0 : bitAt s' h0 := (f2 h0 (by omega)).mpr ⟨hh0, hm0, w0.z.mpr hz⟩
        refine go s' (50 + 3 * g) ⟨Or.inr ⟨g, hg, rfl⟩, fun h hh hb => ?_, fun h hh hb => ?_, w0.e hz⟩ (bitK_ne hb0) (by omega) (by omega)
        · obtain ⟨z1, z2, z3⟩ := (f2 h hh).mp hb
          exact ⟨z1, Or.inr ⟨g, hg, z2, rfl⟩⟩
        · rcases hb with ⟨z1, z2⟩ | ⟨g', z1, z2, z3⟩
          · omega
          · have : g' = g := by omega
            subst this
            exact (f2 h (by omega)).mpr ⟨hh, z2, (r6 h g' (by omega) hg z2).z.mpr hz⟩
      · have hs0 : s' = 0 := f3.resolve_right (fun ⟨h, hh, hb⟩ => by
          obtain ⟨z1, z2, z3⟩ := (f2 h hh).mp hb
          exact hz ((r6 h g hh hg z2).z.mp z3))
        rw [hs0]
        unfold D_X8_readAsks_99
        rw [zB_zI]
        refine two.ir (vp_in_nI (by omega) (by decide)) ?_
        rw [nI_clamp (by omega), if_neg hz]
        exact bad4
  · -- a hunter of this name: no party has it
    obtain ⟨h, hh, e2, ew⟩ := hfh.some he
    subst e2
    have hp : ep = -1 := Classical.byContradiction (fun z => by
      obtain ⟨g, hg, -, ew2⟩ := hfp.some z
      exact hM1.2.2.2 h g hh hg (ew.trans ew2.symm))
    rw [if_pos hp, if_neg he]
    have e10 : (10 : Int32) + nI h = nI (10 + h) := (show ∀ k, k < 10 → (10 : Int32) + nI k = nI (10 + k) by decide) h (by omega)
    have e20 : (20 : Int32) + (3 : Int32) * nI h = nI (20 + 3 * h) := (show ∀ k, k < 10 → (20 : Int32) + (3 : Int32) * nI k = nI (20 + 3 * k) by decide) h (by omega)
    rw [e10, zB_zI]
    refine two.ir (vp_in_nI (by omega) (by decide)) ?_
    rw [nI_clamp (by omega)]
    obtain ⟨q1, q2⟩ := s_free hC1 hR1 hh
    have none55 : two (zB (zB (zB (D_X3_isFree_38 Q a1.1) fun e_21 => if e_21 = 0 then zB (D_X3_find (Q + 12) 4 a1.2 (nI G) (a1.2 Q 8)) fun e_46 => D_X3_asker_55 Q a1.1 a1.2 zFu e_46 (0 : Int32) (0 : Int32) else some ((1 : Int32) <<< (nI h &&& 31))) fun e_18 => if e_18 = 0 then zB (D_X3_fail Q (4 : Int32) a1.1) fun e_28 => some (e_28.1, e_28.2, a1.2) else zB (D_X3_step Q a1.1 a1.2) fun e_33 => zLt (zfil e_33.1 (Q + 13) 3 (-1 : Int32)) fun M_41 => D_X3_readAsks_46 Q zFu e_18 (0 : Int32) M_41 e_33.2) some) (zB (zB (D_X8_bad P (4 : Int32) b1.2.1) fun e => some (e.1, e.2, b1.2.2)) fun e => D_X8_readLine_114 P e.1 e.2.1 e.2.2) (LR Q P n t) := by
      have e38 : D_X3_isFree_38 Q a1.1 = some 0 := rfl
      rw [zB_s e38, if_pos rfl, zB_s g3, hp, noP]
      obtain ⟨a, f1, b, f2, f3⟩ := bad4
      rw [f1, f2]
      exact two.mk f3
    have zBs : ∀ {α : Type} (o : Option α), zB o some = o := fun o => by cases o <;> rfl
    rw [zBs] at none55
    unfold D_X3_isFree
    rw [if_neg he, zrd_nI (by omega) (by decide), zrd_nI (by omega) (by decide)]
    by_cases hf : a1.1 (Q + 5) h = -1
    · rw [if_pos hf, if_pos (q1.mp hf)]
      unfold D_X8_readAsks_79
      rw [if_pos hp, e20]
      by_cases hw : a1.1 (Q + 6) h = 0
      · rw [if_pos hw]
        have e39 : D_X3_isFree_39 Q a1.1 (1 : Int32) = some 1 := rfl
        rw [zB_s e39, if_neg (by decide)]
        have hz := (q2 hf).mp hw
        refine go _ (20 + 3 * h) ⟨Or.inl ⟨h, hh, rfl⟩, fun h' hh' hb => ?_, fun h' hh' hb => ?_, (r5 h (by omega) hf).e hz⟩ (bitK_ne ((bitK_one (by omega) (by omega)).mpr rfl)) (by omega) (by omega)
        · have : h = h' := (bitK_one (by omega) hh').mp hb
          subst this
          exact ⟨hh, Or.inl ⟨hf, rfl⟩⟩
        · rcases hb with ⟨z1, z2⟩ | ⟨g', z1, z2, z3⟩
          · have : h' = h := by omega
            subst this
            exact (bitK_one (by omega) (by omega)).mpr rfl
          · omega
      · rw [if_neg hw]
        unfold D_X8_readAsks_99
        rw [zB_zI]
        refine two.ir (vp_in_nI (by omega) (by decide)) ?_
        rw [nI_clamp (by omega), if_neg (fun z => hw ((q2 hf).mpr z))]
        exact none55
    · rw [if_neg hf, if_neg (fun z => hf (q1.mpr z))]
      exact none55
/-! the lines that come once -/
theorem say_uni : ∀ j, j < 11 → ∀ j', j' < 11 → zLen.getD j 0 = zLen.getD j' 0 → (∀ i, i < zLen.getD j 0 → zCh j i = zCh j' i) → j = j' := by decide +kernel
theorem say.uni {t : Nat → Int32} {s k j j' : Nat} (h : say t s k j) (h' : say t s k j') (hj : j < 11) (hj' : j' < 11) : j = j' :=
  say_uni j hj j' hj' (h.1.symm.trans h'.1) (fun i hi => (h.2 i (by rw [h.1]; exact hi)).symm.trans (h'.2 i (by rw [h.1]; exact hi)))
theorem d_once {Q P : Nat} {A A' B B' : zMt} {U H G i : Nat} {v : Int32} (hC : dC Q P A B U H G) (hR : dR Q P A B U H G) (hi : 3 ≤ i ∧ i ≤ 5)
    (a : gA Q (fun r j => (r = Q + 1 ∧ j = i) ∨ (r = Q ∧ 11 ≤ j ∧ j ≤ 13)) A A') (a1 : A' (Q + 1) i = v) (b : gB P (fun r j => (r = P + 2 ∧ j = 64 + i) ∨ (r = P ∧ j = 23)) B B') (b1 : B' (P + 2) (64 + i) = v) : dC Q P A' B' U H G ∧ dR Q P A' B' U H G := by
  have a : ∀ r j, ¬ (r = Q ∧ (j = 5 ∨ j = 6 ∨ j = 7 ∨ j = 9)) → ¬ r = Q + 13 → ¬ ((r = Q + 1 ∧ j = i) ∨ (r = Q ∧ 11 ≤ j ∧ j ≤ 13)) → A' r j = A r j := a
  have b : ∀ r j, ¬ (r = P ∧ ((16 ≤ j ∧ j ≤ 20) ∨ j = 31)) → ¬ ((r = P + 2 ∧ j = 64 + i) ∨ (r = P ∧ j = 23)) → B' r j = B r j := b
  obtain ⟨c1, c2, c3, c4, c5, c6, c7, c8, c9⟩ := hC
  obtain ⟨r1, r2, r3, r4, r5, r6, r7, r8, r9, ⟨s1, s2, s3⟩, ⟨u1, u2, u3, u4, u5⟩⟩ := hR
  have aR : ∀ x j, (2 ≤ x ∧ x ≤ 8) → A' (Q + x) j = A (Q + x) j := fun x j hx => a (Q + x) j (by omega) (by omega) (by omega)
  have a0 : ∀ j, j ≠ i → A' (Q + 1) j = A (Q + 1) j := fun j hj => a (Q + 1) j (by omega) (by omega) (by omega)
  have bR : ∀ j, j ≠ 64 + i → B' (P + 2) j = B (P + 2) j := fun j hj => b (P + 2) j (by omega) (by omega)
  have bQ : ∀ j, (28 ≤ j ∧ j ≤ 30) → B' P j = B P j := fun j hj => b P j (by omega) (by omega)
  have b6 : ∀ j, B' (P + 6) j = B (P + 6) j := fun j => b (P + 6) j (by omega) (by omega)
  have wk : ∀ h base, wsh A B Q P h base → base < 60 → wsh A' B' Q P h base := fun h base w hb => w.k (aR 6 h (by omega)) (fun k hk => aR 7 _ (by omega)) (fun k hk => bR _ (by omega))
  refine ⟨⟨c1, c2, c3, ?_, ?_, ?_, ?_, ?_, ?_⟩, ⟨fun u hu => ?_, fun h hh => ?_, fun h hh => ?_, fun h hh => ?_, fun h hh he => ?_, fun h g hh hg he => ?_, fun g k h1 h2 h3 => ?_, fun h h1 h2 => ?_, fun g hg => ?_, ⟨?_, ?_, ?_⟩, ⟨?_, ?_, fun h hh => ⟨?_, ?_⟩, fun u hu1 hu2 => ?_, fun h hh1 hh2 => ?_⟩⟩⟩
  · rw [a0 0 (by omega)]; exact c4
  · rw [bQ 28 (by omega)]; exact c5
  · rw [a0 1 (by omega)]; exact c6
  · rw [bQ 29 (by omega)]; exact c7
  · rw [a0 2 (by omega)]; exact c8
  · rw [bQ 30 (by omega)]; exact c9
  · rw [aR 2 u (by omega), bR (62 + u) (by omega)]; exact r1 u hu
  · rw [aR 3 h (by omega), bR h (by omega)]; exact r2 h hh
  · rw [aR 4 h (by omega), b6 h]; exact r3 h hh
  · rw [aR 5 h (by omega), bR (10 + h) (by omega)]; exact r4 h hh
  · rw [aR 5 h (by omega)] at he
    exact wk h _ (r5 h hh he) (by omega)
  · rw [aR 5 h (by omega)] at he
    exact wk h _ (r6 h g hh hg he) (by omega)
  · rw [bR _ (by omega)]; exact r7 g k h1 h2 h3
  · rw [aR 6 h (by omega)]; exact r8 h h1 h2
  · obtain ⟨h, h1, h2⟩ := r9 g hg
    exact ⟨h, h1, by rw [aR 5 h (by omega)]; exact h2⟩
  · by_cases q : i = 3
    · subst q; rw [a1]; exact b1.symm
    · rw [a0 3 (by omega), bR 67 (by omega)]; exact s1
  · by_cases q : i = 4
    · subst q; rw [a1]; exact b1.symm
    · rw [a0 4 (by omega), bR 68 (by omega)]; exact s2
  · by_cases q : i = 5
    · subst q; rw [a1]; exact b1.symm
    · rw [a0 5 (by omega), bR 69 (by omega)]; exact s3
  · rw [a0 6 (by omega)]; exact u1
  · rw [bR 71 (by omega)]; exact u2
  · rw [aR 8 h (by omega)]; exact (u3 h hh).1
  · rw [bR (72 + h) (by omega)]; exact (u3 h hh).2
  · rw [aR 2 u (by omega)]; exact u4 u (by omega) hu2
  · rw [aR 4 h (by omega)]; exact u5 h (by omega) hh2
/-- the end of a line that comes once -/
theorem l_onceEnd {Q P n : Nat} {t : Nat → Int32} {A A3 B B3 : zMt} {NA NA3 NB NB3 : zNt} {U H G i : Nat} {v : Int32} (hC : dC Q P A B U H G) (hM : dN Q P t NA NB U H G) (hR : dR Q P A B U H G) (hO : dO Q P A B) (hF : dF Q P A B) (hi : 3 ≤ i ∧ i ≤ 5)
    (kA3 : gA Q (fun r j => (r = Q + 1 ∧ j = i) ∨ (r = Q ∧ j = 8 + i)) A A3) (h11 : A3 Q (8 + i) = 1) (kNA3 : kNA Q NA NA3) (kB3 : gB P (fun r j => (r = P + 2 ∧ j = 64 + i) ∨ (r = P ∧ j = 23)) B B3) (h23 : B3 P 23 = (B P 23 ||| ((1 : Int32) <<< (nI (2 + i) &&& 31)))) (kNB3 : kNB P NB NB3) (x3 : tx Q n t A3) (y3 : ty P n t B3) (k3 : tk Q P n t A3 NA3 B3 NB3)
    (a1 : A3 Q 6 = 3 → A3 (Q + 1) i = v) (b1 : B3 (P + 2) (64 + i) = v) : two (zB (D_X3_endOfLine Q A3 NA3) fun e => some (e.1, e.2.1, e.2.2)) (D_X8_readLine_114 P (1 : Int32) B3 NB3) (LR Q P n t) := by
  have kA3 : ∀ r j, ¬ (r = Q ∧ (j = 5 ∨ j = 6 ∨ j = 7 ∨ j = 9)) → ¬ r = Q + 13 → ¬ ((r = Q + 1 ∧ j = i) ∨ (r = Q ∧ j = 8 + i)) → A3 r j = A r j := kA3
  have kB3 : ∀ r j, ¬ (r = P ∧ ((16 ≤ j ∧ j ≤ 20) ∨ j = 31)) → ¬ ((r = P + 2 ∧ j = 64 + i) ∨ (r = P ∧ j = 23)) → B3 r j = B r j := kB3
  refine two.bindl (t_end (x1 := 1) x3 y3 k3 (by decide)) (fun a4 b4 h4 => ?_)
  rcases h4 with h4 | ⟨j4, s4, i4, ka4, kna4, kb4, knb4, x4, y4, k4, p4, q4, o4, w4, v4⟩
  · exact two.mk (Or.inl h4)
  refine two.mk (Or.inr ⟨j4, i4, x4, y4, k4, Or.inr (Or.inr ?_)⟩)
  obtain ⟨d1, d3⟩ := d_once (A' := a4.2.1) (B' := b4.2.1) (v := v) hC hR hi
    (fun r j h1 h2 h3 => (ka4 r j h1 h2).trans (kA3 r j h1 h2 (fun z => h3 (by omega)))) ((ka4 (Q + 1) i (by omega) (by omega)).trans (a1 s4))
    (fun r j h1 h2 => (kb4 r j h1).trans (kB3 r j h1 h2)) ((kb4 (P + 2) (64 + i) (by omega)).trans b1)
  have e23 : b4.2.1 P 23 = (B P 23 ||| ((1 : Int32) <<< (nI (2 + i) &&& 31))) := (kb4 P 23 (by omega)).trans h23
  have eA : ∀ j, (11 ≤ j ∧ j ≤ 13) → j ≠ 8 + i → a4.2.1 Q j = A Q j := fun j hj hne => (ka4 Q j (by omega) (by omega)).trans (kA3 Q j (by omega) (by omega) (by omega))
  have eI : a4.2.1 Q (8 + i) = 1 := (ka4 Q (8 + i) (by omega) (by omega)).trans h11
  have eF : ∀ j, j ≤ 2 → a4.2.1 Q j = A Q j := fun j hj => (ka4 Q j (by omega) (by omega)).trans (kA3 Q j (by omega) (by omega) (by omega))
  have eG : ∀ j, (j = 21 ∨ j = 22) → b4.2.1 P j = B P j := fun j hj => (kb4 P j (by omega)).trans (kB3 P j (by omega) (by omega))
  have bit : ∀ j, (5 ≤ j ∧ j ≤ 7) → (a4.2.1 Q (6 + j) = 0 ↔ ¬ bitAt (b4.2.1 P 23) j) := fun j hj => by
    rw [e23, bitK_or (by omega) (by omega)]
    by_cases q : j = 2 + i
    · subst q
      rw [show 6 + (2 + i) = 8 + i by omega, eI]
      exact ⟨fun z => absurd z (by decide), fun z => absurd (Or.inr rfl) z⟩
    · rw [eA (6 + j) (by omega) (by omega)]
      have hj3 : j = 5 ∨ j = 6 ∨ j = 7 := by omega
      have old : A Q (6 + j) = 0 ↔ ¬ bitAt (B P 23) j := by
        rcases hj3 with rfl | rfl | rfl
        · exact hO.1
        · exact hO.2.1
        · exact hO.2.2.1
      rw [old]
      exact ⟨fun z y => y.elim z (fun w => q w.symm), fun z y => z (Or.inl y)⟩
  refine ⟨⟨U, H, G, d1, hM.k (kNA3.tr kna4) (kNB3.tr knb4), d3⟩, ⟨bit 5 (by omega), bit 6 (by omega), bit 7 (by omega), fun z => ?_⟩, (eF 1 (by omega)).trans hF.1, (eG 21 (by omega)).trans hF.2.1, (eF 2 (by omega)).trans hF.2.2.1, (eG 22 (by omega)).trans hF.2.2.2⟩
  by_cases q : i = 3
  · subst q
    exact absurd (eI.symm.trans z) (by decide)
  · rw [ka4 (Q + 1) 3 (by omega) (by omega), kA3 (Q + 1) 3 (by omega) (by omega) (by omega)]
    exact hO.2.2.2 ((eA 11 (by omega) (by omega)).symm.trans z)
theorem has0 {b : Int32} {k : Nat} (h : ¬ bitAt b k) : D_X8_has b (nI k) = some 0 := by
  obtain ⟨e, he, q⟩ := v_X8_has (v0 := b) (v1 := nI k)
  rcases q.2 with ⟨_, w⟩ | ⟨w, _⟩
  · exact absurd w h
  · rw [he, w]
theorem has1 {b : Int32} {k : Nat} (h : bitAt b k) : D_X8_has b (nI k) = some 1 := by
  obtain ⟨e, he, q⟩ := v_X8_has (v0 := b) (v1 := nI k)
  rcases q.2 with ⟨w, _⟩ | ⟨_, w⟩
  · rw [he, w]
  · exact absurd h w
theorem l_prefer {Q P n : Nat} {t : Nat → Int32} {A B : zMt} {NA NB : zNt} (hX : tx Q n t A) (hY : ty P n t B) (hN : nx Q P n A B) {U H G : Nat} (hC : dC Q P A B U H G) (hM : dN Q P t NA NB U H G) (hR : dR Q P A B U H G) (hO : dO Q P A B) (hF : dF Q P A B) (h1 : A Q 12 = 0) : two (D_X3_readPrefer Q A NA) (zB (D_X8_readOnce P (nI 6) B NB) fun e => D_X8_readLine_114 P e.1 e.2.1 e.2.2) (LR Q P n t) := by
  have hb : ¬ bitAt (B P 23) 6 := hO.2.1.mp h1
  unfold D_X3_readPrefer D_X8_readOnce
  rw [zB_zB]
  refine two.r (has0 hb) ?_
  rw [if_pos rfl, zB_zLt]
  refine two.letr ?_
  rw [zB_zB]
  have kB1 : ∀ r j, ¬ (r = P ∧ j = 23) → zu B P 23 (B P 23 ||| ((1 : Int32) <<< (nI 6 &&& 31))) r j = B r j := fun r j h => zu_ne h
  obtain ⟨xx, hx1, hx2, hx3⟩ := hN
  refine two.bind (t_step (NA := NA) (NB := NB) hX (hY.mono (fun r j h => kB1 r j (by omega))) ⟨xx, hx1, hx2, (kB1 P 17 (by omega)).trans hx3⟩) (fun a1 b1 h1 => ?_)
  obtain ⟨i1, ka1, kna1, kb1, knb1, x1, y1, k1, p1, q1, o1, w1, v1⟩ := h1
  rw [if_neg (show ¬ nI 6 = (5 : Int32) by decide), zB_zB]
  refine two.bind (t_number x1 y1 k1 (by decide)) (fun a3 b3 h3 => ?_)
  rcases h3 with h3 | ⟨j3, B', kb', e31, g0, g1, e9, i3, ka3, kna3, kb3, knb3, x3, y3, k3, p3, q3, o3, w3, v3⟩
  · rw [if_pos h3.1, if_pos h3.2.1]
    exact t_dn (a := a3) (b := b3) h3
  rw [if_neg (by rw [j3]; decide), if_neg (by rw [i3]; decide)]
  refine two.letl (two.letl ?_)
  have kb3' : kB P b1.2.1 b3.2.1 := kb'.tr kb3
  have kF : ∀ r j, ¬ ((r = Q + 1 ∧ j = 4) ∨ (r = Q ∧ j = 12)) → zu (zu a3.2.1 Q 12 (1 : Int32)) (Q + 1) 4 (zu a3.2.1 Q 12 (1 : Int32) Q 9) r j = a3.2.1 r j := fun r j h => (zu_ne (by omega)).trans (zu_ne (by omega))
  have kG : ∀ r j, ¬ (r = P + 2 ∧ j = 68) → zu b3.2.1 (P + 2) 68 (b3.2.1 P 31) r j = b3.2.1 r j := fun r j h => zu_ne h
  have m111 : (if nI 6 = (6 : Int32) then D_X8_readOnce_111 P (68 : Int32) b3.2.1 b3.2.2 else D_X8_readOnce_111 P (69 : Int32) b3.2.1 b3.2.2) = some ((1 : Int32), zu b3.2.1 (P + 2) 68 (b3.2.1 P 31), b3.2.2) := by
    rw [if_pos (show nI 6 = (6 : Int32) by decide)]
    unfold D_X8_readOnce_111 zI
    rw [if_neg (by decide)]
    rfl
  refine two.r m111 ?_
  refine l_onceEnd (i := 4) (v := a1.1 Q 9) hC hM hR hO hF (by omega) (fun r j h1 h2 h3 => (kF r j h3).trans ((ka3 r j h1 h2).trans (ka1 r j h1 h2))) ((zu_ne (by omega)).trans zu_eq) (kna1.tr kna3) (fun r j h1 h2 => (kG r j (fun z => h2 (Or.inl z))).trans ((kb3' r j h1).trans ((kb1 r j h1).trans (kB1 r j (fun z => h2 (Or.inr z)))))) ((kG P 23 (by omega)).trans ((kb3' P 23 (by omega)).trans ((kb1 P 23 (by omega)).trans zu_eq))) (knb1.tr knb3) (x3.mono (fun r j h => kF r j (by omega))) (y3.mono (fun r j h => kG r j (by omega))) (k3.mono (fun j h => kF Q j (by omega)) rfl (fun j h => kG P j (by omega)) rfl) (fun s6 => ?_) (zu_eq.trans (o3.trans (e31.trans e9.symm)))
  have s6' : a3.2.1 Q 6 = 3 := (kF Q 6 (by omega)).symm.trans s6
  rw [zu_eq, zu_ne (by omega)]
  rcases v3 with v3 | v3 | v3
  · exact v3
  · exact absurd (s6'.symm.trans v3) (by decide)
  · exact absurd (s6'.symm.trans v3) (by decide)
theorem l_guests {Q P n : Nat} {t : Nat → Int32} {A B : zMt} {NA NB : zNt} (hX : tx Q n t A) (hY : ty P n t B) (hN : nx Q P n A B) {U H G : Nat} (hC : dC Q P A B U H G) (hM : dN Q P t NA NB U H G) (hR : dR Q P A B U H G) (hO : dO Q P A B) (hF : dF Q P A B) (h1 : A Q 13 = 0) : two (D_X3_readGuests Q A NA) (zB (D_X8_readOnce P (nI 7) B NB) fun e => D_X8_readLine_114 P e.1 e.2.1 e.2.2) (LR Q P n t) := by
  have hb : ¬ bitAt (B P 23) 7 := hO.2.2.1.mp h1
  unfold D_X3_readGuests D_X8_readOnce
  rw [zB_zB]
  refine two.r (has0 hb) ?_
  rw [if_pos rfl, zB_zLt]
  refine two.letr ?_
  rw [zB_zB]
  have kB1 : ∀ r j, ¬ (r = P ∧ j = 23) → zu B P 23 (B P 23 ||| ((1 : Int32) <<< (nI 7 &&& 31))) r j = B r j := fun r j h => zu_ne h
  obtain ⟨xx, hx1, hx2, hx3⟩ := hN
  refine two.bind (t_step (NA := NA) (NB := NB) hX (hY.mono (fun r j h => kB1 r j (by omega))) ⟨xx, hx1, hx2, (kB1 P 17 (by omega)).trans hx3⟩) (fun a1 b1 h1 => ?_)
  obtain ⟨i1, ka1, kna1, kb1, knb1, x1, y1, k1, p1, q1, o1, w1, v1⟩ := h1
  rw [if_neg (show ¬ nI 7 = (5 : Int32) by decide), zB_zB]
  refine two.bind (t_number x1 y1 k1 (by decide)) (fun a3 b3 h3 => ?_)
  rcases h3 with h3 | ⟨j3, B', kb', e31, g0, g1, e9, i3, ka3, kna3, kb3, knb3, x3, y3, k3, p3, q3, o3, w3, v3⟩
  · rw [if_pos h3.1, if_pos h3.2.1]
    exact t_dn (a := a3) (b := b3) h3
  rw [if_neg (by rw [j3]; decide), if_neg (by rw [i3]; decide)]
  refine two.letl (two.letl ?_)
  have kb3' : kB P b1.2.1 b3.2.1 := kb'.tr kb3
  have kF : ∀ r j, ¬ ((r = Q + 1 ∧ j = 5) ∨ (r = Q ∧ j = 13)) → zu (zu a3.2.1 Q 13 (1 : Int32)) (Q + 1) 5 (zu a3.2.1 Q 13 (1 : Int32) Q 9) r j = a3.2.1 r j := fun r j h => (zu_ne (by omega)).trans (zu_ne (by omega))
  have kG : ∀ r j, ¬ (r = P + 2 ∧ j = 69) → zu b3.2.1 (P + 2) 69 (b3.2.1 P 31) r j = b3.2.1 r j := fun r j h => zu_ne h
  have m111 : (if nI 7 = (6 : Int32) then D_X8_readOnce_111 P (68 : Int32) b3.2.1 b3.2.2 else D_X8_readOnce_111 P (69 : Int32) b3.2.1 b3.2.2) = some ((1 : Int32), zu b3.2.1 (P + 2) 69 (b3.2.1 P 31), b3.2.2) := by
    rw [if_neg (show ¬ nI 7 = (6 : Int32) by decide)]
    unfold D_X8_readOnce_111 zI
    rw [if_neg (by decide)]
    rfl
  refine two.r m111 ?_
  refine l_onceEnd (i := 5) (v := a1.1 Q 9) hC hM hR hO hF (by omega) (fun r j h1 h2 h3 => (kF r j h3).trans ((ka3 r j h1 h2).trans (ka1 r j h1 h2))) ((zu_ne (by omega)).trans zu_eq) (kna1.tr kna3) (fun r j h1 h2 => (kG r j (fun z => h2 (Or.inl z))).trans ((kb3' r j h1).trans ((kb1 r j h1).trans (kB1 r j (fun z => h2 (Or.inr z)))))) ((kG P 23 (by omega)).trans ((kb3' P 23 (by omega)).trans ((kb1 P 23 (by omega)).trans zu_eq))) (knb1.tr knb3) (x3.mono (fun r j h => kF r j (by omega))) (y3.mono (fun r j h => kG r j (by omega))) (k3.mono (fun j h => kF Q j (by omega)) rfl (fun j h => kG P j (by omega)) rfl) (fun s6 => ?_) (zu_eq.trans (o3.trans (e31.trans e9.symm)))
  have s6' : a3.2.1 Q 6 = 3 := (kF Q 6 (by omega)).symm.trans s6
  rw [zu_eq, zu_ne (by omega)]
  rcases v3 with v3 | v3 | v3
  · exact v3
  · exact absurd (s6'.symm.trans v3) (by decide)
  · exact absurd (s6'.symm.trans v3) (by decide)
theorem l_law59 {Q P n : Nat} {t : Nat → Int32} {A A3 B B3 : zMt} {NA NA3 NB NB3 : zNt} {U H G : Nat} {v : Int32} (hC : dC Q P A B U H G) (hM : dN Q P t NA NB U H G) (hR : dR Q P A B U H G) (hO : dO Q P A B) (hF : dF Q P A B)
    (kA3 : gA Q (fun r j => r = Q + 1 ∧ j = 3) A A3) (kNA3 : kNA Q NA NA3) (kB3 : gB P (fun r j => r = P ∧ j = 23) B B3) (h23 : B3 P 23 = (B P 23 ||| ((1 : Int32) <<< (nI 5 &&& 31)))) (kNB3 : kNB P NB NB3) (x3 : tx Q n t A3) (y3 : ty P n t B3) (hN : nx Q P n A3 B3) (a1 : A3 (Q + 1) 3 = v) (hv : ¬ v = -1) : two (D_X3_readLaw_59 Q A3 NA3) (zB (D_X8_readOnce_57 P v B3 NB3) fun e => D_X8_readLine_114 P e.1 e.2.1 e.2.2) (LR Q P n t) := by
  have kA3 : ∀ r j, ¬ (r = Q ∧ (j = 5 ∨ j = 6 ∨ j = 7 ∨ j = 9)) → ¬ r = Q + 13 → ¬ (r = Q + 1 ∧ j = 3) → A3 r j = A r j := kA3
  have kB3 : ∀ r j, ¬ (r = P ∧ ((16 ≤ j ∧ j ≤ 20) ∨ j = 31)) → ¬ (r = P ∧ j = 23) → B3 r j = B r j := kB3
  unfold D_X3_readLaw_59 D_X8_readOnce_57
  rw [if_neg hv, zB_zI]
  refine two.letl (two.ir (by unfold vp_in; decide) ?_)
  rw [zB_zLt]
  refine two.letr ?_
  rw [zB_zB, show (67 : Int32).toNatClampNeg = 67 by decide]
  have kF : ∀ r j, ¬ (r = Q ∧ j = 11) → zu A3 Q 11 (1 : Int32) r j = A3 r j := fun r j h => zu_ne h
  have kG : ∀ r j, ¬ (r = P + 2 ∧ j = 67) → zu B3 (P + 2) 67 v r j = B3 r j := fun r j h => zu_ne h
  obtain ⟨xx, hx1, hx2, hx3⟩ := hN
  refine two.bind (t_step (NA := NA3) (NB := NB3) (x3.mono (fun r j h => kF r j (by omega))) (y3.mono (fun r j h => kG r j (by omega))) ⟨xx, hx1, (kF Q 5 (by omega)).trans hx2, (kG P 17 (by omega)).trans hx3⟩) (fun a5 b5 h5 => ?_)
  obtain ⟨i5, ka5, kna5, kb5, knb5, x5, y5, k5, p5, q5, o5, w5, v5⟩ := h5
  rw [show (b5.1, b5.2.1, b5.2.2) = ((1 : Int32), b5.2.1, b5.2.2) by rw [i5]]
  exact l_onceEnd (i := 3) (v := v) hC hM hR hO hF (by omega) (fun r j h1 h2 h3 => (ka5 r j h1 h2).trans ((kF r j (fun z => h3 (Or.inr z))).trans (kA3 r j h1 h2 (fun z => h3 (Or.inl z))))) ((ka5 Q 11 (by omega) (by omega)).trans zu_eq) (kNA3.tr kna5) (fun r j h1 h2 => (kb5 r j h1).trans ((kG r j (fun z => h2 (Or.inl z))).trans (kB3 r j h1 (fun z => h2 (Or.inr z))))) ((kb5 P 23 (by omega)).trans ((kG P 23 (by omega)).trans h23)) (kNB3.tr knb5) x5 y5 k5 (fun _ => (ka5 (Q + 1) 3 (by omega) (by omega)).trans ((kF (Q + 1) 3 (by omega)).trans a1)) ((kb5 (P + 2) 67 (by omega)).trans zu_eq)
theorem l_law {Q P n : Nat} {t : Nat → Int32} {A B : zMt} {NA NB : zNt} (hX : tx Q n t A) (hY : ty P n t B) (hN : nx Q P n A B) {U H G : Nat} (hC : dC Q P A B U H G) (hM : dN Q P t NA NB U H G) (hR : dR Q P A B U H G) (hO : dO Q P A B) (hF : dF Q P A B) (h1 : A Q 11 = 0) : two (D_X3_readLaw Q A NA) (zB (D_X8_readOnce P (nI 5) B NB) fun e => D_X8_readLine_114 P e.1 e.2.1 e.2.2) (LR Q P n t) := by
  have hb : ¬ bitAt (B P 23) 5 := hO.1.mp h1
  have hl0 := hO.2.2.2 h1
  unfold D_X3_readLaw D_X8_readOnce
  rw [zB_zB]
  refine two.r (has0 hb) ?_
  rw [if_pos rfl, zB_zLt]
  refine two.letr ?_
  rw [zB_zB]
  have kB1 : ∀ r j, ¬ (r = P ∧ j = 23) → zu B P 23 (B P 23 ||| ((1 : Int32) <<< (nI 5 &&& 31))) r j = B r j := fun r j h => zu_ne h
  obtain ⟨xx, hx1, hx2, hx3⟩ := hN
  refine two.bind (t_step (NA := NA) (NB := NB) hX (hY.mono (fun r j h => kB1 r j (by omega))) ⟨xx, hx1, hx2, (kB1 P 17 (by omega)).trans hx3⟩) (fun a1 b1 h1 => ?_)
  obtain ⟨i1, ka1, kna1, kb1, knb1, x1, y1, k1, p1, q1, o1, w1, v1⟩ := h1
  rw [if_pos (show nI 5 = (5 : Int32) by decide)]
  have gB1 : gB P (fun r j => r = P ∧ j = 23) B b1.2.1 := fun r j h1 h2 => (kb1 r j h1).trans (kB1 r j h2)
  have e23 : b1.2.1 P 23 = (B P 23 ||| ((1 : Int32) <<< (nI 5 &&& 31))) := (kb1 P 23 (by omega)).trans zu_eq
  have bad : two (zB (D_X3_fail Q (2 : Int32) a1.1) fun e => some (e.1, e.2, a1.2)) (zB (D_X8_readOnce_57 P (-1 : Int32) b1.2.1 b1.2.2) fun e => D_X8_readLine_114 P e.1 e.2.1 e.2.2) (LR Q P n t) := by
    unfold D_X8_readOnce_57
    rw [if_pos rfl]
    obtain ⟨a, f1, b, f2, f3⟩ := t_fail (NA := a1.2) (NB := b1.2.2) (v := 2) k1
    rw [f1, f2]
    exact t_dn2 (a := a) (b := b) f3
  obtain ⟨w61, w62⟩ := k1.wrd
  by_cases q6 : a1.1 Q 6 = 1
  · obtain ⟨s, k, h7, hW⟩ := w62 q6
    obtain ⟨u1, u2, u3, u4, u5, u6, u7, u8, u9, u10, u11⟩ := id hW
    obtain ⟨r, hr, hm⟩ := m_among (P := P) (w := 12) (N := b1.2.2) (Or.inr rfl) u8 u10
    rw [if_pos u2, zB_zB]
    refine two.r hr ?_
    obtain ⟨r8, e8, g8⟩ := c_says (j := 8) x1 u1 h7 u3 u7 (by decide)
    obtain ⟨r9, e9, g9⟩ := c_says (j := 9) x1 u1 h7 u3 u7 (by decide)
    obtain ⟨r10, e10, g10⟩ := c_says (j := 10) x1 u1 h7 u3 u7 (by decide)
    have is : ∀ (j m : Nat), j < 11 → m < 3 → (wls 12).getD m 0 = j → say t s k j → r = nI m := fun j m hj hm3 hw hs => by
      rcases hm with ⟨m', m1, m2, m3⟩ | ⟨m1, m2⟩
      · have hm' : m' < 3 := m1
        have : (wls 12).getD m' 0 = j := say.uni m3 hs ((show ∀ m, m < 3 → (wls 12).getD m 0 < 11 by decide) m' hm') hj
        have : m' = m := (show ∀ a, a < 3 → ∀ b, b < 3 → (wls 12).getD a 0 = (wls 12).getD b 0 → a = b by decide) m' hm' m hm3 (this.trans hw.symm)
        rw [m2, this]
      · exact absurd hs (by rw [← hw]; exact m2 m hm3)
    have kk : ∀ (v : Int32) (r' j : Nat), ¬ (r' = Q + 1 ∧ j = 3) → zu a1.1 (Q + 1) 3 v r' j = a1.1 r' j := fun v r' j h => zu_ne h
    obtain ⟨yy, hy1, hy2, hy3⟩ := hW.nx
    have set : ∀ v : Int32, ¬ v = -1 → two (D_X3_readLaw_59 Q (zu a1.1 (Q + 1) 3 v) a1.2) (zB (D_X8_readOnce_57 P v b1.2.1 b1.2.2) fun e => D_X8_readLine_114 P e.1 e.2.1 e.2.2) (LR Q P n t) := fun v hv =>
      l_law59 hC hM hR hO hF (fun r' j h1 h2 h3 => (kk v r' j h3).trans (ka1 r' j h1 h2)) kna1 gB1 e23 knb1 (x1.mono (fun r' j h => kk v r' j (by omega))) y1 ⟨yy, hy1, (kk v Q 5 (by omega)).trans hy2, hy3⟩ zu_eq hv
    refine two.l e8 ?_
    by_cases q8 : r8 = 0
    · have n8 : ¬ say t s k 8 := by
        rcases g8 with ⟨z, _⟩ | ⟨_, z⟩
        · exact absurd (z.symm.trans q8) (by decide)
        · exact z
      rw [if_pos q8]
      refine two.l e9 ?_
      by_cases q9 : r9 = 0
      · have n9 : ¬ say t s k 9 := by
          rcases g9 with ⟨z, _⟩ | ⟨_, z⟩
          · exact absurd (z.symm.trans q9) (by decide)
          · exact z
        rw [if_pos q9]
        refine two.l e10 ?_
        by_cases q10 : r10 = 0
        · have n10 : ¬ say t s k 10 := by
            rcases g10 with ⟨z, _⟩ | ⟨_, z⟩
            · exact absurd (z.symm.trans q10) (by decide)
            · exact z
          rw [if_pos q10]
          have hr1 : r = -1 := by
            rcases hm with ⟨m, m1, m2, m3⟩ | ⟨m1, m2⟩
            · have hm3 : m = 0 ∨ m = 1 ∨ m = 2 := by have : m < 3 := m1; omega
              rcases hm3 with rfl | rfl | rfl
              · exact absurd m3 n10
              · exact absurd m3 n8
              · exact absurd m3 n9
            · exact m1
          rw [hr1]
          exact bad
        · have y10 : say t s k 10 := by
            rcases g10 with ⟨_, z⟩ | ⟨z, _⟩
            · exact z
            · exact absurd z q10
          rw [if_neg q10, is 10 0 (by decide) (by decide) (by decide) y10]
          exact l_law59 hC hM hR hO hF (fun r' j h1 h2 h3 => ka1 r' j h1 h2) kna1 gB1 e23 knb1 x1 y1 ⟨yy, hy1, hy2, hy3⟩ ((ka1 (Q + 1) 3 (by omega) (by omega)).trans (hl0.trans (by decide))) (by decide)
      · have y9 : say t s k 9 := by
          rcases g9 with ⟨_, z⟩ | ⟨z, _⟩
          · exact z
          · exact absurd z q9
        rw [if_neg q9, is 9 2 (by decide) (by decide) (by decide) y9]
        exact two.letl (set (2 : Int32) (by decide))
    · have y8 : say t s k 8 := by
        rcases g8 with ⟨_, z⟩ | ⟨z, _⟩
        · exact z
        · exact absurd z q8
      rw [if_neg q8, is 8 1 (by decide) (by decide) (by decide) y8]
      exact two.letl (set (1 : Int32) (by decide))
  · rw [if_neg (fun z => q6 (w61.mpr z))]
    refine two.l (c_says0 q6) ?_
    rw [if_pos rfl]
    refine two.l (c_says0 q6) ?_
    rw [if_pos rfl]
    refine two.l (c_says0 q6) ?_
    rw [if_pos rfl]
    exact bad
/-! A LINE -/
theorem zB_eta {o : Option (Int32 × zMt × zNt)} : (zB o fun e => some (e.1, e.2.1, e.2.2)) = o := by
  cases o with
  | none => rfl
  | some e => rfl
theorem m16_0 {P : Nat} {B : zMt} {NB : zNt} : D_X8_readLine_16 P (nI 0) B NB = zB (D_X8_readUnit P B NB) fun e => D_X8_readLine_114 P e.1 e.2.1 e.2.2 := by
  unfold D_X8_readLine_16
  rw [if_pos (show (nI 0).toInt = 0 by decide)]
theorem m16_1 {P : Nat} {B : zMt} {NB : zNt} : D_X8_readLine_16 P (nI 1) B NB = zB (D_X8_readHunter P B NB) fun e => D_X8_readLine_114 P e.1 e.2.1 e.2.2 := by
  unfold D_X8_readLine_16
  rw [if_neg (show ¬ (nI 1).toInt = 0 by decide), if_pos (show (nI 1).toInt = 1 by decide)]
theorem m16_3 {P : Nat} {B : zMt} {NB : zNt} : D_X8_readLine_16 P (nI 3) B NB = zB (D_X8_readParty P B NB) fun e => D_X8_readLine_114 P e.1 e.2.1 e.2.2 := by
  unfold D_X8_readLine_16
  rw [if_neg (show ¬ (nI 3).toInt = 0 by decide), if_neg (show ¬ (nI 3).toInt = 1 by decide), if_neg (show ¬ (nI 3).toInt = 2 by decide), if_pos (show (nI 3).toInt = 3 by decide)]
theorem m16_4 {P : Nat} {B : zMt} {NB : zNt} : D_X8_readLine_16 P (nI 4) B NB = zB (D_X8_readAsks P B NB) fun e => D_X8_readLine_114 P e.1 e.2.1 e.2.2 := by
  unfold D_X8_readLine_16
  rw [if_neg (show ¬ (nI 4).toInt = 0 by decide), if_neg (show ¬ (nI 4).toInt = 1 by decide), if_neg (show ¬ (nI 4).toInt = 2 by decide), if_neg (show ¬ (nI 4).toInt = 3 by decide), if_pos (show (nI 4).toInt = 4 by decide)]
theorem m16_5 {P : Nat} {B : zMt} {NB : zNt} : D_X8_readLine_16 P (nI 5) B NB = D_X8_readLine_96 P B NB := by
  unfold D_X8_readLine_16
  rw [if_neg (show ¬ (nI 5).toInt = 0 by decide), if_neg (show ¬ (nI 5).toInt = 1 by decide), if_neg (show ¬ (nI 5).toInt = 2 by decide), if_neg (show ¬ (nI 5).toInt = 3 by decide), if_neg (show ¬ (nI 5).toInt = 4 by decide), if_pos (show (nI 5).toInt = 5 by decide)]
theorem m16_6 {P : Nat} {B : zMt} {NB : zNt} : D_X8_readLine_16 P (nI 6) B NB = D_X8_readLine_96 P B NB := by
  unfold D_X8_readLine_16
  rw [if_neg (show ¬ (nI 6).toInt = 0 by decide), if_neg (show ¬ (nI 6).toInt = 1 by decide), if_neg (show ¬ (nI 6).toInt = 2 by decide), if_neg (show ¬ (nI 6).toInt = 3 by decide), if_neg (show ¬ (nI 6).toInt = 4 by decide), if_neg (show ¬ (nI 6).toInt = 5 by decide), if_pos (show (nI 6).toInt = 6 by decide)]
theorem m16_7 {P : Nat} {B : zMt} {NB : zNt} : D_X8_readLine_16 P (nI 7) B NB = D_X8_readLine_96 P B NB := by
  unfold D_X8_readLine_16
  rw [if_neg (show ¬ (nI 7).toInt = 0 by decide), if_neg (show ¬ (nI 7).toInt = 1 by decide), if_neg (show ¬ (nI 7).toInt = 2 by decide), if_neg (show ¬ (nI 7).toInt = 3 by decide), if_neg (show ¬ (nI 7).toInt = 4 by decide), if_neg (show ¬ (nI 7).toInt = 5 by decide), if_neg (show ¬ (nI 7).toInt = 6 by decide), if_pos (show (nI 7).toInt = 7 by decide)]
theorem l_line {Q P n : Nat} {t : Nat → Int32} {A B : zMt} {NA NB : zNt} (hX : tx Q n t A) (hY : ty P n t B) (hK : tk Q P n t A NA B NB) (hD : A Q 6 = 2 ∨ A Q 6 = 4 ∨ dD Q P t A NA B NB) : two (D_X3_readLine Q A NA) (D_X8_readLine P B NB) (LR Q P n t) := by
  obtain ⟨w61, w62⟩ := hK.wrd
  unfold D_X3_readLine D_X8_readLine
  have bad : two (zB (D_X3_fail Q (2 : Int32) A) fun e => some (e.1, e.2, NA)) (D_X8_readLine_108 P B NB) (LR Q P n t) := (t_fail (NA := NA) (NB := NB) (v := 2) hK).imp (fun _ _ h => Or.inl h)
  by_cases q6 : A Q 6 = 1
  · obtain ⟨s, k, h7, hW⟩ := w62 q6
    obtain ⟨u1, u2, u3, u4, u5, u6, u7, u8, u9, u10, u11⟩ := id hW
    have hnx := hW.nx
    have hD' : dD Q P t A NA B NB := by
      rcases hD with z | z | z
      · exact absurd (q6.symm.trans z) (by decide)
      · exact absurd (q6.symm.trans z) (by decide)
      · exact z
    obtain ⟨⟨U, H, G, hC, hM, hR⟩, hO, hF⟩ := hD'
    obtain ⟨c1, c2, c3, c4, c5, c6, c7, c8, c9⟩ := id hC
    rw [if_pos u2]
    have S : ∀ j, j < 8 → ∃ r, D_X3_says Q j A = some r ∧ (say t s k j → r = 1) ∧ (¬ say t s k j → r = 0) := fun j hj => by
      obtain ⟨r, hr, g⟩ := c_says (j := j) hX u1 h7 u3 u7 (by omega)
      refine ⟨r, hr, fun h => ?_, fun h => ?_⟩
      · rcases g with ⟨z, _⟩ | ⟨_, z⟩
        · exact z
        · exact absurd h z
      · rcases g with ⟨_, z⟩ | ⟨z, _⟩
        · exact absurd z h
        · exact z
    obtain ⟨r0, e0, y0, n0⟩ := S 0 (by decide)
    obtain ⟨r1, e1, y1, n1⟩ := S 1 (by decide)
    obtain ⟨r3, e3, y3, n3⟩ := S 3 (by decide)
    obtain ⟨r4, e4, y4, n4⟩ := S 4 (by decide)
    obtain ⟨r5, e5, y5, n5⟩ := S 5 (by decide)
    obtain ⟨r6, e6, y6, n6⟩ := S 6 (by decide)
    obtain ⟨r7, e7, y7, n7⟩ := S 7 (by decide)
    have one : ¬ (1 : Int32) = 0 := by decide
    have W : ∀ j, j < 8 → say t s k j → B P 19 = nI j := fun j hj h => (u11.iff hj).mpr h
    have V : ∀ j j', j < 8 → j' < 8 → j ≠ j' → say t s k j → ¬ say t s k j' := fun j j' hj hj' hne h h' => hne (say.uni h h' (by omega) (by omega))
    have badO : ∀ v, (5 ≤ v ∧ v ≤ 7) → bitAt (B P 23) v → two (zB (D_X3_fail Q (2 : Int32) A) fun e => some (e.1, e.2, NA)) (zB (D_X8_readOnce P (nI v) B NB) fun e => D_X8_readLine_114 P e.1 e.2.1 e.2.2) (LR Q P n t) := fun v hv hb => by
      unfold D_X8_readOnce
      rw [zB_zB]
      refine two.r (has1 hb) ?_
      rw [if_neg (by decide)]
      obtain ⟨a, f1, b, f2, f3⟩ := t_fail (NA := NA) (NB := NB) (v := 2) hK
      rw [f1, f2]
      exact t_dn2 (a := a) (b := b) f3
    have T : ∀ j : Nat, j < 8 → say t s k j → D_X8_readLine_16 P (B P 19) B NB = D_X8_readLine_16 P (nI j) B NB := fun j hj h => by rw [W j hj h]
    refine two.l e0 ?_
    by_cases s0 : say t s k 0
    · rw [y0 s0, if_neg one, T 0 (by decide) s0, m16_0, c4]
      by_cases hU : U < 5
      · rw [if_neg (by intro z; exact absurd ((leL (x := 5) (a := 5) (by decide) (by decide) (by omega)).mp z) (by omega))]
        unfold D_X3_readLine_32
        rw [zB_eta]
        exact l_unit hX hY hnx hC hM hR hO hF hU
      · rw [if_pos (by exact (leL (x := 5) (a := 5) (by decide) (by decide) (by omega)).mpr (by omega))]
        unfold D_X8_readUnit
        rw [if_pos (by rw [c5, show U = 5 by omega]; decide)]
        obtain ⟨a, f1, b, f2, f3⟩ := t_fail (NA := NA) (NB := NB) (v := 2) hK
        unfold D_X3_readLine_32
        rw [f1, f2]
        exact t_dn2 (a := a) (b := b) f3
    rw [n0 s0, if_pos rfl]
    refine two.l e1 ?_
    by_cases s1 : say t s k 1
    · rw [y1 s1, if_neg one, T 1 (by decide) s1, m16_1, c6]
      by_cases hH : H < 10
      · rw [if_neg (by intro z; exact absurd ((leL (x := 10) (a := 10) (by decide) (by decide) (by omega)).mp z) (by omega))]
        unfold D_X3_readLine_66
        rw [zB_eta]
        exact l_hunter hX hY hnx hC hM hR hO hF hH
      · rw [if_pos (by exact (leL (x := 10) (a := 10) (by decide) (by decide) (by omega)).mpr (by omega))]
        unfold D_X8_readHunter
        rw [if_pos (by rw [c7, show H = 10 by omega]; decide)]
        obtain ⟨a, f1, b, f2, f3⟩ := t_fail (NA := NA) (NB := NB) (v := 2) hK
        unfold D_X3_readLine_66
        rw [f1, f2]
        exact t_dn2 (a := a) (b := b) f3
    rw [n1 s1, if_pos rfl]
    refine two.l e3 ?_
    by_cases s3 : say t s k 3
    · rw [y3 s3, if_neg one, T 3 (by decide) s3, m16_3, c8]
      by_cases hG : G < 4
      · rw [if_neg (by intro z; exact absurd ((leL (x := 4) (a := 4) (by decide) (by decide) (by omega)).mp z) (by omega))]
        unfold D_X3_readLine_99
        rw [zB_eta]
        exact l_party hX hY hnx hC hM hR hO hF hG
      · rw [if_pos (by exact (leL (x := 4) (a := 4) (by decide) (by decide) (by omega)).mpr (by omega))]
        unfold D_X8_readParty
        rw [if_pos (by rw [c9, show G = 4 by omega]; decide)]
        obtain ⟨a, f1, b, f2, f3⟩ := t_fail (NA := NA) (NB := NB) (v := 2) hK
        unfold D_X3_readLine_99
        rw [f1, f2]
        exact t_dn2 (a := a) (b := b) f3
    rw [n3 s3, if_pos rfl]
    refine two.l e4 ?_
    by_cases s4 : say t s k 4
    · rw [y4 s4, if_neg one, T 4 (by decide) s4, m16_4, zB_eta]
      exact l_asks hX hY hnx hC hM hR hO hF
    rw [n4 s4, if_pos rfl]
    refine two.l e5 ?_
    by_cases s5 : say t s k 5
    · rw [y5 s5, if_neg one, T 5 (by decide) s5, m16_5]
      unfold D_X8_readLine_96
      rw [W 5 (by decide) s5]
      by_cases hT : A Q 11 = 0
      · rw [if_pos hT]
        unfold D_X3_readLine_142
        rw [zB_eta]
        exact l_law hX hY hnx hC hM hR hO hF hT
      · rw [if_neg hT]
        exact badO 5 (by decide) (Classical.byContradiction (fun z => hT (hO.1.mpr z)))
    rw [n5 s5, if_pos rfl]
    refine two.l e6 ?_
    by_cases s6 : say t s k 6
    · rw [y6 s6, if_neg one, T 6 (by decide) s6, m16_6]
      unfold D_X8_readLine_96
      rw [W 6 (by decide) s6]
      by_cases hT : A Q 12 = 0
      · rw [if_pos hT]
        unfold D_X3_readLine_171
        rw [zB_eta]
        exact l_prefer hX hY hnx hC hM hR hO hF hT
      · rw [if_neg hT]
        exact badO 6 (by decide) (Classical.byContradiction (fun z => hT (hO.2.1.mpr z)))
    rw [n6 s6, if_pos rfl]
    refine two.l e7 ?_
    by_cases s7 : say t s k 7
    · rw [y7 s7, if_neg one, T 7 (by decide) s7, m16_7]
      unfold D_X8_readLine_96
      rw [W 7 (by decide) s7]
      by_cases hT : A Q 13 = 0
      · rw [if_pos hT]
        unfold D_X3_readLine_200
        rw [zB_eta]
        exact l_guests hX hY hnx hC hM hR hO hF hT
      · rw [if_neg hT]
        exact badO 7 (by decide) (Classical.byContradiction (fun z => hT (hO.2.2.1.mpr z)))
    rw [n7 s7, if_pos rfl]
    -- a word that begins no line
    have w19 : D_X8_readLine_16 P (B P 19) B NB = D_X8_readLine_108 P B NB := by
      rcases u11 with ⟨j, j1, j2, j3⟩ | ⟨j1, j2⟩
      · have : j = 0 ∨ j = 1 ∨ j = 2 ∨ j = 3 ∨ j = 4 ∨ j = 5 ∨ j = 6 ∨ j = 7 := by omega
        rcases this with rfl | rfl | rfl | rfl | rfl | rfl | rfl | rfl
        · exact absurd j3 s0
        · exact absurd j3 s1
        · rw [j2]
          unfold D_X8_readLine_16
          rw [if_neg (by decide), if_neg (by decide), if_pos (by decide)]
        · exact absurd j3 s3
        · exact absurd j3 s4
        · exact absurd j3 s5
        · exact absurd j3 s6
        · exact absurd j3 s7
      · rw [j1]
        unfold D_X8_readLine_16
        rw [if_neg (by decide), if_neg (by decide), if_neg (by decide), if_neg (by decide), if_neg (by decide), if_neg (by decide), if_neg (by decide), if_neg (by decide)]
    rw [w19]
    exact bad
  · rw [if_neg (fun z => q6 (w61.mpr z))]
    have w16 : D_X8_readLine_16 P (-1 : Int32) B NB = D_X8_readLine_108 P B NB := by
      unfold D_X8_readLine_16
      rw [if_neg (by decide), if_neg (by decide), if_neg (by decide), if_neg (by decide), if_neg (by decide), if_neg (by decide), if_neg (by decide), if_neg (by decide)]
    rw [w16]
    refine two.l (c_says0 q6) ?_
    rw [if_pos rfl]
    refine two.l (c_says0 q6) ?_
    rw [if_pos rfl]
    refine two.l (c_says0 q6) ?_
    rw [if_pos rfl]
    refine two.l (c_says0 q6) ?_
    rw [if_pos rfl]
    refine two.l (c_says0 q6) ?_
    rw [if_pos rfl]
    refine two.l (c_says0 q6) ?_
    rw [if_pos rfl]
    refine two.l (c_says0 q6) ?_
    rw [if_pos rfl]
    exact bad
/-! LOAD: both read the tape alike -/
/-- what the reference's load answers behind its reading -/
theorem w_164v {P : Nat} {N : zNt} : ∀ (u k : Nat) (M : zMt), k ≤ 10 → 10 - k < u → ∃ r, D_X8_load_164 P u (nI k) M N = some r ∧ r.1 = M P 29 ∧ r.2.1 P 13 = M P 13 ∧ r.2.1 P 14 = M P 14 := by
  intro u
  induction u with
  | zero => intro k M _ h; omega
  | succ u ih =>
    intro k M hk hu
    rw [D_X8_load_164]
    by_cases hc : 10 ≤ k
    · rw [if_pos (by exact (leL (x := 10) (a := 10) (by decide) (by decide) (by omega)).mpr hc)]
      refine ⟨_, rfl, ?_, ?_, ?_⟩
      · show zu (zu (zu M P 7 (M P 28)) P 8 (zu M P 7 (M P 28) P 29)) P 9 (0 : Int32) P 8 = _
        rw [zu_ne (by omega), zu_eq, zu_ne (by omega)]
      · show zu (zu (zu (zu (zu M P 7 (M P 28)) P 8 (zu M P 7 (M P 28) P 29)) P 9 (0 : Int32)) P 6 (0 : Int32)) P 12 (0 : Int32) P 13 = _
        rw [zu_ne (by omega), zu_ne (by omega), zu_ne (by omega), zu_ne (by omega), zu_ne (by omega)]
      · show zu (zu (zu (zu (zu M P 7 (M P 28)) P 8 (zu M P 7 (M P 28) P 29)) P 9 (0 : Int32)) P 6 (0 : Int32)) P 12 (0 : Int32) P 14 = _
        rw [zu_ne (by omega), zu_ne (by omega), zu_ne (by omega), zu_ne (by omega), zu_ne (by omega)]
    · rw [if_neg (by intro q; exact hc ((leL (x := 10) (a := 10) (by decide) (by decide) (by omega)).mp q))]
      have T : ∀ y : Int32, ∃ r, D_X8_load_197 P (D_X8_load_164 P u) (nI k) (nI k) y M N = some r ∧ r.1 = M P 29 ∧ r.2.1 P 13 = M P 13 ∧ r.2.1 P 14 = M P 14 := fun y => by
        unfold D_X8_load_197
        refine vI (vp_in_nI (by omega) (by decide)) ?_
        show ∃ r, D_X8_load_164 P u (nI k + 1) (zu M (P + 5) (nI k).toNatClampNeg y) N = some r ∧ _
        rw [nI_add1]
        obtain ⟨r, h1, h2, h3, h4⟩ := ih (k + 1) (zu M (P + 5) (nI k).toNatClampNeg y) (by omega) (by omega)
        exact ⟨r, h1, h2.trans (zu_ne (by omega)), h3.trans (zu_ne (by omega)), h4.trans (zu_ne (by omega))⟩
      refine vIf (fun _ => T 0) (fun _ => vI (vp_in_nI (by omega) (by decide)) (vIf (fun _ => T 0) (fun _ => T 1)))
theorem w_138v {P : Nat} {N : zNt} : ∀ (u k : Nat) (M : zMt), k ≤ 82 → 82 - k < u → ∃ r, D_X8_load_138 P u (nI k) M N = some r ∧ r.1 = M P 29 ∧ r.2.1 P 13 = M P 13 ∧ r.2.1 P 14 = M P 14 := by
  intro u
  induction u with
  | zero => intro k M _ h; omega
  | succ u ih =>
    intro k M hk hu
    rw [D_X8_load_138]
    by_cases hc : 82 ≤ k
    · rw [if_pos (by exact (leL (x := 82) (a := 82) (by decide) (by decide) (by omega)).mpr hc)]
      obtain ⟨r, h1, h2⟩ := w_164v (P := P) (N := N) zFu 0 M (by omega) (by unfold zFu; omega)
      exact ⟨r, h1, h2⟩
    · rw [if_neg (by intro q; exact hc ((leL (x := 82) (a := 82) (by decide) (by decide) (by omega)).mp q))]
      refine vI (vp_in_nI (by omega) (by decide)) (vI (vp_in_nI (by omega) (by decide)) ?_)
      show ∃ r, D_X8_load_138 P u (nI k + 1) (zu M (P + 1) (nI k).toNatClampNeg (M (P + 2) (nI k).toNatClampNeg)) N = some r ∧ _
      rw [nI_add1]
      obtain ⟨r, h1, h2, h3, h4⟩ := ih (k + 1) (zu M (P + 1) (nI k).toNatClampNeg (M (P + 2) (nI k).toNatClampNeg)) (by omega) (by omega)
      exact ⟨r, h1, h2.trans (zu_ne (by omega)), h3.trans (zu_ne (by omega)), h4.trans (zu_ne (by omega))⟩
theorem zLt_eq {α β : Type} {a : α} {f : α → Option β} : zLt a f = f a := rfl
theorem w_98v {P : Nat} {M : zMt} {N : zNt} {x2 : Int32} : ∃ r, D_X8_load_98 P x2 M N = some r ∧ (x2 = 0 → r.1 = -1) ∧ (¬ x2 = 0 → r.1 = M P 29) ∧ r.2.1 P 13 = M P 21 ∧ r.2.1 P 14 = M P 22 := by
  unfold D_X8_load_98
  show ∃ r, (if x2 = 0 then zB (D_X8_refuse P (9 : Int32) (zu (zu M P 13 (M P 21)) P 14 (zu M P 13 (M P 21) P 22))) fun e_121 => some (e_121.1, e_121.2, N) else zI (70 : Int32) 82 <| zLt (zu (zu (zu M P 13 (M P 21)) P 14 (zu M P 13 (M P 21) P 22)) (P + 2) (70 : Int32).toNatClampNeg (zu (zu M P 13 (M P 21)) P 14 (zu M P 13 (M P 21) P 22) P 30)) fun M_135 => D_X8_load_138 P zFu (0 : Int32) M_135 N) = some r ∧ _
  generalize hM : zu (zu M P 13 (M P 21)) P 14 (zu M P 13 (M P 21) P 22) = M1
  have h13 : M1 P 13 = M P 21 := by rw [← hM, zu_ne (by omega), zu_eq]
  have h14 : M1 P 14 = M P 22 := by rw [← hM, zu_eq, zu_ne (by omega)]
  have h29 : M1 P 29 = M P 29 := by rw [← hM, zu_ne (by omega), zu_ne (by omega)]
  by_cases hx : x2 = 0
  · rw [if_pos hx]
    refine ⟨_, rfl, fun _ => rfl, fun z => absurd hx z, ?_, ?_⟩
    · show zu (zu M1 P 6 (0 : Int32)) P 12 (9 : Int32) P 13 = _
      rw [zu_ne (by omega), zu_ne (by omega), h13]
    · show zu (zu M1 P 6 (0 : Int32)) P 12 (9 : Int32) P 14 = _
      rw [zu_ne (by omega), zu_ne (by omega), h14]
  · rw [if_neg hx]
    unfold zI
    rw [if_neg (by decide)]
    obtain ⟨r, h1, h2, h3, h4⟩ := w_138v (P := P) (N := N) zFu 0 (zu M1 (P + 2) (70 : Int32).toNatClampNeg (M1 P 30)) (by omega) (by unfold zFu; omega)
    rw [show nI 0 = (0 : Int32) by decide] at h1
    rw [zLt_eq]
    exact ⟨r, h1, fun z => absurd z hx, fun _ => h2.trans ((zu_ne (by omega)).trans h29), h3.trans ((zu_ne (by omega)).trans h13), h4.trans ((zu_ne (by omega)).trans h14)⟩
theorem tk.endd {Q P n : Nat} {t : Nat → Int32} {A B : zMt} {NA NB : zNt} (hK : tk Q P n t A NA B NB) : A Q 6 = 0 ↔ B P 18 = 0 := by
  obtain ⟨s, hs, h7, h16, hK⟩ := hK
  rcases hK with ⟨h1, h2⟩ | ⟨h1, h2⟩ | ⟨k, h1, h2, -⟩ | ⟨x, h1, h2, -⟩ | ⟨x, h1, h2, -⟩ <;> rw [h1, h2] <;> decide
/-- line by line -/
theorem t_lines {Q P n T nT : Nat} {t : Nat → Int32} : ∀ (u l : Nat) (A : zMt) (NA : zNt) (B : zMt) (NB : zNt), tx Q n t A → ty P n t B → tk Q P n t A NA B NB → (A Q 6 = 2 ∨ A Q 6 = 4 ∨ dD Q P t A NA B NB) → jX P B → jY P B → jZ P B → (B P 18 = 0 ∨ (l : Int) < (B P 17).toInt) → ((B P 18 = 0 ∧ 1 ≤ u) ∨ (B P 15).toInt - (B P 17).toInt + 2 ≤ u) → l ≤ 700 →
    ∃ a, D_X3_read_62 Q T nT u (nI l) A NA = some a ∧ ∃ x2 B' NB', D_X8_load_79 P u (1 : Int32) B NB = D_X8_load_98 P x2 B' NB' ∧ FR Q P a.2.1 B' ∧ ((a.1 = 0 ∧ x2 = 0) ∨ (a.1 = 1 ∧ x2 = 1 ∧ dD Q P t a.2.1 a.2.2 B' NB')) := by
  intro u
  induction u with
  | zero =>
    intro l A NA B NB _ _ _ _ hx _ _ _ h _
    obtain ⟨-, -, -, g4⟩ := hx
    omega
  | succ u ih =>
    intro l A NA B NB hX hY hK hD jx jy jz hl hu hl7
    obtain ⟨g1, g2, g3, g4⟩ := id jx
    rw [D_X3_read_62, D_X8_load_79, if_neg (show ¬ (1 : Int32) = 0 by decide)]
    have o0 : (0 : Int32).toInt = 0 := by decide
    have o1 : (1 : Int32).toInt = 1 := by decide
    by_cases h0 : B P 18 = 0
    · have a0 : A Q 6 = 0 := hK.endd.mpr h0
      have hD' : dD Q P t A NA B NB := by
        rcases hD with z | z | z
        · exact absurd (a0.symm.trans z) (by decide)
        · exact absurd (a0.symm.trans z) (by decide)
        · exact z
      have hFR : FR Q P A B := ⟨hD'.2.2.1.trans hD'.2.2.2.1.symm, hD'.2.2.2.2.1.trans hD'.2.2.2.2.2.symm⟩
      rw [if_pos h0]
      by_cases h7 : 700 ≤ l
      · rw [if_pos (by exact (leL (x := 700) (a := 700) (by decide) (by decide) (by omega)).mpr h7)]
        exact ⟨_, rfl, 1, B, NB, rfl, hFR, Or.inr ⟨rfl, rfl, hD'⟩⟩
      · rw [if_neg (by intro z; exact h7 ((leL (x := 700) (a := 700) (by decide) (by decide) (by omega)).mp z)), if_pos a0]
        exact ⟨_, rfl, 1, B, NB, rfl, hFR, Or.inr ⟨rfl, rfl, hD'⟩⟩
    · have a0 : ¬ A Q 6 = 0 := fun z => h0 (hK.endd.mp z)
      have hl' := hl.resolve_left h0
      have hu' := hu.resolve_left (fun z => h0 z.1)
      rw [if_neg h0, if_neg (by intro z; exact absurd ((leL (x := 700) (a := 700) (by decide) (by decide) (by omega)).mp z) (by omega)), if_neg a0]
      obtain ⟨a, ea, b, eb, hL⟩ := l_line hX hY hK hD
      obtain ⟨b', eb', kb1, kb2, hb01, jx', jy', jz', hle, hgr⟩ := v_X8_readLine (M0 := B) (N0 := NB) jx jy jz
      rw [eb] at eb'
      cases eb'
      rw [zB_s ea, zB_s eb]
      have e15 : b.2.1 P 15 = B P 15 := kb1 P 15 (by unfold WM_X8_readLine; omega)
      rcases hL with ⟨l1, l2, l3⟩ | ⟨l1, l2, y1, y2, y3, y4⟩
      · rw [if_pos l1, l2]
        obtain ⟨v, rfl⟩ : ∃ v, u = v + 1 := ⟨u - 1, by omega⟩
        refine ⟨_, rfl, 0, b.2.1, b.2.2, ?_, l3, Or.inl ⟨rfl, rfl⟩⟩
        rw [D_X8_load_79, if_pos rfl]
      · rw [if_neg (by rw [l1]; decide), l2, nI_add1]
        have hgr' : b.2.1 P 18 = 0 ∨ (B P 17).toInt < (b.2.1 P 17).toInt := by
          rcases hgr with z | z | z
          · rw [l2, o1] at z; omega
          · exact Or.inl (Int32.toInt_inj.mp (z.trans o0.symm))
          · exact Or.inr z
        exact ih (l + 1) a.2.1 a.2.2 b.2.1 b.2.2 y1 y2 y3 y4 jx' jy' jz' (hgr'.imp id (fun z => by omega)) (by
          rcases hgr' with z | z
          · exact Or.inl ⟨z, by omega⟩
          · rw [e15]; exact Or.inr (by omega)) (by omega)
/-- what the law's two objects hold of the tape -/
def tpe (C P : Nat) (A B : zMt) : Prop := ∃ m, m ≤ 700 ∧ A C 1 = nI m ∧ B P 11 = nI m ∧ ∀ k, k < m → A (C + 1) k = B (P + 7) k ∧ 0 ≤ (A (C + 1) k).toInt
theorem zcpy_in {M : zMt} {R k n : Nat} {g : Nat → Int32} (h : k < n) : zcpy M R n g R k = g k := if_pos ⟨rfl, h⟩
theorem zcpy_ne {M : zMt} {R r j n : Nat} {g : Nat → Int32} (h : ¬ r = R) : zcpy M R n g r j = M r j := if_neg (fun z => h z.1)
theorem zfil_in {M : zMt} {R k n : Nat} {v : Int32} (h : k < n) : zfil M R n v R k = v := if_pos ⟨rfl, h⟩
theorem zfil_ne {M : zMt} {R r j n : Nat} {v : Int32} (h : ¬ r = R) : zfil M R n v r j = M r j := if_neg (fun z => h z.1)
/-- an empty register -/
theorem c_clear9 {R : Nat} {A : zMt} : ∃ A', D_X4_clear R A = some A' ∧ (∀ r j, (r < R ∨ R + 8 ≤ r) → A' r j = A r j) ∧ A' R 0 = 0 ∧ A' R 1 = 0 ∧ A' R 2 = 0 ∧ A' R 3 = 0 ∧ A' R 4 = 0 ∧ A' R 5 = 100 ∧ A' R 6 = 0 ∧ (∀ j, j < 5 → A' (R + 1) j = 0) ∧ (∀ j, j < 10 → A' (R + 2) j = 0) ∧ (∀ j, j < 10 → A' (R + 3) j = 0) ∧ (∀ j, j < 10 → A' (R + 4) j = -1) ∧ (∀ j, j < 10 → A' (R + 5) j = 0) ∧ (∀ j, j < 30 → A' (R + 6) j = -1) ∧ (∀ j, j < 10 → A' (R + 7) j = -1) := by
  refine ⟨_, rfl, fun r j h => ?_, ?_, ?_, ?_, ?_, ?_, ?_, ?_, fun j hj => ?_, fun j hj => ?_, fun j hj => ?_, fun j hj => ?_, fun j hj => ?_, fun j hj => ?_, fun j hj => ?_⟩
  · rw [zfil_ne (by omega), zfil_ne (by omega), zfil_ne (by omega), zfil_ne (by omega), zfil_ne (by omega), zfil_ne (by omega), zfil_ne (by omega), zu_ne (by omega), zu_ne (by omega), zu_ne (by omega), zu_ne (by omega), zu_ne (by omega), zu_ne (by omega), zu_ne (by omega)]
  · rw [zfil_ne (by omega), zfil_ne (by omega), zfil_ne (by omega), zfil_ne (by omega), zfil_ne (by omega), zfil_ne (by omega), zfil_ne (by omega), zu_ne (by omega), zu_ne (by omega), zu_ne (by omega), zu_ne (by omega), zu_ne (by omega), zu_ne (by omega), zu_eq]
  · rw [zfil_ne (by omega), zfil_ne (by omega), zfil_ne (by omega), zfil_ne (by omega), zfil_ne (by omega), zfil_ne (by omega), zfil_ne (by omega), zu_ne (by omega), zu_ne (by omega), zu_ne (by omega), zu_ne (by omega), zu_ne (by omega), zu_eq]
  · rw [zfil_ne (by omega), zfil_ne (by omega), zfil_ne (by omega), zfil_ne (by omega), zfil_ne (by omega), zfil_ne (by omega), zfil_ne (by omega), zu_ne (by omega), zu_ne (by omega), zu_ne (by omega), zu_ne (by omega), zu_eq]
  · rw [zfil_ne (by omega), zfil_ne (by omega), zfil_ne (by omega), zfil_ne (by omega), zfil_ne (by omega), zfil_ne (by omega), zfil_ne (by omega), zu_ne (by omega), zu_ne (by omega), zu_ne (by omega), zu_eq]
  · rw [zfil_ne (by omega), zfil_ne (by omega), zfil_ne (by omega), zfil_ne (by omega), zfil_ne (by omega), zfil_ne (by omega), zfil_ne (by omega), zu_ne (by omega), zu_ne (by omega), zu_eq]
  · rw [zfil_ne (by omega), zfil_ne (by omega), zfil_ne (by omega), zfil_ne (by omega), zfil_ne (by omega), zfil_ne (by omega), zfil_ne (by omega), zu_ne (by omega), zu_eq]
  · rw [zfil_ne (by omega), zfil_ne (by omega), zfil_ne (by omega), zfil_ne (by omega), zfil_ne (by omega), zfil_ne (by omega), zfil_ne (by omega), zu_eq]
  · rw [zfil_ne (by omega), zfil_ne (by omega), zfil_ne (by omega), zfil_ne (by omega), zfil_ne (by omega), zfil_ne (by omega), zfil_in hj]
  · rw [zfil_ne (by omega), zfil_ne (by omega), zfil_ne (by omega), zfil_ne (by omega), zfil_ne (by omega), zfil_in hj]
  · rw [zfil_ne (by omega), zfil_ne (by omega), zfil_ne (by omega), zfil_ne (by omega), zfil_in hj]
  · rw [zfil_ne (by omega), zfil_ne (by omega), zfil_ne (by omega), zfil_in hj]
  · rw [zfil_ne (by omega), zfil_ne (by omega), zfil_in hj]
  · rw [zfil_ne (by omega), zfil_in hj]
  · rw [zfil_in hj]
/-- both begin with nothing read -/
theorem d_empty {Q P : Nat} {t : Nat → Int32} {A B : zMt} {NA NB : zNt}
    (a0 : A (Q + 1) 0 = 0) (a1 : A (Q + 1) 1 = 0) (a2 : A (Q + 1) 2 = 0) (a3 : A (Q + 1) 3 = 0) (a4 : A (Q + 1) 4 = 0) (a5 : A (Q + 1) 5 = 100) (a6 : A (Q + 1) 6 = 0) (r1 : ∀ j, j < 5 → A (Q + 2) j = 0) (r2 : ∀ j, j < 10 → A (Q + 3) j = 0) (r3 : ∀ j, j < 10 → A (Q + 4) j = 0) (r4 : ∀ j, j < 10 → A (Q + 5) j = -1) (r5 : ∀ j, j < 10 → A (Q + 6) j = 0) (r6 : ∀ j, j < 30 → A (Q + 7) j = -1) (r7 : ∀ j, j < 10 → A (Q + 8) j = -1)
    (f : A Q 1 = 0 ∧ A Q 2 = -1 ∧ A Q 11 = 0 ∧ A Q 12 = 0 ∧ A Q 13 = 0)
    (b1 : ∀ j, (j < 10 ∨ (62 ≤ j ∧ j < 69) ∨ j = 70 ∨ j = 71) → B (P + 2) j = 0) (b2 : ∀ j, 10 ≤ j → j < 62 → B (P + 2) j = -1) (b3 : B (P + 2) 69 = 100) (b4 : ∀ j, 72 ≤ j → j < 82 → B (P + 2) j = -1) (g : B P 28 = 0 ∧ B P 29 = 0 ∧ B P 30 = 0 ∧ B P 21 = 0 ∧ B P 22 = -1 ∧ B P 23 = 0) : dD Q P t A NA B NB := by
  obtain ⟨f1, f2, f3, f4, f5⟩ := f
  obtain ⟨g1, g2, g3, g4, g5, g6⟩ := g
  have n0 : (0 : Int32) = nI 0 := by decide
  have ws : ∀ h base, h < 10 → 20 ≤ base → base + 3 ≤ 62 → wsh A B Q P h base := fun h base h1 h2 h3 => ⟨0, by omega, (r5 h h1).trans n0, fun k hk => by rw [r6 _ (by omega), b2 _ (by omega) (by omega)], fun k hk => ⟨fun z => absurd z (by omega), fun z => absurd (b2 _ (by omega) (by omega)) z⟩⟩
  refine ⟨⟨0, 0, 0, ⟨by omega, by omega, by omega, a0.trans n0, g1.trans n0, a1.trans n0, g2.trans n0, a2.trans n0, g3.trans n0⟩, ⟨fun i hi => by omega, fun i hi => by omega, fun i hi => by omega, fun i j hi => by omega⟩, ⟨fun u hu => ?_, fun h hh => ?_, fun h hh => by omega, fun h hh => ?_, fun h hh he => ws h _ hh (by omega) (by omega), fun h g hh hg => by omega, fun g k h1 h2 h3 => b2 _ (by omega) (by omega), fun h h1 h2 => r5 h h1, fun g hg => by omega, ⟨?_, ?_, ?_⟩, ⟨a6, b1 71 (by omega), fun h hh => ⟨r7 h hh, b4 _ (by omega) (by omega)⟩, fun u _ hu => r1 u hu, fun h _ hh => r3 h hh⟩⟩⟩, ⟨?_, ?_, ?_, fun _ => a3⟩, f1, g4, f2, g5⟩
  · rw [r1 u hu, b1 _ (by omega)]
  · rw [r2 h hh, b1 _ (by omega)]
  · rw [r4 h hh, b2 _ (by omega) (by omega)]
    exact ⟨rfl, Or.inl rfl, Or.inr rfl⟩
  · rw [a3, b1 67 (by omega)]
  · rw [a4, b1 68 (by omega)]
  · rw [a5, b3]
  · rw [f3, g6]; exact ⟨fun _ => bitAt_0, fun _ => rfl⟩
  · rw [f4, g6]; exact ⟨fun _ => bitAt_0, fun _ => rfl⟩
  · rw [f5, g6]; exact ⟨fun _ => bitAt_0, fun _ => rfl⟩
/-- the rest of an empty row -/
theorem w_beg39 {Q : Nat} : ∀ (u k : Nat) (M : zMt), k ≤ 10 → 10 - k < u → ∃ r, D_X8_begins_39 Q 82 u (nI k) M = some r ∧ (∀ j, k ≤ j → j < 10 → r Q (72 + j) = -1) ∧ (∀ j, j < k → r Q (72 + j) = M Q (72 + j)) := by
  intro u
  induction u with
  | zero => intro k M _ h; omega
  | succ u ih =>
    intro k M hk hu
    rw [D_X8_begins_39]
    refine vIf (fun hc => ?_) (fun hc => ?_)
    · have hk2 : 10 ≤ k := (nI_leI (a := 10) (b := k) (by decide) (by omega)).mp hc
      refine vI (by unfold vp_in; decide) ?_
      exact ⟨_, rfl, fun j h1 h2 => by omega, fun j h => zu_ne (by rw [show (69 : Int32).toNatClampNeg = 69 by decide]; omega)⟩
    · have hlt : k < 10 := Nat.lt_of_not_le (fun q => hc ((nI_leI (a := 10) (b := k) (by decide) (by omega)).mpr q))
      have e : (72 : Int32) + nI k = nI (72 + k) := (show ∀ k, k < 10 → (72 : Int32) + nI k = nI (72 + k) by decide) k hlt
      rw [e]
      refine vI (vp_in_nI (by omega) (by decide)) ?_
      rw [nI_clamp (by omega), nI_1]
      obtain ⟨r, h1, h2, h3⟩ := ih (k + 1) (zu M Q (72 + k) (-1)) (by omega) (by omega)
      refine ⟨r, h1, fun j h4 h5 => ?_, fun j h4 => (h3 j (by omega)).trans (zu_ne (by omega))⟩
      by_cases q : j = k
      · subst q
        exact (h3 j (by omega)).trans zu_eq
      · exact h2 j (by omega) h5
theorem w_beg21 {Q : Nat} : ∀ (u k : Nat) (M : zMt), k ≤ 62 → 62 - k < u → ∃ r, D_X8_begins_21 Q 82 u (nI k) M = some r ∧ (∀ j, j < 10 → r Q (72 + j) = -1) := by
  intro u
  induction u with
  | zero => intro k M _ h; omega
  | succ u ih =>
    intro k M hk hu
    rw [D_X8_begins_21]
    refine vIf (fun hc => ?_) (fun hc => ?_)
    · obtain ⟨r, h1, h2, -⟩ := w_beg39 (Q := Q) zFu 0 M (by omega) (by unfold zFu; omega)
      exact ⟨r, h1, fun j h => h2 j (Nat.zero_le j) h⟩
    · have hlt : k < 62 := Nat.lt_of_not_le (fun q => hc ((nI_leI (a := 62) (b := k) (by decide) (by omega)).mpr q))
      refine vI (vp_in_nI (by omega) (by decide)) ?_
      rw [nI_clamp (by omega), nI_1]
      exact ih (k + 1) _ (by omega) (by omega)
theorem w_beg2 {Q : Nat} : ∀ (u k : Nat) (M : zMt), k ≤ 82 → 82 - k < u → ∃ r, D_X8_begins_2 Q 82 u (nI k) M = some r ∧ (∀ j, j < 10 → r Q (72 + j) = -1) := by
  intro u
  induction u with
  | zero => intro k M _ h; omega
  | succ u ih =>
    intro k M hk hu
    rw [D_X8_begins_2]
    refine vIf (fun hc => ?_) (fun hc => ?_)
    · exact w_beg21 (Q := Q) zFu 10 M (by omega) (by unfold zFu; omega)
    · have hlt : k < 82 := Nat.lt_of_not_le (fun q => hc ((nI_leI (a := 82) (b := k) (by decide) (by omega)).mpr q))
      refine vI (vp_in_nI (by omega) (by decide)) ?_
      rw [nI_clamp (by omega), nI_1]
      exact ih (k + 1) _ (by omega) (by omega)
theorem w_beg {Q : Nat} {M0 : zMt} : ∃ r, D_X8_begins Q 82 M0 = some r ∧ (∀ j, j < 10 → r Q (72 + j) = -1) := w_beg2 (Q := Q) zFu 0 M0 (by omega) (by unfold zFu; omega)
theorem ld9_21 {P : Nat} {v : Int32} {M : zMt} : ld9 P v M P 21 = 0 := by
  unfold ld9
  rw [zu_ne (by omega), zu_ne (by omega), zu_ne (by omega), zu_ne (by omega), zu_ne (by omega), zu_eq]
theorem ld9_22 {P : Nat} {v : Int32} {M : zMt} : ld9 P v M P 22 = -1 := by
  unfold ld9
  rw [zu_ne (by omega), zu_ne (by omega), zu_ne (by omega), zu_ne (by omega), zu_eq]
theorem ld9_23 {P : Nat} {v : Int32} {M : zMt} : ld9 P v M P 23 = 0 := by
  unfold ld9
  rw [zu_ne (by omega), zu_ne (by omega), zu_ne (by omega), zu_eq]
theorem c_take1 {R S : Nat} {A : zMt} (h : ¬ S = R) : ∃ A', D_X4_take R S A = some A' ∧ A' R 1 = A S 1 := by
  refine ⟨_, rfl, ?_⟩
  rw [zcpy_ne (by omega), zcpy_ne (by omega), zcpy_ne (by omega), zcpy_ne (by omega), zcpy_ne (by omega), zcpy_ne (by omega), zcpy_ne (by omega), zu_ne (by omega), zu_ne (by omega), zu_ne (by omega), zu_ne (by omega), zu_ne (by omega), zu_eq, zu_ne (by omega)]
/-- the class's reading begins -/
theorem c_readB {Q T n : Nat} {A : zMt} {NA : zNt} {v : Int32} (hv : v = nI n) (hn : n ≤ 700) (hT : T < Q ∨ Q + 14 ≤ T) : ∃ A', D_X3_read Q T 700 v A NA = (zB (D_X3_step Q A' NA) fun e => D_X3_read_62 Q T 700 zFu (0 : Int32) e.1 e.2) ∧ tx Q n (A T) A' ∧ A' Q 5 = 0 ∧ A' Q 1 = 0 ∧ A' Q 2 = -1 ∧ A' Q 11 = 0 ∧ A' Q 12 = 0 ∧ A' Q 13 = 0 ∧
    A' (Q + 1) 0 = 0 ∧ A' (Q + 1) 1 = 0 ∧ A' (Q + 1) 2 = 0 ∧ A' (Q + 1) 3 = 0 ∧ A' (Q + 1) 4 = 0 ∧ A' (Q + 1) 5 = 100 ∧ A' (Q + 1) 6 = 0 ∧ (∀ j, j < 5 → A' (Q + 2) j = 0) ∧ (∀ j, j < 10 → A' (Q + 3) j = 0) ∧ (∀ j, j < 10 → A' (Q + 4) j = 0) ∧ (∀ j, j < 10 → A' (Q + 5) j = -1) ∧ (∀ j, j < 10 → A' (Q + 6) j = 0) ∧ (∀ j, j < 30 → A' (Q + 7) j = -1) ∧ (∀ j, j < 10 → A' (Q + 8) j = -1) := by
  have ev : (if (700 : Int32) < v then (700 : Int32) else v) = nI n := by
    rw [hv]
    by_cases q : (700 : Int32) < nI n
    · exact absurd ((ltL (x := 700) (a := 700) (by decide) (by decide) (by omega)).mp q) (by omega)
    · rw [if_neg q]
  unfold D_X3_read
  rw [ev]
  show ∃ A', (zB (D_X4_clear (Q + 1) (zu (zu (zu (zu (zu (zcpy A (Q + 9) 700 (fun j => zrd 0 (A T) 700 (nI j))) Q 4 (nI n)) Q 5 (0 : Int32)) Q 11 (0 : Int32)) Q 12 (0 : Int32)) Q 13 (0 : Int32))) fun e_43 => zB (D_X3_step Q (zu (zu e_43 Q 1 (0 : Int32)) Q 2 (-1 : Int32)) NA) fun e_57 => D_X3_read_62 Q T 700 zFu (0 : Int32) e_57.1 e_57.2) = _ ∧ _
  obtain ⟨A1, e1, k1, c0, c1, c2, c3, c4, c5, c6, d1, d2, d3, d4, d5, d6, d7⟩ := c_clear9 (R := Q + 1) (A := zu (zu (zu (zu (zu (zcpy A (Q + 9) 700 (fun j => zrd 0 (A T) 700 (nI j))) Q 4 (nI n)) Q 5 (0 : Int32)) Q 11 (0 : Int32)) Q 12 (0 : Int32)) Q 13 (0 : Int32))
  rw [zB_s e1]
  have kS : ∀ r j, ¬ (r = Q ∧ (j = 1 ∨ j = 2)) → zu (zu A1 Q 1 (0 : Int32)) Q 2 (-1 : Int32) r j = A1 r j := fun r j h => (zu_ne (by omega)).trans (zu_ne (by omega))
  have kR : ∀ i j, (1 ≤ i ∧ i ≤ 8) → zu (zu A1 Q 1 (0 : Int32)) Q 2 (-1 : Int32) (Q + i) j = A1 (Q + i) j := fun i j hi => kS _ _ (by omega)
  have e4 : A1 Q 4 = nI n := (k1 Q 4 (by omega)).trans ((zu_ne (by omega)).trans ((zu_ne (by omega)).trans ((zu_ne (by omega)).trans ((zu_ne (by omega)).trans zu_eq))))
  have e5 : A1 Q 5 = 0 := (k1 Q 5 (by omega)).trans ((zu_ne (by omega)).trans ((zu_ne (by omega)).trans ((zu_ne (by omega)).trans zu_eq)))
  have e11 : A1 Q 11 = 0 := (k1 Q 11 (by omega)).trans ((zu_ne (by omega)).trans ((zu_ne (by omega)).trans zu_eq))
  have e12 : A1 Q 12 = 0 := (k1 Q 12 (by omega)).trans ((zu_ne (by omega)).trans zu_eq)
  have e13 : A1 Q 13 = 0 := (k1 Q 13 (by omega)).trans zu_eq
  have e9 : ∀ k, k < n → A1 (Q + 9) k = A T k := fun k hk => by
    rw [k1 (Q + 9) k (by omega), zu_ne (by omega), zu_ne (by omega), zu_ne (by omega), zu_ne (by omega), zu_ne (by omega), zcpy_in (by omega), zrd_nI (by omega) (by decide)]
  refine ⟨zu (zu A1 Q 1 (0 : Int32)) Q 2 (-1 : Int32), rfl, ⟨hn, (kS Q 4 (by omega)).trans e4, fun k hk => (kS (Q + 9) k (by omega)).trans (e9 k hk)⟩, (kS Q 5 (by omega)).trans e5, (zu_ne (by omega)).trans zu_eq, zu_eq, (kS Q 11 (by omega)).trans e11, (kS Q 12 (by omega)).trans e12, (kS Q 13 (by omega)).trans e13, (kR 1 0 (by omega)).trans c0, (kR 1 1 (by omega)).trans c1, (kR 1 2 (by omega)).trans c2, (kR 1 3 (by omega)).trans c3, (kR 1 4 (by omega)).trans c4, (kR 1 5 (by omega)).trans c5, (kR 1 6 (by omega)).trans c6, fun j hj => (kR 2 j (by omega)).trans (d1 j hj), fun j hj => (kR 3 j (by omega)).trans (d2 j hj), fun j hj => (kR 4 j (by omega)).trans (d3 j hj), fun j hj => (kR 5 j (by omega)).trans (d4 j hj), fun j hj => (kR 6 j (by omega)).trans (d5 j hj), fun j hj => (kR 7 j (by omega)).trans (d6 j hj), fun j hj => (kR 8 j (by omega)).trans (d7 j hj)⟩
/-- what of a fault both would tell -/
def flt (C P : Nat) (A B : zMt) : Prop := A (C + 3) 1 = B P 13 ∧ A (C + 3) 2 = B P 14
theorem t_load {C P : Nat} {v0 : Int32} {A B : zMt} {NA NB : zNt} (hT : tpe C P A B) (hJ : jJ P B) (hf : flt C P A B) : ∃ a, D_X7_load C v0 A NA = some a ∧ ∃ b, D_X8_load P v0 B NB = some b ∧ a.1 = b.1 ∧ flt C P a.2.1 b.2.1 := by
  obtain ⟨m, hm, h1, h11, hk⟩ := hT
  have o0 : (0 : Int32).toInt = 0 := by decide
  have o1 : (1 : Int32).toInt = 1 := by decide
  have o0l : (0 : Int64).toInt = 0 := by decide
  have n0 : (0 : Int32) = nI 0 := by decide
  obtain ⟨r, hr, qr1, qr2⟩ := v_X8_isFrom (v0 := Int32.toInt64 v0) (v1 := (0 : Int64)) (v2 := Int32.toInt64 (B P 11))
  rw [Int32.toInt_toInt64, Int32.toInt_toInt64, o0l, h11, nI_toInt (by omega)] at qr2
  unfold D_X7_load D_X8_load
  rw [zB_s hr, h1]
  have refu : ∃ a, D_X7_load_12 C A NA = some a ∧ ∃ b, (zB (D_X8_refuse P (1 : Int32) B) fun e_16 => some (e_16.1, e_16.2, NB)) = some b ∧ a.1 = b.1 ∧ flt C P a.2.1 b.2.1 := by
    refine ⟨_, rfl, _, rfl, rfl, ?_, ?_⟩
    · show zu A C 0 (1 : Int32) (C + 3) 1 = zu (zu B P 6 (0 : Int32)) P 12 (1 : Int32) P 13
      rw [zu_ne (by omega), zu_ne (by omega), zu_ne (by omega)]
      exact hf.1
    · show zu A C 0 (1 : Int32) (C + 3) 2 = zu (zu B P 6 (0 : Int32)) P 12 (1 : Int32) P 14
      rw [zu_ne (by omega), zu_ne (by omega), zu_ne (by omega)]
      exact hf.2
  by_cases hneg : v0 < 0
  · have := Int32.lt_iff_toInt_lt.mp hneg
    have hr0 : r = 0 := by
      rcases qr2 with ⟨_, w, _⟩ | ⟨w, _⟩
      · rw [o0] at this; omega
      · exact Int32.toInt_inj.mp (w.trans o0.symm)
    rw [if_pos hneg, if_pos hr0]
    exact refu
  have hge := Int32.le_iff_toInt_le.mp (Int32.not_lt.mp hneg)
  rw [o0] at hge
  rw [if_neg hneg]
  by_cases hle : ¬ v0 ≤ nI m
  · have hgt := Int32.lt_iff_toInt_lt.mp (Int32.not_le.mp hle)
    rw [nI_toInt (by omega)] at hgt
    have hr0 : r = 0 := by
      rcases qr2 with ⟨_, _, w⟩ | ⟨w, _⟩
      · omega
      · exact Int32.toInt_inj.mp (w.trans o0.symm)
    rw [if_neg hle, if_pos hr0]
    exact refu
  have hle : v0 ≤ nI m := Classical.byContradiction hle
  have hle2 := Int32.le_iff_toInt_le.mp hle
  rw [nI_toInt (by omega)] at hle2
  have hr1 : ¬ r = 0 := fun z => by
    rcases qr2 with ⟨w, _⟩ | ⟨_, w⟩
    · rw [z, o0] at w; omega
    · omega
  rw [if_pos hle, if_neg hr1]
  have hnI : v0 = nI v0.toInt.toNat := z_toN hge
  have hnn : (v0.toInt.toNat : Int) = v0.toInt := by omega
  generalize v0.toInt.toNat = n at hnI hnn
  have hnm : n ≤ m := by omega
  obtain ⟨A1, ec, tx1, f5, f1, f2, f11, f12, f13, c0, c1, c2, c3, c4, c5, c6, d1, d2, d3, d4, d5, d6, d7⟩ := c_readB (Q := C + 3) (T := C + 1) (n := n) (A := A) (NA := NA) hnI (by omega) (by omega)
  rw [ld9_let]
  obtain ⟨B1, eb, b1, b2, b3, b4⟩ := w_X8_begins (Q := P + 2) (M0 := ld9 P v0 B)
  obtain ⟨B1', eb', b5⟩ := w_beg (Q := P + 2) (M0 := ld9 P v0 B)
  rw [eb] at eb'
  cases eb'
  rw [zB_s eb]
  have g : ∀ a j, ¬ ((a = P + 2 ∧ j < 82) ∨ (a = P ∧ (j = 15 ∨ j = 11 ∨ j = 17 ∨ j = 21 ∨ j = 22 ∨ j = 23 ∨ j = 28 ∨ j = 29 ∨ j = 30))) → B1 a j = B a j := fun a j h => (b1 a j (by omega)).trans (ld9_ne (by omega))
  have g15 : B1 P 15 = v0 := (b1 P 15 (by omega)).trans ld9_15
  have g17 : B1 P 17 = 0 := (b1 P 17 (by omega)).trans ld9_17
  have g28 : B1 P 28 = 0 := (b1 P 28 (by omega)).trans ld9_28
  have g29 : B1 P 29 = 0 := (b1 P 29 (by omega)).trans ld9_29
  have g30 : B1 P 30 = 0 := (b1 P 30 (by omega)).trans ld9_30
  have g21 : B1 P 21 = 0 := (b1 P 21 (by omega)).trans ld9_21
  have g22 : B1 P 22 = -1 := (b1 P 22 (by omega)).trans ld9_22
  have g23 : B1 P 23 = 0 := (b1 P 23 (by omega)).trans ld9_23
  have ty1 : ty P n (A (C + 1)) B1 := ⟨by omega, g15.trans hnI, fun k hk' => ⟨(g (P + 7) k (by omega)).trans (hk k (by omega)).1.symm, (hk k (by omega)).2⟩⟩
  have jx : jX P B1 := by unfold jX; rw [g15, g17, o0]; omega
  have jy : jY P B1 := by unfold jY; rw [g28, g29, g30, o0]; omega
  have jz : jZ P B1 := jZ.empty b2 b3 b4 g28 g29 g30
  have hD1 : dD (C + 3) P (A (C + 1)) A1 NA B1 NB := d_empty c0 c1 c2 c3 c4 c5 c6 d1 d2 d3 d4 d5 d6 d7 ⟨f1, f2, f11, f12, f13⟩ b2 b3 b4 (fun j hj1 hj2 => by
    have := b5 (j - 72) (by omega)
    rw [show 72 + (j - 72) = j by omega] at this
    exact this) ⟨g28, g29, g30, g21, g22, g23⟩
  obtain ⟨a1, e1, b6, e2, i1, ka1, kna1, kb1, knb1, x1, y1, k1, p1, q1, o1', w1, v1⟩ := t_step (NA := NA) (NB := NB) tx1 ty1 ⟨0, by omega, f5.trans n0, g17.trans n0⟩
  have hD2 := hD1.k ka1 kna1 kb1 knb1
  obtain ⟨b7, e3, kk1, kk2, -, jx', -, hle', hgr'⟩ := v_X8_next (M0 := B1) (N0 := NB) jx
  rw [e2] at e3
  cases e3
  rw [zB_s e2]
  have jy' : jY P b6.2.1 := jy.mono (fun a j h => kb1 a j (by omega))
  have jz' : jZ P b6.2.1 := jz.mono (fun a j h => kb1 a j (by omega))
  obtain ⟨z1, z2, z3, z4⟩ := id jx'
  have h18 : b6.2.1 P 18 = 0 ∨ ((0 : Nat) : Int) < (b6.2.1 P 17).toInt := by
    rcases hgr' with z | z
    · exact Or.inl (Int32.toInt_inj.mp (z.trans o0.symm))
    · rw [g17, o0] at z; exact Or.inr z
  obtain ⟨a, ea, x2, B2, NB2, em, hFR, hcase⟩ := t_lines (T := C + 1) (nT := 700) zFu 0 a1.1 a1.2 b6.2.1 b6.2.2 x1 y1 k1 (Or.inr (Or.inr hD2)) jx' jy' jz' h18 (Or.inr (by unfold zFu; omega)) (by omega)
  rw [show nI 0 = (0 : Int32) by decide] at ea
  rw [zB_s (ec.trans ((zB_s e1).trans ea)), em]
  obtain ⟨rb, e98, w3, w4, w5, w6⟩ := w_98v (P := P) (M := B2) (N := NB2) (x2 := x2)
  rw [e98]
  show ∃ a9, (if a.1 = 0 then zB (D_X7_refuse C (9 : Int32) (zu a.2.1 C 1 (0 : Int32))) fun e_43 => some (e_43.1, e_43.2, a.2.2) else zB (D_X4_take (C + 17) (C + 4) (zu a.2.1 C 1 (0 : Int32))) fun e_58 => zB (D_X1_forget (C + 25) e_58) fun e_65 => zB (D_X7_changed C (e_65 (C + 17) 1) e_65) fun e_76 => some (e_76.1, e_76.2, a.2.2)) = some a9 ∧ _
  rcases hcase with ⟨y1, y2⟩ | ⟨y1, y2, y3⟩
  · rw [if_pos y1]
    refine ⟨_, rfl, rb, rfl, (w3 y2).symm, ?_, ?_⟩
    · show zu (zu a.2.1 C 1 (0 : Int32)) C 0 (9 : Int32) (C + 3) 1 = rb.2.1 P 13
      rw [zu_ne (by omega), zu_ne (by omega), w5]
      exact hFR.1
    · show zu (zu a.2.1 C 1 (0 : Int32)) C 0 (9 : Int32) (C + 3) 2 = rb.2.1 P 14
      rw [zu_ne (by omega), zu_ne (by omega), w6]
      exact hFR.2
  · rw [if_neg (by rw [y1]; decide)]
    obtain ⟨A3, et, et1⟩ := c_take1 (R := C + 17) (S := C + 4) (A := zu a.2.1 C 1 (0 : Int32)) (by omega)
    obtain ⟨A3', et', kt⟩ := v_X4_take (Q := C + 17) (A := C + 4) (M0 := zu a.2.1 C 1 (0 : Int32))
    rw [et] at et'
    cases et'
    rw [zB_s et]
    have ef : D_X1_forget (C + 25) A3 = some (zu A3 (C + 25) 0 (0 : Int32)) := rfl
    rw [zB_s ef]
    obtain ⟨A4, eg, kg⟩ := v_X2_gather (Q := C + 91) (A := C + 17) (M0 := zu A3 (C + 25) 0 (0 : Int32))
    have hH : zu A3 (C + 25) 0 (0 : Int32) (C + 17) 1 = rb.1 := by
      obtain ⟨U, H, G, hC, -, -⟩ := y3.1
      rw [zu_ne (by omega), et1, zu_ne (by omega), w4 (by rw [y2]; decide)]
      exact hC.2.2.2.2.2.1.trans hC.2.2.2.2.2.2.1.symm
    have ech : D_X7_changed C (zu A3 (C + 25) 0 (0 : Int32) (C + 17) 1) (zu A3 (C + 25) 0 (0 : Int32)) = some (zu A3 (C + 25) 0 (0 : Int32) (C + 17) 1, zu (zu A4 C 3 (0 : Int32)) C 0 (0 : Int32)) := by
      unfold D_X7_changed
      rw [zB_s eg]
      rfl
    rw [zB_s ech]
    have kall : ∀ j, zu (zu A4 C 3 (0 : Int32)) C 0 (0 : Int32) (C + 3) j = a.2.1 (C + 3) j := fun j => by
      rw [zu_ne (by omega), zu_ne (by omega), kg (C + 3) j (by unfold WM_X2_gather; omega), zu_ne (by omega), kt (C + 3) j (by unfold WM_X4_take; omega), zu_ne (by omega)]
    refine ⟨_, rfl, rb, rfl, hH, ?_, ?_⟩
    · show zu (zu A4 C 3 (0 : Int32)) C 0 (0 : Int32) (C + 3) 1 = rb.2.1 P 13
      rw [kall 1, w5]
      exact hFR.1
    · show zu (zu A4 C 3 (0 : Int32)) C 0 (0 : Int32) (C + 3) 2 = rb.2.1 P 14
      rw [kall 2, w6]
      exact hFR.2
/-! FEED: both tapes get the same bytes -/
def bt (v s : Int32) : Int32 := ((Int32.toUInt32 v >>> (Int32.toUInt32 s &&& Int32.toUInt32 31)).toInt32) &&& (255 : Int32)
theorem bt_nn (v s : Int32) : 0 ≤ (bt v s).toInt := by
  have key : ∀ x : Int32, 0 ≤ (x &&& (255 : Int32)).toInt := fun x => by
    have h1 : (x &&& (255 : Int32)).toBitVec.toNat ≤ 255 := by
      rw [Int32.toBitVec_and, BitVec.toNat_and]
      exact Nat.and_le_right
    show 0 ≤ (x &&& (255 : Int32)).toBitVec.toInt
    rw [BitVec.toInt_eq_toNat_cond]
    split <;> omega
  exact key _
/-- four bytes of one number -/
def b4 (v : Int32) (k : Nat) : Int32 := if k = 0 then bt v 24 else if k = 1 then bt v 16 else if k = 2 then bt v 8 else bt v 0
theorem b4_nn (v : Int32) (k : Nat) : 0 ≤ (b4 v k).toInt := by
  unfold b4
  repeat' split
  all_goals exact bt_nn _ _
theorem c_append {C m : Nat} {v : Int32} {A : zMt} (h : A C 1 = nI m) (hm : m + 4 ≤ 700) : ∃ A', D_X7_append C v A = some A' ∧ A' C 1 = nI (m + 4) ∧ (∀ k, k < 4 → A' (C + 1) (m + k) = b4 v k) ∧ (∀ r j, ¬ (r = C ∧ j = 1) → ¬ (r = C + 1 ∧ m ≤ j ∧ j < m + 4) → A' r j = A r j) := by
  have step : ∀ (u : Nat) (s : Int32) (q : Nat) (A : zMt), ¬ s < 0 → A C 1 = nI q → q < 700 → D_X7_append_3 C (u + 1) v s A = D_X7_append_3 C u v (s + (-8)) (zu (zu A (C + 1) q (bt v s)) C 1 (nI (q + 1))) := fun u s q A hs hq hq7 => by
    rw [D_X7_append_3, if_neg hs, hq, zwr_nI hq7 (by decide)]
    show D_X7_append_3 C u v (s + (-8)) (zu (zu A (C + 1) q (bt v s)) C 1 (zu A (C + 1) q (bt v s) C 1 + 1)) = _
    rw [zu_ne (show ¬ (C = C + 1 ∧ 1 = q) by omega), hq, nI_add1]
  have e0 : D_X7_append C v A = D_X7_append_3 C (4294967292 + 1 + 1 + 1 + 1 + 1) v (24 : Int32) A := rfl
  rw [e0, step _ 24 m A (by decide) h (by omega)]
  rw [show (24 : Int32) + (-8) = 16 by decide, step _ 16 (m + 1) _ (by decide) zu_eq (by omega)]
  rw [show (16 : Int32) + (-8) = 8 by decide, step _ 8 (m + 2) _ (by decide) zu_eq (by omega)]
  rw [show (8 : Int32) + (-8) = 0 by decide, step _ 0 (m + 3) _ (by decide) zu_eq (by omega)]
  rw [D_X7_append_3, if_pos (by decide)]
  refine ⟨_, rfl, zu_eq, fun k hk => ?_, fun r j h1 h2 => ?_⟩
  · have : k = 0 ∨ k = 1 ∨ k = 2 ∨ k = 3 := by omega
    rcases this with rfl | rfl | rfl | rfl
    · rw [zu_ne (by omega), zu_ne (by omega), zu_ne (by omega), zu_ne (by omega), zu_ne (by omega), zu_ne (by omega), zu_ne (by omega)]
      exact zu_eq
    · rw [zu_ne (by omega), zu_ne (by omega), zu_ne (by omega), zu_ne (by omega), zu_ne (by omega)]
      exact zu_eq
    · rw [zu_ne (by omega), zu_ne (by omega), zu_ne (by omega)]
      exact zu_eq
    · rw [zu_ne (by omega)]
      exact zu_eq
  · rw [zu_ne (by omega), zu_ne (by omega), zu_ne (by omega), zu_ne (by omega), zu_ne (by omega), zu_ne (by omega), zu_ne (by omega), zu_ne (by omega)]
theorem m_come {P m : Nat} {v : Int32} {B : zMt} (h : B P 11 = nI m) (hm : m + 4 ≤ 700) : ∃ B', D_X8_come P v B = some B' ∧ B' P 11 = nI (m + 4) ∧ (∀ k, k < 4 → B' (P + 7) (m + k) = b4 v k) ∧ (∀ r j, ¬ (r = P ∧ j = 11) → ¬ (r = P + 7 ∧ m ≤ j ∧ j < m + 4) → B' r j = B r j) := by
  have step : ∀ (u : Nat) (s : Int32) (q : Nat) (B : zMt), ¬ s < 0 → B P 11 = nI q → q < 700 → D_X8_come_3 P (u + 1) v s B = D_X8_come_3 P u v (s + (-8)) (zu (zu B (P + 7) q (bt v s)) P 11 (nI (q + 1))) := fun u s q B hs hq hq7 => by
    rw [D_X8_come_3, if_neg hs, hq]
    unfold zI
    rw [if_neg (vp_in_nI hq7 (by decide)), nI_clamp (by omega)]
    show D_X8_come_3 P u v (s + (-8)) (zu (zu B (P + 7) q (bt v s)) P 11 (zu B (P + 7) q (bt v s) P 11 + 1)) = _
    rw [zu_ne (show ¬ (P = P + 7 ∧ 11 = q) by omega), hq, nI_add1]
  have e0 : D_X8_come P v B = D_X8_come_3 P (4294967292 + 1 + 1 + 1 + 1 + 1) v (24 : Int32) B := rfl
  rw [e0, step _ 24 m B (by decide) h (by omega)]
  rw [show (24 : Int32) + (-8) = 16 by decide, step _ 16 (m + 1) _ (by decide) zu_eq (by omega)]
  rw [show (16 : Int32) + (-8) = 8 by decide, step _ 8 (m + 2) _ (by decide) zu_eq (by omega)]
  rw [show (8 : Int32) + (-8) = 0 by decide, step _ 0 (m + 3) _ (by decide) zu_eq (by omega)]
  rw [D_X8_come_3, if_pos (by decide)]
  refine ⟨_, rfl, zu_eq, fun k hk => ?_, fun r j h1 h2 => ?_⟩
  · have : k = 0 ∨ k = 1 ∨ k = 2 ∨ k = 3 := by omega
    rcases this with rfl | rfl | rfl | rfl
    · rw [zu_ne (by omega), zu_ne (by omega), zu_ne (by omega), zu_ne (by omega), zu_ne (by omega), zu_ne (by omega), zu_ne (by omega)]
      exact zu_eq
    · rw [zu_ne (by omega), zu_ne (by omega), zu_ne (by omega), zu_ne (by omega), zu_ne (by omega)]
      exact zu_eq
    · rw [zu_ne (by omega), zu_ne (by omega), zu_ne (by omega)]
      exact zu_eq
    · rw [zu_ne (by omega)]
      exact zu_eq
  · rw [zu_ne (by omega), zu_ne (by omega), zu_ne (by omega), zu_ne (by omega), zu_ne (by omega), zu_ne (by omega), zu_ne (by omega), zu_ne (by omega)]
/-- the tapes, so far as they are filled -/
def tpm (C P m : Nat) (A B : zMt) : Prop := A C 1 = nI m ∧ B P 11 = nI m ∧ ∀ k, k < m → A (C + 1) k = B (P + 7) k ∧ 0 ≤ (A (C + 1) k).toInt
theorem t_app {C P m : Nat} {v : Int32} {A B : zMt} (h : tpm C P m A B) (hm : m + 4 ≤ 700) : ∃ A', D_X7_append C v A = some A' ∧ ∃ B', D_X8_come P v B = some B' ∧ tpm C P (m + 4) A' B' := by
  obtain ⟨h1, h2, h3⟩ := h
  obtain ⟨A', a1, a2, a3, a4⟩ := c_append (v := v) h1 hm
  obtain ⟨B', b1, b2, b3, b4'⟩ := m_come (v := v) h2 hm
  refine ⟨A', a1, B', b1, a2, b2, fun k hk => ?_⟩
  by_cases q : k < m
  · rw [a4 (C + 1) k (by omega) (by omega), b4' (P + 7) k (by omega) (by omega)]
    exact h3 k q
  · have e1 := a3 (k - m) (by omega)
    have e2 := b3 (k - m) (by omega)
    rw [show m + (k - m) = k by omega] at e1 e2
    rw [e1, e2]
    exact ⟨rfl, b4_nn _ _⟩
theorem t_feed {C P : Nat} {v0 v1 v2 v3 v4 : Int32} {A B : zMt} (hT : tpe C P A B) : ∃ a, D_X7_feed C v0 v1 v2 v3 v4 A = some a ∧ ∃ b, D_X8_feed P v0 v1 v2 v3 v4 B = some b ∧ a.1 = b.1 ∧ tpe C P a.2 b.2 := by
  obtain ⟨m, hm, h1, h2, h3⟩ := hT
  have e20 : nI m + (20 : Int32) = nI (m + 20) := by
    apply Int32.toInt_inj.mp
    have e1 : (nI m).toInt = (m : Nat) := nI_toInt (by omega)
    have e3 : (nI (m + 20)).toInt = (m + 20 : Nat) := nI_toInt (by omega)
    have o20 : (20 : Int32).toInt = 20 := by decide
    rw [z_add (by rw [e1, o20]; omega) (by rw [e1, o20]; omega), e1, e3, o20]
    omega
  have b11 : zu B P 6 (0 : Int32) P 11 = nI m := (zu_ne (by omega)).trans h2
  unfold D_X7_feed D_X8_feed
  rw [h1, e20]
  show ∃ a, (if nI (m + 20) ≤ (700 : Int32) then zB (D_X7_append C v0 A) fun e_17 => zB (D_X7_append C v1 e_17) fun e_22 => zB (D_X7_append C v2 e_22) fun e_27 => zB (D_X7_append C v3 e_27) fun e_33 => zB (D_X7_append C v4 e_33) fun e_39 => some ((e_39 C 1), e_39) else some ((-1 : Int32), A)) = some a ∧ ∃ b, (if (zu B P 6 (0 : Int32) P 11) + (20 : Int32) ≤ (700 : Int32) then zB (D_X8_come P v0 (zu B P 6 (0 : Int32))) fun e_22 => zB (D_X8_come P v1 e_22) fun e_27 => zB (D_X8_come P v2 e_27) fun e_32 => zB (D_X8_come P v3 e_32) fun e_38 => zB (D_X8_come P v4 e_38) fun e_44 => some ((e_44 P 11), e_44) else some ((-1 : Int32), zu B P 6 (0 : Int32))) = some b ∧ _
  rw [b11, e20]
  have hB : ∀ j, zu B P 6 (0 : Int32) (P + 7) j = B (P + 7) j := fun j => zu_ne (by omega)
  by_cases q : m + 20 ≤ 700
  · have hle : nI (m + 20) ≤ (700 : Int32) := (leR (x := 700) (b := 700) (by decide) (by decide) (by omega)).mpr q
    rw [if_pos hle, if_pos hle]
    have t0 : tpm C P m A (zu B P 6 (0 : Int32)) := ⟨h1, b11, fun k hk => by rw [hB k]; exact h3 k hk⟩
    obtain ⟨A1, a1, B1, b1, t1⟩ := t_app (v := v0) t0 (by omega)
    rw [zB_s a1, zB_s b1]
    obtain ⟨A2, a2, B2, b2, t2⟩ := t_app (v := v1) t1 (by omega)
    rw [zB_s a2, zB_s b2]
    obtain ⟨A3, a3, B3, b3, t3⟩ := t_app (v := v2) t2 (by omega)
    rw [zB_s a3, zB_s b3]
    obtain ⟨A4, a4, B4, b4', t4⟩ := t_app (v := v3) t3 (by omega)
    rw [zB_s a4, zB_s b4']
    obtain ⟨A5, a5, B5, b5, t5⟩ := t_app (v := v4) t4 (by omega)
    rw [zB_s a5, zB_s b5]
    exact ⟨_, rfl, _, rfl, t5.1.trans t5.2.1.symm, m + 4 + 4 + 4 + 4 + 4, by omega, t5.1, t5.2.1, t5.2.2⟩
  · have hle : ¬ nI (m + 20) ≤ (700 : Int32) := fun z => q ((leR (x := 700) (b := 700) (by decide) (by decide) (by omega)).mp z)
    rw [if_neg hle, if_neg hle]
    exact ⟨_, rfl, _, rfl, rfl, m, hm, h1, b11, fun k hk => by
      show A (C + 1) k = zu B P 6 (0 : Int32) (P + 7) k ∧ _
      rw [hB k]
      exact h3 k hk⟩
theorem ci {a n : Nat} (h : a < n) (hn : n < 2147483648) : ¬ (nI a < 0 ∨ n ≤ a) := by
  have := vp_in_nI h (by omega)
  unfold vp_in at this
  rw [nI_clamp (by omega)] at this
  exact this
/-! THE LIST between calls: the class's register at R, the reference's row r, its guests g -/
def wsR (R : Nat) (A : zMt) (r : Nat → Int32) (h base : Nat) : Prop := ∃ c, c ≤ 3 ∧ A (R + 5) h = nI c ∧ (∀ k, k < 3 → A (R + 6) (3 * h + k) = r (base + k)) ∧ (∀ k, k < 3 → (k < c ↔ ¬ r (base + k) = -1))
def gR (R : Nat) (A : zMt) (r g : Nat → Int32) (U H G : Nat) : Prop :=
  (U ≤ 5 ∧ H ≤ 10 ∧ G ≤ 4 ∧ A R 0 = nI U ∧ A R 1 = nI H ∧ A R 2 = nI G ∧ r 70 = nI G) ∧
  (∀ u, u < 5 → A (R + 1) u = r (62 + u)) ∧
  (∀ h, h < 10 → A (R + 2) h = r h) ∧
  (∀ h, h < H → A (R + 3) h = g h ∧ (g h = 0 ∨ g h = 1)) ∧
  (∀ h, h < 10 → A (R + 4) h = r (10 + h) ∧ (A (R + 4) h = -1 ∨ ∃ p, p < G ∧ A (R + 4) h = nI p) ∧ (h < H ∨ A (R + 4) h = -1)) ∧
  (∀ h, h < H → A (R + 4) h = -1 → wsR R A r h (20 + 3 * h)) ∧
  (∀ h p, h < H → p < G → A (R + 4) h = nI p → wsR R A r h (50 + 3 * p)) ∧
  (∀ p, p < G → ∃ h, h < H ∧ A (R + 4) h = nI p) ∧
  (A R 3 = r 67 ∧ A R 4 = r 68 ∧ A R 5 = r 69 ∧ A R 6 = r 71) ∧ (∀ h, h < 10 → A (R + 7) h = r (72 + h)) ∧ (∀ u, U ≤ u → u < 5 → A (R + 1) u = 0) ∧ (∀ h, H ≤ h → h < 10 → A (R + 3) h = 0)
theorem wsR.k {R R' : Nat} {A A' : zMt} {r r' : Nat → Int32} {h base : Nat} (w : wsR R A r h base) (a5 : A' (R' + 5) h = A (R + 5) h) (a6 : ∀ k, k < 3 → A' (R' + 6) (3 * h + k) = A (R + 6) (3 * h + k)) (b : ∀ k, k < 3 → r' (base + k) = r (base + k)) : wsR R' A' r' h base := by
  obtain ⟨c, h1, h2, h3, h4⟩ := w
  refine ⟨c, h1, by rw [a5]; exact h2, fun k hk => ?_, fun k hk => ?_⟩
  · rw [a6 k hk, b k hk]; exact h3 k hk
  · rw [b k hk]; exact h4 k hk
/-- the same list elsewhere -/
theorem gR.k {R R' : Nat} {A A' : zMt} {r r' g g' : Nat → Int32} {U H G : Nat} (w : gR R A r g U H G) (a0 : ∀ j, j < 7 → A' R' j = A R j) (a1 : ∀ j, j < 5 → A' (R' + 1) j = A (R + 1) j) (a2 : ∀ j, j < 10 → A' (R' + 2) j = A (R + 2) j) (a3 : ∀ j, j < 10 → A' (R' + 3) j = A (R + 3) j) (a4 : ∀ j, j < 10 → A' (R' + 4) j = A (R + 4) j) (a5 : ∀ j, j < 10 → A' (R' + 5) j = A (R + 5) j) (a6 : ∀ j, j < 30 → A' (R' + 6) j = A (R + 6) j) (a7 : ∀ j, j < 10 → A' (R' + 7) j = A (R + 7) j) (b : ∀ j, j < 82 → r' j = r j) (c : ∀ j, j < 10 → g' j = g j) : gR R' A' r' g' U H G := by
  obtain ⟨⟨c1, c2, c3, c4, c5, c6, c7⟩, r1, r2, r3, r4, r5, r6, r9, ⟨s1, s2, s3, s4⟩, u3, u4, u5⟩ := w
  refine ⟨⟨c1, c2, c3, (a0 0 (by omega)).trans c4, (a0 1 (by omega)).trans c5, (a0 2 (by omega)).trans c6, (b 70 (by omega)).trans c7⟩, fun u hu => ?_, fun h hh => ?_, fun h hh => ?_, fun h hh => ?_, fun h hh he => ?_, fun h p hh hp he => ?_, fun p hp => ?_, ⟨?_, ?_, ?_, ?_⟩, fun h hh => ?_, fun u hu1 hu2 => ?_, fun h hh1 hh2 => ?_⟩
  · rw [a1 u hu, b _ (by omega)]; exact r1 u hu
  · rw [a2 h hh, b _ (by omega)]; exact r2 h hh
  · rw [a3 h (by omega), c h (by omega)]; exact r3 h hh
  · rw [a4 h hh, b _ (by omega)]; exact r4 h hh
  · rw [a4 h (by omega)] at he
    exact (r5 h hh he).k (a5 h (by omega)) (fun k hk => a6 _ (by omega)) (fun k hk => b _ (by omega))
  · rw [a4 h (by omega)] at he
    exact (r6 h p hh hp he).k (a5 h (by omega)) (fun k hk => a6 _ (by omega)) (fun k hk => b _ (by omega))
  · obtain ⟨h, h1, h2⟩ := r9 p hp
    exact ⟨h, h1, (a4 h (by omega)).trans h2⟩
  · rw [a0 3 (by omega), b 67 (by omega)]; exact s1
  · rw [a0 4 (by omega), b 68 (by omega)]; exact s2
  · rw [a0 5 (by omega), b 69 (by omega)]; exact s3
  · rw [a0 6 (by omega), b 71 (by omega)]; exact s4
  · rw [a7 h hh, b _ (by omega)]; exact u3 h hh
  · rw [a1 u hu2]; exact u4 u hu1 hu2
  · rw [a3 h hh2]; exact u5 h hh1 hh2
/-- nothing of it touched -/
theorem gR.m {R : Nat} {A A' : zMt} {r r' g g' : Nat → Int32} {U H G : Nat} (w : gR R A r g U H G) (a : ∀ i j, R ≤ i → i < R + 8 → A' i j = A i j) (b : ∀ j, j < 82 → r' j = r j) (c : ∀ j, j < 10 → g' j = g j) : gR R A' r' g' U H G :=
  w.k (fun j _ => a _ j (by omega) (by omega)) (fun j _ => a _ j (by omega) (by omega)) (fun j _ => a _ j (by omega) (by omega)) (fun j _ => a _ j (by omega) (by omega)) (fun j _ => a _ j (by omega) (by omega)) (fun j _ => a _ j (by omega) (by omega)) (fun j _ => a _ j (by omega) (by omega)) (fun j _ => a _ j (by omega) (by omega)) b c
/-- a register is copied -/
theorem cc_take {R S : Nat} {A : zMt} (hd : R + 8 ≤ S ∨ S + 8 ≤ R) : ∃ A', D_X4_take R S A = some A' ∧ (∀ j, j < 7 → A' R j = A S j) ∧ (∀ j, j < 5 → A' (R + 1) j = A (S + 1) j) ∧ (∀ j, j < 10 → A' (R + 2) j = A (S + 2) j) ∧ (∀ j, j < 10 → A' (R + 3) j = A (S + 3) j) ∧ (∀ j, j < 10 → A' (R + 4) j = A (S + 4) j) ∧ (∀ j, j < 10 → A' (R + 5) j = A (S + 5) j) ∧ (∀ j, j < 30 → A' (R + 6) j = A (S + 6) j) ∧ (∀ j, j < 10 → A' (R + 7) j = A (S + 7) j) ∧ (∀ i j, (i < R ∨ R + 8 ≤ i) → A' i j = A i j) := by
  unfold D_X4_take
  refine vLm (W := fun a j => a = R ∧ j = 0) (M0 := A) (fun a j (h : ¬ (a = R ∧ j = 0)) => zu_ne h) (fun M1 f1 k1 => ?_)
  have k1 : ∀ a j, ¬ (a = R ∧ j = 0) → M1 a j = A a j := k1
  have e1 : M1 R 0 = A S 0 := by rw [← f1, zu_eq]
  refine vLm (W := fun a j => a = R ∧ j = 1) (M0 := M1) (fun a j (h : ¬ (a = R ∧ j = 1)) => zu_ne h) (fun M2 f2 k2 => ?_)
  have k2 : ∀ a j, ¬ (a = R ∧ j = 1) → M2 a j = M1 a j := k2
  have e2 : M2 R 1 = M1 S 1 := by rw [← f2, zu_eq]
  refine vLm (W := fun a j => a = R ∧ j = 2) (M0 := M2) (fun a j (h : ¬ (a = R ∧ j = 2)) => zu_ne h) (fun M3 f3 k3 => ?_)
  have k3 : ∀ a j, ¬ (a = R ∧ j = 2) → M3 a j = M2 a j := k3
  have e3 : M3 R 2 = M2 S 2 := by rw [← f3, zu_eq]
  refine vLm (W := fun a j => a = R ∧ j = 3) (M0 := M3) (fun a j (h : ¬ (a = R ∧ j = 3)) => zu_ne h) (fun M4 f4 k4 => ?_)
  have k4 : ∀ a j, ¬ (a = R ∧ j = 3) → M4 a j = M3 a j := k4
  have e4 : M4 R 3 = M3 S 3 := by rw [← f4, zu_eq]
  refine vLm (W := fun a j => a = R ∧ j = 4) (M0 := M4) (fun a j (h : ¬ (a = R ∧ j = 4)) => zu_ne h) (fun M5 f5 k5 => ?_)
  have k5 : ∀ a j, ¬ (a = R ∧ j = 4) → M5 a j = M4 a j := k5
  have e5 : M5 R 4 = M4 S 4 := by rw [← f5, zu_eq]
  refine vLm (W := fun a j => a = R ∧ j = 5) (M0 := M5) (fun a j (h : ¬ (a = R ∧ j = 5)) => zu_ne h) (fun M6 f6 k6 => ?_)
  have k6 : ∀ a j, ¬ (a = R ∧ j = 5) → M6 a j = M5 a j := k6
  have e6 : M6 R 5 = M5 S 5 := by rw [← f6, zu_eq]
  refine vLm (W := fun a j => a = R ∧ j = 6) (M0 := M6) (fun a j (h : ¬ (a = R ∧ j = 6)) => zu_ne h) (fun M7 f7 k7 => ?_)
  have k7 : ∀ a j, ¬ (a = R ∧ j = 6) → M7 a j = M6 a j := k7
  have e7 : M7 R 6 = M6 S 6 := by rw [← f7, zu_eq]
  refine vLm (W := fun a _ => a = R + 1) (M0 := M7) (fun a j (h : ¬ a = R + 1) => zcpy_ne h) (fun M8 f8 k8 => ?_)
  have k8 : ∀ a j, ¬ a = R + 1 → M8 a j = M7 a j := k8
  have e8 : ∀ j, j < 5 → M8 (R + 1) j = M7 (S + 1) j := fun j hj => by rw [← f8, zcpy_in hj, zrd_nI hj (by decide)]
  refine vLm (W := fun a _ => a = R + 2) (M0 := M8) (fun a j (h : ¬ a = R + 2) => zcpy_ne h) (fun M9 f9 k9 => ?_)
  have k9 : ∀ a j, ¬ a = R + 2 → M9 a j = M8 a j := k9
  have e9 : ∀ j, j < 10 → M9 (R + 2) j = M8 (S + 2) j := fun j hj => by rw [← f9, zcpy_in hj, zrd_nI hj (by decide)]
  refine vLm (W := fun a _ => a = R + 3) (M0 := M9) (fun a j (h : ¬ a = R + 3) => zcpy_ne h) (fun M10 f10 k10 => ?_)
  have k10 : ∀ a j, ¬ a = R + 3 → M10 a j = M9 a j := k10
  have e10 : ∀ j, j < 10 → M10 (R + 3) j = M9 (S + 3) j := fun j hj => by rw [← f10, zcpy_in hj, zrd_nI hj (by decide)]
  refine vLm (W := fun a _ => a = R + 4) (M0 := M10) (fun a j (h : ¬ a = R + 4) => zcpy_ne h) (fun M11 f11 k11 => ?_)
  have k11 : ∀ a j, ¬ a = R + 4 → M11 a j = M10 a j := k11
  have e11 : ∀ j, j < 10 → M11 (R + 4) j = M10 (S + 4) j := fun j hj => by rw [← f11, zcpy_in hj, zrd_nI hj (by decide)]
  refine vLm (W := fun a _ => a = R + 5) (M0 := M11) (fun a j (h : ¬ a = R + 5) => zcpy_ne h) (fun M12 f12 k12 => ?_)
  have k12 : ∀ a j, ¬ a = R + 5 → M12 a j = M11 a j := k12
  have e12 : ∀ j, j < 10 → M12 (R + 5) j = M11 (S + 5) j := fun j hj => by rw [← f12, zcpy_in hj, zrd_nI hj (by decide)]
  refine vLm (W := fun a _ => a = R + 6) (M0 := M12) (fun a j (h : ¬ a = R + 6) => zcpy_ne h) (fun M13 f13 k13 => ?_)
  have k13 : ∀ a j, ¬ a = R + 6 → M13 a j = M12 a j := k13
  have e13 : ∀ j, j < 30 → M13 (R + 6) j = M12 (S + 6) j := fun j hj => by rw [← f13, zcpy_in hj, zrd_nI hj (by decide)]
  refine vLm (W := fun a _ => a = R + 7) (M0 := M13) (fun a j (h : ¬ a = R + 7) => zcpy_ne h) (fun M14 f14 k14 => ?_)
  have k14 : ∀ a j, ¬ a = R + 7 → M14 a j = M13 a j := k14
  have e14 : ∀ j, j < 10 → M14 (R + 7) j = M13 (S + 7) j := fun j hj => by rw [← f14, zcpy_in hj, zrd_nI hj (by decide)]
  have z0 : ∀ a j, ¬ a = R → M7 a j = A a j := fun a j h => by rw [k7 a j (by omega), k6 a j (by omega), k5 a j (by omega), k4 a j (by omega), k3 a j (by omega), k2 a j (by omega), k1 a j (by omega)]
  have zz : ∀ a j, (a < R ∨ R + 8 ≤ a) → M14 a j = A a j := fun a j h => by rw [k14 a j (by omega), k13 a j (by omega), k12 a j (by omega), k11 a j (by omega), k10 a j (by omega), k9 a j (by omega), k8 a j (by omega), z0 a j (by omega)]
  refine ⟨M14, rfl, fun j hj => ?_, fun j hj => ?_, fun j hj => ?_, fun j hj => ?_, fun j hj => ?_, fun j hj => ?_, fun j hj => ?_, fun j hj => ?_, zz⟩
  · have h7 : M14 R j = M7 R j := by rw [k14 R j (by omega), k13 R j (by omega), k12 R j (by omega), k11 R j (by omega), k10 R j (by omega), k9 R j (by omega), k8 R j (by omega)]
    rw [h7]
    have hc : j = 0 ∨ j = 1 ∨ j = 2 ∨ j = 3 ∨ j = 4 ∨ j = 5 ∨ j = 6 := by omega
    rcases hc with rfl | rfl | rfl | rfl | rfl | rfl | rfl
    · rw [k7 R 0 (by omega), k6 R 0 (by omega), k5 R 0 (by omega), k4 R 0 (by omega), k3 R 0 (by omega), k2 R 0 (by omega), e1]
    · rw [k7 R 1 (by omega), k6 R 1 (by omega), k5 R 1 (by omega), k4 R 1 (by omega), k3 R 1 (by omega), e2, k1 S 1 (by omega)]
    · rw [k7 R 2 (by omega), k6 R 2 (by omega), k5 R 2 (by omega), k4 R 2 (by omega), e3, k2 S 2 (by omega), k1 S 2 (by omega)]
    · rw [k7 R 3 (by omega), k6 R 3 (by omega), k5 R 3 (by omega), e4, k3 S 3 (by omega), k2 S 3 (by omega), k1 S 3 (by omega)]
    · rw [k7 R 4 (by omega), k6 R 4 (by omega), e5, k4 S 4 (by omega), k3 S 4 (by omega), k2 S 4 (by omega), k1 S 4 (by omega)]
    · rw [k7 R 5 (by omega), e6, k5 S 5 (by omega), k4 S 5 (by omega), k3 S 5 (by omega), k2 S 5 (by omega), k1 S 5 (by omega)]
    · rw [e7, k6 S 6 (by omega), k5 S 6 (by omega), k4 S 6 (by omega), k3 S 6 (by omega), k2 S 6 (by omega), k1 S 6 (by omega)]
  · rw [k14 (R + 1) j (by omega), k13 (R + 1) j (by omega), k12 (R + 1) j (by omega), k11 (R + 1) j (by omega), k10 (R + 1) j (by omega), k9 (R + 1) j (by omega), e8 j hj, z0 (S + 1) j (by omega)]
  · rw [k14 (R + 2) j (by omega), k13 (R + 2) j (by omega), k12 (R + 2) j (by omega), k11 (R + 2) j (by omega), k10 (R + 2) j (by omega), e9 j hj, k8 (S + 2) j (by omega), z0 (S + 2) j (by omega)]
  · rw [k14 (R + 3) j (by omega), k13 (R + 3) j (by omega), k12 (R + 3) j (by omega), k11 (R + 3) j (by omega), e10 j hj, k9 (S + 3) j (by omega), k8 (S + 3) j (by omega), z0 (S + 3) j (by omega)]
  · rw [k14 (R + 4) j (by omega), k13 (R + 4) j (by omega), k12 (R + 4) j (by omega), e11 j hj, k10 (S + 4) j (by omega), k9 (S + 4) j (by omega), k8 (S + 4) j (by omega), z0 (S + 4) j (by omega)]
  · rw [k14 (R + 5) j (by omega), k13 (R + 5) j (by omega), e12 j hj, k11 (S + 5) j (by omega), k10 (S + 5) j (by omega), k9 (S + 5) j (by omega), k8 (S + 5) j (by omega), z0 (S + 5) j (by omega)]
  · rw [k14 (R + 6) j (by omega), e13 j hj, k12 (S + 6) j (by omega), k11 (S + 6) j (by omega), k10 (S + 6) j (by omega), k9 (S + 6) j (by omega), k8 (S + 6) j (by omega), z0 (S + 6) j (by omega)]
  · rw [e14 j hj, k13 (S + 7) j (by omega), k12 (S + 7) j (by omega), k11 (S + 7) j (by omega), k10 (S + 7) j (by omega), k9 (S + 7) j (by omega), k8 (S + 7) j (by omega), z0 (S + 7) j (by omega)]
/-- a list copied is that list -/
theorem gR.take {R S : Nat} {A : zMt} {r g : Nat → Int32} {U H G : Nat} (w : gR S A r g U H G) (hd : R + 8 ≤ S ∨ S + 8 ≤ R) : ∃ A', D_X4_take R S A = some A' ∧ gR R A' r g U H G ∧ (∀ i j, (i < R ∨ R + 8 ≤ i) → A' i j = A i j) := by
  obtain ⟨A', h, a0, a1, a2, a3, a4, a5, a6, a7, k⟩ := cc_take (R := R) (S := S) (A := A) hd
  exact ⟨A', h, w.k a0 a1 a2 a3 a4 a5 a6 a7 (fun _ _ => rfl) (fun _ _ => rfl), k⟩
/-- what has been read is a list -/
theorem gR.ofD {Q P : Nat} {A B B' : zMt} {r g : Nat → Int32} {U H G : Nat} (hC : dC Q P A B U H G) (hR : dR Q P A B U H G) (b : ∀ j, j < 82 → ¬ j = 70 → r j = B (P + 2) j) (b70 : r 70 = nI G) (hg : ∀ h, h < H → g h = B (P + 6) h) : gR (Q + 1) A r g U H G := by
  obtain ⟨c1, c2, c3, c4, c5, c6, c7, c8, c9⟩ := hC
  obtain ⟨r1, r2, r3, r4, r5, r6, r7, r8, r9, ⟨s1, s2, s3⟩, ⟨u1, u2, u3, u4, u5⟩⟩ := hR
  have ws : ∀ h base, h < 10 → base + 3 ≤ 62 → wsh A B Q P h base → wsR (Q + 1) A r h base := fun h base hh hb w => by
    obtain ⟨c, w1, w2, w3, w4⟩ := w
    refine ⟨c, w1, w2, fun k hk => ?_, fun k hk => ?_⟩
    · rw [b _ (by omega) (by omega)]; exact w3 k hk
    · rw [b _ (by omega) (by omega)]; exact w4 k hk
  refine ⟨⟨c1, c2, c3, c4, c6, c8, b70⟩, fun u hu => ?_, fun h hh => ?_, fun h hh => ?_, fun h hh => ?_, fun h hh he => ws h _ (by omega) (by omega) (r5 h (by omega) he), fun h p hh hp he => ws h _ (by omega) (by omega) (r6 h p (by omega) hp he), r9, ⟨?_, ?_, ?_, ?_⟩, fun h hh => ?_, u4, u5⟩
  · rw [b _ (by omega) (by omega)]; exact r1 u hu
  · rw [b _ (by omega) (by omega)]; exact r2 h hh
  · obtain ⟨q1, q2⟩ := r3 h hh
    rw [hg h hh]
    exact ⟨q1, q1 ▸ q2⟩
  · rw [b _ (by omega) (by omega)]; exact r4 h hh
  · rw [b 67 (by omega) (by omega)]; exact s1
  · rw [b 68 (by omega) (by omega)]; exact s2
  · rw [b 69 (by omega) (by omega)]; exact s3
  · rw [b 71 (by omega) (by omega), u2]; exact u1
  · rw [b _ (by omega) (by omega), (u3 h hh).2]; exact (u3 h hh).1
/-! WHAT STOOD: the class keeps registers in a ring, the reference rows one behind the other -/
def ent (Q nw K k : Nat) : Nat := Q + 2 + 8 * ((nw + 9 + k - K) % 8)
def pst (Q P : Nat) (A B : zMt) (g : Nat → Int32) (U H K : Nat) : Prop :=
  K ≤ 8 ∧ A Q 0 = nI K ∧ B P 9 = nI K ∧ ∃ nw, nw < 8 ∧ A Q 1 = nI nw ∧ ∀ k, k < K → ∃ G, gR (ent Q nw K k) A (fun j => B (P + 4) (82 * k + j)) g U H G
theorem nI_addk {x y : Nat} (h : x + y < 2147483648) : nI x + nI y = nI (x + y) := by
  apply Int32.toInt_inj.mp
  have e1 : (nI x).toInt = (x : Nat) := nI_toInt (by omega)
  have e2 : (nI y).toInt = (y : Nat) := nI_toInt (by omega)
  have e3 : (nI (x + y)).toInt = (x + y : Nat) := nI_toInt (by omega)
  rw [z_add (by rw [e1, e2]; omega) (by rw [e1, e2]; omega), e1, e2, e3]
  omega
theorem nI_subn {x y : Nat} (h : y ≤ x) (hx : x < 2147483648) : nI x - nI y = nI (x - y) := by
  apply Int32.toInt_inj.mp
  have e1 : (nI x).toInt = (x : Nat) := nI_toInt (by omega)
  have e2 : (nI y).toInt = (y : Nat) := nI_toInt (by omega)
  have e3 : (nI (x - y)).toInt = (x - y : Nat) := nI_toInt (by omega)
  rw [z_sub (by rw [e1, e2]; omega) (by rw [e1, e2]; omega), e1, e2, e3]
  omega
theorem nI_m82 : ∀ K, K < 8 → (82 : Int32) * nI K = nI (82 * K) := by decide
/-- the reference drops the oldest row -/
theorem mm_drop {P : Nat} : ∀ (u k : Nat) (B : zMt), B P 9 = nI 8 → 82 ≤ k → k ≤ 656 → 656 - k < u → ∃ B', D_X8_keeps_12 P u (nI k) B = D_X8_keeps_50 P B' ∧ B' P 9 = nI 7 ∧ (∀ j, k ≤ j → j < 656 → B' (P + 4) (j - 82) = B (P + 4) j) ∧ (∀ i j, ¬ (i = P ∧ j = 9) → ¬ (i = P + 4 ∧ k - 82 ≤ j ∧ j < 574) → B' i j = B i j) := by
  intro u
  induction u with
  | zero => intro k B _ _ _ h; omega
  | succ u ih =>
    intro k B h9 h1 h2 hu
    rw [D_X8_keeps_12]
    by_cases hc : 656 ≤ k
    · rw [if_pos (by exact (leL (x := 656) (a := 656) (by decide) (by decide) (by omega)).mpr hc), zLt_eq]
      have e : B P 9 - (1 : Int32) = nI 7 := by rw [h9]; decide
      rw [e]
      exact ⟨_, rfl, zu_eq, fun j h3 h4 => by omega, fun i j h3 h4 => zu_ne h3⟩
    · rw [if_neg (by intro z; exact hc ((leL (x := 656) (a := 656) (by decide) (by decide) (by omega)).mp z))]
      have e82 : nI k - (82 : Int32) = nI (k - 82) := by
        rw [show (82 : Int32) = nI 82 by decide]
        exact nI_subn h1 (by omega)
      rw [e82]
      unfold zI
      rw [if_neg (vp_in_nI (by omega) (by decide)), if_neg (vp_in_nI (by omega) (by decide)), nI_clamp (by omega), nI_clamp (by omega), zLt_eq, nI_add1]
      obtain ⟨B', e1, e2, e3, e4⟩ := ih (k + 1) (zu B (P + 4) (k - 82) (B (P + 4) k)) ((zu_ne (by omega)).trans h9) (by omega) (by omega) (by omega)
      refine ⟨B', e1, e2, fun j h3 h4 => ?_, fun i j h3 h4 => (e4 i j h3 (by omega)).trans (zu_ne (by omega))⟩
      by_cases q : j = k
      · subst q
        rw [e4 (P + 4) (j - 82) (by omega) (by omega), zu_eq]
      · rw [e3 j (by omega) h4, zu_ne (by omega)]
/-- the reference writes its row down -/
theorem mm_copy {P K : Nat} (hK : K < 8) : ∀ (u k : Nat) (B : zMt), B P 9 = nI K → k ≤ 82 → 82 - k < u → ∃ B', D_X8_keeps_52 P u (nI k) B = some B' ∧ B' P 9 = nI (K + 1) ∧ (∀ j, k ≤ j → j < 82 → B' (P + 4) (82 * K + j) = B (P + 1) j) ∧ (∀ i j, ¬ (i = P ∧ j = 9) → ¬ (i = P + 4 ∧ 82 * K + k ≤ j ∧ j < 82 * K + 82) → B' i j = B i j) := by
  intro u
  induction u with
  | zero => intro k B _ _ h; omega
  | succ u ih =>
    intro k B h9 hk hu
    rw [D_X8_keeps_52, h9]
    by_cases hc : 82 ≤ k
    · rw [if_pos (by exact (leL (x := 82) (a := 82) (by decide) (by decide) (by omega)).mpr hc), zLt_eq, nI_add1]
      exact ⟨_, rfl, zu_eq, fun j h3 h4 => by omega, fun i j h3 h4 => zu_ne h3⟩
    · rw [if_neg (by intro z; exact hc ((leL (x := 82) (a := 82) (by decide) (by decide) (by omega)).mp z)), nI_m82 K hK, nI_addk (by omega)]
      unfold zI
      rw [if_neg (vp_in_nI (by omega) (by decide)), if_neg (vp_in_nI (by omega) (by decide)), nI_clamp (by omega), nI_clamp (by omega), zLt_eq, nI_add1]
      obtain ⟨B', e1, e2, e3, e4⟩ := ih (k + 1) (zu B (P + 4) (82 * K + k) (B (P + 1) k)) ((zu_ne (by omega)).trans h9) (by omega) (by omega)
      refine ⟨B', e1, e2, fun j h3 h4 => ?_, fun i j h3 h4 => (e4 i j h3 (by omega)).trans (zu_ne (by omega))⟩
      by_cases q : j = k
      · subst q
        rw [e4 (P + 4) (82 * K + j) (by omega) (by omega), zu_eq]
      · rw [e3 j (by omega) h4, zu_ne (by omega)]
/-- both keep what stands -/
theorem t_keep {C P : Nat} {A B : zMt} {g : Nat → Int32} {U H G K : Nat} (hL : gR (C + 17) A (B (P + 1)) g U H G) (hP : pst (C + 25) P A B g U H K) : ∃ A', D_X1_keep (C + 25) (C + 17) A = some A' ∧ ∃ B', D_X8_keeps P B = some B' ∧ ∃ K', pst (C + 25) P A' B' g U H K' ∧ (∀ i j, (i < C + 25 ∨ C + 91 ≤ i) → A' i j = A i j) ∧ (∀ i j, ¬ (i = P ∧ j = 9) → ¬ i = P + 4 → B' i j = B i j) := by
  obtain ⟨hK, a0, b9, nw, hn, a1, he⟩ := hP
  -- the class
  have cls : ∃ A', D_X1_keep (C + 25) (C + 17) A = some A' ∧ A' (C + 25) 0 = nI (if K = 8 then 8 else K + 1) ∧ A' (C + 25) 1 = nI ((nw + 1) % 8) ∧ gR (C + 25 + 2 + 8 * ((nw + 1) % 8)) A' (B (P + 1)) g U H G ∧ (∀ i j, ¬ (i = C + 25 ∧ (j = 0 ∨ j = 1)) → (i < C + 25 + 2 + 8 * ((nw + 1) % 8) ∨ C + 25 + 2 + 8 * ((nw + 1) % 8) + 8 ≤ i) → A' i j = A i j) := by
    have go : ∀ y : Nat, y = (nw + 1) % 8 → ∃ A', D_X1_keep_22 (C + 25) (C + 17) (nI y) A = some A' ∧ A' (C + 25) 0 = nI (if K = 8 then 8 else K + 1) ∧ A' (C + 25) 1 = nI y ∧ gR (C + 25 + 2 + 8 * y) A' (B (P + 1)) g U H G ∧ (∀ i j, ¬ (i = C + 25 ∧ (j = 0 ∨ j = 1)) → (i < C + 25 + 2 + 8 * y ∨ C + 25 + 2 + 8 * y + 8 ≤ i) → A' i j = A i j) := fun y hy => by
      have hy8 : y < 8 := by omega
      unfold D_X1_keep_22
      rw [zLt_eq]
      unfold zI
      rw [if_neg (vp_in_nI hy8 (by decide)), nI_clamp (by omega)]
      have k1 : ∀ i j, ¬ (i = C + 25 ∧ j = 1) → zu A (C + 25) 1 (nI y) i j = A i j := fun i j h => zu_ne h
      obtain ⟨A2, e2, g2, k2⟩ := (hL.m (A' := zu A (C + 25) 1 (nI y)) (fun i j h1 h2 => k1 i j (by omega)) (fun _ _ => rfl) (fun _ _ => rfl)).take (R := C + 25 + 2 + 8 * y) (by omega)
      rw [zB_s e2, zLt_eq]
      have e0 : A2 (C + 25) 0 = nI K := (k2 (C + 25) 0 (by omega)).trans ((k1 (C + 25) 0 (by omega)).trans a0)
      have e00 : (if (8 : Int32) < A2 (C + 25) 0 + 1 then (8 : Int32) else A2 (C + 25) 0 + 1) = nI (if K = 8 then 8 else K + 1) := by
        rw [e0, nI_add1]
        by_cases q : K = 8
        · rw [if_pos q, q]; decide
        · rw [if_neg q, if_neg (by intro z; exact absurd ((ltL (x := 8) (a := 8) (by decide) (by decide) (by omega)).mp z) (by omega))]
      rw [e00]
      refine ⟨_, rfl, zu_eq, ?_, g2.m (fun i j h1 h2 => zu_ne (by omega)) (fun _ _ => rfl) (fun _ _ => rfl), fun i j h1 h2 => (zu_ne (by omega)).trans ((k2 i j h2).trans (k1 i j (by omega)))⟩
      exact (zu_ne (by omega)).trans ((k2 (C + 25) 1 (by omega)).trans zu_eq)
    unfold D_X1_keep
    rw [a1, nI_add1]
    by_cases q : 8 ≤ nw + 1
    · rw [if_pos (by exact (leL (x := 8) (a := 8) (by decide) (by decide) (by omega)).mpr q)]
      have e : (nw + 1) % 8 = 0 := by omega
      rw [e]
      have t := go 0 (by omega)
      rw [show nI 0 = (0 : Int32) by decide] at t ⊢
      exact t
    · rw [if_neg (by intro z; exact q ((leL (x := 8) (a := 8) (by decide) (by decide) (by omega)).mp z))]
      have e : (nw + 1) % 8 = nw + 1 := by omega
      rw [e]
      exact go (nw + 1) (by omega)
  obtain ⟨A', ea, ea0, ea1, eg, ek⟩ := cls
  refine ⟨A', ea, ?_⟩
  by_cases q : K = 8
  · subst q
    obtain ⟨B1, d1, d2, d3, d4⟩ := mm_drop (P := P) zFu 82 B b9 (by omega) (by omega) (by unfold zFu; omega)
    obtain ⟨B2, f1, f2, f3, f4⟩ := mm_copy (P := P) (K := 7) (by omega) zFu 0 B1 d2 (by omega) (by unfold zFu; omega)
    rw [show nI 0 = (0 : Int32) by decide] at f1
    rw [show nI 82 = (82 : Int32) by decide] at d1
    have ek8 : D_X8_keeps P B = some B2 := by
      unfold D_X8_keeps
      rw [if_pos (by rw [b9]; decide), d1]
      exact f1
    refine ⟨B2, ek8, 8, ⟨by omega, by rw [ea0, if_pos rfl], f2, (nw + 1) % 8, by omega, ea1, fun k hk => ?_⟩, fun i j h => ek i j (by omega) (by omega), fun i j h1 h2 => (f4 i j h1 (fun z => h2 z.1)).trans (d4 i j h1 (fun z => h2 z.1))⟩
    by_cases z : k = 7
    · subst z
      refine ⟨G, ?_⟩
      have ee : ent (C + 25) ((nw + 1) % 8) 8 7 = C + 25 + 2 + 8 * ((nw + 1) % 8) := by unfold ent; omega
      rw [ee]
      refine eg.m (fun _ _ _ _ => rfl) (fun j hj => ?_) (fun _ _ => rfl)
      exact (f3 j (Nat.zero_le j) hj).trans (d4 (P + 1) j (by omega) (by omega))
    · obtain ⟨G', hg'⟩ := he (k + 1) (by omega)
      refine ⟨G', ?_⟩
      have ee : ent (C + 25) ((nw + 1) % 8) 8 k = ent (C + 25) nw 8 (k + 1) := by unfold ent; omega
      have hpos : ent (C + 25) nw 8 (k + 1) + 8 ≤ C + 25 + 2 + 8 * ((nw + 1) % 8) ∨ C + 25 + 2 + 8 * ((nw + 1) % 8) + 8 ≤ ent (C + 25) nw 8 (k + 1) := by unfold ent; omega
      have hge : C + 27 ≤ ent (C + 25) nw 8 (k + 1) := by unfold ent; omega
      rw [ee]
      refine hg'.m (fun i j h1 h2 => ek i j (by omega) (by omega)) (fun j hj => ?_) (fun _ _ => rfl)
      show B2 (P + 4) (82 * k + j) = B (P + 4) (82 * (k + 1) + j)
      rw [f4 (P + 4) (82 * k + j) (by omega) (by omega)]
      have := d3 (82 * (k + 1) + j) (by omega) (by omega)
      rw [show 82 * (k + 1) + j - 82 = 82 * k + j by omega] at this
      exact this
  · obtain ⟨B2, f1, f2, f3, f4⟩ := mm_copy (P := P) (K := K) (by omega) zFu 0 B b9 (by omega) (by unfold zFu; omega)
    rw [show nI 0 = (0 : Int32) by decide] at f1
    have ek8 : D_X8_keeps P B = some B2 := by
      unfold D_X8_keeps
      rw [if_neg (by rw [b9]; intro z; exact q (nI_inj (b := 8) (by omega) (by omega) z))]
      exact f1
    refine ⟨B2, ek8, K + 1, ⟨by omega, by rw [ea0, if_neg q], f2, (nw + 1) % 8, by omega, ea1, fun k hk => ?_⟩, fun i j h => ek i j (by omega) (by omega), fun i j h1 h2 => f4 i j h1 (fun z => h2 z.1)⟩
    by_cases z : k = K
    · subst z
      refine ⟨G, ?_⟩
      have ee : ent (C + 25) ((nw + 1) % 8) (k + 1) k = C + 25 + 2 + 8 * ((nw + 1) % 8) := by unfold ent; omega
      rw [ee]
      exact eg.m (fun _ _ _ _ => rfl) (fun j hj => f3 j (Nat.zero_le j) hj) (fun _ _ => rfl)
    · obtain ⟨G', hg'⟩ := he k (by omega)
      refine ⟨G', ?_⟩
      have ee : ent (C + 25) ((nw + 1) % 8) (K + 1) k = ent (C + 25) nw K k := by unfold ent; omega
      have hpos : ent (C + 25) nw K k + 8 ≤ C + 25 + 2 + 8 * ((nw + 1) % 8) ∨ C + 25 + 2 + 8 * ((nw + 1) % 8) + 8 ≤ ent (C + 25) nw K k := by unfold ent; omega
      have hge : C + 27 ≤ ent (C + 25) nw K k := by unfold ent; omega
      rw [ee]
      exact hg'.m (fun i j h1 h2 => ek i j (by omega) (by omega)) (fun j hj => f4 (P + 4) (82 * k + j) (by omega) (by omega)) (fun _ _ => rfl)
/-- the reference takes a row back -/
theorem mm_back {P K : Nat} (hK : K < 8) : ∀ (u k : Nat) (B : zMt), B P 9 = nI K → k ≤ 82 → 82 - k < u → ∃ B', D_X8_undo_25 P u (nI k) B = some (nI K, B') ∧ (∀ j, k ≤ j → j < 82 → B' (P + 1) j = B (P + 4) (82 * K + j)) ∧ (∀ i j, ¬ (i = P ∧ (j = 6 ∨ j = 12)) → ¬ (i = P + 1 ∧ k ≤ j ∧ j < 82) → B' i j = B i j) := by
  intro u
  induction u with
  | zero => intro k B _ _ h; omega
  | succ u ih =>
    intro k B h9 hk hu
    rw [D_X8_undo_25, h9]
    by_cases hc : 82 ≤ k
    · rw [if_pos (by exact (leL (x := 82) (a := 82) (by decide) (by decide) (by omega)).mpr hc)]
      have eg : D_X8_gives P (nI K) B = some (nI K, zu (zu B P 6 (0 : Int32)) P 12 (0 : Int32)) := rfl
      rw [zB_s eg]
      exact ⟨_, rfl, fun j h3 h4 => by omega, fun i j h3 h4 => (zu_ne (by omega)).trans (zu_ne (by omega))⟩
    · rw [if_neg (by intro z; exact hc ((leL (x := 82) (a := 82) (by decide) (by decide) (by omega)).mp z)), nI_m82 K hK, nI_addk (by omega)]
      unfold zI
      rw [if_neg (vp_in_nI (by omega) (by decide)), if_neg (vp_in_nI (by omega) (by decide)), nI_clamp (by omega), nI_clamp (by omega), zLt_eq, nI_add1]
      obtain ⟨B', e1, e3, e4⟩ := ih (k + 1) (zu B (P + 1) k (B (P + 4) (82 * K + k))) ((zu_ne (by omega)).trans h9) (by omega) (by omega)
      refine ⟨B', e1, fun j h3 h4 => ?_, fun i j h3 h4 => (e4 i j h3 (by omega)).trans (zu_ne (by omega))⟩
      by_cases q : j = k
      · subst q
        rw [e4 (P + 1) j (by omega) (by omega), zu_eq]
      · rw [e3 j (by omega) h4, zu_ne (by omega)]
/-- both take back what stood, if something did -/
theorem t_back {C P : Nat} {A B : zMt} {g : Nat → Int32} {U H K : Nat} (hP : pst (C + 25) P A B g U H K) : ∃ a, D_X1_giveBack (C + 25) (C + 17) A = some a ∧ ((K = 0 ∧ a.1 = 0 ∧ a.2 = A ∧ B P 9 = 0) ∨ (0 < K ∧ a.1 = 1 ∧ a.2 (C + 25) 0 = nI (K - 1) ∧ (∀ i j, (i < C + 17 ∨ (C + 25 < i)) → a.2 i j = A i j) ∧ ∃ B', D_X8_undo P B = some (nI (K - 1), B') ∧ (∃ G, gR (C + 17) a.2 (B' (P + 1)) g U H G) ∧ pst (C + 25) P a.2 B' g U H (K - 1) ∧ (∀ i j, ¬ (i = P ∧ (j = 6 ∨ j = 9 ∨ j = 12)) → ¬ (i = P + 1 ∧ j < 82) → B' i j = B i j))) := by
  obtain ⟨hK, a0, b9, nw, hn, a1, he⟩ := hP
  unfold D_X1_giveBack
  rw [a1, a0]
  unfold zI
  rw [if_neg (vp_in_nI hn (by decide)), nI_clamp (by omega)]
  by_cases q : K = 0
  · subst q
    rw [if_pos (by decide)]
    exact ⟨_, rfl, Or.inl ⟨rfl, rfl, rfl, b9.trans (by decide)⟩⟩
  · rw [if_neg (by intro z; exact q (nI_inj (b := 0) (by omega) (by omega) z))]
    obtain ⟨G', hg'⟩ := he (K - 1) (by omega)
    have ee : ent (C + 25) nw K (K - 1) = C + 25 + 2 + 8 * nw := by unfold ent; omega
    rw [ee] at hg'
    obtain ⟨A1, e1, g1, k1⟩ := hg'.take (R := C + 17) (by omega)
    rw [zB_s e1, zLt_eq]
    have e0 : A1 (C + 25) 0 = nI K := (k1 (C + 25) 0 (by omega)).trans a0
    have e00 : A1 (C + 25) 0 - 1 = nI (K - 1) := by
      rw [e0, show (1 : Int32) = nI 1 by decide]
      exact nI_subn (by omega) (by omega)
    rw [e00]
    have e11 : zu A1 (C + 25) 0 (nI (K - 1)) (C + 25) 1 = nI nw := (zu_ne (by omega)).trans ((k1 (C + 25) 1 (by omega)).trans a1)
    rw [e11]
    -- the reference
    obtain ⟨B', m1, m2, m3⟩ := mm_back (P := P) (K := K - 1) (by omega) zFu 0 (zu B P 9 (nI (K - 1))) zu_eq (by omega) (by unfold zFu; omega)
    rw [show nI 0 = (0 : Int32) by decide] at m1
    have eu : D_X8_undo P B = some (nI (K - 1), B') := by
      unfold D_X8_undo
      rw [if_neg (by rw [b9]; intro z; exact q (nI_inj (b := 0) (by omega) (by omega) z)), zLt_eq, b9]
      have e9 : nI K - (1 : Int32) = nI (K - 1) := by
        rw [show (1 : Int32) = nI 1 by decide]
        exact nI_subn (by omega) (by omega)
      rw [e9]
      exact m1
    have kB : ∀ i j, ¬ (i = P ∧ (j = 6 ∨ j = 9 ∨ j = 12)) → ¬ (i = P + 1 ∧ j < 82) → B' i j = B i j := fun i j h1 h2 => (m3 i j (by omega) (by omega)).trans (zu_ne (by omega))
    have fin : ∀ y : Nat, y = (nw + 7) % 8 → ∃ a, D_X1_giveBack_52 (C + 25) (C + 17) (nI y) (zu A1 (C + 25) 0 (nI (K - 1))) = some a ∧ ((K = 0 ∧ a.1 = 0 ∧ a.2 = A ∧ B P 9 = 0) ∨ (0 < K ∧ a.1 = 1 ∧ a.2 (C + 25) 0 = nI (K - 1) ∧ (∀ i j, (i < C + 17 ∨ (C + 25 < i)) → a.2 i j = A i j) ∧ ∃ B', D_X8_undo P B = some (nI (K - 1), B') ∧ (∃ G, gR (C + 17) a.2 (B' (P + 1)) g U H G) ∧ pst (C + 25) P a.2 B' g U H (K - 1) ∧ (∀ i j, ¬ (i = P ∧ (j = 6 ∨ j = 9 ∨ j = 12)) → ¬ (i = P + 1 ∧ j < 82) → B' i j = B i j))) := fun y hy => by
      unfold D_X1_giveBack_52
      rw [zLt_eq]
      have kf : ∀ i j, ¬ (i = C + 25 ∧ (j = 0 ∨ j = 1)) → zu (zu A1 (C + 25) 0 (nI (K - 1))) (C + 25) 1 (nI y) i j = A1 i j := fun i j h => (zu_ne (by omega)).trans (zu_ne (by omega))
      refine ⟨_, rfl, Or.inr ⟨by omega, rfl, (zu_ne (by omega)).trans zu_eq, fun i j h => (kf i j (by omega)).trans (k1 i j (by omega)), B', eu, ⟨G', ?_⟩, ⟨by omega, (zu_ne (by omega)).trans zu_eq, (m3 P 9 (by omega) (by omega)).trans zu_eq, y, by omega, zu_eq, fun k hk => ?_⟩, kB⟩⟩
      · exact g1.m (fun i j h1 h2 => kf i j (by omega)) (fun j hj => (m2 j (Nat.zero_le j) hj).trans (zu_ne (by omega))) (fun _ _ => rfl)
      · obtain ⟨G2, hg2⟩ := he k (by omega)
        refine ⟨G2, ?_⟩
        have e2 : ent (C + 25) y (K - 1) k = ent (C + 25) nw K k := by unfold ent; omega
        have hge : C + 27 ≤ ent (C + 25) nw K k := by unfold ent; omega
        rw [e2]
        exact hg2.m (fun i j h1 h2 => (kf i j (by omega)).trans (k1 i j (by omega))) (fun j hj => (m3 (P + 4) (82 * k + j) (by omega) (by omega)).trans (zu_ne (by omega))) (fun _ _ => rfl)
    by_cases q2 : nw ≤ 0
    · rw [if_pos (by exact (leR (x := 0) (b := 0) (by decide) (by decide) (by omega)).mpr q2)]
      have t := fin 7 (by omega)
      rw [show nI 7 = (7 : Int32) by decide] at t
      exact t
    · rw [if_neg (by intro z; exact q2 ((leR (x := 0) (b := 0) (by decide) (by decide) (by omega)).mp z))]
      have e3 : nI nw - (1 : Int32) = nI (nw - 1) := by
        rw [show (1 : Int32) = nI 1 by decide]
        exact nI_subn (by omega) (by omega)
      rw [e3]
      exact fin (nw - 1) (by omega)
/-! THE APPLICANTS, told out of the row: the free hunters in their order, then the parties -/
abbrev memb (r : Nat → Int32) (H a h : Nat) : Prop := h < H ∧ ((r (10 + h) = -1 ∧ fr r h = a) ∨ (fr r H ≤ a ∧ r (10 + h) = nI (a - fr r H)))
theorem fr_mono (r : Nat → Int32) : ∀ n k, fr r n ≤ fr r (n + k)
  | _, 0 => Nat.le_refl _
  | n, k + 1 => by
    have := fr_mono r n k
    show fr r n ≤ fr r (n + k) + _
    omega
theorem fr_lt {r : Nat → Int32} {h n : Nat} (hh : h < n) (e : r (10 + h) = -1) : fr r h < fr r n := by
  have h1 : fr r (h + 1) = fr r h + 1 := by
    show fr r h + (if r (10 + h) = -1 then 1 else 0) = _
    rw [if_pos e]
  have h2 := fr_mono r (h + 1) (n - (h + 1))
  rw [show h + 1 + (n - (h + 1)) = n by omega, h1] at h2
  omega
theorem fr_inj {r : Nat → Int32} {h h' : Nat} (e : r (10 + h) = -1) (e' : r (10 + h') = -1) (q : fr r h = fr r h') : h = h' := by
  by_cases z : h < h'
  · have := fr_lt z e; omega
  · by_cases z2 : h' < h
    · have := fr_lt z2 e'; omega
    · omega
/-- who stands in a free hunter's application: that hunter alone -/
theorem memb_free {r : Nat → Int32} {H h h' : Nat} (hh : h < H) (e : r (10 + h) = -1) : memb r H (fr r h) h' ↔ h' = h := by
  have hlt := fr_lt hh e
  constructor
  · rintro ⟨h1, ⟨h2, h3⟩ | ⟨h2, h3⟩⟩
    · exact fr_inj h2 e h3
    · omega
  · intro q
    subst q
    exact ⟨hh, Or.inl ⟨e, rfl⟩⟩
theorem memb_party {r : Nat → Int32} {H p h : Nat} (hp : p < 4) (hh : h < H) : memb r H (fr r H + p) h ↔ r (10 + h) = nI p := by
  constructor
  · rintro ⟨h1, ⟨h2, h3⟩ | ⟨h2, h3⟩⟩
    · have := fr_lt hh h2; omega
    · rw [Nat.add_sub_cancel_left] at h3; exact h3
  · intro q
    exact ⟨hh, Or.inr ⟨by omega, by rw [Nat.add_sub_cancel_left]; exact q⟩⟩
/-- its bits, as far as the hunter n -/
def bv (r : Nat → Int32) (H a : Nat) : Nat → Int32
  | 0 => 0
  | h + 1 => if memb r H a h then bv r H a h ||| ((1 : Int32) <<< (nI h &&& 31)) else bv r H a h
/-- a sum over its hunters -/
def sm (f : Nat → Int32) (r : Nat → Int32) (H a : Nat) : Nat → Int32
  | 0 => 0
  | h + 1 => if memb r H a h then sm f r H a h + f h else sm f r H a h
theorem bv_bit {r : Nat → Int32} {H a : Nat} : ∀ n, n ≤ 10 → ∀ h, h < 10 → (bitAt (bv r H a n) h ↔ h < n ∧ memb r H a h)
  | 0, _, h, _ => ⟨fun z => absurd z bitAt_0, fun z => absurd z.1 (Nat.not_lt_zero h)⟩
  | n + 1, hn, h, hh => by
    have ih := bv_bit (r := r) (H := H) (a := a) n (by omega) h hh
    show bitAt (if memb r H a n then bv r H a n ||| ((1 : Int32) <<< (nI n &&& 31)) else bv r H a n) h ↔ _
    by_cases q : memb r H a n
    · rw [if_pos q, bitK_or (by omega) hh, ih]
      constructor
      · rintro (⟨z1, z2⟩ | z)
        · exact ⟨by omega, z2⟩
        · subst z; exact ⟨by omega, q⟩
      · rintro ⟨z1, z2⟩
        by_cases y : n = h
        · exact Or.inr y
        · exact Or.inl ⟨by omega, z2⟩
    · rw [if_neg q, ih]
      constructor
      · rintro ⟨z1, z2⟩; exact ⟨by omega, z2⟩
      · rintro ⟨z1, z2⟩
        have : h ≠ n := fun y => q (y ▸ z2)
        exact ⟨by omega, z2⟩
theorem or_0k : ∀ h, h < 10 → (0 : Int32) ||| ((1 : Int32) <<< (nI h &&& 31)) = (1 : Int32) <<< (nI h &&& 31) := by decide
theorem bv_free {r : Nat → Int32} {H h : Nat} (hH : H ≤ 10) (hh : h < H) (e : r (10 + h) = -1) : ∀ n, n ≤ H → bv r H (fr r h) n = if h < n then (1 : Int32) <<< (nI h &&& 31) else 0
  | 0, _ => by rw [if_neg (by omega)]; rfl
  | n + 1, hn => by
    have ih := bv_free hH hh e n (by omega)
    show (if memb r H (fr r h) n then bv r H (fr r h) n ||| ((1 : Int32) <<< (nI n &&& 31)) else bv r H (fr r h) n) = _
    by_cases q : n = h
    · subst q
      rw [if_pos ((memb_free hh e).mpr rfl), ih, if_neg (by omega), if_pos (by omega)]
      exact or_0k n (by omega)
    · rw [if_neg (fun z => q ((memb_free hh e).mp z)), ih]
      by_cases z : h < n
      · rw [if_pos z, if_pos (by omega)]
      · rw [if_neg z, if_neg (by omega)]
theorem sm_free {f r : Nat → Int32} {H h : Nat} (hh : h < H) (e : r (10 + h) = -1) : ∀ n, n ≤ H → sm f r H (fr r h) n = if h < n then f h else 0
  | 0, _ => by rw [if_neg (by omega)]; rfl
  | n + 1, hn => by
    have ih := sm_free (f := f) hh e n (by omega)
    show (if memb r H (fr r h) n then sm f r H (fr r h) n + f n else sm f r H (fr r h) n) = _
    by_cases q : n = h
    · subst q
      rw [if_pos ((memb_free hh e).mpr rfl), ih, if_neg (by omega), if_pos (by omega), Int32.zero_add]
    · rw [if_neg (fun z => q ((memb_free hh e).mp z)), ih]
      by_cases z : h < n
      · rw [if_pos z, if_pos (by omega)]
      · rw [if_neg z, if_neg (by omega)]
/-- bits that don't meet: to add them is to join them -/
theorem or_add : ∀ k, k < 10 → ∀ v, v < 2 ^ k → nI v + ((1 : Int32) <<< (nI k &&& 31)) = nI v ||| ((1 : Int32) <<< (nI k &&& 31)) ∧ nI v ||| ((1 : Int32) <<< (nI k &&& 31)) = nI (v + 2 ^ k) := by decide +kernel
theorem bv_nI {r : Nat → Int32} {H a : Nat} : ∀ n, n ≤ 10 → ∃ v, v < 2 ^ n ∧ bv r H a n = nI v
  | 0, _ => ⟨0, by decide, show (0 : Int32) = nI 0 by decide⟩
  | n + 1, hn => by
    obtain ⟨v, h1, h2⟩ := bv_nI (r := r) (H := H) (a := a) n (by omega)
    have hp : 2 ^ (n + 1) = 2 ^ n * 2 := Nat.pow_succ 2 n
    show ∃ v, v < 2 ^ (n + 1) ∧ (if memb r H a n then bv r H a n ||| ((1 : Int32) <<< (nI n &&& 31)) else bv r H a n) = nI v
    by_cases q : memb r H a n
    · rw [if_pos q, h2, (or_add n (by omega) v h1).2]
      exact ⟨v + 2 ^ n, by omega, rfl⟩
    · rw [if_neg q]
      exact ⟨v, by omega, h2⟩
theorem bv_add {r : Nat → Int32} {H a n : Nat} (hn : n < 10) : bv r H a n + ((1 : Int32) <<< (nI n &&& 31)) = bv r H a n ||| ((1 : Int32) <<< (nI n &&& 31)) := by
  obtain ⟨v, h1, h2⟩ := bv_nI (r := r) (H := H) (a := a) n (by omega)
  rw [h2]
  exact (or_add n hn v h1).1
def sN (r : Nat → Int32) (H a : Nat) : Int32 := sm (fun _ => 1) r H a H
def sG (g r : Nat → Int32) (H a : Nat) : Int32 := sm g r H a H
def sP (r : Nat → Int32) (H a : Nat) : Int32 := sm r r H a H / sN r H a
def sT (r : Nat → Int32) (H a : Nat) : Int32 := if r 67 = 0 then 1 else if r 67 = 1 then 1 + sP r H a else 1 + sP r H a * sP r H a
/-- where its choices stand -/
abbrev isBase (r : Nat → Int32) (H a base : Nat) : Prop := (∃ h, h < H ∧ r (10 + h) = -1 ∧ fr r h = a ∧ base = 20 + 3 * h) ∨ (fr r H ≤ a ∧ base = 50 + 3 * (a - fr r H))
/-- what the reference has laid -/
def mL (P : Nat) (B : zMt) (r g : Nat → Int32) (H G : Nat) : Prop :=
  B P 33 = nI (fr r H + G) ∧ ∀ a, a < fr r H + G → B (P + 11) a = bv r H a H ∧ B (P + 12) a = (if a < fr r H then -1 else nI (a - fr r H)) ∧ (∃ base, isBase r H a base ∧ base < 62 ∧ B (P + 13) a = nI base) ∧ B (P + 14) a = sN r H a ∧ B (P + 15) a = sG g r H a ∧ B (P + 16) a = sP r H a ∧ B (P + 17) a = sT r H a
/-- what the class has gathered -/
def wsC (Q : Nat) (A : zMt) (r : Nat → Int32) (a base : Nat) : Prop := ∃ c, c ≤ 3 ∧ A (Q + 11) a = nI c ∧ (∀ k, k < 3 → A (Q + 12) (3 * a + k) = r (base + k)) ∧ (∀ k, k < 3 → (k < c ↔ ¬ r (base + k) = -1))
def sTs (r : Nat → Int32) (H : Nat) : Nat → Int32
  | 0 => 0
  | a + 1 => sTs r H a + sT r H a
def cL (Q : Nat) (A : zMt) (r g : Nat → Int32) (H G : Nat) : Prop :=
  A Q 1 = nI (fr r H + G) ∧ A Q 2 = sTs r H (fr r H + G) ∧ ∀ a, a < fr r H + G → A (Q + 9) a = bv r H a H ∧ A (Q + 10) a = (if a < fr r H then -1 else nI (a - fr r H)) ∧ (∀ base, isBase r H a base → wsC Q A r a base) ∧ A (Q + 5) a = sN r H a ∧ A (Q + 6) a = sG g r H a ∧ A (Q + 7) a = sP r H a ∧ A (Q + 8) a = sT r H a ∧ (∀ h, memb r H a h → A (Q + 4) h = nI a)
def cU (Q : Nat) (A : zMt) (r : Nat → Int32) (U : Nat) : Prop :=
  A Q 0 = nI U ∧ (∀ u, u < U → A (Q + 1) u = r (62 + u) ∧ A (Q + 2) u = r (62 + u) * r 68 / 100 ∧ A (Q + 3) u = r (62 + u) * r 69 / 100) ∧ ((A Q 3 = 0 ∧ ∀ u, u < U → A (Q + 2) u ≤ 0) ∨ (A Q 3 = 1 ∧ ∃ u, u < U ∧ ¬ A (Q + 2) u ≤ 0))
/-! the reference lays the applicants -/
def cnt (r : Nat → Int32) (H a : Nat) : Nat → Nat
  | 0 => 0
  | h + 1 => if memb r H a h then cnt r H a h + 1 else cnt r H a h
theorem cnt_le (r : Nat → Int32) (H a : Nat) : ∀ n, cnt r H a n ≤ n
  | 0 => Nat.le_refl 0
  | n + 1 => by
    have := cnt_le r H a n
    show (if memb r H a n then cnt r H a n + 1 else cnt r H a n) ≤ n + 1
    split <;> omega
theorem sm_one {r : Nat → Int32} {H a : Nat} : ∀ n, sm (fun _ => 1) r H a n = nI (cnt r H a n)
  | 0 => by show (0 : Int32) = nI 0; decide
  | n + 1 => by
    show (if memb r H a n then sm (fun _ => 1) r H a n + 1 else sm (fun _ => 1) r H a n) = nI (if memb r H a n then cnt r H a n + 1 else cnt r H a n)
    rw [sm_one n]
    by_cases q : memb r H a n
    · rw [if_pos q, if_pos q]; exact nI_add1
    · rw [if_neg q, if_neg q]
theorem cnt_pos {r : Nat → Int32} {H a h : Nat} (hm : memb r H a h) : ∀ n, h < n → 1 ≤ cnt r H a n
  | 0, hn => absurd hn (Nat.not_lt_zero h)
  | n + 1, hn => by
    show 1 ≤ (if memb r H a n then cnt r H a n + 1 else cnt r H a n)
    by_cases q : h = n
    · subst q; rw [if_pos hm]; omega
    · have := cnt_pos hm n (by omega)
      split <;> omega
theorem sN_ne {r : Nat → Int32} {H a h : Nat} (hm : memb r H a h) (hH : H ≤ 10) : ¬ sN r H a = 0 := by
  unfold sN
  rw [sm_one]
  have h1 := cnt_pos hm H hm.1
  have h2 := cnt_le r H a H
  exact fun z => absurd (nI_inj (b := 0) (by omega) (by omega) z) (by omega)
/-- one applicant -/
theorem mm_one18 {P H a : Nat} {r g : Nat → Int32} (hH : H ≤ 10) (ha : a < 10) (hg : ∀ h, h < H → g h = 0 ∨ g h = 1) (hne : ¬ sN r H a = 0) : ∀ (u k : Nat) (B : zMt), B P 8 = nI H → (∀ j, j < 82 → B (P + 1) j = r j) → (∀ h, h < H → B (P + 5) h = g h) → B (P + 11) a = bv r H a H → B (P + 14) a = sm (fun _ => 1) r H a k → B (P + 15) a = sm g r H a k → k ≤ H → H - k < u → ∃ B', D_X8_laysOne_18 P u (nI a) (sm r r H a k) (nI k) B = some B' ∧ B' (P + 14) a = sN r H a ∧ B' (P + 15) a = sG g r H a ∧ B' (P + 16) a = sP r H a ∧ B' (P + 17) a = sT r H a ∧ (∀ i j, ¬ (P + 14 ≤ i ∧ i ≤ P + 17 ∧ j = a) → B' i j = B i j) := by
  intro u
  induction u with
  | zero => intro k B _ _ _ _ _ _ _ h; omega
  | succ u ih =>
    intro k B h8 hr hg5 hb h14 h15 hk hu
    rw [D_X8_laysOne_18, h8]
    unfold zI
    have ia : ¬ (nI a < 0 ∨ 10 ≤ (nI a).toNatClampNeg) := vp_in_nI ha (by decide)
    by_cases hc : H ≤ k
    · have hkH : k = H := by omega
      subst hkH
      rw [if_pos (by exact (nI_leI (by omega) (by omega)).mpr hc), if_neg ia, nI_clamp (by omega), h14]
      unfold zZ
      rw [if_neg (by exact hne), if_neg (ci ha (by omega)), zLt_eq, if_neg (by decide)]
      have e67 : zu B (P + 16) a (sm r r k a k / sm (fun _ => 1) r k a k) (P + 1) (67 : Int32).toNatClampNeg = r 67 := by
        rw [show (67 : Int32).toNatClampNeg = 67 by decide, zu_ne (by omega)]
        exact hr 67 (by omega)
      have e16 : zu B (P + 16) a (sm r r k a k / sm (fun _ => 1) r k a k) (P + 16) a = sP r k a := zu_eq
      rw [e67, e16]
      have fin : ∀ v : Int32, v = sT r k a → ∃ B', D_X8_laysOne_162 P (nI a) v (zu B (P + 16) a (sm r r k a k / sm (fun _ => 1) r k a k)) = some B' ∧ B' (P + 14) a = sN r k a ∧ B' (P + 15) a = sG g r k a ∧ B' (P + 16) a = sP r k a ∧ B' (P + 17) a = sT r k a ∧ (∀ i j, ¬ (P + 14 ≤ i ∧ i ≤ P + 17 ∧ j = a) → B' i j = B i j) := fun v hv => by
        unfold D_X8_laysOne_162 zI
        rw [if_neg ia, nI_clamp (by omega), zLt_eq]
        refine ⟨_, rfl, (zu_ne (by omega)).trans ((zu_ne (by omega)).trans h14), (zu_ne (by omega)).trans ((zu_ne (by omega)).trans h15), (zu_ne (by omega)).trans zu_eq, zu_eq.trans hv, fun i j h => (zu_ne (by omega)).trans (zu_ne (by omega))⟩
      by_cases q0 : r 67 = 0
      · rw [if_pos q0]
        exact fin _ (by unfold sT; rw [if_pos q0])
      · rw [if_neg q0, if_neg (by decide)]
        by_cases q1 : r 67 = 1
        · rw [if_pos q1, if_neg (ci ha (by omega))]
          exact fin _ (by unfold sT; rw [if_neg q0, if_pos q1])
        · rw [if_neg q1, if_neg (ci ha (by omega)), if_neg (ci ha (by omega))]
          exact fin _ (by unfold sT; rw [if_neg q0, if_neg q1])
    · have hlt : k < H := by omega
      have ik : ¬ (nI k < 0 ∨ 10 ≤ (nI k).toNatClampNeg) := vp_in_nI (by omega) (by decide)
      rw [if_neg (by intro z; exact hc ((nI_leI (by omega) (by omega)).mp z)), if_neg ia, nI_clamp (by omega), hb]
      have hbit := bv_bit (r := r) (H := H) (a := a) H hH k (by omega)
      obtain ⟨e, he, hq⟩ := v_X8_has (v0 := bv r H a H) (v1 := nI k)
      rw [zB_s he]
      have s1 : sm (fun _ => 1) r H a (k + 1) = if memb r H a k then sm (fun _ => 1) r H a k + 1 else sm (fun _ => 1) r H a k := rfl
      have s2 : sm g r H a (k + 1) = if memb r H a k then sm g r H a k + g k else sm g r H a k := rfl
      have s3 : sm r r H a (k + 1) = if memb r H a k then sm r r H a k + r k else sm r r H a k := rfl
      by_cases hm : memb r H a k
      · have he0 : ¬ e = 0 := fun z => by
          rcases hq.2 with ⟨w, _⟩ | ⟨_, w⟩
          · rw [z] at w; exact absurd w (by decide)
          · exact w (hbit.mpr ⟨hlt, hm⟩)
        rw [if_neg he0, if_neg (ci ha (by omega)), if_neg (ci ha (by omega)), zLt_eq, if_neg (ci ha (by omega)), if_neg ik, nI_clamp (by omega), h14]
        have e5 : zu B (P + 14) a (sm (fun _ => 1) r H a k + 1) (P + 5) k = g k := (zu_ne (by omega)).trans (hg5 k hlt)
        have e15 : zu B (P + 14) a (sm (fun _ => 1) r H a k + 1) (P + 15) a = sm g r H a k := (zu_ne (by omega)).trans h15
        rw [e5, e15]
        have fin : D_X8_laysOne_73 P (D_X8_laysOne_18 P u) (nI a) (sm r r H a k) (nI k) (nI a) (sm g r H a k) (g k) (zu B (P + 14) a (sm (fun _ => 1) r H a k + 1)) = D_X8_laysOne_18 P u (nI a) (sm r r H a (k + 1)) (nI (k + 1)) (zu (zu B (P + 14) a (sm (fun _ => 1) r H a k + 1)) (P + 15) a (sm g r H a k + g k)) := by
          unfold D_X8_laysOne_73 zI
          have e0 : (0 : Int32) + nI k = nI k := (show ∀ k, k < 10 → (0 : Int32) + nI k = nI k by decide) k (by omega)
          rw [if_neg ia, nI_clamp (by omega), zLt_eq, e0, if_neg (vp_in_nI (by omega) (by decide)), nI_clamp (by omega)]
          unfold D_X8_laysOne_86
          rw [nI_add1, s3, if_pos hm, zu_ne (by omega), zu_ne (by omega), hr k (by omega)]
        have hgo : ∃ B', D_X8_laysOne_73 P (D_X8_laysOne_18 P u) (nI a) (sm r r H a k) (nI k) (nI a) (sm g r H a k) (g k) (zu B (P + 14) a (sm (fun _ => 1) r H a k + 1)) = some B' ∧ B' (P + 14) a = sN r H a ∧ B' (P + 15) a = sG g r H a ∧ B' (P + 16) a = sP r H a ∧ B' (P + 17) a = sT r H a ∧ (∀ i j, ¬ (P + 14 ≤ i ∧ i ≤ P + 17 ∧ j = a) → B' i j = B i j) := by
          rw [fin]
          have kk : ∀ i j, ¬ (P + 14 ≤ i ∧ i ≤ P + 17 ∧ j = a) → zu (zu B (P + 14) a (sm (fun _ => 1) r H a k + 1)) (P + 15) a (sm g r H a k + g k) i j = B i j := fun i j h => (zu_ne (by omega)).trans (zu_ne (by omega))
          obtain ⟨B', f1, f2, f3, f4, f5, f6⟩ := ih (k + 1) (zu (zu B (P + 14) a (sm (fun _ => 1) r H a k + 1)) (P + 15) a (sm g r H a k + g k)) ((kk P 8 (by omega)).trans h8) (fun j hj => (kk (P + 1) j (by omega)).trans (hr j hj)) (fun h hh => (kk (P + 5) h (by omega)).trans (hg5 h hh)) ((kk (P + 11) a (by omega)).trans hb) ((zu_ne (by omega)).trans (zu_eq.trans (by rw [s1, if_pos hm]))) (zu_eq.trans (by rw [s2, if_pos hm])) (by omega) (by omega)
          exact ⟨B', f1, f2, f3, f4, f5, fun i j h => (f6 i j h).trans (kk i j h)⟩
        rcases hg k hlt with z | z
        · rw [if_pos z]
          rw [z] at hgo
          exact hgo
        · rw [if_neg (by rw [z]; decide)]
          rw [z] at hgo
          exact hgo
      · have he0 : e = 0 := by
          rcases hq.2 with ⟨_, w⟩ | ⟨w, _⟩
          · exact absurd (hbit.mp w).2 hm
          · exact w
        rw [if_pos he0]
        unfold D_X8_laysOne_86
        rw [nI_add1]
        have t := ih (k + 1) B h8 hr hg5 hb (h14.trans (by rw [s1, if_neg hm])) (h15.trans (by rw [s2, if_neg hm])) (by omega) (by omega)
        rw [s3, if_neg hm] at t
        exact t
theorem mm_one {P H a : Nat} {r g : Nat → Int32} {B : zMt} (hH : H ≤ 10) (ha : a < 10) (hg : ∀ h, h < H → g h = 0 ∨ g h = 1) (hne : ¬ sN r H a = 0) (h8 : B P 8 = nI H) (hr : ∀ j, j < 82 → B (P + 1) j = r j) (hg5 : ∀ h, h < H → B (P + 5) h = g h) (hb : B (P + 11) a = bv r H a H) : ∃ B', D_X8_laysOne P (nI a) B = some B' ∧ B' (P + 14) a = sN r H a ∧ B' (P + 15) a = sG g r H a ∧ B' (P + 16) a = sP r H a ∧ B' (P + 17) a = sT r H a ∧ (∀ i j, ¬ (P + 14 ≤ i ∧ i ≤ P + 17 ∧ j = a) → B' i j = B i j) := by
  have ia : ¬ (nI a < 0 ∨ 10 ≤ (nI a).toNatClampNeg) := vp_in_nI ha (by decide)
  unfold D_X8_laysOne zI
  rw [if_neg ia, nI_clamp (by omega), zLt_eq, if_neg (ci ha (by omega)), zLt_eq]
  have kk : ∀ i j, ¬ (P + 14 ≤ i ∧ i ≤ P + 17 ∧ j = a) → zu (zu B (P + 14) a 0) (P + 15) a 0 i j = B i j := fun i j h => (zu_ne (by omega)).trans (zu_ne (by omega))
  obtain ⟨B', f1, f2, f3, f4, f5, f6⟩ := mm_one18 (r := r) (g := g) hH ha hg hne zFu 0 (zu (zu B (P + 14) a 0) (P + 15) a 0) ((kk P 8 (by omega)).trans h8) (fun j hj => (kk (P + 1) j (by omega)).trans (hr j hj)) (fun h hh => (kk (P + 5) h (by omega)).trans (hg5 h hh)) ((kk (P + 11) a (by omega)).trans hb) ((zu_ne (by omega)).trans zu_eq) zu_eq (by omega) (by unfold zFu; omega)
  rw [show nI 0 = (0 : Int32) by decide] at f1
  exact ⟨B', f1, f2, f3, f4, f5, fun i j h => (f6 i j h).trans (kk i j h)⟩
/-- bits, party and place of one applicant -/
def mF (P : Nat) (B : zMt) (r : Nat → Int32) (H a : Nat) : Prop := B (P + 11) a = bv r H a H ∧ B (P + 12) a = (if a < fr r H then -1 else nI (a - fr r H)) ∧ ∃ base, isBase r H a base ∧ base < 62 ∧ B (P + 13) a = nI base
theorem mF.k {P : Nat} {B B' : zMt} {r : Nat → Int32} {H a : Nat} (h : mF P B r H a) (k : ∀ i, (P + 11 ≤ i ∧ i ≤ P + 13) → B' i a = B i a) : mF P B' r H a := by
  obtain ⟨h1, h2, base, h3, h4, h5⟩ := h
  exact ⟨(k _ (by omega)).trans h1, (k _ (by omega)).trans h2, base, h3, h4, (k _ (by omega)).trans h5⟩
/-- the free hunters -/
theorem mm_lays7 {P H : Nat} {r : Nat → Int32} (hH : H ≤ 10) : ∀ (u k : Nat) (B : zMt), B P 8 = nI H → (∀ j, j < 82 → B (P + 1) j = r j) → B P 33 = nI (fr r k) → k ≤ H → H - k < u → (∀ a, a < fr r k → mF P B r H a) → ∃ B', D_X8_laysApplicants_7 P u (nI k) B = D_X8_laysApplicants_86 P zFu (0 : Int32) B' ∧ B' P 33 = nI (fr r H) ∧ (∀ a, a < fr r H → mF P B' r H a) ∧ (∀ i j, ¬ (i = P ∧ j = 33) → ¬ (P + 11 ≤ i ∧ i ≤ P + 13) → B' i j = B i j) := by
  intro u
  induction u with
  | zero => intro k B _ _ _ _ h; omega
  | succ u ih =>
    intro k B h8 hr h33 hk hu hF
    have hle := fr_le r k
    rw [D_X8_laysApplicants_7, h8]
    by_cases hc : H ≤ k
    · have : k = H := by omega
      subst this
      rw [if_pos (by exact (nI_leI (by omega) (by omega)).mpr hc)]
      exact ⟨B, rfl, h33, hF, fun _ _ _ _ => rfl⟩
    · have e10 : (10 : Int32) + nI k = nI (10 + k) := (show ∀ k, k < 10 → (10 : Int32) + nI k = nI (10 + k) by decide) k (by omega)
      rw [if_neg (by intro z; exact hc ((nI_leI (by omega) (by omega)).mp z)), e10]
      unfold zI
      rw [if_neg (vp_in_nI (by omega) (by decide)), nI_clamp (by omega), hr _ (by omega), h33]
      have i33 : ¬ (nI (fr r k) < 0 ∨ 10 ≤ (nI (fr r k)).toNatClampNeg) := vp_in_nI (by omega) (by decide)
      have efr : fr r (k + 1) = fr r k + (if r (10 + k) = -1 then 1 else 0) := rfl
      by_cases q : r (10 + k) = -1
      · have e20 : (20 : Int32) + (3 : Int32) * nI k = nI (20 + 3 * k) := (show ∀ k, k < 10 → (20 : Int32) + (3 : Int32) * nI k = nI (20 + 3 * k) by decide) k (by omega)
        rw [if_pos q, if_neg i33, nI_clamp (by omega), zLt_eq, e20]
        rw [show zu B (P + 11) (fr r k) ((1 : Int32) <<< (nI k &&& 31)) P 33 = nI (fr r k) from (zu_ne (by omega)).trans h33]
        rw [if_neg i33, nI_clamp (by omega), zLt_eq]
        rw [show zu (zu B (P + 11) (fr r k) ((1 : Int32) <<< (nI k &&& 31))) (P + 12) (fr r k) (-1) P 33 = nI (fr r k) from (zu_ne (by omega)).trans ((zu_ne (by omega)).trans h33)]
        rw [if_neg i33, nI_clamp (by omega), zLt_eq]
        rw [show zu (zu (zu B (P + 11) (fr r k) ((1 : Int32) <<< (nI k &&& 31))) (P + 12) (fr r k) (-1)) (P + 13) (fr r k) (nI (20 + 3 * k)) P 33 = nI (fr r k) from (zu_ne (by omega)).trans ((zu_ne (by omega)).trans ((zu_ne (by omega)).trans h33))]
        rw [zLt_eq, nI_add1]
        unfold D_X8_laysApplicants_78
        rw [nI_add1]
        generalize hB1 : zu (zu (zu (zu B (P + 11) (fr r k) ((1 : Int32) <<< (nI k &&& 31))) (P + 12) (fr r k) (-1)) (P + 13) (fr r k) (nI (20 + 3 * k))) P 33 (nI (fr r k + 1)) = B1
        have k1 : ∀ i j, ¬ (i = P ∧ j = 33) → ¬ (P + 11 ≤ i ∧ i ≤ P + 13 ∧ j = fr r k) → B1 i j = B i j := fun i j h1 h2 => by
          rw [← hB1, zu_ne (by omega), zu_ne (by omega), zu_ne (by omega), zu_ne (by omega)]
        have v33 : B1 P 33 = nI (fr r (k + 1)) := by rw [← hB1, zu_eq, efr, if_pos q]
        have v11 : B1 (P + 11) (fr r k) = (1 : Int32) <<< (nI k &&& 31) := by rw [← hB1, zu_ne (by omega), zu_ne (by omega), zu_ne (by omega), zu_eq]
        have v12 : B1 (P + 12) (fr r k) = -1 := by rw [← hB1, zu_ne (by omega), zu_ne (by omega), zu_eq]
        have v13 : B1 (P + 13) (fr r k) = nI (20 + 3 * k) := by rw [← hB1, zu_ne (by omega), zu_eq]
        obtain ⟨B', f1, f2, f3, f4⟩ := ih (k + 1) B1 ((k1 P 8 (by omega) (by omega)).trans h8) (fun j hj => (k1 (P + 1) j (by omega) (by omega)).trans (hr j hj)) v33 (by omega) (by omega) (fun a ha => by
          rw [efr, if_pos q] at ha
          by_cases z : a = fr r k
          · subst z
            have hlt := fr_lt (show k < H by omega) q
            refine ⟨?_, ?_, 20 + 3 * k, Or.inl ⟨k, by omega, q, rfl, rfl⟩, by omega, v13⟩
            · rw [v11, bv_free hH (by omega) q H (Nat.le_refl H), if_pos (by omega)]
            · rw [v12, if_pos hlt]
          · exact (hF a (by omega)).k (fun i hi => k1 i a (by omega) (by omega)))
        exact ⟨B', f1, f2, f3, fun i j h1 h2 => (f4 i j h1 h2).trans (k1 i j h1 (by omega))⟩
      · rw [if_neg q]
        unfold D_X8_laysApplicants_78
        rw [nI_add1]
        exact ih (k + 1) B h8 hr (by rw [efr, if_neg q]; exact h33) (by omega) (by omega) (fun a ha => by
          rw [efr, if_neg q] at ha
          exact hF a ha)
/-- one party -/
theorem mm_lays109 {P H p F : Nat} {r : Nat → Int32} {k86 : Int32 → zMt → Option zMt} (hH : H ≤ 10) (hp : p < 4) (hF : F = fr r H) (hFp : F + p < 10) : ∀ (u k : Nat) (B : zMt), B P 8 = nI H → (∀ j, j < 82 → B (P + 1) j = r j) → B P 33 = nI (F + p) → B (P + 11) (F + p) = bv r H (F + p) k → k ≤ H → H - k < u → ∃ B', D_X8_laysApplicants_109 P k86 u (nI p) (nI k) B = k86 (nI (p + 1)) B' ∧ B' P 33 = nI (F + p + 1) ∧ B' (P + 11) (F + p) = bv r H (F + p) H ∧ B' (P + 12) (F + p) = nI p ∧ B' (P + 13) (F + p) = nI (50 + 3 * p) ∧ (∀ i j, ¬ (i = P ∧ j = 33) → ¬ (P + 11 ≤ i ∧ i ≤ P + 13 ∧ j = F + p) → B' i j = B i j) := by
  intro u
  induction u with
  | zero => intro k B _ _ _ _ _ h; omega
  | succ u ih =>
    intro k B h8 hr h33 hb hk hu
    have i33 : ¬ (nI (F + p) < 0 ∨ 10 ≤ (nI (F + p)).toNatClampNeg) := vp_in_nI (by omega) (by decide)
    rw [D_X8_laysApplicants_109, h8, h33]
    unfold zI
    by_cases hc : H ≤ k
    · have : k = H := by omega
      subst this
      have e50 : (50 : Int32) + (3 : Int32) * nI p = nI (50 + 3 * p) := (show ∀ k, k < 4 → (50 : Int32) + (3 : Int32) * nI k = nI (50 + 3 * k) by decide) p hp
      rw [if_pos (by exact (nI_leI (by omega) (by omega)).mpr hc), if_neg i33, nI_clamp (by omega), zLt_eq, e50]
      rw [show zu B (P + 12) (F + p) (nI p) P 33 = nI (F + p) from (zu_ne (by omega)).trans h33]
      rw [if_neg i33, nI_clamp (by omega), zLt_eq]
      rw [show zu (zu B (P + 12) (F + p) (nI p)) (P + 13) (F + p) (nI (50 + 3 * p)) P 33 = nI (F + p) from (zu_ne (by omega)).trans ((zu_ne (by omega)).trans h33)]
      rw [zLt_eq, nI_add1, nI_add1]
      refine ⟨_, rfl, zu_eq, (zu_ne (by omega)).trans ((zu_ne (by omega)).trans ((zu_ne (by omega)).trans hb)), (zu_ne (by omega)).trans ((zu_ne (by omega)).trans zu_eq), (zu_ne (by omega)).trans zu_eq, fun i j h1 h2 => (zu_ne (by omega)).trans ((zu_ne (by omega)).trans (zu_ne (by omega)))⟩
    · have hlt : k < H := by omega
      have e10 : (10 : Int32) + nI k = nI (10 + k) := (show ∀ k, k < 10 → (10 : Int32) + nI k = nI (10 + k) by decide) k (by omega)
      rw [if_neg (by intro z; exact hc ((nI_leI (by omega) (by omega)).mp z)), if_neg i33, e10, if_neg (vp_in_nI (by omega) (by decide)), nI_clamp (by omega), hr _ (by omega), nI_clamp (by omega), hb]
      have hbv : bv r H (F + p) (k + 1) = if memb r H (F + p) k then bv r H (F + p) k ||| ((1 : Int32) <<< (nI k &&& 31)) else bv r H (F + p) k := rfl
      have hm : memb r H (F + p) k ↔ r (10 + k) = nI p := by rw [hF]; exact memb_party hp hlt
      have fin : ∀ y : Int32, (bv r H (F + p) k ||| y) = bv r H (F + p) (k + 1) → ∃ B', D_X8_laysApplicants_147 P k86 (D_X8_laysApplicants_109 P k86 u) (nI p) (nI k) (nI (F + p)) (bv r H (F + p) k) y B = k86 (nI (p + 1)) B' ∧ B' P 33 = nI (F + p + 1) ∧ B' (P + 11) (F + p) = bv r H (F + p) H ∧ B' (P + 12) (F + p) = nI p ∧ B' (P + 13) (F + p) = nI (50 + 3 * p) ∧ (∀ i j, ¬ (i = P ∧ j = 33) → ¬ (P + 11 ≤ i ∧ i ≤ P + 13 ∧ j = F + p) → B' i j = B i j) := fun y hy => by
        unfold D_X8_laysApplicants_147 zI
        rw [if_neg i33, nI_clamp (by omega), zLt_eq, hy, nI_add1]
        have k1 : ∀ i j, ¬ (i = P + 11 ∧ j = F + p) → zu B (P + 11) (F + p) (bv r H (F + p) (k + 1)) i j = B i j := fun i j h => zu_ne h
        obtain ⟨B', f1, f2, f3, f4, f5, f6⟩ := ih (k + 1) (zu B (P + 11) (F + p) (bv r H (F + p) (k + 1))) ((k1 P 8 (by omega)).trans h8) (fun j hj => (k1 (P + 1) j (by omega)).trans (hr j hj)) ((k1 P 33 (by omega)).trans h33) zu_eq (by omega) (by omega)
        exact ⟨B', f1, f2, f3, f4, f5, fun i j h1 h2 => (f6 i j h1 h2).trans (k1 i j (by omega))⟩
      by_cases q : r (10 + k) = nI p
      · rw [if_pos q]
        exact fin _ (by rw [hbv, if_pos (hm.mpr q)])
      · rw [if_neg q]
        exact fin _ (by rw [hbv, if_neg (fun z => q (hm.mp z)), Int32.or_zero])
/-- the parties -/
theorem mm_lays86 {P H G F : Nat} {r : Nat → Int32} (hH : H ≤ 10) (hG : G ≤ 4) (hF : F = fr r H) (hFG : F + G ≤ 10) : ∀ (u p : Nat) (B : zMt), B P 8 = nI H → (∀ j, j < 82 → B (P + 1) j = r j) → r 70 = nI G → B P 33 = nI (F + p) → p ≤ G → G - p < u → (∀ a, a < F + p → mF P B r H a) → ∃ B', D_X8_laysApplicants_86 P u (nI p) B = D_X8_laysApplicants_198 P zFu (0 : Int32) B' ∧ B' P 33 = nI (F + G) ∧ (∀ a, a < F + G → mF P B' r H a) ∧ (∀ i j, ¬ (i = P ∧ j = 33) → ¬ (P + 11 ≤ i ∧ i ≤ P + 13) → B' i j = B i j) := by
  intro u
  induction u with
  | zero => intro p B _ _ _ _ _ h; omega
  | succ u ih =>
    intro p B h8 hr h70 h33 hp hu hA
    rw [D_X8_laysApplicants_86]
    unfold zI
    rw [if_neg (by decide), show (70 : Int32).toNatClampNeg = 70 by decide, hr 70 (by omega), h70]
    by_cases hc : G ≤ p
    · have : p = G := by omega
      subst this
      rw [if_pos (by exact (nI_leI (by omega) (by omega)).mpr hc)]
      exact ⟨B, rfl, h33, hA, fun _ _ _ _ => rfl⟩
    · have i33 : ¬ (nI (F + p) < 0 ∨ 10 ≤ (nI (F + p)).toNatClampNeg) := vp_in_nI (by omega) (by decide)
      rw [if_neg (by intro z; exact hc ((nI_leI (by omega) (by omega)).mp z)), h33, if_neg i33, nI_clamp (by omega), zLt_eq]
      have k1 : ∀ i j, ¬ (i = P + 11 ∧ j = F + p) → zu B (P + 11) (F + p) (0 : Int32) i j = B i j := fun i j h => zu_ne h
      obtain ⟨B1, f1, f2, f3, f4, f5, f6⟩ := mm_lays109 (k86 := D_X8_laysApplicants_86 P u) hH (show p < 4 by omega) hF (by omega) zFu 0 (zu B (P + 11) (F + p) (0 : Int32)) ((k1 P 8 (by omega)).trans h8) (fun j hj => (k1 (P + 1) j (by omega)).trans (hr j hj)) ((k1 P 33 (by omega)).trans h33) zu_eq (by omega) (by unfold zFu; omega)
      rw [show nI 0 = (0 : Int32) by decide] at f1
      rw [f1]
      have k2 : ∀ i j, ¬ (i = P ∧ j = 33) → ¬ (P + 11 ≤ i ∧ i ≤ P + 13 ∧ j = F + p) → B1 i j = B i j := fun i j h1 h2 => (f6 i j h1 h2).trans (k1 i j (by omega))
      obtain ⟨B2, g1, g2, g3, g4⟩ := ih (p + 1) B1 ((k2 P 8 (by omega) (by omega)).trans h8) (fun j hj => (k2 (P + 1) j (by omega) (by omega)).trans (hr j hj)) h70 f2 (by omega) (by omega) (fun a ha => by
        by_cases z : a = F + p
        · subst z
          refine ⟨f3, ?_, 50 + 3 * p, Or.inr ⟨by omega, by omega⟩, by omega, f5⟩
          rw [f4, if_neg (by omega), show F + p - fr r H = p by omega]
        · exact (hA a (by omega)).k (fun i hi => k2 i a (by omega) (by omega)))
      exact ⟨B2, g1, g2, g3, fun i j h1 h2 => (g4 i j h1 h2).trans (k2 i j h1 (by omega))⟩
/-- sizes and the rest -/
theorem mm_lays198 {P H T : Nat} {r g : Nat → Int32} (hH : H ≤ 10) (hT : T ≤ 10) (hg : ∀ h, h < H → g h = 0 ∨ g h = 1) (hne : ∀ a, a < T → ¬ sN r H a = 0) : ∀ (u i : Nat) (B : zMt), B P 8 = nI H → (∀ j, j < 82 → B (P + 1) j = r j) → (∀ h, h < H → B (P + 5) h = g h) → B P 33 = nI T → (∀ a, a < T → mF P B r H a) → i ≤ T → T - i < u → (∀ a, a < i → B (P + 14) a = sN r H a ∧ B (P + 15) a = sG g r H a ∧ B (P + 16) a = sP r H a ∧ B (P + 17) a = sT r H a) → ∃ B', D_X8_laysApplicants_198 P u (nI i) B = some B' ∧ (∀ a, a < T → mF P B' r H a) ∧ (∀ a, a < T → B' (P + 14) a = sN r H a ∧ B' (P + 15) a = sG g r H a ∧ B' (P + 16) a = sP r H a ∧ B' (P + 17) a = sT r H a) ∧ (∀ x j, ¬ (P + 14 ≤ x ∧ x ≤ P + 17) → B' x j = B x j) := by
  intro u
  induction u with
  | zero => intro i B _ _ _ _ _ _ h; omega
  | succ u ih =>
    intro i B h8 hr hg5 h33 hF hi hu hv
    rw [D_X8_laysApplicants_198, h33]
    by_cases hc : T ≤ i
    · rw [if_pos (by exact (nI_leI (by omega) (by omega)).mpr hc)]
      exact ⟨B, rfl, hF, fun a ha => hv a (by omega), fun _ _ _ => rfl⟩
    · rw [if_neg (by intro z; exact hc ((nI_leI (by omega) (by omega)).mp z))]
      obtain ⟨B1, f1, f2, f3, f4, f5, f6⟩ := mm_one (P := P) (a := i) (B := B) hH (by omega) hg (hne i (by omega)) h8 hr hg5 (hF i (by omega)).1
      rw [zB_s f1, nI_add1]
      have k1 : ∀ x j, ¬ (P + 14 ≤ x ∧ x ≤ P + 17 ∧ j = i) → B1 x j = B x j := f6
      obtain ⟨B2, g1, g2, g3, g4⟩ := ih (i + 1) B1 ((k1 P 8 (by omega)).trans h8) (fun j hj => (k1 (P + 1) j (by omega)).trans (hr j hj)) (fun h hh => (k1 (P + 5) h (by omega)).trans (hg5 h hh)) ((k1 P 33 (by omega)).trans h33) (fun a ha => (hF a ha).k (fun x hx => k1 x a (by omega))) (by omega) (by omega) (fun a ha => by
        by_cases z : a = i
        · subst z; exact ⟨f2, f3, f4, f5⟩
        · rw [k1 (P + 14) a (by omega), k1 (P + 15) a (by omega), k1 (P + 16) a (by omega), k1 (P + 17) a (by omega)]
          exact hv a (by omega))
      exact ⟨B2, g1, g2, g3, fun x j h => (g4 x j h).trans (k1 x j (by omega))⟩
theorem mm_lays {P H G : Nat} {r g : Nat → Int32} {B : zMt} (hH : H ≤ 10) (hG : G ≤ 4) (hFG : fr r H + G ≤ 10) (hg : ∀ h, h < H → g h = 0 ∨ g h = 1) (hne : ∀ a, a < fr r H + G → ¬ sN r H a = 0) (h8 : B P 8 = nI H) (hr : ∀ j, j < 82 → B (P + 1) j = r j) (hg5 : ∀ h, h < H → B (P + 5) h = g h) (h70 : r 70 = nI G) : ∃ B', D_X8_laysApplicants P B = some B' ∧ mL P B' r g H G ∧ (∀ i j, ¬ (i = P ∧ j = 33) → ¬ (P + 11 ≤ i ∧ i ≤ P + 17) → B' i j = B i j) := by
  unfold D_X8_laysApplicants
  rw [zLt_eq]
  have k0 : ∀ i j, ¬ (i = P ∧ j = 33) → zu B P 33 (0 : Int32) i j = B i j := fun i j h => zu_ne h
  obtain ⟨B1, a1, a2, a3, a4⟩ := mm_lays7 (r := r) hH zFu 0 (zu B P 33 (0 : Int32)) ((k0 P 8 (by omega)).trans h8) (fun j hj => (k0 (P + 1) j (by omega)).trans (hr j hj)) (zu_eq.trans (show (0 : Int32) = nI 0 by decide)) (by omega) (by unfold zFu; omega) (fun a ha => absurd ha (Nat.not_lt_zero a))
  rw [show nI 0 = (0 : Int32) by decide] at a1
  have k1 : ∀ i j, ¬ (i = P ∧ j = 33) → ¬ (P + 11 ≤ i ∧ i ≤ P + 13) → B1 i j = B i j := fun i j h1 h2 => (a4 i j h1 h2).trans (k0 i j h1)
  obtain ⟨B2, b1, b2, b3, b4⟩ := mm_lays86 (r := r) hH hG rfl hFG zFu 0 B1 ((k1 P 8 (by omega) (by omega)).trans h8) (fun j hj => (k1 (P + 1) j (by omega) (by omega)).trans (hr j hj)) h70 a2 (by omega) (by unfold zFu; omega) a3
  rw [show nI 0 = (0 : Int32) by decide] at b1
  have k2 : ∀ i j, ¬ (i = P ∧ j = 33) → ¬ (P + 11 ≤ i ∧ i ≤ P + 13) → B2 i j = B i j := fun i j h1 h2 => (b4 i j h1 h2).trans (k1 i j h1 h2)
  obtain ⟨B3, d1, d2, d3, d4⟩ := mm_lays198 (r := r) (g := g) hH hFG hg hne zFu 0 B2 ((k2 P 8 (by omega) (by omega)).trans h8) (fun j hj => (k2 (P + 1) j (by omega) (by omega)).trans (hr j hj)) (fun h hh => (k2 (P + 5) h (by omega) (by omega)).trans (hg5 h hh)) b2 b3 (by omega) (by unfold zFu; omega) (fun a ha => absurd ha (Nat.not_lt_zero a))
  rw [show nI 0 = (0 : Int32) by decide] at d1
  refine ⟨B3, a1.trans (b1.trans d1), ⟨(d4 P 33 (by omega)).trans b2, fun a ha => ?_⟩, fun i j h1 h2 => (d4 i j (by omega)).trans (k2 i j h1 (by omega))⟩
  obtain ⟨e1, e2, base, e3, e4, e5⟩ := d2 a ha
  obtain ⟨e6, e7, e8, e9⟩ := d3 a ha
  exact ⟨e1, e2, ⟨base, e3, e4, e5⟩, e6, e7, e8, e9⟩
