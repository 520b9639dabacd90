def WM_X8_readParty (P : Nat) (a j : Nat) : Prop := (P + 2 ≤ a ∧ a < P + 3) ∨ (a = P ∧ (j = 16 ∨ j = 17 ∨ j = 18 ∨ j = 19 ∨ j = 20 ∨ j = 21 ∨ j = 22 ∨ j = 30))
def WN_X8_readParty (P : Nat) (a j : Nat) : Prop := (P + 10 ≤ a ∧ a < P + 11) ∨ (a = P ∧ (j = 24 ∨ j = 32))
theorem v_X8_readParty {P : Nat} {M0 : zMt} {N0 : zNt} (p_jX : jX P M0) (p_jY : jY P M0) (p_jZ : jZ P M0) : ∃ r, D_X8_readParty P M0 N0 = some r ∧ ((∀ a j, ¬ WM_X8_readParty P a j → r.2.1 a j = M0 a j) ∧ (∀ a j, ¬ WN_X8_readParty P a j → r.2.2 a j = N0 a j) ∧ (r.1 = 0 ∨ r.1 = 1) ∧ ((jX P r.2.1) ∧ (jY P r.2.1) ∧ (jZ P r.2.1) ∧ (Int32.toInt (M0 P 17) ≤ Int32.toInt (r.2.1 P 17)))) := by
  obtain ⟨r, e, k, kn, q⟩ := h_X8_readParty p_jX p_jY p_jZ
  exact ⟨r, e, fun a j h => k a j (by unfold jWP; unfold WM_X8_readParty at h; omega), fun a j h => kn a j (by unfold jWN; unfold WN_X8_readParty at h; omega), q⟩
def WM_X8_readLine (P : Nat) (a j : Nat) : Prop := (P + 2 ≤ a ∧ a < P + 3) ∨ (P + 6 ≤ a ∧ a < P + 7) ∨ (a = P ∧ (j = 16 ∨ j = 17 ∨ j = 18 ∨ j = 19 ∨ j = 20 ∨ j = 21 ∨ j = 22 ∨ j = 23 ∨ j = 28 ∨ j = 29 ∨ j = 30 ∨ j = 31))
def WN_X8_readLine (P : Nat) (a j : Nat) : Prop := (P + 8 ≤ a ∧ a < P + 11) ∨ (a = P ∧ (j = 24 ∨ j = 32))
theorem wz_M_X8_next_X8_readLine {P a j : Nat} (h : ¬ WM_X8_readLine P a j) : ¬ WM_X8_next P a j := by unfold WM_X8_next; unfold WM_X8_readLine at h; omega
theorem wz_N_X8_next_X8_readLine {P a j : Nat} (h : ¬ WN_X8_readLine P a j) : ¬ WN_X8_next P a j := by unfold WN_X8_next; unfold WN_X8_readLine at h; omega
theorem wz_M_X8_bad_X8_readLine {P a j : Nat} (h : ¬ WM_X8_readLine P a j) : ¬ WM_X8_bad P a j := by unfold WM_X8_bad; unfold WM_X8_readLine at h; omega
theorem wz_M_X8_readOnce_X8_readLine {P a j : Nat} (h : ¬ WM_X8_readLine P a j) : ¬ WM_X8_readOnce P a j := by unfold WM_X8_readOnce; unfold WM_X8_readLine at h; omega
theorem wz_N_X8_readOnce_X8_readLine {P a j : Nat} (h : ¬ WN_X8_readLine P a j) : ¬ WN_X8_readOnce P a j := by unfold WN_X8_readOnce; unfold WN_X8_readLine at h; omega
theorem wc_X8_readOnce_15 {P : Nat} : ¬ WM_X8_readOnce P P 15 := by unfold WM_X8_readOnce; omega
theorem wc_X8_readOnce_28 {P : Nat} : ¬ WM_X8_readOnce P P 28 := by unfold WM_X8_readOnce; omega
theorem wc_X8_readOnce_29 {P : Nat} : ¬ WM_X8_readOnce P P 29 := by unfold WM_X8_readOnce; omega
theorem wc_X8_readOnce_30 {P : Nat} : ¬ WM_X8_readOnce P P 30 := by unfold WM_X8_readOnce; omega
theorem wf_nA_X8_readOnce {P a j : Nat} (h : (a = P + 1 ∨ (a = P ∧ j = 8))) : ¬ WM_X8_readOnce P a j := by unfold WM_X8_readOnce; omega
theorem wf_jY_X8_readOnce {P a j : Nat} (h : (a = P ∧ (j = 28 ∨ j = 29 ∨ j = 30))) : ¬ WM_X8_readOnce P a j := by unfold WM_X8_readOnce; omega
theorem wz_M_X8_readUnit_X8_readLine {P a j : Nat} (h : ¬ WM_X8_readLine P a j) : ¬ WM_X8_readUnit P a j := by unfold WM_X8_readUnit; unfold WM_X8_readLine at h; omega
theorem wz_N_X8_readUnit_X8_readLine {P a j : Nat} (h : ¬ WN_X8_readLine P a j) : ¬ WN_X8_readUnit P a j := by unfold WN_X8_readUnit; unfold WN_X8_readLine at h; omega
theorem wc_X8_readUnit_15 {P : Nat} : ¬ WM_X8_readUnit P P 15 := by unfold WM_X8_readUnit; omega
theorem wc_X8_readUnit_29 {P : Nat} : ¬ WM_X8_readUnit P P 29 := by unfold WM_X8_readUnit; omega
theorem wc_X8_readUnit_30 {P : Nat} : ¬ WM_X8_readUnit P P 30 := by unfold WM_X8_readUnit; omega
theorem wf_nA_X8_readUnit {P a j : Nat} (h : (a = P + 1 ∨ (a = P ∧ j = 8))) : ¬ WM_X8_readUnit P a j := by unfold WM_X8_readUnit; omega
theorem wz_M_X8_readHunter_X8_readLine {P a j : Nat} (h : ¬ WM_X8_readLine P a j) : ¬ WM_X8_readHunter P a j := by unfold WM_X8_readHunter; unfold WM_X8_readLine at h; omega
theorem wz_N_X8_readHunter_X8_readLine {P a j : Nat} (h : ¬ WN_X8_readLine P a j) : ¬ WN_X8_readHunter P a j := by unfold WN_X8_readHunter; unfold WN_X8_readLine at h; omega
theorem wc_X8_readHunter_15 {P : Nat} : ¬ WM_X8_readHunter P P 15 := by unfold WM_X8_readHunter; omega
theorem wc_X8_readHunter_28 {P : Nat} : ¬ WM_X8_readHunter P P 28 := by unfold WM_X8_readHunter; omega
theorem wc_X8_readHunter_30 {P : Nat} : ¬ WM_X8_readHunter P P 30 := by unfold WM_X8_readHunter; omega
theorem wf_nA_X8_readHunter {P a j : Nat} (h : (a = P + 1 ∨ (a = P ∧ j = 8))) : ¬ WM_X8_readHunter P a j := by unfold WM_X8_readHunter; omega
theorem wz_M_X8_readParty_X8_readLine {P a j : Nat} (h : ¬ WM_X8_readLine P a j) : ¬ WM_X8_readParty P a j := by unfold WM_X8_readParty; unfold WM_X8_readLine at h; omega
theorem wz_N_X8_readParty_X8_readLine {P a j : Nat} (h : ¬ WN_X8_readLine P a j) : ¬ WN_X8_readParty P a j := by unfold WN_X8_readParty; unfold WN_X8_readLine at h; omega
theorem wc_X8_readParty_15 {P : Nat} : ¬ WM_X8_readParty P P 15 := by unfold WM_X8_readParty; omega
theorem wc_X8_readParty_28 {P : Nat} : ¬ WM_X8_readParty P P 28 := by unfold WM_X8_readParty; omega
theorem wc_X8_readParty_29 {P : Nat} : ¬ WM_X8_readParty P P 29 := by unfold WM_X8_readParty; omega
theorem wc_X8_readParty_31 {P : Nat} : ¬ WM_X8_readParty P P 31 := by unfold WM_X8_readParty; omega
theorem wf_nA_X8_readParty {P a j : Nat} (h : (a = P + 1 ∨ (a = P ∧ j = 8))) : ¬ WM_X8_readParty P a j := by unfold WM_X8_readParty; omega
theorem wz_M_X8_readAsks_X8_readLine {P a j : Nat} (h : ¬ WM_X8_readLine P a j) : ¬ WM_X8_readAsks P a j := by unfold WM_X8_readAsks; unfold WM_X8_readLine at h; omega
theorem wz_N_X8_readAsks_X8_readLine {P a j : Nat} (h : ¬ WN_X8_readLine P a j) : ¬ WN_X8_readAsks P a j := by unfold WN_X8_readAsks; unfold WN_X8_readLine at h; omega
theorem wc_X8_readAsks_15 {P : Nat} : ¬ WM_X8_readAsks P P 15 := by unfold WM_X8_readAsks; omega
theorem wc_X8_readAsks_28 {P : Nat} : ¬ WM_X8_readAsks P P 28 := by unfold WM_X8_readAsks; omega
theorem wc_X8_readAsks_29 {P : Nat} : ¬ WM_X8_readAsks P P 29 := by unfold WM_X8_readAsks; omega
theorem wc_X8_readAsks_30 {P : Nat} : ¬ WM_X8_readAsks P P 30 := by unfold WM_X8_readAsks; omega
theorem wc_X8_readAsks_31 {P : Nat} : ¬ WM_X8_readAsks P P 31 := by unfold WM_X8_readAsks; omega
theorem wf_nA_X8_readAsks {P a j : Nat} (h : (a = P + 1 ∨ (a = P ∧ j = 8))) : ¬ WM_X8_readAsks P a j := by unfold WM_X8_readAsks; omega
theorem wf_jY_X8_readAsks {P a j : Nat} (h : (a = P ∧ (j = 28 ∨ j = 29 ∨ j = 30))) : ¬ WM_X8_readAsks P a j := by unfold WM_X8_readAsks; omega
set_option maxRecDepth 100000 in
set_option maxHeartbeats 4000000 in
theorem v_X8_readLine {P : Nat}  {M0 : zMt} {N0 : zNt}  (p_jX : jX P M0) (p_jY : jY P M0) (p_jZ : jZ P M0) : ∃ r, D_X8_readLine P M0 N0 = some r ∧ ((∀ a j, ¬ WM_X8_readLine P a j → r.2.1 a j = M0 a j) ∧ (∀ a j, ¬ WN_X8_readLine P a j → r.2.2 a j = N0 a j) ∧ (r.1 = 0 ∨ r.1 = 1) ∧ ((jX P r.2.1) ∧ (jY P r.2.1) ∧ (jZ P r.2.1) ∧ (Int32.toInt (M0 P 17) ≤ Int32.toInt (r.2.1 P 17)) ∧ (Int32.toInt r.1 = 0 ∨ Int32.toInt (r.2.1 P 18) = 0 ∨ Int32.toInt (M0 P 17) < Int32.toInt (r.2.1 P 17)))) := by
  obtain ⟨u0_jX, u1_jX, u2_jX, u3_jX⟩ := id p_jX
  obtain ⟨u0_jY, u1_jY, u2_jY, u3_jY, u4_jY, u5_jY⟩ := id p_jY
  have T_140 : ∀ (y0_140 : Int32) (M_140 : zMt) (N_140 : zNt), (∀ a j, ¬ WM_X8_readLine P a j → M_140 a j = M0 a j) → (∀ a j, ¬ WN_X8_readLine P a j → N_140 a j = N0 a j) → (jX P M_140) → (jY P M_140) → (jZ P M_140) → (y0_140 = 0 ∨ y0_140 = 1) → (Int32.toInt (M0 P 17) ≤ Int32.toInt (M_140 P 17)) → (Int32.toInt y0_140 = 0 ∨ Int32.toInt (M_140 P 18) = 0 ∨ Int32.toInt (M0 P 17) < Int32.toInt (M_140 P 17)) → ∃ r, D_X8_readLine_140 P y0_140 M_140 N_140 = some r ∧ ((∀ a j, ¬ WM_X8_readLine P a j → r.2.1 a j = M0 a j) ∧ (∀ a j, ¬ WN_X8_readLine P a j → r.2.2 a j = N0 a j) ∧ (r.1 = 0 ∨ r.1 = 1) ∧ ((jX P r.2.1) ∧ (jY P r.2.1) ∧ (jZ P r.2.1) ∧ (Int32.toInt (M0 P 17) ≤ Int32.toInt (r.2.1 P 17)) ∧ (Int32.toInt r.1 = 0 ∨ Int32.toInt (r.2.1 P 18) = 0 ∨ Int32.toInt (M0 P 17) < Int32.toInt (r.2.1 P 17)))) := by
    intro y0_140 M_140 N_140 k_140 kn_140 p_jX_140 p_jY_140 p_jZ_140 f0_140 f1_140 f2_140
    obtain ⟨u0_jX_140, u1_jX_140, u2_jX_140, u3_jX_140⟩ := id p_jX_140
    obtain ⟨u0_jY_140, u1_jY_140, u2_jY_140, u3_jY_140, u4_jY_140, u5_jY_140⟩ := id p_jY_140
    unfold D_X8_readLine_140
    exact ⟨_, rfl, k_140, kn_140, (by first | exact Or.inl rfl | exact Or.inr rfl | assumption), ⟨p_jX_140, p_jY_140, p_jZ_140, (by first | omega | (simp only [Int32.toInt_add, Int32.toInt_sub, Int32.toInt_mul, Int32.toInt_toInt64, Int64.toInt_add, z_m1, Int32.reduceToInt, Int64.reduceToInt, Int32.reduceToNatClampNeg, Int.bmod_def, or_true, true_or, and_true, true_and] <;> omega)), (by first | omega | (simp only [Int32.toInt_add, Int32.toInt_sub, Int32.toInt_mul, Int32.toInt_toInt64, Int64.toInt_add, z_m1, Int32.reduceToInt, Int64.reduceToInt, Int32.reduceToNatClampNeg, Int.bmod_def, or_true, true_or, and_true, true_and] <;> omega))⟩⟩
  have T_114 : ∀ (x1_114 : Int32) (M_114 : zMt) (N_114 : zNt), (∀ a j, ¬ WM_X8_readLine P a j → M_114 a j = M0 a j) → (∀ a j, ¬ WN_X8_readLine P a j → N_114 a j = N0 a j) → (jX P M_114) → (jY P M_114) → (jZ P M_114) → (x1_114 = 0 ∨ x1_114 = 1) → (Int32.toInt (M0 P 17) ≤ Int32.toInt (M_114 P 17)) → ∃ r, D_X8_readLine_114 P x1_114 M_114 N_114 = some r ∧ ((∀ a j, ¬ WM_X8_readLine P a j → r.2.1 a j = M0 a j) ∧ (∀ a j, ¬ WN_X8_readLine P a j → r.2.2 a j = N0 a j) ∧ (r.1 = 0 ∨ r.1 = 1) ∧ ((jX P r.2.1) ∧ (jY P r.2.1) ∧ (jZ P r.2.1) ∧ (Int32.toInt (M0 P 17) ≤ Int32.toInt (r.2.1 P 17)) ∧ (Int32.toInt r.1 = 0 ∨ Int32.toInt (r.2.1 P 18) = 0 ∨ Int32.toInt (M0 P 17) < Int32.toInt (r.2.1 P 17)))) := by
    intro x1_114 M_114 N_114 k_114 kn_114 p_jX_114 p_jY_114 p_jZ_114 f0_114 f1_114
    obtain ⟨u0_jX_114, u1_jX_114, u2_jX_114, u3_jX_114⟩ := id p_jX_114
    obtain ⟨u0_jY_114, u1_jY_114, u2_jY_114, u3_jY_114, u4_jY_114, u5_jY_114⟩ := id p_jY_114
    unfold D_X8_readLine_114
    refine vIf (fun h_115 => ?_) (fun h_115 => ?_)
    · have i_115 := congrArg Int32.toInt h_115
      (try simp only [Int32.toInt_add, Int32.toInt_sub, Int32.toInt_mul, Int32.toInt_toInt64, Int64.toInt_add, z_m1, Int32.reduceToInt, Int64.reduceToInt, Int32.reduceToNatClampNeg, Int.bmod_def] at i_115)
      exact ⟨_, rfl, k_114, kn_114, (by first | exact Or.inl rfl | exact Or.inr rfl | assumption), ⟨p_jX_114, p_jY_114, p_jZ_114, (by first | omega | (simp only [Int32.toInt_add, Int32.toInt_sub, Int32.toInt_mul, Int32.toInt_toInt64, Int64.toInt_add, z_m1, Int32.reduceToInt, Int64.reduceToInt, Int32.reduceToNatClampNeg, Int.bmod_def, or_true, true_or, and_true, true_and] <;> omega)), (by first | omega | (simp only [Int32.toInt_add, Int32.toInt_sub, Int32.toInt_mul, Int32.toInt_toInt64, Int64.toInt_add, z_m1, Int32.reduceToInt, Int64.reduceToInt, Int32.reduceToNatClampNeg, Int.bmod_def, or_true, true_or, and_true, true_and] <;> omega))⟩⟩
    · have i_115 : ¬ Int32.toInt x1_114 = Int32.toInt (0 : Int32) := fun q => h_115 (Int32.toInt_inj.mp q)
      (try simp only [Int32.toInt_add, Int32.toInt_sub, Int32.toInt_mul, Int32.toInt_toInt64, Int64.toInt_add, z_m1, Int32.reduceToInt, Int64.reduceToInt, Int32.reduceToNatClampNeg, Int.bmod_def] at i_115)
      refine vIf (fun h_125 => ?_) (fun h_125 => ?_)
      · have i_125 := congrArg Int32.toInt h_125
        (try simp only [Int32.toInt_add, Int32.toInt_sub, Int32.toInt_mul, Int32.toInt_toInt64, Int64.toInt_add, z_m1, Int32.reduceToInt, Int64.reduceToInt, Int32.reduceToNatClampNeg, Int.bmod_def] at i_125)
        refine vB (v_X8_next p_jX_114) (fun e_129 f_129 q_129 => ?_)
        have k_129 : ∀ a j, ¬ WM_X8_readLine P a j → e_129.2.1 a j = M0 a j := fun a j h => (q_129.1 a j (wz_M_X8_next_X8_readLine h)).trans (k_114 a j h)
        have kn_129 : ∀ a j, ¬ WN_X8_readLine P a j → e_129.2.2 a j = N0 a j := fun a j h => (q_129.2.1 a j (wz_N_X8_next_X8_readLine h)).trans (kn_114 a j h)
        have b_129 := q_129.2.2.1
        have c15_129 : Int32.toInt (e_129.2.1 P 15) = Int32.toInt (M_114 P 15) := congrArg Int32.toInt (q_129.1 P 15 (wc_X8_next_15))
        have c28_129 : Int32.toInt (e_129.2.1 P 28) = Int32.toInt (M_114 P 28) := congrArg Int32.toInt (q_129.1 P 28 (wc_X8_next_28))
        have c29_129 : Int32.toInt (e_129.2.1 P 29) = Int32.toInt (M_114 P 29) := congrArg Int32.toInt (q_129.1 P 29 (wc_X8_next_29))
        have c30_129 : Int32.toInt (e_129.2.1 P 30) = Int32.toInt (M_114 P 30) := congrArg Int32.toInt (q_129.1 P 30 (wc_X8_next_30))
        have c31_129 : Int32.toInt (e_129.2.1 P 31) = Int32.toInt (M_114 P 31) := congrArg Int32.toInt (q_129.1 P 31 (wc_X8_next_31))
        have n_129 : nA P e_129.2.1 = nA P M_114 := nA_congr (fun a j h => q_129.1 a j (wf_nA_X8_next h))
        have p_jY_129 : jY P e_129.2.1 := jY.mono p_jY_114 (fun a j h => q_129.1 a j (wf_jY_X8_next h))
        obtain ⟨u0_jY_129, u1_jY_129, u2_jY_129, u3_jY_129, u4_jY_129, u5_jY_129⟩ := id p_jY_129
        have p_jZ_129 : jZ P e_129.2.1 := jZ.mono p_jZ_114 (fun a j h => q_129.1 a j (wf_jZ_X8_next h))
        obtain ⟨x0_129, x1_129, x2_129, x3_129⟩ := q_129.2.2.2
        obtain ⟨u0_jX_129, u1_jX_129, u2_jX_129, u3_jX_129⟩ := id x0_129
        (try simp only [Int32.toInt_add, Int32.toInt_sub, Int32.toInt_mul, Int32.toInt_toInt64, Int64.toInt_add, z_m1, Int32.reduceToInt, Int64.reduceToInt, Int32.reduceToNatClampNeg, Int.bmod_def] at x1_129)
        (try simp only [Int32.toInt_add, Int32.toInt_sub, Int32.toInt_mul, Int32.toInt_toInt64, Int64.toInt_add, z_m1, Int32.reduceToInt, Int64.reduceToInt, Int32.reduceToNatClampNeg, Int.bmod_def] at x2_129)
        (try simp only [Int32.toInt_add, Int32.toInt_sub, Int32.toInt_mul, Int32.toInt_toInt64, Int64.toInt_add, z_m1, Int32.reduceToInt, Int64.reduceToInt, Int32.reduceToNatClampNeg, Int.bmod_def] at x3_129)
        exact T_140 _ _ _ k_129 kn_129 x0_129 p_jY_129 p_jZ_129 (by first | exact Or.inl rfl | exact Or.inr rfl | assumption) (by first | omega | (simp only [Int32.toInt_add, Int32.toInt_sub, Int32.toInt_mul, Int32.toInt_toInt64, Int64.toInt_add, z_m1, Int32.reduceToInt, Int64.reduceToInt, Int32.reduceToNatClampNeg, Int.bmod_def, or_true, true_or, and_true, true_and] <;> omega)) (by first | omega | (simp only [Int32.toInt_add, Int32.toInt_sub, Int32.toInt_mul, Int32.toInt_toInt64, Int64.toInt_add, z_m1, Int32.reduceToInt, Int64.reduceToInt, Int32.reduceToNatClampNeg, Int.bmod_def, or_true, true_or, and_true, true_and] <;> omega))
      · have i_125 : ¬ Int32.toInt (M_114 P 18) = Int32.toInt (4 : Int32) := fun q => h_125 (Int32.toInt_inj.mp q)
        (try simp only [Int32.toInt_add, Int32.toInt_sub, Int32.toInt_mul, Int32.toInt_toInt64, Int64.toInt_add, z_m1, Int32.reduceToInt, Int64.reduceToInt, Int32.reduceToNatClampNeg, Int.bmod_def] at i_125)
        refine vB (v_X8_bad) (fun e_137 f_137 q_137 => ?_)
        have k_137 : ∀ a j, ¬ WM_X8_readLine P a j → e_137.2 a j = M0 a j := fun a j h => (q_137.1 a j (wz_M_X8_bad_X8_readLine h)).trans (k_114 a j h)
        have b_137 := q_137.2.1
        have c15_137 : Int32.toInt (e_137.2 P 15) = Int32.toInt (M_114 P 15) := congrArg Int32.toInt (q_137.1 P 15 (wc_X8_bad_15))
        have c17_137 : Int32.toInt (e_137.2 P 17) = Int32.toInt (M_114 P 17) := congrArg Int32.toInt (q_137.1 P 17 (wc_X8_bad_17))
        have c18_137 : Int32.toInt (e_137.2 P 18) = Int32.toInt (M_114 P 18) := congrArg Int32.toInt (q_137.1 P 18 (wc_X8_bad_18))
        have c20_137 : Int32.toInt (e_137.2 P 20) = Int32.toInt (M_114 P 20) := congrArg Int32.toInt (q_137.1 P 20 (wc_X8_bad_20))
        have c28_137 : Int32.toInt (e_137.2 P 28) = Int32.toInt (M_114 P 28) := congrArg Int32.toInt (q_137.1 P 28 (wc_X8_bad_28))
        have c29_137 : Int32.toInt (e_137.2 P 29) = Int32.toInt (M_114 P 29) := congrArg Int32.toInt (q_137.1 P 29 (wc_X8_bad_29))
        have c30_137 : Int32.toInt (e_137.2 P 30) = Int32.toInt (M_114 P 30) := congrArg Int32.toInt (q_137.1 P 30 (wc_X8_bad_30))
        have c31_137 : Int32.toInt (e_137.2 P 31) = Int32.toInt (M_114 P 31) := congrArg Int32.toInt (q_137.1 P 31 (wc_X8_bad_31))
        have n_137 : nA P e_137.2 = nA P M_114 := nA_congr (fun a j h => q_137.1 a j (wf_nA_X8_bad h))
        have p_jX_137 : jX P e_137.2 := jX.mono p_jX_114 (fun a j h => q_137.1 a j (wf_jX_X8_bad h))
        obtain ⟨u0_jX_137, u1_jX_137, u2_jX_137, u3_jX_137⟩ := id p_jX_137
        have p_jY_137 : jY P e_137.2 := jY.mono p_jY_114 (fun a j h => q_137.1 a j (wf_jY_X8_bad h))
        obtain ⟨u0_jY_137, u1_jY_137, u2_jY_137, u3_jY_137, u4_jY_137, u5_jY_137⟩ := id p_jY_137
        have p_jZ_137 : jZ P e_137.2 := jZ.mono p_jZ_114 (fun a j h => q_137.1 a j (wf_jZ_X8_bad h))
        have x0_137 := q_137.2.2
        (try simp only [Int32.toInt_add, Int32.toInt_sub, Int32.toInt_mul, Int32.toInt_toInt64, Int64.toInt_add, z_m1, Int32.reduceToInt, Int64.reduceToInt, Int32.reduceToNatClampNeg, Int.bmod_def] at x0_137)
        exact T_140 _ _ _ k_137 kn_114 p_jX_137 p_jY_137 p_jZ_137 (by first | exact Or.inl rfl | exact Or.inr rfl | assumption) (by first | omega | (simp only [Int32.toInt_add, Int32.toInt_sub, Int32.toInt_mul, Int32.toInt_toInt64, Int64.toInt_add, z_m1, Int32.reduceToInt, Int64.reduceToInt, Int32.reduceToNatClampNeg, Int.bmod_def, or_true, true_or, and_true, true_and] <;> omega)) (by first | omega | (simp only [Int32.toInt_add, Int32.toInt_sub, Int32.toInt_mul, Int32.toInt_toInt64, Int64.toInt_add, z_m1, Int32.reduceToInt, Int64.reduceToInt, Int32.reduceToNatClampNeg, Int.bmod_def, or_true, true_or, and_true, true_and] <;> omega))
  have T_108 : ∀ (M_108 : zMt) (N_108 : zNt), (∀ a j, ¬ WM_X8_readLine P a j → M_108 a j = M0 a j) → (∀ a j, ¬ WN_X8_readLine P a j → N_108 a j = N0 a j) → (jX P M_108) → (jY P M_108) → (jZ P M_108) → (Int32.toInt (M0 P 17) ≤ Int32.toInt (M_108 P 17)) → ∃ r, D_X8_readLine_108 P M_108 N_108 = some r ∧ ((∀ a j, ¬ WM_X8_readLine P a j → r.2.1 a j = M0 a j) ∧ (∀ a j, ¬ WN_X8_readLine P a j → r.2.2 a j = N0 a j) ∧ (r.1 = 0 ∨ r.1 = 1) ∧ ((jX P r.2.1) ∧ (jY P r.2.1) ∧ (jZ P r.2.1) ∧ (Int32.toInt (M0 P 17) ≤ Int32.toInt (r.2.1 P 17)) ∧ (Int32.toInt r.1 = 0 ∨ Int32.toInt (r.2.1 P 18) = 0 ∨ Int32.toInt (M0 P 17) < Int32.toInt (r.2.1 P 17)))) := by
    intro M_108 N_108 k_108 kn_108 p_jX_108 p_jY_108 p_jZ_108 f0_108
    obtain ⟨u0_jX_108, u1_jX_108, u2_jX_108, u3_jX_108⟩ := id p_jX_108
    obtain ⟨u0_jY_108, u1_jY_108, u2_jY_108, u3_jY_108, u4_jY_108, u5_jY_108⟩ := id p_jY_108
    unfold D_X8_readLine_108
    refine vB (v_X8_bad) (fun e_110 f_110 q_110 => ?_)
    have k_110 : ∀ a j, ¬ WM_X8_readLine P a j → e_110.2 a j = M0 a j := fun a j h => (q_110.1 a j (wz_M_X8_bad_X8_readLine h)).trans (k_108 a j h)
    have b_110 := q_110.2.1
    have c15_110 : Int32.toInt (e_110.2 P 15) = Int32.toInt (M_108 P 15) := congrArg Int32.toInt (q_110.1 P 15 (wc_X8_bad_15))
    have c17_110 : Int32.toInt (e_110.2 P 17) = Int32.toInt (M_108 P 17) := congrArg Int32.toInt (q_110.1 P 17 (wc_X8_bad_17))
    have c18_110 : Int32.toInt (e_110.2 P 18) = Int32.toInt (M_108 P 18) := congrArg Int32.toInt (q_110.1 P 18 (wc_X8_bad_18))
    have c20_110 : Int32.toInt (e_110.2 P 20) = Int32.toInt (M_108 P 20) := congrArg Int32.toInt (q_110.1 P 20 (wc_X8_bad_20))
    have c28_110 : Int32.toInt (e_110.2 P 28) = Int32.toInt (M_108 P 28) := congrArg Int32.toInt (q_110.1 P 28 (wc_X8_bad_28))
    have c29_110 : Int32.toInt (e_110.2 P 29) = Int32.toInt (M_108 P 29) := congrArg Int32.toInt (q_110.1 P 29 (wc_X8_bad_29))
    have c30_110 : Int32.toInt (e_110.2 P 30) = Int32.toInt (M_108 P 30) := congrArg Int32.toInt (q_110.1 P 30 (wc_X8_bad_30))
    have c31_110 : Int32.toInt (e_110.2 P 31) = Int32.toInt (M_108 P 31) := congrArg Int32.toInt (q_110.1 P 31 (wc_X8_bad_31))
    have n_110 : nA P e_110.2 = nA P M_108 := nA_congr (fun a j h => q_110.1 a j (wf_nA_X8_bad h))
    have p_jX_110 : jX P e_110.2 := jX.mono p_jX_108 (fun a j h => q_110.1 a j (wf_jX_X8_bad h))
    obtain ⟨u0_jX_110, u1_jX_110, u2_jX_110, u3_jX_110⟩ := id p_jX_110
    have p_jY_110 : jY P e_110.2 := jY.mono p_jY_108 (fun a j h => q_110.1 a j (wf_jY_X8_bad h))
    obtain ⟨u0_jY_110, u1_jY_110, u2_jY_110, u3_jY_110, u4_jY_110, u5_jY_110⟩ := id p_jY_110
    have p_jZ_110 : jZ P e_110.2 := jZ.mono p_jZ_108 (fun a j h => q_110.1 a j (wf_jZ_X8_bad h))
    have x0_110 := q_110.2.2
    (try simp only [Int32.toInt_add, Int32.toInt_sub, Int32.toInt_mul, Int32.toInt_toInt64, Int64.toInt_add, z_m1, Int32.reduceToInt, Int64.reduceToInt, Int32.reduceToNatClampNeg, Int.bmod_def] at x0_110)
    exact ⟨_, rfl, k_110, kn_108, (by first | exact Or.inl rfl | exact Or.inr rfl | assumption), ⟨p_jX_110, p_jY_110, p_jZ_110, (by first | omega | (simp only [Int32.toInt_add, Int32.toInt_sub, Int32.toInt_mul, Int32.toInt_toInt64, Int64.toInt_add, z_m1, Int32.reduceToInt, Int64.reduceToInt, Int32.reduceToNatClampNeg, Int.bmod_def, or_true, true_or, and_true, true_and] <;> omega)), (by first | omega | (simp only [Int32.toInt_add, Int32.toInt_sub, Int32.toInt_mul, Int32.toInt_toInt64, Int64.toInt_add, z_m1, Int32.reduceToInt, Int64.reduceToInt, Int32.reduceToNatClampNeg, Int.bmod_def, or_true, true_or, and_true, true_and] <;> omega))⟩⟩
  have T_96 : ∀ (M_96 : zMt) (N_96 : zNt), (∀ a j, ¬ WM_X8_readLine P a j → M_96 a j = M0 a j) → (∀ a j, ¬ WN_X8_readLine P a j → N_96 a j = N0 a j) → (jX P M_96) → (jY P M_96) → (jZ P M_96) → (Int32.toInt (M0 P 17) ≤ Int32.toInt (M_96 P 17)) → ∃ r, D_X8_readLine_96 P M_96 N_96 = some r ∧ ((∀ a j, ¬ WM_X8_readLine P a j → r.2.1 a j = M0 a j) ∧ (∀ a j, ¬ WN_X8_readLine P a j → r.2.2 a j = N0 a j) ∧ (r.1 = 0 ∨ r.1 = 1) ∧ ((jX P r.2.1) ∧ (jY P r.2.1) ∧ (jZ P r.2.1) ∧ (Int32.toInt (M0 P 17) ≤ Int32.toInt (r.2.1 P 17)) ∧ (Int32.toInt r.1 = 0 ∨ Int32.toInt (r.2.1 P 18) = 0 ∨ Int32.toInt (M0 P 17) < Int32.toInt (r.2.1 P 17)))) := by
    intro M_96 N_96 k_96 kn_96 p_jX_96 p_jY_96 p_jZ_96 f0_96
    obtain ⟨u0_jX_96, u1_jX_96, u2_jX_96, u3_jX_96⟩ := id p_jX_96
    obtain ⟨u0_jY_96, u1_jY_96, u2_jY_96, u3_jY_96, u4_jY_96, u5_jY_96⟩ := id p_jY_96
    unfold D_X8_readLine_96
    refine vB (v_X8_readOnce p_jX_96 p_jY_96 p_jZ_96) (fun e_101 f_101 q_101 => ?_)
    have k_101 : ∀ a j, ¬ WM_X8_readLine P a j → e_101.2.1 a j = M0 a j := fun a j h => (q_101.1 a j (wz_M_X8_readOnce_X8_readLine h)).trans (k_96 a j h)
    have kn_101 : ∀ a j, ¬ WN_X8_readLine P a j → e_101.2.2 a j = N0 a j := fun a j h => (q_101.2.1 a j (wz_N_X8_readOnce_X8_readLine h)).trans (kn_96 a j h)
    have b_101 := q_101.2.2.1
    have c15_101 : Int32.toInt (e_101.2.1 P 15) = Int32.toInt (M_96 P 15) := congrArg Int32.toInt (q_101.1 P 15 (wc_X8_readOnce_15))
    have c28_101 : Int32.toInt (e_101.2.1 P 28) = Int32.toInt (M_96 P 28) := congrArg Int32.toInt (q_101.1 P 28 (wc_X8_readOnce_28))
    have c29_101 : Int32.toInt (e_101.2.1 P 29) = Int32.toInt (M_96 P 29) := congrArg Int32.toInt (q_101.1 P 29 (wc_X8_readOnce_29))
    have c30_101 : Int32.toInt (e_101.2.1 P 30) = Int32.toInt (M_96 P 30) := congrArg Int32.toInt (q_101.1 P 30 (wc_X8_readOnce_30))
    have n_101 : nA P e_101.2.1 = nA P M_96 := nA_congr (fun a j h => q_101.1 a j (wf_nA_X8_readOnce h))
    have p_jY_101 : jY P e_101.2.1 := jY.mono p_jY_96 (fun a j h => q_101.1 a j (wf_jY_X8_readOnce h))
    obtain ⟨u0_jY_101, u1_jY_101, u2_jY_101, u3_jY_101, u4_jY_101, u5_jY_101⟩ := id p_jY_101
    obtain ⟨x0_101, x1_101, x2_101, x3_101⟩ := q_101.2.2.2
    obtain ⟨u0_jX_101, u1_jX_101, u2_jX_101, u3_jX_101⟩ := id x0_101
    obtain ⟨u0_jY_101, u1_jY_101, u2_jY_101, u3_jY_101, u4_jY_101, u5_jY_101⟩ := id x1_101
    (try simp only [Int32.toInt_add, Int32.toInt_sub, Int32.toInt_mul, Int32.toInt_toInt64, Int64.toInt_add, z_m1, Int32.reduceToInt, Int64.reduceToInt, Int32.reduceToNatClampNeg, Int.bmod_def] at x3_101)
    exact T_114 _ _ _ k_101 kn_101 x0_101 x1_101 x2_101 (by first | exact Or.inl rfl | exact Or.inr rfl | assumption) (by first | omega | (simp only [Int32.toInt_add, Int32.toInt_sub, Int32.toInt_mul, Int32.toInt_toInt64, Int64.toInt_add, z_m1, Int32.reduceToInt, Int64.reduceToInt, Int32.reduceToNatClampNeg, Int.bmod_def, or_true, true_or, and_true, true_and] <;> omega))
  have T_16 : ∀ (y0_16 : Int32) (M_16 : zMt) (N_16 : zNt), (∀ a j, ¬ WM_X8_readLine P a j → M_16 a j = M0 a j) → (∀ a j, ¬ WN_X8_readLine P a j → N_16 a j = N0 a j) → (jX P M_16) → (jY P M_16) → (jZ P M_16) → (Int32.toInt (M0 P 17) ≤ Int32.toInt (M_16 P 17)) → ∃ r, D_X8_readLine_16 P y0_16 M_16 N_16 = some r ∧ ((∀ a j, ¬ WM_X8_readLine P a j → r.2.1 a j = M0 a j) ∧ (∀ a j, ¬ WN_X8_readLine P a j → r.2.2 a j = N0 a j) ∧ (r.1 = 0 ∨ r.1 = 1) ∧ ((jX P r.2.1) ∧ (jY P r.2.1) ∧ (jZ P r.2.1) ∧ (Int32.toInt (M0 P 17) ≤ Int32.toInt (r.2.1 P 17)) ∧ (Int32.toInt r.1 = 0 ∨ Int32.toInt (r.2.1 P 18) = 0 ∨ Int32.toInt (M0 P 17) < Int32.toInt (r.2.1 P 17)))) := by
    intro y0_16 M_16 N_16 k_16 kn_16 p_jX_16 p_jY_16 p_jZ_16 f0_16
    obtain ⟨u0_jX_16, u1_jX_16, u2_jX_16, u3_jX_16⟩ := id p_jX_16
    obtain ⟨u0_jY_16, u1_jY_16, u2_jY_16, u3_jY_16, u4_jY_16, u5_jY_16⟩ := id p_jY_16
    unfold D_X8_readLine_16
    refine vIf (fun h_16 => ?_) (fun h_16_0 => ?_)
    · skip
      refine vB (v_X8_readUnit p_jX_16 p_jY_16 p_jZ_16) (fun e_65 f_65 q_65 => ?_)
      have k_65 : ∀ a j, ¬ WM_X8_readLine P a j → e_65.2.1 a j = M0 a j := fun a j h => (q_65.1 a j (wz_M_X8_readUnit_X8_readLine h)).trans (k_16 a j h)
      have kn_65 : ∀ a j, ¬ WN_X8_readLine P a j → e_65.2.2 a j = N0 a j := fun a j h => (q_65.2.1 a j (wz_N_X8_readUnit_X8_readLine h)).trans (kn_16 a j h)
      have b_65 := q_65.2.2.1
      have c15_65 : Int32.toInt (e_65.2.1 P 15) = Int32.toInt (M_16 P 15) := congrArg Int32.toInt (q_65.1 P 15 (wc_X8_readUnit_15))
      have c29_65 : Int32.toInt (e_65.2.1 P 29) = Int32.toInt (M_16 P 29) := congrArg Int32.toInt (q_65.1 P 29 (wc_X8_readUnit_29))
      have c30_65 : Int32.toInt (e_65.2.1 P 30) = Int32.toInt (M_16 P 30) := congrArg Int32.toInt (q_65.1 P 30 (wc_X8_readUnit_30))
      have n_65 : nA P e_65.2.1 = nA P M_16 := nA_congr (fun a j h => q_65.1 a j (wf_nA_X8_readUnit h))
      obtain ⟨x0_65, x1_65, x2_65, x3_65⟩ := q_65.2.2.2
      obtain ⟨u0_jX_65, u1_jX_65, u2_jX_65, u3_jX_65⟩ := id x0_65
      obtain ⟨u0_jY_65, u1_jY_65, u2_jY_65, u3_jY_65, u4_jY_65, u5_jY_65⟩ := id x1_65
      (try simp only [Int32.toInt_add, Int32.toInt_sub, Int32.toInt_mul, Int32.toInt_toInt64, Int64.toInt_add, z_m1, Int32.reduceToInt, Int64.reduceToInt, Int32.reduceToNatClampNeg, Int.bmod_def] at x3_65)
      exact T_114 _ _ _ k_65 kn_65 x0_65 x1_65 x2_65 (by first | exact Or.inl rfl | exact Or.inr rfl | assumption) (by first | omega | (simp only [Int32.toInt_add, Int32.toInt_sub, Int32.toInt_mul, Int32.toInt_toInt64, Int64.toInt_add, z_m1, Int32.reduceToInt, Int64.reduceToInt, Int32.reduceToNatClampNeg, Int.bmod_def, or_true, true_or, and_true, true_and] <;> omega))
    refine vIf (fun h_16 => ?_) (fun h_16_1 => ?_)
    · skip
      refine vB (v_X8_readHunter p_jX_16 p_jY_16 p_jZ_16) (fun e_73 f_73 q_73 => ?_)
      have k_73 : ∀ a j, ¬ WM_X8_readLine P a j → e_73.2.1 a j = M0 a j := fun a j h => (q_73.1 a j (wz_M_X8_readHunter_X8_readLine h)).trans (k_16 a j h)
      have kn_73 : ∀ a j, ¬ WN_X8_readLine P a j → e_73.2.2 a j = N0 a j := fun a j h => (q_73.2.1 a j (wz_N_X8_readHunter_X8_readLine h)).trans (kn_16 a j h)
      have b_73 := q_73.2.2.1
      have c15_73 : Int32.toInt (e_73.2.1 P 15) = Int32.toInt (M_16 P 15) := congrArg Int32.toInt (q_73.1 P 15 (wc_X8_readHunter_15))
      have c28_73 : Int32.toInt (e_73.2.1 P 28) = Int32.toInt (M_16 P 28) := congrArg Int32.toInt (q_73.1 P 28 (wc_X8_readHunter_28))
      have c30_73 : Int32.toInt (e_73.2.1 P 30) = Int32.toInt (M_16 P 30) := congrArg Int32.toInt (q_73.1 P 30 (wc_X8_readHunter_30))
      have n_73 : nA P e_73.2.1 = nA P M_16 := nA_congr (fun a j h => q_73.1 a j (wf_nA_X8_readHunter h))
      obtain ⟨x0_73, x1_73, x2_73, x3_73⟩ := q_73.2.2.2
      obtain ⟨u0_jX_73, u1_jX_73, u2_jX_73, u3_jX_73⟩ := id x0_73
      obtain ⟨u0_jY_73, u1_jY_73, u2_jY_73, u3_jY_73, u4_jY_73, u5_jY_73⟩ := id x1_73
      (try simp only [Int32.toInt_add, Int32.toInt_sub, Int32.toInt_mul, Int32.toInt_toInt64, Int64.toInt_add, z_m1, Int32.reduceToInt, Int64.reduceToInt, Int32.reduceToNatClampNeg, Int.bmod_def] at x3_73)
      exact T_114 _ _ _ k_73 kn_73 x0_73 x1_73 x2_73 (by first | exact Or.inl rfl | exact Or.inr rfl | assumption) (by first | omega | (simp only [Int32.toInt_add, Int32.toInt_sub, Int32.toInt_mul, Int32.toInt_toInt64, Int64.toInt_add, z_m1, Int32.reduceToInt, Int64.reduceToInt, Int32.reduceToNatClampNeg, Int.bmod_def, or_true, true_or, and_true, true_and] <;> omega))
    refine vIf (fun h_16 => ?_) (fun h_16_2 => ?_)
    · skip
      exact T_108 _ _ k_16 kn_16 p_jX_16 p_jY_16 p_jZ_16 (by first | omega | (simp only [Int32.toInt_add, Int32.toInt_sub, Int32.toInt_mul, Int32.toInt_toInt64, Int64.toInt_add, z_m1, Int32.reduceToInt, Int64.reduceToInt, Int32.reduceToNatClampNeg, Int.bmod_def, or_true, true_or, and_true, true_and] <;> omega))
    refine vIf (fun h_16 => ?_) (fun h_16_3 => ?_)
    · skip
      refine vB (v_X8_readParty p_jX_16 p_jY_16 p_jZ_16) (fun e_81 f_81 q_81 => ?_)
      have k_81 : ∀ a j, ¬ WM_X8_readLine P a j → e_81.2.1 a j = M0 a j := fun a j h => (q_81.1 a j (wz_M_X8_readParty_X8_readLine h)).trans (k_16 a j h)
      have kn_81 : ∀ a j, ¬ WN_X8_readLine P a j → e_81.2.2 a j = N0 a j := fun a j h => (q_81.2.1 a j (wz_N_X8_readParty_X8_readLine h)).trans (kn_16 a j h)
      have b_81 := q_81.2.2.1
      have c15_81 : Int32.toInt (e_81.2.1 P 15) = Int32.toInt (M_16 P 15) := congrArg Int32.toInt (q_81.1 P 15 (wc_X8_readParty_15))
      have c28_81 : Int32.toInt (e_81.2.1 P 28) = Int32.toInt (M_16 P 28) := congrArg Int32.toInt (q_81.1 P 28 (wc_X8_readParty_28))
      have c29_81 : Int32.toInt (e_81.2.1 P 29) = Int32.toInt (M_16 P 29) := congrArg Int32.toInt (q_81.1 P 29 (wc_X8_readParty_29))
      have c31_81 : Int32.toInt (e_81.2.1 P 31) = Int32.toInt (M_16 P 31) := congrArg Int32.toInt (q_81.1 P 31 (wc_X8_readParty_31))
      have n_81 : nA P e_81.2.1 = nA P M_16 := nA_congr (fun a j h => q_81.1 a j (wf_nA_X8_readParty h))
      obtain ⟨x0_81, x1_81, x2_81, x3_81⟩ := q_81.2.2.2
      obtain ⟨u0_jX_81, u1_jX_81, u2_jX_81, u3_jX_81⟩ := id x0_81
      obtain ⟨u0_jY_81, u1_jY_81, u2_jY_81, u3_jY_81, u4_jY_81, u5_jY_81⟩ := id x1_81
      (try simp only [Int32.toInt_add, Int32.toInt_sub, Int32.toInt_mul, Int32.toInt_toInt64, Int64.toInt_add, z_m1, Int32.reduceToInt, Int64.reduceToInt, Int32.reduceToNatClampNeg, Int.bmod_def] at x3_81)
      exact T_114 _ _ _ k_81 kn_81 x0_81 x1_81 x2_81 (by first | exact Or.inl rfl | exact Or.inr rfl | assumption) (by first | omega | (simp only [Int32.toInt_add, Int32.toInt_sub, Int32.toInt_mul, Int32.toInt_toInt64, Int64.toInt_add, z_m1, Int32.reduceToInt, Int64.reduceToInt, Int32.reduceToNatClampNeg, Int.bmod_def, or_true, true_or, and_true, true_and] <;> omega))
    refine vIf (fun h_16 => ?_) (fun h_16_4 => ?_)
    · skip
      refine vB (v_X8_readAsks p_jX_16 p_jY_16 p_jZ_16) (fun e_89 f_89 q_89 => ?_)
      have k_89 : ∀ a j, ¬ WM_X8_readLine P a j → e_89.2.1 a j = M0 a j := fun a j h => (q_89.1 a j (wz_M_X8_readAsks_X8_readLine h)).trans (k_16 a j h)
      have kn_89 : ∀ a j, ¬ WN_X8_readLine P a j → e_89.2.2 a j = N0 a j := fun a j h => (q_89.2.1 a j (wz_N_X8_readAsks_X8_readLine h)).trans (kn_16 a j h)
      have b_89 := q_89.2.2.1
      have c15_89 : Int32.toInt (e_89.2.1 P 15) = Int32.toInt (M_16 P 15) := congrArg Int32.toInt (q_89.1 P 15 (wc_X8_readAsks_15))
      have c28_89 : Int32.toInt (e_89.2.1 P 28) = Int32.toInt (M_16 P 28) := congrArg Int32.toInt (q_89.1 P 28 (wc_X8_readAsks_28))
      have c29_89 : Int32.toInt (e_89.2.1 P 29) = Int32.toInt (M_16 P 29) := congrArg Int32.toInt (q_89.1 P 29 (wc_X8_readAsks_29))
      have c30_89 : Int32.toInt (e_89.2.1 P 30) = Int32.toInt (M_16 P 30) := congrArg Int32.toInt (q_89.1 P 30 (wc_X8_readAsks_30))
      have c31_89 : Int32.toInt (e_89.2.1 P 31) = Int32.toInt (M_16 P 31) := congrArg Int32.toInt (q_89.1 P 31 (wc_X8_readAsks_31))
      have n_89 : nA P e_89.2.1 = nA P M_16 := nA_congr (fun a j h => q_89.1 a j (wf_nA_X8_readAsks h))
      have p_jY_89 : jY P e_89.2.1 := jY.mono p_jY_16 (fun a j h => q_89.1 a j (wf_jY_X8_readAsks h))
      obtain ⟨u0_jY_89, u1_jY_89, u2_jY_89, u3_jY_89, u4_jY_89, u5_jY_89⟩ := id p_jY_89
      obtain ⟨x0_89, x1_89, x2_89, x3_89⟩ := q_89.2.2.2
      obtain ⟨u0_jX_89, u1_jX_89, u2_jX_89, u3_jX_89⟩ := id x0_89
      obtain ⟨u0_jY_89, u1_jY_89, u2_jY_89, u3_jY_89, u4_jY_89, u5_jY_89⟩ := id x1_89
      (try simp only [Int32.toInt_add, Int32.toInt_sub, Int32.toInt_mul, Int32.toInt_toInt64, Int64.toInt_add, z_m1, Int32.reduceToInt, Int64.reduceToInt, Int32.reduceToNatClampNeg, Int.bmod_def] at x3_89)
      exact T_114 _ _ _ k_89 kn_89 x0_89 x1_89 x2_89 (by first | exact Or.inl rfl | exact Or.inr rfl | assumption) (by first | omega | (simp only [Int32.toInt_add, Int32.toInt_sub, Int32.toInt_mul, Int32.toInt_toInt64, Int64.toInt_add, z_m1, Int32.reduceToInt, Int64.reduceToInt, Int32.reduceToNatClampNeg, Int.bmod_def, or_true, true_or, and_true, true_and] <;> omega))
    refine vIf (fun h_16 => ?_) (fun h_16_5 => ?_)
    · skip
      exact T_96 _ _ k_16 kn_16 p_jX_16 p_jY_16 p_jZ_16 (by first | omega | (simp only [Int32.toInt_add, Int32.toInt_sub, Int32.toInt_mul, Int32.toInt_toInt64, Int64.toInt_add, z_m1, Int32.reduceToInt, Int64.reduceToInt, Int32.reduceToNatClampNeg, Int.bmod_def, or_true, true_or, and_true, true_and] <;> omega))
    refine vIf (fun h_16 => ?_) (fun h_16_6 => ?_)
    · skip
      exact T_96 _ _ k_16 kn_16 p_jX_16 p_jY_16 p_jZ_16 (by first | omega | (simp only [Int32.toInt_add, Int32.toInt_sub, Int32.toInt_mul, Int32.toInt_toInt64, Int64.toInt_add, z_m1, Int32.reduceToInt, Int64.reduceToInt, Int32.reduceToNatClampNeg, Int.bmod_def, or_true, true_or, and_true, true_and] <;> omega))
    refine vIf (fun h_16 => ?_) (fun h_16_7 => ?_)
    · skip
      exact T_96 _ _ k_16 kn_16 p_jX_16 p_jY_16 p_jZ_16 (by first | omega | (simp only [Int32.toInt_add, Int32.toInt_sub, Int32.toInt_mul, Int32.toInt_toInt64, Int64.toInt_add, z_m1, Int32.reduceToInt, Int64.reduceToInt, Int32.reduceToNatClampNeg, Int.bmod_def, or_true, true_or, and_true, true_and] <;> omega))
    exact T_108 _ _ k_16 kn_16 p_jX_16 p_jY_16 p_jZ_16 (by first | omega | (simp only [Int32.toInt_add, Int32.toInt_sub, Int32.toInt_mul, Int32.toInt_toInt64, Int64.toInt_add, z_m1, Int32.reduceToInt, Int64.reduceToInt, Int32.reduceToNatClampNeg, Int.bmod_def, or_true, true_or, and_true, true_and] <;> omega))
  unfold D_X8_readLine
  refine vIf (fun h_5 => ?_) (fun h_5 => ?_)
  · have i_5 := congrArg Int32.toInt h_5
    (try simp only [Int32.toInt_add, Int32.toInt_sub, Int32.toInt_mul, Int32.toInt_toInt64, Int64.toInt_add, z_m1, Int32.reduceToInt, Int64.reduceToInt, Int32.reduceToNatClampNeg, Int.bmod_def] at i_5)
    exact T_16 _ _ _ (fun _ _ _ => rfl) (fun _ _ _ => rfl) p_jX p_jY p_jZ (by first | omega | (simp only [Int32.toInt_add, Int32.toInt_sub, Int32.toInt_mul, Int32.toInt_toInt64, Int64.toInt_add, z_m1, Int32.reduceToInt, Int64.reduceToInt, Int32.reduceToNatClampNeg, Int.bmod_def, or_true, true_or, and_true, true_and] <;> omega))
  · have i_5 : ¬ Int32.toInt (M0 P 18) = Int32.toInt (2 : Int32) := fun q => h_5 (Int32.toInt_inj.mp q)
    (try simp only [Int32.toInt_add, Int32.toInt_sub, Int32.toInt_mul, Int32.toInt_toInt64, Int64.toInt_add, z_m1, Int32.reduceToInt, Int64.reduceToInt, Int32.reduceToNatClampNeg, Int.bmod_def] at i_5)
    exact T_16 _ _ _ (fun _ _ _ => rfl) (fun _ _ _ => rfl) p_jX p_jY p_jZ (by first | omega | (simp only [Int32.toInt_add, Int32.toInt_sub, Int32.toInt_mul, Int32.toInt_toInt64, Int64.toInt_add, z_m1, Int32.reduceToInt, Int64.reduceToInt, Int32.reduceToNatClampNeg, Int.bmod_def, or_true, true_or, and_true, true_and] <;> omega))
