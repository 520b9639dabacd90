def WM_X8_number (P : Nat) (a j : Nat) : Prop := (a = P ∧ (j = 16 ∨ j = 17 ∨ j = 18 ∨ j = 19 ∨ j = 20 ∨ j = 21 ∨ j = 22 ∨ j = 31))
def WN_X8_number (P : Nat) (a j : Nat) : Prop := (a = P ∧ (j = 24))
theorem wz_M_X8_bad_X8_number {P a j : Nat} (h : ¬ WM_X8_number P a j) : ¬ WM_X8_bad P a j := by unfold WM_X8_bad; unfold WM_X8_number at h; omega
theorem wc_X8_bad_15 {P : Nat} : ¬ WM_X8_bad P P 15 := by unfold WM_X8_bad; omega
theorem wc_X8_bad_17 {P : Nat} : ¬ WM_X8_bad P P 17 := by unfold WM_X8_bad; omega
theorem wc_X8_bad_18 {P : Nat} : ¬ WM_X8_bad P P 18 := by unfold WM_X8_bad; omega
theorem wc_X8_bad_20 {P : Nat} : ¬ WM_X8_bad P P 20 := by unfold WM_X8_bad; omega
theorem wc_X8_bad_28 {P : Nat} : ¬ WM_X8_bad P P 28 := by unfold WM_X8_bad; omega
theorem wc_X8_bad_29 {P : Nat} : ¬ WM_X8_bad P P 29 := by unfold WM_X8_bad; omega
theorem wc_X8_bad_30 {P : Nat} : ¬ WM_X8_bad P P 30 := by unfold WM_X8_bad; omega
theorem wc_X8_bad_31 {P : Nat} : ¬ WM_X8_bad P P 31 := by unfold WM_X8_bad; omega
theorem wf_nA_X8_bad {P a j : Nat} (h : (a = P + 1 ∨ (a = P ∧ j = 8))) : ¬ WM_X8_bad P a j := by unfold WM_X8_bad; omega
theorem wf_jX_X8_bad {P a j : Nat} (h : (a = P ∧ (j = 15 ∨ j = 17))) : ¬ WM_X8_bad P a j := by unfold WM_X8_bad; omega
theorem wf_jY_X8_bad {P a j : Nat} (h : (a = P ∧ (j = 28 ∨ j = 29 ∨ j = 30))) : ¬ WM_X8_bad P a j := by unfold WM_X8_bad; omega
theorem wq_X8_number_M0_31 {P a j : Nat} (h : ¬ WM_X8_number P a j) : ¬ (a = P ∧ j = 31) := by unfold WM_X8_number at h; omega
theorem wf_nA_M0_31 {P a j : Nat} (h : (a = P + 1 ∨ (a = P ∧ j = 8))) : ¬ (a = P ∧ j = 31) := by omega
theorem wf_jX_M0_31 {P a j : Nat} (h : (a = P ∧ (j = 15 ∨ j = 17))) : ¬ (a = P ∧ j = 31) := by omega
theorem wf_jY_M0_31 {P a j : Nat} (h : (a = P ∧ (j = 28 ∨ j = 29 ∨ j = 30))) : ¬ (a = P ∧ j = 31) := by omega
theorem wz_M_X8_next_X8_number {P a j : Nat} (h : ¬ WM_X8_number P a j) : ¬ WM_X8_next P a j := by unfold WM_X8_next; unfold WM_X8_number at h; omega
theorem wz_N_X8_next_X8_number {P a j : Nat} (h : ¬ WN_X8_number P a j) : ¬ WN_X8_next P a j := by unfold WN_X8_next; unfold WN_X8_number at h; omega
theorem wc_X8_next_15 {P : Nat} : ¬ WM_X8_next P P 15 := by unfold WM_X8_next; omega
theorem wc_X8_next_28 {P : Nat} : ¬ WM_X8_next P P 28 := by unfold WM_X8_next; omega
theorem wc_X8_next_29 {P : Nat} : ¬ WM_X8_next P P 29 := by unfold WM_X8_next; omega
theorem wc_X8_next_30 {P : Nat} : ¬ WM_X8_next P P 30 := by unfold WM_X8_next; omega
theorem wc_X8_next_31 {P : Nat} : ¬ WM_X8_next P P 31 := by unfold WM_X8_next; omega
theorem wf_nA_X8_next {P a j : Nat} (h : (a = P + 1 ∨ (a = P ∧ j = 8))) : ¬ WM_X8_next P a j := by unfold WM_X8_next; omega
theorem wf_jY_X8_next {P a j : Nat} (h : (a = P ∧ (j = 28 ∨ j = 29 ∨ j = 30))) : ¬ WM_X8_next P a j := by unfold WM_X8_next; omega
set_option maxRecDepth 100000 in
set_option maxHeartbeats 4000000 in
theorem v_X8_number {P : Nat} {v0 : Int32} {v1 : Int32} {M0 : zMt} {N0 : zNt}  (p_jX : jX P M0) (p_jY : jY P M0) (i_2 : 0 ≤ Int32.toInt v0) : ∃ r, D_X8_number P v0 v1 M0 N0 = some r ∧ ((∀ a j, ¬ WM_X8_number P a j → r.2.1 a j = M0 a j) ∧ (∀ a j, ¬ WN_X8_number P a j → r.2.2 a j = N0 a j) ∧ (r.1 = 0 ∨ r.1 = 1) ∧ ((jX P r.2.1) ∧ (Int32.toInt (M0 P 17) ≤ Int32.toInt (r.2.1 P 17)) ∧ (Int32.toInt r.1 = 0 ∨ (Int32.toInt v0 ≤ Int32.toInt (r.2.1 P 31) ∧ Int32.toInt (r.2.1 P 31) ≤ Int32.toInt v1)))) := by
  obtain ⟨u0_jX, u1_jX, u2_jX, u3_jX⟩ := id p_jX
  obtain ⟨u0_jY, u1_jY, u2_jY, u3_jY, u4_jY, u5_jY⟩ := id p_jY
  unfold D_X8_number
  refine vIf (fun h_5 => ?_) (fun h_5 => ?_)
  · have i_5 := congrArg Int32.toInt h_5
    (try simp only [Int32.toInt_add, Int32.toInt_sub, Int32.toInt_mul, Int32.toInt_toInt64, Int64.toInt_add, z_m1, Int32.reduceToInt, Int64.reduceToInt, Int32.reduceToNatClampNeg, Int.bmod_def] at i_5)
    refine vB (v_X8_isFrom) (fun e_23 f_23 q_23 => ?_)
    have b_23 := q_23.1
    have x0_23 := q_23.2
    (try simp only [Int32.toInt_add, Int32.toInt_sub, Int32.toInt_mul, Int32.toInt_toInt64, Int64.toInt_add, z_m1, Int32.reduceToInt, Int64.reduceToInt, Int32.reduceToNatClampNeg, Int.bmod_def] at x0_23)
    refine vIf (fun h_26 => ?_) (fun h_26 => ?_)
    · have i_26 := congrArg Int32.toInt h_26
      (try simp only [Int32.toInt_add, Int32.toInt_sub, Int32.toInt_mul, Int32.toInt_toInt64, Int64.toInt_add, z_m1, Int32.reduceToInt, Int64.reduceToInt, Int32.reduceToNatClampNeg, Int.bmod_def] at i_26)
      refine vB (v_X8_bad) (fun e_31 f_31 q_31 => ?_)
      have k_31 : ∀ a j, ¬ WM_X8_number P a j → e_31.2 a j = M0 a j := fun a j h => (q_31.1 a j (wz_M_X8_bad_X8_number h))
      have b_31 := q_31.2.1
      have c15_31 : Int32.toInt (e_31.2 P 15) = Int32.toInt (M0 P 15) := congrArg Int32.toInt (q_31.1 P 15 (wc_X8_bad_15))
      have c17_31 : Int32.toInt (e_31.2 P 17) = Int32.toInt (M0 P 17) := congrArg Int32.toInt (q_31.1 P 17 (wc_X8_bad_17))
      have c18_31 : Int32.toInt (e_31.2 P 18) = Int32.toInt (M0 P 18) := congrArg Int32.toInt (q_31.1 P 18 (wc_X8_bad_18))
      have c20_31 : Int32.toInt (e_31.2 P 20) = Int32.toInt (M0 P 20) := congrArg Int32.toInt (q_31.1 P 20 (wc_X8_bad_20))
      have c28_31 : Int32.toInt (e_31.2 P 28) = Int32.toInt (M0 P 28) := congrArg Int32.toInt (q_31.1 P 28 (wc_X8_bad_28))
      have c29_31 : Int32.toInt (e_31.2 P 29) = Int32.toInt (M0 P 29) := congrArg Int32.toInt (q_31.1 P 29 (wc_X8_bad_29))
      have c30_31 : Int32.toInt (e_31.2 P 30) = Int32.toInt (M0 P 30) := congrArg Int32.toInt (q_31.1 P 30 (wc_X8_bad_30))
      have c31_31 : Int32.toInt (e_31.2 P 31) = Int32.toInt (M0 P 31) := congrArg Int32.toInt (q_31.1 P 31 (wc_X8_bad_31))
      have n_31 : nA P e_31.2 = nA P M0 := nA_congr (fun a j h => q_31.1 a j (wf_nA_X8_bad h))
      have p_jX_31 : jX P e_31.2 := jX.mono p_jX (fun a j h => q_31.1 a j (wf_jX_X8_bad h))
      obtain ⟨u0_jX_31, u1_jX_31, u2_jX_31, u3_jX_31⟩ := id p_jX_31
      have p_jY_31 : jY P e_31.2 := jY.mono p_jY (fun a j h => q_31.1 a j (wf_jY_X8_bad h))
      obtain ⟨u0_jY_31, u1_jY_31, u2_jY_31, u3_jY_31, u4_jY_31, u5_jY_31⟩ := id p_jY_31
      have x0_31 := q_31.2.2
      (try simp only [Int32.toInt_add, Int32.toInt_sub, Int32.toInt_mul, Int32.toInt_toInt64, Int64.toInt_add, z_m1, Int32.reduceToInt, Int64.reduceToInt, Int32.reduceToNatClampNeg, Int.bmod_def] at x0_31)
      exact ⟨_, rfl, k_31, (fun _ _ _ => rfl), (by first | exact Or.inl rfl | exact Or.inr rfl | assumption), ⟨p_jX_31, (by first | omega | (simp only [Int32.toInt_add, Int32.toInt_sub, Int32.toInt_mul, Int32.toInt_toInt64, Int64.toInt_add, z_m1, Int32.reduceToInt, Int64.reduceToInt, Int32.reduceToNatClampNeg, Int.bmod_def, or_true, true_or, and_true, true_and] <;> omega)), (by first | omega | (simp only [Int32.toInt_add, Int32.toInt_sub, Int32.toInt_mul, Int32.toInt_toInt64, Int64.toInt_add, z_m1, Int32.reduceToInt, Int64.reduceToInt, Int32.reduceToNatClampNeg, Int.bmod_def, or_true, true_or, and_true, true_and] <;> omega))⟩⟩
    · have i_26 : ¬ Int32.toInt e_23 = Int32.toInt (0 : Int32) := fun q => h_26 (Int32.toInt_inj.mp q)
      (try simp only [Int32.toInt_add, Int32.toInt_sub, Int32.toInt_mul, Int32.toInt_toInt64, Int64.toInt_add, z_m1, Int32.reduceToInt, Int64.reduceToInt, Int32.reduceToNatClampNeg, Int.bmod_def] at i_26)
      refine vLm (W := WM_X8_number P) (fun a j h => (zu_ne (wq_X8_number_M0_31 h))) (fun M_40 f_40 k_40 => ?_)
      have c15_40 : Int32.toInt (M_40 P 15) = Int32.toInt (M0 P 15) := congrArg Int32.toInt ((congrFun (congrFun f_40.symm P) 15).trans (zu_ne (fun z => absurd z.2 (by decide))))
      have c17_40 : Int32.toInt (M_40 P 17) = Int32.toInt (M0 P 17) := congrArg Int32.toInt ((congrFun (congrFun f_40.symm P) 17).trans (zu_ne (fun z => absurd z.2 (by decide))))
      have c18_40 : Int32.toInt (M_40 P 18) = Int32.toInt (M0 P 18) := congrArg Int32.toInt ((congrFun (congrFun f_40.symm P) 18).trans (zu_ne (fun z => absurd z.2 (by decide))))
      have c20_40 : Int32.toInt (M_40 P 20) = Int32.toInt (M0 P 20) := congrArg Int32.toInt ((congrFun (congrFun f_40.symm P) 20).trans (zu_ne (fun z => absurd z.2 (by decide))))
      have c28_40 : Int32.toInt (M_40 P 28) = Int32.toInt (M0 P 28) := congrArg Int32.toInt ((congrFun (congrFun f_40.symm P) 28).trans (zu_ne (fun z => absurd z.2 (by decide))))
      have c29_40 : Int32.toInt (M_40 P 29) = Int32.toInt (M0 P 29) := congrArg Int32.toInt ((congrFun (congrFun f_40.symm P) 29).trans (zu_ne (fun z => absurd z.2 (by decide))))
      have c30_40 : Int32.toInt (M_40 P 30) = Int32.toInt (M0 P 30) := congrArg Int32.toInt ((congrFun (congrFun f_40.symm P) 30).trans (zu_ne (fun z => absurd z.2 (by decide))))
      have n_40 : nA P M_40 = nA P M0 := nA_congr (fun a j h => (congrFun (congrFun f_40.symm a) j).trans (zu_ne (wf_nA_M0_31 h)))
      have p_jX_40 : jX P M_40 := jX.mono p_jX (fun a j h => (congrFun (congrFun f_40.symm a) j).trans (zu_ne (wf_jX_M0_31 h)))
      obtain ⟨u0_jX_40, u1_jX_40, u2_jX_40, u3_jX_40⟩ := id p_jX_40
      have p_jY_40 : jY P M_40 := jY.mono p_jY (fun a j h => (congrFun (congrFun f_40.symm a) j).trans (zu_ne (wf_jY_M0_31 h)))
      obtain ⟨u0_jY_40, u1_jY_40, u2_jY_40, u3_jY_40, u4_jY_40, u5_jY_40⟩ := id p_jY_40
      have z_40 : Int32.toInt (M_40 P 31) = Int32.toInt (M0 P 20) := by rw [← f_40, zu_eq]
      refine vB (v_X8_next p_jX_40) (fun e_44 f_44 q_44 => ?_)
      have k_44 : ∀ a j, ¬ WM_X8_number P a j → e_44.2.1 a j = M0 a j := fun a j h => (q_44.1 a j (wz_M_X8_next_X8_number h)).trans (k_40 a j h)
      have kn_44 : ∀ a j, ¬ WN_X8_number P a j → e_44.2.2 a j = N0 a j := fun a j h => (q_44.2.1 a j (wz_N_X8_next_X8_number h))
      have b_44 := q_44.2.2.1
      have c15_44 : Int32.toInt (e_44.2.1 P 15) = Int32.toInt (M_40 P 15) := congrArg Int32.toInt (q_44.1 P 15 (wc_X8_next_15))
      have c28_44 : Int32.toInt (e_44.2.1 P 28) = Int32.toInt (M_40 P 28) := congrArg Int32.toInt (q_44.1 P 28 (wc_X8_next_28))
      have c29_44 : Int32.toInt (e_44.2.1 P 29) = Int32.toInt (M_40 P 29) := congrArg Int32.toInt (q_44.1 P 29 (wc_X8_next_29))
      have c30_44 : Int32.toInt (e_44.2.1 P 30) = Int32.toInt (M_40 P 30) := congrArg Int32.toInt (q_44.1 P 30 (wc_X8_next_30))
      have c31_44 : Int32.toInt (e_44.2.1 P 31) = Int32.toInt (M_40 P 31) := congrArg Int32.toInt (q_44.1 P 31 (wc_X8_next_31))
      have n_44 : nA P e_44.2.1 = nA P M_40 := nA_congr (fun a j h => q_44.1 a j (wf_nA_X8_next h))
      have p_jY_44 : jY P e_44.2.1 := jY.mono p_jY_40 (fun a j h => q_44.1 a j (wf_jY_X8_next h))
      obtain ⟨u0_jY_44, u1_jY_44, u2_jY_44, u3_jY_44, u4_jY_44, u5_jY_44⟩ := id p_jY_44
      obtain ⟨x0_44, x1_44, x2_44, x3_44⟩ := q_44.2.2.2
      obtain ⟨u0_jX_44, u1_jX_44, u2_jX_44, u3_jX_44⟩ := id x0_44
      (try simp only [Int32.toInt_add, Int32.toInt_sub, Int32.toInt_mul, Int32.toInt_toInt64, Int64.toInt_add, z_m1, Int32.reduceToInt, Int64.reduceToInt, Int32.reduceToNatClampNeg, Int.bmod_def] at x1_44)
      (try simp only [Int32.toInt_add, Int32.toInt_sub, Int32.toInt_mul, Int32.toInt_toInt64, Int64.toInt_add, z_m1, Int32.reduceToInt, Int64.reduceToInt, Int32.reduceToNatClampNeg, Int.bmod_def] at x2_44)
      (try simp only [Int32.toInt_add, Int32.toInt_sub, Int32.toInt_mul, Int32.toInt_toInt64, Int64.toInt_add, z_m1, Int32.reduceToInt, Int64.reduceToInt, Int32.reduceToNatClampNeg, Int.bmod_def] at x3_44)
      exact ⟨_, rfl, k_44, kn_44, (by first | exact Or.inl rfl | exact Or.inr rfl | assumption), ⟨x0_44, (by first | omega | (simp only [Int32.toInt_add, Int32.toInt_sub, Int32.toInt_mul, Int32.toInt_toInt64, Int64.toInt_add, z_m1, Int32.reduceToInt, Int64.reduceToInt, Int32.reduceToNatClampNeg, Int.bmod_def, or_true, true_or, and_true, true_and] <;> omega)), (by first | omega | (simp only [Int32.toInt_add, Int32.toInt_sub, Int32.toInt_mul, Int32.toInt_toInt64, Int64.toInt_add, z_m1, Int32.reduceToInt, Int64.reduceToInt, Int32.reduceToNatClampNeg, Int.bmod_def, or_true, true_or, and_true, true_and] <;> omega))⟩⟩
  · have i_5 : ¬ Int32.toInt (M0 P 18) = Int32.toInt (3 : Int32) := fun q => h_5 (Int32.toInt_inj.mp q)
    (try simp only [Int32.toInt_add, Int32.toInt_sub, Int32.toInt_mul, Int32.toInt_toInt64, Int64.toInt_add, z_m1, Int32.reduceToInt, Int64.reduceToInt, Int32.reduceToNatClampNeg, Int.bmod_def] at i_5)
    refine vB (v_X8_bad) (fun e_10 f_10 q_10 => ?_)
    have k_10 : ∀ a j, ¬ WM_X8_number P a j → e_10.2 a j = M0 a j := fun a j h => (q_10.1 a j (wz_M_X8_bad_X8_number h))
    have b_10 := q_10.2.1
    have c15_10 : Int32.toInt (e_10.2 P 15) = Int32.toInt (M0 P 15) := congrArg Int32.toInt (q_10.1 P 15 (wc_X8_bad_15))
    have c17_10 : Int32.toInt (e_10.2 P 17) = Int32.toInt (M0 P 17) := congrArg Int32.toInt (q_10.1 P 17 (wc_X8_bad_17))
    have c18_10 : Int32.toInt (e_10.2 P 18) = Int32.toInt (M0 P 18) := congrArg Int32.toInt (q_10.1 P 18 (wc_X8_bad_18))
    have c20_10 : Int32.toInt (e_10.2 P 20) = Int32.toInt (M0 P 20) := congrArg Int32.toInt (q_10.1 P 20 (wc_X8_bad_20))
    have c28_10 : Int32.toInt (e_10.2 P 28) = Int32.toInt (M0 P 28) := congrArg Int32.toInt (q_10.1 P 28 (wc_X8_bad_28))
    have c29_10 : Int32.toInt (e_10.2 P 29) = Int32.toInt (M0 P 29) := congrArg Int32.toInt (q_10.1 P 29 (wc_X8_bad_29))
    have c30_10 : Int32.toInt (e_10.2 P 30) = Int32.toInt (M0 P 30) := congrArg Int32.toInt (q_10.1 P 30 (wc_X8_bad_30))
    have c31_10 : Int32.toInt (e_10.2 P 31) = Int32.toInt (M0 P 31) := congrArg Int32.toInt (q_10.1 P 31 (wc_X8_bad_31))
    have n_10 : nA P e_10.2 = nA P M0 := nA_congr (fun a j h => q_10.1 a j (wf_nA_X8_bad h))
    have p_jX_10 : jX P e_10.2 := jX.mono p_jX (fun a j h => q_10.1 a j (wf_jX_X8_bad h))
    obtain ⟨u0_jX_10, u1_jX_10, u2_jX_10, u3_jX_10⟩ := id p_jX_10
    have p_jY_10 : jY P e_10.2 := jY.mono p_jY (fun a j h => q_10.1 a j (wf_jY_X8_bad h))
    obtain ⟨u0_jY_10, u1_jY_10, u2_jY_10, u3_jY_10, u4_jY_10, u5_jY_10⟩ := id p_jY_10
    have x0_10 := q_10.2.2
    (try simp only [Int32.toInt_add, Int32.toInt_sub, Int32.toInt_mul, Int32.toInt_toInt64, Int64.toInt_add, z_m1, Int32.reduceToInt, Int64.reduceToInt, Int32.reduceToNatClampNeg, Int.bmod_def] at x0_10)
    exact ⟨_, rfl, k_10, (fun _ _ _ => rfl), (by first | exact Or.inl rfl | exact Or.inr rfl | assumption), ⟨p_jX_10, (by first | omega | (simp only [Int32.toInt_add, Int32.toInt_sub, Int32.toInt_mul, Int32.toInt_toInt64, Int64.toInt_add, z_m1, Int32.reduceToInt, Int64.reduceToInt, Int32.reduceToNatClampNeg, Int.bmod_def, or_true, true_or, and_true, true_and] <;> omega)), (by first | omega | (simp only [Int32.toInt_add, Int32.toInt_sub, Int32.toInt_mul, Int32.toInt_toInt64, Int64.toInt_add, z_m1, Int32.reduceToInt, Int64.reduceToInt, Int32.reduceToNatClampNeg, Int.bmod_def, or_true, true_or, and_true, true_and] <;> omega))⟩⟩
def WM_X8_newName (P : Nat) (a j : Nat) : Prop := (a = P ∧ (j = 16 ∨ j = 17 ∨ j = 18 ∨ j = 19 ∨ j = 20 ∨ j = 21 ∨ j = 22))
def WN_X8_newName (P : Nat) (a j : Nat) : Prop := (a = P ∧ (j = 24 ∨ j = 32))
theorem wz_M_X8_bad_X8_newName {P a j : Nat} (h : ¬ WM_X8_newName P a j) : ¬ WM_X8_bad P a j := by unfold WM_X8_bad; unfold WM_X8_newName at h; omega
theorem wq_X8_newName_N0_32 {P a j : Nat} (h : ¬ WN_X8_newName P a j) : ¬ (a = P ∧ j = 32) := by unfold WN_X8_newName at h; omega
theorem wz_M_X8_next_X8_newName {P a j : Nat} (h : ¬ WM_X8_newName P a j) : ¬ WM_X8_next P a j := by unfold WM_X8_next; unfold WM_X8_newName at h; omega
theorem wz_N_X8_next_X8_newName {P a j : Nat} (h : ¬ WN_X8_newName P a j) : ¬ WN_X8_next P a j := by unfold WN_X8_next; unfold WN_X8_newName at h; omega
set_option maxRecDepth 100000 in
set_option maxHeartbeats 4000000 in
theorem v_X8_newName {P : Nat}  {M0 : zMt} {N0 : zNt}  (p_jX : jX P M0) (p_jY : jY P M0) : ∃ r, D_X8_newName P M0 N0 = some r ∧ ((∀ a j, ¬ WM_X8_newName P a j → r.2.1 a j = M0 a j) ∧ (∀ a j, ¬ WN_X8_newName P a j → r.2.2 a j = N0 a j) ∧ (r.1 = 0 ∨ r.1 = 1) ∧ ((jX P r.2.1) ∧ (Int32.toInt (M0 P 17) ≤ Int32.toInt (r.2.1 P 17)))) := by
  obtain ⟨u0_jX, u1_jX, u2_jX, u3_jX⟩ := id p_jX
  obtain ⟨u0_jY, u1_jY, u2_jY, u3_jY, u4_jY, u5_jY⟩ := id p_jY
  unfold D_X8_newName
  refine vB (v_X8_isName) (fun e_1 f_1 q_1 => ?_)
  have b_1 := q_1
  refine vIf (fun h_4 => ?_) (fun h_4 => ?_)
  · have i_4 := congrArg Int32.toInt h_4
    (try simp only [Int32.toInt_add, Int32.toInt_sub, Int32.toInt_mul, Int32.toInt_toInt64, Int64.toInt_add, z_m1, Int32.reduceToInt, Int64.reduceToInt, Int32.reduceToNatClampNeg, Int.bmod_def] at i_4)
    refine vB (v_X8_bad) (fun e_9 f_9 q_9 => ?_)
    have k_9 : ∀ a j, ¬ WM_X8_newName P a j → e_9.2 a j = M0 a j := fun a j h => (q_9.1 a j (wz_M_X8_bad_X8_newName h))
    have b_9 := q_9.2.1
    have c15_9 : Int32.toInt (e_9.2 P 15) = Int32.toInt (M0 P 15) := congrArg Int32.toInt (q_9.1 P 15 (wc_X8_bad_15))
    have c17_9 : Int32.toInt (e_9.2 P 17) = Int32.toInt (M0 P 17) := congrArg Int32.toInt (q_9.1 P 17 (wc_X8_bad_17))
    have c18_9 : Int32.toInt (e_9.2 P 18) = Int32.toInt (M0 P 18) := congrArg Int32.toInt (q_9.1 P 18 (wc_X8_bad_18))
    have c20_9 : Int32.toInt (e_9.2 P 20) = Int32.toInt (M0 P 20) := congrArg Int32.toInt (q_9.1 P 20 (wc_X8_bad_20))
    have c28_9 : Int32.toInt (e_9.2 P 28) = Int32.toInt (M0 P 28) := congrArg Int32.toInt (q_9.1 P 28 (wc_X8_bad_28))
    have c29_9 : Int32.toInt (e_9.2 P 29) = Int32.toInt (M0 P 29) := congrArg Int32.toInt (q_9.1 P 29 (wc_X8_bad_29))
    have c30_9 : Int32.toInt (e_9.2 P 30) = Int32.toInt (M0 P 30) := congrArg Int32.toInt (q_9.1 P 30 (wc_X8_bad_30))
    have c31_9 : Int32.toInt (e_9.2 P 31) = Int32.toInt (M0 P 31) := congrArg Int32.toInt (q_9.1 P 31 (wc_X8_bad_31))
    have n_9 : nA P e_9.2 = nA P M0 := nA_congr (fun a j h => q_9.1 a j (wf_nA_X8_bad h))
    have p_jX_9 : jX P e_9.2 := jX.mono p_jX (fun a j h => q_9.1 a j (wf_jX_X8_bad h))
    obtain ⟨u0_jX_9, u1_jX_9, u2_jX_9, u3_jX_9⟩ := id p_jX_9
    have p_jY_9 : jY P e_9.2 := jY.mono p_jY (fun a j h => q_9.1 a j (wf_jY_X8_bad h))
    obtain ⟨u0_jY_9, u1_jY_9, u2_jY_9, u3_jY_9, u4_jY_9, u5_jY_9⟩ := id p_jY_9
    have x0_9 := q_9.2.2
    (try simp only [Int32.toInt_add, Int32.toInt_sub, Int32.toInt_mul, Int32.toInt_toInt64, Int64.toInt_add, z_m1, Int32.reduceToInt, Int64.reduceToInt, Int32.reduceToNatClampNeg, Int.bmod_def] at x0_9)
    exact ⟨_, rfl, k_9, (fun _ _ _ => rfl), (by first | exact Or.inl rfl | exact Or.inr rfl | assumption), ⟨p_jX_9, (by first | omega | (simp only [Int32.toInt_add, Int32.toInt_sub, Int32.toInt_mul, Int32.toInt_toInt64, Int64.toInt_add, z_m1, Int32.reduceToInt, Int64.reduceToInt, Int32.reduceToNatClampNeg, Int.bmod_def, or_true, true_or, and_true, true_and] <;> omega))⟩⟩
  · have i_4 : ¬ Int32.toInt e_1 = Int32.toInt (0 : Int32) := fun q => h_4 (Int32.toInt_inj.mp q)
    (try simp only [Int32.toInt_add, Int32.toInt_sub, Int32.toInt_mul, Int32.toInt_toInt64, Int64.toInt_add, z_m1, Int32.reduceToInt, Int64.reduceToInt, Int32.reduceToNatClampNeg, Int.bmod_def] at i_4)
    refine vB (v_X8_isTaken p_jY) (fun e_14 f_14 q_14 => ?_)
    have b_14 := q_14
    refine vIf (fun h_17 => ?_) (fun h_17 => ?_)
    · have i_17 := congrArg Int32.toInt h_17
      (try simp only [Int32.toInt_add, Int32.toInt_sub, Int32.toInt_mul, Int32.toInt_toInt64, Int64.toInt_add, z_m1, Int32.reduceToInt, Int64.reduceToInt, Int32.reduceToNatClampNeg, Int.bmod_def] at i_17)
      refine vLn (W := WN_X8_newName P) (fun a j h => (zu_ne (wq_X8_newName_N0_32 h))) (fun N_31 f_31 kn_31 => ?_)
      refine vB (v_X8_next p_jX) (fun e_35 f_35 q_35 => ?_)
      have k_35 : ∀ a j, ¬ WM_X8_newName P a j → e_35.2.1 a j = M0 a j := fun a j h => (q_35.1 a j (wz_M_X8_next_X8_newName h))
      have kn_35 : ∀ a j, ¬ WN_X8_newName P a j → e_35.2.2 a j = N0 a j := fun a j h => (q_35.2.1 a j (wz_N_X8_next_X8_newName h)).trans (kn_31 a j h)
      have b_35 := q_35.2.2.1
      have c15_35 : Int32.toInt (e_35.2.1 P 15) = Int32.toInt (M0 P 15) := congrArg Int32.toInt (q_35.1 P 15 (wc_X8_next_15))
      have c28_35 : Int32.toInt (e_35.2.1 P 28) = Int32.toInt (M0 P 28) := congrArg Int32.toInt (q_35.1 P 28 (wc_X8_next_28))
      have c29_35 : Int32.toInt (e_35.2.1 P 29) = Int32.toInt (M0 P 29) := congrArg Int32.toInt (q_35.1 P 29 (wc_X8_next_29))
      have c30_35 : Int32.toInt (e_35.2.1 P 30) = Int32.toInt (M0 P 30) := congrArg Int32.toInt (q_35.1 P 30 (wc_X8_next_30))
      have c31_35 : Int32.toInt (e_35.2.1 P 31) = Int32.toInt (M0 P 31) := congrArg Int32.toInt (q_35.1 P 31 (wc_X8_next_31))
      have n_35 : nA P e_35.2.1 = nA P M0 := nA_congr (fun a j h => q_35.1 a j (wf_nA_X8_next h))
      have p_jY_35 : jY P e_35.2.1 := jY.mono p_jY (fun a j h => q_35.1 a j (wf_jY_X8_next h))
      obtain ⟨u0_jY_35, u1_jY_35, u2_jY_35, u3_jY_35, u4_jY_35, u5_jY_35⟩ := id p_jY_35
      obtain ⟨x0_35, x1_35, x2_35, x3_35⟩ := q_35.2.2.2
      obtain ⟨u0_jX_35, u1_jX_35, u2_jX_35, u3_jX_35⟩ := id x0_35
      (try simp only [Int32.toInt_add, Int32.toInt_sub, Int32.toInt_mul, Int32.toInt_toInt64, Int64.toInt_add, z_m1, Int32.reduceToInt, Int64.reduceToInt, Int32.reduceToNatClampNeg, Int.bmod_def] at x1_35)
      (try simp only [Int32.toInt_add, Int32.toInt_sub, Int32.toInt_mul, Int32.toInt_toInt64, Int64.toInt_add, z_m1, Int32.reduceToInt, Int64.reduceToInt, Int32.reduceToNatClampNeg, Int.bmod_def] at x2_35)
      (try simp only [Int32.toInt_add, Int32.toInt_sub, Int32.toInt_mul, Int32.toInt_toInt64, Int64.toInt_add, z_m1, Int32.reduceToInt, Int64.reduceToInt, Int32.reduceToNatClampNeg, Int.bmod_def] at x3_35)
      exact ⟨_, rfl, k_35, kn_35, (by first | exact Or.inl rfl | exact Or.inr rfl | assumption), ⟨x0_35, (by first | omega | (simp only [Int32.toInt_add, Int32.toInt_sub, Int32.toInt_mul, Int32.toInt_toInt64, Int64.toInt_add, z_m1, Int32.reduceToInt, Int64.reduceToInt, Int32.reduceToNatClampNeg, Int.bmod_def, or_true, true_or, and_true, true_and] <;> omega))⟩⟩
    · have i_17 : ¬ Int32.toInt e_14 = Int32.toInt (0 : Int32) := fun q => h_17 (Int32.toInt_inj.mp q)
      (try simp only [Int32.toInt_add, Int32.toInt_sub, Int32.toInt_mul, Int32.toInt_toInt64, Int64.toInt_add, z_m1, Int32.reduceToInt, Int64.reduceToInt, Int32.reduceToNatClampNeg, Int.bmod_def] at i_17)
      refine vB (v_X8_bad) (fun e_22 f_22 q_22 => ?_)
      have k_22 : ∀ a j, ¬ WM_X8_newName P a j → e_22.2 a j = M0 a j := fun a j h => (q_22.1 a j (wz_M_X8_bad_X8_newName h))
      have b_22 := q_22.2.1
      have c15_22 : Int32.toInt (e_22.2 P 15) = Int32.toInt (M0 P 15) := congrArg Int32.toInt (q_22.1 P 15 (wc_X8_bad_15))
      have c17_22 : Int32.toInt (e_22.2 P 17) = Int32.toInt (M0 P 17) := congrArg Int32.toInt (q_22.1 P 17 (wc_X8_bad_17))
      have c18_22 : Int32.toInt (e_22.2 P 18) = Int32.toInt (M0 P 18) := congrArg Int32.toInt (q_22.1 P 18 (wc_X8_bad_18))
      have c20_22 : Int32.toInt (e_22.2 P 20) = Int32.toInt (M0 P 20) := congrArg Int32.toInt (q_22.1 P 20 (wc_X8_bad_20))
      have c28_22 : Int32.toInt (e_22.2 P 28) = Int32.toInt (M0 P 28) := congrArg Int32.toInt (q_22.1 P 28 (wc_X8_bad_28))
      have c29_22 : Int32.toInt (e_22.2 P 29) = Int32.toInt (M0 P 29) := congrArg Int32.toInt (q_22.1 P 29 (wc_X8_bad_29))
      have c30_22 : Int32.toInt (e_22.2 P 30) = Int32.toInt (M0 P 30) := congrArg Int32.toInt (q_22.1 P 30 (wc_X8_bad_30))
      have c31_22 : Int32.toInt (e_22.2 P 31) = Int32.toInt (M0 P 31) := congrArg Int32.toInt (q_22.1 P 31 (wc_X8_bad_31))
      have n_22 : nA P e_22.2 = nA P M0 := nA_congr (fun a j h => q_22.1 a j (wf_nA_X8_bad h))
      have p_jX_22 : jX P e_22.2 := jX.mono p_jX (fun a j h => q_22.1 a j (wf_jX_X8_bad h))
      obtain ⟨u0_jX_22, u1_jX_22, u2_jX_22, u3_jX_22⟩ := id p_jX_22
      have p_jY_22 : jY P e_22.2 := jY.mono p_jY (fun a j h => q_22.1 a j (wf_jY_X8_bad h))
      obtain ⟨u0_jY_22, u1_jY_22, u2_jY_22, u3_jY_22, u4_jY_22, u5_jY_22⟩ := id p_jY_22
      have x0_22 := q_22.2.2
      (try simp only [Int32.toInt_add, Int32.toInt_sub, Int32.toInt_mul, Int32.toInt_toInt64, Int64.toInt_add, z_m1, Int32.reduceToInt, Int64.reduceToInt, Int32.reduceToNatClampNeg, Int.bmod_def] at x0_22)
      exact ⟨_, rfl, k_22, (fun _ _ _ => rfl), (by first | exact Or.inl rfl | exact Or.inr rfl | assumption), ⟨p_jX_22, (by first | omega | (simp only [Int32.toInt_add, Int32.toInt_sub, Int32.toInt_mul, Int32.toInt_toInt64, Int64.toInt_add, z_m1, Int32.reduceToInt, Int64.reduceToInt, Int32.reduceToNatClampNeg, Int.bmod_def, or_true, true_or, and_true, true_and] <;> omega))⟩⟩
