def WM_X8_status (P : Nat) (a j : Nat) : Prop := (a = P ∧ (j = 6))
set_option maxRecDepth 100000 in
set_option maxHeartbeats 4000000 in
theorem v_X8_status {P : Nat}  {M0 : zMt}  : ∃ r, D_X8_status P M0 = some r ∧ ((∀ a j, ¬ WM_X8_status P a j → r.2 a j = M0 a j)) := by
  unfold D_X8_status
  refine vLm (W := WM_X8_status P) (fun a j h => (zu_ne (by unfold WM_X8_status at h; omega))) (fun M_2 f_2 k_2 => ?_)
  have n_2 : nA P M_2 = nA P M0 := nA_congr (fun a j h => (congrFun (congrFun f_2.symm a) j).trans (zu_ne (by omega)))
  exact ⟨_, rfl, k_2⟩
def WM_X8_refuse (P : Nat) (a j : Nat) : Prop := (a = P ∧ (j = 6 ∨ j = 12))
set_option maxRecDepth 100000 in
set_option maxHeartbeats 4000000 in
theorem v_X8_refuse {P : Nat} {v0 : Int32} {M0 : zMt}  : ∃ r, D_X8_refuse P v0 M0 = some r ∧ ((∀ a j, ¬ WM_X8_refuse P a j → r.2 a j = M0 a j)) := by
  unfold D_X8_refuse
  refine vLm (W := WM_X8_refuse P) (fun a j h => (zu_ne (by unfold WM_X8_refuse at h; omega))) (fun M_2 f_2 k_2 => ?_)
  have n_2 : nA P M_2 = nA P M0 := nA_congr (fun a j h => (congrFun (congrFun f_2.symm a) j).trans (zu_ne (by omega)))
  refine vLm (W := WM_X8_refuse P) (fun a j h => (zu_ne (by unfold WM_X8_refuse at h; omega)).trans (k_2 a j h)) (fun M_7 f_7 k_7 => ?_)
  have n_7 : nA P M_7 = nA P M_2 := nA_congr (fun a j h => (congrFun (congrFun f_7.symm a) j).trans (zu_ne (by omega)))
  exact ⟨_, rfl, k_7⟩
def WM_X8_gives (P : Nat) (a j : Nat) : Prop := (a = P ∧ (j = 6 ∨ j = 12))
set_option maxRecDepth 100000 in
set_option maxHeartbeats 4000000 in
theorem v_X8_gives {P : Nat} {v0 : Int32} {M0 : zMt}  : ∃ r, D_X8_gives P v0 M0 = some r ∧ ((∀ a j, ¬ WM_X8_gives P a j → r.2 a j = M0 a j)) := by
  unfold D_X8_gives
  refine vLm (W := WM_X8_gives P) (fun a j h => (zu_ne (by unfold WM_X8_gives at h; omega))) (fun M_2 f_2 k_2 => ?_)
  have n_2 : nA P M_2 = nA P M0 := nA_congr (fun a j h => (congrFun (congrFun f_2.symm a) j).trans (zu_ne (by omega)))
  refine vLm (W := WM_X8_gives P) (fun a j h => (zu_ne (by unfold WM_X8_gives at h; omega)).trans (k_2 a j h)) (fun M_7 f_7 k_7 => ?_)
  have n_7 : nA P M_7 = nA P M_2 := nA_congr (fun a j h => (congrFun (congrFun f_7.symm a) j).trans (zu_ne (by omega)))
  exact ⟨_, rfl, k_7⟩
def WM_X8_givesLong (P : Nat) (a j : Nat) : Prop := (a = P ∧ (j = 6 ∨ j = 12))
set_option maxRecDepth 100000 in
set_option maxHeartbeats 4000000 in
theorem v_X8_givesLong {P : Nat} {v0 : Int64} {M0 : zMt}  : ∃ r, D_X8_givesLong P v0 M0 = some r ∧ ((∀ a j, ¬ WM_X8_givesLong P a j → r.2 a j = M0 a j)) := by
  unfold D_X8_givesLong
  refine vLm (W := WM_X8_givesLong P) (fun a j h => (zu_ne (by unfold WM_X8_givesLong at h; omega))) (fun M_2 f_2 k_2 => ?_)
  have n_2 : nA P M_2 = nA P M0 := nA_congr (fun a j h => (congrFun (congrFun f_2.symm a) j).trans (zu_ne (by omega)))
  refine vLm (W := WM_X8_givesLong P) (fun a j h => (zu_ne (by unfold WM_X8_givesLong at h; omega)).trans (k_2 a j h)) (fun M_7 f_7 k_7 => ?_)
  have n_7 : nA P M_7 = nA P M_2 := nA_congr (fun a j h => (congrFun (congrFun f_7.symm a) j).trans (zu_ne (by omega)))
  exact ⟨_, rfl, k_7⟩
set_option maxRecDepth 100000 in
set_option maxHeartbeats 4000000 in
theorem v_X8_isUnit {P : Nat} {M : zMt} {v0 : Int32}  (p_jB : jB P M) : ∃ r, D_X8_isUnit P M v0 = some r ∧ ((r = 0 ∨ r = 1) ∧ ((Int32.toInt r = 0 ∨ (0 ≤ Int32.toInt v0 ∧ Int32.toInt v0 < Int32.toInt (M P 7))))) := by
  obtain ⟨u0_jB, u1_jB, u2_jB, u3_jB, u4_jB, u5_jB⟩ := id p_jB
  unfold D_X8_isUnit
  refine vB (v_X8_isFrom) (fun e_10 f_10 q_10 => ?_)
  have b_10 := q_10.1
  have x0_10 := q_10.2
  (try simp only [Int32.toInt_add, Int32.toInt_sub, Int32.toInt_mul, Int32.toInt_toInt64, Int64.toInt_add, z_m1, Int32.reduceToInt, Int64.reduceToInt, Int32.reduceToNatClampNeg, Int.bmod_def] at x0_10)
  exact ⟨_, rfl, (by first | exact Or.inl rfl | exact Or.inr rfl | assumption), (by first | (simp only [Int32.toInt_add, Int32.toInt_sub, Int32.toInt_mul, Int32.toInt_toInt64, Int64.toInt_add, z_m1, Int32.reduceToInt, Int64.reduceToInt, Int32.reduceToNatClampNeg, Int.bmod_def, or_true, true_or, and_true, true_and] <;> omega) | omega)⟩
set_option maxRecDepth 100000 in
set_option maxHeartbeats 4000000 in
theorem v_X8_isHunter {P : Nat} {M : zMt} {v0 : Int32}  (p_jB : jB P M) : ∃ r, D_X8_isHunter P M v0 = some r ∧ ((r = 0 ∨ r = 1) ∧ ((Int32.toInt r = 0 ∨ (0 ≤ Int32.toInt v0 ∧ Int32.toInt v0 < Int32.toInt (M P 8))))) := by
  obtain ⟨u0_jB, u1_jB, u2_jB, u3_jB, u4_jB, u5_jB⟩ := id p_jB
  unfold D_X8_isHunter
  refine vB (v_X8_isFrom) (fun e_10 f_10 q_10 => ?_)
  have b_10 := q_10.1
  have x0_10 := q_10.2
  (try simp only [Int32.toInt_add, Int32.toInt_sub, Int32.toInt_mul, Int32.toInt_toInt64, Int64.toInt_add, z_m1, Int32.reduceToInt, Int64.reduceToInt, Int32.reduceToNatClampNeg, Int.bmod_def] at x0_10)
  exact ⟨_, rfl, (by first | exact Or.inl rfl | exact Or.inr rfl | assumption), (by first | (simp only [Int32.toInt_add, Int32.toInt_sub, Int32.toInt_mul, Int32.toInt_toInt64, Int64.toInt_add, z_m1, Int32.reduceToInt, Int64.reduceToInt, Int32.reduceToNatClampNeg, Int.bmod_def, or_true, true_or, and_true, true_and] <;> omega) | omega)⟩
set_option maxRecDepth 100000 in
set_option maxHeartbeats 4000000 in
theorem v_X8_isParty {P : Nat} {M : zMt} {v0 : Int32}  (p_jS : jS P M) : ∃ r, D_X8_isParty P M v0 = some r ∧ ((r = 0 ∨ r = 1) ∧ ((Int32.toInt r = 0 ∨ (0 ≤ Int32.toInt v0 ∧ Int32.toInt v0 < Int32.toInt (M (P + 1) 70))))) := by
  obtain ⟨u0_jS, u1_jS, u2_jS, u3_jS, u4_jS, u5_jS, u6_jS, u7_jS⟩ := jS.ints p_jS
  unfold D_X8_isParty
  refine vI (vp_of (by first | (simp only [Int32.toInt_add, Int32.toInt_sub, Int32.toInt_mul, Int32.toInt_toInt64, Int64.toInt_add, z_m1, Int32.reduceToInt, Int64.reduceToInt, Int32.reduceToNatClampNeg, Int.bmod_def, or_true, true_or, and_true, true_and] <;> omega) | omega) (by first | (simp only [Int32.toInt_add, Int32.toInt_sub, Int32.toInt_mul, Int32.toInt_toInt64, Int64.toInt_add, z_m1, Int32.reduceToInt, Int64.reduceToInt, Int32.reduceToNatClampNeg, Int.bmod_def, or_true, true_or, and_true, true_and] <;> omega) | omega)) ?_
  refine vB (v_X8_isFrom) (fun e_13 f_13 q_13 => ?_)
  have b_13 := q_13.1
  have x0_13 := q_13.2
  (try simp only [Int32.toInt_add, Int32.toInt_sub, Int32.toInt_mul, Int32.toInt_toInt64, Int64.toInt_add, z_m1, Int32.reduceToInt, Int64.reduceToInt, Int32.reduceToNatClampNeg, Int.bmod_def] at x0_13)
  exact ⟨_, rfl, (by first | exact Or.inl rfl | exact Or.inr rfl | assumption), (by first | (simp only [Int32.toInt_add, Int32.toInt_sub, Int32.toInt_mul, Int32.toInt_toInt64, Int64.toInt_add, z_m1, Int32.reduceToInt, Int64.reduceToInt, Int32.reduceToNatClampNeg, Int.bmod_def, or_true, true_or, and_true, true_and] <;> omega) | omega)⟩
set_option maxRecDepth 100000 in
set_option maxHeartbeats 4000000 in
theorem v_X8_isSeed  {v0 : Int32}  : ∃ r, D_X8_isSeed v0 = some r ∧ ((r = 0 ∨ r = 1) ∧ ((Int32.toInt r = 0 ∨ (0 ≤ Int32.toInt v0 ∧ Int32.toInt v0 ≤ 999999999)))) := by
  unfold D_X8_isSeed
  refine vB (v_X8_isFrom) (fun e_6 f_6 q_6 => ?_)
  have b_6 := q_6.1
  have x0_6 := q_6.2
  (try simp only [Int32.toInt_add, Int32.toInt_sub, Int32.toInt_mul, Int32.toInt_toInt64, Int64.toInt_add, z_m1, Int32.reduceToInt, Int64.reduceToInt, Int32.reduceToNatClampNeg, Int.bmod_def] at x0_6)
  exact ⟨_, rfl, (by first | exact Or.inl rfl | exact Or.inr rfl | assumption), (by first | (simp only [Int32.toInt_add, Int32.toInt_sub, Int32.toInt_mul, Int32.toInt_toInt64, Int64.toInt_add, z_m1, Int32.reduceToInt, Int64.reduceToInt, Int32.reduceToNatClampNeg, Int.bmod_def, or_true, true_or, and_true, true_and] <;> omega) | omega)⟩
def WM_X8_fault (P : Nat) (a j : Nat) : Prop := (a = P ∧ (j = 6))
set_option maxRecDepth 100000 in
set_option maxHeartbeats 4000000 in
theorem v_X8_fault {P : Nat} {v0 : Int32} {M0 : zMt}  : ∃ r, D_X8_fault P v0 M0 = some r ∧ ((∀ a j, ¬ WM_X8_fault P a j → r.2 a j = M0 a j)) := by
  have T_29 : ∀ (y0_29 : Int32) (M_29 : zMt), (∀ a j, ¬ WM_X8_fault P a j → M_29 a j = M0 a j) → ∃ r, D_X8_fault_29 P y0_29 M_29 = some r ∧ ((∀ a j, ¬ WM_X8_fault P a j → r.2 a j = M0 a j)) := by
    intro y0_29 M_29 k_29
    unfold D_X8_fault_29
    exact ⟨_, rfl, k_29⟩
  unfold D_X8_fault
  refine vLm (W := WM_X8_fault P) (fun a j h => (zu_ne (by unfold WM_X8_fault at h; omega))) (fun M_2 f_2 k_2 => ?_)
  have n_2 : nA P M_2 = nA P M0 := nA_congr (fun a j h => (congrFun (congrFun f_2.symm a) j).trans (zu_ne (by omega)))
  refine vIf (fun h_6 => ?_) (fun h_6 => ?_)
  · have i_6 := congrArg Int32.toInt h_6
    (try simp only [Int32.toInt_add, Int32.toInt_sub, Int32.toInt_mul, Int32.toInt_toInt64, Int64.toInt_add, z_m1, Int32.reduceToInt, Int64.reduceToInt, Int32.reduceToNatClampNeg, Int.bmod_def] at i_6)
    exact T_29 _ _ k_2
  · have i_6 : ¬ Int32.toInt v0 = Int32.toInt (0 : Int32) := fun q => h_6 (Int32.toInt_inj.mp q)
    (try simp only [Int32.toInt_add, Int32.toInt_sub, Int32.toInt_mul, Int32.toInt_toInt64, Int64.toInt_add, z_m1, Int32.reduceToInt, Int64.reduceToInt, Int32.reduceToNatClampNeg, Int.bmod_def] at i_6)
    refine vIf (fun h_18 => ?_) (fun h_18 => ?_)
    · have i_18 := congrArg Int32.toInt h_18
      (try simp only [Int32.toInt_add, Int32.toInt_sub, Int32.toInt_mul, Int32.toInt_toInt64, Int64.toInt_add, z_m1, Int32.reduceToInt, Int64.reduceToInt, Int32.reduceToNatClampNeg, Int.bmod_def] at i_18)
      exact T_29 _ _ k_2
    · have i_18 : ¬ Int32.toInt v0 = Int32.toInt (1 : Int32) := fun q => h_18 (Int32.toInt_inj.mp q)
      (try simp only [Int32.toInt_add, Int32.toInt_sub, Int32.toInt_mul, Int32.toInt_toInt64, Int64.toInt_add, z_m1, Int32.reduceToInt, Int64.reduceToInt, Int32.reduceToNatClampNeg, Int.bmod_def] at i_18)
      exact T_29 _ _ k_2
def WM_X8_laysOne (P : Nat) (a j : Nat) : Prop := (P + 14 ≤ a ∧ a < P + 18)

def WM_X8_laysApplicants (P : Nat) (a j : Nat) : Prop := (P + 11 ≤ a ∧ a < P + 18) ∨ (a = P ∧ (j = 33))
theorem v_X8_laysApplicants {P : Nat} {M0 : zMt} (p_jB : jB P M0) (p_jS : jS P M0) : ∃ r, D_X8_laysApplicants P M0 = some r ∧ ((∀ a j, ¬ WM_X8_laysApplicants P a j → r a j = M0 a j) ∧ (jB P r) ∧ (jL P r) ∧ (jH P r) ∧ (Int32.toInt (r P 33) = nA P r)) := by obtain ⟨r, e, k, q⟩ := h_X8_laysApplicants p_jB p_jS; exact ⟨r, e, fun a j h => k a j (by unfold WA; unfold WM_X8_laysApplicants at h; omega), q⟩
def WM_X8_isApplicant (P : Nat) (a j : Nat) : Prop := (P + 11 ≤ a ∧ a < P + 18) ∨ (a = P ∧ (j = 33))
set_option maxRecDepth 100000 in
set_option maxHeartbeats 4000000 in
theorem v_X8_isApplicant {P : Nat} {v0 : Int32} {M0 : zMt}  (p_jB : jB P M0) (p_jS : jS P M0) : ∃ r, D_X8_isApplicant P v0 M0 = some r ∧ ((∀ a j, ¬ WM_X8_isApplicant P a j → r.2 a j = M0 a j) ∧ (r.1 = 0 ∨ r.1 = 1) ∧ ((jB P r.2) ∧ (jL P r.2) ∧ (jH P r.2) ∧ (Int32.toInt (r.2 P 33) = nA P r.2) ∧ (Int32.toInt r.1 = 0 ∨ (0 ≤ Int32.toInt v0 ∧ Int32.toInt v0 < Int32.toInt (r.2 P 33))))) := by
  obtain ⟨u0_jB, u1_jB, u2_jB, u3_jB, u4_jB, u5_jB⟩ := id p_jB
  obtain ⟨u0_jS, u1_jS, u2_jS, u3_jS, u4_jS, u5_jS, u6_jS, u7_jS⟩ := jS.ints p_jS
  unfold D_X8_isApplicant
  refine vB (v_X8_laysApplicants p_jB p_jS) (fun e_1 f_1 q_1 => ?_)
  have k_1 : ∀ a j, ¬ WM_X8_isApplicant P a j → e_1 a j = M0 a j := fun a j h => (q_1.1 a j (by unfold WM_X8_laysApplicants; unfold WM_X8_isApplicant at h; omega))
  have n_1 : nA P e_1 = nA P M0 := nA_congr (fun a j h => q_1.1 a j (by unfold WM_X8_laysApplicants; omega))
  have p_jS_1 : jS P e_1 := jS.mono p_jS (fun a j h => q_1.1 a j (by unfold WM_X8_laysApplicants; omega))
  obtain ⟨u0_jS_1, u1_jS_1, u2_jS_1, u3_jS_1, u4_jS_1, u5_jS_1, u6_jS_1, u7_jS_1⟩ := jS.ints p_jS_1
  obtain ⟨x0_1, x1_1, x2_1, x3_1⟩ := q_1.2
  obtain ⟨u0_jB_1, u1_jB_1, u2_jB_1, u3_jB_1, u4_jB_1, u5_jB_1⟩ := id x0_1
  (try simp only [Int32.toInt_add, Int32.toInt_sub, Int32.toInt_mul, Int32.toInt_toInt64, Int64.toInt_add, z_m1, Int32.reduceToInt, Int64.reduceToInt, Int32.reduceToNatClampNeg, Int.bmod_def] at x3_1)
  refine vB (v_X8_isFrom) (fun e_14 f_14 q_14 => ?_)
  have b_14 := q_14.1
  have x0_14 := q_14.2
  (try simp only [Int32.toInt_add, Int32.toInt_sub, Int32.toInt_mul, Int32.toInt_toInt64, Int64.toInt_add, z_m1, Int32.reduceToInt, Int64.reduceToInt, Int32.reduceToNatClampNeg, Int.bmod_def] at x0_14)
  exact ⟨_, rfl, k_1, (by first | exact Or.inl rfl | exact Or.inr rfl | assumption), ⟨x0_1, x1_1, x2_1, (by first | (simp only [Int32.toInt_add, Int32.toInt_sub, Int32.toInt_mul, Int32.toInt_toInt64, Int64.toInt_add, z_m1, Int32.reduceToInt, Int64.reduceToInt, Int32.reduceToNatClampNeg, Int.bmod_def, or_true, true_or, and_true, true_and] <;> omega) | omega), (by first | (simp only [Int32.toInt_add, Int32.toInt_sub, Int32.toInt_mul, Int32.toInt_toInt64, Int64.toInt_add, z_m1, Int32.reduceToInt, Int64.reduceToInt, Int32.reduceToNatClampNeg, Int.bmod_def, or_true, true_or, and_true, true_and] <;> omega) | omega)⟩⟩
set_option maxRecDepth 100000 in
set_option maxHeartbeats 4000000 in
theorem v_X8_choiceOf {P : Nat} {M : zMt} {v0 : Int32} {v1 : Int32}  (p_jB : jB P M) (p_jS : jS P M) (p_jL : jL P M) (i_3 : 0 ≤ Int32.toInt v0) (i_4 : Int32.toInt v0 < Int32.toInt (M P 33)) (i_5 : 0 ≤ Int32.toInt v1) : ∃ r, D_X8_choiceOf P M v0 v1 = some r ∧ (((-1 ≤ Int32.toInt r) ∧ (Int32.toInt r < Int32.toInt (M P 7)) ∧ ((Int32.toInt v1 < 3 ∨ Int32.toInt r = -1)))) := by
  obtain ⟨u0_jB, u1_jB, u2_jB, u3_jB, u4_jB, u5_jB⟩ := id p_jB
  obtain ⟨u0_jS, u1_jS, u2_jS, u3_jS, u4_jS, u5_jS, u6_jS, u7_jS⟩ := jS.ints p_jS
  have T_22 : ∀ (y0_22 : Int32), (jB P M) → (jL P M) → (jS P M) → (-1 ≤ Int32.toInt y0_22 ∧ Int32.toInt y0_22 < Int32.toInt (M P 7)) → (Int32.toInt v1 < 3 ∨ Int32.toInt y0_22 = -1) → ∃ r, D_X8_choiceOf_22 P M y0_22 = some r ∧ (((-1 ≤ Int32.toInt r) ∧ (Int32.toInt r < Int32.toInt (M P 7)) ∧ ((Int32.toInt v1 < 3 ∨ Int32.toInt r = -1)))) := by
    intro y0_22 p_jB_22 p_jL_22 p_jS_22 f0_22 f1_22
    obtain ⟨u0_jB_22, u1_jB_22, u2_jB_22, u3_jB_22, u4_jB_22, u5_jB_22⟩ := id p_jB_22
    obtain ⟨u0_jS_22, u1_jS_22, u2_jS_22, u3_jS_22, u4_jS_22, u5_jS_22, u6_jS_22, u7_jS_22⟩ := jS.ints p_jS_22
    unfold D_X8_choiceOf_22
    exact ⟨_, rfl, ⟨(by first | (simp only [Int32.toInt_add, Int32.toInt_sub, Int32.toInt_mul, Int32.toInt_toInt64, Int64.toInt_add, z_m1, Int32.reduceToInt, Int64.reduceToInt, Int32.reduceToNatClampNeg, Int.bmod_def, or_true, true_or, and_true, true_and] <;> omega) | omega), (by first | (simp only [Int32.toInt_add, Int32.toInt_sub, Int32.toInt_mul, Int32.toInt_toInt64, Int64.toInt_add, z_m1, Int32.reduceToInt, Int64.reduceToInt, Int32.reduceToNatClampNeg, Int.bmod_def, or_true, true_or, and_true, true_and] <;> omega) | omega), (by first | (simp only [Int32.toInt_add, Int32.toInt_sub, Int32.toInt_mul, Int32.toInt_toInt64, Int64.toInt_add, z_m1, Int32.reduceToInt, Int64.reduceToInt, Int32.reduceToNatClampNeg, Int.bmod_def, or_true, true_or, and_true, true_and] <;> omega) | omega)⟩⟩
  unfold D_X8_choiceOf
  refine vIf (fun h_2 => ?_) (fun h_2 => ?_)
  · have i_2 := Int32.le_iff_toInt_le.mp h_2
    (try simp only [Int32.toInt_add, Int32.toInt_sub, Int32.toInt_mul, Int32.toInt_toInt64, Int64.toInt_add, z_m1, Int32.reduceToInt, Int64.reduceToInt, Int32.reduceToNatClampNeg, Int.bmod_def] at i_2)
    exact T_22 _ p_jB p_jL p_jS (by first | (simp only [Int32.toInt_add, Int32.toInt_sub, Int32.toInt_mul, Int32.toInt_toInt64, Int64.toInt_add, z_m1, Int32.reduceToInt, Int64.reduceToInt, Int32.reduceToNatClampNeg, Int.bmod_def, or_true, true_or, and_true, true_and] <;> omega) | omega) (by first | (simp only [Int32.toInt_add, Int32.toInt_sub, Int32.toInt_mul, Int32.toInt_toInt64, Int64.toInt_add, z_m1, Int32.reduceToInt, Int64.reduceToInt, Int32.reduceToNatClampNeg, Int.bmod_def, or_true, true_or, and_true, true_and] <;> omega) | omega)
  · have i_2 := Int32.lt_iff_toInt_lt.mp (Int32.not_le.mp h_2)
    (try simp only [Int32.toInt_add, Int32.toInt_sub, Int32.toInt_mul, Int32.toInt_toInt64, Int64.toInt_add, z_m1, Int32.reduceToInt, Int64.reduceToInt, Int32.reduceToNatClampNeg, Int.bmod_def] at i_2)
    refine vI (vp_of (by first | (simp only [Int32.toInt_add, Int32.toInt_sub, Int32.toInt_mul, Int32.toInt_toInt64, Int64.toInt_add, z_m1, Int32.reduceToInt, Int64.reduceToInt, Int32.reduceToNatClampNeg, Int.bmod_def, or_true, true_or, and_true, true_and] <;> omega) | omega) (by first | (simp only [Int32.toInt_add, Int32.toInt_sub, Int32.toInt_mul, Int32.toInt_toInt64, Int64.toInt_add, z_m1, Int32.reduceToInt, Int64.reduceToInt, Int32.reduceToNatClampNeg, Int.bmod_def, or_true, true_or, and_true, true_and] <;> omega) | omega)) ?_
    obtain ⟨w0_14, w1_14, w2_14, w3_14, w4_14, w5_14⟩ := jL.el p_jL (x := v0) (by first | (simp only [Int32.toInt_add, Int32.toInt_sub, Int32.toInt_mul, Int32.toInt_toInt64, Int64.toInt_add, z_m1, Int32.reduceToInt, Int64.reduceToInt, Int32.reduceToNatClampNeg, Int.bmod_def, or_true, true_or, and_true, true_and] <;> omega) | omega) (by first | (simp only [Int32.toInt_add, Int32.toInt_sub, Int32.toInt_mul, Int32.toInt_toInt64, Int64.toInt_add, z_m1, Int32.reduceToInt, Int64.reduceToInt, Int32.reduceToNatClampNeg, Int.bmod_def, or_true, true_or, and_true, true_and] <;> omega) | omega)
    refine vI (vp_of (by first | (simp only [Int32.toInt_add, Int32.toInt_sub, Int32.toInt_mul, Int32.toInt_toInt64, Int64.toInt_add, z_m1, Int32.reduceToInt, Int64.reduceToInt, Int32.reduceToNatClampNeg, Int.bmod_def, or_true, true_or, and_true, true_and] <;> omega) | omega) (by first | (simp only [Int32.toInt_add, Int32.toInt_sub, Int32.toInt_mul, Int32.toInt_toInt64, Int64.toInt_add, z_m1, Int32.reduceToInt, Int64.reduceToInt, Int32.reduceToNatClampNeg, Int.bmod_def, or_true, true_or, and_true, true_and] <;> omega) | omega)) ?_
    obtain ⟨w0_17, w1_17⟩ := jS.ch p_jS (x := ((M (P + 13) v0.toNatClampNeg) + v1)) (by first | (simp only [Int32.toInt_add, Int32.toInt_sub, Int32.toInt_mul, Int32.toInt_toInt64, Int64.toInt_add, z_m1, Int32.reduceToInt, Int64.reduceToInt, Int32.reduceToNatClampNeg, Int.bmod_def, or_true, true_or, and_true, true_and] <;> omega) | omega) (by first | (simp only [Int32.toInt_add, Int32.toInt_sub, Int32.toInt_mul, Int32.toInt_toInt64, Int64.toInt_add, z_m1, Int32.reduceToInt, Int64.reduceToInt, Int32.reduceToNatClampNeg, Int.bmod_def, or_true, true_or, and_true, true_and] <;> omega) | omega)
    exact T_22 _ p_jB p_jL p_jS (by first | (simp only [Int32.toInt_add, Int32.toInt_sub, Int32.toInt_mul, Int32.toInt_toInt64, Int64.toInt_add, z_m1, Int32.reduceToInt, Int64.reduceToInt, Int32.reduceToNatClampNeg, Int.bmod_def, or_true, true_or, and_true, true_and] <;> omega) | omega) (by first | (simp only [Int32.toInt_add, Int32.toInt_sub, Int32.toInt_mul, Int32.toInt_toInt64, Int64.toInt_add, z_m1, Int32.reduceToInt, Int64.reduceToInt, Int32.reduceToNatClampNeg, Int.bmod_def, or_true, true_or, and_true, true_and] <;> omega) | omega)
theorem v_X8_choiceMany {P : Nat} {M : zMt} {v0 : Int32} (p_jB : jB P M) (p_jS : jS P M) (p_jL : jL P M) (i_3 : 0 ≤ Int32.toInt v0) (i_4 : Int32.toInt v0 < Int32.toInt (M P 33)) : ∃ r, D_X8_choiceMany P M v0 = some r ∧ ((0 ≤ Int32.toInt r) ∧ (Int32.toInt r ≤ 3)) := by
  have L : ∀ (u : Nat) (x : Int32), 0 ≤ x.toInt → x.toInt ≤ 3 → (3 - x.toInt).toNat < u → ∃ r, D_X8_choiceMany_2 P M u v0 x = some r ∧ ((0 ≤ Int32.toInt r) ∧ (Int32.toInt r ≤ 3)) := by
    intro u
    induction u with
    | zero => intro x h0 h1 h2; omega
    | succ u ih =>
      intro x h0 h1 h2
      rw [D_X8_choiceMany_2]
      refine vB (v_X8_choiceOf p_jB p_jS p_jL i_3 i_4 h0) (fun e f q => ?_)
      refine vIf (fun _ => ⟨_, rfl, h0, h1⟩) (fun hc => ?_)
      have h3 : ¬ 3 ≤ x.toInt := fun h => hc (Int32.toInt_inj.mp (by rw [q.2.2.resolve_left (by omega)]; decide))
      have o1 : (1 : Int32).toInt = 1 := by decide
      have e1 : (x + 1).toInt = x.toInt + 1 := by rw [z_add (by omega) (by omega), o1]
      exact ih (x + 1) (by omega) (by omega) (by omega)
  unfold D_X8_choiceMany
  exact L zFu 0 (by decide) (by decide) (by unfold zFu; decide)
set_option maxRecDepth 100000 in
set_option maxHeartbeats 4000000 in
theorem v_X8_placeOf {P : Nat} {M : zMt} {v0 : Int32} {v1 : Int32}  (p_jB : jB P M) (p_jS : jS P M) (p_jL : jL P M) (i_3 : 0 ≤ Int32.toInt v0) (i_4 : Int32.toInt v0 < Int32.toInt (M P 33)) : ∃ r, D_X8_placeOf P M v0 v1 = some r ∧ (((-1 ≤ Int32.toInt r) ∧ (Int32.toInt r ≤ 2))) := by
  obtain ⟨u0_jB, u1_jB, u2_jB, u3_jB, u4_jB, u5_jB⟩ := id p_jB
  obtain ⟨u0_jS, u1_jS, u2_jS, u3_jS, u4_jS, u5_jS, u6_jS, u7_jS⟩ := jS.ints p_jS
  have TL_2 : ∀ u : Nat, ∀ (x1_2 : Int32) (x2_2 : Int32) (x3_2 : Int32), (jB P M) → (jL P M) → (jS P M) → (0 ≤ Int32.toInt x3_2) → (0 ≤ Int32.toInt x1_2 ∧ Int32.toInt x1_2 < Int32.toInt (M P 33)) → (2147483648 - Int32.toInt x3_2).toNat < u → ∃ r, D_X8_placeOf_2 P M u x1_2 x2_2 x3_2 = some r ∧ (((-1 ≤ Int32.toInt r) ∧ (Int32.toInt r ≤ 2))) := by
    intro u
    induction u with
    | zero => intro x1_2 x2_2 x3_2 p_jB_2 p_jL_2 p_jS_2 f0_2 f1_2 hm_2; exact absurd hm_2 (Nat.not_lt_zero _)
    | succ u_2 ih_2 =>
      intro x1_2 x2_2 x3_2 p_jB_2 p_jL_2 p_jS_2 f0_2 f1_2 hm_2
      obtain ⟨u0_jB_2, u1_jB_2, u2_jB_2, u3_jB_2, u4_jB_2, u5_jB_2⟩ := id p_jB_2
      obtain ⟨u0_jS_2, u1_jS_2, u2_jS_2, u3_jS_2, u4_jS_2, u5_jS_2, u6_jS_2, u7_jS_2⟩ := jS.ints p_jS_2
      rw [D_X8_placeOf_2]
      refine vB (v_X8_choiceMany p_jB_2 p_jS_2 p_jL_2 (by first | (simp only [Int32.toInt_add, Int32.toInt_sub, Int32.toInt_mul, Int32.toInt_toInt64, Int64.toInt_add, z_m1, Int32.reduceToInt, Int64.reduceToInt, Int32.reduceToNatClampNeg, Int.bmod_def, or_true, true_or, and_true, true_and] <;> omega) | omega) (by first | (simp only [Int32.toInt_add, Int32.toInt_sub, Int32.toInt_mul, Int32.toInt_toInt64, Int64.toInt_add, z_m1, Int32.reduceToInt, Int64.reduceToInt, Int32.reduceToNatClampNeg, Int.bmod_def, or_true, true_or, and_true, true_and] <;> omega) | omega)) (fun e_5 f_5 q_5 => ?_)
      obtain ⟨x0_5, x1_5⟩ := q_5
      (try simp only [Int32.toInt_add, Int32.toInt_sub, Int32.toInt_mul, Int32.toInt_toInt64, Int64.toInt_add, z_m1, Int32.reduceToInt, Int64.reduceToInt, Int32.reduceToNatClampNeg, Int.bmod_def] at x0_5)
      (try simp only [Int32.toInt_add, Int32.toInt_sub, Int32.toInt_mul, Int32.toInt_toInt64, Int64.toInt_add, z_m1, Int32.reduceToInt, Int64.reduceToInt, Int32.reduceToNatClampNeg, Int.bmod_def] at x1_5)
      refine vIf (fun h_8 => ?_) (fun h_8 => ?_)
      · have i_8 := Int32.le_iff_toInt_le.mp h_8
        (try simp only [Int32.toInt_add, Int32.toInt_sub, Int32.toInt_mul, Int32.toInt_toInt64, Int64.toInt_add, z_m1, Int32.reduceToInt, Int64.reduceToInt, Int32.reduceToNatClampNeg, Int.bmod_def] at i_8)
        exact ⟨_, rfl, ⟨(by first | (simp only [Int32.toInt_add, Int32.toInt_sub, Int32.toInt_mul, Int32.toInt_toInt64, Int64.toInt_add, z_m1, Int32.reduceToInt, Int64.reduceToInt, Int32.reduceToNatClampNeg, Int.bmod_def, or_true, true_or, and_true, true_and] <;> omega) | omega), (by first | (simp only [Int32.toInt_add, Int32.toInt_sub, Int32.toInt_mul, Int32.toInt_toInt64, Int64.toInt_add, z_m1, Int32.reduceToInt, Int64.reduceToInt, Int32.reduceToNatClampNeg, Int.bmod_def, or_true, true_or, and_true, true_and] <;> omega) | omega)⟩⟩
      · have i_8 := Int32.lt_iff_toInt_lt.mp (Int32.not_le.mp h_8)
        (try simp only [Int32.toInt_add, Int32.toInt_sub, Int32.toInt_mul, Int32.toInt_toInt64, Int64.toInt_add, z_m1, Int32.reduceToInt, Int64.reduceToInt, Int32.reduceToNatClampNeg, Int.bmod_def] at i_8)
        refine vB (v_X8_choiceOf p_jB_2 p_jS_2 p_jL_2 (by first | (simp only [Int32.toInt_add, Int32.toInt_sub, Int32.toInt_mul, Int32.toInt_toInt64, Int64.toInt_add, z_m1, Int32.reduceToInt, Int64.reduceToInt, Int32.reduceToNatClampNeg, Int.bmod_def, or_true, true_or, and_true, true_and] <;> omega) | omega) (by first | (simp only [Int32.toInt_add, Int32.toInt_sub, Int32.toInt_mul, Int32.toInt_toInt64, Int64.toInt_add, z_m1, Int32.reduceToInt, Int64.reduceToInt, Int32.reduceToNatClampNeg, Int.bmod_def, or_true, true_or, and_true, true_and] <;> omega) | omega) (by first | (simp only [Int32.toInt_add, Int32.toInt_sub, Int32.toInt_mul, Int32.toInt_toInt64, Int64.toInt_add, z_m1, Int32.reduceToInt, Int64.reduceToInt, Int32.reduceToNatClampNeg, Int.bmod_def, or_true, true_or, and_true, true_and] <;> omega) | omega)) (fun e_14 f_14 q_14 => ?_)
        obtain ⟨x0_14, x1_14, x2_14⟩ := q_14
        (try simp only [Int32.toInt_add, Int32.toInt_sub, Int32.toInt_mul, Int32.toInt_toInt64, Int64.toInt_add, z_m1, Int32.reduceToInt, Int64.reduceToInt, Int32.reduceToNatClampNeg, Int.bmod_def] at x0_14)
        (try simp only [Int32.toInt_add, Int32.toInt_sub, Int32.toInt_mul, Int32.toInt_toInt64, Int64.toInt_add, z_m1, Int32.reduceToInt, Int64.reduceToInt, Int32.reduceToNatClampNeg, Int.bmod_def] at x1_14)
        (try simp only [Int32.toInt_add, Int32.toInt_sub, Int32.toInt_mul, Int32.toInt_toInt64, Int64.toInt_add, z_m1, Int32.reduceToInt, Int64.reduceToInt, Int32.reduceToNatClampNeg, Int.bmod_def] at x2_14)
        refine vIf (fun h_18 => ?_) (fun h_18 => ?_)
        · have i_18 := congrArg Int32.toInt h_18
          (try simp only [Int32.toInt_add, Int32.toInt_sub, Int32.toInt_mul, Int32.toInt_toInt64, Int64.toInt_add, z_m1, Int32.reduceToInt, Int64.reduceToInt, Int32.reduceToNatClampNeg, Int.bmod_def] at i_18)
          exact ⟨_, rfl, ⟨(by first | (simp only [Int32.toInt_add, Int32.toInt_sub, Int32.toInt_mul, Int32.toInt_toInt64, Int64.toInt_add, z_m1, Int32.reduceToInt, Int64.reduceToInt, Int32.reduceToNatClampNeg, Int.bmod_def, or_true, true_or, and_true, true_and] <;> omega) | omega), (by first | (simp only [Int32.toInt_add, Int32.toInt_sub, Int32.toInt_mul, Int32.toInt_toInt64, Int64.toInt_add, z_m1, Int32.reduceToInt, Int64.reduceToInt, Int32.reduceToNatClampNeg, Int.bmod_def, or_true, true_or, and_true, true_and] <;> omega) | omega)⟩⟩
        · have i_18 : ¬ Int32.toInt e_14 = Int32.toInt x2_2 := fun q => h_18 (Int32.toInt_inj.mp q)
          (try simp only [Int32.toInt_add, Int32.toInt_sub, Int32.toInt_mul, Int32.toInt_toInt64, Int64.toInt_add, z_m1, Int32.reduceToInt, Int64.reduceToInt, Int32.reduceToNatClampNeg, Int.bmod_def] at i_18)
          exact ih_2 _ _ _ p_jB_2 p_jL_2 p_jS_2 (by first | (simp only [Int32.toInt_add, Int32.toInt_sub, Int32.toInt_mul, Int32.toInt_toInt64, Int64.toInt_add, z_m1, Int32.reduceToInt, Int64.reduceToInt, Int32.reduceToNatClampNeg, Int.bmod_def, or_true, true_or, and_true, true_and] <;> omega) | omega) (by first | (simp only [Int32.toInt_add, Int32.toInt_sub, Int32.toInt_mul, Int32.toInt_toInt64, Int64.toInt_add, z_m1, Int32.reduceToInt, Int64.reduceToInt, Int32.reduceToNatClampNeg, Int.bmod_def, or_true, true_or, and_true, true_and] <;> omega) | omega) (z_up1 (by first | assumption | exact z_lt (by assumption) | exact z_lt2 (by assumption) | exact z_lt3 (by assumption) (by first | assumption | decide)) hm_2)
  have T_2 : ∀ (x1_2 : Int32) (x2_2 : Int32) (x3_2 : Int32), (jB P M) → (jL P M) → (jS P M) → (0 ≤ Int32.toInt x3_2) → (0 ≤ Int32.toInt x1_2 ∧ Int32.toInt x1_2 < Int32.toInt (M P 33)) → ∃ r, D_X8_placeOf_2 P M zFu x1_2 x2_2 x3_2 = some r ∧ (((-1 ≤ Int32.toInt r) ∧ (Int32.toInt r ≤ 2))) := fun x1_2 x2_2 x3_2 p_jB_2 p_jL_2 p_jS_2 f0_2 f1_2 => TL_2 zFu x1_2 x2_2 x3_2 p_jB_2 p_jL_2 p_jS_2 f0_2 f1_2 (zFu_up _)
  unfold D_X8_placeOf
  exact T_2 _ _ _ p_jB p_jL p_jS (by first | (simp only [Int32.toInt_add, Int32.toInt_sub, Int32.toInt_mul, Int32.toInt_toInt64, Int64.toInt_add, z_m1, Int32.reduceToInt, Int64.reduceToInt, Int32.reduceToNatClampNeg, Int.bmod_def, or_true, true_or, and_true, true_and] <;> omega) | omega) (by first | (simp only [Int32.toInt_add, Int32.toInt_sub, Int32.toInt_mul, Int32.toInt_toInt64, Int64.toInt_add, z_m1, Int32.reduceToInt, Int64.reduceToInt, Int32.reduceToNatClampNeg, Int.bmod_def, or_true, true_or, and_true, true_and] <;> omega) | omega)
def WM_X8_applicantOf (P : Nat) (a j : Nat) : Prop := (P + 11 ≤ a ∧ a < P + 18) ∨ (a = P ∧ (j = 33))
/-- the first applicant in which a hunter stands -/
theorem z_scan {P : Nat} {M : zMt} {h : Nat} (hB : jB P M) (hH : jH P M) (hh : (h : Int) < (M P 8).toInt) : ∃ a : Nat, (a : Int) < (M P 33).toInt ∧ bitAt (M (P + 11) a) h ∧ ∀ b : Nat, b < a → ¬ bitAt (M (P + 11) b) h := by
  obtain ⟨a, h1, h2⟩ := hH h hh
  have key : ∀ n : Nat, (∃ a : Nat, a < n ∧ bitAt (M (P + 11) a) h) → ∃ a : Nat, a < n ∧ bitAt (M (P + 11) a) h ∧ ∀ b : Nat, b < a → ¬ bitAt (M (P + 11) b) h := by
    intro n
    induction n with
    | zero => rintro ⟨a, h1, _⟩; omega
    | succ n ih =>
      rintro ⟨a, h1, h2⟩
      by_cases q : ∃ a : Nat, a < n ∧ bitAt (M (P + 11) a) h
      · obtain ⟨b, b1, b2, b3⟩ := ih q
        exact ⟨b, by omega, b2, b3⟩
      · have : a = n := by
          by_cases z : a < n
          · exact absurd ⟨a, z, h2⟩ q
          · omega
        subst this
        exact ⟨a, h1, h2, fun b hb hc => q ⟨b, hb, hc⟩⟩
  obtain ⟨b, b1, b2, b3⟩ := key (a + 1) ⟨a, by omega, h2⟩
  exact ⟨b, by omega, b2, b3⟩
theorem z_toN {x : Int32} (h0 : 0 ≤ x.toInt) : x = nI x.toInt.toNat := Int32.toInt_inj.mp (by rw [nI_toInt (by have := Int32.toInt_lt x; omega)]; omega)
theorem v_X8_applicantOf {P : Nat} {v0 : Int32} {M0 : zMt} (p_jB : jB P M0) (p_jS : jS P M0) (i_2 : 0 ≤ Int32.toInt v0) (i_3 : Int32.toInt v0 < Int32.toInt (M0 P 8)) : ∃ r, D_X8_applicantOf P v0 M0 = some r ∧ ((∀ a j, ¬ WM_X8_applicantOf P a j → r.2 a j = M0 a j) ∧ (jB P r.2) ∧ (jL P r.2) ∧ (jH P r.2) ∧ (Int32.toInt (r.2 P 33) = nA P r.2) ∧ (0 ≤ Int32.toInt r.1) ∧ (Int32.toInt r.1 < Int32.toInt (r.2 P 33))) := by
  unfold D_X8_applicantOf
  refine vB (v_X8_laysApplicants p_jB p_jS) (fun M1 f1 q1 => ?_)
  obtain ⟨k1, hB, hL, hH, hN⟩ := q1
  have e8 : M1 P 8 = M0 P 8 := k1 P 8 (by unfold WM_X8_laysApplicants; omega)
  obtain ⟨b1, b2, b3, b4, b5, b6⟩ := id hB
  obtain ⟨h, hh, hlt⟩ : ∃ h : Nat, v0 = nI h ∧ (h : Int) = v0.toInt := ⟨v0.toInt.toNat, z_toN i_2, by omega⟩
  subst hh
  obtain ⟨a, a1, a2, a3⟩ := z_scan (h := h) hB hH (by rw [e8]; omega)
  have L : ∀ (u x : Nat), x ≤ a → a - x < u → D_X8_applicantOf_6 P u (nI h) (nI x) M1 = some (nI a, M1) := by
    intro u
    induction u with
    | zero => intro x h1 h2; omega
    | succ u ih =>
      intro x h1 h2
      rw [D_X8_applicantOf_6]
      unfold zI
      rw [if_neg (vp_in_nI (n := x) (by omega) (by decide)), nI_clamp (by omega)]
      obtain ⟨e, he, q⟩ := v_X8_has (v0 := M1 (P + 11) x) (v1 := nI h)
      rw [he]
      show (if e = 0 then _ else _) = _
      by_cases hx : x = a
      · subst hx
        rcases q.2 with ⟨q2, _⟩ | ⟨_, q2⟩
        · rw [q2, if_neg (by decide)]
        · exact absurd a2 q2
      · rcases q.2 with ⟨_, q2⟩ | ⟨q2, _⟩
        · exact absurd q2 (a3 x (by omega))
        · rw [q2, if_pos rfl, nI_1]
          exact ih (x + 1) (by omega) (by omega)
  refine ⟨_, L zFu 0 (Nat.zero_le _) (by unfold zFu; omega), fun x j h => k1 x j (by unfold WM_X8_laysApplicants; unfold WM_X8_applicantOf at h; omega), hB, hL, hH, hN, ?_, ?_⟩
  · show 0 ≤ (nI a).toInt
    rw [nI_toInt (by omega)]; omega
  · show (nI a).toInt < _
    rw [nI_toInt (by omega)]; exact a1
def WM_X8_many (P : Nat) (a j : Nat) : Prop := (P + 11 ≤ a ∧ a < P + 18) ∨ (a = P ∧ (j = 6 ∨ j = 12 ∨ j = 33))
set_option maxRecDepth 100000 in
set_option maxHeartbeats 4000000 in
theorem v_X8_many {P : Nat} {v0 : Int32} {M0 : zMt}  (p_jB : jB P M0) (p_jS : jS P M0) (p_jR : jR P M0) (p_jK : jK P M0) (p_jT : jT P M0) : ∃ r, D_X8_many P v0 M0 = some r ∧ ((∀ a j, ¬ WM_X8_many P a j → r.2 a j = M0 a j) ∧ ((jB P r.2) ∧ (jS P r.2) ∧ (jR P r.2) ∧ (jK P r.2) ∧ (jT P r.2))) := by
  obtain ⟨u0_jB, u1_jB, u2_jB, u3_jB, u4_jB, u5_jB⟩ := id p_jB
  obtain ⟨u0_jS, u1_jS, u2_jS, u3_jS, u4_jS, u5_jS, u6_jS, u7_jS⟩ := jS.ints p_jS
  obtain ⟨u0_jT, u1_jT, u2_jT, u3_jT, u4_jT, u5_jT⟩ := id p_jT
  have TL_196 : ∀ u : Nat, ∀ (x2_196 : Int32) (x3_196 : Int32) (M_196 : zMt), (∀ a j, ¬ WM_X8_many P a j → M_196 a j = M0 a j) → (jB P M_196) → (jH P M_196) → (jK P M_196) → (jL P M_196) → (jR P M_196) → (jS P M_196) → (jT P M_196) → (0 ≤ Int32.toInt x3_196) → (Int32.toInt x3_196 ≤ 10) → (2147483648 - Int32.toInt x3_196).toNat < u → ∃ r, D_X8_many_196 P u x2_196 x3_196 M_196 = some r ∧ ((∀ a j, ¬ WM_X8_many P a j → r.2 a j = M0 a j) ∧ ((jB P r.2) ∧ (jS P r.2) ∧ (jR P r.2) ∧ (jK P r.2) ∧ (jT P r.2))) := by
    intro u
    induction u with
    | zero => intro x2_196 x3_196 M_196 k_196 p_jB_196 p_jH_196 p_jK_196 p_jL_196 p_jR_196 p_jS_196 p_jT_196 f0_196 f1_196 hm_196; exact absurd hm_196 (Nat.not_lt_zero _)
    | succ u_196 ih_196 =>
      have T_219 : ∀ (x3_219 : Int32) (y0_219 : Int32) (y1_219 : Int32) (M_219 : zMt), (∀ a j, ¬ WM_X8_many P a j → M_219 a j = M0 a j) → (jB P M_219) → (jH P M_219) → (jK P M_219) → (jL P M_219) → (jR P M_219) → (jS P M_219) → (jT P M_219) → (y1_219 = 0 ∨ y1_219 = 1) → (0 ≤ Int32.toInt x3_219) → (Int32.toInt x3_219 < 10) → ((2147483648 - Int32.toInt x3_219).toNat < u_196 + 1) → (Int32.toInt x3_219 < 2147483647) → ∃ r, D_X8_many_219 P (D_X8_many_196 P u_196) x3_219 y0_219 y1_219 M_219 = some r ∧ ((∀ a j, ¬ WM_X8_many P a j → r.2 a j = M0 a j) ∧ ((jB P r.2) ∧ (jS P r.2) ∧ (jR P r.2) ∧ (jK P r.2) ∧ (jT P r.2))) := by
        intro x3_219 y0_219 y1_219 M_219 k_219 p_jB_219 p_jH_219 p_jK_219 p_jL_219 p_jR_219 p_jS_219 p_jT_219 f0_219 f1_219 f2_219 f3_219 f4_219
        obtain ⟨u0_jB_219, u1_jB_219, u2_jB_219, u3_jB_219, u4_jB_219, u5_jB_219⟩ := id p_jB_219
        obtain ⟨u0_jS_219, u1_jS_219, u2_jS_219, u3_jS_219, u4_jS_219, u5_jS_219, u6_jS_219, u7_jS_219⟩ := jS.ints p_jS_219
        obtain ⟨u0_jT_219, u1_jT_219, u2_jT_219, u3_jT_219, u4_jT_219, u5_jT_219⟩ := id p_jT_219
        unfold D_X8_many_219
        exact ih_196 _ _ _ k_219 p_jB_219 p_jH_219 p_jK_219 p_jL_219 p_jR_219 p_jS_219 p_jT_219 (by first | (simp only [Int32.toInt_add, Int32.toInt_sub, Int32.toInt_mul, Int32.toInt_toInt64, Int64.toInt_add, z_m1, Int32.reduceToInt, Int64.reduceToInt, Int32.reduceToNatClampNeg, Int.bmod_def, or_true, true_or, and_true, true_and] <;> omega) | omega) (by first | (simp only [Int32.toInt_add, Int32.toInt_sub, Int32.toInt_mul, Int32.toInt_toInt64, Int64.toInt_add, z_m1, Int32.reduceToInt, Int64.reduceToInt, Int32.reduceToNatClampNeg, Int.bmod_def, or_true, true_or, and_true, true_and] <;> omega) | omega) (z_up1 f4_219 f3_219)
      intro x2_196 x3_196 M_196 k_196 p_jB_196 p_jH_196 p_jK_196 p_jL_196 p_jR_196 p_jS_196 p_jT_196 f0_196 f1_196 hm_196
      obtain ⟨u0_jB_196, u1_jB_196, u2_jB_196, u3_jB_196, u4_jB_196, u5_jB_196⟩ := id p_jB_196
      obtain ⟨u0_jS_196, u1_jS_196, u2_jS_196, u3_jS_196, u4_jS_196, u5_jS_196, u6_jS_196, u7_jS_196⟩ := jS.ints p_jS_196
      obtain ⟨u0_jT_196, u1_jT_196, u2_jT_196, u3_jT_196, u4_jT_196, u5_jT_196⟩ := id p_jT_196
      rw [D_X8_many_196]
      refine vIf (fun h_201 => ?_) (fun h_201 => ?_)
      · have i_201 := Int32.le_iff_toInt_le.mp h_201
        (try simp only [Int32.toInt_add, Int32.toInt_sub, Int32.toInt_mul, Int32.toInt_toInt64, Int64.toInt_add, z_m1, Int32.reduceToInt, Int64.reduceToInt, Int32.reduceToNatClampNeg, Int.bmod_def] at i_201)
        refine vB (v_X8_gives) (fun e_229 f_229 q_229 => ?_)
        have k_229 : ∀ a j, ¬ WM_X8_many P a j → e_229.2 a j = M0 a j := fun a j h => (q_229 a j (by unfold WM_X8_gives; unfold WM_X8_many at h; omega)).trans (k_196 a j h)
        have n_229 : nA P e_229.2 = nA P M_196 := nA_congr (fun a j h => q_229 a j (by unfold WM_X8_gives; omega))
        have p_jB_229 : jB P e_229.2 := jB.mono p_jB_196 (fun a j h => q_229 a j (by unfold WM_X8_gives; omega))
        obtain ⟨u0_jB_229, u1_jB_229, u2_jB_229, u3_jB_229, u4_jB_229, u5_jB_229⟩ := id p_jB_229
        have p_jH_229 : jH P e_229.2 := jH.mono p_jH_196 (fun a j h => q_229 a j (by unfold WM_X8_gives; omega))
        have p_jK_229 : jK P e_229.2 := jK.mono p_jK_196 (fun a j h => q_229 a j (by unfold WM_X8_gives; omega))
        have p_jL_229 : jL P e_229.2 := jL.mono p_jL_196 (fun a j h => q_229 a j (by unfold WM_X8_gives; omega))
        have p_jR_229 : jR P e_229.2 := jR.mono p_jR_196 (fun a j h => q_229 a j (by unfold WM_X8_gives; omega))
        have p_jS_229 : jS P e_229.2 := jS.mono p_jS_196 (fun a j h => q_229 a j (by unfold WM_X8_gives; omega))
        obtain ⟨u0_jS_229, u1_jS_229, u2_jS_229, u3_jS_229, u4_jS_229, u5_jS_229, u6_jS_229, u7_jS_229⟩ := jS.ints p_jS_229
        have p_jT_229 : jT P e_229.2 := jT.mono p_jT_196 (fun a j h => q_229 a j (by unfold WM_X8_gives; omega))
        obtain ⟨u0_jT_229, u1_jT_229, u2_jT_229, u3_jT_229, u4_jT_229, u5_jT_229⟩ := id p_jT_229
        exact ⟨_, rfl, k_229, ⟨p_jB_229, p_jS_229, p_jR_229, p_jK_229, p_jT_229⟩⟩
      · have i_201 := Int32.lt_iff_toInt_lt.mp (Int32.not_le.mp h_201)
        (try simp only [Int32.toInt_add, Int32.toInt_sub, Int32.toInt_mul, Int32.toInt_toInt64, Int64.toInt_add, z_m1, Int32.reduceToInt, Int64.reduceToInt, Int32.reduceToNatClampNeg, Int.bmod_def] at i_201)
        refine vI (vp_of (by first | (simp only [Int32.toInt_add, Int32.toInt_sub, Int32.toInt_mul, Int32.toInt_toInt64, Int64.toInt_add, z_m1, Int32.reduceToInt, Int64.reduceToInt, Int32.reduceToNatClampNeg, Int.bmod_def, or_true, true_or, and_true, true_and] <;> omega) | omega) (by first | (simp only [Int32.toInt_add, Int32.toInt_sub, Int32.toInt_mul, Int32.toInt_toInt64, Int64.toInt_add, z_m1, Int32.reduceToInt, Int64.reduceToInt, Int32.reduceToNatClampNeg, Int.bmod_def, or_true, true_or, and_true, true_and] <;> omega) | omega)) ?_
        refine vIf (fun h_211 => ?_) (fun h_211 => ?_)
        · have i_211 := congrArg Int32.toInt h_211
          (try simp only [Int32.toInt_add, Int32.toInt_sub, Int32.toInt_mul, Int32.toInt_toInt64, Int64.toInt_add, z_m1, Int32.reduceToInt, Int64.reduceToInt, Int32.reduceToNatClampNeg, Int.bmod_def] at i_211)
          exact T_219 _ _ _ _ k_196 p_jB_196 p_jH_196 p_jK_196 p_jL_196 p_jR_196 p_jS_196 p_jT_196 (by first | exact Or.inl rfl | exact Or.inr rfl | assumption) (by first | (simp only [Int32.toInt_add, Int32.toInt_sub, Int32.toInt_mul, Int32.toInt_toInt64, Int64.toInt_add, z_m1, Int32.reduceToInt, Int64.reduceToInt, Int32.reduceToNatClampNeg, Int.bmod_def, or_true, true_or, and_true, true_and] <;> omega) | omega) (by first | (simp only [Int32.toInt_add, Int32.toInt_sub, Int32.toInt_mul, Int32.toInt_toInt64, Int64.toInt_add, z_m1, Int32.reduceToInt, Int64.reduceToInt, Int32.reduceToNatClampNeg, Int.bmod_def, or_true, true_or, and_true, true_and] <;> omega) | omega) hm_196 (by first | assumption | exact z_lt (by assumption) | exact z_lt2 (by assumption) | exact z_lt3 (by assumption) (by first | assumption | decide))
        · have i_211 : ¬ Int32.toInt (M_196 (P + 5) x3_196.toNatClampNeg) = Int32.toInt (0 : Int32) := fun q => h_211 (Int32.toInt_inj.mp q)
          (try simp only [Int32.toInt_add, Int32.toInt_sub, Int32.toInt_mul, Int32.toInt_toInt64, Int64.toInt_add, z_m1, Int32.reduceToInt, Int64.reduceToInt, Int32.reduceToNatClampNeg, Int.bmod_def] at i_211)
          exact T_219 _ _ _ _ k_196 p_jB_196 p_jH_196 p_jK_196 p_jL_196 p_jR_196 p_jS_196 p_jT_196 (by first | exact Or.inl rfl | exact Or.inr rfl | assumption) (by first | (simp only [Int32.toInt_add, Int32.toInt_sub, Int32.toInt_mul, Int32.toInt_toInt64, Int64.toInt_add, z_m1, Int32.reduceToInt, Int64.reduceToInt, Int32.reduceToNatClampNeg, Int.bmod_def, or_true, true_or, and_true, true_and] <;> omega) | omega) (by first | (simp only [Int32.toInt_add, Int32.toInt_sub, Int32.toInt_mul, Int32.toInt_toInt64, Int64.toInt_add, z_m1, Int32.reduceToInt, Int64.reduceToInt, Int32.reduceToNatClampNeg, Int.bmod_def, or_true, true_or, and_true, true_and] <;> omega) | omega) hm_196 (by first | assumption | exact z_lt (by assumption) | exact z_lt2 (by assumption) | exact z_lt3 (by assumption) (by first | assumption | decide))
  have T_196 : ∀ (x2_196 : Int32) (x3_196 : Int32) (M_196 : zMt), (∀ a j, ¬ WM_X8_many P a j → M_196 a j = M0 a j) → (jB P M_196) → (jH P M_196) → (jK P M_196) → (jL P M_196) → (jR P M_196) → (jS P M_196) → (jT P M_196) → (0 ≤ Int32.toInt x3_196) → (Int32.toInt x3_196 ≤ 10) → ∃ r, D_X8_many_196 P zFu x2_196 x3_196 M_196 = some r ∧ ((∀ a j, ¬ WM_X8_many P a j → r.2 a j = M0 a j) ∧ ((jB P r.2) ∧ (jS P r.2) ∧ (jR P r.2) ∧ (jK P r.2) ∧ (jT P r.2))) := fun x2_196 x3_196 M_196 k_196 p_jB_196 p_jH_196 p_jK_196 p_jL_196 p_jR_196 p_jS_196 p_jT_196 f0_196 f1_196 => TL_196 zFu x2_196 x3_196 M_196 k_196 p_jB_196 p_jH_196 p_jK_196 p_jL_196 p_jR_196 p_jS_196 p_jT_196 f0_196 f1_196 (zFu_up _)
  have TL_162 : ∀ u : Nat, ∀ (x2_162 : Int32) (x3_162 : Int32) (M_162 : zMt), (∀ a j, ¬ WM_X8_many P a j → M_162 a j = M0 a j) → (jB P M_162) → (jH P M_162) → (jK P M_162) → (jL P M_162) → (jR P M_162) → (jS P M_162) → (jT P M_162) → (0 ≤ Int32.toInt x3_162) → (Int32.toInt x3_162 ≤ 5) → (2147483648 - Int32.toInt x3_162).toNat < u → ∃ r, D_X8_many_162 P u x2_162 x3_162 M_162 = some r ∧ ((∀ a j, ¬ WM_X8_many P a j → r.2 a j = M0 a j) ∧ ((jB P r.2) ∧ (jS P r.2) ∧ (jR P r.2) ∧ (jK P r.2) ∧ (jT P r.2))) := by
    intro u
    induction u with
    | zero => intro x2_162 x3_162 M_162 k_162 p_jB_162 p_jH_162 p_jK_162 p_jL_162 p_jR_162 p_jS_162 p_jT_162 f0_162 f1_162 hm_162; exact absurd hm_162 (Nat.not_lt_zero _)
    | succ u_162 ih_162 =>
      intro x2_162 x3_162 M_162 k_162 p_jB_162 p_jH_162 p_jK_162 p_jL_162 p_jR_162 p_jS_162 p_jT_162 f0_162 f1_162 hm_162
      obtain ⟨u0_jB_162, u1_jB_162, u2_jB_162, u3_jB_162, u4_jB_162, u5_jB_162⟩ := id p_jB_162
      obtain ⟨u0_jS_162, u1_jS_162, u2_jS_162, u3_jS_162, u4_jS_162, u5_jS_162, u6_jS_162, u7_jS_162⟩ := jS.ints p_jS_162
      obtain ⟨u0_jT_162, u1_jT_162, u2_jT_162, u3_jT_162, u4_jT_162, u5_jT_162⟩ := id p_jT_162
      rw [D_X8_many_162]
      refine vIf (fun h_167 => ?_) (fun h_167 => ?_)
      · have i_167 := Int32.le_iff_toInt_le.mp h_167
        (try simp only [Int32.toInt_add, Int32.toInt_sub, Int32.toInt_mul, Int32.toInt_toInt64, Int64.toInt_add, z_m1, Int32.reduceToInt, Int64.reduceToInt, Int32.reduceToNatClampNeg, Int.bmod_def] at i_167)
        refine vB (v_X8_gives) (fun e_190 f_190 q_190 => ?_)
        have k_190 : ∀ a j, ¬ WM_X8_many P a j → e_190.2 a j = M0 a j := fun a j h => (q_190 a j (by unfold WM_X8_gives; unfold WM_X8_many at h; omega)).trans (k_162 a j h)
        have n_190 : nA P e_190.2 = nA P M_162 := nA_congr (fun a j h => q_190 a j (by unfold WM_X8_gives; omega))
        have p_jB_190 : jB P e_190.2 := jB.mono p_jB_162 (fun a j h => q_190 a j (by unfold WM_X8_gives; omega))
        obtain ⟨u0_jB_190, u1_jB_190, u2_jB_190, u3_jB_190, u4_jB_190, u5_jB_190⟩ := id p_jB_190
        have p_jH_190 : jH P e_190.2 := jH.mono p_jH_162 (fun a j h => q_190 a j (by unfold WM_X8_gives; omega))
        have p_jK_190 : jK P e_190.2 := jK.mono p_jK_162 (fun a j h => q_190 a j (by unfold WM_X8_gives; omega))
        have p_jL_190 : jL P e_190.2 := jL.mono p_jL_162 (fun a j h => q_190 a j (by unfold WM_X8_gives; omega))
        have p_jR_190 : jR P e_190.2 := jR.mono p_jR_162 (fun a j h => q_190 a j (by unfold WM_X8_gives; omega))
        have p_jS_190 : jS P e_190.2 := jS.mono p_jS_162 (fun a j h => q_190 a j (by unfold WM_X8_gives; omega))
        obtain ⟨u0_jS_190, u1_jS_190, u2_jS_190, u3_jS_190, u4_jS_190, u5_jS_190, u6_jS_190, u7_jS_190⟩ := jS.ints p_jS_190
        have p_jT_190 : jT P e_190.2 := jT.mono p_jT_162 (fun a j h => q_190 a j (by unfold WM_X8_gives; omega))
        obtain ⟨u0_jT_190, u1_jT_190, u2_jT_190, u3_jT_190, u4_jT_190, u5_jT_190⟩ := id p_jT_190
        exact ⟨_, rfl, k_190, ⟨p_jB_190, p_jS_190, p_jR_190, p_jK_190, p_jT_190⟩⟩
      · have i_167 := Int32.lt_iff_toInt_lt.mp (Int32.not_le.mp h_167)
        (try simp only [Int32.toInt_add, Int32.toInt_sub, Int32.toInt_mul, Int32.toInt_toInt64, Int64.toInt_add, z_m1, Int32.reduceToInt, Int64.reduceToInt, Int32.reduceToNatClampNeg, Int.bmod_def] at i_167)
        refine vI (vp_of (by first | (simp only [Int32.toInt_add, Int32.toInt_sub, Int32.toInt_mul, Int32.toInt_toInt64, Int64.toInt_add, z_m1, Int32.reduceToInt, Int64.reduceToInt, Int32.reduceToNatClampNeg, Int.bmod_def, or_true, true_or, and_true, true_and] <;> omega) | omega) (by first | (simp only [Int32.toInt_add, Int32.toInt_sub, Int32.toInt_mul, Int32.toInt_toInt64, Int64.toInt_add, z_m1, Int32.reduceToInt, Int64.reduceToInt, Int32.reduceToNatClampNeg, Int.bmod_def, or_true, true_or, and_true, true_and] <;> omega) | omega)) ?_
        exact ih_162 _ _ _ k_162 p_jB_162 p_jH_162 p_jK_162 p_jL_162 p_jR_162 p_jS_162 p_jT_162 (by first | (simp only [Int32.toInt_add, Int32.toInt_sub, Int32.toInt_mul, Int32.toInt_toInt64, Int64.toInt_add, z_m1, Int32.reduceToInt, Int64.reduceToInt, Int32.reduceToNatClampNeg, Int.bmod_def, or_true, true_or, and_true, true_and] <;> omega) | omega) (by first | (simp only [Int32.toInt_add, Int32.toInt_sub, Int32.toInt_mul, Int32.toInt_toInt64, Int64.toInt_add, z_m1, Int32.reduceToInt, Int64.reduceToInt, Int32.reduceToNatClampNeg, Int.bmod_def, or_true, true_or, and_true, true_and] <;> omega) | omega) (z_up1 (by first | assumption | exact z_lt (by assumption) | exact z_lt2 (by assumption) | exact z_lt3 (by assumption) (by first | assumption | decide)) hm_162)
  have T_162 : ∀ (x2_162 : Int32) (x3_162 : Int32) (M_162 : zMt), (∀ a j, ¬ WM_X8_many P a j → M_162 a j = M0 a j) → (jB P M_162) → (jH P M_162) → (jK P M_162) → (jL P M_162) → (jR P M_162) → (jS P M_162) → (jT P M_162) → (0 ≤ Int32.toInt x3_162) → (Int32.toInt x3_162 ≤ 5) → ∃ r, D_X8_many_162 P zFu x2_162 x3_162 M_162 = some r ∧ ((∀ a j, ¬ WM_X8_many P a j → r.2 a j = M0 a j) ∧ ((jB P r.2) ∧ (jS P r.2) ∧ (jR P r.2) ∧ (jK P r.2) ∧ (jT P r.2))) := fun x2_162 x3_162 M_162 k_162 p_jB_162 p_jH_162 p_jK_162 p_jL_162 p_jR_162 p_jS_162 p_jT_162 f0_162 f1_162 => TL_162 zFu x2_162 x3_162 M_162 k_162 p_jB_162 p_jH_162 p_jK_162 p_jL_162 p_jR_162 p_jS_162 p_jT_162 f0_162 f1_162 (zFu_up _)
  unfold D_X8_many
  refine vB (v_X8_laysApplicants p_jB p_jS) (fun e_1 f_1 q_1 => ?_)
  have k_1 : ∀ a j, ¬ WM_X8_many P a j → e_1 a j = M0 a j := fun a j h => (q_1.1 a j (by unfold WM_X8_laysApplicants; unfold WM_X8_many at h; omega))
  have n_1 : nA P e_1 = nA P M0 := nA_congr (fun a j h => q_1.1 a j (by unfold WM_X8_laysApplicants; omega))
  have p_jS_1 : jS P e_1 := jS.mono p_jS (fun a j h => q_1.1 a j (by unfold WM_X8_laysApplicants; omega))
  obtain ⟨u0_jS_1, u1_jS_1, u2_jS_1, u3_jS_1, u4_jS_1, u5_jS_1, u6_jS_1, u7_jS_1⟩ := jS.ints p_jS_1
  have p_jR_1 : jR P e_1 := jR.mono p_jR (fun a j h => q_1.1 a j (by unfold WM_X8_laysApplicants; omega))
  have p_jK_1 : jK P e_1 := jK.mono p_jK (fun a j h => q_1.1 a j (by unfold WM_X8_laysApplicants; omega))
  have p_jT_1 : jT P e_1 := jT.mono p_jT (fun a j h => q_1.1 a j (by unfold WM_X8_laysApplicants; omega))
  obtain ⟨u0_jT_1, u1_jT_1, u2_jT_1, u3_jT_1, u4_jT_1, u5_jT_1⟩ := id p_jT_1
  obtain ⟨x0_1, x1_1, x2_1, x3_1⟩ := q_1.2
  obtain ⟨u0_jB_1, u1_jB_1, u2_jB_1, u3_jB_1, u4_jB_1, u5_jB_1⟩ := id x0_1
  (try simp only [Int32.toInt_add, Int32.toInt_sub, Int32.toInt_mul, Int32.toInt_toInt64, Int64.toInt_add, z_m1, Int32.reduceToInt, Int64.reduceToInt, Int32.reduceToNatClampNeg, Int.bmod_def] at x3_1)
  refine vIf (fun h_7 => ?_) (fun h_7_0 => ?_)
  · skip
    refine vB (v_X8_gives) (fun e_69 f_69 q_69 => ?_)
    have k_69 : ∀ a j, ¬ WM_X8_many P a j → e_69.2 a j = M0 a j := fun a j h => (q_69 a j (by unfold WM_X8_gives; unfold WM_X8_many at h; omega)).trans (k_1 a j h)
    have n_69 : nA P e_69.2 = nA P e_1 := nA_congr (fun a j h => q_69 a j (by unfold WM_X8_gives; omega))
    have p_jS_69 : jS P e_69.2 := jS.mono p_jS_1 (fun a j h => q_69 a j (by unfold WM_X8_gives; omega))
    obtain ⟨u0_jS_69, u1_jS_69, u2_jS_69, u3_jS_69, u4_jS_69, u5_jS_69, u6_jS_69, u7_jS_69⟩ := jS.ints p_jS_69
    have p_jR_69 : jR P e_69.2 := jR.mono p_jR_1 (fun a j h => q_69 a j (by unfold WM_X8_gives; omega))
    have p_jK_69 : jK P e_69.2 := jK.mono p_jK_1 (fun a j h => q_69 a j (by unfold WM_X8_gives; omega))
    have p_jT_69 : jT P e_69.2 := jT.mono p_jT_1 (fun a j h => q_69 a j (by unfold WM_X8_gives; omega))
    obtain ⟨u0_jT_69, u1_jT_69, u2_jT_69, u3_jT_69, u4_jT_69, u5_jT_69⟩ := id p_jT_69
    have p_jB_69 : jB P e_69.2 := jB.mono x0_1 (fun a j h => q_69 a j (by unfold WM_X8_gives; omega))
    obtain ⟨u0_jB_69, u1_jB_69, u2_jB_69, u3_jB_69, u4_jB_69, u5_jB_69⟩ := id p_jB_69
    have p_jL_69 : jL P e_69.2 := jL.mono x1_1 (fun a j h => q_69 a j (by unfold WM_X8_gives; omega))
    have p_jH_69 : jH P e_69.2 := jH.mono x2_1 (fun a j h => q_69 a j (by unfold WM_X8_gives; omega))
    exact ⟨_, rfl, k_69, ⟨p_jB_69, p_jS_69, p_jR_69, p_jK_69, p_jT_69⟩⟩
  refine vIf (fun h_7 => ?_) (fun h_7_1 => ?_)
  · skip
    refine vB (v_X8_gives) (fun e_78 f_78 q_78 => ?_)
    have k_78 : ∀ a j, ¬ WM_X8_many P a j → e_78.2 a j = M0 a j := fun a j h => (q_78 a j (by unfold WM_X8_gives; unfold WM_X8_many at h; omega)).trans (k_1 a j h)
    have n_78 : nA P e_78.2 = nA P e_1 := nA_congr (fun a j h => q_78 a j (by unfold WM_X8_gives; omega))
    have p_jS_78 : jS P e_78.2 := jS.mono p_jS_1 (fun a j h => q_78 a j (by unfold WM_X8_gives; omega))
    obtain ⟨u0_jS_78, u1_jS_78, u2_jS_78, u3_jS_78, u4_jS_78, u5_jS_78, u6_jS_78, u7_jS_78⟩ := jS.ints p_jS_78
    have p_jR_78 : jR P e_78.2 := jR.mono p_jR_1 (fun a j h => q_78 a j (by unfold WM_X8_gives; omega))
    have p_jK_78 : jK P e_78.2 := jK.mono p_jK_1 (fun a j h => q_78 a j (by unfold WM_X8_gives; omega))
    have p_jT_78 : jT P e_78.2 := jT.mono p_jT_1 (fun a j h => q_78 a j (by unfold WM_X8_gives; omega))
    obtain ⟨u0_jT_78, u1_jT_78, u2_jT_78, u3_jT_78, u4_jT_78, u5_jT_78⟩ := id p_jT_78
    have p_jB_78 : jB P e_78.2 := jB.mono x0_1 (fun a j h => q_78 a j (by unfold WM_X8_gives; omega))
    obtain ⟨u0_jB_78, u1_jB_78, u2_jB_78, u3_jB_78, u4_jB_78, u5_jB_78⟩ := id p_jB_78
    have p_jL_78 : jL P e_78.2 := jL.mono x1_1 (fun a j h => q_78 a j (by unfold WM_X8_gives; omega))
    have p_jH_78 : jH P e_78.2 := jH.mono x2_1 (fun a j h => q_78 a j (by unfold WM_X8_gives; omega))
    exact ⟨_, rfl, k_78, ⟨p_jB_78, p_jS_78, p_jR_78, p_jK_78, p_jT_78⟩⟩
  refine vIf (fun h_7 => ?_) (fun h_7_2 => ?_)
  · skip
    refine vI (vp_of (by first | (simp only [Int32.toInt_add, Int32.toInt_sub, Int32.toInt_mul, Int32.toInt_toInt64, Int64.toInt_add, z_m1, Int32.reduceToInt, Int64.reduceToInt, Int32.reduceToNatClampNeg, Int.bmod_def, or_true, true_or, and_true, true_and] <;> omega) | omega) (by first | (simp only [Int32.toInt_add, Int32.toInt_sub, Int32.toInt_mul, Int32.toInt_toInt64, Int64.toInt_add, z_m1, Int32.reduceToInt, Int64.reduceToInt, Int32.reduceToNatClampNeg, Int.bmod_def, or_true, true_or, and_true, true_and] <;> omega) | omega)) ?_
    refine vB (v_X8_gives) (fun e_90 f_90 q_90 => ?_)
    have k_90 : ∀ a j, ¬ WM_X8_many P a j → e_90.2 a j = M0 a j := fun a j h => (q_90 a j (by unfold WM_X8_gives; unfold WM_X8_many at h; omega)).trans (k_1 a j h)
    have n_90 : nA P e_90.2 = nA P e_1 := nA_congr (fun a j h => q_90 a j (by unfold WM_X8_gives; omega))
    have p_jS_90 : jS P e_90.2 := jS.mono p_jS_1 (fun a j h => q_90 a j (by unfold WM_X8_gives; omega))
    obtain ⟨u0_jS_90, u1_jS_90, u2_jS_90, u3_jS_90, u4_jS_90, u5_jS_90, u6_jS_90, u7_jS_90⟩ := jS.ints p_jS_90
    have p_jR_90 : jR P e_90.2 := jR.mono p_jR_1 (fun a j h => q_90 a j (by unfold WM_X8_gives; omega))
    have p_jK_90 : jK P e_90.2 := jK.mono p_jK_1 (fun a j h => q_90 a j (by unfold WM_X8_gives; omega))
    have p_jT_90 : jT P e_90.2 := jT.mono p_jT_1 (fun a j h => q_90 a j (by unfold WM_X8_gives; omega))
    obtain ⟨u0_jT_90, u1_jT_90, u2_jT_90, u3_jT_90, u4_jT_90, u5_jT_90⟩ := id p_jT_90
    have p_jB_90 : jB P e_90.2 := jB.mono x0_1 (fun a j h => q_90 a j (by unfold WM_X8_gives; omega))
    obtain ⟨u0_jB_90, u1_jB_90, u2_jB_90, u3_jB_90, u4_jB_90, u5_jB_90⟩ := id p_jB_90
    have p_jL_90 : jL P e_90.2 := jL.mono x1_1 (fun a j h => q_90 a j (by unfold WM_X8_gives; omega))
    have p_jH_90 : jH P e_90.2 := jH.mono x2_1 (fun a j h => q_90 a j (by unfold WM_X8_gives; omega))
    exact ⟨_, rfl, k_90, ⟨p_jB_90, p_jS_90, p_jR_90, p_jK_90, p_jT_90⟩⟩
  refine vIf (fun h_7 => ?_) (fun h_7_3 => ?_)
  · skip
    refine vB (v_X8_gives) (fun e_99 f_99 q_99 => ?_)
    have k_99 : ∀ a j, ¬ WM_X8_many P a j → e_99.2 a j = M0 a j := fun a j h => (q_99 a j (by unfold WM_X8_gives; unfold WM_X8_many at h; omega)).trans (k_1 a j h)
    have n_99 : nA P e_99.2 = nA P e_1 := nA_congr (fun a j h => q_99 a j (by unfold WM_X8_gives; omega))
    have p_jS_99 : jS P e_99.2 := jS.mono p_jS_1 (fun a j h => q_99 a j (by unfold WM_X8_gives; omega))
    obtain ⟨u0_jS_99, u1_jS_99, u2_jS_99, u3_jS_99, u4_jS_99, u5_jS_99, u6_jS_99, u7_jS_99⟩ := jS.ints p_jS_99
    have p_jR_99 : jR P e_99.2 := jR.mono p_jR_1 (fun a j h => q_99 a j (by unfold WM_X8_gives; omega))
    have p_jK_99 : jK P e_99.2 := jK.mono p_jK_1 (fun a j h => q_99 a j (by unfold WM_X8_gives; omega))
    have p_jT_99 : jT P e_99.2 := jT.mono p_jT_1 (fun a j h => q_99 a j (by unfold WM_X8_gives; omega))
    obtain ⟨u0_jT_99, u1_jT_99, u2_jT_99, u3_jT_99, u4_jT_99, u5_jT_99⟩ := id p_jT_99
    have p_jB_99 : jB P e_99.2 := jB.mono x0_1 (fun a j h => q_99 a j (by unfold WM_X8_gives; omega))
    obtain ⟨u0_jB_99, u1_jB_99, u2_jB_99, u3_jB_99, u4_jB_99, u5_jB_99⟩ := id p_jB_99
    have p_jL_99 : jL P e_99.2 := jL.mono x1_1 (fun a j h => q_99 a j (by unfold WM_X8_gives; omega))
    have p_jH_99 : jH P e_99.2 := jH.mono x2_1 (fun a j h => q_99 a j (by unfold WM_X8_gives; omega))
    exact ⟨_, rfl, k_99, ⟨p_jB_99, p_jS_99, p_jR_99, p_jK_99, p_jT_99⟩⟩
  refine vIf (fun h_7 => ?_) (fun h_7_4 => ?_)
  · skip
    refine vI (vp_of (by first | (simp only [Int32.toInt_add, Int32.toInt_sub, Int32.toInt_mul, Int32.toInt_toInt64, Int64.toInt_add, z_m1, Int32.reduceToInt, Int64.reduceToInt, Int32.reduceToNatClampNeg, Int.bmod_def, or_true, true_or, and_true, true_and] <;> omega) | omega) (by first | (simp only [Int32.toInt_add, Int32.toInt_sub, Int32.toInt_mul, Int32.toInt_toInt64, Int64.toInt_add, z_m1, Int32.reduceToInt, Int64.reduceToInt, Int32.reduceToNatClampNeg, Int.bmod_def, or_true, true_or, and_true, true_and] <;> omega) | omega)) ?_
    refine vB (v_X8_gives) (fun e_111 f_111 q_111 => ?_)
    have k_111 : ∀ a j, ¬ WM_X8_many P a j → e_111.2 a j = M0 a j := fun a j h => (q_111 a j (by unfold WM_X8_gives; unfold WM_X8_many at h; omega)).trans (k_1 a j h)
    have n_111 : nA P e_111.2 = nA P e_1 := nA_congr (fun a j h => q_111 a j (by unfold WM_X8_gives; omega))
    have p_jS_111 : jS P e_111.2 := jS.mono p_jS_1 (fun a j h => q_111 a j (by unfold WM_X8_gives; omega))
    obtain ⟨u0_jS_111, u1_jS_111, u2_jS_111, u3_jS_111, u4_jS_111, u5_jS_111, u6_jS_111, u7_jS_111⟩ := jS.ints p_jS_111
    have p_jR_111 : jR P e_111.2 := jR.mono p_jR_1 (fun a j h => q_111 a j (by unfold WM_X8_gives; omega))
    have p_jK_111 : jK P e_111.2 := jK.mono p_jK_1 (fun a j h => q_111 a j (by unfold WM_X8_gives; omega))
    have p_jT_111 : jT P e_111.2 := jT.mono p_jT_1 (fun a j h => q_111 a j (by unfold WM_X8_gives; omega))
    obtain ⟨u0_jT_111, u1_jT_111, u2_jT_111, u3_jT_111, u4_jT_111, u5_jT_111⟩ := id p_jT_111
    have p_jB_111 : jB P e_111.2 := jB.mono x0_1 (fun a j h => q_111 a j (by unfold WM_X8_gives; omega))
    obtain ⟨u0_jB_111, u1_jB_111, u2_jB_111, u3_jB_111, u4_jB_111, u5_jB_111⟩ := id p_jB_111
    have p_jL_111 : jL P e_111.2 := jL.mono x1_1 (fun a j h => q_111 a j (by unfold WM_X8_gives; omega))
    have p_jH_111 : jH P e_111.2 := jH.mono x2_1 (fun a j h => q_111 a j (by unfold WM_X8_gives; omega))
    exact ⟨_, rfl, k_111, ⟨p_jB_111, p_jS_111, p_jR_111, p_jK_111, p_jT_111⟩⟩
  refine vIf (fun h_7 => ?_) (fun h_7_5 => ?_)
  · skip
    refine vI (vp_of (by first | (simp only [Int32.toInt_add, Int32.toInt_sub, Int32.toInt_mul, Int32.toInt_toInt64, Int64.toInt_add, z_m1, Int32.reduceToInt, Int64.reduceToInt, Int32.reduceToNatClampNeg, Int.bmod_def, or_true, true_or, and_true, true_and] <;> omega) | omega) (by first | (simp only [Int32.toInt_add, Int32.toInt_sub, Int32.toInt_mul, Int32.toInt_toInt64, Int64.toInt_add, z_m1, Int32.reduceToInt, Int64.reduceToInt, Int32.reduceToNatClampNeg, Int.bmod_def, or_true, true_or, and_true, true_and] <;> omega) | omega)) ?_
    refine vB (v_X8_gives) (fun e_123 f_123 q_123 => ?_)
    have k_123 : ∀ a j, ¬ WM_X8_many P a j → e_123.2 a j = M0 a j := fun a j h => (q_123 a j (by unfold WM_X8_gives; unfold WM_X8_many at h; omega)).trans (k_1 a j h)
    have n_123 : nA P e_123.2 = nA P e_1 := nA_congr (fun a j h => q_123 a j (by unfold WM_X8_gives; omega))
    have p_jS_123 : jS P e_123.2 := jS.mono p_jS_1 (fun a j h => q_123 a j (by unfold WM_X8_gives; omega))
    obtain ⟨u0_jS_123, u1_jS_123, u2_jS_123, u3_jS_123, u4_jS_123, u5_jS_123, u6_jS_123, u7_jS_123⟩ := jS.ints p_jS_123
    have p_jR_123 : jR P e_123.2 := jR.mono p_jR_1 (fun a j h => q_123 a j (by unfold WM_X8_gives; omega))
    have p_jK_123 : jK P e_123.2 := jK.mono p_jK_1 (fun a j h => q_123 a j (by unfold WM_X8_gives; omega))
    have p_jT_123 : jT P e_123.2 := jT.mono p_jT_1 (fun a j h => q_123 a j (by unfold WM_X8_gives; omega))
    obtain ⟨u0_jT_123, u1_jT_123, u2_jT_123, u3_jT_123, u4_jT_123, u5_jT_123⟩ := id p_jT_123
    have p_jB_123 : jB P e_123.2 := jB.mono x0_1 (fun a j h => q_123 a j (by unfold WM_X8_gives; omega))
    obtain ⟨u0_jB_123, u1_jB_123, u2_jB_123, u3_jB_123, u4_jB_123, u5_jB_123⟩ := id p_jB_123
    have p_jL_123 : jL P e_123.2 := jL.mono x1_1 (fun a j h => q_123 a j (by unfold WM_X8_gives; omega))
    have p_jH_123 : jH P e_123.2 := jH.mono x2_1 (fun a j h => q_123 a j (by unfold WM_X8_gives; omega))
    exact ⟨_, rfl, k_123, ⟨p_jB_123, p_jS_123, p_jR_123, p_jK_123, p_jT_123⟩⟩
  refine vIf (fun h_7 => ?_) (fun h_7_6 => ?_)
  · skip
    refine vI (vp_of (by first | (simp only [Int32.toInt_add, Int32.toInt_sub, Int32.toInt_mul, Int32.toInt_toInt64, Int64.toInt_add, z_m1, Int32.reduceToInt, Int64.reduceToInt, Int32.reduceToNatClampNeg, Int.bmod_def, or_true, true_or, and_true, true_and] <;> omega) | omega) (by first | (simp only [Int32.toInt_add, Int32.toInt_sub, Int32.toInt_mul, Int32.toInt_toInt64, Int64.toInt_add, z_m1, Int32.reduceToInt, Int64.reduceToInt, Int32.reduceToNatClampNeg, Int.bmod_def, or_true, true_or, and_true, true_and] <;> omega) | omega)) ?_
    refine vB (v_X8_gives) (fun e_135 f_135 q_135 => ?_)
    have k_135 : ∀ a j, ¬ WM_X8_many P a j → e_135.2 a j = M0 a j := fun a j h => (q_135 a j (by unfold WM_X8_gives; unfold WM_X8_many at h; omega)).trans (k_1 a j h)
    have n_135 : nA P e_135.2 = nA P e_1 := nA_congr (fun a j h => q_135 a j (by unfold WM_X8_gives; omega))
    have p_jS_135 : jS P e_135.2 := jS.mono p_jS_1 (fun a j h => q_135 a j (by unfold WM_X8_gives; omega))
    obtain ⟨u0_jS_135, u1_jS_135, u2_jS_135, u3_jS_135, u4_jS_135, u5_jS_135, u6_jS_135, u7_jS_135⟩ := jS.ints p_jS_135
    have p_jR_135 : jR P e_135.2 := jR.mono p_jR_1 (fun a j h => q_135 a j (by unfold WM_X8_gives; omega))
    have p_jK_135 : jK P e_135.2 := jK.mono p_jK_1 (fun a j h => q_135 a j (by unfold WM_X8_gives; omega))
    have p_jT_135 : jT P e_135.2 := jT.mono p_jT_1 (fun a j h => q_135 a j (by unfold WM_X8_gives; omega))
    obtain ⟨u0_jT_135, u1_jT_135, u2_jT_135, u3_jT_135, u4_jT_135, u5_jT_135⟩ := id p_jT_135
    have p_jB_135 : jB P e_135.2 := jB.mono x0_1 (fun a j h => q_135 a j (by unfold WM_X8_gives; omega))
    obtain ⟨u0_jB_135, u1_jB_135, u2_jB_135, u3_jB_135, u4_jB_135, u5_jB_135⟩ := id p_jB_135
    have p_jL_135 : jL P e_135.2 := jL.mono x1_1 (fun a j h => q_135 a j (by unfold WM_X8_gives; omega))
    have p_jH_135 : jH P e_135.2 := jH.mono x2_1 (fun a j h => q_135 a j (by unfold WM_X8_gives; omega))
    exact ⟨_, rfl, k_135, ⟨p_jB_135, p_jS_135, p_jR_135, p_jK_135, p_jT_135⟩⟩
  refine vIf (fun h_7 => ?_) (fun h_7_7 => ?_)
  · skip
    refine vI (vp_of (by first | (simp only [Int32.toInt_add, Int32.toInt_sub, Int32.toInt_mul, Int32.toInt_toInt64, Int64.toInt_add, z_m1, Int32.reduceToInt, Int64.reduceToInt, Int32.reduceToNatClampNeg, Int.bmod_def, or_true, true_or, and_true, true_and] <;> omega) | omega) (by first | (simp only [Int32.toInt_add, Int32.toInt_sub, Int32.toInt_mul, Int32.toInt_toInt64, Int64.toInt_add, z_m1, Int32.reduceToInt, Int64.reduceToInt, Int32.reduceToNatClampNeg, Int.bmod_def, or_true, true_or, and_true, true_and] <;> omega) | omega)) ?_
    refine vB (v_X8_gives) (fun e_147 f_147 q_147 => ?_)
    have k_147 : ∀ a j, ¬ WM_X8_many P a j → e_147.2 a j = M0 a j := fun a j h => (q_147 a j (by unfold WM_X8_gives; unfold WM_X8_many at h; omega)).trans (k_1 a j h)
    have n_147 : nA P e_147.2 = nA P e_1 := nA_congr (fun a j h => q_147 a j (by unfold WM_X8_gives; omega))
    have p_jS_147 : jS P e_147.2 := jS.mono p_jS_1 (fun a j h => q_147 a j (by unfold WM_X8_gives; omega))
    obtain ⟨u0_jS_147, u1_jS_147, u2_jS_147, u3_jS_147, u4_jS_147, u5_jS_147, u6_jS_147, u7_jS_147⟩ := jS.ints p_jS_147
    have p_jR_147 : jR P e_147.2 := jR.mono p_jR_1 (fun a j h => q_147 a j (by unfold WM_X8_gives; omega))
    have p_jK_147 : jK P e_147.2 := jK.mono p_jK_1 (fun a j h => q_147 a j (by unfold WM_X8_gives; omega))
    have p_jT_147 : jT P e_147.2 := jT.mono p_jT_1 (fun a j h => q_147 a j (by unfold WM_X8_gives; omega))
    obtain ⟨u0_jT_147, u1_jT_147, u2_jT_147, u3_jT_147, u4_jT_147, u5_jT_147⟩ := id p_jT_147
    have p_jB_147 : jB P e_147.2 := jB.mono x0_1 (fun a j h => q_147 a j (by unfold WM_X8_gives; omega))
    obtain ⟨u0_jB_147, u1_jB_147, u2_jB_147, u3_jB_147, u4_jB_147, u5_jB_147⟩ := id p_jB_147
    have p_jL_147 : jL P e_147.2 := jL.mono x1_1 (fun a j h => q_147 a j (by unfold WM_X8_gives; omega))
    have p_jH_147 : jH P e_147.2 := jH.mono x2_1 (fun a j h => q_147 a j (by unfold WM_X8_gives; omega))
    exact ⟨_, rfl, k_147, ⟨p_jB_147, p_jS_147, p_jR_147, p_jK_147, p_jT_147⟩⟩
  refine vIf (fun h_7 => ?_) (fun h_7_8 => ?_)
  · skip
    refine vB (v_X8_gives) (fun e_156 f_156 q_156 => ?_)
    have k_156 : ∀ a j, ¬ WM_X8_many P a j → e_156.2 a j = M0 a j := fun a j h => (q_156 a j (by unfold WM_X8_gives; unfold WM_X8_many at h; omega)).trans (k_1 a j h)
    have n_156 : nA P e_156.2 = nA P e_1 := nA_congr (fun a j h => q_156 a j (by unfold WM_X8_gives; omega))
    have p_jS_156 : jS P e_156.2 := jS.mono p_jS_1 (fun a j h => q_156 a j (by unfold WM_X8_gives; omega))
    obtain ⟨u0_jS_156, u1_jS_156, u2_jS_156, u3_jS_156, u4_jS_156, u5_jS_156, u6_jS_156, u7_jS_156⟩ := jS.ints p_jS_156
    have p_jR_156 : jR P e_156.2 := jR.mono p_jR_1 (fun a j h => q_156 a j (by unfold WM_X8_gives; omega))
    have p_jK_156 : jK P e_156.2 := jK.mono p_jK_1 (fun a j h => q_156 a j (by unfold WM_X8_gives; omega))
    have p_jT_156 : jT P e_156.2 := jT.mono p_jT_1 (fun a j h => q_156 a j (by unfold WM_X8_gives; omega))
    obtain ⟨u0_jT_156, u1_jT_156, u2_jT_156, u3_jT_156, u4_jT_156, u5_jT_156⟩ := id p_jT_156
    have p_jB_156 : jB P e_156.2 := jB.mono x0_1 (fun a j h => q_156 a j (by unfold WM_X8_gives; omega))
    obtain ⟨u0_jB_156, u1_jB_156, u2_jB_156, u3_jB_156, u4_jB_156, u5_jB_156⟩ := id p_jB_156
    have p_jL_156 : jL P e_156.2 := jL.mono x1_1 (fun a j h => q_156 a j (by unfold WM_X8_gives; omega))
    have p_jH_156 : jH P e_156.2 := jH.mono x2_1 (fun a j h => q_156 a j (by unfold WM_X8_gives; omega))
    exact ⟨_, rfl, k_156, ⟨p_jB_156, p_jS_156, p_jR_156, p_jK_156, p_jT_156⟩⟩
  refine vIf (fun h_7 => ?_) (fun h_7_9 => ?_)
  · skip
    exact T_162 _ _ _ k_1 x0_1 x2_1 p_jK_1 x1_1 p_jR_1 p_jS_1 p_jT_1 (by first | (simp only [Int32.toInt_add, Int32.toInt_sub, Int32.toInt_mul, Int32.toInt_toInt64, Int64.toInt_add, z_m1, Int32.reduceToInt, Int64.reduceToInt, Int32.reduceToNatClampNeg, Int.bmod_def, or_true, true_or, and_true, true_and] <;> omega) | omega) (by first | (simp only [Int32.toInt_add, Int32.toInt_sub, Int32.toInt_mul, Int32.toInt_toInt64, Int64.toInt_add, z_m1, Int32.reduceToInt, Int64.reduceToInt, Int32.reduceToNatClampNeg, Int.bmod_def, or_true, true_or, and_true, true_and] <;> omega) | omega)
  refine vIf (fun h_7 => ?_) (fun h_7_10 => ?_)
  · skip
    exact T_196 _ _ _ k_1 x0_1 x2_1 p_jK_1 x1_1 p_jR_1 p_jS_1 p_jT_1 (by first | (simp only [Int32.toInt_add, Int32.toInt_sub, Int32.toInt_mul, Int32.toInt_toInt64, Int64.toInt_add, z_m1, Int32.reduceToInt, Int64.reduceToInt, Int32.reduceToNatClampNeg, Int.bmod_def, or_true, true_or, and_true, true_and] <;> omega) | omega) (by first | (simp only [Int32.toInt_add, Int32.toInt_sub, Int32.toInt_mul, Int32.toInt_toInt64, Int64.toInt_add, z_m1, Int32.reduceToInt, Int64.reduceToInt, Int32.reduceToNatClampNeg, Int.bmod_def, or_true, true_or, and_true, true_and] <;> omega) | omega)
  refine vB (v_X8_refuse) (fun e_235 f_235 q_235 => ?_)
  have k_235 : ∀ a j, ¬ WM_X8_many P a j → e_235.2 a j = M0 a j := fun a j h => (q_235 a j (by unfold WM_X8_refuse; unfold WM_X8_many at h; omega)).trans (k_1 a j h)
  have n_235 : nA P e_235.2 = nA P e_1 := nA_congr (fun a j h => q_235 a j (by unfold WM_X8_refuse; omega))
  have p_jS_235 : jS P e_235.2 := jS.mono p_jS_1 (fun a j h => q_235 a j (by unfold WM_X8_refuse; omega))
  obtain ⟨u0_jS_235, u1_jS_235, u2_jS_235, u3_jS_235, u4_jS_235, u5_jS_235, u6_jS_235, u7_jS_235⟩ := jS.ints p_jS_235
  have p_jR_235 : jR P e_235.2 := jR.mono p_jR_1 (fun a j h => q_235 a j (by unfold WM_X8_refuse; omega))
  have p_jK_235 : jK P e_235.2 := jK.mono p_jK_1 (fun a j h => q_235 a j (by unfold WM_X8_refuse; omega))
  have p_jT_235 : jT P e_235.2 := jT.mono p_jT_1 (fun a j h => q_235 a j (by unfold WM_X8_refuse; omega))
  obtain ⟨u0_jT_235, u1_jT_235, u2_jT_235, u3_jT_235, u4_jT_235, u5_jT_235⟩ := id p_jT_235
  have p_jB_235 : jB P e_235.2 := jB.mono x0_1 (fun a j h => q_235 a j (by unfold WM_X8_refuse; omega))
  obtain ⟨u0_jB_235, u1_jB_235, u2_jB_235, u3_jB_235, u4_jB_235, u5_jB_235⟩ := id p_jB_235
  have p_jL_235 : jL P e_235.2 := jL.mono x1_1 (fun a j h => q_235 a j (by unfold WM_X8_refuse; omega))
  have p_jH_235 : jH P e_235.2 := jH.mono x2_1 (fun a j h => q_235 a j (by unfold WM_X8_refuse; omega))
  exact ⟨_, rfl, k_235, ⟨p_jB_235, p_jS_235, p_jR_235, p_jK_235, p_jT_235⟩⟩
def WM_X8_hunter (P : Nat) (a j : Nat) : Prop := (P + 11 ≤ a ∧ a < P + 18) ∨ (a = P ∧ (j = 6 ∨ j = 12 ∨ j = 33))
set_option maxRecDepth 100000 in
set_option maxHeartbeats 4000000 in
theorem v_X8_hunter {P : Nat} {v0 : Int32} {v1 : Int32} {M0 : zMt}  (p_jB : jB P M0) (p_jS : jS P M0) (p_jR : jR P M0) (p_jK : jK P M0) (p_jT : jT P M0) : ∃ r, D_X8_hunter P v0 v1 M0 = some r ∧ ((∀ a j, ¬ WM_X8_hunter P a j → r.2 a j = M0 a j) ∧ ((jB P r.2) ∧ (jS P r.2) ∧ (jR P r.2) ∧ (jK P r.2) ∧ (jT P r.2))) := by
  obtain ⟨u0_jB, u1_jB, u2_jB, u3_jB, u4_jB, u5_jB⟩ := id p_jB
  obtain ⟨u0_jS, u1_jS, u2_jS, u3_jS, u4_jS, u5_jS, u6_jS, u7_jS⟩ := jS.ints p_jS
  obtain ⟨u0_jT, u1_jT, u2_jT, u3_jT, u4_jT, u5_jT⟩ := id p_jT
  have T_92 : ∀ (y1_92 : Int32) (M_92 : zMt), (∀ a j, ¬ WM_X8_hunter P a j → M_92 a j = M0 a j) → (jB P M_92) → (jK P M_92) → (jR P M_92) → (jS P M_92) → (jT P M_92) → (y1_92 = 0 ∨ y1_92 = 1) → ∃ r, D_X8_hunter_92 P y1_92 M_92 = some r ∧ ((∀ a j, ¬ WM_X8_hunter P a j → r.2 a j = M0 a j) ∧ ((jB P r.2) ∧ (jS P r.2) ∧ (jR P r.2) ∧ (jK P r.2) ∧ (jT P r.2))) := by
    intro y1_92 M_92 k_92 p_jB_92 p_jK_92 p_jR_92 p_jS_92 p_jT_92 f0_92
    obtain ⟨u0_jB_92, u1_jB_92, u2_jB_92, u3_jB_92, u4_jB_92, u5_jB_92⟩ := id p_jB_92
    obtain ⟨u0_jS_92, u1_jS_92, u2_jS_92, u3_jS_92, u4_jS_92, u5_jS_92, u6_jS_92, u7_jS_92⟩ := jS.ints p_jS_92
    obtain ⟨u0_jT_92, u1_jT_92, u2_jT_92, u3_jT_92, u4_jT_92, u5_jT_92⟩ := id p_jT_92
    unfold D_X8_hunter_92
    refine vB (v_X8_gives) (fun e_92 f_92 q_92 => ?_)
    have k_92 : ∀ a j, ¬ WM_X8_hunter P a j → e_92.2 a j = M0 a j := fun a j h => (q_92 a j (by unfold WM_X8_gives; unfold WM_X8_hunter at h; omega)).trans (k_92 a j h)
    have n_92 : nA P e_92.2 = nA P M_92 := nA_congr (fun a j h => q_92 a j (by unfold WM_X8_gives; omega))
    have p_jB_92 : jB P e_92.2 := jB.mono p_jB_92 (fun a j h => q_92 a j (by unfold WM_X8_gives; omega))
    obtain ⟨u0_jB_92, u1_jB_92, u2_jB_92, u3_jB_92, u4_jB_92, u5_jB_92⟩ := id p_jB_92
    have p_jK_92 : jK P e_92.2 := jK.mono p_jK_92 (fun a j h => q_92 a j (by unfold WM_X8_gives; omega))
    have p_jR_92 : jR P e_92.2 := jR.mono p_jR_92 (fun a j h => q_92 a j (by unfold WM_X8_gives; omega))
    have p_jS_92 : jS P e_92.2 := jS.mono p_jS_92 (fun a j h => q_92 a j (by unfold WM_X8_gives; omega))
    obtain ⟨u0_jS_92, u1_jS_92, u2_jS_92, u3_jS_92, u4_jS_92, u5_jS_92, u6_jS_92, u7_jS_92⟩ := jS.ints p_jS_92
    have p_jT_92 : jT P e_92.2 := jT.mono p_jT_92 (fun a j h => q_92 a j (by unfold WM_X8_gives; omega))
    obtain ⟨u0_jT_92, u1_jT_92, u2_jT_92, u3_jT_92, u4_jT_92, u5_jT_92⟩ := id p_jT_92
    exact ⟨_, rfl, k_92, ⟨p_jB_92, p_jS_92, p_jR_92, p_jK_92, p_jT_92⟩⟩
  unfold D_X8_hunter
  refine vB (v_X8_isFrom) (fun e_6 f_6 q_6 => ?_)
  have b_6 := q_6.1
  have x0_6 := q_6.2
  (try simp only [Int32.toInt_add, Int32.toInt_sub, Int32.toInt_mul, Int32.toInt_toInt64, Int64.toInt_add, z_m1, Int32.reduceToInt, Int64.reduceToInt, Int32.reduceToNatClampNeg, Int.bmod_def] at x0_6)
  refine vIf (fun h_9 => ?_) (fun h_9 => ?_)
  · have i_9 := congrArg Int32.toInt h_9
    (try simp only [Int32.toInt_add, Int32.toInt_sub, Int32.toInt_mul, Int32.toInt_toInt64, Int64.toInt_add, z_m1, Int32.reduceToInt, Int64.reduceToInt, Int32.reduceToNatClampNeg, Int.bmod_def] at i_9)
    refine vB (v_X8_refuse) (fun e_14 f_14 q_14 => ?_)
    have k_14 : ∀ a j, ¬ WM_X8_hunter P a j → e_14.2 a j = M0 a j := fun a j h => (q_14 a j (by unfold WM_X8_refuse; unfold WM_X8_hunter at h; omega))
    have n_14 : nA P e_14.2 = nA P M0 := nA_congr (fun a j h => q_14 a j (by unfold WM_X8_refuse; omega))
    have p_jB_14 : jB P e_14.2 := jB.mono p_jB (fun a j h => q_14 a j (by unfold WM_X8_refuse; omega))
    obtain ⟨u0_jB_14, u1_jB_14, u2_jB_14, u3_jB_14, u4_jB_14, u5_jB_14⟩ := id p_jB_14
    have p_jS_14 : jS P e_14.2 := jS.mono p_jS (fun a j h => q_14 a j (by unfold WM_X8_refuse; omega))
    obtain ⟨u0_jS_14, u1_jS_14, u2_jS_14, u3_jS_14, u4_jS_14, u5_jS_14, u6_jS_14, u7_jS_14⟩ := jS.ints p_jS_14
    have p_jR_14 : jR P e_14.2 := jR.mono p_jR (fun a j h => q_14 a j (by unfold WM_X8_refuse; omega))
    have p_jK_14 : jK P e_14.2 := jK.mono p_jK (fun a j h => q_14 a j (by unfold WM_X8_refuse; omega))
    have p_jT_14 : jT P e_14.2 := jT.mono p_jT (fun a j h => q_14 a j (by unfold WM_X8_refuse; omega))
    obtain ⟨u0_jT_14, u1_jT_14, u2_jT_14, u3_jT_14, u4_jT_14, u5_jT_14⟩ := id p_jT_14
    exact ⟨_, rfl, k_14, ⟨p_jB_14, p_jS_14, p_jR_14, p_jK_14, p_jT_14⟩⟩
  · have i_9 : ¬ Int32.toInt e_6 = Int32.toInt (0 : Int32) := fun q => h_9 (Int32.toInt_inj.mp q)
    (try simp only [Int32.toInt_add, Int32.toInt_sub, Int32.toInt_mul, Int32.toInt_toInt64, Int64.toInt_add, z_m1, Int32.reduceToInt, Int64.reduceToInt, Int32.reduceToNatClampNeg, Int.bmod_def] at i_9)
    refine vB (v_X8_isHunter p_jB) (fun e_20 f_20 q_20 => ?_)
    have b_20 := q_20.1
    have x0_20 := q_20.2
    (try simp only [Int32.toInt_add, Int32.toInt_sub, Int32.toInt_mul, Int32.toInt_toInt64, Int64.toInt_add, z_m1, Int32.reduceToInt, Int64.reduceToInt, Int32.reduceToNatClampNeg, Int.bmod_def] at x0_20)
    refine vIf (fun h_23 => ?_) (fun h_23 => ?_)
    · have i_23 := congrArg Int32.toInt h_23
      (try simp only [Int32.toInt_add, Int32.toInt_sub, Int32.toInt_mul, Int32.toInt_toInt64, Int64.toInt_add, z_m1, Int32.reduceToInt, Int64.reduceToInt, Int32.reduceToNatClampNeg, Int.bmod_def] at i_23)
      refine vB (v_X8_refuse) (fun e_28 f_28 q_28 => ?_)
      have k_28 : ∀ a j, ¬ WM_X8_hunter P a j → e_28.2 a j = M0 a j := fun a j h => (q_28 a j (by unfold WM_X8_refuse; unfold WM_X8_hunter at h; omega))
      have n_28 : nA P e_28.2 = nA P M0 := nA_congr (fun a j h => q_28 a j (by unfold WM_X8_refuse; omega))
      have p_jB_28 : jB P e_28.2 := jB.mono p_jB (fun a j h => q_28 a j (by unfold WM_X8_refuse; omega))
      obtain ⟨u0_jB_28, u1_jB_28, u2_jB_28, u3_jB_28, u4_jB_28, u5_jB_28⟩ := id p_jB_28
      have p_jS_28 : jS P e_28.2 := jS.mono p_jS (fun a j h => q_28 a j (by unfold WM_X8_refuse; omega))
      obtain ⟨u0_jS_28, u1_jS_28, u2_jS_28, u3_jS_28, u4_jS_28, u5_jS_28, u6_jS_28, u7_jS_28⟩ := jS.ints p_jS_28
      have p_jR_28 : jR P e_28.2 := jR.mono p_jR (fun a j h => q_28 a j (by unfold WM_X8_refuse; omega))
      have p_jK_28 : jK P e_28.2 := jK.mono p_jK (fun a j h => q_28 a j (by unfold WM_X8_refuse; omega))
      have p_jT_28 : jT P e_28.2 := jT.mono p_jT (fun a j h => q_28 a j (by unfold WM_X8_refuse; omega))
      obtain ⟨u0_jT_28, u1_jT_28, u2_jT_28, u3_jT_28, u4_jT_28, u5_jT_28⟩ := id p_jT_28
      exact ⟨_, rfl, k_28, ⟨p_jB_28, p_jS_28, p_jR_28, p_jK_28, p_jT_28⟩⟩
    · have i_23 : ¬ Int32.toInt e_20 = Int32.toInt (0 : Int32) := fun q => h_23 (Int32.toInt_inj.mp q)
      (try simp only [Int32.toInt_add, Int32.toInt_sub, Int32.toInt_mul, Int32.toInt_toInt64, Int64.toInt_add, z_m1, Int32.reduceToInt, Int64.reduceToInt, Int32.reduceToNatClampNeg, Int.bmod_def] at i_23)
      refine vIf (fun h_33 => ?_) (fun h_33_0 => ?_)
      · skip
        refine vI (vp_of (by first | (simp only [Int32.toInt_add, Int32.toInt_sub, Int32.toInt_mul, Int32.toInt_toInt64, Int64.toInt_add, z_m1, Int32.reduceToInt, Int64.reduceToInt, Int32.reduceToNatClampNeg, Int.bmod_def, or_true, true_or, and_true, true_and] <;> omega) | omega) (by first | (simp only [Int32.toInt_add, Int32.toInt_sub, Int32.toInt_mul, Int32.toInt_toInt64, Int64.toInt_add, z_m1, Int32.reduceToInt, Int64.reduceToInt, Int32.reduceToNatClampNeg, Int.bmod_def, or_true, true_or, and_true, true_and] <;> omega) | omega)) ?_
        refine vB (v_X8_gives) (fun e_73 f_73 q_73 => ?_)
        have k_73 : ∀ a j, ¬ WM_X8_hunter P a j → e_73.2 a j = M0 a j := fun a j h => (q_73 a j (by unfold WM_X8_gives; unfold WM_X8_hunter at h; omega))
        have n_73 : nA P e_73.2 = nA P M0 := nA_congr (fun a j h => q_73 a j (by unfold WM_X8_gives; omega))
        have p_jB_73 : jB P e_73.2 := jB.mono p_jB (fun a j h => q_73 a j (by unfold WM_X8_gives; omega))
        obtain ⟨u0_jB_73, u1_jB_73, u2_jB_73, u3_jB_73, u4_jB_73, u5_jB_73⟩ := id p_jB_73
        have p_jS_73 : jS P e_73.2 := jS.mono p_jS (fun a j h => q_73 a j (by unfold WM_X8_gives; omega))
        obtain ⟨u0_jS_73, u1_jS_73, u2_jS_73, u3_jS_73, u4_jS_73, u5_jS_73, u6_jS_73, u7_jS_73⟩ := jS.ints p_jS_73
        have p_jR_73 : jR P e_73.2 := jR.mono p_jR (fun a j h => q_73 a j (by unfold WM_X8_gives; omega))
        have p_jK_73 : jK P e_73.2 := jK.mono p_jK (fun a j h => q_73 a j (by unfold WM_X8_gives; omega))
        have p_jT_73 : jT P e_73.2 := jT.mono p_jT (fun a j h => q_73 a j (by unfold WM_X8_gives; omega))
        obtain ⟨u0_jT_73, u1_jT_73, u2_jT_73, u3_jT_73, u4_jT_73, u5_jT_73⟩ := id p_jT_73
        exact ⟨_, rfl, k_73, ⟨p_jB_73, p_jS_73, p_jR_73, p_jK_73, p_jT_73⟩⟩
      refine vIf (fun h_33 => ?_) (fun h_33_1 => ?_)
      · skip
        refine vI (vp_of (by first | (simp only [Int32.toInt_add, Int32.toInt_sub, Int32.toInt_mul, Int32.toInt_toInt64, Int64.toInt_add, z_m1, Int32.reduceToInt, Int64.reduceToInt, Int32.reduceToNatClampNeg, Int.bmod_def, or_true, true_or, and_true, true_and] <;> omega) | omega) (by first | (simp only [Int32.toInt_add, Int32.toInt_sub, Int32.toInt_mul, Int32.toInt_toInt64, Int64.toInt_add, z_m1, Int32.reduceToInt, Int64.reduceToInt, Int32.reduceToNatClampNeg, Int.bmod_def, or_true, true_or, and_true, true_and] <;> omega) | omega)) ?_
        refine vIf (fun h_84 => ?_) (fun h_84 => ?_)
        · have i_84 := congrArg Int32.toInt h_84
          (try simp only [Int32.toInt_add, Int32.toInt_sub, Int32.toInt_mul, Int32.toInt_toInt64, Int64.toInt_add, z_m1, Int32.reduceToInt, Int64.reduceToInt, Int32.reduceToNatClampNeg, Int.bmod_def] at i_84)
          exact T_92 _ _ (fun _ _ _ => rfl) p_jB p_jK p_jR p_jS p_jT (by first | exact Or.inl rfl | exact Or.inr rfl | assumption)
        · have i_84 : ¬ Int32.toInt (M0 (P + 5) v0.toNatClampNeg) = Int32.toInt (0 : Int32) := fun q => h_84 (Int32.toInt_inj.mp q)
          (try simp only [Int32.toInt_add, Int32.toInt_sub, Int32.toInt_mul, Int32.toInt_toInt64, Int64.toInt_add, z_m1, Int32.reduceToInt, Int64.reduceToInt, Int32.reduceToNatClampNeg, Int.bmod_def] at i_84)
          exact T_92 _ _ (fun _ _ _ => rfl) p_jB p_jK p_jR p_jS p_jT (by first | exact Or.inl rfl | exact Or.inr rfl | assumption)
      refine vIf (fun h_33 => ?_) (fun h_33_2 => ?_)
      · skip
        refine vI (vp_of (by first | (simp only [Int32.toInt_add, Int32.toInt_sub, Int32.toInt_mul, Int32.toInt_toInt64, Int64.toInt_add, z_m1, Int32.reduceToInt, Int64.reduceToInt, Int32.reduceToNatClampNeg, Int.bmod_def, or_true, true_or, and_true, true_and] <;> omega) | omega) (by first | (simp only [Int32.toInt_add, Int32.toInt_sub, Int32.toInt_mul, Int32.toInt_toInt64, Int64.toInt_add, z_m1, Int32.reduceToInt, Int64.reduceToInt, Int32.reduceToNatClampNeg, Int.bmod_def, or_true, true_or, and_true, true_and] <;> omega) | omega)) ?_
        refine vB (v_X8_gives) (fun e_106 f_106 q_106 => ?_)
        have k_106 : ∀ a j, ¬ WM_X8_hunter P a j → e_106.2 a j = M0 a j := fun a j h => (q_106 a j (by unfold WM_X8_gives; unfold WM_X8_hunter at h; omega))
        have n_106 : nA P e_106.2 = nA P M0 := nA_congr (fun a j h => q_106 a j (by unfold WM_X8_gives; omega))
        have p_jB_106 : jB P e_106.2 := jB.mono p_jB (fun a j h => q_106 a j (by unfold WM_X8_gives; omega))
        obtain ⟨u0_jB_106, u1_jB_106, u2_jB_106, u3_jB_106, u4_jB_106, u5_jB_106⟩ := id p_jB_106
        have p_jS_106 : jS P e_106.2 := jS.mono p_jS (fun a j h => q_106 a j (by unfold WM_X8_gives; omega))
        obtain ⟨u0_jS_106, u1_jS_106, u2_jS_106, u3_jS_106, u4_jS_106, u5_jS_106, u6_jS_106, u7_jS_106⟩ := jS.ints p_jS_106
        have p_jR_106 : jR P e_106.2 := jR.mono p_jR (fun a j h => q_106 a j (by unfold WM_X8_gives; omega))
        have p_jK_106 : jK P e_106.2 := jK.mono p_jK (fun a j h => q_106 a j (by unfold WM_X8_gives; omega))
        have p_jT_106 : jT P e_106.2 := jT.mono p_jT (fun a j h => q_106 a j (by unfold WM_X8_gives; omega))
        obtain ⟨u0_jT_106, u1_jT_106, u2_jT_106, u3_jT_106, u4_jT_106, u5_jT_106⟩ := id p_jT_106
        exact ⟨_, rfl, k_106, ⟨p_jB_106, p_jS_106, p_jR_106, p_jK_106, p_jT_106⟩⟩
      refine vIf (fun h_33 => ?_) (fun h_33_3 => ?_)
      · skip
        refine vB (v_X8_applicantOf p_jB p_jS (by first | (simp only [Int32.toInt_add, Int32.toInt_sub, Int32.toInt_mul, Int32.toInt_toInt64, Int64.toInt_add, z_m1, Int32.reduceToInt, Int64.reduceToInt, Int32.reduceToNatClampNeg, Int.bmod_def, or_true, true_or, and_true, true_and] <;> omega) | omega) (by first | (simp only [Int32.toInt_add, Int32.toInt_sub, Int32.toInt_mul, Int32.toInt_toInt64, Int64.toInt_add, z_m1, Int32.reduceToInt, Int64.reduceToInt, Int32.reduceToNatClampNeg, Int.bmod_def, or_true, true_or, and_true, true_and] <;> omega) | omega)) (fun e_113 f_113 q_113 => ?_)
        have k_113 : ∀ a j, ¬ WM_X8_hunter P a j → e_113.2 a j = M0 a j := fun a j h => (q_113.1 a j (by unfold WM_X8_applicantOf; unfold WM_X8_hunter at h; omega))
        have n_113 : nA P e_113.2 = nA P M0 := nA_congr (fun a j h => q_113.1 a j (by unfold WM_X8_applicantOf; omega))
        have p_jS_113 : jS P e_113.2 := jS.mono p_jS (fun a j h => q_113.1 a j (by unfold WM_X8_applicantOf; omega))
        obtain ⟨u0_jS_113, u1_jS_113, u2_jS_113, u3_jS_113, u4_jS_113, u5_jS_113, u6_jS_113, u7_jS_113⟩ := jS.ints p_jS_113
        have p_jR_113 : jR P e_113.2 := jR.mono p_jR (fun a j h => q_113.1 a j (by unfold WM_X8_applicantOf; omega))
        have p_jK_113 : jK P e_113.2 := jK.mono p_jK (fun a j h => q_113.1 a j (by unfold WM_X8_applicantOf; omega))
        have p_jT_113 : jT P e_113.2 := jT.mono p_jT (fun a j h => q_113.1 a j (by unfold WM_X8_applicantOf; omega))
        obtain ⟨u0_jT_113, u1_jT_113, u2_jT_113, u3_jT_113, u4_jT_113, u5_jT_113⟩ := id p_jT_113
        obtain ⟨x0_113, x1_113, x2_113, x3_113, x4_113, x5_113⟩ := q_113.2
        obtain ⟨u0_jB_113, u1_jB_113, u2_jB_113, u3_jB_113, u4_jB_113, u5_jB_113⟩ := id x0_113
        (try simp only [Int32.toInt_add, Int32.toInt_sub, Int32.toInt_mul, Int32.toInt_toInt64, Int64.toInt_add, z_m1, Int32.reduceToInt, Int64.reduceToInt, Int32.reduceToNatClampNeg, Int.bmod_def] at x3_113)
        (try simp only [Int32.toInt_add, Int32.toInt_sub, Int32.toInt_mul, Int32.toInt_toInt64, Int64.toInt_add, z_m1, Int32.reduceToInt, Int64.reduceToInt, Int32.reduceToNatClampNeg, Int.bmod_def] at x4_113)
        (try simp only [Int32.toInt_add, Int32.toInt_sub, Int32.toInt_mul, Int32.toInt_toInt64, Int64.toInt_add, z_m1, Int32.reduceToInt, Int64.reduceToInt, Int32.reduceToNatClampNeg, Int.bmod_def] at x5_113)
        refine vB (v_X8_gives) (fun e_116 f_116 q_116 => ?_)
        have k_116 : ∀ a j, ¬ WM_X8_hunter P a j → e_116.2 a j = M0 a j := fun a j h => (q_116 a j (by unfold WM_X8_gives; unfold WM_X8_hunter at h; omega)).trans (k_113 a j h)
        have n_116 : nA P e_116.2 = nA P e_113.2 := nA_congr (fun a j h => q_116 a j (by unfold WM_X8_gives; omega))
        have p_jS_116 : jS P e_116.2 := jS.mono p_jS_113 (fun a j h => q_116 a j (by unfold WM_X8_gives; omega))
        obtain ⟨u0_jS_116, u1_jS_116, u2_jS_116, u3_jS_116, u4_jS_116, u5_jS_116, u6_jS_116, u7_jS_116⟩ := jS.ints p_jS_116
        have p_jR_116 : jR P e_116.2 := jR.mono p_jR_113 (fun a j h => q_116 a j (by unfold WM_X8_gives; omega))
        have p_jK_116 : jK P e_116.2 := jK.mono p_jK_113 (fun a j h => q_116 a j (by unfold WM_X8_gives; omega))
        have p_jT_116 : jT P e_116.2 := jT.mono p_jT_113 (fun a j h => q_116 a j (by unfold WM_X8_gives; omega))
        obtain ⟨u0_jT_116, u1_jT_116, u2_jT_116, u3_jT_116, u4_jT_116, u5_jT_116⟩ := id p_jT_116
        have p_jB_116 : jB P e_116.2 := jB.mono x0_113 (fun a j h => q_116 a j (by unfold WM_X8_gives; omega))
        obtain ⟨u0_jB_116, u1_jB_116, u2_jB_116, u3_jB_116, u4_jB_116, u5_jB_116⟩ := id p_jB_116
        have p_jL_116 : jL P e_116.2 := jL.mono x1_113 (fun a j h => q_116 a j (by unfold WM_X8_gives; omega))
        have p_jH_116 : jH P e_116.2 := jH.mono x2_113 (fun a j h => q_116 a j (by unfold WM_X8_gives; omega))
        exact ⟨_, rfl, k_116, ⟨p_jB_116, p_jS_116, p_jR_116, p_jK_116, p_jT_116⟩⟩
      refine vI (vp_of (by first | (simp only [Int32.toInt_add, Int32.toInt_sub, Int32.toInt_mul, Int32.toInt_toInt64, Int64.toInt_add, z_m1, Int32.reduceToInt, Int64.reduceToInt, Int32.reduceToNatClampNeg, Int.bmod_def, or_true, true_or, and_true, true_and] <;> omega) | omega) (by first | (simp only [Int32.toInt_add, Int32.toInt_sub, Int32.toInt_mul, Int32.toInt_toInt64, Int64.toInt_add, z_m1, Int32.reduceToInt, Int64.reduceToInt, Int32.reduceToNatClampNeg, Int.bmod_def, or_true, true_or, and_true, true_and] <;> omega) | omega)) ?_
      refine vB (v_X8_gives) (fun e_130 f_130 q_130 => ?_)
      have k_130 : ∀ a j, ¬ WM_X8_hunter P a j → e_130.2 a j = M0 a j := fun a j h => (q_130 a j (by unfold WM_X8_gives; unfold WM_X8_hunter at h; omega))
      have n_130 : nA P e_130.2 = nA P M0 := nA_congr (fun a j h => q_130 a j (by unfold WM_X8_gives; omega))
      have p_jB_130 : jB P e_130.2 := jB.mono p_jB (fun a j h => q_130 a j (by unfold WM_X8_gives; omega))
      obtain ⟨u0_jB_130, u1_jB_130, u2_jB_130, u3_jB_130, u4_jB_130, u5_jB_130⟩ := id p_jB_130
      have p_jS_130 : jS P e_130.2 := jS.mono p_jS (fun a j h => q_130 a j (by unfold WM_X8_gives; omega))
      obtain ⟨u0_jS_130, u1_jS_130, u2_jS_130, u3_jS_130, u4_jS_130, u5_jS_130, u6_jS_130, u7_jS_130⟩ := jS.ints p_jS_130
      have p_jR_130 : jR P e_130.2 := jR.mono p_jR (fun a j h => q_130 a j (by unfold WM_X8_gives; omega))
      have p_jK_130 : jK P e_130.2 := jK.mono p_jK (fun a j h => q_130 a j (by unfold WM_X8_gives; omega))
      have p_jT_130 : jT P e_130.2 := jT.mono p_jT (fun a j h => q_130 a j (by unfold WM_X8_gives; omega))
      obtain ⟨u0_jT_130, u1_jT_130, u2_jT_130, u3_jT_130, u4_jT_130, u5_jT_130⟩ := id p_jT_130
      exact ⟨_, rfl, k_130, ⟨p_jB_130, p_jS_130, p_jR_130, p_jK_130, p_jT_130⟩⟩
set_option maxRecDepth 100000 in
set_option maxHeartbeats 4000000 in
theorem v_X8_preferred {P : Nat} {M : zMt} {v0 : Int32}  (p_jS : jS P M) (i_1 : 0 ≤ Int32.toInt v0) (i_2 : Int32.toInt v0 < 5) : ∃ r, D_X8_preferred P M v0 = some r ∧ (True) := by
  obtain ⟨u0_jS, u1_jS, u2_jS, u3_jS, u4_jS, u5_jS, u6_jS, u7_jS⟩ := jS.ints p_jS
  unfold D_X8_preferred
  refine vI (vp_of (by first | (simp only [Int32.toInt_add, Int32.toInt_sub, Int32.toInt_mul, Int32.toInt_toInt64, Int64.toInt_add, z_m1, Int32.reduceToInt, Int64.reduceToInt, Int32.reduceToNatClampNeg, Int.bmod_def, or_true, true_or, and_true, true_and] <;> omega) | omega) (by first | (simp only [Int32.toInt_add, Int32.toInt_sub, Int32.toInt_mul, Int32.toInt_toInt64, Int64.toInt_add, z_m1, Int32.reduceToInt, Int64.reduceToInt, Int32.reduceToNatClampNeg, Int.bmod_def, or_true, true_or, and_true, true_and] <;> omega) | omega)) ?_
  refine vI (vp_of (by first | (simp only [Int32.toInt_add, Int32.toInt_sub, Int32.toInt_mul, Int32.toInt_toInt64, Int64.toInt_add, z_m1, Int32.reduceToInt, Int64.reduceToInt, Int32.reduceToNatClampNeg, Int.bmod_def, or_true, true_or, and_true, true_and] <;> omega) | omega) (by first | (simp only [Int32.toInt_add, Int32.toInt_sub, Int32.toInt_mul, Int32.toInt_toInt64, Int64.toInt_add, z_m1, Int32.reduceToInt, Int64.reduceToInt, Int32.reduceToNatClampNeg, Int.bmod_def, or_true, true_or, and_true, true_and] <;> omega) | omega)) ?_
  exact ⟨_, rfl, trivial⟩
set_option maxRecDepth 100000 in
set_option maxHeartbeats 4000000 in
theorem v_X8_forGuests {P : Nat} {M : zMt} {v0 : Int32}  (p_jS : jS P M) (i_1 : 0 ≤ Int32.toInt v0) (i_2 : Int32.toInt v0 < 5) : ∃ r, D_X8_forGuests P M v0 = some r ∧ (True) := by
  obtain ⟨u0_jS, u1_jS, u2_jS, u3_jS, u4_jS, u5_jS, u6_jS, u7_jS⟩ := jS.ints p_jS
  unfold D_X8_forGuests
  refine vI (vp_of (by first | (simp only [Int32.toInt_add, Int32.toInt_sub, Int32.toInt_mul, Int32.toInt_toInt64, Int64.toInt_add, z_m1, Int32.reduceToInt, Int64.reduceToInt, Int32.reduceToNatClampNeg, Int.bmod_def, or_true, true_or, and_true, true_and] <;> omega) | omega) (by first | (simp only [Int32.toInt_add, Int32.toInt_sub, Int32.toInt_mul, Int32.toInt_toInt64, Int64.toInt_add, z_m1, Int32.reduceToInt, Int64.reduceToInt, Int32.reduceToNatClampNeg, Int.bmod_def, or_true, true_or, and_true, true_and] <;> omega) | omega)) ?_
  refine vI (vp_of (by first | (simp only [Int32.toInt_add, Int32.toInt_sub, Int32.toInt_mul, Int32.toInt_toInt64, Int64.toInt_add, z_m1, Int32.reduceToInt, Int64.reduceToInt, Int32.reduceToNatClampNeg, Int.bmod_def, or_true, true_or, and_true, true_and] <;> omega) | omega) (by first | (simp only [Int32.toInt_add, Int32.toInt_sub, Int32.toInt_mul, Int32.toInt_toInt64, Int64.toInt_add, z_m1, Int32.reduceToInt, Int64.reduceToInt, Int32.reduceToNatClampNeg, Int.bmod_def, or_true, true_or, and_true, true_and] <;> omega) | omega)) ?_
  exact ⟨_, rfl, trivial⟩
def WM_X8_unit (P : Nat) (a j : Nat) : Prop := (P + 11 ≤ a ∧ a < P + 18) ∨ (a = P ∧ (j = 6 ∨ j = 12 ∨ j = 33))
set_option maxRecDepth 100000 in
set_option maxHeartbeats 4000000 in
theorem v_X8_unit {P : Nat} {v0 : Int32} {v1 : Int32} {M0 : zMt}  (p_jB : jB P M0) (p_jS : jS P M0) (p_jR : jR P M0) (p_jK : jK P M0) (p_jT : jT P M0) : ∃ r, D_X8_unit P v0 v1 M0 = some r ∧ ((∀ a j, ¬ WM_X8_unit P a j → r.2 a j = M0 a j) ∧ ((jB P r.2) ∧ (jS P r.2) ∧ (jR P r.2) ∧ (jK P r.2) ∧ (jT P r.2))) := by
  obtain ⟨u0_jB, u1_jB, u2_jB, u3_jB, u4_jB, u5_jB⟩ := id p_jB
  obtain ⟨u0_jS, u1_jS, u2_jS, u3_jS, u4_jS, u5_jS, u6_jS, u7_jS⟩ := jS.ints p_jS
  obtain ⟨u0_jT, u1_jT, u2_jT, u3_jT, u4_jT, u5_jT⟩ := id p_jT
  have TL_85 : ∀ u : Nat, ∀ (x1_85 : Int32) (x2_85 : Int32) (x3_85 : Int32) (x4_85 : Int32) (M_85 : zMt), (∀ a j, ¬ WM_X8_unit P a j → M_85 a j = M0 a j) → (jB P M_85) → (jH P M_85) → (jK P M_85) → (jL P M_85) → (jR P M_85) → (jS P M_85) → (jT P M_85) → (0 ≤ Int32.toInt x4_85) → (Int32.toInt x4_85 ≤ 10) → (2147483648 - Int32.toInt x4_85).toNat < u → ∃ r, D_X8_unit_85 P u x1_85 x2_85 x3_85 x4_85 M_85 = some r ∧ ((∀ a j, ¬ WM_X8_unit P a j → r.2 a j = M0 a j) ∧ ((jB P r.2) ∧ (jS P r.2) ∧ (jR P r.2) ∧ (jK P r.2) ∧ (jT P r.2))) := by
    intro u
    induction u with
    | zero => intro x1_85 x2_85 x3_85 x4_85 M_85 k_85 p_jB_85 p_jH_85 p_jK_85 p_jL_85 p_jR_85 p_jS_85 p_jT_85 f0_85 f1_85 hm_85; exact absurd hm_85 (Nat.not_lt_zero _)
    | succ u_85 ih_85 =>
      have T_162 : ∀ (x1_162 : Int32) (x2_162 : Int32) (x4_162 : Int32) (y0_162 : Int32) (y1_162 : Int32) (M_162 : zMt), (∀ a j, ¬ WM_X8_unit P a j → M_162 a j = M0 a j) → (jB P M_162) → (jH P M_162) → (jK P M_162) → (jL P M_162) → (jR P M_162) → (jS P M_162) → (jT P M_162) → (0 ≤ Int32.toInt x4_162) → (Int32.toInt x4_162 < 10) → ((2147483648 - Int32.toInt x4_162).toNat < u_85 + 1) → (Int32.toInt x4_162 < 2147483647) → ∃ r, D_X8_unit_162 P (D_X8_unit_85 P u_85) x1_162 x2_162 x4_162 y0_162 y1_162 M_162 = some r ∧ ((∀ a j, ¬ WM_X8_unit P a j → r.2 a j = M0 a j) ∧ ((jB P r.2) ∧ (jS P r.2) ∧ (jR P r.2) ∧ (jK P r.2) ∧ (jT P r.2))) := by
        intro x1_162 x2_162 x4_162 y0_162 y1_162 M_162 k_162 p_jB_162 p_jH_162 p_jK_162 p_jL_162 p_jR_162 p_jS_162 p_jT_162 f0_162 f1_162 f2_162 f3_162
        obtain ⟨u0_jB_162, u1_jB_162, u2_jB_162, u3_jB_162, u4_jB_162, u5_jB_162⟩ := id p_jB_162
        obtain ⟨u0_jS_162, u1_jS_162, u2_jS_162, u3_jS_162, u4_jS_162, u5_jS_162, u6_jS_162, u7_jS_162⟩ := jS.ints p_jS_162
        obtain ⟨u0_jT_162, u1_jT_162, u2_jT_162, u3_jT_162, u4_jT_162, u5_jT_162⟩ := id p_jT_162
        unfold D_X8_unit_162
        exact ih_85 _ _ _ _ _ k_162 p_jB_162 p_jH_162 p_jK_162 p_jL_162 p_jR_162 p_jS_162 p_jT_162 (by first | (simp only [Int32.toInt_add, Int32.toInt_sub, Int32.toInt_mul, Int32.toInt_toInt64, Int64.toInt_add, z_m1, Int32.reduceToInt, Int64.reduceToInt, Int32.reduceToNatClampNeg, Int.bmod_def, or_true, true_or, and_true, true_and] <;> omega) | omega) (by first | (simp only [Int32.toInt_add, Int32.toInt_sub, Int32.toInt_mul, Int32.toInt_toInt64, Int64.toInt_add, z_m1, Int32.reduceToInt, Int64.reduceToInt, Int32.reduceToNatClampNeg, Int.bmod_def, or_true, true_or, and_true, true_and] <;> omega) | omega) (z_up1 f3_162 f2_162)
      have T_134 : ∀ (x1_134 : Int32) (x2_134 : Int32) (x3_134 : Int32) (x4_134 : Int32) (y0_134 : Int32) (M_134 : zMt), (∀ a j, ¬ WM_X8_unit P a j → M_134 a j = M0 a j) → (jB P M_134) → (jH P M_134) → (jK P M_134) → (jL P M_134) → (jR P M_134) → (jS P M_134) → (jT P M_134) → (y0_134 = 0 ∨ y0_134 = 1) → (0 ≤ Int32.toInt x4_134) → (Int32.toInt x4_134 < 10) → ((2147483648 - Int32.toInt x4_134).toNat < u_85 + 1) → (Int32.toInt x4_134 < 2147483647) → ∃ r, D_X8_unit_134 P (D_X8_unit_85 P u_85) x1_134 x2_134 x3_134 x4_134 y0_134 M_134 = some r ∧ ((∀ a j, ¬ WM_X8_unit P a j → r.2 a j = M0 a j) ∧ ((jB P r.2) ∧ (jS P r.2) ∧ (jR P r.2) ∧ (jK P r.2) ∧ (jT P r.2))) := by
        intro x1_134 x2_134 x3_134 x4_134 y0_134 M_134 k_134 p_jB_134 p_jH_134 p_jK_134 p_jL_134 p_jR_134 p_jS_134 p_jT_134 f0_134 f1_134 f2_134 f3_134 f4_134
        obtain ⟨u0_jB_134, u1_jB_134, u2_jB_134, u3_jB_134, u4_jB_134, u5_jB_134⟩ := id p_jB_134
        obtain ⟨u0_jS_134, u1_jS_134, u2_jS_134, u3_jS_134, u4_jS_134, u5_jS_134, u6_jS_134, u7_jS_134⟩ := jS.ints p_jS_134
        obtain ⟨u0_jT_134, u1_jT_134, u2_jT_134, u3_jT_134, u4_jT_134, u5_jT_134⟩ := id p_jT_134
        unfold D_X8_unit_134
        refine vIf (fun h_139 => ?_) (fun h_139 => ?_)
        · have i_139 := congrArg Int32.toInt h_139
          (try simp only [Int32.toInt_add, Int32.toInt_sub, Int32.toInt_mul, Int32.toInt_toInt64, Int64.toInt_add, z_m1, Int32.reduceToInt, Int64.reduceToInt, Int32.reduceToNatClampNeg, Int.bmod_def] at i_139)
          exact T_162 _ _ _ _ _ _ k_134 p_jB_134 p_jH_134 p_jK_134 p_jL_134 p_jR_134 p_jS_134 p_jT_134 (by first | (simp only [Int32.toInt_add, Int32.toInt_sub, Int32.toInt_mul, Int32.toInt_toInt64, Int64.toInt_add, z_m1, Int32.reduceToInt, Int64.reduceToInt, Int32.reduceToNatClampNeg, Int.bmod_def, or_true, true_or, and_true, true_and] <;> omega) | omega) (by first | (simp only [Int32.toInt_add, Int32.toInt_sub, Int32.toInt_mul, Int32.toInt_toInt64, Int64.toInt_add, z_m1, Int32.reduceToInt, Int64.reduceToInt, Int32.reduceToNatClampNeg, Int.bmod_def, or_true, true_or, and_true, true_and] <;> omega) | omega) f3_134 f4_134
        · have i_139 : ¬ Int32.toInt y0_134 = Int32.toInt (0 : Int32) := fun q => h_139 (Int32.toInt_inj.mp q)
          (try simp only [Int32.toInt_add, Int32.toInt_sub, Int32.toInt_mul, Int32.toInt_toInt64, Int64.toInt_add, z_m1, Int32.reduceToInt, Int64.reduceToInt, Int32.reduceToNatClampNeg, Int.bmod_def] at i_139)
          refine vIf (fun h_144 => ?_) (fun h_144 => ?_)
          · have i_144 := congrArg Int32.toInt h_144
            (try simp only [Int32.toInt_add, Int32.toInt_sub, Int32.toInt_mul, Int32.toInt_toInt64, Int64.toInt_add, z_m1, Int32.reduceToInt, Int64.reduceToInt, Int32.reduceToNatClampNeg, Int.bmod_def] at i_144)
            refine vI (vp_of (by first | (simp only [Int32.toInt_add, Int32.toInt_sub, Int32.toInt_mul, Int32.toInt_toInt64, Int64.toInt_add, z_m1, Int32.reduceToInt, Int64.reduceToInt, Int32.reduceToNatClampNeg, Int.bmod_def, or_true, true_or, and_true, true_and] <;> omega) | omega) (by first | (simp only [Int32.toInt_add, Int32.toInt_sub, Int32.toInt_mul, Int32.toInt_toInt64, Int64.toInt_add, z_m1, Int32.reduceToInt, Int64.reduceToInt, Int32.reduceToNatClampNeg, Int.bmod_def, or_true, true_or, and_true, true_and] <;> omega) | omega)) ?_
            obtain ⟨w0_153, w1_153, w2_153, w3_153, w4_153, w5_153⟩ := jL.el p_jL_134 (x := x4_134) (by first | (simp only [Int32.toInt_add, Int32.toInt_sub, Int32.toInt_mul, Int32.toInt_toInt64, Int64.toInt_add, z_m1, Int32.reduceToInt, Int64.reduceToInt, Int32.reduceToNatClampNeg, Int.bmod_def, or_true, true_or, and_true, true_and] <;> omega) | omega) (by first | (simp only [Int32.toInt_add, Int32.toInt_sub, Int32.toInt_mul, Int32.toInt_toInt64, Int64.toInt_add, z_m1, Int32.reduceToInt, Int64.reduceToInt, Int32.reduceToNatClampNeg, Int.bmod_def, or_true, true_or, and_true, true_and] <;> omega) | omega)
            exact T_162 _ _ _ _ _ _ k_134 p_jB_134 p_jH_134 p_jK_134 p_jL_134 p_jR_134 p_jS_134 p_jT_134 (by first | (simp only [Int32.toInt_add, Int32.toInt_sub, Int32.toInt_mul, Int32.toInt_toInt64, Int64.toInt_add, z_m1, Int32.reduceToInt, Int64.reduceToInt, Int32.reduceToNatClampNeg, Int.bmod_def, or_true, true_or, and_true, true_and] <;> omega) | omega) (by first | (simp only [Int32.toInt_add, Int32.toInt_sub, Int32.toInt_mul, Int32.toInt_toInt64, Int64.toInt_add, z_m1, Int32.reduceToInt, Int64.reduceToInt, Int32.reduceToNatClampNeg, Int.bmod_def, or_true, true_or, and_true, true_and] <;> omega) | omega) f3_134 f4_134
          · have i_144 : ¬ Int32.toInt x2_134 = Int32.toInt (4 : Int32) := fun q => h_144 (Int32.toInt_inj.mp q)
            (try simp only [Int32.toInt_add, Int32.toInt_sub, Int32.toInt_mul, Int32.toInt_toInt64, Int64.toInt_add, z_m1, Int32.reduceToInt, Int64.reduceToInt, Int32.reduceToNatClampNeg, Int.bmod_def] at i_144)
            exact T_162 _ _ _ _ _ _ k_134 p_jB_134 p_jH_134 p_jK_134 p_jL_134 p_jR_134 p_jS_134 p_jT_134 (by first | (simp only [Int32.toInt_add, Int32.toInt_sub, Int32.toInt_mul, Int32.toInt_toInt64, Int64.toInt_add, z_m1, Int32.reduceToInt, Int64.reduceToInt, Int32.reduceToNatClampNeg, Int.bmod_def, or_true, true_or, and_true, true_and] <;> omega) | omega) (by first | (simp only [Int32.toInt_add, Int32.toInt_sub, Int32.toInt_mul, Int32.toInt_toInt64, Int64.toInt_add, z_m1, Int32.reduceToInt, Int64.reduceToInt, Int32.reduceToNatClampNeg, Int.bmod_def, or_true, true_or, and_true, true_and] <;> omega) | omega) f3_134 f4_134
      intro x1_85 x2_85 x3_85 x4_85 M_85 k_85 p_jB_85 p_jH_85 p_jK_85 p_jL_85 p_jR_85 p_jS_85 p_jT_85 f0_85 f1_85 hm_85
      obtain ⟨u0_jB_85, u1_jB_85, u2_jB_85, u3_jB_85, u4_jB_85, u5_jB_85⟩ := id p_jB_85
      obtain ⟨u0_jS_85, u1_jS_85, u2_jS_85, u3_jS_85, u4_jS_85, u5_jS_85, u6_jS_85, u7_jS_85⟩ := jS.ints p_jS_85
      obtain ⟨u0_jT_85, u1_jT_85, u2_jT_85, u3_jT_85, u4_jT_85, u5_jT_85⟩ := id p_jT_85
      rw [D_X8_unit_85]
      refine vIf (fun h_91 => ?_) (fun h_91 => ?_)
      · have i_91 := Int32.le_iff_toInt_le.mp h_91
        (try simp only [Int32.toInt_add, Int32.toInt_sub, Int32.toInt_mul, Int32.toInt_toInt64, Int64.toInt_add, z_m1, Int32.reduceToInt, Int64.reduceToInt, Int32.reduceToNatClampNeg, Int.bmod_def] at i_91)
        refine vB (v_X8_gives) (fun e_172 f_172 q_172 => ?_)
        have k_172 : ∀ a j, ¬ WM_X8_unit P a j → e_172.2 a j = M0 a j := fun a j h => (q_172 a j (by unfold WM_X8_gives; unfold WM_X8_unit at h; omega)).trans (k_85 a j h)
        have n_172 : nA P e_172.2 = nA P M_85 := nA_congr (fun a j h => q_172 a j (by unfold WM_X8_gives; omega))
        have p_jB_172 : jB P e_172.2 := jB.mono p_jB_85 (fun a j h => q_172 a j (by unfold WM_X8_gives; omega))
        obtain ⟨u0_jB_172, u1_jB_172, u2_jB_172, u3_jB_172, u4_jB_172, u5_jB_172⟩ := id p_jB_172
        have p_jH_172 : jH P e_172.2 := jH.mono p_jH_85 (fun a j h => q_172 a j (by unfold WM_X8_gives; omega))
        have p_jK_172 : jK P e_172.2 := jK.mono p_jK_85 (fun a j h => q_172 a j (by unfold WM_X8_gives; omega))
        have p_jL_172 : jL P e_172.2 := jL.mono p_jL_85 (fun a j h => q_172 a j (by unfold WM_X8_gives; omega))
        have p_jR_172 : jR P e_172.2 := jR.mono p_jR_85 (fun a j h => q_172 a j (by unfold WM_X8_gives; omega))
        have p_jS_172 : jS P e_172.2 := jS.mono p_jS_85 (fun a j h => q_172 a j (by unfold WM_X8_gives; omega))
        obtain ⟨u0_jS_172, u1_jS_172, u2_jS_172, u3_jS_172, u4_jS_172, u5_jS_172, u6_jS_172, u7_jS_172⟩ := jS.ints p_jS_172
        have p_jT_172 : jT P e_172.2 := jT.mono p_jT_85 (fun a j h => q_172 a j (by unfold WM_X8_gives; omega))
        obtain ⟨u0_jT_172, u1_jT_172, u2_jT_172, u3_jT_172, u4_jT_172, u5_jT_172⟩ := id p_jT_172
        exact ⟨_, rfl, k_172, ⟨p_jB_172, p_jS_172, p_jR_172, p_jK_172, p_jT_172⟩⟩
      · have i_91 := Int32.lt_iff_toInt_lt.mp (Int32.not_le.mp h_91)
        (try simp only [Int32.toInt_add, Int32.toInt_sub, Int32.toInt_mul, Int32.toInt_toInt64, Int64.toInt_add, z_m1, Int32.reduceToInt, Int64.reduceToInt, Int32.reduceToNatClampNeg, Int.bmod_def] at i_91)
        refine vIf (fun h_96 => ?_) (fun h_96 => ?_)
        · have i_96 := congrArg Int32.toInt h_96
          (try simp only [Int32.toInt_add, Int32.toInt_sub, Int32.toInt_mul, Int32.toInt_toInt64, Int64.toInt_add, z_m1, Int32.reduceToInt, Int64.reduceToInt, Int32.reduceToNatClampNeg, Int.bmod_def] at i_96)
          refine vB (v_X8_placeOf p_jB_85 p_jS_85 p_jL_85 (by first | (simp only [Int32.toInt_add, Int32.toInt_sub, Int32.toInt_mul, Int32.toInt_toInt64, Int64.toInt_add, z_m1, Int32.reduceToInt, Int64.reduceToInt, Int32.reduceToNatClampNeg, Int.bmod_def, or_true, true_or, and_true, true_and] <;> omega) | omega) (by first | (simp only [Int32.toInt_add, Int32.toInt_sub, Int32.toInt_mul, Int32.toInt_toInt64, Int64.toInt_add, z_m1, Int32.reduceToInt, Int64.reduceToInt, Int32.reduceToNatClampNeg, Int.bmod_def, or_true, true_or, and_true, true_and] <;> omega) | omega)) (fun e_103 f_103 q_103 => ?_)
          obtain ⟨x0_103, x1_103⟩ := q_103
          (try simp only [Int32.toInt_add, Int32.toInt_sub, Int32.toInt_mul, Int32.toInt_toInt64, Int64.toInt_add, z_m1, Int32.reduceToInt, Int64.reduceToInt, Int32.reduceToNatClampNeg, Int.bmod_def] at x0_103)
          (try simp only [Int32.toInt_add, Int32.toInt_sub, Int32.toInt_mul, Int32.toInt_toInt64, Int64.toInt_add, z_m1, Int32.reduceToInt, Int64.reduceToInt, Int32.reduceToNatClampNeg, Int.bmod_def] at x1_103)
          refine vIf (fun h_107 => ?_) (fun h_107 => ?_)
          · have i_107 := congrArg Int32.toInt h_107
            (try simp only [Int32.toInt_add, Int32.toInt_sub, Int32.toInt_mul, Int32.toInt_toInt64, Int64.toInt_add, z_m1, Int32.reduceToInt, Int64.reduceToInt, Int32.reduceToNatClampNeg, Int.bmod_def] at i_107)
            exact T_134 _ _ _ _ _ _ k_85 p_jB_85 p_jH_85 p_jK_85 p_jL_85 p_jR_85 p_jS_85 p_jT_85 (by first | exact Or.inl rfl | exact Or.inr rfl | assumption) (by first | (simp only [Int32.toInt_add, Int32.toInt_sub, Int32.toInt_mul, Int32.toInt_toInt64, Int64.toInt_add, z_m1, Int32.reduceToInt, Int64.reduceToInt, Int32.reduceToNatClampNeg, Int.bmod_def, or_true, true_or, and_true, true_and] <;> omega) | omega) (by first | (simp only [Int32.toInt_add, Int32.toInt_sub, Int32.toInt_mul, Int32.toInt_toInt64, Int64.toInt_add, z_m1, Int32.reduceToInt, Int64.reduceToInt, Int32.reduceToNatClampNeg, Int.bmod_def, or_true, true_or, and_true, true_and] <;> omega) | omega) hm_85 (by first | assumption | exact z_lt (by assumption) | exact z_lt2 (by assumption) | exact z_lt3 (by assumption) (by first | assumption | decide))
          · have i_107 : ¬ Int32.toInt e_103 = Int32.toInt (-1 : Int32) := fun q => h_107 (Int32.toInt_inj.mp q)
            (try simp only [Int32.toInt_add, Int32.toInt_sub, Int32.toInt_mul, Int32.toInt_toInt64, Int64.toInt_add, z_m1, Int32.reduceToInt, Int64.reduceToInt, Int32.reduceToNatClampNeg, Int.bmod_def] at i_107)
            exact T_134 _ _ _ _ _ _ k_85 p_jB_85 p_jH_85 p_jK_85 p_jL_85 p_jR_85 p_jS_85 p_jT_85 (by first | exact Or.inl rfl | exact Or.inr rfl | assumption) (by first | (simp only [Int32.toInt_add, Int32.toInt_sub, Int32.toInt_mul, Int32.toInt_toInt64, Int64.toInt_add, z_m1, Int32.reduceToInt, Int64.reduceToInt, Int32.reduceToNatClampNeg, Int.bmod_def, or_true, true_or, and_true, true_and] <;> omega) | omega) (by first | (simp only [Int32.toInt_add, Int32.toInt_sub, Int32.toInt_mul, Int32.toInt_toInt64, Int64.toInt_add, z_m1, Int32.reduceToInt, Int64.reduceToInt, Int32.reduceToNatClampNeg, Int.bmod_def, or_true, true_or, and_true, true_and] <;> omega) | omega) hm_85 (by first | assumption | exact z_lt (by assumption) | exact z_lt2 (by assumption) | exact z_lt3 (by assumption) (by first | assumption | decide))
        · have i_96 : ¬ Int32.toInt x2_85 = Int32.toInt (5 : Int32) := fun q => h_96 (Int32.toInt_inj.mp q)
          (try simp only [Int32.toInt_add, Int32.toInt_sub, Int32.toInt_mul, Int32.toInt_toInt64, Int64.toInt_add, z_m1, Int32.reduceToInt, Int64.reduceToInt, Int32.reduceToNatClampNeg, Int.bmod_def] at i_96)
          refine vB (v_X8_choiceOf p_jB_85 p_jS_85 p_jL_85 (by first | (simp only [Int32.toInt_add, Int32.toInt_sub, Int32.toInt_mul, Int32.toInt_toInt64, Int64.toInt_add, z_m1, Int32.reduceToInt, Int64.reduceToInt, Int32.reduceToNatClampNeg, Int.bmod_def, or_true, true_or, and_true, true_and] <;> omega) | omega) (by first | (simp only [Int32.toInt_add, Int32.toInt_sub, Int32.toInt_mul, Int32.toInt_toInt64, Int64.toInt_add, z_m1, Int32.reduceToInt, Int64.reduceToInt, Int32.reduceToNatClampNeg, Int.bmod_def, or_true, true_or, and_true, true_and] <;> omega) | omega) (by first | (simp only [Int32.toInt_add, Int32.toInt_sub, Int32.toInt_mul, Int32.toInt_toInt64, Int64.toInt_add, z_m1, Int32.reduceToInt, Int64.reduceToInt, Int32.reduceToNatClampNeg, Int.bmod_def, or_true, true_or, and_true, true_and] <;> omega) | omega)) (fun e_122 f_122 q_122 => ?_)
          obtain ⟨x0_122, x1_122, x2_122⟩ := q_122
          (try simp only [Int32.toInt_add, Int32.toInt_sub, Int32.toInt_mul, Int32.toInt_toInt64, Int64.toInt_add, z_m1, Int32.reduceToInt, Int64.reduceToInt, Int32.reduceToNatClampNeg, Int.bmod_def] at x0_122)
          (try simp only [Int32.toInt_add, Int32.toInt_sub, Int32.toInt_mul, Int32.toInt_toInt64, Int64.toInt_add, z_m1, Int32.reduceToInt, Int64.reduceToInt, Int32.reduceToNatClampNeg, Int.bmod_def] at x1_122)
          (try simp only [Int32.toInt_add, Int32.toInt_sub, Int32.toInt_mul, Int32.toInt_toInt64, Int64.toInt_add, z_m1, Int32.reduceToInt, Int64.reduceToInt, Int32.reduceToNatClampNeg, Int.bmod_def] at x2_122)
          refine vIf (fun h_126 => ?_) (fun h_126 => ?_)
          · have i_126 := congrArg Int32.toInt h_126
            (try simp only [Int32.toInt_add, Int32.toInt_sub, Int32.toInt_mul, Int32.toInt_toInt64, Int64.toInt_add, z_m1, Int32.reduceToInt, Int64.reduceToInt, Int32.reduceToNatClampNeg, Int.bmod_def] at i_126)
            exact T_134 _ _ _ _ _ _ k_85 p_jB_85 p_jH_85 p_jK_85 p_jL_85 p_jR_85 p_jS_85 p_jT_85 (by first | exact Or.inl rfl | exact Or.inr rfl | assumption) (by first | (simp only [Int32.toInt_add, Int32.toInt_sub, Int32.toInt_mul, Int32.toInt_toInt64, Int64.toInt_add, z_m1, Int32.reduceToInt, Int64.reduceToInt, Int32.reduceToNatClampNeg, Int.bmod_def, or_true, true_or, and_true, true_and] <;> omega) | omega) (by first | (simp only [Int32.toInt_add, Int32.toInt_sub, Int32.toInt_mul, Int32.toInt_toInt64, Int64.toInt_add, z_m1, Int32.reduceToInt, Int64.reduceToInt, Int32.reduceToNatClampNeg, Int.bmod_def, or_true, true_or, and_true, true_and] <;> omega) | omega) hm_85 (by first | assumption | exact z_lt (by assumption) | exact z_lt2 (by assumption) | exact z_lt3 (by assumption) (by first | assumption | decide))
          · have i_126 : ¬ Int32.toInt e_122 = Int32.toInt x1_85 := fun q => h_126 (Int32.toInt_inj.mp q)
            (try simp only [Int32.toInt_add, Int32.toInt_sub, Int32.toInt_mul, Int32.toInt_toInt64, Int64.toInt_add, z_m1, Int32.reduceToInt, Int64.reduceToInt, Int32.reduceToNatClampNeg, Int.bmod_def] at i_126)
            exact T_134 _ _ _ _ _ _ k_85 p_jB_85 p_jH_85 p_jK_85 p_jL_85 p_jR_85 p_jS_85 p_jT_85 (by first | exact Or.inl rfl | exact Or.inr rfl | assumption) (by first | (simp only [Int32.toInt_add, Int32.toInt_sub, Int32.toInt_mul, Int32.toInt_toInt64, Int64.toInt_add, z_m1, Int32.reduceToInt, Int64.reduceToInt, Int32.reduceToNatClampNeg, Int.bmod_def, or_true, true_or, and_true, true_and] <;> omega) | omega) (by first | (simp only [Int32.toInt_add, Int32.toInt_sub, Int32.toInt_mul, Int32.toInt_toInt64, Int64.toInt_add, z_m1, Int32.reduceToInt, Int64.reduceToInt, Int32.reduceToNatClampNeg, Int.bmod_def, or_true, true_or, and_true, true_and] <;> omega) | omega) hm_85 (by first | assumption | exact z_lt (by assumption) | exact z_lt2 (by assumption) | exact z_lt3 (by assumption) (by first | assumption | decide))
  have T_85 : ∀ (x1_85 : Int32) (x2_85 : Int32) (x3_85 : Int32) (x4_85 : Int32) (M_85 : zMt), (∀ a j, ¬ WM_X8_unit P a j → M_85 a j = M0 a j) → (jB P M_85) → (jH P M_85) → (jK P M_85) → (jL P M_85) → (jR P M_85) → (jS P M_85) → (jT P M_85) → (0 ≤ Int32.toInt x4_85) → (Int32.toInt x4_85 ≤ 10) → ∃ r, D_X8_unit_85 P zFu x1_85 x2_85 x3_85 x4_85 M_85 = some r ∧ ((∀ a j, ¬ WM_X8_unit P a j → r.2 a j = M0 a j) ∧ ((jB P r.2) ∧ (jS P r.2) ∧ (jR P r.2) ∧ (jK P r.2) ∧ (jT P r.2))) := fun x1_85 x2_85 x3_85 x4_85 M_85 k_85 p_jB_85 p_jH_85 p_jK_85 p_jL_85 p_jR_85 p_jS_85 p_jT_85 f0_85 f1_85 => TL_85 zFu x1_85 x2_85 x3_85 x4_85 M_85 k_85 p_jB_85 p_jH_85 p_jK_85 p_jL_85 p_jR_85 p_jS_85 p_jT_85 f0_85 f1_85 (zFu_up _)
  have T_72 : ∀ (y1_72 : Int32) (M_72 : zMt), (∀ a j, ¬ WM_X8_unit P a j → M_72 a j = M0 a j) → (jB P M_72) → (jK P M_72) → (jR P M_72) → (jS P M_72) → (jT P M_72) → ∃ r, D_X8_unit_72 P y1_72 M_72 = some r ∧ ((∀ a j, ¬ WM_X8_unit P a j → r.2 a j = M0 a j) ∧ ((jB P r.2) ∧ (jS P r.2) ∧ (jR P r.2) ∧ (jK P r.2) ∧ (jT P r.2))) := by
    intro y1_72 M_72 k_72 p_jB_72 p_jK_72 p_jR_72 p_jS_72 p_jT_72
    obtain ⟨u0_jB_72, u1_jB_72, u2_jB_72, u3_jB_72, u4_jB_72, u5_jB_72⟩ := id p_jB_72
    obtain ⟨u0_jS_72, u1_jS_72, u2_jS_72, u3_jS_72, u4_jS_72, u5_jS_72, u6_jS_72, u7_jS_72⟩ := jS.ints p_jS_72
    obtain ⟨u0_jT_72, u1_jT_72, u2_jT_72, u3_jT_72, u4_jT_72, u5_jT_72⟩ := id p_jT_72
    unfold D_X8_unit_72
    refine vB (v_X8_gives) (fun e_72 f_72 q_72 => ?_)
    have k_72 : ∀ a j, ¬ WM_X8_unit P a j → e_72.2 a j = M0 a j := fun a j h => (q_72 a j (by unfold WM_X8_gives; unfold WM_X8_unit at h; omega)).trans (k_72 a j h)
    have n_72 : nA P e_72.2 = nA P M_72 := nA_congr (fun a j h => q_72 a j (by unfold WM_X8_gives; omega))
    have p_jB_72 : jB P e_72.2 := jB.mono p_jB_72 (fun a j h => q_72 a j (by unfold WM_X8_gives; omega))
    obtain ⟨u0_jB_72, u1_jB_72, u2_jB_72, u3_jB_72, u4_jB_72, u5_jB_72⟩ := id p_jB_72
    have p_jK_72 : jK P e_72.2 := jK.mono p_jK_72 (fun a j h => q_72 a j (by unfold WM_X8_gives; omega))
    have p_jR_72 : jR P e_72.2 := jR.mono p_jR_72 (fun a j h => q_72 a j (by unfold WM_X8_gives; omega))
    have p_jS_72 : jS P e_72.2 := jS.mono p_jS_72 (fun a j h => q_72 a j (by unfold WM_X8_gives; omega))
    obtain ⟨u0_jS_72, u1_jS_72, u2_jS_72, u3_jS_72, u4_jS_72, u5_jS_72, u6_jS_72, u7_jS_72⟩ := jS.ints p_jS_72
    have p_jT_72 : jT P e_72.2 := jT.mono p_jT_72 (fun a j h => q_72 a j (by unfold WM_X8_gives; omega))
    obtain ⟨u0_jT_72, u1_jT_72, u2_jT_72, u3_jT_72, u4_jT_72, u5_jT_72⟩ := id p_jT_72
    exact ⟨_, rfl, k_72, ⟨p_jB_72, p_jS_72, p_jR_72, p_jK_72, p_jT_72⟩⟩
  unfold D_X8_unit
  refine vB (v_X8_isFrom) (fun e_6 f_6 q_6 => ?_)
  have b_6 := q_6.1
  have x0_6 := q_6.2
  (try simp only [Int32.toInt_add, Int32.toInt_sub, Int32.toInt_mul, Int32.toInt_toInt64, Int64.toInt_add, z_m1, Int32.reduceToInt, Int64.reduceToInt, Int32.reduceToNatClampNeg, Int.bmod_def] at x0_6)
  refine vIf (fun h_9 => ?_) (fun h_9 => ?_)
  · have i_9 := congrArg Int32.toInt h_9
    (try simp only [Int32.toInt_add, Int32.toInt_sub, Int32.toInt_mul, Int32.toInt_toInt64, Int64.toInt_add, z_m1, Int32.reduceToInt, Int64.reduceToInt, Int32.reduceToNatClampNeg, Int.bmod_def] at i_9)
    refine vB (v_X8_refuse) (fun e_14 f_14 q_14 => ?_)
    have k_14 : ∀ a j, ¬ WM_X8_unit P a j → e_14.2 a j = M0 a j := fun a j h => (q_14 a j (by unfold WM_X8_refuse; unfold WM_X8_unit at h; omega))
    have n_14 : nA P e_14.2 = nA P M0 := nA_congr (fun a j h => q_14 a j (by unfold WM_X8_refuse; omega))
    have p_jB_14 : jB P e_14.2 := jB.mono p_jB (fun a j h => q_14 a j (by unfold WM_X8_refuse; omega))
    obtain ⟨u0_jB_14, u1_jB_14, u2_jB_14, u3_jB_14, u4_jB_14, u5_jB_14⟩ := id p_jB_14
    have p_jS_14 : jS P e_14.2 := jS.mono p_jS (fun a j h => q_14 a j (by unfold WM_X8_refuse; omega))
    obtain ⟨u0_jS_14, u1_jS_14, u2_jS_14, u3_jS_14, u4_jS_14, u5_jS_14, u6_jS_14, u7_jS_14⟩ := jS.ints p_jS_14
    have p_jR_14 : jR P e_14.2 := jR.mono p_jR (fun a j h => q_14 a j (by unfold WM_X8_refuse; omega))
    have p_jK_14 : jK P e_14.2 := jK.mono p_jK (fun a j h => q_14 a j (by unfold WM_X8_refuse; omega))
    have p_jT_14 : jT P e_14.2 := jT.mono p_jT (fun a j h => q_14 a j (by unfold WM_X8_refuse; omega))
    obtain ⟨u0_jT_14, u1_jT_14, u2_jT_14, u3_jT_14, u4_jT_14, u5_jT_14⟩ := id p_jT_14
    exact ⟨_, rfl, k_14, ⟨p_jB_14, p_jS_14, p_jR_14, p_jK_14, p_jT_14⟩⟩
  · have i_9 : ¬ Int32.toInt e_6 = Int32.toInt (0 : Int32) := fun q => h_9 (Int32.toInt_inj.mp q)
    (try simp only [Int32.toInt_add, Int32.toInt_sub, Int32.toInt_mul, Int32.toInt_toInt64, Int64.toInt_add, z_m1, Int32.reduceToInt, Int64.reduceToInt, Int32.reduceToNatClampNeg, Int.bmod_def] at i_9)
    refine vB (v_X8_isUnit p_jB) (fun e_20 f_20 q_20 => ?_)
    have b_20 := q_20.1
    have x0_20 := q_20.2
    (try simp only [Int32.toInt_add, Int32.toInt_sub, Int32.toInt_mul, Int32.toInt_toInt64, Int64.toInt_add, z_m1, Int32.reduceToInt, Int64.reduceToInt, Int32.reduceToNatClampNeg, Int.bmod_def] at x0_20)
    refine vIf (fun h_23 => ?_) (fun h_23 => ?_)
    · have i_23 := congrArg Int32.toInt h_23
      (try simp only [Int32.toInt_add, Int32.toInt_sub, Int32.toInt_mul, Int32.toInt_toInt64, Int64.toInt_add, z_m1, Int32.reduceToInt, Int64.reduceToInt, Int32.reduceToNatClampNeg, Int.bmod_def] at i_23)
      refine vB (v_X8_refuse) (fun e_28 f_28 q_28 => ?_)
      have k_28 : ∀ a j, ¬ WM_X8_unit P a j → e_28.2 a j = M0 a j := fun a j h => (q_28 a j (by unfold WM_X8_refuse; unfold WM_X8_unit at h; omega))
      have n_28 : nA P e_28.2 = nA P M0 := nA_congr (fun a j h => q_28 a j (by unfold WM_X8_refuse; omega))
      have p_jB_28 : jB P e_28.2 := jB.mono p_jB (fun a j h => q_28 a j (by unfold WM_X8_refuse; omega))
      obtain ⟨u0_jB_28, u1_jB_28, u2_jB_28, u3_jB_28, u4_jB_28, u5_jB_28⟩ := id p_jB_28
      have p_jS_28 : jS P e_28.2 := jS.mono p_jS (fun a j h => q_28 a j (by unfold WM_X8_refuse; omega))
      obtain ⟨u0_jS_28, u1_jS_28, u2_jS_28, u3_jS_28, u4_jS_28, u5_jS_28, u6_jS_28, u7_jS_28⟩ := jS.ints p_jS_28
      have p_jR_28 : jR P e_28.2 := jR.mono p_jR (fun a j h => q_28 a j (by unfold WM_X8_refuse; omega))
      have p_jK_28 : jK P e_28.2 := jK.mono p_jK (fun a j h => q_28 a j (by unfold WM_X8_refuse; omega))
      have p_jT_28 : jT P e_28.2 := jT.mono p_jT (fun a j h => q_28 a j (by unfold WM_X8_refuse; omega))
      obtain ⟨u0_jT_28, u1_jT_28, u2_jT_28, u3_jT_28, u4_jT_28, u5_jT_28⟩ := id p_jT_28
      exact ⟨_, rfl, k_28, ⟨p_jB_28, p_jS_28, p_jR_28, p_jK_28, p_jT_28⟩⟩
    · have i_23 : ¬ Int32.toInt e_20 = Int32.toInt (0 : Int32) := fun q => h_23 (Int32.toInt_inj.mp q)
      (try simp only [Int32.toInt_add, Int32.toInt_sub, Int32.toInt_mul, Int32.toInt_toInt64, Int64.toInt_add, z_m1, Int32.reduceToInt, Int64.reduceToInt, Int32.reduceToNatClampNeg, Int.bmod_def] at i_23)
      refine vIf (fun h_34 => ?_) (fun h_34 => ?_)
      · have i_34 := Int32.le_iff_toInt_le.mp h_34
        (try simp only [Int32.toInt_add, Int32.toInt_sub, Int32.toInt_mul, Int32.toInt_toInt64, Int64.toInt_add, z_m1, Int32.reduceToInt, Int64.reduceToInt, Int32.reduceToNatClampNeg, Int.bmod_def] at i_34)
        refine vB (v_X8_laysApplicants p_jB p_jS) (fun e_77 f_77 q_77 => ?_)
        have k_77 : ∀ a j, ¬ WM_X8_unit P a j → e_77 a j = M0 a j := fun a j h => (q_77.1 a j (by unfold WM_X8_laysApplicants; unfold WM_X8_unit at h; omega))
        have n_77 : nA P e_77 = nA P M0 := nA_congr (fun a j h => q_77.1 a j (by unfold WM_X8_laysApplicants; omega))
        have p_jS_77 : jS P e_77 := jS.mono p_jS (fun a j h => q_77.1 a j (by unfold WM_X8_laysApplicants; omega))
        obtain ⟨u0_jS_77, u1_jS_77, u2_jS_77, u3_jS_77, u4_jS_77, u5_jS_77, u6_jS_77, u7_jS_77⟩ := jS.ints p_jS_77
        have p_jR_77 : jR P e_77 := jR.mono p_jR (fun a j h => q_77.1 a j (by unfold WM_X8_laysApplicants; omega))
        have p_jK_77 : jK P e_77 := jK.mono p_jK (fun a j h => q_77.1 a j (by unfold WM_X8_laysApplicants; omega))
        have p_jT_77 : jT P e_77 := jT.mono p_jT (fun a j h => q_77.1 a j (by unfold WM_X8_laysApplicants; omega))
        obtain ⟨u0_jT_77, u1_jT_77, u2_jT_77, u3_jT_77, u4_jT_77, u5_jT_77⟩ := id p_jT_77
        obtain ⟨x0_77, x1_77, x2_77, x3_77⟩ := q_77.2
        obtain ⟨u0_jB_77, u1_jB_77, u2_jB_77, u3_jB_77, u4_jB_77, u5_jB_77⟩ := id x0_77
        (try simp only [Int32.toInt_add, Int32.toInt_sub, Int32.toInt_mul, Int32.toInt_toInt64, Int64.toInt_add, z_m1, Int32.reduceToInt, Int64.reduceToInt, Int32.reduceToNatClampNeg, Int.bmod_def] at x3_77)
        exact T_85 _ _ _ _ _ k_77 x0_77 x2_77 p_jK_77 x1_77 p_jR_77 p_jS_77 p_jT_77 (by first | (simp only [Int32.toInt_add, Int32.toInt_sub, Int32.toInt_mul, Int32.toInt_toInt64, Int64.toInt_add, z_m1, Int32.reduceToInt, Int64.reduceToInt, Int32.reduceToNatClampNeg, Int.bmod_def, or_true, true_or, and_true, true_and] <;> omega) | omega) (by first | (simp only [Int32.toInt_add, Int32.toInt_sub, Int32.toInt_mul, Int32.toInt_toInt64, Int64.toInt_add, z_m1, Int32.reduceToInt, Int64.reduceToInt, Int32.reduceToNatClampNeg, Int.bmod_def, or_true, true_or, and_true, true_and] <;> omega) | omega)
      · have i_34 := Int32.lt_iff_toInt_lt.mp (Int32.not_le.mp h_34)
        (try simp only [Int32.toInt_add, Int32.toInt_sub, Int32.toInt_mul, Int32.toInt_toInt64, Int64.toInt_add, z_m1, Int32.reduceToInt, Int64.reduceToInt, Int32.reduceToNatClampNeg, Int.bmod_def] at i_34)
        refine vIf (fun h_39 => ?_) (fun h_39 => ?_)
        · have i_39 := congrArg Int32.toInt h_39
          (try simp only [Int32.toInt_add, Int32.toInt_sub, Int32.toInt_mul, Int32.toInt_toInt64, Int64.toInt_add, z_m1, Int32.reduceToInt, Int64.reduceToInt, Int32.reduceToNatClampNeg, Int.bmod_def] at i_39)
          refine vI (vp_of (by first | (simp only [Int32.toInt_add, Int32.toInt_sub, Int32.toInt_mul, Int32.toInt_toInt64, Int64.toInt_add, z_m1, Int32.reduceToInt, Int64.reduceToInt, Int32.reduceToNatClampNeg, Int.bmod_def, or_true, true_or, and_true, true_and] <;> omega) | omega) (by first | (simp only [Int32.toInt_add, Int32.toInt_sub, Int32.toInt_mul, Int32.toInt_toInt64, Int64.toInt_add, z_m1, Int32.reduceToInt, Int64.reduceToInt, Int32.reduceToNatClampNeg, Int.bmod_def, or_true, true_or, and_true, true_and] <;> omega) | omega)) ?_
          exact T_72 _ _ (fun _ _ _ => rfl) p_jB p_jK p_jR p_jS p_jT
        · have i_39 : ¬ Int32.toInt v1 = Int32.toInt (0 : Int32) := fun q => h_39 (Int32.toInt_inj.mp q)
          (try simp only [Int32.toInt_add, Int32.toInt_sub, Int32.toInt_mul, Int32.toInt_toInt64, Int64.toInt_add, z_m1, Int32.reduceToInt, Int64.reduceToInt, Int32.reduceToNatClampNeg, Int.bmod_def] at i_39)
          refine vIf (fun h_56 => ?_) (fun h_56 => ?_)
          · have i_56 := congrArg Int32.toInt h_56
            (try simp only [Int32.toInt_add, Int32.toInt_sub, Int32.toInt_mul, Int32.toInt_toInt64, Int64.toInt_add, z_m1, Int32.reduceToInt, Int64.reduceToInt, Int32.reduceToNatClampNeg, Int.bmod_def] at i_56)
            refine vB (v_X8_preferred p_jS (by first | (simp only [Int32.toInt_add, Int32.toInt_sub, Int32.toInt_mul, Int32.toInt_toInt64, Int64.toInt_add, z_m1, Int32.reduceToInt, Int64.reduceToInt, Int32.reduceToNatClampNeg, Int.bmod_def, or_true, true_or, and_true, true_and] <;> omega) | omega) (by first | (simp only [Int32.toInt_add, Int32.toInt_sub, Int32.toInt_mul, Int32.toInt_toInt64, Int64.toInt_add, z_m1, Int32.reduceToInt, Int64.reduceToInt, Int32.reduceToNatClampNeg, Int.bmod_def, or_true, true_or, and_true, true_and] <;> omega) | omega)) (fun e_61 f_61 q_61 => ?_)
            exact T_72 _ _ (fun _ _ _ => rfl) p_jB p_jK p_jR p_jS p_jT
          · have i_56 : ¬ Int32.toInt v1 = Int32.toInt (1 : Int32) := fun q => h_56 (Int32.toInt_inj.mp q)
            (try simp only [Int32.toInt_add, Int32.toInt_sub, Int32.toInt_mul, Int32.toInt_toInt64, Int64.toInt_add, z_m1, Int32.reduceToInt, Int64.reduceToInt, Int32.reduceToNatClampNeg, Int.bmod_def] at i_56)
            refine vB (v_X8_forGuests p_jS (by first | (simp only [Int32.toInt_add, Int32.toInt_sub, Int32.toInt_mul, Int32.toInt_toInt64, Int64.toInt_add, z_m1, Int32.reduceToInt, Int64.reduceToInt, Int32.reduceToNatClampNeg, Int.bmod_def, or_true, true_or, and_true, true_and] <;> omega) | omega) (by first | (simp only [Int32.toInt_add, Int32.toInt_sub, Int32.toInt_mul, Int32.toInt_toInt64, Int64.toInt_add, z_m1, Int32.reduceToInt, Int64.reduceToInt, Int32.reduceToNatClampNeg, Int.bmod_def, or_true, true_or, and_true, true_and] <;> omega) | omega)) (fun e_69 f_69 q_69 => ?_)
            exact T_72 _ _ (fun _ _ _ => rfl) p_jB p_jK p_jR p_jS p_jT
def WM_X8_applicant (P : Nat) (a j : Nat) : Prop := (P + 11 ≤ a ∧ a < P + 18) ∨ (a = P ∧ (j = 6 ∨ j = 12 ∨ j = 33))
set_option maxRecDepth 100000 in
set_option maxHeartbeats 4000000 in
theorem v_X8_applicant {P : Nat} {v0 : Int32} {v1 : Int32} {M0 : zMt}  (p_jB : jB P M0) (p_jS : jS P M0) (p_jR : jR P M0) (p_jK : jK P M0) (p_jT : jT P M0) : ∃ r, D_X8_applicant P v0 v1 M0 = some r ∧ ((∀ a j, ¬ WM_X8_applicant P a j → r.2 a j = M0 a j) ∧ ((jB P r.2) ∧ (jS P r.2) ∧ (jR P r.2) ∧ (jK P r.2) ∧ (jT P r.2))) := by
  obtain ⟨u0_jB, u1_jB, u2_jB, u3_jB, u4_jB, u5_jB⟩ := id p_jB
  obtain ⟨u0_jS, u1_jS, u2_jS, u3_jS, u4_jS, u5_jS, u6_jS, u7_jS⟩ := jS.ints p_jS
  obtain ⟨u0_jT, u1_jT, u2_jT, u3_jT, u4_jT, u5_jT⟩ := id p_jT
  unfold D_X8_applicant
  refine vB (v_X8_isFrom) (fun e_6 f_6 q_6 => ?_)
  have b_6 := q_6.1
  have x0_6 := q_6.2
  (try simp only [Int32.toInt_add, Int32.toInt_sub, Int32.toInt_mul, Int32.toInt_toInt64, Int64.toInt_add, z_m1, Int32.reduceToInt, Int64.reduceToInt, Int32.reduceToNatClampNeg, Int.bmod_def] at x0_6)
  refine vIf (fun h_9 => ?_) (fun h_9 => ?_)
  · have i_9 := congrArg Int32.toInt h_9
    (try simp only [Int32.toInt_add, Int32.toInt_sub, Int32.toInt_mul, Int32.toInt_toInt64, Int64.toInt_add, z_m1, Int32.reduceToInt, Int64.reduceToInt, Int32.reduceToNatClampNeg, Int.bmod_def] at i_9)
    refine vB (v_X8_refuse) (fun e_14 f_14 q_14 => ?_)
    have k_14 : ∀ a j, ¬ WM_X8_applicant P a j → e_14.2 a j = M0 a j := fun a j h => (q_14 a j (by unfold WM_X8_refuse; unfold WM_X8_applicant at h; omega))
    have n_14 : nA P e_14.2 = nA P M0 := nA_congr (fun a j h => q_14 a j (by unfold WM_X8_refuse; omega))
    have p_jB_14 : jB P e_14.2 := jB.mono p_jB (fun a j h => q_14 a j (by unfold WM_X8_refuse; omega))
    obtain ⟨u0_jB_14, u1_jB_14, u2_jB_14, u3_jB_14, u4_jB_14, u5_jB_14⟩ := id p_jB_14
    have p_jS_14 : jS P e_14.2 := jS.mono p_jS (fun a j h => q_14 a j (by unfold WM_X8_refuse; omega))
    obtain ⟨u0_jS_14, u1_jS_14, u2_jS_14, u3_jS_14, u4_jS_14, u5_jS_14, u6_jS_14, u7_jS_14⟩ := jS.ints p_jS_14
    have p_jR_14 : jR P e_14.2 := jR.mono p_jR (fun a j h => q_14 a j (by unfold WM_X8_refuse; omega))
    have p_jK_14 : jK P e_14.2 := jK.mono p_jK (fun a j h => q_14 a j (by unfold WM_X8_refuse; omega))
    have p_jT_14 : jT P e_14.2 := jT.mono p_jT (fun a j h => q_14 a j (by unfold WM_X8_refuse; omega))
    obtain ⟨u0_jT_14, u1_jT_14, u2_jT_14, u3_jT_14, u4_jT_14, u5_jT_14⟩ := id p_jT_14
    exact ⟨_, rfl, k_14, ⟨p_jB_14, p_jS_14, p_jR_14, p_jK_14, p_jT_14⟩⟩
  · have i_9 : ¬ Int32.toInt e_6 = Int32.toInt (0 : Int32) := fun q => h_9 (Int32.toInt_inj.mp q)
    (try simp only [Int32.toInt_add, Int32.toInt_sub, Int32.toInt_mul, Int32.toInt_toInt64, Int64.toInt_add, z_m1, Int32.reduceToInt, Int64.reduceToInt, Int32.reduceToNatClampNeg, Int.bmod_def] at i_9)
    refine vB (v_X8_isApplicant p_jB p_jS) (fun e_20 f_20 q_20 => ?_)
    have k_20 : ∀ a j, ¬ WM_X8_applicant P a j → e_20.2 a j = M0 a j := fun a j h => (q_20.1 a j (by unfold WM_X8_isApplicant; unfold WM_X8_applicant at h; omega))
    have b_20 := q_20.2.1
    have n_20 : nA P e_20.2 = nA P M0 := nA_congr (fun a j h => q_20.1 a j (by unfold WM_X8_isApplicant; omega))
    have p_jS_20 : jS P e_20.2 := jS.mono p_jS (fun a j h => q_20.1 a j (by unfold WM_X8_isApplicant; omega))
    obtain ⟨u0_jS_20, u1_jS_20, u2_jS_20, u3_jS_20, u4_jS_20, u5_jS_20, u6_jS_20, u7_jS_20⟩ := jS.ints p_jS_20
    have p_jR_20 : jR P e_20.2 := jR.mono p_jR (fun a j h => q_20.1 a j (by unfold WM_X8_isApplicant; omega))
    have p_jK_20 : jK P e_20.2 := jK.mono p_jK (fun a j h => q_20.1 a j (by unfold WM_X8_isApplicant; omega))
    have p_jT_20 : jT P e_20.2 := jT.mono p_jT (fun a j h => q_20.1 a j (by unfold WM_X8_isApplicant; omega))
    obtain ⟨u0_jT_20, u1_jT_20, u2_jT_20, u3_jT_20, u4_jT_20, u5_jT_20⟩ := id p_jT_20
    obtain ⟨x0_20, x1_20, x2_20, x3_20, x4_20⟩ := q_20.2.2
    obtain ⟨u0_jB_20, u1_jB_20, u2_jB_20, u3_jB_20, u4_jB_20, u5_jB_20⟩ := id x0_20
    (try simp only [Int32.toInt_add, Int32.toInt_sub, Int32.toInt_mul, Int32.toInt_toInt64, Int64.toInt_add, z_m1, Int32.reduceToInt, Int64.reduceToInt, Int32.reduceToNatClampNeg, Int.bmod_def] at x3_20)
    (try simp only [Int32.toInt_add, Int32.toInt_sub, Int32.toInt_mul, Int32.toInt_toInt64, Int64.toInt_add, z_m1, Int32.reduceToInt, Int64.reduceToInt, Int32.reduceToNatClampNeg, Int.bmod_def] at x4_20)
    refine vIf (fun h_23 => ?_) (fun h_23 => ?_)
    · have i_23 := congrArg Int32.toInt h_23
      (try simp only [Int32.toInt_add, Int32.toInt_sub, Int32.toInt_mul, Int32.toInt_toInt64, Int64.toInt_add, z_m1, Int32.reduceToInt, Int64.reduceToInt, Int32.reduceToNatClampNeg, Int.bmod_def] at i_23)
      refine vB (v_X8_refuse) (fun e_28 f_28 q_28 => ?_)
      have k_28 : ∀ a j, ¬ WM_X8_applicant P a j → e_28.2 a j = M0 a j := fun a j h => (q_28 a j (by unfold WM_X8_refuse; unfold WM_X8_applicant at h; omega)).trans (k_20 a j h)
      have n_28 : nA P e_28.2 = nA P e_20.2 := nA_congr (fun a j h => q_28 a j (by unfold WM_X8_refuse; omega))
      have p_jS_28 : jS P e_28.2 := jS.mono p_jS_20 (fun a j h => q_28 a j (by unfold WM_X8_refuse; omega))
      obtain ⟨u0_jS_28, u1_jS_28, u2_jS_28, u3_jS_28, u4_jS_28, u5_jS_28, u6_jS_28, u7_jS_28⟩ := jS.ints p_jS_28
      have p_jR_28 : jR P e_28.2 := jR.mono p_jR_20 (fun a j h => q_28 a j (by unfold WM_X8_refuse; omega))
      have p_jK_28 : jK P e_28.2 := jK.mono p_jK_20 (fun a j h => q_28 a j (by unfold WM_X8_refuse; omega))
      have p_jT_28 : jT P e_28.2 := jT.mono p_jT_20 (fun a j h => q_28 a j (by unfold WM_X8_refuse; omega))
      obtain ⟨u0_jT_28, u1_jT_28, u2_jT_28, u3_jT_28, u4_jT_28, u5_jT_28⟩ := id p_jT_28
      have p_jB_28 : jB P e_28.2 := jB.mono x0_20 (fun a j h => q_28 a j (by unfold WM_X8_refuse; omega))
      obtain ⟨u0_jB_28, u1_jB_28, u2_jB_28, u3_jB_28, u4_jB_28, u5_jB_28⟩ := id p_jB_28
      have p_jL_28 : jL P e_28.2 := jL.mono x1_20 (fun a j h => q_28 a j (by unfold WM_X8_refuse; omega))
      have p_jH_28 : jH P e_28.2 := jH.mono x2_20 (fun a j h => q_28 a j (by unfold WM_X8_refuse; omega))
      exact ⟨_, rfl, k_28, ⟨p_jB_28, p_jS_28, p_jR_28, p_jK_28, p_jT_28⟩⟩
    · have i_23 : ¬ Int32.toInt e_20.1 = Int32.toInt (0 : Int32) := fun q => h_23 (Int32.toInt_inj.mp q)
      (try simp only [Int32.toInt_add, Int32.toInt_sub, Int32.toInt_mul, Int32.toInt_toInt64, Int64.toInt_add, z_m1, Int32.reduceToInt, Int64.reduceToInt, Int32.reduceToNatClampNeg, Int.bmod_def] at i_23)
      refine vIf (fun h_33 => ?_) (fun h_33_0 => ?_)
      · skip
        refine vI (vp_of (by first | (simp only [Int32.toInt_add, Int32.toInt_sub, Int32.toInt_mul, Int32.toInt_toInt64, Int64.toInt_add, z_m1, Int32.reduceToInt, Int64.reduceToInt, Int32.reduceToNatClampNeg, Int.bmod_def, or_true, true_or, and_true, true_and] <;> omega) | omega) (by first | (simp only [Int32.toInt_add, Int32.toInt_sub, Int32.toInt_mul, Int32.toInt_toInt64, Int64.toInt_add, z_m1, Int32.reduceToInt, Int64.reduceToInt, Int32.reduceToNatClampNeg, Int.bmod_def, or_true, true_or, and_true, true_and] <;> omega) | omega)) ?_
        obtain ⟨w0_78, w1_78, w2_78, w3_78, w4_78, w5_78⟩ := jL.el x1_20 (x := v0) (by first | (simp only [Int32.toInt_add, Int32.toInt_sub, Int32.toInt_mul, Int32.toInt_toInt64, Int64.toInt_add, z_m1, Int32.reduceToInt, Int64.reduceToInt, Int32.reduceToNatClampNeg, Int.bmod_def, or_true, true_or, and_true, true_and] <;> omega) | omega) (by first | (simp only [Int32.toInt_add, Int32.toInt_sub, Int32.toInt_mul, Int32.toInt_toInt64, Int64.toInt_add, z_m1, Int32.reduceToInt, Int64.reduceToInt, Int32.reduceToNatClampNeg, Int.bmod_def, or_true, true_or, and_true, true_and] <;> omega) | omega)
        refine vB (v_X8_gives) (fun e_79 f_79 q_79 => ?_)
        have k_79 : ∀ a j, ¬ WM_X8_applicant P a j → e_79.2 a j = M0 a j := fun a j h => (q_79 a j (by unfold WM_X8_gives; unfold WM_X8_applicant at h; omega)).trans (k_20 a j h)
        have n_79 : nA P e_79.2 = nA P e_20.2 := nA_congr (fun a j h => q_79 a j (by unfold WM_X8_gives; omega))
        have p_jS_79 : jS P e_79.2 := jS.mono p_jS_20 (fun a j h => q_79 a j (by unfold WM_X8_gives; omega))
        obtain ⟨u0_jS_79, u1_jS_79, u2_jS_79, u3_jS_79, u4_jS_79, u5_jS_79, u6_jS_79, u7_jS_79⟩ := jS.ints p_jS_79
        have p_jR_79 : jR P e_79.2 := jR.mono p_jR_20 (fun a j h => q_79 a j (by unfold WM_X8_gives; omega))
        have p_jK_79 : jK P e_79.2 := jK.mono p_jK_20 (fun a j h => q_79 a j (by unfold WM_X8_gives; omega))
        have p_jT_79 : jT P e_79.2 := jT.mono p_jT_20 (fun a j h => q_79 a j (by unfold WM_X8_gives; omega))
        obtain ⟨u0_jT_79, u1_jT_79, u2_jT_79, u3_jT_79, u4_jT_79, u5_jT_79⟩ := id p_jT_79
        have p_jB_79 : jB P e_79.2 := jB.mono x0_20 (fun a j h => q_79 a j (by unfold WM_X8_gives; omega))
        obtain ⟨u0_jB_79, u1_jB_79, u2_jB_79, u3_jB_79, u4_jB_79, u5_jB_79⟩ := id p_jB_79
        have p_jL_79 : jL P e_79.2 := jL.mono x1_20 (fun a j h => q_79 a j (by unfold WM_X8_gives; omega))
        have p_jH_79 : jH P e_79.2 := jH.mono x2_20 (fun a j h => q_79 a j (by unfold WM_X8_gives; omega))
        exact ⟨_, rfl, k_79, ⟨p_jB_79, p_jS_79, p_jR_79, p_jK_79, p_jT_79⟩⟩
      refine vIf (fun h_33 => ?_) (fun h_33_1 => ?_)
      · skip
        refine vI (vp_of (by first | (simp only [Int32.toInt_add, Int32.toInt_sub, Int32.toInt_mul, Int32.toInt_toInt64, Int64.toInt_add, z_m1, Int32.reduceToInt, Int64.reduceToInt, Int32.reduceToNatClampNeg, Int.bmod_def, or_true, true_or, and_true, true_and] <;> omega) | omega) (by first | (simp only [Int32.toInt_add, Int32.toInt_sub, Int32.toInt_mul, Int32.toInt_toInt64, Int64.toInt_add, z_m1, Int32.reduceToInt, Int64.reduceToInt, Int32.reduceToNatClampNeg, Int.bmod_def, or_true, true_or, and_true, true_and] <;> omega) | omega)) ?_
        refine vB (v_X8_gives) (fun e_90 f_90 q_90 => ?_)
        have k_90 : ∀ a j, ¬ WM_X8_applicant P a j → e_90.2 a j = M0 a j := fun a j h => (q_90 a j (by unfold WM_X8_gives; unfold WM_X8_applicant at h; omega)).trans (k_20 a j h)
        have n_90 : nA P e_90.2 = nA P e_20.2 := nA_congr (fun a j h => q_90 a j (by unfold WM_X8_gives; omega))
        have p_jS_90 : jS P e_90.2 := jS.mono p_jS_20 (fun a j h => q_90 a j (by unfold WM_X8_gives; omega))
        obtain ⟨u0_jS_90, u1_jS_90, u2_jS_90, u3_jS_90, u4_jS_90, u5_jS_90, u6_jS_90, u7_jS_90⟩ := jS.ints p_jS_90
        have p_jR_90 : jR P e_90.2 := jR.mono p_jR_20 (fun a j h => q_90 a j (by unfold WM_X8_gives; omega))
        have p_jK_90 : jK P e_90.2 := jK.mono p_jK_20 (fun a j h => q_90 a j (by unfold WM_X8_gives; omega))
        have p_jT_90 : jT P e_90.2 := jT.mono p_jT_20 (fun a j h => q_90 a j (by unfold WM_X8_gives; omega))
        obtain ⟨u0_jT_90, u1_jT_90, u2_jT_90, u3_jT_90, u4_jT_90, u5_jT_90⟩ := id p_jT_90
        have p_jB_90 : jB P e_90.2 := jB.mono x0_20 (fun a j h => q_90 a j (by unfold WM_X8_gives; omega))
        obtain ⟨u0_jB_90, u1_jB_90, u2_jB_90, u3_jB_90, u4_jB_90, u5_jB_90⟩ := id p_jB_90
        have p_jL_90 : jL P e_90.2 := jL.mono x1_20 (fun a j h => q_90 a j (by unfold WM_X8_gives; omega))
        have p_jH_90 : jH P e_90.2 := jH.mono x2_20 (fun a j h => q_90 a j (by unfold WM_X8_gives; omega))
        exact ⟨_, rfl, k_90, ⟨p_jB_90, p_jS_90, p_jR_90, p_jK_90, p_jT_90⟩⟩
      refine vIf (fun h_33 => ?_) (fun h_33_2 => ?_)
      · skip
        refine vI (vp_of (by first | (simp only [Int32.toInt_add, Int32.toInt_sub, Int32.toInt_mul, Int32.toInt_toInt64, Int64.toInt_add, z_m1, Int32.reduceToInt, Int64.reduceToInt, Int32.reduceToNatClampNeg, Int.bmod_def, or_true, true_or, and_true, true_and] <;> omega) | omega) (by first | (simp only [Int32.toInt_add, Int32.toInt_sub, Int32.toInt_mul, Int32.toInt_toInt64, Int64.toInt_add, z_m1, Int32.reduceToInt, Int64.reduceToInt, Int32.reduceToNatClampNeg, Int.bmod_def, or_true, true_or, and_true, true_and] <;> omega) | omega)) ?_
        refine vB (v_X8_gives) (fun e_101 f_101 q_101 => ?_)
        have k_101 : ∀ a j, ¬ WM_X8_applicant P a j → e_101.2 a j = M0 a j := fun a j h => (q_101 a j (by unfold WM_X8_gives; unfold WM_X8_applicant at h; omega)).trans (k_20 a j h)
        have n_101 : nA P e_101.2 = nA P e_20.2 := nA_congr (fun a j h => q_101 a j (by unfold WM_X8_gives; omega))
        have p_jS_101 : jS P e_101.2 := jS.mono p_jS_20 (fun a j h => q_101 a j (by unfold WM_X8_gives; omega))
        obtain ⟨u0_jS_101, u1_jS_101, u2_jS_101, u3_jS_101, u4_jS_101, u5_jS_101, u6_jS_101, u7_jS_101⟩ := jS.ints p_jS_101
        have p_jR_101 : jR P e_101.2 := jR.mono p_jR_20 (fun a j h => q_101 a j (by unfold WM_X8_gives; omega))
        have p_jK_101 : jK P e_101.2 := jK.mono p_jK_20 (fun a j h => q_101 a j (by unfold WM_X8_gives; omega))
        have p_jT_101 : jT P e_101.2 := jT.mono p_jT_20 (fun a j h => q_101 a j (by unfold WM_X8_gives; omega))
        obtain ⟨u0_jT_101, u1_jT_101, u2_jT_101, u3_jT_101, u4_jT_101, u5_jT_101⟩ := id p_jT_101
        have p_jB_101 : jB P e_101.2 := jB.mono x0_20 (fun a j h => q_101 a j (by unfold WM_X8_gives; omega))
        obtain ⟨u0_jB_101, u1_jB_101, u2_jB_101, u3_jB_101, u4_jB_101, u5_jB_101⟩ := id p_jB_101
        have p_jL_101 : jL P e_101.2 := jL.mono x1_20 (fun a j h => q_101 a j (by unfold WM_X8_gives; omega))
        have p_jH_101 : jH P e_101.2 := jH.mono x2_20 (fun a j h => q_101 a j (by unfold WM_X8_gives; omega))
        exact ⟨_, rfl, k_101, ⟨p_jB_101, p_jS_101, p_jR_101, p_jK_101, p_jT_101⟩⟩
      refine vIf (fun h_33 => ?_) (fun h_33_3 => ?_)
      · skip
        refine vI (vp_of (by first | (simp only [Int32.toInt_add, Int32.toInt_sub, Int32.toInt_mul, Int32.toInt_toInt64, Int64.toInt_add, z_m1, Int32.reduceToInt, Int64.reduceToInt, Int32.reduceToNatClampNeg, Int.bmod_def, or_true, true_or, and_true, true_and] <;> omega) | omega) (by first | (simp only [Int32.toInt_add, Int32.toInt_sub, Int32.toInt_mul, Int32.toInt_toInt64, Int64.toInt_add, z_m1, Int32.reduceToInt, Int64.reduceToInt, Int32.reduceToNatClampNeg, Int.bmod_def, or_true, true_or, and_true, true_and] <;> omega) | omega)) ?_
        obtain ⟨w0_111, w1_111, w2_111, w3_111, w4_111, w5_111⟩ := jL.el x1_20 (x := v0) (by first | (simp only [Int32.toInt_add, Int32.toInt_sub, Int32.toInt_mul, Int32.toInt_toInt64, Int64.toInt_add, z_m1, Int32.reduceToInt, Int64.reduceToInt, Int32.reduceToNatClampNeg, Int.bmod_def, or_true, true_or, and_true, true_and] <;> omega) | omega) (by first | (simp only [Int32.toInt_add, Int32.toInt_sub, Int32.toInt_mul, Int32.toInt_toInt64, Int64.toInt_add, z_m1, Int32.reduceToInt, Int64.reduceToInt, Int32.reduceToNatClampNeg, Int.bmod_def, or_true, true_or, and_true, true_and] <;> omega) | omega)
        refine vB (v_X8_gives) (fun e_112 f_112 q_112 => ?_)
        have k_112 : ∀ a j, ¬ WM_X8_applicant P a j → e_112.2 a j = M0 a j := fun a j h => (q_112 a j (by unfold WM_X8_gives; unfold WM_X8_applicant at h; omega)).trans (k_20 a j h)
        have n_112 : nA P e_112.2 = nA P e_20.2 := nA_congr (fun a j h => q_112 a j (by unfold WM_X8_gives; omega))
        have p_jS_112 : jS P e_112.2 := jS.mono p_jS_20 (fun a j h => q_112 a j (by unfold WM_X8_gives; omega))
        obtain ⟨u0_jS_112, u1_jS_112, u2_jS_112, u3_jS_112, u4_jS_112, u5_jS_112, u6_jS_112, u7_jS_112⟩ := jS.ints p_jS_112
        have p_jR_112 : jR P e_112.2 := jR.mono p_jR_20 (fun a j h => q_112 a j (by unfold WM_X8_gives; omega))
        have p_jK_112 : jK P e_112.2 := jK.mono p_jK_20 (fun a j h => q_112 a j (by unfold WM_X8_gives; omega))
        have p_jT_112 : jT P e_112.2 := jT.mono p_jT_20 (fun a j h => q_112 a j (by unfold WM_X8_gives; omega))
        obtain ⟨u0_jT_112, u1_jT_112, u2_jT_112, u3_jT_112, u4_jT_112, u5_jT_112⟩ := id p_jT_112
        have p_jB_112 : jB P e_112.2 := jB.mono x0_20 (fun a j h => q_112 a j (by unfold WM_X8_gives; omega))
        obtain ⟨u0_jB_112, u1_jB_112, u2_jB_112, u3_jB_112, u4_jB_112, u5_jB_112⟩ := id p_jB_112
        have p_jL_112 : jL P e_112.2 := jL.mono x1_20 (fun a j h => q_112 a j (by unfold WM_X8_gives; omega))
        have p_jH_112 : jH P e_112.2 := jH.mono x2_20 (fun a j h => q_112 a j (by unfold WM_X8_gives; omega))
        exact ⟨_, rfl, k_112, ⟨p_jB_112, p_jS_112, p_jR_112, p_jK_112, p_jT_112⟩⟩
      refine vIf (fun h_33 => ?_) (fun h_33_4 => ?_)
      · skip
        refine vB (v_X8_choiceMany x0_20 p_jS_20 x1_20 (by first | (simp only [Int32.toInt_add, Int32.toInt_sub, Int32.toInt_mul, Int32.toInt_toInt64, Int64.toInt_add, z_m1, Int32.reduceToInt, Int64.reduceToInt, Int32.reduceToNatClampNeg, Int.bmod_def, or_true, true_or, and_true, true_and] <;> omega) | omega) (by first | (simp only [Int32.toInt_add, Int32.toInt_sub, Int32.toInt_mul, Int32.toInt_toInt64, Int64.toInt_add, z_m1, Int32.reduceToInt, Int64.reduceToInt, Int32.reduceToNatClampNeg, Int.bmod_def, or_true, true_or, and_true, true_and] <;> omega) | omega)) (fun e_119 f_119 q_119 => ?_)
        obtain ⟨x0_119, x1_119⟩ := q_119
        (try simp only [Int32.toInt_add, Int32.toInt_sub, Int32.toInt_mul, Int32.toInt_toInt64, Int64.toInt_add, z_m1, Int32.reduceToInt, Int64.reduceToInt, Int32.reduceToNatClampNeg, Int.bmod_def] at x0_119)
        (try simp only [Int32.toInt_add, Int32.toInt_sub, Int32.toInt_mul, Int32.toInt_toInt64, Int64.toInt_add, z_m1, Int32.reduceToInt, Int64.reduceToInt, Int32.reduceToNatClampNeg, Int.bmod_def] at x1_119)
        refine vB (v_X8_gives) (fun e_122 f_122 q_122 => ?_)
        have k_122 : ∀ a j, ¬ WM_X8_applicant P a j → e_122.2 a j = M0 a j := fun a j h => (q_122 a j (by unfold WM_X8_gives; unfold WM_X8_applicant at h; omega)).trans (k_20 a j h)
        have n_122 : nA P e_122.2 = nA P e_20.2 := nA_congr (fun a j h => q_122 a j (by unfold WM_X8_gives; omega))
        have p_jS_122 : jS P e_122.2 := jS.mono p_jS_20 (fun a j h => q_122 a j (by unfold WM_X8_gives; omega))
        obtain ⟨u0_jS_122, u1_jS_122, u2_jS_122, u3_jS_122, u4_jS_122, u5_jS_122, u6_jS_122, u7_jS_122⟩ := jS.ints p_jS_122
        have p_jR_122 : jR P e_122.2 := jR.mono p_jR_20 (fun a j h => q_122 a j (by unfold WM_X8_gives; omega))
        have p_jK_122 : jK P e_122.2 := jK.mono p_jK_20 (fun a j h => q_122 a j (by unfold WM_X8_gives; omega))
        have p_jT_122 : jT P e_122.2 := jT.mono p_jT_20 (fun a j h => q_122 a j (by unfold WM_X8_gives; omega))
        obtain ⟨u0_jT_122, u1_jT_122, u2_jT_122, u3_jT_122, u4_jT_122, u5_jT_122⟩ := id p_jT_122
        have p_jB_122 : jB P e_122.2 := jB.mono x0_20 (fun a j h => q_122 a j (by unfold WM_X8_gives; omega))
        obtain ⟨u0_jB_122, u1_jB_122, u2_jB_122, u3_jB_122, u4_jB_122, u5_jB_122⟩ := id p_jB_122
        have p_jL_122 : jL P e_122.2 := jL.mono x1_20 (fun a j h => q_122 a j (by unfold WM_X8_gives; omega))
        have p_jH_122 : jH P e_122.2 := jH.mono x2_20 (fun a j h => q_122 a j (by unfold WM_X8_gives; omega))
        exact ⟨_, rfl, k_122, ⟨p_jB_122, p_jS_122, p_jR_122, p_jK_122, p_jT_122⟩⟩
      refine vIf (fun h_33 => ?_) (fun h_33_5 => ?_)
      · skip
        refine vI (vp_of (by first | (simp only [Int32.toInt_add, Int32.toInt_sub, Int32.toInt_mul, Int32.toInt_toInt64, Int64.toInt_add, z_m1, Int32.reduceToInt, Int64.reduceToInt, Int32.reduceToNatClampNeg, Int.bmod_def, or_true, true_or, and_true, true_and] <;> omega) | omega) (by first | (simp only [Int32.toInt_add, Int32.toInt_sub, Int32.toInt_mul, Int32.toInt_toInt64, Int64.toInt_add, z_m1, Int32.reduceToInt, Int64.reduceToInt, Int32.reduceToNatClampNeg, Int.bmod_def, or_true, true_or, and_true, true_and] <;> omega) | omega)) ?_
        refine vB (v_X8_gives) (fun e_133 f_133 q_133 => ?_)
        have k_133 : ∀ a j, ¬ WM_X8_applicant P a j → e_133.2 a j = M0 a j := fun a j h => (q_133 a j (by unfold WM_X8_gives; unfold WM_X8_applicant at h; omega)).trans (k_20 a j h)
        have n_133 : nA P e_133.2 = nA P e_20.2 := nA_congr (fun a j h => q_133 a j (by unfold WM_X8_gives; omega))
        have p_jS_133 : jS P e_133.2 := jS.mono p_jS_20 (fun a j h => q_133 a j (by unfold WM_X8_gives; omega))
        obtain ⟨u0_jS_133, u1_jS_133, u2_jS_133, u3_jS_133, u4_jS_133, u5_jS_133, u6_jS_133, u7_jS_133⟩ := jS.ints p_jS_133
        have p_jR_133 : jR P e_133.2 := jR.mono p_jR_20 (fun a j h => q_133 a j (by unfold WM_X8_gives; omega))
        have p_jK_133 : jK P e_133.2 := jK.mono p_jK_20 (fun a j h => q_133 a j (by unfold WM_X8_gives; omega))
        have p_jT_133 : jT P e_133.2 := jT.mono p_jT_20 (fun a j h => q_133 a j (by unfold WM_X8_gives; omega))
        obtain ⟨u0_jT_133, u1_jT_133, u2_jT_133, u3_jT_133, u4_jT_133, u5_jT_133⟩ := id p_jT_133
        have p_jB_133 : jB P e_133.2 := jB.mono x0_20 (fun a j h => q_133 a j (by unfold WM_X8_gives; omega))
        obtain ⟨u0_jB_133, u1_jB_133, u2_jB_133, u3_jB_133, u4_jB_133, u5_jB_133⟩ := id p_jB_133
        have p_jL_133 : jL P e_133.2 := jL.mono x1_20 (fun a j h => q_133 a j (by unfold WM_X8_gives; omega))
        have p_jH_133 : jH P e_133.2 := jH.mono x2_20 (fun a j h => q_133 a j (by unfold WM_X8_gives; omega))
        exact ⟨_, rfl, k_133, ⟨p_jB_133, p_jS_133, p_jR_133, p_jK_133, p_jT_133⟩⟩
      refine vI (vp_of (by first | (simp only [Int32.toInt_add, Int32.toInt_sub, Int32.toInt_mul, Int32.toInt_toInt64, Int64.toInt_add, z_m1, Int32.reduceToInt, Int64.reduceToInt, Int32.reduceToNatClampNeg, Int.bmod_def, or_true, true_or, and_true, true_and] <;> omega) | omega) (by first | (simp only [Int32.toInt_add, Int32.toInt_sub, Int32.toInt_mul, Int32.toInt_toInt64, Int64.toInt_add, z_m1, Int32.reduceToInt, Int64.reduceToInt, Int32.reduceToNatClampNeg, Int.bmod_def, or_true, true_or, and_true, true_and] <;> omega) | omega)) ?_
      refine vB (v_X8_gives) (fun e_144 f_144 q_144 => ?_)
      have k_144 : ∀ a j, ¬ WM_X8_applicant P a j → e_144.2 a j = M0 a j := fun a j h => (q_144 a j (by unfold WM_X8_gives; unfold WM_X8_applicant at h; omega)).trans (k_20 a j h)
      have n_144 : nA P e_144.2 = nA P e_20.2 := nA_congr (fun a j h => q_144 a j (by unfold WM_X8_gives; omega))
      have p_jS_144 : jS P e_144.2 := jS.mono p_jS_20 (fun a j h => q_144 a j (by unfold WM_X8_gives; omega))
      obtain ⟨u0_jS_144, u1_jS_144, u2_jS_144, u3_jS_144, u4_jS_144, u5_jS_144, u6_jS_144, u7_jS_144⟩ := jS.ints p_jS_144
      have p_jR_144 : jR P e_144.2 := jR.mono p_jR_20 (fun a j h => q_144 a j (by unfold WM_X8_gives; omega))
      have p_jK_144 : jK P e_144.2 := jK.mono p_jK_20 (fun a j h => q_144 a j (by unfold WM_X8_gives; omega))
      have p_jT_144 : jT P e_144.2 := jT.mono p_jT_20 (fun a j h => q_144 a j (by unfold WM_X8_gives; omega))
      obtain ⟨u0_jT_144, u1_jT_144, u2_jT_144, u3_jT_144, u4_jT_144, u5_jT_144⟩ := id p_jT_144
      have p_jB_144 : jB P e_144.2 := jB.mono x0_20 (fun a j h => q_144 a j (by unfold WM_X8_gives; omega))
      obtain ⟨u0_jB_144, u1_jB_144, u2_jB_144, u3_jB_144, u4_jB_144, u5_jB_144⟩ := id p_jB_144
      have p_jL_144 : jL P e_144.2 := jL.mono x1_20 (fun a j h => q_144 a j (by unfold WM_X8_gives; omega))
      have p_jH_144 : jH P e_144.2 := jH.mono x2_20 (fun a j h => q_144 a j (by unfold WM_X8_gives; omega))
      exact ⟨_, rfl, k_144, ⟨p_jB_144, p_jS_144, p_jR_144, p_jK_144, p_jT_144⟩⟩
def WM_X8_choice (P : Nat) (a j : Nat) : Prop := (P + 11 ≤ a ∧ a < P + 18) ∨ (a = P ∧ (j = 6 ∨ j = 12 ∨ j = 33))
set_option maxRecDepth 100000 in
set_option maxHeartbeats 4000000 in
theorem v_X8_choice {P : Nat} {v0 : Int32} {v1 : Int32} {M0 : zMt}  (p_jB : jB P M0) (p_jS : jS P M0) (p_jR : jR P M0) (p_jK : jK P M0) (p_jT : jT P M0) : ∃ r, D_X8_choice P v0 v1 M0 = some r ∧ ((∀ a j, ¬ WM_X8_choice P a j → r.2 a j = M0 a j) ∧ ((jB P r.2) ∧ (jS P r.2) ∧ (jR P r.2) ∧ (jK P r.2) ∧ (jT P r.2))) := by
  obtain ⟨u0_jB, u1_jB, u2_jB, u3_jB, u4_jB, u5_jB⟩ := id p_jB
  obtain ⟨u0_jS, u1_jS, u2_jS, u3_jS, u4_jS, u5_jS, u6_jS, u7_jS⟩ := jS.ints p_jS
  obtain ⟨u0_jT, u1_jT, u2_jT, u3_jT, u4_jT, u5_jT⟩ := id p_jT
  have T_51 : ∀ (y0_51 : Int32) (M_51 : zMt), (∀ a j, ¬ WM_X8_choice P a j → M_51 a j = M0 a j) → (jB P M_51) → (jH P M_51) → (jK P M_51) → (jL P M_51) → (jR P M_51) → (jS P M_51) → (jT P M_51) → ∃ r, D_X8_choice_51 P y0_51 M_51 = some r ∧ ((∀ a j, ¬ WM_X8_choice P a j → r.2 a j = M0 a j) ∧ ((jB P r.2) ∧ (jS P r.2) ∧ (jR P r.2) ∧ (jK P r.2) ∧ (jT P r.2))) := by
    intro y0_51 M_51 k_51 p_jB_51 p_jH_51 p_jK_51 p_jL_51 p_jR_51 p_jS_51 p_jT_51
    obtain ⟨u0_jB_51, u1_jB_51, u2_jB_51, u3_jB_51, u4_jB_51, u5_jB_51⟩ := id p_jB_51
    obtain ⟨u0_jS_51, u1_jS_51, u2_jS_51, u3_jS_51, u4_jS_51, u5_jS_51, u6_jS_51, u7_jS_51⟩ := jS.ints p_jS_51
    obtain ⟨u0_jT_51, u1_jT_51, u2_jT_51, u3_jT_51, u4_jT_51, u5_jT_51⟩ := id p_jT_51
    unfold D_X8_choice_51
    exact ⟨_, rfl, k_51, ⟨p_jB_51, p_jS_51, p_jR_51, p_jK_51, p_jT_51⟩⟩
  unfold D_X8_choice
  refine vIf (fun h_1 => ?_) (fun h_1 => ?_)
  · have i_1 := Int32.le_iff_toInt_le.mp h_1
    (try simp only [Int32.toInt_add, Int32.toInt_sub, Int32.toInt_mul, Int32.toInt_toInt64, Int64.toInt_add, z_m1, Int32.reduceToInt, Int64.reduceToInt, Int32.reduceToNatClampNeg, Int.bmod_def] at i_1)
    refine vB (v_X8_isApplicant p_jB p_jS) (fun e_12 f_12 q_12 => ?_)
    have k_12 : ∀ a j, ¬ WM_X8_choice P a j → e_12.2 a j = M0 a j := fun a j h => (q_12.1 a j (by unfold WM_X8_isApplicant; unfold WM_X8_choice at h; omega))
    have b_12 := q_12.2.1
    have n_12 : nA P e_12.2 = nA P M0 := nA_congr (fun a j h => q_12.1 a j (by unfold WM_X8_isApplicant; omega))
    have p_jS_12 : jS P e_12.2 := jS.mono p_jS (fun a j h => q_12.1 a j (by unfold WM_X8_isApplicant; omega))
    obtain ⟨u0_jS_12, u1_jS_12, u2_jS_12, u3_jS_12, u4_jS_12, u5_jS_12, u6_jS_12, u7_jS_12⟩ := jS.ints p_jS_12
    have p_jR_12 : jR P e_12.2 := jR.mono p_jR (fun a j h => q_12.1 a j (by unfold WM_X8_isApplicant; omega))
    have p_jK_12 : jK P e_12.2 := jK.mono p_jK (fun a j h => q_12.1 a j (by unfold WM_X8_isApplicant; omega))
    have p_jT_12 : jT P e_12.2 := jT.mono p_jT (fun a j h => q_12.1 a j (by unfold WM_X8_isApplicant; omega))
    obtain ⟨u0_jT_12, u1_jT_12, u2_jT_12, u3_jT_12, u4_jT_12, u5_jT_12⟩ := id p_jT_12
    obtain ⟨x0_12, x1_12, x2_12, x3_12, x4_12⟩ := q_12.2.2
    obtain ⟨u0_jB_12, u1_jB_12, u2_jB_12, u3_jB_12, u4_jB_12, u5_jB_12⟩ := id x0_12
    (try simp only [Int32.toInt_add, Int32.toInt_sub, Int32.toInt_mul, Int32.toInt_toInt64, Int64.toInt_add, z_m1, Int32.reduceToInt, Int64.reduceToInt, Int32.reduceToNatClampNeg, Int.bmod_def] at x3_12)
    (try simp only [Int32.toInt_add, Int32.toInt_sub, Int32.toInt_mul, Int32.toInt_toInt64, Int64.toInt_add, z_m1, Int32.reduceToInt, Int64.reduceToInt, Int32.reduceToNatClampNeg, Int.bmod_def] at x4_12)
    refine vIf (fun h_15 => ?_) (fun h_15 => ?_)
    · have i_15 := congrArg Int32.toInt h_15
      (try simp only [Int32.toInt_add, Int32.toInt_sub, Int32.toInt_mul, Int32.toInt_toInt64, Int64.toInt_add, z_m1, Int32.reduceToInt, Int64.reduceToInt, Int32.reduceToNatClampNeg, Int.bmod_def] at i_15)
      refine vB (v_X8_refuse) (fun e_20 f_20 q_20 => ?_)
      have k_20 : ∀ a j, ¬ WM_X8_choice P a j → e_20.2 a j = M0 a j := fun a j h => (q_20 a j (by unfold WM_X8_refuse; unfold WM_X8_choice at h; omega)).trans (k_12 a j h)
      have n_20 : nA P e_20.2 = nA P e_12.2 := nA_congr (fun a j h => q_20 a j (by unfold WM_X8_refuse; omega))
      have p_jS_20 : jS P e_20.2 := jS.mono p_jS_12 (fun a j h => q_20 a j (by unfold WM_X8_refuse; omega))
      obtain ⟨u0_jS_20, u1_jS_20, u2_jS_20, u3_jS_20, u4_jS_20, u5_jS_20, u6_jS_20, u7_jS_20⟩ := jS.ints p_jS_20
      have p_jR_20 : jR P e_20.2 := jR.mono p_jR_12 (fun a j h => q_20 a j (by unfold WM_X8_refuse; omega))
      have p_jK_20 : jK P e_20.2 := jK.mono p_jK_12 (fun a j h => q_20 a j (by unfold WM_X8_refuse; omega))
      have p_jT_20 : jT P e_20.2 := jT.mono p_jT_12 (fun a j h => q_20 a j (by unfold WM_X8_refuse; omega))
      obtain ⟨u0_jT_20, u1_jT_20, u2_jT_20, u3_jT_20, u4_jT_20, u5_jT_20⟩ := id p_jT_20
      have p_jB_20 : jB P e_20.2 := jB.mono x0_12 (fun a j h => q_20 a j (by unfold WM_X8_refuse; omega))
      obtain ⟨u0_jB_20, u1_jB_20, u2_jB_20, u3_jB_20, u4_jB_20, u5_jB_20⟩ := id p_jB_20
      have p_jL_20 : jL P e_20.2 := jL.mono x1_12 (fun a j h => q_20 a j (by unfold WM_X8_refuse; omega))
      have p_jH_20 : jH P e_20.2 := jH.mono x2_12 (fun a j h => q_20 a j (by unfold WM_X8_refuse; omega))
      exact ⟨_, rfl, k_20, ⟨p_jB_20, p_jS_20, p_jR_20, p_jK_20, p_jT_20⟩⟩
    · have i_15 : ¬ Int32.toInt e_12.1 = Int32.toInt (0 : Int32) := fun q => h_15 (Int32.toInt_inj.mp q)
      (try simp only [Int32.toInt_add, Int32.toInt_sub, Int32.toInt_mul, Int32.toInt_toInt64, Int64.toInt_add, z_m1, Int32.reduceToInt, Int64.reduceToInt, Int32.reduceToNatClampNeg, Int.bmod_def] at i_15)
      refine vB (v_X8_choiceMany x0_12 p_jS_12 x1_12 (by first | (simp only [Int32.toInt_add, Int32.toInt_sub, Int32.toInt_mul, Int32.toInt_toInt64, Int64.toInt_add, z_m1, Int32.reduceToInt, Int64.reduceToInt, Int32.reduceToNatClampNeg, Int.bmod_def, or_true, true_or, and_true, true_and] <;> omega) | omega) (by first | (simp only [Int32.toInt_add, Int32.toInt_sub, Int32.toInt_mul, Int32.toInt_toInt64, Int64.toInt_add, z_m1, Int32.reduceToInt, Int64.reduceToInt, Int32.reduceToNatClampNeg, Int.bmod_def, or_true, true_or, and_true, true_and] <;> omega) | omega)) (fun e_27 f_27 q_27 => ?_)
      obtain ⟨x0_27, x1_27⟩ := q_27
      (try simp only [Int32.toInt_add, Int32.toInt_sub, Int32.toInt_mul, Int32.toInt_toInt64, Int64.toInt_add, z_m1, Int32.reduceToInt, Int64.reduceToInt, Int32.reduceToNatClampNeg, Int.bmod_def] at x0_27)
      (try simp only [Int32.toInt_add, Int32.toInt_sub, Int32.toInt_mul, Int32.toInt_toInt64, Int64.toInt_add, z_m1, Int32.reduceToInt, Int64.reduceToInt, Int32.reduceToNatClampNeg, Int.bmod_def] at x1_27)
      refine vIf (fun h_30 => ?_) (fun h_30 => ?_)
      · have i_30 := Int32.le_iff_toInt_le.mp h_30
        (try simp only [Int32.toInt_add, Int32.toInt_sub, Int32.toInt_mul, Int32.toInt_toInt64, Int64.toInt_add, z_m1, Int32.reduceToInt, Int64.reduceToInt, Int32.reduceToNatClampNeg, Int.bmod_def] at i_30)
        refine vB (v_X8_refuse) (fun e_48 f_48 q_48 => ?_)
        have k_48 : ∀ a j, ¬ WM_X8_choice P a j → e_48.2 a j = M0 a j := fun a j h => (q_48 a j (by unfold WM_X8_refuse; unfold WM_X8_choice at h; omega)).trans (k_12 a j h)
        have n_48 : nA P e_48.2 = nA P e_12.2 := nA_congr (fun a j h => q_48 a j (by unfold WM_X8_refuse; omega))
        have p_jS_48 : jS P e_48.2 := jS.mono p_jS_12 (fun a j h => q_48 a j (by unfold WM_X8_refuse; omega))
        obtain ⟨u0_jS_48, u1_jS_48, u2_jS_48, u3_jS_48, u4_jS_48, u5_jS_48, u6_jS_48, u7_jS_48⟩ := jS.ints p_jS_48
        have p_jR_48 : jR P e_48.2 := jR.mono p_jR_12 (fun a j h => q_48 a j (by unfold WM_X8_refuse; omega))
        have p_jK_48 : jK P e_48.2 := jK.mono p_jK_12 (fun a j h => q_48 a j (by unfold WM_X8_refuse; omega))
        have p_jT_48 : jT P e_48.2 := jT.mono p_jT_12 (fun a j h => q_48 a j (by unfold WM_X8_refuse; omega))
        obtain ⟨u0_jT_48, u1_jT_48, u2_jT_48, u3_jT_48, u4_jT_48, u5_jT_48⟩ := id p_jT_48
        have p_jB_48 : jB P e_48.2 := jB.mono x0_12 (fun a j h => q_48 a j (by unfold WM_X8_refuse; omega))
        obtain ⟨u0_jB_48, u1_jB_48, u2_jB_48, u3_jB_48, u4_jB_48, u5_jB_48⟩ := id p_jB_48
        have p_jL_48 : jL P e_48.2 := jL.mono x1_12 (fun a j h => q_48 a j (by unfold WM_X8_refuse; omega))
        have p_jH_48 : jH P e_48.2 := jH.mono x2_12 (fun a j h => q_48 a j (by unfold WM_X8_refuse; omega))
        exact T_51 _ _ k_48 p_jB_48 p_jH_48 p_jK_48 p_jL_48 p_jR_48 p_jS_48 p_jT_48
      · have i_30 := Int32.lt_iff_toInt_lt.mp (Int32.not_le.mp h_30)
        (try simp only [Int32.toInt_add, Int32.toInt_sub, Int32.toInt_mul, Int32.toInt_toInt64, Int64.toInt_add, z_m1, Int32.reduceToInt, Int64.reduceToInt, Int32.reduceToNatClampNeg, Int.bmod_def] at i_30)
        refine vB (v_X8_choiceOf x0_12 p_jS_12 x1_12 (by first | (simp only [Int32.toInt_add, Int32.toInt_sub, Int32.toInt_mul, Int32.toInt_toInt64, Int64.toInt_add, z_m1, Int32.reduceToInt, Int64.reduceToInt, Int32.reduceToNatClampNeg, Int.bmod_def, or_true, true_or, and_true, true_and] <;> omega) | omega) (by first | (simp only [Int32.toInt_add, Int32.toInt_sub, Int32.toInt_mul, Int32.toInt_toInt64, Int64.toInt_add, z_m1, Int32.reduceToInt, Int64.reduceToInt, Int32.reduceToNatClampNeg, Int.bmod_def, or_true, true_or, and_true, true_and] <;> omega) | omega) (by first | (simp only [Int32.toInt_add, Int32.toInt_sub, Int32.toInt_mul, Int32.toInt_toInt64, Int64.toInt_add, z_m1, Int32.reduceToInt, Int64.reduceToInt, Int32.reduceToNatClampNeg, Int.bmod_def, or_true, true_or, and_true, true_and] <;> omega) | omega)) (fun e_37 f_37 q_37 => ?_)
        obtain ⟨x0_37, x1_37, x2_37⟩ := q_37
        (try simp only [Int32.toInt_add, Int32.toInt_sub, Int32.toInt_mul, Int32.toInt_toInt64, Int64.toInt_add, z_m1, Int32.reduceToInt, Int64.reduceToInt, Int32.reduceToNatClampNeg, Int.bmod_def] at x0_37)
        (try simp only [Int32.toInt_add, Int32.toInt_sub, Int32.toInt_mul, Int32.toInt_toInt64, Int64.toInt_add, z_m1, Int32.reduceToInt, Int64.reduceToInt, Int32.reduceToNatClampNeg, Int.bmod_def] at x1_37)
        (try simp only [Int32.toInt_add, Int32.toInt_sub, Int32.toInt_mul, Int32.toInt_toInt64, Int64.toInt_add, z_m1, Int32.reduceToInt, Int64.reduceToInt, Int32.reduceToNatClampNeg, Int.bmod_def] at x2_37)
        refine vB (v_X8_gives) (fun e_40 f_40 q_40 => ?_)
        have k_40 : ∀ a j, ¬ WM_X8_choice P a j → e_40.2 a j = M0 a j := fun a j h => (q_40 a j (by unfold WM_X8_gives; unfold WM_X8_choice at h; omega)).trans (k_12 a j h)
        have n_40 : nA P e_40.2 = nA P e_12.2 := nA_congr (fun a j h => q_40 a j (by unfold WM_X8_gives; omega))
        have p_jS_40 : jS P e_40.2 := jS.mono p_jS_12 (fun a j h => q_40 a j (by unfold WM_X8_gives; omega))
        obtain ⟨u0_jS_40, u1_jS_40, u2_jS_40, u3_jS_40, u4_jS_40, u5_jS_40, u6_jS_40, u7_jS_40⟩ := jS.ints p_jS_40
        have p_jR_40 : jR P e_40.2 := jR.mono p_jR_12 (fun a j h => q_40 a j (by unfold WM_X8_gives; omega))
        have p_jK_40 : jK P e_40.2 := jK.mono p_jK_12 (fun a j h => q_40 a j (by unfold WM_X8_gives; omega))
        have p_jT_40 : jT P e_40.2 := jT.mono p_jT_12 (fun a j h => q_40 a j (by unfold WM_X8_gives; omega))
        obtain ⟨u0_jT_40, u1_jT_40, u2_jT_40, u3_jT_40, u4_jT_40, u5_jT_40⟩ := id p_jT_40
        have p_jB_40 : jB P e_40.2 := jB.mono x0_12 (fun a j h => q_40 a j (by unfold WM_X8_gives; omega))
        obtain ⟨u0_jB_40, u1_jB_40, u2_jB_40, u3_jB_40, u4_jB_40, u5_jB_40⟩ := id p_jB_40
        have p_jL_40 : jL P e_40.2 := jL.mono x1_12 (fun a j h => q_40 a j (by unfold WM_X8_gives; omega))
        have p_jH_40 : jH P e_40.2 := jH.mono x2_12 (fun a j h => q_40 a j (by unfold WM_X8_gives; omega))
        exact T_51 _ _ k_40 p_jB_40 p_jH_40 p_jK_40 p_jL_40 p_jR_40 p_jS_40 p_jT_40
  · have i_1 := Int32.lt_iff_toInt_lt.mp (Int32.not_le.mp h_1)
    (try simp only [Int32.toInt_add, Int32.toInt_sub, Int32.toInt_mul, Int32.toInt_toInt64, Int64.toInt_add, z_m1, Int32.reduceToInt, Int64.reduceToInt, Int32.reduceToNatClampNeg, Int.bmod_def] at i_1)
    refine vB (v_X8_refuse) (fun e_6 f_6 q_6 => ?_)
    have k_6 : ∀ a j, ¬ WM_X8_choice P a j → e_6.2 a j = M0 a j := fun a j h => (q_6 a j (by unfold WM_X8_refuse; unfold WM_X8_choice at h; omega))
    have n_6 : nA P e_6.2 = nA P M0 := nA_congr (fun a j h => q_6 a j (by unfold WM_X8_refuse; omega))
    have p_jB_6 : jB P e_6.2 := jB.mono p_jB (fun a j h => q_6 a j (by unfold WM_X8_refuse; omega))
    obtain ⟨u0_jB_6, u1_jB_6, u2_jB_6, u3_jB_6, u4_jB_6, u5_jB_6⟩ := id p_jB_6
    have p_jS_6 : jS P e_6.2 := jS.mono p_jS (fun a j h => q_6 a j (by unfold WM_X8_refuse; omega))
    obtain ⟨u0_jS_6, u1_jS_6, u2_jS_6, u3_jS_6, u4_jS_6, u5_jS_6, u6_jS_6, u7_jS_6⟩ := jS.ints p_jS_6
    have p_jR_6 : jR P e_6.2 := jR.mono p_jR (fun a j h => q_6 a j (by unfold WM_X8_refuse; omega))
    have p_jK_6 : jK P e_6.2 := jK.mono p_jK (fun a j h => q_6 a j (by unfold WM_X8_refuse; omega))
    have p_jT_6 : jT P e_6.2 := jT.mono p_jT (fun a j h => q_6 a j (by unfold WM_X8_refuse; omega))
    obtain ⟨u0_jT_6, u1_jT_6, u2_jT_6, u3_jT_6, u4_jT_6, u5_jT_6⟩ := id p_jT_6
    exact ⟨_, rfl, k_6, ⟨p_jB_6, p_jS_6, p_jR_6, p_jK_6, p_jT_6⟩⟩
