def WM_X8_putsAside (P : Nat) (a j : Nat) : Prop := (P + 3 ≤ a ∧ a < P + 4)
theorem v_X8_putsAside {P : Nat} {M0 : zMt} (p_jB : jB P M0) (p_jS : jS P M0) : ∃ r, D_X8_putsAside P M0 = some r ∧ ((∀ a j, ¬ WM_X8_putsAside P a j → r a j = M0 a j) ∧ (jA P r)) := by
  have L : ∀ (u k : Nat) (M : zMt), k ≤ 82 → 82 - k < u → (∀ a j, ¬ WM_X8_putsAside P a j → M a j = M0 a j) → (∀ j, j < k → M (P + 3) j = M0 (P + 1) j) → ∃ r, D_X8_putsAside_2 P u (nI k) M = some r ∧ ((∀ a j, ¬ WM_X8_putsAside P a j → r a j = M0 a j) ∧ (∀ j, j < 82 → r (P + 3) j = M0 (P + 1) j)) := by
    intro u
    induction u with
    | zero => intro k M h1 h2; omega
    | succ u ih =>
      intro k M hk hu kk hc
      rw [D_X8_putsAside_2]
      refine vIf (fun h => ?_) (fun h => ?_)
      · have : 82 ≤ k := (nI_leI (by decide) (by omega)).mp h
        exact ⟨_, rfl, kk, fun j hj => hc j (by omega)⟩
      · have hlt : k < 82 := Nat.not_le.mp (fun q => h ((nI_leI (by decide) (by omega)).mpr q))
        have hck : (nI k).toNatClampNeg = k := nI_clamp (by omega)
        refine vI (vp_in_nI hlt (by decide)) (vI (vp_in_nI hlt (by decide)) ?_)
        rw [hck]
        refine vLm (W := WM_X8_putsAside P) (fun a j h => (zu_ne (by unfold WM_X8_putsAside at h; omega)).trans (kk a j h)) (fun M2 f2 k2 => ?_)
        rw [nI_1]
        refine ih (k + 1) M2 (by omega) (by omega) k2 (fun j hj => ?_)
        by_cases q : j = k
        · subst q
          rw [← f2, zu_eq]
          exact kk (P + 1) j (by unfold WM_X8_putsAside; omega)
        · rw [← f2, zu_ne (by omega)]
          exact hc j (by omega)
  unfold D_X8_putsAside
  obtain ⟨r, h1, h2, h3⟩ := L zFu 0 M0 (by omega) (by unfold zFu; omega) (fun _ _ _ => rfl) (fun j hj => absurd hj (Nat.not_lt_zero j))
  refine ⟨r, h1, h2, ?_⟩
  unfold jA
  rw [h2 P 7 (by unfold WM_X8_putsAside; omega), h2 P 8 (by unfold WM_X8_putsAside; omega)]
  exact jRow.congr p_jS p_jB.2.2.2.1 h3
def WM_X8_takesBack (P : Nat) (a j : Nat) : Prop := (P + 1 ≤ a ∧ a < P + 2)
theorem v_X8_takesBack {P : Nat} {M0 : zMt} (p_jB : jB P M0) (p_jA : jA P M0) : ∃ r, D_X8_takesBack P M0 = some r ∧ ((∀ a j, ¬ WM_X8_takesBack P a j → r a j = M0 a j) ∧ (jS P r)) := by
  have L : ∀ (u k : Nat) (M : zMt), k ≤ 82 → 82 - k < u → (∀ a j, ¬ WM_X8_takesBack P a j → M a j = M0 a j) → (∀ j, j < k → M (P + 1) j = M0 (P + 3) j) → ∃ r, D_X8_takesBack_2 P u (nI k) M = some r ∧ ((∀ a j, ¬ WM_X8_takesBack P a j → r a j = M0 a j) ∧ (∀ j, j < 82 → r (P + 1) j = M0 (P + 3) j)) := by
    intro u
    induction u with
    | zero => intro k M h1 h2; omega
    | succ u ih =>
      intro k M hk hu kk hc
      rw [D_X8_takesBack_2]
      refine vIf (fun h => ?_) (fun h => ?_)
      · have : 82 ≤ k := (nI_leI (by decide) (by omega)).mp h
        exact ⟨_, rfl, kk, fun j hj => hc j (by omega)⟩
      · have hlt : k < 82 := Nat.not_le.mp (fun q => h ((nI_leI (by decide) (by omega)).mpr q))
        have hck : (nI k).toNatClampNeg = k := nI_clamp (by omega)
        refine vI (vp_in_nI hlt (by decide)) (vI (vp_in_nI hlt (by decide)) ?_)
        rw [hck]
        refine vLm (W := WM_X8_takesBack P) (fun a j h => (zu_ne (by unfold WM_X8_takesBack at h; omega)).trans (kk a j h)) (fun M2 f2 k2 => ?_)
        rw [nI_1]
        refine ih (k + 1) M2 (by omega) (by omega) k2 (fun j hj => ?_)
        by_cases q : j = k
        · subst q
          rw [← f2, zu_eq]
          exact kk (P + 3) j (by unfold WM_X8_takesBack; omega)
        · rw [← f2, zu_ne (by omega)]
          exact hc j (by omega)
  unfold D_X8_takesBack
  obtain ⟨r, h1, h2, h3⟩ := L zFu 0 M0 (by omega) (by unfold zFu; omega) (fun _ _ _ => rfl) (fun j hj => absurd hj (Nat.not_lt_zero j))
  refine ⟨r, h1, h2, ?_⟩
  unfold jS
  rw [h2 P 7 (by unfold WM_X8_takesBack; omega), h2 P 8 (by unfold WM_X8_takesBack; omega)]
  exact jRow.congr p_jA p_jB.2.2.2.1 h3
def WM_X8_need (P : Nat) (a j : Nat) : Prop := (P + 1 ≤ a ∧ a < P + 2) ∨ (P + 3 ≤ a ∧ a < P + 4) ∨ (P + 11 ≤ a ∧ a < P + 23) ∨ (P + 29 ≤ a ∧ a < P + 30) ∨ (a = P ∧ (j = 6 ∨ j = 12 ∨ j = 33 ∨ j = 54 ∨ j = 55 ∨ j = 56 ∨ j = 57))
def WN_X8_need (P : Nat) (a j : Nat) : Prop := (P + 24 ≤ a ∧ a < P + 29) ∨ (a = P ∧ (j = 59))
theorem wz_M_X8_takesBack_X8_need {P a j : Nat} (h : ¬ WM_X8_need P a j) : ¬ WM_X8_takesBack P a j := by unfold WM_X8_takesBack; unfold WM_X8_need at h; omega
theorem wc_X8_takesBack_7 {P : Nat} : ¬ WM_X8_takesBack P P 7 := by unfold WM_X8_takesBack; omega
theorem wc_X8_takesBack_8 {P : Nat} : ¬ WM_X8_takesBack P P 8 := by unfold WM_X8_takesBack; omega
theorem wc_X8_takesBack_33 {P : Nat} : ¬ WM_X8_takesBack P P 33 := by unfold WM_X8_takesBack; omega
theorem wf_jA_X8_takesBack {P a j : Nat} (h : (a = P + 3 ∨ (a = P ∧ (j = 7 ∨ j = 8)))) : ¬ WM_X8_takesBack P a j := by unfold WM_X8_takesBack; omega
theorem wf_jB_X8_takesBack {P a j : Nat} (h : (a = P ∧ (j = 7 ∨ j = 8 ∨ j = 33))) : ¬ WM_X8_takesBack P a j := by unfold WM_X8_takesBack; omega
theorem wf_jH_X8_takesBack {P a j : Nat} (h : ((a = P ∧ (j = 8 ∨ j = 33)) ∨ a = P + 11)) : ¬ WM_X8_takesBack P a j := by unfold WM_X8_takesBack; omega
theorem wf_jK_X8_takesBack {P a j : Nat} (h : ((a = P ∧ (j = 7 ∨ j = 8 ∨ j = 9)) ∨ a = P + 4)) : ¬ WM_X8_takesBack P a j := by unfold WM_X8_takesBack; omega
theorem wf_jL_X8_takesBack {P a j : Nat} (h : ((a = P ∧ j = 33) ∨ a = P + 13 ∨ a = P + 14 ∨ a = P + 17)) : ¬ WM_X8_takesBack P a j := by unfold WM_X8_takesBack; omega
theorem wf_jR_X8_takesBack {P a j : Nat} (h : a = P + 19) : ¬ WM_X8_takesBack P a j := by unfold WM_X8_takesBack; omega
theorem wf_jT_X8_takesBack {P a j : Nat} (h : (a = P ∧ (j = 9 ∨ j = 11 ∨ j = 64))) : ¬ WM_X8_takesBack P a j := by unfold WM_X8_takesBack; omega
theorem wz_M_X8_refuse_X8_need {P a j : Nat} (h : ¬ WM_X8_need P a j) : ¬ WM_X8_refuse P a j := by unfold WM_X8_refuse; unfold WM_X8_need at h; omega
theorem wf_jA_X8_refuse {P a j : Nat} (h : (a = P + 3 ∨ (a = P ∧ (j = 7 ∨ j = 8)))) : ¬ WM_X8_refuse P a j := by unfold WM_X8_refuse; omega
theorem wz_M_X8_gives_X8_need {P a j : Nat} (h : ¬ WM_X8_need P a j) : ¬ WM_X8_gives P a j := by unfold WM_X8_gives; unfold WM_X8_need at h; omega
theorem wf_jA_X8_gives {P a j : Nat} (h : (a = P + 3 ∨ (a = P ∧ (j = 7 ∨ j = 8)))) : ¬ WM_X8_gives P a j := by unfold WM_X8_gives; omega
theorem wq_X8_need_M1_r {P a j : Nat} (h : ¬ WM_X8_need P a j) : ¬ a = P + 1 := by unfold WM_X8_need at h; omega
theorem wf_jA_M1_r {P a j : Nat} (h : (a = P + 3 ∨ (a = P ∧ (j = 7 ∨ j = 8)))) : ¬ a = P + 1 := by omega
theorem wf_jB_M1_r {P a j : Nat} (h : (a = P ∧ (j = 7 ∨ j = 8 ∨ j = 33))) : ¬ a = P + 1 := by omega
theorem wf_jH_M1_r {P a j : Nat} (h : ((a = P ∧ (j = 8 ∨ j = 33)) ∨ a = P + 11)) : ¬ a = P + 1 := by omega
theorem wf_jK_M1_r {P a j : Nat} (h : ((a = P ∧ (j = 7 ∨ j = 8 ∨ j = 9)) ∨ a = P + 4)) : ¬ a = P + 1 := by omega
theorem wf_jL_M1_r {P a j : Nat} (h : ((a = P ∧ j = 33) ∨ a = P + 13 ∨ a = P + 14 ∨ a = P + 17)) : ¬ a = P + 1 := by omega
theorem wf_jR_M1_r {P a : Nat} (h : a = P + 19) : ¬ a = P + 1 := by omega
theorem wf_jT_M1_r {P a j : Nat} (h : (a = P ∧ (j = 9 ∨ j = 11 ∨ j = 64))) : ¬ a = P + 1 := by omega
theorem wz_M_X8_laysAll_X8_need {P a j : Nat} (h : ¬ WM_X8_need P a j) : ¬ WM_X8_laysAll P a j := by unfold WM_X8_laysAll; unfold WM_X8_need at h; omega
theorem wz_N_X8_laysAll_X8_need {P a j : Nat} (h : ¬ WN_X8_need P a j) : ¬ WN_X8_laysAll P a j := by unfold WN_X8_laysAll; unfold WN_X8_need at h; omega
theorem wf_jA_X8_laysAll {P a j : Nat} (h : (a = P + 3 ∨ (a = P ∧ (j = 7 ∨ j = 8)))) : ¬ WM_X8_laysAll P a j := by unfold WM_X8_laysAll; omega
theorem wz_M_X8_areMany_X8_need {P a j : Nat} (h : ¬ WM_X8_need P a j) : ¬ WM_X8_areMany P a j := by unfold WM_X8_areMany; unfold WM_X8_need at h; omega
theorem wz_M_X8_applicantOf_X8_need {P a j : Nat} (h : ¬ WM_X8_need P a j) : ¬ WM_X8_applicantOf P a j := by unfold WM_X8_applicantOf; unfold WM_X8_need at h; omega
theorem wz_M_X8_putsAside_X8_need {P a j : Nat} (h : ¬ WM_X8_need P a j) : ¬ WM_X8_putsAside P a j := by unfold WM_X8_putsAside; unfold WM_X8_need at h; omega
theorem wc_X8_putsAside_7 {P : Nat} : ¬ WM_X8_putsAside P P 7 := by unfold WM_X8_putsAside; omega
theorem wc_X8_putsAside_8 {P : Nat} : ¬ WM_X8_putsAside P P 8 := by unfold WM_X8_putsAside; omega
theorem wc_X8_putsAside_33 {P : Nat} : ¬ WM_X8_putsAside P P 33 := by unfold WM_X8_putsAside; omega
theorem wf_nA_X8_putsAside {P a j : Nat} (h : (a = P + 1 ∨ (a = P ∧ j = 8))) : ¬ WM_X8_putsAside P a j := by unfold WM_X8_putsAside; omega
theorem wf_jS_X8_putsAside {P a j : Nat} (h : (a = P + 1 ∨ (a = P ∧ (j = 7 ∨ j = 8)))) : ¬ WM_X8_putsAside P a j := by unfold WM_X8_putsAside; omega
theorem wf_jR_X8_putsAside {P a j : Nat} (h : a = P + 19) : ¬ WM_X8_putsAside P a j := by unfold WM_X8_putsAside; omega
theorem wf_jK_X8_putsAside {P a j : Nat} (h : ((a = P ∧ (j = 7 ∨ j = 8 ∨ j = 9)) ∨ a = P + 4)) : ¬ WM_X8_putsAside P a j := by unfold WM_X8_putsAside; omega
theorem wf_jT_X8_putsAside {P a j : Nat} (h : (a = P ∧ (j = 9 ∨ j = 11 ∨ j = 64))) : ¬ WM_X8_putsAside P a j := by unfold WM_X8_putsAside; omega
theorem wf_jB_X8_putsAside {P a j : Nat} (h : (a = P ∧ (j = 7 ∨ j = 8 ∨ j = 33))) : ¬ WM_X8_putsAside P a j := by unfold WM_X8_putsAside; omega
theorem wf_jL_X8_putsAside {P a j : Nat} (h : ((a = P ∧ j = 33) ∨ a = P + 13 ∨ a = P + 14 ∨ a = P + 17)) : ¬ WM_X8_putsAside P a j := by unfold WM_X8_putsAside; omega
theorem wf_jH_X8_putsAside {P a j : Nat} (h : ((a = P ∧ (j = 8 ∨ j = 33)) ∨ a = P + 11)) : ¬ WM_X8_putsAside P a j := by unfold WM_X8_putsAside; omega
set_option maxRecDepth 100000 in
set_option maxHeartbeats 4000000 in
theorem v_X8_need {P : Nat} {v0 : Int32} {v1 : Int32} {M0 : zMt} {N0 : zNt}  (p_jB : jB P M0) (p_jS : jS P M0) (p_jR : jR P M0) (p_jK : jK P M0) (p_jT : jT P M0) : ∃ r, D_X8_need P v0 v1 M0 N0 = some r ∧ ((∀ a j, ¬ WM_X8_need P a j → r.2.1 a j = M0 a j) ∧ (∀ a j, ¬ WN_X8_need P a j → r.2.2 a j = N0 a j) ∧ ((jB P r.2.1) ∧ (jS P r.2.1) ∧ (jR P r.2.1) ∧ (jK P r.2.1) ∧ (jT P r.2.1))) := by
  obtain ⟨u0_jB, u1_jB, u2_jB, u3_jB, u4_jB, u5_jB⟩ := id p_jB
  obtain ⟨u0_jS, u1_jS, u2_jS, u3_jS, u4_jS, u5_jS, u6_jS, u7_jS⟩ := jS.ints p_jS
  obtain ⟨u0_jT, u1_jT, u2_jT, u3_jT, u4_jT, u5_jT⟩ := id p_jT
  have T_161 : ∀ (y0_161 : Int32) (M_161 : zMt) (N_161 : zNt), (∀ a j, ¬ WM_X8_need P a j → M_161 a j = M0 a j) → (∀ a j, ¬ WN_X8_need P a j → N_161 a j = N0 a j) → (jA P M_161) → (jB P M_161) → (jH P M_161) → (jK P M_161) → (jL P M_161) → (jR P M_161) → (jS P M_161) → (jT P M_161) → ∃ r, D_X8_need_161 P y0_161 M_161 N_161 = some r ∧ ((∀ a j, ¬ WM_X8_need P a j → r.2.1 a j = M0 a j) ∧ (∀ a j, ¬ WN_X8_need P a j → r.2.2 a j = N0 a j) ∧ ((jB P r.2.1) ∧ (jS P r.2.1) ∧ (jR P r.2.1) ∧ (jK P r.2.1) ∧ (jT P r.2.1))) := by
    intro y0_161 M_161 N_161 k_161 kn_161 p_jA_161 p_jB_161 p_jH_161 p_jK_161 p_jL_161 p_jR_161 p_jS_161 p_jT_161
    obtain ⟨u0_jB_161, u1_jB_161, u2_jB_161, u3_jB_161, u4_jB_161, u5_jB_161⟩ := id p_jB_161
    obtain ⟨u0_jS_161, u1_jS_161, u2_jS_161, u3_jS_161, u4_jS_161, u5_jS_161, u6_jS_161, u7_jS_161⟩ := jS.ints p_jS_161
    obtain ⟨u0_jT_161, u1_jT_161, u2_jT_161, u3_jT_161, u4_jT_161, u5_jT_161⟩ := id p_jT_161
    unfold D_X8_need_161
    exact ⟨_, rfl, k_161, kn_161, ⟨p_jB_161, p_jS_161, p_jR_161, p_jK_161, p_jT_161⟩⟩
  have T_137 : ∀ (x4_137 : Int32) (M_137 : zMt) (N_137 : zNt), (∀ a j, ¬ WM_X8_need P a j → M_137 a j = M0 a j) → (∀ a j, ¬ WN_X8_need P a j → N_137 a j = N0 a j) → (jA P M_137) → (jB P M_137) → (jH P M_137) → (jK P M_137) → (jL P M_137) → (jR P M_137) → (jS P M_137) → (jT P M_137) → ∃ r, D_X8_need_137 P x4_137 M_137 N_137 = some r ∧ ((∀ a j, ¬ WM_X8_need P a j → r.2.1 a j = M0 a j) ∧ (∀ a j, ¬ WN_X8_need P a j → r.2.2 a j = N0 a j) ∧ ((jB P r.2.1) ∧ (jS P r.2.1) ∧ (jR P r.2.1) ∧ (jK P r.2.1) ∧ (jT P r.2.1))) := by
    intro x4_137 M_137 N_137 k_137 kn_137 p_jA_137 p_jB_137 p_jH_137 p_jK_137 p_jL_137 p_jR_137 p_jS_137 p_jT_137
    obtain ⟨u0_jB_137, u1_jB_137, u2_jB_137, u3_jB_137, u4_jB_137, u5_jB_137⟩ := id p_jB_137
    obtain ⟨u0_jS_137, u1_jS_137, u2_jS_137, u3_jS_137, u4_jS_137, u5_jS_137, u6_jS_137, u7_jS_137⟩ := jS.ints p_jS_137
    obtain ⟨u0_jT_137, u1_jT_137, u2_jT_137, u3_jT_137, u4_jT_137, u5_jT_137⟩ := id p_jT_137
    unfold D_X8_need_137
    refine vB (v_X8_takesBack p_jB_137 p_jA_137) (fun e_138 f_138 q_138 => ?_)
    have k_138 : ∀ a j, ¬ WM_X8_need P a j → e_138 a j = M0 a j := fun a j h => (q_138.1 a j (wz_M_X8_takesBack_X8_need h)).trans (k_137 a j h)
    have c7_138 : Int32.toInt (e_138 P 7) = Int32.toInt (M_137 P 7) := congrArg Int32.toInt (q_138.1 P 7 (wc_X8_takesBack_7))
    have c8_138 : Int32.toInt (e_138 P 8) = Int32.toInt (M_137 P 8) := congrArg Int32.toInt (q_138.1 P 8 (wc_X8_takesBack_8))
    have c33_138 : Int32.toInt (e_138 P 33) = Int32.toInt (M_137 P 33) := congrArg Int32.toInt (q_138.1 P 33 (wc_X8_takesBack_33))
    have p_jA_138 : jA P e_138 := jA.mono p_jA_137 (fun a j h => q_138.1 a j (wf_jA_X8_takesBack h))
    have p_jB_138 : jB P e_138 := jB.mono p_jB_137 (fun a j h => q_138.1 a j (wf_jB_X8_takesBack h))
    obtain ⟨u0_jB_138, u1_jB_138, u2_jB_138, u3_jB_138, u4_jB_138, u5_jB_138⟩ := id p_jB_138
    have p_jH_138 : jH P e_138 := jH.mono p_jH_137 (fun a j h => q_138.1 a j (wf_jH_X8_takesBack h))
    have p_jK_138 : jK P e_138 := jK.mono p_jK_137 (fun a j h => q_138.1 a j (wf_jK_X8_takesBack h))
    have p_jL_138 : jL P e_138 := jL.mono p_jL_137 (fun a j h => q_138.1 a j (wf_jL_X8_takesBack h))
    have p_jR_138 : jR P e_138 := jR.mono p_jR_137 (fun a j h => q_138.1 a j (wf_jR_X8_takesBack h))
    have p_jT_138 : jT P e_138 := jT.mono p_jT_137 (fun a j h => q_138.1 a j (wf_jT_X8_takesBack h))
    obtain ⟨u0_jT_138, u1_jT_138, u2_jT_138, u3_jT_138, u4_jT_138, u5_jT_138⟩ := id p_jT_138
    have x0_138 := q_138.2
    obtain ⟨u0_jS_138, u1_jS_138, u2_jS_138, u3_jS_138, u4_jS_138, u5_jS_138, u6_jS_138, u7_jS_138⟩ := jS.ints x0_138
    refine vIf (fun h_144 => ?_) (fun h_144 => ?_)
    · have i_144 := congrArg Int32.toInt h_144
      (try simp only [Int32.toInt_add, Int32.toInt_sub, Int32.toInt_mul, Int32.toInt_toInt64, Int64.toInt_add, z_m1, Int32.reduceToInt, Int64.reduceToInt, Int32.reduceToNatClampNeg, Int.bmod_def] at i_144)
      refine vB (v_X8_refuse) (fun e_149 f_149 q_149 => ?_)
      have k_149 : ∀ a j, ¬ WM_X8_need P a j → e_149.2 a j = M0 a j := fun a j h => (q_149 a j (wz_M_X8_refuse_X8_need h)).trans (k_138 a j h)
      have c7_149 : Int32.toInt (e_149.2 P 7) = Int32.toInt (e_138 P 7) := congrArg Int32.toInt (q_149 P 7 (wc_X8_refuse_7))
      have c8_149 : Int32.toInt (e_149.2 P 8) = Int32.toInt (e_138 P 8) := congrArg Int32.toInt (q_149 P 8 (wc_X8_refuse_8))
      have c33_149 : Int32.toInt (e_149.2 P 33) = Int32.toInt (e_138 P 33) := congrArg Int32.toInt (q_149 P 33 (wc_X8_refuse_33))
      have n_149 : nA P e_149.2 = nA P e_138 := nA_congr (fun a j h => q_149 a j (wf_nA_X8_refuse h))
      have p_jA_149 : jA P e_149.2 := jA.mono p_jA_138 (fun a j h => q_149 a j (wf_jA_X8_refuse h))
      have p_jB_149 : jB P e_149.2 := jB.mono p_jB_138 (fun a j h => q_149 a j (wf_jB_X8_refuse h))
      obtain ⟨u0_jB_149, u1_jB_149, u2_jB_149, u3_jB_149, u4_jB_149, u5_jB_149⟩ := id p_jB_149
      have p_jH_149 : jH P e_149.2 := jH.mono p_jH_138 (fun a j h => q_149 a j (wf_jH_X8_refuse h))
      have p_jK_149 : jK P e_149.2 := jK.mono p_jK_138 (fun a j h => q_149 a j (wf_jK_X8_refuse h))
      have p_jL_149 : jL P e_149.2 := jL.mono p_jL_138 (fun a j h => q_149 a j (wf_jL_X8_refuse h))
      have p_jR_149 : jR P e_149.2 := jR.mono p_jR_138 (fun a j h => q_149 a j (wf_jR_X8_refuse h))
      have p_jT_149 : jT P e_149.2 := jT.mono p_jT_138 (fun a j h => q_149 a j (wf_jT_X8_refuse h))
      obtain ⟨u0_jT_149, u1_jT_149, u2_jT_149, u3_jT_149, u4_jT_149, u5_jT_149⟩ := id p_jT_149
      have p_jS_149 : jS P e_149.2 := jS.mono x0_138 (fun a j h => q_149 a j (wf_jS_X8_refuse h))
      obtain ⟨u0_jS_149, u1_jS_149, u2_jS_149, u3_jS_149, u4_jS_149, u5_jS_149, u6_jS_149, u7_jS_149⟩ := jS.ints p_jS_149
      exact T_161 _ _ _ k_149 kn_137 p_jA_149 p_jB_149 p_jH_149 p_jK_149 p_jL_149 p_jR_149 p_jS_149 p_jT_149
    · have i_144 : ¬ Int32.toInt x4_137 = Int32.toInt (-1 : Int32) := fun q => h_144 (Int32.toInt_inj.mp q)
      (try simp only [Int32.toInt_add, Int32.toInt_sub, Int32.toInt_mul, Int32.toInt_toInt64, Int64.toInt_add, z_m1, Int32.reduceToInt, Int64.reduceToInt, Int32.reduceToNatClampNeg, Int.bmod_def] at i_144)
      refine vB (v_X8_gives) (fun e_158 f_158 q_158 => ?_)
      have k_158 : ∀ a j, ¬ WM_X8_need P a j → e_158.2 a j = M0 a j := fun a j h => (q_158 a j (wz_M_X8_gives_X8_need h)).trans (k_138 a j h)
      have c7_158 : Int32.toInt (e_158.2 P 7) = Int32.toInt (e_138 P 7) := congrArg Int32.toInt (q_158 P 7 (wc_X8_gives_7))
      have c8_158 : Int32.toInt (e_158.2 P 8) = Int32.toInt (e_138 P 8) := congrArg Int32.toInt (q_158 P 8 (wc_X8_gives_8))
      have c33_158 : Int32.toInt (e_158.2 P 33) = Int32.toInt (e_138 P 33) := congrArg Int32.toInt (q_158 P 33 (wc_X8_gives_33))
      have n_158 : nA P e_158.2 = nA P e_138 := nA_congr (fun a j h => q_158 a j (wf_nA_X8_gives h))
      have p_jA_158 : jA P e_158.2 := jA.mono p_jA_138 (fun a j h => q_158 a j (wf_jA_X8_gives h))
      have p_jB_158 : jB P e_158.2 := jB.mono p_jB_138 (fun a j h => q_158 a j (wf_jB_X8_gives h))
      obtain ⟨u0_jB_158, u1_jB_158, u2_jB_158, u3_jB_158, u4_jB_158, u5_jB_158⟩ := id p_jB_158
      have p_jH_158 : jH P e_158.2 := jH.mono p_jH_138 (fun a j h => q_158 a j (wf_jH_X8_gives h))
      have p_jK_158 : jK P e_158.2 := jK.mono p_jK_138 (fun a j h => q_158 a j (wf_jK_X8_gives h))
      have p_jL_158 : jL P e_158.2 := jL.mono p_jL_138 (fun a j h => q_158 a j (wf_jL_X8_gives h))
      have p_jR_158 : jR P e_158.2 := jR.mono p_jR_138 (fun a j h => q_158 a j (wf_jR_X8_gives h))
      have p_jT_158 : jT P e_158.2 := jT.mono p_jT_138 (fun a j h => q_158 a j (wf_jT_X8_gives h))
      obtain ⟨u0_jT_158, u1_jT_158, u2_jT_158, u3_jT_158, u4_jT_158, u5_jT_158⟩ := id p_jT_158
      have p_jS_158 : jS P e_158.2 := jS.mono x0_138 (fun a j h => q_158 a j (wf_jS_X8_gives h))
      obtain ⟨u0_jS_158, u1_jS_158, u2_jS_158, u3_jS_158, u4_jS_158, u5_jS_158, u6_jS_158, u7_jS_158⟩ := jS.ints p_jS_158
      exact T_161 _ _ _ k_158 kn_137 p_jA_158 p_jB_158 p_jH_158 p_jK_158 p_jL_158 p_jR_158 p_jS_158 p_jT_158
  have TL_81 : ∀ u : Nat, ∀ (x1_81 : Int32) (x2_81 : Int32) (x3_81 : Int32) (x4_81 : Int32) (x5_81 : Int32) (M_81 : zMt) (N_81 : zNt), (∀ a j, ¬ WM_X8_need P a j → M_81 a j = M0 a j) → (∀ a j, ¬ WN_X8_need P a j → N_81 a j = N0 a j) → (jA P M_81) → (jB P M_81) → (jH P M_81) → (jK P M_81) → (jL P M_81) → (jR P M_81) → (jS P M_81) → (jT P M_81) → (0 ≤ Int32.toInt x5_81) → (0 ≤ Int32.toInt x1_81 ∧ Int32.toInt x1_81 < Int32.toInt (M_81 P 8)) → (0 ≤ Int32.toInt x3_81 ∧ Int32.toInt x3_81 < nA P M_81) → (nA P M_81 ≤ 7) → (Int32.toInt x5_81 ≤ 21) → (2147483648 - Int32.toInt x5_81).toNat < u → ∃ r, D_X8_need_81 P u x1_81 x2_81 x3_81 x4_81 x5_81 M_81 N_81 = some r ∧ ((∀ a j, ¬ WM_X8_need P a j → r.2.1 a j = M0 a j) ∧ (∀ a j, ¬ WN_X8_need P a j → r.2.2 a j = N0 a j) ∧ ((jB P r.2.1) ∧ (jS P r.2.1) ∧ (jR P r.2.1) ∧ (jK P r.2.1) ∧ (jT P r.2.1))) := by
    intro u
    induction u with
    | zero => intro x1_81 x2_81 x3_81 x4_81 x5_81 M_81 N_81 k_81 kn_81 p_jA_81 p_jB_81 p_jH_81 p_jK_81 p_jL_81 p_jR_81 p_jS_81 p_jT_81 f0_81 f1_81 f2_81 f3_81 f4_81 hm_81; exact absurd hm_81 (Nat.not_lt_zero _)
    | succ u_81 ih_81 =>
      have T_129 : ∀ (x1_129 : Int32) (x2_129 : Int32) (x3_129 : Int32) (x5_129 : Int32) (y0_129 : Int32) (M_129 : zMt) (N_129 : zNt), (∀ a j, ¬ WM_X8_need P a j → M_129 a j = M0 a j) → (∀ a j, ¬ WN_X8_need P a j → N_129 a j = N0 a j) → (jA P M_129) → (jB P M_129) → (jH P M_129) → (jK P M_129) → (jL P M_129) → (jR P M_129) → (jS P M_129) → (jT P M_129) → (0 ≤ Int32.toInt x5_129) → ((2147483648 - Int32.toInt x5_129).toNat < u_81 + 1) → (Int32.toInt x5_129 < 2147483647) → (0 ≤ Int32.toInt x1_129 ∧ Int32.toInt x1_129 < Int32.toInt (M_129 P 8)) → (0 ≤ Int32.toInt x3_129 ∧ Int32.toInt x3_129 < nA P M_129) → (nA P M_129 ≤ 7) → (Int32.toInt x5_129 ≤ 20) → ∃ r, D_X8_need_129 P (D_X8_need_81 P u_81) x1_129 x2_129 x3_129 x5_129 y0_129 M_129 N_129 = some r ∧ ((∀ a j, ¬ WM_X8_need P a j → r.2.1 a j = M0 a j) ∧ (∀ a j, ¬ WN_X8_need P a j → r.2.2 a j = N0 a j) ∧ ((jB P r.2.1) ∧ (jS P r.2.1) ∧ (jR P r.2.1) ∧ (jK P r.2.1) ∧ (jT P r.2.1))) := by
        intro x1_129 x2_129 x3_129 x5_129 y0_129 M_129 N_129 k_129 kn_129 p_jA_129 p_jB_129 p_jH_129 p_jK_129 p_jL_129 p_jR_129 p_jS_129 p_jT_129 f0_129 f1_129 f2_129 f3_129 f4_129 f5_129 f6_129
        obtain ⟨u0_jB_129, u1_jB_129, u2_jB_129, u3_jB_129, u4_jB_129, u5_jB_129⟩ := id p_jB_129
        obtain ⟨u0_jS_129, u1_jS_129, u2_jS_129, u3_jS_129, u4_jS_129, u5_jS_129, u6_jS_129, u7_jS_129⟩ := jS.ints p_jS_129
        obtain ⟨u0_jT_129, u1_jT_129, u2_jT_129, u3_jT_129, u4_jT_129, u5_jT_129⟩ := id p_jT_129
        unfold D_X8_need_129
        exact ih_81 _ _ _ _ _ _ _ k_129 kn_129 p_jA_129 p_jB_129 p_jH_129 p_jK_129 p_jL_129 p_jR_129 p_jS_129 p_jT_129 (by first | omega | (simp only [Int32.toInt_add, Int32.toInt_sub, Int32.toInt_mul, Int32.toInt_toInt64, Int64.toInt_add, z_m1, Int32.reduceToInt, Int64.reduceToInt, Int32.reduceToNatClampNeg, Int.bmod_def, or_true, true_or, and_true, true_and] <;> omega)) (by first | omega | (simp only [Int32.toInt_add, Int32.toInt_sub, Int32.toInt_mul, Int32.toInt_toInt64, Int64.toInt_add, z_m1, Int32.reduceToInt, Int64.reduceToInt, Int32.reduceToNatClampNeg, Int.bmod_def, or_true, true_or, and_true, true_and] <;> omega)) (by first | omega | (simp only [Int32.toInt_add, Int32.toInt_sub, Int32.toInt_mul, Int32.toInt_toInt64, Int64.toInt_add, z_m1, Int32.reduceToInt, Int64.reduceToInt, Int32.reduceToNatClampNeg, Int.bmod_def, or_true, true_or, and_true, true_and] <;> omega)) (by first | omega | (simp only [Int32.toInt_add, Int32.toInt_sub, Int32.toInt_mul, Int32.toInt_toInt64, Int64.toInt_add, z_m1, Int32.reduceToInt, Int64.reduceToInt, Int32.reduceToNatClampNeg, Int.bmod_def, or_true, true_or, and_true, true_and] <;> omega)) (by first | omega | (simp only [Int32.toInt_add, Int32.toInt_sub, Int32.toInt_mul, Int32.toInt_toInt64, Int64.toInt_add, z_m1, Int32.reduceToInt, Int64.reduceToInt, Int32.reduceToNatClampNeg, Int.bmod_def, or_true, true_or, and_true, true_and] <;> omega)) (z_up1 f2_129 f1_129)
      intro x1_81 x2_81 x3_81 x4_81 x5_81 M_81 N_81 k_81 kn_81 p_jA_81 p_jB_81 p_jH_81 p_jK_81 p_jL_81 p_jR_81 p_jS_81 p_jT_81 f0_81 f1_81 f2_81 f3_81 f4_81 hm_81
      obtain ⟨u0_jB_81, u1_jB_81, u2_jB_81, u3_jB_81, u4_jB_81, u5_jB_81⟩ := id p_jB_81
      obtain ⟨u0_jS_81, u1_jS_81, u2_jS_81, u3_jS_81, u4_jS_81, u5_jS_81, u6_jS_81, u7_jS_81⟩ := jS.ints p_jS_81
      obtain ⟨u0_jT_81, u1_jT_81, u2_jT_81, u3_jT_81, u4_jT_81, u5_jT_81⟩ := id p_jT_81
      rw [D_X8_need_81]
      refine vIf (fun h_85 => ?_) (fun h_85 => ?_)
      · have i_85 := Int32.lt_iff_toInt_lt.mp h_85
        (try simp only [Int32.toInt_add, Int32.toInt_sub, Int32.toInt_mul, Int32.toInt_toInt64, Int64.toInt_add, z_m1, Int32.reduceToInt, Int64.reduceToInt, Int32.reduceToNatClampNeg, Int.bmod_def] at i_85)
        exact T_137 _ _ _ k_81 kn_81 p_jA_81 p_jB_81 p_jH_81 p_jK_81 p_jL_81 p_jR_81 p_jS_81 p_jT_81
      · have i_85 := Int32.le_iff_toInt_le.mp (Int32.not_lt.mp h_85)
        (try simp only [Int32.toInt_add, Int32.toInt_sub, Int32.toInt_mul, Int32.toInt_toInt64, Int64.toInt_add, z_m1, Int32.reduceToInt, Int64.reduceToInt, Int32.reduceToNatClampNeg, Int.bmod_def] at i_85)
        refine vIf (fun h_91 => ?_) (fun h_91 => ?_)
        · have i_91 := congrArg Int32.toInt h_91
          (try simp only [Int32.toInt_add, Int32.toInt_sub, Int32.toInt_mul, Int32.toInt_toInt64, Int64.toInt_add, z_m1, Int32.reduceToInt, Int64.reduceToInt, Int32.reduceToNatClampNeg, Int.bmod_def] at i_91)
          refine vI (vp_of (by first | omega | (simp only [Int32.toInt_add, Int32.toInt_sub, Int32.toInt_mul, Int32.toInt_toInt64, Int64.toInt_add, z_m1, Int32.reduceToInt, Int64.reduceToInt, Int32.reduceToNatClampNeg, Int.bmod_def, or_true, true_or, and_true, true_and] <;> omega)) (by first | omega | (simp only [Int32.toInt_add, Int32.toInt_sub, Int32.toInt_mul, Int32.toInt_toInt64, Int64.toInt_add, z_m1, Int32.reduceToInt, Int64.reduceToInt, Int32.reduceToNatClampNeg, Int.bmod_def, or_true, true_or, and_true, true_and] <;> omega))) ?_
          refine vLm (W := WM_X8_need P) (fun a j h => (zu_ne (fun z => wq_X8_need_M1_r h z.1)).trans (k_81 a j h)) (fun M_103 f_103 k_103 => ?_)
          have c7_103 : Int32.toInt (M_103 P 7) = Int32.toInt (M_81 P 7) := congrArg Int32.toInt ((congrFun (congrFun f_103.symm P) 7).trans (zu_ne (fun z => wq_pne0 (by decide) z.1)))
          have c8_103 : Int32.toInt (M_103 P 8) = Int32.toInt (M_81 P 8) := congrArg Int32.toInt ((congrFun (congrFun f_103.symm P) 8).trans (zu_ne (fun z => wq_pne0 (by decide) z.1)))
          have c33_103 : Int32.toInt (M_103 P 33) = Int32.toInt (M_81 P 33) := congrArg Int32.toInt ((congrFun (congrFun f_103.symm P) 33).trans (zu_ne (fun z => wq_pne0 (by decide) z.1)))
          have n_103 : nA P M_103 = nA P M_81 := nA_zu f_103 ⟨Or.inl (by have h1 := z_cl (x := (0 : Int32) + x1_81) (by first | omega | (simp only [Int32.toInt_add, Int32.toInt_sub, Int32.toInt_mul, Int32.toInt_toInt64, Int64.toInt_add, z_m1, Int32.reduceToInt, Int64.reduceToInt, Int32.reduceToNatClampNeg, Int.bmod_def, or_true, true_or, and_true, true_and] <;> omega)); have h2 : 0 ≤ Int32.toInt ((0 : Int32) + x1_81) ∧ Int32.toInt ((0 : Int32) + x1_81) < 10 := (by first | omega | (simp only [Int32.toInt_add, Int32.toInt_sub, Int32.toInt_mul, Int32.toInt_toInt64, Int64.toInt_add, z_m1, Int32.reduceToInt, Int64.reduceToInt, Int32.reduceToNatClampNeg, Int.bmod_def, or_true, true_or, and_true, true_and] <;> omega)); omega), (by have h1 := z_cl (x := (0 : Int32) + x1_81) (by first | omega | (simp only [Int32.toInt_add, Int32.toInt_sub, Int32.toInt_mul, Int32.toInt_toInt64, Int64.toInt_add, z_m1, Int32.reduceToInt, Int64.reduceToInt, Int32.reduceToNatClampNeg, Int.bmod_def, or_true, true_or, and_true, true_and] <;> omega)); have h2 : 0 ≤ Int32.toInt ((0 : Int32) + x1_81) ∧ Int32.toInt ((0 : Int32) + x1_81) < 10 := (by first | omega | (simp only [Int32.toInt_add, Int32.toInt_sub, Int32.toInt_mul, Int32.toInt_toInt64, Int64.toInt_add, z_m1, Int32.reduceToInt, Int64.reduceToInt, Int32.reduceToNatClampNeg, Int.bmod_def, or_true, true_or, and_true, true_and] <;> omega)); omega)⟩ (by omega)
          have p_jA_103 : jA P M_103 := jA.mono p_jA_81 (fun a j h => (congrFun (congrFun f_103.symm a) j).trans (zu_ne (fun z => wf_jA_M1_r h z.1)))
          have p_jB_103 : jB P M_103 := jB.mono p_jB_81 (fun a j h => (congrFun (congrFun f_103.symm a) j).trans (zu_ne (fun z => wf_jB_M1_r h z.1)))
          obtain ⟨u0_jB_103, u1_jB_103, u2_jB_103, u3_jB_103, u4_jB_103, u5_jB_103⟩ := id p_jB_103
          have p_jH_103 : jH P M_103 := jH.mono p_jH_81 (fun a j h => (congrFun (congrFun f_103.symm a) j).trans (zu_ne (fun z => wf_jH_M1_r h z.1)))
          have p_jK_103 : jK P M_103 := jK.mono p_jK_81 (fun a j h => (congrFun (congrFun f_103.symm a) j).trans (zu_ne (fun z => wf_jK_M1_r h z.1)))
          have p_jL_103 : jL P M_103 := jL.mono p_jL_81 (fun a j h => (congrFun (congrFun f_103.symm a) j).trans (zu_ne (fun z => wf_jL_M1_r h z.1)))
          have p_jR_103 : jR P M_103 := jR.mono p_jR_81 (fun a j h => (congrFun (congrFun f_103.symm a) j).trans (zu_ne (fun z => wf_jR_M1_r h z.1)))
          have p_jS_103 : jS P M_103 := jS.put p_jS_81 (by omega) f_103 (Or.inl ⟨(by have h1 := z_cl (x := (0 : Int32) + x1_81) (by first | omega | (simp only [Int32.toInt_add, Int32.toInt_sub, Int32.toInt_mul, Int32.toInt_toInt64, Int64.toInt_add, z_m1, Int32.reduceToInt, Int64.reduceToInt, Int32.reduceToNatClampNeg, Int.bmod_def, or_true, true_or, and_true, true_and] <;> omega)); have h2 : 0 ≤ Int32.toInt ((0 : Int32) + x1_81) ∧ Int32.toInt ((0 : Int32) + x1_81) < 10 := (by first | omega | (simp only [Int32.toInt_add, Int32.toInt_sub, Int32.toInt_mul, Int32.toInt_toInt64, Int64.toInt_add, z_m1, Int32.reduceToInt, Int64.reduceToInt, Int32.reduceToNatClampNeg, Int.bmod_def, or_true, true_or, and_true, true_and] <;> omega)); omega), (by first | omega | (simp only [Int32.toInt_add, Int32.toInt_sub, Int32.toInt_mul, Int32.toInt_toInt64, Int64.toInt_add, z_m1, Int32.reduceToInt, Int64.reduceToInt, Int32.reduceToNatClampNeg, Int.bmod_def, or_true, true_or, and_true, true_and] <;> omega)), (by first | omega | (simp only [Int32.toInt_add, Int32.toInt_sub, Int32.toInt_mul, Int32.toInt_toInt64, Int64.toInt_add, z_m1, Int32.reduceToInt, Int64.reduceToInt, Int32.reduceToNatClampNeg, Int.bmod_def, or_true, true_or, and_true, true_and] <;> omega))⟩)
          obtain ⟨u0_jS_103, u1_jS_103, u2_jS_103, u3_jS_103, u4_jS_103, u5_jS_103, u6_jS_103, u7_jS_103⟩ := jS.ints p_jS_103
          have p_jT_103 : jT P M_103 := jT.mono p_jT_81 (fun a j h => (congrFun (congrFun f_103.symm a) j).trans (zu_ne (fun z => wf_jT_M1_r h z.1)))
          obtain ⟨u0_jT_103, u1_jT_103, u2_jT_103, u3_jT_103, u4_jT_103, u5_jT_103⟩ := id p_jT_103
          refine vB (v_X8_laysAll p_jB_103 p_jS_103 p_jR_103 (by first | omega | (simp only [Int32.toInt_add, Int32.toInt_sub, Int32.toInt_mul, Int32.toInt_toInt64, Int64.toInt_add, z_m1, Int32.reduceToInt, Int64.reduceToInt, Int32.reduceToNatClampNeg, Int.bmod_def, or_true, true_or, and_true, true_and] <;> omega))) (fun e_105 f_105 q_105 => ?_)
          have k_105 : ∀ a j, ¬ WM_X8_need P a j → e_105.1 a j = M0 a j := fun a j h => (q_105.1 a j (wz_M_X8_laysAll_X8_need h)).trans (k_103 a j h)
          have kn_105 : ∀ a j, ¬ WN_X8_need P a j → e_105.2 a j = N0 a j := fun a j h => (q_105.2.1 a j (wz_N_X8_laysAll_X8_need h)).trans (kn_81 a j h)
          have c7_105 : Int32.toInt (e_105.1 P 7) = Int32.toInt (M_103 P 7) := congrArg Int32.toInt (q_105.1 P 7 (wc_X8_laysAll_7))
          have c8_105 : Int32.toInt (e_105.1 P 8) = Int32.toInt (M_103 P 8) := congrArg Int32.toInt (q_105.1 P 8 (wc_X8_laysAll_8))
          have n_105 : nA P e_105.1 = nA P M_103 := nA_congr (fun a j h => q_105.1 a j (wf_nA_X8_laysAll h))
          have p_jA_105 : jA P e_105.1 := jA.mono p_jA_103 (fun a j h => q_105.1 a j (wf_jA_X8_laysAll h))
          have p_jK_105 : jK P e_105.1 := jK.mono p_jK_103 (fun a j h => q_105.1 a j (wf_jK_X8_laysAll h))
          have p_jS_105 : jS P e_105.1 := jS.mono p_jS_103 (fun a j h => q_105.1 a j (wf_jS_X8_laysAll h))
          obtain ⟨u0_jS_105, u1_jS_105, u2_jS_105, u3_jS_105, u4_jS_105, u5_jS_105, u6_jS_105, u7_jS_105⟩ := jS.ints p_jS_105
          have p_jT_105 : jT P e_105.1 := jT.mono p_jT_103 (fun a j h => q_105.1 a j (wf_jT_X8_laysAll h))
          obtain ⟨u0_jT_105, u1_jT_105, u2_jT_105, u3_jT_105, u4_jT_105, u5_jT_105⟩ := id p_jT_105
          obtain ⟨x0_105, x1_105, x2_105, x3_105, x4_105⟩ := q_105.2.2
          obtain ⟨u0_jB_105, u1_jB_105, u2_jB_105, u3_jB_105, u4_jB_105, u5_jB_105⟩ := id x0_105
          (try simp only [Int32.toInt_add, Int32.toInt_sub, Int32.toInt_mul, Int32.toInt_toInt64, Int64.toInt_add, z_m1, Int32.reduceToInt, Int64.reduceToInt, Int32.reduceToNatClampNeg, Int.bmod_def] at x4_105)
          refine vB (v_X8_chanceOf x0_105 (by first | omega | (simp only [Int32.toInt_add, Int32.toInt_sub, Int32.toInt_mul, Int32.toInt_toInt64, Int64.toInt_add, z_m1, Int32.reduceToInt, Int64.reduceToInt, Int32.reduceToNatClampNeg, Int.bmod_def, or_true, true_or, and_true, true_and] <;> omega)) (by first | omega | (simp only [Int32.toInt_add, Int32.toInt_sub, Int32.toInt_mul, Int32.toInt_toInt64, Int64.toInt_add, z_m1, Int32.reduceToInt, Int64.reduceToInt, Int32.reduceToNatClampNeg, Int.bmod_def, or_true, true_or, and_true, true_and] <;> omega))) (fun e_110 f_110 q_110 => ?_)
          refine vIf (fun h_120 => ?_) (fun h_120 => ?_)
          · exact T_129 _ _ _ _ _ _ _ k_105 kn_105 p_jA_105 x0_105 x2_105 p_jK_105 x1_105 x3_105 p_jS_105 p_jT_105 (by first | omega | (simp only [Int32.toInt_add, Int32.toInt_sub, Int32.toInt_mul, Int32.toInt_toInt64, Int64.toInt_add, z_m1, Int32.reduceToInt, Int64.reduceToInt, Int32.reduceToNatClampNeg, Int.bmod_def, or_true, true_or, and_true, true_and] <;> omega)) hm_81 (by first | assumption | exact z_lt (by assumption) | exact z_lt2 (by assumption) | exact z_lt3 (by assumption) (by first | assumption | decide)) (by first | omega | (simp only [Int32.toInt_add, Int32.toInt_sub, Int32.toInt_mul, Int32.toInt_toInt64, Int64.toInt_add, z_m1, Int32.reduceToInt, Int64.reduceToInt, Int32.reduceToNatClampNeg, Int.bmod_def, or_true, true_or, and_true, true_and] <;> omega)) (by first | omega | (simp only [Int32.toInt_add, Int32.toInt_sub, Int32.toInt_mul, Int32.toInt_toInt64, Int64.toInt_add, z_m1, Int32.reduceToInt, Int64.reduceToInt, Int32.reduceToNatClampNeg, Int.bmod_def, or_true, true_or, and_true, true_and] <;> omega)) (by first | omega | (simp only [Int32.toInt_add, Int32.toInt_sub, Int32.toInt_mul, Int32.toInt_toInt64, Int64.toInt_add, z_m1, Int32.reduceToInt, Int64.reduceToInt, Int32.reduceToNatClampNeg, Int.bmod_def, or_true, true_or, and_true, true_and] <;> omega)) (by first | omega | (simp only [Int32.toInt_add, Int32.toInt_sub, Int32.toInt_mul, Int32.toInt_toInt64, Int64.toInt_add, z_m1, Int32.reduceToInt, Int64.reduceToInt, Int32.reduceToNatClampNeg, Int.bmod_def, or_true, true_or, and_true, true_and] <;> omega))
          · exact T_129 _ _ _ _ _ _ _ k_105 kn_105 p_jA_105 x0_105 x2_105 p_jK_105 x1_105 x3_105 p_jS_105 p_jT_105 (by first | omega | (simp only [Int32.toInt_add, Int32.toInt_sub, Int32.toInt_mul, Int32.toInt_toInt64, Int64.toInt_add, z_m1, Int32.reduceToInt, Int64.reduceToInt, Int32.reduceToNatClampNeg, Int.bmod_def, or_true, true_or, and_true, true_and] <;> omega)) hm_81 (by first | assumption | exact z_lt (by assumption) | exact z_lt2 (by assumption) | exact z_lt3 (by assumption) (by first | assumption | decide)) (by first | omega | (simp only [Int32.toInt_add, Int32.toInt_sub, Int32.toInt_mul, Int32.toInt_toInt64, Int64.toInt_add, z_m1, Int32.reduceToInt, Int64.reduceToInt, Int32.reduceToNatClampNeg, Int.bmod_def, or_true, true_or, and_true, true_and] <;> omega)) (by first | omega | (simp only [Int32.toInt_add, Int32.toInt_sub, Int32.toInt_mul, Int32.toInt_toInt64, Int64.toInt_add, z_m1, Int32.reduceToInt, Int64.reduceToInt, Int32.reduceToNatClampNeg, Int.bmod_def, or_true, true_or, and_true, true_and] <;> omega)) (by first | omega | (simp only [Int32.toInt_add, Int32.toInt_sub, Int32.toInt_mul, Int32.toInt_toInt64, Int64.toInt_add, z_m1, Int32.reduceToInt, Int64.reduceToInt, Int32.reduceToNatClampNeg, Int.bmod_def, or_true, true_or, and_true, true_and] <;> omega)) (by first | omega | (simp only [Int32.toInt_add, Int32.toInt_sub, Int32.toInt_mul, Int32.toInt_toInt64, Int64.toInt_add, z_m1, Int32.reduceToInt, Int64.reduceToInt, Int32.reduceToNatClampNeg, Int.bmod_def, or_true, true_or, and_true, true_and] <;> omega))
        · have i_91 : ¬ Int32.toInt x4_81 = Int32.toInt (-1 : Int32) := fun q => h_91 (Int32.toInt_inj.mp q)
          (try simp only [Int32.toInt_add, Int32.toInt_sub, Int32.toInt_mul, Int32.toInt_toInt64, Int64.toInt_add, z_m1, Int32.reduceToInt, Int64.reduceToInt, Int32.reduceToNatClampNeg, Int.bmod_def] at i_91)
          exact T_137 _ _ _ k_81 kn_81 p_jA_81 p_jB_81 p_jH_81 p_jK_81 p_jL_81 p_jR_81 p_jS_81 p_jT_81
  have T_81 : ∀ (x1_81 : Int32) (x2_81 : Int32) (x3_81 : Int32) (x4_81 : Int32) (x5_81 : Int32) (M_81 : zMt) (N_81 : zNt), (∀ a j, ¬ WM_X8_need P a j → M_81 a j = M0 a j) → (∀ a j, ¬ WN_X8_need P a j → N_81 a j = N0 a j) → (jA P M_81) → (jB P M_81) → (jH P M_81) → (jK P M_81) → (jL P M_81) → (jR P M_81) → (jS P M_81) → (jT P M_81) → (0 ≤ Int32.toInt x5_81) → (0 ≤ Int32.toInt x1_81 ∧ Int32.toInt x1_81 < Int32.toInt (M_81 P 8)) → (0 ≤ Int32.toInt x3_81 ∧ Int32.toInt x3_81 < nA P M_81) → (nA P M_81 ≤ 7) → (Int32.toInt x5_81 ≤ 21) → ∃ r, D_X8_need_81 P zFu x1_81 x2_81 x3_81 x4_81 x5_81 M_81 N_81 = some r ∧ ((∀ a j, ¬ WM_X8_need P a j → r.2.1 a j = M0 a j) ∧ (∀ a j, ¬ WN_X8_need P a j → r.2.2 a j = N0 a j) ∧ ((jB P r.2.1) ∧ (jS P r.2.1) ∧ (jR P r.2.1) ∧ (jK P r.2.1) ∧ (jT P r.2.1))) := fun x1_81 x2_81 x3_81 x4_81 x5_81 M_81 N_81 k_81 kn_81 p_jA_81 p_jB_81 p_jH_81 p_jK_81 p_jL_81 p_jR_81 p_jS_81 p_jT_81 f0_81 f1_81 f2_81 f3_81 f4_81 => TL_81 zFu x1_81 x2_81 x3_81 x4_81 x5_81 M_81 N_81 k_81 kn_81 p_jA_81 p_jB_81 p_jH_81 p_jK_81 p_jL_81 p_jR_81 p_jS_81 p_jT_81 f0_81 f1_81 f2_81 f3_81 f4_81 (zFu_up _)
  unfold D_X8_need
  refine vB (v_X8_isFrom) (fun e_6 f_6 q_6 => ?_)
  have b_6 := q_6.1
  have x0_6 := q_6.2
  (try simp only [Int32.toInt_add, Int32.toInt_sub, Int32.toInt_mul, Int32.toInt_toInt64, Int64.toInt_add, z_m1, Int32.reduceToInt, Int64.reduceToInt, Int32.reduceToNatClampNeg, Int.bmod_def] at x0_6)
  refine vIf (fun h_9 => ?_) (fun h_9 => ?_)
  · have i_9 := congrArg Int32.toInt h_9
    (try simp only [Int32.toInt_add, Int32.toInt_sub, Int32.toInt_mul, Int32.toInt_toInt64, Int64.toInt_add, z_m1, Int32.reduceToInt, Int64.reduceToInt, Int32.reduceToNatClampNeg, Int.bmod_def] at i_9)
    refine vB (v_X8_refuse) (fun e_14 f_14 q_14 => ?_)
    have k_14 : ∀ a j, ¬ WM_X8_need P a j → e_14.2 a j = M0 a j := fun a j h => (q_14 a j (wz_M_X8_refuse_X8_need h))
    have c7_14 : Int32.toInt (e_14.2 P 7) = Int32.toInt (M0 P 7) := congrArg Int32.toInt (q_14 P 7 (wc_X8_refuse_7))
    have c8_14 : Int32.toInt (e_14.2 P 8) = Int32.toInt (M0 P 8) := congrArg Int32.toInt (q_14 P 8 (wc_X8_refuse_8))
    have c33_14 : Int32.toInt (e_14.2 P 33) = Int32.toInt (M0 P 33) := congrArg Int32.toInt (q_14 P 33 (wc_X8_refuse_33))
    have n_14 : nA P e_14.2 = nA P M0 := nA_congr (fun a j h => q_14 a j (wf_nA_X8_refuse h))
    have p_jB_14 : jB P e_14.2 := jB.mono p_jB (fun a j h => q_14 a j (wf_jB_X8_refuse h))
    obtain ⟨u0_jB_14, u1_jB_14, u2_jB_14, u3_jB_14, u4_jB_14, u5_jB_14⟩ := id p_jB_14
    have p_jS_14 : jS P e_14.2 := jS.mono p_jS (fun a j h => q_14 a j (wf_jS_X8_refuse h))
    obtain ⟨u0_jS_14, u1_jS_14, u2_jS_14, u3_jS_14, u4_jS_14, u5_jS_14, u6_jS_14, u7_jS_14⟩ := jS.ints p_jS_14
    have p_jR_14 : jR P e_14.2 := jR.mono p_jR (fun a j h => q_14 a j (wf_jR_X8_refuse h))
    have p_jK_14 : jK P e_14.2 := jK.mono p_jK (fun a j h => q_14 a j (wf_jK_X8_refuse h))
    have p_jT_14 : jT P e_14.2 := jT.mono p_jT (fun a j h => q_14 a j (wf_jT_X8_refuse h))
    obtain ⟨u0_jT_14, u1_jT_14, u2_jT_14, u3_jT_14, u4_jT_14, u5_jT_14⟩ := id p_jT_14
    exact ⟨_, rfl, k_14, (fun _ _ _ => rfl), ⟨p_jB_14, p_jS_14, p_jR_14, p_jK_14, p_jT_14⟩⟩
  · have i_9 : ¬ Int32.toInt e_6 = Int32.toInt (0 : Int32) := fun q => h_9 (Int32.toInt_inj.mp q)
    (try simp only [Int32.toInt_add, Int32.toInt_sub, Int32.toInt_mul, Int32.toInt_toInt64, Int64.toInt_add, z_m1, Int32.reduceToInt, Int64.reduceToInt, Int32.reduceToNatClampNeg, Int.bmod_def] at i_9)
    refine vB (v_X8_isHunter p_jB) (fun e_20 f_20 q_20 => ?_)
    have b_20 := q_20.1
    have x0_20 := q_20.2
    (try simp only [Int32.toInt_add, Int32.toInt_sub, Int32.toInt_mul, Int32.toInt_toInt64, Int64.toInt_add, z_m1, Int32.reduceToInt, Int64.reduceToInt, Int32.reduceToNatClampNeg, Int.bmod_def] at x0_20)
    refine vIf (fun h_23 => ?_) (fun h_23 => ?_)
    · have i_23 := congrArg Int32.toInt h_23
      (try simp only [Int32.toInt_add, Int32.toInt_sub, Int32.toInt_mul, Int32.toInt_toInt64, Int64.toInt_add, z_m1, Int32.reduceToInt, Int64.reduceToInt, Int32.reduceToNatClampNeg, Int.bmod_def] at i_23)
      refine vB (v_X8_refuse) (fun e_28 f_28 q_28 => ?_)
      have k_28 : ∀ a j, ¬ WM_X8_need P a j → e_28.2 a j = M0 a j := fun a j h => (q_28 a j (wz_M_X8_refuse_X8_need h))
      have c7_28 : Int32.toInt (e_28.2 P 7) = Int32.toInt (M0 P 7) := congrArg Int32.toInt (q_28 P 7 (wc_X8_refuse_7))
      have c8_28 : Int32.toInt (e_28.2 P 8) = Int32.toInt (M0 P 8) := congrArg Int32.toInt (q_28 P 8 (wc_X8_refuse_8))
      have c33_28 : Int32.toInt (e_28.2 P 33) = Int32.toInt (M0 P 33) := congrArg Int32.toInt (q_28 P 33 (wc_X8_refuse_33))
      have n_28 : nA P e_28.2 = nA P M0 := nA_congr (fun a j h => q_28 a j (wf_nA_X8_refuse h))
      have p_jB_28 : jB P e_28.2 := jB.mono p_jB (fun a j h => q_28 a j (wf_jB_X8_refuse h))
      obtain ⟨u0_jB_28, u1_jB_28, u2_jB_28, u3_jB_28, u4_jB_28, u5_jB_28⟩ := id p_jB_28
      have p_jS_28 : jS P e_28.2 := jS.mono p_jS (fun a j h => q_28 a j (wf_jS_X8_refuse h))
      obtain ⟨u0_jS_28, u1_jS_28, u2_jS_28, u3_jS_28, u4_jS_28, u5_jS_28, u6_jS_28, u7_jS_28⟩ := jS.ints p_jS_28
      have p_jR_28 : jR P e_28.2 := jR.mono p_jR (fun a j h => q_28 a j (wf_jR_X8_refuse h))
      have p_jK_28 : jK P e_28.2 := jK.mono p_jK (fun a j h => q_28 a j (wf_jK_X8_refuse h))
      have p_jT_28 : jT P e_28.2 := jT.mono p_jT (fun a j h => q_28 a j (wf_jT_X8_refuse h))
      obtain ⟨u0_jT_28, u1_jT_28, u2_jT_28, u3_jT_28, u4_jT_28, u5_jT_28⟩ := id p_jT_28
      exact ⟨_, rfl, k_28, (fun _ _ _ => rfl), ⟨p_jB_28, p_jS_28, p_jR_28, p_jK_28, p_jT_28⟩⟩
    · have i_23 : ¬ Int32.toInt e_20 = Int32.toInt (0 : Int32) := fun q => h_23 (Int32.toInt_inj.mp q)
      (try simp only [Int32.toInt_add, Int32.toInt_sub, Int32.toInt_mul, Int32.toInt_toInt64, Int64.toInt_add, z_m1, Int32.reduceToInt, Int64.reduceToInt, Int32.reduceToNatClampNeg, Int.bmod_def] at i_23)
      refine vI (vp_of (by first | omega | (simp only [Int32.toInt_add, Int32.toInt_sub, Int32.toInt_mul, Int32.toInt_toInt64, Int64.toInt_add, z_m1, Int32.reduceToInt, Int64.reduceToInt, Int32.reduceToNatClampNeg, Int.bmod_def, or_true, true_or, and_true, true_and] <;> omega)) (by first | omega | (simp only [Int32.toInt_add, Int32.toInt_sub, Int32.toInt_mul, Int32.toInt_toInt64, Int64.toInt_add, z_m1, Int32.reduceToInt, Int64.reduceToInt, Int32.reduceToNatClampNeg, Int.bmod_def, or_true, true_or, and_true, true_and] <;> omega))) ?_
      refine vIf (fun h_42 => ?_) (fun h_42 => ?_)
      · have i_42 := congrArg Int32.toInt h_42
        (try simp only [Int32.toInt_add, Int32.toInt_sub, Int32.toInt_mul, Int32.toInt_toInt64, Int64.toInt_add, z_m1, Int32.reduceToInt, Int64.reduceToInt, Int32.reduceToNatClampNeg, Int.bmod_def] at i_42)
        refine vB (v_X8_areMany p_jB p_jS) (fun e_53 f_53 q_53 => ?_)
        have k_53 : ∀ a j, ¬ WM_X8_need P a j → e_53.2 a j = M0 a j := fun a j h => (q_53.1 a j (wz_M_X8_areMany_X8_need h))
        have b_53 := q_53.2.1
        have c7_53 : Int32.toInt (e_53.2 P 7) = Int32.toInt (M0 P 7) := congrArg Int32.toInt (q_53.1 P 7 (wc_X8_areMany_7))
        have c8_53 : Int32.toInt (e_53.2 P 8) = Int32.toInt (M0 P 8) := congrArg Int32.toInt (q_53.1 P 8 (wc_X8_areMany_8))
        have n_53 : nA P e_53.2 = nA P M0 := nA_congr (fun a j h => q_53.1 a j (wf_nA_X8_areMany h))
        have p_jS_53 : jS P e_53.2 := jS.mono p_jS (fun a j h => q_53.1 a j (wf_jS_X8_areMany h))
        obtain ⟨u0_jS_53, u1_jS_53, u2_jS_53, u3_jS_53, u4_jS_53, u5_jS_53, u6_jS_53, u7_jS_53⟩ := jS.ints p_jS_53
        have p_jR_53 : jR P e_53.2 := jR.mono p_jR (fun a j h => q_53.1 a j (wf_jR_X8_areMany h))
        have p_jK_53 : jK P e_53.2 := jK.mono p_jK (fun a j h => q_53.1 a j (wf_jK_X8_areMany h))
        have p_jT_53 : jT P e_53.2 := jT.mono p_jT (fun a j h => q_53.1 a j (wf_jT_X8_areMany h))
        obtain ⟨u0_jT_53, u1_jT_53, u2_jT_53, u3_jT_53, u4_jT_53, u5_jT_53⟩ := id p_jT_53
        obtain ⟨x0_53, x1_53, x2_53, x3_53, x4_53⟩ := q_53.2.2
        obtain ⟨u0_jB_53, u1_jB_53, u2_jB_53, u3_jB_53, u4_jB_53, u5_jB_53⟩ := id x0_53
        (try simp only [Int32.toInt_add, Int32.toInt_sub, Int32.toInt_mul, Int32.toInt_toInt64, Int64.toInt_add, z_m1, Int32.reduceToInt, Int64.reduceToInt, Int32.reduceToNatClampNeg, Int.bmod_def] at x3_53)
        (try simp only [Int32.toInt_add, Int32.toInt_sub, Int32.toInt_mul, Int32.toInt_toInt64, Int64.toInt_add, z_m1, Int32.reduceToInt, Int64.reduceToInt, Int32.reduceToNatClampNeg, Int.bmod_def] at x4_53)
        refine vIf (fun h_56 => ?_) (fun h_56 => ?_)
        · have i_56 := congrArg Int32.toInt h_56
          (try simp only [Int32.toInt_add, Int32.toInt_sub, Int32.toInt_mul, Int32.toInt_toInt64, Int64.toInt_add, z_m1, Int32.reduceToInt, Int64.reduceToInt, Int32.reduceToNatClampNeg, Int.bmod_def] at i_56)
          refine vB (v_X8_applicantOf x0_53 p_jS_53 (by first | omega | (simp only [Int32.toInt_add, Int32.toInt_sub, Int32.toInt_mul, Int32.toInt_toInt64, Int64.toInt_add, z_m1, Int32.reduceToInt, Int64.reduceToInt, Int32.reduceToNatClampNeg, Int.bmod_def, or_true, true_or, and_true, true_and] <;> omega)) (by first | omega | (simp only [Int32.toInt_add, Int32.toInt_sub, Int32.toInt_mul, Int32.toInt_toInt64, Int64.toInt_add, z_m1, Int32.reduceToInt, Int64.reduceToInt, Int32.reduceToNatClampNeg, Int.bmod_def, or_true, true_or, and_true, true_and] <;> omega))) (fun e_67 f_67 q_67 => ?_)
          have k_67 : ∀ a j, ¬ WM_X8_need P a j → e_67.2 a j = M0 a j := fun a j h => (q_67.1 a j (wz_M_X8_applicantOf_X8_need h)).trans (k_53 a j h)
          have c7_67 : Int32.toInt (e_67.2 P 7) = Int32.toInt (e_53.2 P 7) := congrArg Int32.toInt (q_67.1 P 7 (wc_X8_applicantOf_7))
          have c8_67 : Int32.toInt (e_67.2 P 8) = Int32.toInt (e_53.2 P 8) := congrArg Int32.toInt (q_67.1 P 8 (wc_X8_applicantOf_8))
          have n_67 : nA P e_67.2 = nA P e_53.2 := nA_congr (fun a j h => q_67.1 a j (wf_nA_X8_applicantOf h))
          have p_jS_67 : jS P e_67.2 := jS.mono p_jS_53 (fun a j h => q_67.1 a j (wf_jS_X8_applicantOf h))
          obtain ⟨u0_jS_67, u1_jS_67, u2_jS_67, u3_jS_67, u4_jS_67, u5_jS_67, u6_jS_67, u7_jS_67⟩ := jS.ints p_jS_67
          have p_jR_67 : jR P e_67.2 := jR.mono p_jR_53 (fun a j h => q_67.1 a j (wf_jR_X8_applicantOf h))
          have p_jK_67 : jK P e_67.2 := jK.mono p_jK_53 (fun a j h => q_67.1 a j (wf_jK_X8_applicantOf h))
          have p_jT_67 : jT P e_67.2 := jT.mono p_jT_53 (fun a j h => q_67.1 a j (wf_jT_X8_applicantOf h))
          obtain ⟨u0_jT_67, u1_jT_67, u2_jT_67, u3_jT_67, u4_jT_67, u5_jT_67⟩ := id p_jT_67
          obtain ⟨x0_67, x1_67, x2_67, x3_67, x4_67, x5_67⟩ := q_67.2
          obtain ⟨u0_jB_67, u1_jB_67, u2_jB_67, u3_jB_67, u4_jB_67, u5_jB_67⟩ := id x0_67
          (try simp only [Int32.toInt_add, Int32.toInt_sub, Int32.toInt_mul, Int32.toInt_toInt64, Int64.toInt_add, z_m1, Int32.reduceToInt, Int64.reduceToInt, Int32.reduceToNatClampNeg, Int.bmod_def] at x3_67)
          (try simp only [Int32.toInt_add, Int32.toInt_sub, Int32.toInt_mul, Int32.toInt_toInt64, Int64.toInt_add, z_m1, Int32.reduceToInt, Int64.reduceToInt, Int32.reduceToNatClampNeg, Int.bmod_def] at x4_67)
          (try simp only [Int32.toInt_add, Int32.toInt_sub, Int32.toInt_mul, Int32.toInt_toInt64, Int64.toInt_add, z_m1, Int32.reduceToInt, Int64.reduceToInt, Int32.reduceToNatClampNeg, Int.bmod_def] at x5_67)
          refine vB (v_X8_putsAside x0_67 p_jS_67) (fun e_72 f_72 q_72 => ?_)
          have k_72 : ∀ a j, ¬ WM_X8_need P a j → e_72 a j = M0 a j := fun a j h => (q_72.1 a j (wz_M_X8_putsAside_X8_need h)).trans (k_67 a j h)
          have c7_72 : Int32.toInt (e_72 P 7) = Int32.toInt (e_67.2 P 7) := congrArg Int32.toInt (q_72.1 P 7 (wc_X8_putsAside_7))
          have c8_72 : Int32.toInt (e_72 P 8) = Int32.toInt (e_67.2 P 8) := congrArg Int32.toInt (q_72.1 P 8 (wc_X8_putsAside_8))
          have c33_72 : Int32.toInt (e_72 P 33) = Int32.toInt (e_67.2 P 33) := congrArg Int32.toInt (q_72.1 P 33 (wc_X8_putsAside_33))
          have n_72 : nA P e_72 = nA P e_67.2 := nA_congr (fun a j h => q_72.1 a j (wf_nA_X8_putsAside h))
          have p_jS_72 : jS P e_72 := jS.mono p_jS_67 (fun a j h => q_72.1 a j (wf_jS_X8_putsAside h))
          obtain ⟨u0_jS_72, u1_jS_72, u2_jS_72, u3_jS_72, u4_jS_72, u5_jS_72, u6_jS_72, u7_jS_72⟩ := jS.ints p_jS_72
          have p_jR_72 : jR P e_72 := jR.mono p_jR_67 (fun a j h => q_72.1 a j (wf_jR_X8_putsAside h))
          have p_jK_72 : jK P e_72 := jK.mono p_jK_67 (fun a j h => q_72.1 a j (wf_jK_X8_putsAside h))
          have p_jT_72 : jT P e_72 := jT.mono p_jT_67 (fun a j h => q_72.1 a j (wf_jT_X8_putsAside h))
          obtain ⟨u0_jT_72, u1_jT_72, u2_jT_72, u3_jT_72, u4_jT_72, u5_jT_72⟩ := id p_jT_72
          have p_jB_72 : jB P e_72 := jB.mono x0_67 (fun a j h => q_72.1 a j (wf_jB_X8_putsAside h))
          obtain ⟨u0_jB_72, u1_jB_72, u2_jB_72, u3_jB_72, u4_jB_72, u5_jB_72⟩ := id p_jB_72
          have p_jL_72 : jL P e_72 := jL.mono x1_67 (fun a j h => q_72.1 a j (wf_jL_X8_putsAside h))
          have p_jH_72 : jH P e_72 := jH.mono x2_67 (fun a j h => q_72.1 a j (wf_jH_X8_putsAside h))
          have x0_72 := q_72.2
          exact T_81 _ _ _ _ _ _ _ k_72 (fun _ _ _ => rfl) x0_72 p_jB_72 p_jH_72 p_jK_72 p_jL_72 p_jR_72 p_jS_72 p_jT_72 (by first | omega | (simp only [Int32.toInt_add, Int32.toInt_sub, Int32.toInt_mul, Int32.toInt_toInt64, Int64.toInt_add, z_m1, Int32.reduceToInt, Int64.reduceToInt, Int32.reduceToNatClampNeg, Int.bmod_def, or_true, true_or, and_true, true_and] <;> omega)) (by first | omega | (simp only [Int32.toInt_add, Int32.toInt_sub, Int32.toInt_mul, Int32.toInt_toInt64, Int64.toInt_add, z_m1, Int32.reduceToInt, Int64.reduceToInt, Int32.reduceToNatClampNeg, Int.bmod_def, or_true, true_or, and_true, true_and] <;> omega)) (by first | omega | (simp only [Int32.toInt_add, Int32.toInt_sub, Int32.toInt_mul, Int32.toInt_toInt64, Int64.toInt_add, z_m1, Int32.reduceToInt, Int64.reduceToInt, Int32.reduceToNatClampNeg, Int.bmod_def, or_true, true_or, and_true, true_and] <;> omega)) (by first | omega | (simp only [Int32.toInt_add, Int32.toInt_sub, Int32.toInt_mul, Int32.toInt_toInt64, Int64.toInt_add, z_m1, Int32.reduceToInt, Int64.reduceToInt, Int32.reduceToNatClampNeg, Int.bmod_def, or_true, true_or, and_true, true_and] <;> omega)) (by first | omega | (simp only [Int32.toInt_add, Int32.toInt_sub, Int32.toInt_mul, Int32.toInt_toInt64, Int64.toInt_add, z_m1, Int32.reduceToInt, Int64.reduceToInt, Int32.reduceToNatClampNeg, Int.bmod_def, or_true, true_or, and_true, true_and] <;> omega))
        · have i_56 : ¬ Int32.toInt e_53.1 = Int32.toInt (0 : Int32) := fun q => h_56 (Int32.toInt_inj.mp q)
          (try simp only [Int32.toInt_add, Int32.toInt_sub, Int32.toInt_mul, Int32.toInt_toInt64, Int64.toInt_add, z_m1, Int32.reduceToInt, Int64.reduceToInt, Int32.reduceToNatClampNeg, Int.bmod_def] at i_56)
          refine vB (v_X8_refuse) (fun e_61 f_61 q_61 => ?_)
          have k_61 : ∀ a j, ¬ WM_X8_need P a j → e_61.2 a j = M0 a j := fun a j h => (q_61 a j (wz_M_X8_refuse_X8_need h)).trans (k_53 a j h)
          have c7_61 : Int32.toInt (e_61.2 P 7) = Int32.toInt (e_53.2 P 7) := congrArg Int32.toInt (q_61 P 7 (wc_X8_refuse_7))
          have c8_61 : Int32.toInt (e_61.2 P 8) = Int32.toInt (e_53.2 P 8) := congrArg Int32.toInt (q_61 P 8 (wc_X8_refuse_8))
          have c33_61 : Int32.toInt (e_61.2 P 33) = Int32.toInt (e_53.2 P 33) := congrArg Int32.toInt (q_61 P 33 (wc_X8_refuse_33))
          have n_61 : nA P e_61.2 = nA P e_53.2 := nA_congr (fun a j h => q_61 a j (wf_nA_X8_refuse h))
          have p_jS_61 : jS P e_61.2 := jS.mono p_jS_53 (fun a j h => q_61 a j (wf_jS_X8_refuse h))
          obtain ⟨u0_jS_61, u1_jS_61, u2_jS_61, u3_jS_61, u4_jS_61, u5_jS_61, u6_jS_61, u7_jS_61⟩ := jS.ints p_jS_61
          have p_jR_61 : jR P e_61.2 := jR.mono p_jR_53 (fun a j h => q_61 a j (wf_jR_X8_refuse h))
          have p_jK_61 : jK P e_61.2 := jK.mono p_jK_53 (fun a j h => q_61 a j (wf_jK_X8_refuse h))
          have p_jT_61 : jT P e_61.2 := jT.mono p_jT_53 (fun a j h => q_61 a j (wf_jT_X8_refuse h))
          obtain ⟨u0_jT_61, u1_jT_61, u2_jT_61, u3_jT_61, u4_jT_61, u5_jT_61⟩ := id p_jT_61
          have p_jB_61 : jB P e_61.2 := jB.mono x0_53 (fun a j h => q_61 a j (wf_jB_X8_refuse h))
          obtain ⟨u0_jB_61, u1_jB_61, u2_jB_61, u3_jB_61, u4_jB_61, u5_jB_61⟩ := id p_jB_61
          have p_jL_61 : jL P e_61.2 := jL.mono x1_53 (fun a j h => q_61 a j (wf_jL_X8_refuse h))
          have p_jH_61 : jH P e_61.2 := jH.mono x2_53 (fun a j h => q_61 a j (wf_jH_X8_refuse h))
          exact ⟨_, rfl, k_61, (fun _ _ _ => rfl), ⟨p_jB_61, p_jS_61, p_jR_61, p_jK_61, p_jT_61⟩⟩
      · have i_42 : ¬ Int32.toInt (M0 (P + 1) ((10 : Int32) + v0).toNatClampNeg) = Int32.toInt (-1 : Int32) := fun q => h_42 (Int32.toInt_inj.mp q)
        (try simp only [Int32.toInt_add, Int32.toInt_sub, Int32.toInt_mul, Int32.toInt_toInt64, Int64.toInt_add, z_m1, Int32.reduceToInt, Int64.reduceToInt, Int32.reduceToNatClampNeg, Int.bmod_def] at i_42)
        refine vB (v_X8_refuse) (fun e_48 f_48 q_48 => ?_)
        have k_48 : ∀ a j, ¬ WM_X8_need P a j → e_48.2 a j = M0 a j := fun a j h => (q_48 a j (wz_M_X8_refuse_X8_need h))
        have c7_48 : Int32.toInt (e_48.2 P 7) = Int32.toInt (M0 P 7) := congrArg Int32.toInt (q_48 P 7 (wc_X8_refuse_7))
        have c8_48 : Int32.toInt (e_48.2 P 8) = Int32.toInt (M0 P 8) := congrArg Int32.toInt (q_48 P 8 (wc_X8_refuse_8))
        have c33_48 : Int32.toInt (e_48.2 P 33) = Int32.toInt (M0 P 33) := congrArg Int32.toInt (q_48 P 33 (wc_X8_refuse_33))
        have n_48 : nA P e_48.2 = nA P M0 := nA_congr (fun a j h => q_48 a j (wf_nA_X8_refuse h))
        have p_jB_48 : jB P e_48.2 := jB.mono p_jB (fun a j h => q_48 a j (wf_jB_X8_refuse h))
        obtain ⟨u0_jB_48, u1_jB_48, u2_jB_48, u3_jB_48, u4_jB_48, u5_jB_48⟩ := id p_jB_48
        have p_jS_48 : jS P e_48.2 := jS.mono p_jS (fun a j h => q_48 a j (wf_jS_X8_refuse h))
        obtain ⟨u0_jS_48, u1_jS_48, u2_jS_48, u3_jS_48, u4_jS_48, u5_jS_48, u6_jS_48, u7_jS_48⟩ := jS.ints p_jS_48
        have p_jR_48 : jR P e_48.2 := jR.mono p_jR (fun a j h => q_48 a j (wf_jR_X8_refuse h))
        have p_jK_48 : jK P e_48.2 := jK.mono p_jK (fun a j h => q_48 a j (wf_jK_X8_refuse h))
        have p_jT_48 : jT P e_48.2 := jT.mono p_jT (fun a j h => q_48 a j (wf_jT_X8_refuse h))
        obtain ⟨u0_jT_48, u1_jT_48, u2_jT_48, u3_jT_48, u4_jT_48, u5_jT_48⟩ := id p_jT_48
        exact ⟨_, rfl, k_48, (fun _ _ _ => rfl), ⟨p_jB_48, p_jS_48, p_jR_48, p_jK_48, p_jT_48⟩⟩
def WM_X8_wisest (P : Nat) (a j : Nat) : Prop := (P + 1 ≤ a ∧ a < P + 2) ∨ (P + 3 ≤ a ∧ a < P + 4) ∨ (P + 11 ≤ a ∧ a < P + 23) ∨ (P + 29 ≤ a ∧ a < P + 30) ∨ (a = P ∧ (j = 33 ∨ j = 54 ∨ j = 55 ∨ j = 56 ∨ j = 57))
def WN_X8_wisest (P : Nat) (a j : Nat) : Prop := (P + 24 ≤ a ∧ a < P + 29) ∨ (a = P ∧ (j = 59 ∨ j = 60))
theorem wq_X8_wisest_M1_r {P a j : Nat} (h : ¬ WM_X8_wisest P a j) : ¬ a = P + 1 := by unfold WM_X8_wisest at h; omega
theorem wz_M_X8_laysAll_X8_wisest {P a j : Nat} (h : ¬ WM_X8_wisest P a j) : ¬ WM_X8_laysAll P a j := by unfold WM_X8_laysAll; unfold WM_X8_wisest at h; omega
theorem wz_N_X8_laysAll_X8_wisest {P a j : Nat} (h : ¬ WN_X8_wisest P a j) : ¬ WN_X8_laysAll P a j := by unfold WN_X8_laysAll; unfold WN_X8_wisest at h; omega
theorem wq_X8_wisest_N0_60 {P a j : Nat} (h : ¬ WN_X8_wisest P a j) : ¬ (a = P ∧ j = 60) := by unfold WN_X8_wisest at h; omega
theorem wz_M_X8_takesBack_X8_wisest {P a j : Nat} (h : ¬ WM_X8_wisest P a j) : ¬ WM_X8_takesBack P a j := by unfold WM_X8_takesBack; unfold WM_X8_wisest at h; omega
theorem wz_M_X8_putsAside_X8_wisest {P a j : Nat} (h : ¬ WM_X8_wisest P a j) : ¬ WM_X8_putsAside P a j := by unfold WM_X8_putsAside; unfold WM_X8_wisest at h; omega
set_option maxRecDepth 100000 in
set_option maxHeartbeats 4000000 in
theorem v_X8_wisest {P : Nat} {v0 : Int32} {M0 : zMt} {N0 : zNt}  (p_jB : jB P M0) (p_jS : jS P M0) (p_jL : jL P M0) (p_jR : jR P M0) (i_4 : 0 ≤ Int32.toInt v0) (i_5 : Int32.toInt v0 < Int32.toInt (M0 P 33)) (i_6 : nA P M0 ≤ 7) (i_7 : Int32.toInt (M0 P 33) = nA P M0) : ∃ r, D_X8_wisest P v0 M0 N0 = some r ∧ ((∀ a j, ¬ WM_X8_wisest P a j → r.2.1 a j = M0 a j) ∧ (∀ a j, ¬ WN_X8_wisest P a j → r.2.2 a j = N0 a j) ∧ ((jB P r.2.1) ∧ (jS P r.2.1) ∧ (jR P r.2.1))) := by
  obtain ⟨u0_jB, u1_jB, u2_jB, u3_jB, u4_jB, u5_jB⟩ := id p_jB
  obtain ⟨u0_jS, u1_jS, u2_jS, u3_jS, u4_jS, u5_jS, u6_jS, u7_jS⟩ := jS.ints p_jS
  have TL_15 : ∀ u : Nat, ∀ (x1_15 : Int32) (x2_15 : Int32) (x3_15 : Int32) (M_15 : zMt) (N_15 : zNt), (∀ a j, ¬ WM_X8_wisest P a j → M_15 a j = M0 a j) → (∀ a j, ¬ WN_X8_wisest P a j → N_15 a j = N0 a j) → (jA P M_15) → (jB P M_15) → (jL P M_15) → (jR P M_15) → (jS P M_15) → (0 ≤ Int32.toInt x3_15) → (Int32.toInt x3_15 ≤ 5) → (0 ≤ Int32.toInt x1_15 ∧ Int32.toInt x1_15 < nA P M_15) → (nA P M_15 ≤ 7) → (Int32.toInt (M_15 P 33) = nA P M_15) → (2147483648 - Int32.toInt x3_15).toNat < u → ∃ r, D_X8_wisest_15 P u x1_15 x2_15 x3_15 M_15 N_15 = some r ∧ ((∀ a j, ¬ WM_X8_wisest P a j → r.2.1 a j = M0 a j) ∧ (∀ a j, ¬ WN_X8_wisest P a j → r.2.2 a j = N0 a j) ∧ ((jB P r.2.1) ∧ (jS P r.2.1) ∧ (jR P r.2.1))) := by
    intro u
    induction u with
    | zero => intro x1_15 x2_15 x3_15 M_15 N_15 k_15 kn_15 p_jA_15 p_jB_15 p_jL_15 p_jR_15 p_jS_15 f0_15 f1_15 f2_15 f3_15 f4_15 hm_15; exact absurd hm_15 (Nat.not_lt_zero _)
    | succ u_15 ih_15 =>
      have T_90 : ∀ (x1_90 : Int32) (x2_90 : Int32) (x3_90 : Int32) (M_90 : zMt) (N_90 : zNt), (∀ a j, ¬ WM_X8_wisest P a j → M_90 a j = M0 a j) → (∀ a j, ¬ WN_X8_wisest P a j → N_90 a j = N0 a j) → (jA P M_90) → (jB P M_90) → (jH P M_90) → (jL P M_90) → (jR P M_90) → (jS P M_90) → (0 ≤ Int32.toInt x3_90) → (Int32.toInt x3_90 < Int32.toInt (M_90 P 7)) → ((2147483648 - Int32.toInt x3_90).toNat < u_15 + 1) → (Int32.toInt x3_90 < 2147483647) → (0 ≤ Int32.toInt x1_90 ∧ Int32.toInt x1_90 < nA P M_90) → (nA P M_90 ≤ 7) → (Int32.toInt (M_90 P 33) = nA P M_90) → ∃ r, D_X8_wisest_90 P (D_X8_wisest_15 P u_15) x1_90 x2_90 x3_90 M_90 N_90 = some r ∧ ((∀ a j, ¬ WM_X8_wisest P a j → r.2.1 a j = M0 a j) ∧ (∀ a j, ¬ WN_X8_wisest P a j → r.2.2 a j = N0 a j) ∧ ((jB P r.2.1) ∧ (jS P r.2.1) ∧ (jR P r.2.1))) := by
        intro x1_90 x2_90 x3_90 M_90 N_90 k_90 kn_90 p_jA_90 p_jB_90 p_jH_90 p_jL_90 p_jR_90 p_jS_90 f0_90 f1_90 f2_90 f3_90 f4_90 f5_90 f6_90
        obtain ⟨u0_jB_90, u1_jB_90, u2_jB_90, u3_jB_90, u4_jB_90, u5_jB_90⟩ := id p_jB_90
        obtain ⟨u0_jS_90, u1_jS_90, u2_jS_90, u3_jS_90, u4_jS_90, u5_jS_90, u6_jS_90, u7_jS_90⟩ := jS.ints p_jS_90
        unfold D_X8_wisest_90
        exact ih_15 _ _ _ _ _ k_90 kn_90 p_jA_90 p_jB_90 p_jL_90 p_jR_90 p_jS_90 (by first | omega | (simp only [Int32.toInt_add, Int32.toInt_sub, Int32.toInt_mul, Int32.toInt_toInt64, Int64.toInt_add, z_m1, Int32.reduceToInt, Int64.reduceToInt, Int32.reduceToNatClampNeg, Int.bmod_def, or_true, true_or, and_true, true_and] <;> omega)) (by first | omega | (simp only [Int32.toInt_add, Int32.toInt_sub, Int32.toInt_mul, Int32.toInt_toInt64, Int64.toInt_add, z_m1, Int32.reduceToInt, Int64.reduceToInt, Int32.reduceToNatClampNeg, Int.bmod_def, or_true, true_or, and_true, true_and] <;> omega)) (by first | omega | (simp only [Int32.toInt_add, Int32.toInt_sub, Int32.toInt_mul, Int32.toInt_toInt64, Int64.toInt_add, z_m1, Int32.reduceToInt, Int64.reduceToInt, Int32.reduceToNatClampNeg, Int.bmod_def, or_true, true_or, and_true, true_and] <;> omega)) (by first | omega | (simp only [Int32.toInt_add, Int32.toInt_sub, Int32.toInt_mul, Int32.toInt_toInt64, Int64.toInt_add, z_m1, Int32.reduceToInt, Int64.reduceToInt, Int32.reduceToNatClampNeg, Int.bmod_def, or_true, true_or, and_true, true_and] <;> omega)) (by first | omega | (simp only [Int32.toInt_add, Int32.toInt_sub, Int32.toInt_mul, Int32.toInt_toInt64, Int64.toInt_add, z_m1, Int32.reduceToInt, Int64.reduceToInt, Int32.reduceToNatClampNeg, Int.bmod_def, or_true, true_or, and_true, true_and] <;> omega)) (z_up1 f3_90 f2_90)
      have TL_26 : ∀ u : Nat, ∀ (x1_26 : Int32) (x2_26 : Int32) (x3_26 : Int32) (x4_26 : Int32) (M_26 : zMt) (N_26 : zNt), (∀ a j, ¬ WM_X8_wisest P a j → M_26 a j = M0 a j) → (∀ a j, ¬ WN_X8_wisest P a j → N_26 a j = N0 a j) → (jA P M_26) → (jB P M_26) → (jL P M_26) → (jR P M_26) → (jS P M_26) → (0 ≤ Int32.toInt x3_26) → (Int32.toInt x3_26 < Int32.toInt (M_26 P 7)) → (0 ≤ Int32.toInt x4_26) → (Int32.toInt x4_26 ≤ 3) → ((2147483648 - Int32.toInt x3_26).toNat < u_15 + 1) → (Int32.toInt x3_26 < 2147483647) → (0 ≤ Int32.toInt x1_26 ∧ Int32.toInt x1_26 < nA P M_26) → (nA P M_26 ≤ 7) → (Int32.toInt (M_26 P 33) = nA P M_26) → (2147483648 - Int32.toInt x4_26).toNat < u → ∃ r, D_X8_wisest_26 P (D_X8_wisest_15 P u_15) u x1_26 x2_26 x3_26 x4_26 M_26 N_26 = some r ∧ ((∀ a j, ¬ WM_X8_wisest P a j → r.2.1 a j = M0 a j) ∧ (∀ a j, ¬ WN_X8_wisest P a j → r.2.2 a j = N0 a j) ∧ ((jB P r.2.1) ∧ (jS P r.2.1) ∧ (jR P r.2.1))) := by
        intro u
        induction u with
        | zero => intro x1_26 x2_26 x3_26 x4_26 M_26 N_26 k_26 kn_26 p_jA_26 p_jB_26 p_jL_26 p_jR_26 p_jS_26 f0_26 f1_26 f2_26 f3_26 f4_26 f5_26 f6_26 f7_26 f8_26 hm_26; exact absurd hm_26 (Nat.not_lt_zero _)
        | succ u_26 ih_26 =>
          have T_55 : ∀ (x1_55 : Int32) (x2_55 : Int32) (x3_55 : Int32) (x4_55 : Int32) (y1_55 : Int32) (y2_55 : Int32) (M_55 : zMt) (N_55 : zNt), (∀ a j, ¬ WM_X8_wisest P a j → M_55 a j = M0 a j) → (∀ a j, ¬ WN_X8_wisest P a j → N_55 a j = N0 a j) → (jA P M_55) → (jB P M_55) → (jL P M_55) → (jR P M_55) → (jS P M_55) → (0 ≤ Int32.toInt x3_55) → (Int32.toInt x3_55 < Int32.toInt (M_55 P 7)) → (0 ≤ Int32.toInt x4_55) → (Int32.toInt x4_55 < 3) → ((2147483648 - Int32.toInt x3_55).toNat < u_15 + 1) → (Int32.toInt x3_55 < 2147483647) → ((2147483648 - Int32.toInt x4_55).toNat < u_26 + 1) → (Int32.toInt x4_55 < 2147483647) → (0 ≤ Int32.toInt x1_55 ∧ Int32.toInt x1_55 < nA P M_55) → (nA P M_55 ≤ 7) → (Int32.toInt (M_55 P 33) = nA P M_55) → (20 ≤ Int32.toInt y1_55 ∧ Int32.toInt y1_55 < 62) → (-1 ≤ Int32.toInt y2_55 ∧ Int32.toInt y2_55 < Int32.toInt (M_55 P 7)) → ∃ r, D_X8_wisest_55 P (D_X8_wisest_15 P u_15) (D_X8_wisest_26 P (D_X8_wisest_15 P u_15) u_26) x1_55 x2_55 x3_55 x4_55 y1_55 y2_55 M_55 N_55 = some r ∧ ((∀ a j, ¬ WM_X8_wisest P a j → r.2.1 a j = M0 a j) ∧ (∀ a j, ¬ WN_X8_wisest P a j → r.2.2 a j = N0 a j) ∧ ((jB P r.2.1) ∧ (jS P r.2.1) ∧ (jR P r.2.1))) := by
            intro x1_55 x2_55 x3_55 x4_55 y1_55 y2_55 M_55o N_55 k_55 kn_55 p_jA_55 p_jB_55 p_jL_55 p_jR_55 p_jS_55 f0_55 f1_55 f2_55 f3_55 f4_55 f5_55 f6_55 f7_55 f8_55 f9_55 f10_55 f11_55 f12_55
            obtain ⟨u0_jB_55, u1_jB_55, u2_jB_55, u3_jB_55, u4_jB_55, u5_jB_55⟩ := id p_jB_55
            obtain ⟨u0_jS_55, u1_jS_55, u2_jS_55, u3_jS_55, u4_jS_55, u5_jS_55, u6_jS_55, u7_jS_55⟩ := jS.ints p_jS_55
            unfold D_X8_wisest_55
            refine vI (vp_of (by first | omega | (simp only [Int32.toInt_add, Int32.toInt_sub, Int32.toInt_mul, Int32.toInt_toInt64, Int64.toInt_add, z_m1, Int32.reduceToInt, Int64.reduceToInt, Int32.reduceToNatClampNeg, Int.bmod_def, or_true, true_or, and_true, true_and] <;> omega)) (by first | omega | (simp only [Int32.toInt_add, Int32.toInt_sub, Int32.toInt_mul, Int32.toInt_toInt64, Int64.toInt_add, z_m1, Int32.reduceToInt, Int64.reduceToInt, Int32.reduceToNatClampNeg, Int.bmod_def, or_true, true_or, and_true, true_and] <;> omega))) ?_
            refine vLm (W := WM_X8_wisest P) (fun a j h => (zu_ne (fun z => wq_X8_wisest_M1_r h z.1)).trans (k_55 a j h)) (fun M_55 f_55 k_55 => ?_)
            have c7_55 : Int32.toInt (M_55 P 7) = Int32.toInt (M_55o P 7) := congrArg Int32.toInt ((congrFun (congrFun f_55.symm P) 7).trans (zu_ne (fun z => wq_pne0 (by decide) z.1)))
            have c8_55 : Int32.toInt (M_55 P 8) = Int32.toInt (M_55o P 8) := congrArg Int32.toInt ((congrFun (congrFun f_55.symm P) 8).trans (zu_ne (fun z => wq_pne0 (by decide) z.1)))
            have c33_55 : Int32.toInt (M_55 P 33) = Int32.toInt (M_55o P 33) := congrArg Int32.toInt ((congrFun (congrFun f_55.symm P) 33).trans (zu_ne (fun z => wq_pne0 (by decide) z.1)))
            have n_55 : nA P M_55 = nA P M_55o := nA_zu f_55 ⟨Or.inr (by have h1 := z_cl (x := y1_55) (by first | omega | (simp only [Int32.toInt_add, Int32.toInt_sub, Int32.toInt_mul, Int32.toInt_toInt64, Int64.toInt_add, z_m1, Int32.reduceToInt, Int64.reduceToInt, Int32.reduceToNatClampNeg, Int.bmod_def, or_true, true_or, and_true, true_and] <;> omega)); have h2 : 20 ≤ Int32.toInt (y1_55) ∧ Int32.toInt (y1_55) < 62 := (by first | omega | (simp only [Int32.toInt_add, Int32.toInt_sub, Int32.toInt_mul, Int32.toInt_toInt64, Int64.toInt_add, z_m1, Int32.reduceToInt, Int64.reduceToInt, Int32.reduceToNatClampNeg, Int.bmod_def, or_true, true_or, and_true, true_and] <;> omega)); omega), (by have h1 := z_cl (x := y1_55) (by first | omega | (simp only [Int32.toInt_add, Int32.toInt_sub, Int32.toInt_mul, Int32.toInt_toInt64, Int64.toInt_add, z_m1, Int32.reduceToInt, Int64.reduceToInt, Int32.reduceToNatClampNeg, Int.bmod_def, or_true, true_or, and_true, true_and] <;> omega)); have h2 : 20 ≤ Int32.toInt (y1_55) ∧ Int32.toInt (y1_55) < 62 := (by first | omega | (simp only [Int32.toInt_add, Int32.toInt_sub, Int32.toInt_mul, Int32.toInt_toInt64, Int64.toInt_add, z_m1, Int32.reduceToInt, Int64.reduceToInt, Int32.reduceToNatClampNeg, Int.bmod_def, or_true, true_or, and_true, true_and] <;> omega)); omega)⟩ (by omega)
            have p_jA_55 : jA P M_55 := jA.mono p_jA_55 (fun a j h => (congrFun (congrFun f_55.symm a) j).trans (zu_ne (fun z => wf_jA_M1_r h z.1)))
            have p_jB_55 : jB P M_55 := jB.mono p_jB_55 (fun a j h => (congrFun (congrFun f_55.symm a) j).trans (zu_ne (fun z => wf_jB_M1_r h z.1)))
            obtain ⟨u0_jB_55, u1_jB_55, u2_jB_55, u3_jB_55, u4_jB_55, u5_jB_55⟩ := id p_jB_55
            have p_jL_55 : jL P M_55 := jL.mono p_jL_55 (fun a j h => (congrFun (congrFun f_55.symm a) j).trans (zu_ne (fun z => wf_jL_M1_r h z.1)))
            have p_jR_55 : jR P M_55 := jR.mono p_jR_55 (fun a j h => (congrFun (congrFun f_55.symm a) j).trans (zu_ne (fun z => wf_jR_M1_r h z.1)))
            have p_jS_55 : jS P M_55 := jS.put p_jS_55 (by omega) f_55 (Or.inr (Or.inl ⟨(by have h1 := z_cl (x := y1_55) (by first | omega | (simp only [Int32.toInt_add, Int32.toInt_sub, Int32.toInt_mul, Int32.toInt_toInt64, Int64.toInt_add, z_m1, Int32.reduceToInt, Int64.reduceToInt, Int32.reduceToNatClampNeg, Int.bmod_def, or_true, true_or, and_true, true_and] <;> omega)); have h2 : 20 ≤ Int32.toInt (y1_55) ∧ Int32.toInt (y1_55) < 62 := (by first | omega | (simp only [Int32.toInt_add, Int32.toInt_sub, Int32.toInt_mul, Int32.toInt_toInt64, Int64.toInt_add, z_m1, Int32.reduceToInt, Int64.reduceToInt, Int32.reduceToNatClampNeg, Int.bmod_def, or_true, true_or, and_true, true_and] <;> omega)); omega), (by have h1 := z_cl (x := y1_55) (by first | omega | (simp only [Int32.toInt_add, Int32.toInt_sub, Int32.toInt_mul, Int32.toInt_toInt64, Int64.toInt_add, z_m1, Int32.reduceToInt, Int64.reduceToInt, Int32.reduceToNatClampNeg, Int.bmod_def, or_true, true_or, and_true, true_and] <;> omega)); have h2 : 20 ≤ Int32.toInt (y1_55) ∧ Int32.toInt (y1_55) < 62 := (by first | omega | (simp only [Int32.toInt_add, Int32.toInt_sub, Int32.toInt_mul, Int32.toInt_toInt64, Int64.toInt_add, z_m1, Int32.reduceToInt, Int64.reduceToInt, Int32.reduceToNatClampNeg, Int.bmod_def, or_true, true_or, and_true, true_and] <;> omega)); omega), (by first | omega | (simp only [Int32.toInt_add, Int32.toInt_sub, Int32.toInt_mul, Int32.toInt_toInt64, Int64.toInt_add, z_m1, Int32.reduceToInt, Int64.reduceToInt, Int32.reduceToNatClampNeg, Int.bmod_def, or_true, true_or, and_true, true_and] <;> omega)), (by first | omega | (simp only [Int32.toInt_add, Int32.toInt_sub, Int32.toInt_mul, Int32.toInt_toInt64, Int64.toInt_add, z_m1, Int32.reduceToInt, Int64.reduceToInt, Int32.reduceToNatClampNeg, Int.bmod_def, or_true, true_or, and_true, true_and] <;> omega))⟩))
            obtain ⟨u0_jS_55, u1_jS_55, u2_jS_55, u3_jS_55, u4_jS_55, u5_jS_55, u6_jS_55, u7_jS_55⟩ := jS.ints p_jS_55
            exact ih_26 _ _ _ _ _ _ k_55 kn_55 p_jA_55 p_jB_55 p_jL_55 p_jR_55 p_jS_55 (by first | omega | (simp only [Int32.toInt_add, Int32.toInt_sub, Int32.toInt_mul, Int32.toInt_toInt64, Int64.toInt_add, z_m1, Int32.reduceToInt, Int64.reduceToInt, Int32.reduceToNatClampNeg, Int.bmod_def, or_true, true_or, and_true, true_and] <;> omega)) (by first | omega | (simp only [Int32.toInt_add, Int32.toInt_sub, Int32.toInt_mul, Int32.toInt_toInt64, Int64.toInt_add, z_m1, Int32.reduceToInt, Int64.reduceToInt, Int32.reduceToNatClampNeg, Int.bmod_def, or_true, true_or, and_true, true_and] <;> omega)) (by first | omega | (simp only [Int32.toInt_add, Int32.toInt_sub, Int32.toInt_mul, Int32.toInt_toInt64, Int64.toInt_add, z_m1, Int32.reduceToInt, Int64.reduceToInt, Int32.reduceToNatClampNeg, Int.bmod_def, or_true, true_or, and_true, true_and] <;> omega)) (by first | omega | (simp only [Int32.toInt_add, Int32.toInt_sub, Int32.toInt_mul, Int32.toInt_toInt64, Int64.toInt_add, z_m1, Int32.reduceToInt, Int64.reduceToInt, Int32.reduceToNatClampNeg, Int.bmod_def, or_true, true_or, and_true, true_and] <;> omega)) f4_55 f5_55 (by first | omega | (simp only [Int32.toInt_add, Int32.toInt_sub, Int32.toInt_mul, Int32.toInt_toInt64, Int64.toInt_add, z_m1, Int32.reduceToInt, Int64.reduceToInt, Int32.reduceToNatClampNeg, Int.bmod_def, or_true, true_or, and_true, true_and] <;> omega)) (by first | omega | (simp only [Int32.toInt_add, Int32.toInt_sub, Int32.toInt_mul, Int32.toInt_toInt64, Int64.toInt_add, z_m1, Int32.reduceToInt, Int64.reduceToInt, Int32.reduceToNatClampNeg, Int.bmod_def, or_true, true_or, and_true, true_and] <;> omega)) (by first | omega | (simp only [Int32.toInt_add, Int32.toInt_sub, Int32.toInt_mul, Int32.toInt_toInt64, Int64.toInt_add, z_m1, Int32.reduceToInt, Int64.reduceToInt, Int32.reduceToNatClampNeg, Int.bmod_def, or_true, true_or, and_true, true_and] <;> omega)) (z_up1 f7_55 f6_55)
          intro x1_26 x2_26 x3_26 x4_26 M_26 N_26 k_26 kn_26 p_jA_26 p_jB_26 p_jL_26 p_jR_26 p_jS_26 f0_26 f1_26 f2_26 f3_26 f4_26 f5_26 f6_26 f7_26 f8_26 hm_26
          obtain ⟨u0_jB_26, u1_jB_26, u2_jB_26, u3_jB_26, u4_jB_26, u5_jB_26⟩ := id p_jB_26
          obtain ⟨u0_jS_26, u1_jS_26, u2_jS_26, u3_jS_26, u4_jS_26, u5_jS_26, u6_jS_26, u7_jS_26⟩ := jS.ints p_jS_26
          rw [D_X8_wisest_26]
          refine vIf (fun h_29 => ?_) (fun h_29 => ?_)
          · have i_29 := Int32.le_iff_toInt_le.mp h_29
            (try simp only [Int32.toInt_add, Int32.toInt_sub, Int32.toInt_mul, Int32.toInt_toInt64, Int64.toInt_add, z_m1, Int32.reduceToInt, Int64.reduceToInt, Int32.reduceToNatClampNeg, Int.bmod_def] at i_29)
            refine vB (v_X8_laysAll p_jB_26 p_jS_26 p_jR_26 (by first | omega | (simp only [Int32.toInt_add, Int32.toInt_sub, Int32.toInt_mul, Int32.toInt_toInt64, Int64.toInt_add, z_m1, Int32.reduceToInt, Int64.reduceToInt, Int32.reduceToNatClampNeg, Int.bmod_def, or_true, true_or, and_true, true_and] <;> omega))) (fun e_63 f_63 q_63 => ?_)
            have k_63 : ∀ a j, ¬ WM_X8_wisest P a j → e_63.1 a j = M0 a j := fun a j h => (q_63.1 a j (wz_M_X8_laysAll_X8_wisest h)).trans (k_26 a j h)
            have kn_63 : ∀ a j, ¬ WN_X8_wisest P a j → e_63.2 a j = N0 a j := fun a j h => (q_63.2.1 a j (wz_N_X8_laysAll_X8_wisest h)).trans (kn_26 a j h)
            have c7_63 : Int32.toInt (e_63.1 P 7) = Int32.toInt (M_26 P 7) := congrArg Int32.toInt (q_63.1 P 7 (wc_X8_laysAll_7))
            have c8_63 : Int32.toInt (e_63.1 P 8) = Int32.toInt (M_26 P 8) := congrArg Int32.toInt (q_63.1 P 8 (wc_X8_laysAll_8))
            have n_63 : nA P e_63.1 = nA P M_26 := nA_congr (fun a j h => q_63.1 a j (wf_nA_X8_laysAll h))
            have p_jA_63 : jA P e_63.1 := jA.mono p_jA_26 (fun a j h => q_63.1 a j (wf_jA_X8_laysAll h))
            have p_jS_63 : jS P e_63.1 := jS.mono p_jS_26 (fun a j h => q_63.1 a j (wf_jS_X8_laysAll h))
            obtain ⟨u0_jS_63, u1_jS_63, u2_jS_63, u3_jS_63, u4_jS_63, u5_jS_63, u6_jS_63, u7_jS_63⟩ := jS.ints p_jS_63
            obtain ⟨x0_63, x1_63, x2_63, x3_63, x4_63⟩ := q_63.2.2
            obtain ⟨u0_jB_63, u1_jB_63, u2_jB_63, u3_jB_63, u4_jB_63, u5_jB_63⟩ := id x0_63
            (try simp only [Int32.toInt_add, Int32.toInt_sub, Int32.toInt_mul, Int32.toInt_toInt64, Int64.toInt_add, z_m1, Int32.reduceToInt, Int64.reduceToInt, Int32.reduceToNatClampNeg, Int.bmod_def] at x4_63)
            refine vB (v_X8_chanceOf x0_63 (by first | omega | (simp only [Int32.toInt_add, Int32.toInt_sub, Int32.toInt_mul, Int32.toInt_toInt64, Int64.toInt_add, z_m1, Int32.reduceToInt, Int64.reduceToInt, Int32.reduceToNatClampNeg, Int.bmod_def, or_true, true_or, and_true, true_and] <;> omega)) (by first | omega | (simp only [Int32.toInt_add, Int32.toInt_sub, Int32.toInt_mul, Int32.toInt_toInt64, Int64.toInt_add, z_m1, Int32.reduceToInt, Int64.reduceToInt, Int32.reduceToNatClampNeg, Int.bmod_def, or_true, true_or, and_true, true_and] <;> omega))) (fun e_68 f_68 q_68 => ?_)
            refine vIf (fun h_76 => ?_) (fun h_76 => ?_)
            · exact T_90 _ _ _ _ _ k_63 kn_63 p_jA_63 x0_63 x2_63 x1_63 x3_63 p_jS_63 (by first | omega | (simp only [Int32.toInt_add, Int32.toInt_sub, Int32.toInt_mul, Int32.toInt_toInt64, Int64.toInt_add, z_m1, Int32.reduceToInt, Int64.reduceToInt, Int32.reduceToNatClampNeg, Int.bmod_def, or_true, true_or, and_true, true_and] <;> omega)) (by first | omega | (simp only [Int32.toInt_add, Int32.toInt_sub, Int32.toInt_mul, Int32.toInt_toInt64, Int64.toInt_add, z_m1, Int32.reduceToInt, Int64.reduceToInt, Int32.reduceToNatClampNeg, Int.bmod_def, or_true, true_or, and_true, true_and] <;> omega)) f4_26 f5_26 (by first | omega | (simp only [Int32.toInt_add, Int32.toInt_sub, Int32.toInt_mul, Int32.toInt_toInt64, Int64.toInt_add, z_m1, Int32.reduceToInt, Int64.reduceToInt, Int32.reduceToNatClampNeg, Int.bmod_def, or_true, true_or, and_true, true_and] <;> omega)) (by first | omega | (simp only [Int32.toInt_add, Int32.toInt_sub, Int32.toInt_mul, Int32.toInt_toInt64, Int64.toInt_add, z_m1, Int32.reduceToInt, Int64.reduceToInt, Int32.reduceToNatClampNeg, Int.bmod_def, or_true, true_or, and_true, true_and] <;> omega)) (by first | omega | (simp only [Int32.toInt_add, Int32.toInt_sub, Int32.toInt_mul, Int32.toInt_toInt64, Int64.toInt_add, z_m1, Int32.reduceToInt, Int64.reduceToInt, Int32.reduceToNatClampNeg, Int.bmod_def, or_true, true_or, and_true, true_and] <;> omega))
            · refine vB (v_X8_chanceOf x0_63 (by first | omega | (simp only [Int32.toInt_add, Int32.toInt_sub, Int32.toInt_mul, Int32.toInt_toInt64, Int64.toInt_add, z_m1, Int32.reduceToInt, Int64.reduceToInt, Int32.reduceToNatClampNeg, Int.bmod_def, or_true, true_or, and_true, true_and] <;> omega)) (by first | omega | (simp only [Int32.toInt_add, Int32.toInt_sub, Int32.toInt_mul, Int32.toInt_toInt64, Int64.toInt_add, z_m1, Int32.reduceToInt, Int64.reduceToInt, Int32.reduceToNatClampNeg, Int.bmod_def, or_true, true_or, and_true, true_and] <;> omega))) (fun e_84 f_84 q_84 => ?_)
              refine vLn (W := WN_X8_wisest P) (fun a j h => (zu_ne (wq_X8_wisest_N0_60 h)).trans (kn_63 a j h)) (fun N_87 f_87 kn_87 => ?_)
              exact T_90 _ _ _ _ _ k_63 kn_87 p_jA_63 x0_63 x2_63 x1_63 x3_63 p_jS_63 (by first | omega | (simp only [Int32.toInt_add, Int32.toInt_sub, Int32.toInt_mul, Int32.toInt_toInt64, Int64.toInt_add, z_m1, Int32.reduceToInt, Int64.reduceToInt, Int32.reduceToNatClampNeg, Int.bmod_def, or_true, true_or, and_true, true_and] <;> omega)) (by first | omega | (simp only [Int32.toInt_add, Int32.toInt_sub, Int32.toInt_mul, Int32.toInt_toInt64, Int64.toInt_add, z_m1, Int32.reduceToInt, Int64.reduceToInt, Int32.reduceToNatClampNeg, Int.bmod_def, or_true, true_or, and_true, true_and] <;> omega)) f4_26 f5_26 (by first | omega | (simp only [Int32.toInt_add, Int32.toInt_sub, Int32.toInt_mul, Int32.toInt_toInt64, Int64.toInt_add, z_m1, Int32.reduceToInt, Int64.reduceToInt, Int32.reduceToNatClampNeg, Int.bmod_def, or_true, true_or, and_true, true_and] <;> omega)) (by first | omega | (simp only [Int32.toInt_add, Int32.toInt_sub, Int32.toInt_mul, Int32.toInt_toInt64, Int64.toInt_add, z_m1, Int32.reduceToInt, Int64.reduceToInt, Int32.reduceToNatClampNeg, Int.bmod_def, or_true, true_or, and_true, true_and] <;> omega)) (by first | omega | (simp only [Int32.toInt_add, Int32.toInt_sub, Int32.toInt_mul, Int32.toInt_toInt64, Int64.toInt_add, z_m1, Int32.reduceToInt, Int64.reduceToInt, Int32.reduceToNatClampNeg, Int.bmod_def, or_true, true_or, and_true, true_and] <;> omega))
          · have i_29 := Int32.lt_iff_toInt_lt.mp (Int32.not_le.mp h_29)
            (try simp only [Int32.toInt_add, Int32.toInt_sub, Int32.toInt_mul, Int32.toInt_toInt64, Int64.toInt_add, z_m1, Int32.reduceToInt, Int64.reduceToInt, Int32.reduceToNatClampNeg, Int.bmod_def] at i_29)
            refine vI (vp_of (by first | omega | (simp only [Int32.toInt_add, Int32.toInt_sub, Int32.toInt_mul, Int32.toInt_toInt64, Int64.toInt_add, z_m1, Int32.reduceToInt, Int64.reduceToInt, Int32.reduceToNatClampNeg, Int.bmod_def, or_true, true_or, and_true, true_and] <;> omega)) (by first | omega | (simp only [Int32.toInt_add, Int32.toInt_sub, Int32.toInt_mul, Int32.toInt_toInt64, Int64.toInt_add, z_m1, Int32.reduceToInt, Int64.reduceToInt, Int32.reduceToNatClampNeg, Int.bmod_def, or_true, true_or, and_true, true_and] <;> omega))) ?_
            obtain ⟨w0_41, w1_41, w2_41, w3_41, w4_41, w5_41⟩ := jL.el p_jL_26 (x := x1_26) (by first | omega | (simp only [Int32.toInt_add, Int32.toInt_sub, Int32.toInt_mul, Int32.toInt_toInt64, Int64.toInt_add, z_m1, Int32.reduceToInt, Int64.reduceToInt, Int32.reduceToNatClampNeg, Int.bmod_def, or_true, true_or, and_true, true_and] <;> omega)) (by first | omega | (simp only [Int32.toInt_add, Int32.toInt_sub, Int32.toInt_mul, Int32.toInt_toInt64, Int64.toInt_add, z_m1, Int32.reduceToInt, Int64.reduceToInt, Int32.reduceToNatClampNeg, Int.bmod_def, or_true, true_or, and_true, true_and] <;> omega))
            refine vIf (fun h_47 => ?_) (fun h_47 => ?_)
            · have i_47 := congrArg Int32.toInt h_47
              (try simp only [Int32.toInt_add, Int32.toInt_sub, Int32.toInt_mul, Int32.toInt_toInt64, Int64.toInt_add, z_m1, Int32.reduceToInt, Int64.reduceToInt, Int32.reduceToNatClampNeg, Int.bmod_def] at i_47)
              exact T_55 _ _ _ _ _ _ _ _ k_26 kn_26 p_jA_26 p_jB_26 p_jL_26 p_jR_26 p_jS_26 (by first | omega | (simp only [Int32.toInt_add, Int32.toInt_sub, Int32.toInt_mul, Int32.toInt_toInt64, Int64.toInt_add, z_m1, Int32.reduceToInt, Int64.reduceToInt, Int32.reduceToNatClampNeg, Int.bmod_def, or_true, true_or, and_true, true_and] <;> omega)) (by first | omega | (simp only [Int32.toInt_add, Int32.toInt_sub, Int32.toInt_mul, Int32.toInt_toInt64, Int64.toInt_add, z_m1, Int32.reduceToInt, Int64.reduceToInt, Int32.reduceToNatClampNeg, Int.bmod_def, or_true, true_or, and_true, true_and] <;> omega)) (by first | omega | (simp only [Int32.toInt_add, Int32.toInt_sub, Int32.toInt_mul, Int32.toInt_toInt64, Int64.toInt_add, z_m1, Int32.reduceToInt, Int64.reduceToInt, Int32.reduceToNatClampNeg, Int.bmod_def, or_true, true_or, and_true, true_and] <;> omega)) (by first | omega | (simp only [Int32.toInt_add, Int32.toInt_sub, Int32.toInt_mul, Int32.toInt_toInt64, Int64.toInt_add, z_m1, Int32.reduceToInt, Int64.reduceToInt, Int32.reduceToNatClampNeg, Int.bmod_def, or_true, true_or, and_true, true_and] <;> omega)) f4_26 f5_26 hm_26 (by first | assumption | exact z_lt (by assumption) | exact z_lt2 (by assumption) | exact z_lt3 (by assumption) (by first | assumption | decide)) (by first | omega | (simp only [Int32.toInt_add, Int32.toInt_sub, Int32.toInt_mul, Int32.toInt_toInt64, Int64.toInt_add, z_m1, Int32.reduceToInt, Int64.reduceToInt, Int32.reduceToNatClampNeg, Int.bmod_def, or_true, true_or, and_true, true_and] <;> omega)) (by first | omega | (simp only [Int32.toInt_add, Int32.toInt_sub, Int32.toInt_mul, Int32.toInt_toInt64, Int64.toInt_add, z_m1, Int32.reduceToInt, Int64.reduceToInt, Int32.reduceToNatClampNeg, Int.bmod_def, or_true, true_or, and_true, true_and] <;> omega)) (by first | omega | (simp only [Int32.toInt_add, Int32.toInt_sub, Int32.toInt_mul, Int32.toInt_toInt64, Int64.toInt_add, z_m1, Int32.reduceToInt, Int64.reduceToInt, Int32.reduceToNatClampNeg, Int.bmod_def, or_true, true_or, and_true, true_and] <;> omega)) (by first | omega | (simp only [Int32.toInt_add, Int32.toInt_sub, Int32.toInt_mul, Int32.toInt_toInt64, Int64.toInt_add, z_m1, Int32.reduceToInt, Int64.reduceToInt, Int32.reduceToNatClampNeg, Int.bmod_def, or_true, true_or, and_true, true_and] <;> omega)) (by first | omega | (simp only [Int32.toInt_add, Int32.toInt_sub, Int32.toInt_mul, Int32.toInt_toInt64, Int64.toInt_add, z_m1, Int32.reduceToInt, Int64.reduceToInt, Int32.reduceToNatClampNeg, Int.bmod_def, or_true, true_or, and_true, true_and] <;> omega))
            · have i_47 : ¬ Int32.toInt x4_26 = Int32.toInt (0 : Int32) := fun q => h_47 (Int32.toInt_inj.mp q)
              (try simp only [Int32.toInt_add, Int32.toInt_sub, Int32.toInt_mul, Int32.toInt_toInt64, Int64.toInt_add, z_m1, Int32.reduceToInt, Int64.reduceToInt, Int32.reduceToNatClampNeg, Int.bmod_def] at i_47)
              exact T_55 _ _ _ _ _ _ _ _ k_26 kn_26 p_jA_26 p_jB_26 p_jL_26 p_jR_26 p_jS_26 (by first | omega | (simp only [Int32.toInt_add, Int32.toInt_sub, Int32.toInt_mul, Int32.toInt_toInt64, Int64.toInt_add, z_m1, Int32.reduceToInt, Int64.reduceToInt, Int32.reduceToNatClampNeg, Int.bmod_def, or_true, true_or, and_true, true_and] <;> omega)) (by first | omega | (simp only [Int32.toInt_add, Int32.toInt_sub, Int32.toInt_mul, Int32.toInt_toInt64, Int64.toInt_add, z_m1, Int32.reduceToInt, Int64.reduceToInt, Int32.reduceToNatClampNeg, Int.bmod_def, or_true, true_or, and_true, true_and] <;> omega)) (by first | omega | (simp only [Int32.toInt_add, Int32.toInt_sub, Int32.toInt_mul, Int32.toInt_toInt64, Int64.toInt_add, z_m1, Int32.reduceToInt, Int64.reduceToInt, Int32.reduceToNatClampNeg, Int.bmod_def, or_true, true_or, and_true, true_and] <;> omega)) (by first | omega | (simp only [Int32.toInt_add, Int32.toInt_sub, Int32.toInt_mul, Int32.toInt_toInt64, Int64.toInt_add, z_m1, Int32.reduceToInt, Int64.reduceToInt, Int32.reduceToNatClampNeg, Int.bmod_def, or_true, true_or, and_true, true_and] <;> omega)) f4_26 f5_26 hm_26 (by first | assumption | exact z_lt (by assumption) | exact z_lt2 (by assumption) | exact z_lt3 (by assumption) (by first | assumption | decide)) (by first | omega | (simp only [Int32.toInt_add, Int32.toInt_sub, Int32.toInt_mul, Int32.toInt_toInt64, Int64.toInt_add, z_m1, Int32.reduceToInt, Int64.reduceToInt, Int32.reduceToNatClampNeg, Int.bmod_def, or_true, true_or, and_true, true_and] <;> omega)) (by first | omega | (simp only [Int32.toInt_add, Int32.toInt_sub, Int32.toInt_mul, Int32.toInt_toInt64, Int64.toInt_add, z_m1, Int32.reduceToInt, Int64.reduceToInt, Int32.reduceToNatClampNeg, Int.bmod_def, or_true, true_or, and_true, true_and] <;> omega)) (by first | omega | (simp only [Int32.toInt_add, Int32.toInt_sub, Int32.toInt_mul, Int32.toInt_toInt64, Int64.toInt_add, z_m1, Int32.reduceToInt, Int64.reduceToInt, Int32.reduceToNatClampNeg, Int.bmod_def, or_true, true_or, and_true, true_and] <;> omega)) (by first | omega | (simp only [Int32.toInt_add, Int32.toInt_sub, Int32.toInt_mul, Int32.toInt_toInt64, Int64.toInt_add, z_m1, Int32.reduceToInt, Int64.reduceToInt, Int32.reduceToNatClampNeg, Int.bmod_def, or_true, true_or, and_true, true_and] <;> omega)) (by first | omega | (simp only [Int32.toInt_add, Int32.toInt_sub, Int32.toInt_mul, Int32.toInt_toInt64, Int64.toInt_add, z_m1, Int32.reduceToInt, Int64.reduceToInt, Int32.reduceToNatClampNeg, Int.bmod_def, or_true, true_or, and_true, true_and] <;> omega))
      have T_26 : ∀ (x1_26 : Int32) (x2_26 : Int32) (x3_26 : Int32) (x4_26 : Int32) (M_26 : zMt) (N_26 : zNt), (∀ a j, ¬ WM_X8_wisest P a j → M_26 a j = M0 a j) → (∀ a j, ¬ WN_X8_wisest P a j → N_26 a j = N0 a j) → (jA P M_26) → (jB P M_26) → (jL P M_26) → (jR P M_26) → (jS P M_26) → (0 ≤ Int32.toInt x3_26) → (Int32.toInt x3_26 < Int32.toInt (M_26 P 7)) → (0 ≤ Int32.toInt x4_26) → (Int32.toInt x4_26 ≤ 3) → ((2147483648 - Int32.toInt x3_26).toNat < u_15 + 1) → (Int32.toInt x3_26 < 2147483647) → (0 ≤ Int32.toInt x1_26 ∧ Int32.toInt x1_26 < nA P M_26) → (nA P M_26 ≤ 7) → (Int32.toInt (M_26 P 33) = nA P M_26) → ∃ r, D_X8_wisest_26 P (D_X8_wisest_15 P u_15) zFu x1_26 x2_26 x3_26 x4_26 M_26 N_26 = some r ∧ ((∀ a j, ¬ WM_X8_wisest P a j → r.2.1 a j = M0 a j) ∧ (∀ a j, ¬ WN_X8_wisest P a j → r.2.2 a j = N0 a j) ∧ ((jB P r.2.1) ∧ (jS P r.2.1) ∧ (jR P r.2.1))) := fun x1_26 x2_26 x3_26 x4_26 M_26 N_26 k_26 kn_26 p_jA_26 p_jB_26 p_jL_26 p_jR_26 p_jS_26 f0_26 f1_26 f2_26 f3_26 f4_26 f5_26 f6_26 f7_26 f8_26 => TL_26 zFu x1_26 x2_26 x3_26 x4_26 M_26 N_26 k_26 kn_26 p_jA_26 p_jB_26 p_jL_26 p_jR_26 p_jS_26 f0_26 f1_26 f2_26 f3_26 f4_26 f5_26 f6_26 f7_26 f8_26 (zFu_up _)
      intro x1_15 x2_15 x3_15 M_15 N_15 k_15 kn_15 p_jA_15 p_jB_15 p_jL_15 p_jR_15 p_jS_15 f0_15 f1_15 f2_15 f3_15 f4_15 hm_15
      obtain ⟨u0_jB_15, u1_jB_15, u2_jB_15, u3_jB_15, u4_jB_15, u5_jB_15⟩ := id p_jB_15
      obtain ⟨u0_jS_15, u1_jS_15, u2_jS_15, u3_jS_15, u4_jS_15, u5_jS_15, u6_jS_15, u7_jS_15⟩ := jS.ints p_jS_15
      rw [D_X8_wisest_15]
      refine vIf (fun h_20 => ?_) (fun h_20 => ?_)
      · have i_20 := Int32.le_iff_toInt_le.mp h_20
        (try simp only [Int32.toInt_add, Int32.toInt_sub, Int32.toInt_mul, Int32.toInt_toInt64, Int64.toInt_add, z_m1, Int32.reduceToInt, Int64.reduceToInt, Int32.reduceToNatClampNeg, Int.bmod_def] at i_20)
        refine vB (v_X8_takesBack p_jB_15 p_jA_15) (fun e_97 f_97 q_97 => ?_)
        have k_97 : ∀ a j, ¬ WM_X8_wisest P a j → e_97 a j = M0 a j := fun a j h => (q_97.1 a j (wz_M_X8_takesBack_X8_wisest h)).trans (k_15 a j h)
        have c7_97 : Int32.toInt (e_97 P 7) = Int32.toInt (M_15 P 7) := congrArg Int32.toInt (q_97.1 P 7 (wc_X8_takesBack_7))
        have c8_97 : Int32.toInt (e_97 P 8) = Int32.toInt (M_15 P 8) := congrArg Int32.toInt (q_97.1 P 8 (wc_X8_takesBack_8))
        have c33_97 : Int32.toInt (e_97 P 33) = Int32.toInt (M_15 P 33) := congrArg Int32.toInt (q_97.1 P 33 (wc_X8_takesBack_33))
        have p_jA_97 : jA P e_97 := jA.mono p_jA_15 (fun a j h => q_97.1 a j (wf_jA_X8_takesBack h))
        have p_jB_97 : jB P e_97 := jB.mono p_jB_15 (fun a j h => q_97.1 a j (wf_jB_X8_takesBack h))
        obtain ⟨u0_jB_97, u1_jB_97, u2_jB_97, u3_jB_97, u4_jB_97, u5_jB_97⟩ := id p_jB_97
        have p_jL_97 : jL P e_97 := jL.mono p_jL_15 (fun a j h => q_97.1 a j (wf_jL_X8_takesBack h))
        have p_jR_97 : jR P e_97 := jR.mono p_jR_15 (fun a j h => q_97.1 a j (wf_jR_X8_takesBack h))
        have x0_97 := q_97.2
        obtain ⟨u0_jS_97, u1_jS_97, u2_jS_97, u3_jS_97, u4_jS_97, u5_jS_97, u6_jS_97, u7_jS_97⟩ := jS.ints x0_97
        exact ⟨_, rfl, k_97, kn_15, ⟨p_jB_97, x0_97, p_jR_97⟩⟩
      · have i_20 := Int32.lt_iff_toInt_lt.mp (Int32.not_le.mp h_20)
        (try simp only [Int32.toInt_add, Int32.toInt_sub, Int32.toInt_mul, Int32.toInt_toInt64, Int64.toInt_add, z_m1, Int32.reduceToInt, Int64.reduceToInt, Int32.reduceToNatClampNeg, Int.bmod_def] at i_20)
        exact T_26 _ _ _ _ _ _ k_15 kn_15 p_jA_15 p_jB_15 p_jL_15 p_jR_15 p_jS_15 (by first | omega | (simp only [Int32.toInt_add, Int32.toInt_sub, Int32.toInt_mul, Int32.toInt_toInt64, Int64.toInt_add, z_m1, Int32.reduceToInt, Int64.reduceToInt, Int32.reduceToNatClampNeg, Int.bmod_def, or_true, true_or, and_true, true_and] <;> omega)) (by first | omega | (simp only [Int32.toInt_add, Int32.toInt_sub, Int32.toInt_mul, Int32.toInt_toInt64, Int64.toInt_add, z_m1, Int32.reduceToInt, Int64.reduceToInt, Int32.reduceToNatClampNeg, Int.bmod_def, or_true, true_or, and_true, true_and] <;> omega)) (by first | omega | (simp only [Int32.toInt_add, Int32.toInt_sub, Int32.toInt_mul, Int32.toInt_toInt64, Int64.toInt_add, z_m1, Int32.reduceToInt, Int64.reduceToInt, Int32.reduceToNatClampNeg, Int.bmod_def, or_true, true_or, and_true, true_and] <;> omega)) (by first | omega | (simp only [Int32.toInt_add, Int32.toInt_sub, Int32.toInt_mul, Int32.toInt_toInt64, Int64.toInt_add, z_m1, Int32.reduceToInt, Int64.reduceToInt, Int32.reduceToNatClampNeg, Int.bmod_def, or_true, true_or, and_true, true_and] <;> omega)) hm_15 (by first | assumption | exact z_lt (by assumption) | exact z_lt2 (by assumption) | exact z_lt3 (by assumption) (by first | assumption | decide)) (by first | omega | (simp only [Int32.toInt_add, Int32.toInt_sub, Int32.toInt_mul, Int32.toInt_toInt64, Int64.toInt_add, z_m1, Int32.reduceToInt, Int64.reduceToInt, Int32.reduceToNatClampNeg, Int.bmod_def, or_true, true_or, and_true, true_and] <;> omega)) (by first | omega | (simp only [Int32.toInt_add, Int32.toInt_sub, Int32.toInt_mul, Int32.toInt_toInt64, Int64.toInt_add, z_m1, Int32.reduceToInt, Int64.reduceToInt, Int32.reduceToNatClampNeg, Int.bmod_def, or_true, true_or, and_true, true_and] <;> omega)) (by first | omega | (simp only [Int32.toInt_add, Int32.toInt_sub, Int32.toInt_mul, Int32.toInt_toInt64, Int64.toInt_add, z_m1, Int32.reduceToInt, Int64.reduceToInt, Int32.reduceToNatClampNeg, Int.bmod_def, or_true, true_or, and_true, true_and] <;> omega))
  have T_15 : ∀ (x1_15 : Int32) (x2_15 : Int32) (x3_15 : Int32) (M_15 : zMt) (N_15 : zNt), (∀ a j, ¬ WM_X8_wisest P a j → M_15 a j = M0 a j) → (∀ a j, ¬ WN_X8_wisest P a j → N_15 a j = N0 a j) → (jA P M_15) → (jB P M_15) → (jL P M_15) → (jR P M_15) → (jS P M_15) → (0 ≤ Int32.toInt x3_15) → (Int32.toInt x3_15 ≤ 5) → (0 ≤ Int32.toInt x1_15 ∧ Int32.toInt x1_15 < nA P M_15) → (nA P M_15 ≤ 7) → (Int32.toInt (M_15 P 33) = nA P M_15) → ∃ r, D_X8_wisest_15 P zFu x1_15 x2_15 x3_15 M_15 N_15 = some r ∧ ((∀ a j, ¬ WM_X8_wisest P a j → r.2.1 a j = M0 a j) ∧ (∀ a j, ¬ WN_X8_wisest P a j → r.2.2 a j = N0 a j) ∧ ((jB P r.2.1) ∧ (jS P r.2.1) ∧ (jR P r.2.1))) := fun x1_15 x2_15 x3_15 M_15 N_15 k_15 kn_15 p_jA_15 p_jB_15 p_jL_15 p_jR_15 p_jS_15 f0_15 f1_15 f2_15 f3_15 f4_15 => TL_15 zFu x1_15 x2_15 x3_15 M_15 N_15 k_15 kn_15 p_jA_15 p_jB_15 p_jL_15 p_jR_15 p_jS_15 f0_15 f1_15 f2_15 f3_15 f4_15 (zFu_up _)
  unfold D_X8_wisest
  refine vB (v_X8_putsAside p_jB p_jS) (fun e_1 f_1 q_1 => ?_)
  have k_1 : ∀ a j, ¬ WM_X8_wisest P a j → e_1 a j = M0 a j := fun a j h => (q_1.1 a j (wz_M_X8_putsAside_X8_wisest h))
  have c7_1 : Int32.toInt (e_1 P 7) = Int32.toInt (M0 P 7) := congrArg Int32.toInt (q_1.1 P 7 (wc_X8_putsAside_7))
  have c8_1 : Int32.toInt (e_1 P 8) = Int32.toInt (M0 P 8) := congrArg Int32.toInt (q_1.1 P 8 (wc_X8_putsAside_8))
  have c33_1 : Int32.toInt (e_1 P 33) = Int32.toInt (M0 P 33) := congrArg Int32.toInt (q_1.1 P 33 (wc_X8_putsAside_33))
  have n_1 : nA P e_1 = nA P M0 := nA_congr (fun a j h => q_1.1 a j (wf_nA_X8_putsAside h))
  have p_jB_1 : jB P e_1 := jB.mono p_jB (fun a j h => q_1.1 a j (wf_jB_X8_putsAside h))
  obtain ⟨u0_jB_1, u1_jB_1, u2_jB_1, u3_jB_1, u4_jB_1, u5_jB_1⟩ := id p_jB_1
  have p_jS_1 : jS P e_1 := jS.mono p_jS (fun a j h => q_1.1 a j (wf_jS_X8_putsAside h))
  obtain ⟨u0_jS_1, u1_jS_1, u2_jS_1, u3_jS_1, u4_jS_1, u5_jS_1, u6_jS_1, u7_jS_1⟩ := jS.ints p_jS_1
  have p_jL_1 : jL P e_1 := jL.mono p_jL (fun a j h => q_1.1 a j (wf_jL_X8_putsAside h))
  have p_jR_1 : jR P e_1 := jR.mono p_jR (fun a j h => q_1.1 a j (wf_jR_X8_putsAside h))
  have x0_1 := q_1.2
  refine vLn (W := WN_X8_wisest P) (fun a j h => (zu_ne (wq_X8_wisest_N0_60 h))) (fun N_10 f_10 kn_10 => ?_)
  exact T_15 _ _ _ _ _ k_1 kn_10 x0_1 p_jB_1 p_jL_1 p_jR_1 p_jS_1 (by first | omega | (simp only [Int32.toInt_add, Int32.toInt_sub, Int32.toInt_mul, Int32.toInt_toInt64, Int64.toInt_add, z_m1, Int32.reduceToInt, Int64.reduceToInt, Int32.reduceToNatClampNeg, Int.bmod_def, or_true, true_or, and_true, true_and] <;> omega)) (by first | omega | (simp only [Int32.toInt_add, Int32.toInt_sub, Int32.toInt_mul, Int32.toInt_toInt64, Int64.toInt_add, z_m1, Int32.reduceToInt, Int64.reduceToInt, Int32.reduceToNatClampNeg, Int.bmod_def, or_true, true_or, and_true, true_and] <;> omega)) (by first | omega | (simp only [Int32.toInt_add, Int32.toInt_sub, Int32.toInt_mul, Int32.toInt_toInt64, Int64.toInt_add, z_m1, Int32.reduceToInt, Int64.reduceToInt, Int32.reduceToNatClampNeg, Int.bmod_def, or_true, true_or, and_true, true_and] <;> omega)) (by first | omega | (simp only [Int32.toInt_add, Int32.toInt_sub, Int32.toInt_mul, Int32.toInt_toInt64, Int64.toInt_add, z_m1, Int32.reduceToInt, Int64.reduceToInt, Int32.reduceToNatClampNeg, Int.bmod_def, or_true, true_or, and_true, true_and] <;> omega)) (by first | omega | (simp only [Int32.toInt_add, Int32.toInt_sub, Int32.toInt_mul, Int32.toInt_toInt64, Int64.toInt_add, z_m1, Int32.reduceToInt, Int64.reduceToInt, Int32.reduceToNatClampNeg, Int.bmod_def, or_true, true_or, and_true, true_and] <;> omega))
def WM_X8_wise (P : Nat) (a j : Nat) : Prop := (P + 1 ≤ a ∧ a < P + 2) ∨ (P + 3 ≤ a ∧ a < P + 4) ∨ (P + 11 ≤ a ∧ a < P + 23) ∨ (P + 29 ≤ a ∧ a < P + 30) ∨ (a = P ∧ (j = 6 ∨ j = 12 ∨ j = 33 ∨ j = 54 ∨ j = 55 ∨ j = 56 ∨ j = 57))
def WN_X8_wise (P : Nat) (a j : Nat) : Prop := (P + 24 ≤ a ∧ a < P + 29) ∨ (a = P ∧ (j = 59 ∨ j = 60))
theorem wz_M_X8_isApplicant_X8_wise {P a j : Nat} (h : ¬ WM_X8_wise P a j) : ¬ WM_X8_isApplicant P a j := by unfold WM_X8_isApplicant; unfold WM_X8_wise at h; omega
theorem wz_M_X8_refuse_X8_wise {P a j : Nat} (h : ¬ WM_X8_wise P a j) : ¬ WM_X8_refuse P a j := by unfold WM_X8_refuse; unfold WM_X8_wise at h; omega
theorem wz_M_X8_areMany_X8_wise {P a j : Nat} (h : ¬ WM_X8_wise P a j) : ¬ WM_X8_areMany P a j := by unfold WM_X8_areMany; unfold WM_X8_wise at h; omega
theorem wz_M_X8_wisest_X8_wise {P a j : Nat} (h : ¬ WM_X8_wise P a j) : ¬ WM_X8_wisest P a j := by unfold WM_X8_wisest; unfold WM_X8_wise at h; omega
theorem wz_N_X8_wisest_X8_wise {P a j : Nat} (h : ¬ WN_X8_wise P a j) : ¬ WN_X8_wisest P a j := by unfold WN_X8_wisest; unfold WN_X8_wise at h; omega
theorem wc_X8_wisest_7 {P : Nat} : ¬ WM_X8_wisest P P 7 := by unfold WM_X8_wisest; omega
theorem wc_X8_wisest_8 {P : Nat} : ¬ WM_X8_wisest P P 8 := by unfold WM_X8_wisest; omega
theorem wf_jK_X8_wisest {P a j : Nat} (h : ((a = P ∧ (j = 7 ∨ j = 8 ∨ j = 9)) ∨ a = P + 4)) : ¬ WM_X8_wisest P a j := by unfold WM_X8_wisest; omega
theorem wf_jT_X8_wisest {P a j : Nat} (h : (a = P ∧ (j = 9 ∨ j = 11 ∨ j = 64))) : ¬ WM_X8_wisest P a j := by unfold WM_X8_wisest; omega
theorem wz_M_X8_gives_X8_wise {P a j : Nat} (h : ¬ WM_X8_wise P a j) : ¬ WM_X8_gives P a j := by unfold WM_X8_gives; unfold WM_X8_wise at h; omega
set_option maxRecDepth 100000 in
set_option maxHeartbeats 4000000 in
theorem v_X8_wise {P : Nat} {v0 : Int32} {M0 : zMt} {N0 : zNt}  (p_jB : jB P M0) (p_jS : jS P M0) (p_jR : jR P M0) (p_jK : jK P M0) (p_jT : jT P M0) : ∃ r, D_X8_wise P v0 M0 N0 = some r ∧ ((∀ a j, ¬ WM_X8_wise P a j → r.2.1 a j = M0 a j) ∧ (∀ a j, ¬ WN_X8_wise P a j → r.2.2 a j = N0 a j) ∧ ((jB P r.2.1) ∧ (jS P r.2.1) ∧ (jR P r.2.1) ∧ (jK P r.2.1) ∧ (jT P r.2.1))) := by
  obtain ⟨u0_jB, u1_jB, u2_jB, u3_jB, u4_jB, u5_jB⟩ := id p_jB
  obtain ⟨u0_jS, u1_jS, u2_jS, u3_jS, u4_jS, u5_jS, u6_jS, u7_jS⟩ := jS.ints p_jS
  obtain ⟨u0_jT, u1_jT, u2_jT, u3_jT, u4_jT, u5_jT⟩ := id p_jT
  have T_51 : ∀ (y0_51 : Int32) (M_51 : zMt) (N_51 : zNt), (∀ a j, ¬ WM_X8_wise P a j → M_51 a j = M0 a j) → (∀ a j, ¬ WN_X8_wise P a j → N_51 a j = N0 a j) → (jB P M_51) → (jK P M_51) → (jR P M_51) → (jS P M_51) → (jT P M_51) → ∃ r, D_X8_wise_51 P y0_51 M_51 N_51 = some r ∧ ((∀ a j, ¬ WM_X8_wise P a j → r.2.1 a j = M0 a j) ∧ (∀ a j, ¬ WN_X8_wise P a j → r.2.2 a j = N0 a j) ∧ ((jB P r.2.1) ∧ (jS P r.2.1) ∧ (jR P r.2.1) ∧ (jK P r.2.1) ∧ (jT P r.2.1))) := by
    intro y0_51 M_51 N_51 k_51 kn_51 p_jB_51 p_jK_51 p_jR_51 p_jS_51 p_jT_51
    obtain ⟨u0_jB_51, u1_jB_51, u2_jB_51, u3_jB_51, u4_jB_51, u5_jB_51⟩ := id p_jB_51
    obtain ⟨u0_jS_51, u1_jS_51, u2_jS_51, u3_jS_51, u4_jS_51, u5_jS_51, u6_jS_51, u7_jS_51⟩ := jS.ints p_jS_51
    obtain ⟨u0_jT_51, u1_jT_51, u2_jT_51, u3_jT_51, u4_jT_51, u5_jT_51⟩ := id p_jT_51
    unfold D_X8_wise_51
    exact ⟨_, rfl, k_51, kn_51, ⟨p_jB_51, p_jS_51, p_jR_51, p_jK_51, p_jT_51⟩⟩
  unfold D_X8_wise
  refine vB (v_X8_isApplicant p_jB p_jS) (fun e_2 f_2 q_2 => ?_)
  have k_2 : ∀ a j, ¬ WM_X8_wise P a j → e_2.2 a j = M0 a j := fun a j h => (q_2.1 a j (wz_M_X8_isApplicant_X8_wise h))
  have b_2 := q_2.2.1
  have c7_2 : Int32.toInt (e_2.2 P 7) = Int32.toInt (M0 P 7) := congrArg Int32.toInt (q_2.1 P 7 (wc_X8_isApplicant_7))
  have c8_2 : Int32.toInt (e_2.2 P 8) = Int32.toInt (M0 P 8) := congrArg Int32.toInt (q_2.1 P 8 (wc_X8_isApplicant_8))
  have n_2 : nA P e_2.2 = nA P M0 := nA_congr (fun a j h => q_2.1 a j (wf_nA_X8_isApplicant h))
  have p_jS_2 : jS P e_2.2 := jS.mono p_jS (fun a j h => q_2.1 a j (wf_jS_X8_isApplicant h))
  obtain ⟨u0_jS_2, u1_jS_2, u2_jS_2, u3_jS_2, u4_jS_2, u5_jS_2, u6_jS_2, u7_jS_2⟩ := jS.ints p_jS_2
  have p_jR_2 : jR P e_2.2 := jR.mono p_jR (fun a j h => q_2.1 a j (wf_jR_X8_isApplicant h))
  have p_jK_2 : jK P e_2.2 := jK.mono p_jK (fun a j h => q_2.1 a j (wf_jK_X8_isApplicant h))
  have p_jT_2 : jT P e_2.2 := jT.mono p_jT (fun a j h => q_2.1 a j (wf_jT_X8_isApplicant h))
  obtain ⟨u0_jT_2, u1_jT_2, u2_jT_2, u3_jT_2, u4_jT_2, u5_jT_2⟩ := id p_jT_2
  obtain ⟨x0_2, x1_2, x2_2, x3_2, x4_2⟩ := q_2.2.2
  obtain ⟨u0_jB_2, u1_jB_2, u2_jB_2, u3_jB_2, u4_jB_2, u5_jB_2⟩ := id x0_2
  (try simp only [Int32.toInt_add, Int32.toInt_sub, Int32.toInt_mul, Int32.toInt_toInt64, Int64.toInt_add, z_m1, Int32.reduceToInt, Int64.reduceToInt, Int32.reduceToNatClampNeg, Int.bmod_def] at x3_2)
  (try simp only [Int32.toInt_add, Int32.toInt_sub, Int32.toInt_mul, Int32.toInt_toInt64, Int64.toInt_add, z_m1, Int32.reduceToInt, Int64.reduceToInt, Int32.reduceToNatClampNeg, Int.bmod_def] at x4_2)
  refine vIf (fun h_5 => ?_) (fun h_5 => ?_)
  · have i_5 := congrArg Int32.toInt h_5
    (try simp only [Int32.toInt_add, Int32.toInt_sub, Int32.toInt_mul, Int32.toInt_toInt64, Int64.toInt_add, z_m1, Int32.reduceToInt, Int64.reduceToInt, Int32.reduceToNatClampNeg, Int.bmod_def] at i_5)
    refine vB (v_X8_refuse) (fun e_10 f_10 q_10 => ?_)
    have k_10 : ∀ a j, ¬ WM_X8_wise P a j → e_10.2 a j = M0 a j := fun a j h => (q_10 a j (wz_M_X8_refuse_X8_wise h)).trans (k_2 a j h)
    have c7_10 : Int32.toInt (e_10.2 P 7) = Int32.toInt (e_2.2 P 7) := congrArg Int32.toInt (q_10 P 7 (wc_X8_refuse_7))
    have c8_10 : Int32.toInt (e_10.2 P 8) = Int32.toInt (e_2.2 P 8) := congrArg Int32.toInt (q_10 P 8 (wc_X8_refuse_8))
    have c33_10 : Int32.toInt (e_10.2 P 33) = Int32.toInt (e_2.2 P 33) := congrArg Int32.toInt (q_10 P 33 (wc_X8_refuse_33))
    have n_10 : nA P e_10.2 = nA P e_2.2 := nA_congr (fun a j h => q_10 a j (wf_nA_X8_refuse h))
    have p_jS_10 : jS P e_10.2 := jS.mono p_jS_2 (fun a j h => q_10 a j (wf_jS_X8_refuse h))
    obtain ⟨u0_jS_10, u1_jS_10, u2_jS_10, u3_jS_10, u4_jS_10, u5_jS_10, u6_jS_10, u7_jS_10⟩ := jS.ints p_jS_10
    have p_jR_10 : jR P e_10.2 := jR.mono p_jR_2 (fun a j h => q_10 a j (wf_jR_X8_refuse h))
    have p_jK_10 : jK P e_10.2 := jK.mono p_jK_2 (fun a j h => q_10 a j (wf_jK_X8_refuse h))
    have p_jT_10 : jT P e_10.2 := jT.mono p_jT_2 (fun a j h => q_10 a j (wf_jT_X8_refuse h))
    obtain ⟨u0_jT_10, u1_jT_10, u2_jT_10, u3_jT_10, u4_jT_10, u5_jT_10⟩ := id p_jT_10
    have p_jB_10 : jB P e_10.2 := jB.mono x0_2 (fun a j h => q_10 a j (wf_jB_X8_refuse h))
    obtain ⟨u0_jB_10, u1_jB_10, u2_jB_10, u3_jB_10, u4_jB_10, u5_jB_10⟩ := id p_jB_10
    have p_jL_10 : jL P e_10.2 := jL.mono x1_2 (fun a j h => q_10 a j (wf_jL_X8_refuse h))
    have p_jH_10 : jH P e_10.2 := jH.mono x2_2 (fun a j h => q_10 a j (wf_jH_X8_refuse h))
    exact ⟨_, rfl, k_10, (fun _ _ _ => rfl), ⟨p_jB_10, p_jS_10, p_jR_10, p_jK_10, p_jT_10⟩⟩
  · have i_5 : ¬ Int32.toInt e_2.1 = Int32.toInt (0 : Int32) := fun q => h_5 (Int32.toInt_inj.mp q)
    (try simp only [Int32.toInt_add, Int32.toInt_sub, Int32.toInt_mul, Int32.toInt_toInt64, Int64.toInt_add, z_m1, Int32.reduceToInt, Int64.reduceToInt, Int32.reduceToNatClampNeg, Int.bmod_def] at i_5)
    refine vB (v_X8_areMany x0_2 p_jS_2) (fun e_15 f_15 q_15 => ?_)
    have k_15 : ∀ a j, ¬ WM_X8_wise P a j → e_15.2 a j = M0 a j := fun a j h => (q_15.1 a j (wz_M_X8_areMany_X8_wise h)).trans (k_2 a j h)
    have b_15 := q_15.2.1
    have c7_15 : Int32.toInt (e_15.2 P 7) = Int32.toInt (e_2.2 P 7) := congrArg Int32.toInt (q_15.1 P 7 (wc_X8_areMany_7))
    have c8_15 : Int32.toInt (e_15.2 P 8) = Int32.toInt (e_2.2 P 8) := congrArg Int32.toInt (q_15.1 P 8 (wc_X8_areMany_8))
    have n_15 : nA P e_15.2 = nA P e_2.2 := nA_congr (fun a j h => q_15.1 a j (wf_nA_X8_areMany h))
    have p_jS_15 : jS P e_15.2 := jS.mono p_jS_2 (fun a j h => q_15.1 a j (wf_jS_X8_areMany h))
    obtain ⟨u0_jS_15, u1_jS_15, u2_jS_15, u3_jS_15, u4_jS_15, u5_jS_15, u6_jS_15, u7_jS_15⟩ := jS.ints p_jS_15
    have p_jR_15 : jR P e_15.2 := jR.mono p_jR_2 (fun a j h => q_15.1 a j (wf_jR_X8_areMany h))
    have p_jK_15 : jK P e_15.2 := jK.mono p_jK_2 (fun a j h => q_15.1 a j (wf_jK_X8_areMany h))
    have p_jT_15 : jT P e_15.2 := jT.mono p_jT_2 (fun a j h => q_15.1 a j (wf_jT_X8_areMany h))
    obtain ⟨u0_jT_15, u1_jT_15, u2_jT_15, u3_jT_15, u4_jT_15, u5_jT_15⟩ := id p_jT_15
    obtain ⟨x0_15, x1_15, x2_15, x3_15, x4_15⟩ := q_15.2.2
    obtain ⟨u0_jB_15, u1_jB_15, u2_jB_15, u3_jB_15, u4_jB_15, u5_jB_15⟩ := id x0_15
    (try simp only [Int32.toInt_add, Int32.toInt_sub, Int32.toInt_mul, Int32.toInt_toInt64, Int64.toInt_add, z_m1, Int32.reduceToInt, Int64.reduceToInt, Int32.reduceToNatClampNeg, Int.bmod_def] at x3_15)
    (try simp only [Int32.toInt_add, Int32.toInt_sub, Int32.toInt_mul, Int32.toInt_toInt64, Int64.toInt_add, z_m1, Int32.reduceToInt, Int64.reduceToInt, Int32.reduceToNatClampNeg, Int.bmod_def] at x4_15)
    refine vIf (fun h_18 => ?_) (fun h_18 => ?_)
    · have i_18 := congrArg Int32.toInt h_18
      (try simp only [Int32.toInt_add, Int32.toInt_sub, Int32.toInt_mul, Int32.toInt_toInt64, Int64.toInt_add, z_m1, Int32.reduceToInt, Int64.reduceToInt, Int32.reduceToNatClampNeg, Int.bmod_def] at i_18)
      refine vB (v_X8_wisest x0_15 p_jS_15 x1_15 p_jR_15 (by first | omega | (simp only [Int32.toInt_add, Int32.toInt_sub, Int32.toInt_mul, Int32.toInt_toInt64, Int64.toInt_add, z_m1, Int32.reduceToInt, Int64.reduceToInt, Int32.reduceToNatClampNeg, Int.bmod_def, or_true, true_or, and_true, true_and] <;> omega)) (by first | omega | (simp only [Int32.toInt_add, Int32.toInt_sub, Int32.toInt_mul, Int32.toInt_toInt64, Int64.toInt_add, z_m1, Int32.reduceToInt, Int64.reduceToInt, Int32.reduceToNatClampNeg, Int.bmod_def, or_true, true_or, and_true, true_and] <;> omega)) (by first | omega | (simp only [Int32.toInt_add, Int32.toInt_sub, Int32.toInt_mul, Int32.toInt_toInt64, Int64.toInt_add, z_m1, Int32.reduceToInt, Int64.reduceToInt, Int32.reduceToNatClampNeg, Int.bmod_def, or_true, true_or, and_true, true_and] <;> omega)) (by first | omega | (simp only [Int32.toInt_add, Int32.toInt_sub, Int32.toInt_mul, Int32.toInt_toInt64, Int64.toInt_add, z_m1, Int32.reduceToInt, Int64.reduceToInt, Int32.reduceToNatClampNeg, Int.bmod_def, or_true, true_or, and_true, true_and] <;> omega))) (fun e_29 f_29 q_29 => ?_)
      have k_29 : ∀ a j, ¬ WM_X8_wise P a j → e_29.2.1 a j = M0 a j := fun a j h => (q_29.1 a j (wz_M_X8_wisest_X8_wise h)).trans (k_15 a j h)
      have kn_29 : ∀ a j, ¬ WN_X8_wise P a j → e_29.2.2 a j = N0 a j := fun a j h => (q_29.2.1 a j (wz_N_X8_wisest_X8_wise h))
      have c7_29 : Int32.toInt (e_29.2.1 P 7) = Int32.toInt (e_15.2 P 7) := congrArg Int32.toInt (q_29.1 P 7 (wc_X8_wisest_7))
      have c8_29 : Int32.toInt (e_29.2.1 P 8) = Int32.toInt (e_15.2 P 8) := congrArg Int32.toInt (q_29.1 P 8 (wc_X8_wisest_8))
      have p_jK_29 : jK P e_29.2.1 := jK.mono p_jK_15 (fun a j h => q_29.1 a j (wf_jK_X8_wisest h))
      have p_jT_29 : jT P e_29.2.1 := jT.mono p_jT_15 (fun a j h => q_29.1 a j (wf_jT_X8_wisest h))
      obtain ⟨u0_jT_29, u1_jT_29, u2_jT_29, u3_jT_29, u4_jT_29, u5_jT_29⟩ := id p_jT_29
      obtain ⟨x0_29, x1_29, x2_29⟩ := q_29.2.2
      obtain ⟨u0_jB_29, u1_jB_29, u2_jB_29, u3_jB_29, u4_jB_29, u5_jB_29⟩ := id x0_29
      obtain ⟨u0_jS_29, u1_jS_29, u2_jS_29, u3_jS_29, u4_jS_29, u5_jS_29, u6_jS_29, u7_jS_29⟩ := jS.ints x1_29
      refine vIf (fun h_35 => ?_) (fun h_35 => ?_)
      · have i_35 := congrArg Int32.toInt h_35
        (try simp only [Int32.toInt_add, Int32.toInt_sub, Int32.toInt_mul, Int32.toInt_toInt64, Int64.toInt_add, z_m1, Int32.reduceToInt, Int64.reduceToInt, Int32.reduceToNatClampNeg, Int.bmod_def] at i_35)
        refine vB (v_X8_refuse) (fun e_40 f_40 q_40 => ?_)
        have k_40 : ∀ a j, ¬ WM_X8_wise P a j → e_40.2 a j = M0 a j := fun a j h => (q_40 a j (wz_M_X8_refuse_X8_wise h)).trans (k_29 a j h)
        have c7_40 : Int32.toInt (e_40.2 P 7) = Int32.toInt (e_29.2.1 P 7) := congrArg Int32.toInt (q_40 P 7 (wc_X8_refuse_7))
        have c8_40 : Int32.toInt (e_40.2 P 8) = Int32.toInt (e_29.2.1 P 8) := congrArg Int32.toInt (q_40 P 8 (wc_X8_refuse_8))
        have c33_40 : Int32.toInt (e_40.2 P 33) = Int32.toInt (e_29.2.1 P 33) := congrArg Int32.toInt (q_40 P 33 (wc_X8_refuse_33))
        have n_40 : nA P e_40.2 = nA P e_29.2.1 := nA_congr (fun a j h => q_40 a j (wf_nA_X8_refuse h))
        have p_jK_40 : jK P e_40.2 := jK.mono p_jK_29 (fun a j h => q_40 a j (wf_jK_X8_refuse h))
        have p_jT_40 : jT P e_40.2 := jT.mono p_jT_29 (fun a j h => q_40 a j (wf_jT_X8_refuse h))
        obtain ⟨u0_jT_40, u1_jT_40, u2_jT_40, u3_jT_40, u4_jT_40, u5_jT_40⟩ := id p_jT_40
        have p_jB_40 : jB P e_40.2 := jB.mono x0_29 (fun a j h => q_40 a j (wf_jB_X8_refuse h))
        obtain ⟨u0_jB_40, u1_jB_40, u2_jB_40, u3_jB_40, u4_jB_40, u5_jB_40⟩ := id p_jB_40
        have p_jS_40 : jS P e_40.2 := jS.mono x1_29 (fun a j h => q_40 a j (wf_jS_X8_refuse h))
        obtain ⟨u0_jS_40, u1_jS_40, u2_jS_40, u3_jS_40, u4_jS_40, u5_jS_40, u6_jS_40, u7_jS_40⟩ := jS.ints p_jS_40
        have p_jR_40 : jR P e_40.2 := jR.mono x2_29 (fun a j h => q_40 a j (wf_jR_X8_refuse h))
        exact T_51 _ _ _ k_40 kn_29 p_jB_40 p_jK_40 p_jR_40 p_jS_40 p_jT_40
      · have i_35 : ¬ Int32.toInt e_29.1 = Int32.toInt (-1 : Int32) := fun q => h_35 (Int32.toInt_inj.mp q)
        (try simp only [Int32.toInt_add, Int32.toInt_sub, Int32.toInt_mul, Int32.toInt_toInt64, Int64.toInt_add, z_m1, Int32.reduceToInt, Int64.reduceToInt, Int32.reduceToNatClampNeg, Int.bmod_def] at i_35)
        refine vB (v_X8_gives) (fun e_48 f_48 q_48 => ?_)
        have k_48 : ∀ a j, ¬ WM_X8_wise P a j → e_48.2 a j = M0 a j := fun a j h => (q_48 a j (wz_M_X8_gives_X8_wise h)).trans (k_29 a j h)
        have c7_48 : Int32.toInt (e_48.2 P 7) = Int32.toInt (e_29.2.1 P 7) := congrArg Int32.toInt (q_48 P 7 (wc_X8_gives_7))
        have c8_48 : Int32.toInt (e_48.2 P 8) = Int32.toInt (e_29.2.1 P 8) := congrArg Int32.toInt (q_48 P 8 (wc_X8_gives_8))
        have c33_48 : Int32.toInt (e_48.2 P 33) = Int32.toInt (e_29.2.1 P 33) := congrArg Int32.toInt (q_48 P 33 (wc_X8_gives_33))
        have n_48 : nA P e_48.2 = nA P e_29.2.1 := nA_congr (fun a j h => q_48 a j (wf_nA_X8_gives h))
        have p_jK_48 : jK P e_48.2 := jK.mono p_jK_29 (fun a j h => q_48 a j (wf_jK_X8_gives h))
        have p_jT_48 : jT P e_48.2 := jT.mono p_jT_29 (fun a j h => q_48 a j (wf_jT_X8_gives h))
        obtain ⟨u0_jT_48, u1_jT_48, u2_jT_48, u3_jT_48, u4_jT_48, u5_jT_48⟩ := id p_jT_48
        have p_jB_48 : jB P e_48.2 := jB.mono x0_29 (fun a j h => q_48 a j (wf_jB_X8_gives h))
        obtain ⟨u0_jB_48, u1_jB_48, u2_jB_48, u3_jB_48, u4_jB_48, u5_jB_48⟩ := id p_jB_48
        have p_jS_48 : jS P e_48.2 := jS.mono x1_29 (fun a j h => q_48 a j (wf_jS_X8_gives h))
        obtain ⟨u0_jS_48, u1_jS_48, u2_jS_48, u3_jS_48, u4_jS_48, u5_jS_48, u6_jS_48, u7_jS_48⟩ := jS.ints p_jS_48
        have p_jR_48 : jR P e_48.2 := jR.mono x2_29 (fun a j h => q_48 a j (wf_jR_X8_gives h))
        exact T_51 _ _ _ k_48 kn_29 p_jB_48 p_jK_48 p_jR_48 p_jS_48 p_jT_48
    · have i_18 : ¬ Int32.toInt e_15.1 = Int32.toInt (0 : Int32) := fun q => h_18 (Int32.toInt_inj.mp q)
      (try simp only [Int32.toInt_add, Int32.toInt_sub, Int32.toInt_mul, Int32.toInt_toInt64, Int64.toInt_add, z_m1, Int32.reduceToInt, Int64.reduceToInt, Int32.reduceToNatClampNeg, Int.bmod_def] at i_18)
      refine vB (v_X8_refuse) (fun e_23 f_23 q_23 => ?_)
      have k_23 : ∀ a j, ¬ WM_X8_wise P a j → e_23.2 a j = M0 a j := fun a j h => (q_23 a j (wz_M_X8_refuse_X8_wise h)).trans (k_15 a j h)
      have c7_23 : Int32.toInt (e_23.2 P 7) = Int32.toInt (e_15.2 P 7) := congrArg Int32.toInt (q_23 P 7 (wc_X8_refuse_7))
      have c8_23 : Int32.toInt (e_23.2 P 8) = Int32.toInt (e_15.2 P 8) := congrArg Int32.toInt (q_23 P 8 (wc_X8_refuse_8))
      have c33_23 : Int32.toInt (e_23.2 P 33) = Int32.toInt (e_15.2 P 33) := congrArg Int32.toInt (q_23 P 33 (wc_X8_refuse_33))
      have n_23 : nA P e_23.2 = nA P e_15.2 := nA_congr (fun a j h => q_23 a j (wf_nA_X8_refuse h))
      have p_jS_23 : jS P e_23.2 := jS.mono p_jS_15 (fun a j h => q_23 a j (wf_jS_X8_refuse h))
      obtain ⟨u0_jS_23, u1_jS_23, u2_jS_23, u3_jS_23, u4_jS_23, u5_jS_23, u6_jS_23, u7_jS_23⟩ := jS.ints p_jS_23
      have p_jR_23 : jR P e_23.2 := jR.mono p_jR_15 (fun a j h => q_23 a j (wf_jR_X8_refuse h))
      have p_jK_23 : jK P e_23.2 := jK.mono p_jK_15 (fun a j h => q_23 a j (wf_jK_X8_refuse h))
      have p_jT_23 : jT P e_23.2 := jT.mono p_jT_15 (fun a j h => q_23 a j (wf_jT_X8_refuse h))
      obtain ⟨u0_jT_23, u1_jT_23, u2_jT_23, u3_jT_23, u4_jT_23, u5_jT_23⟩ := id p_jT_23
      have p_jB_23 : jB P e_23.2 := jB.mono x0_15 (fun a j h => q_23 a j (wf_jB_X8_refuse h))
      obtain ⟨u0_jB_23, u1_jB_23, u2_jB_23, u3_jB_23, u4_jB_23, u5_jB_23⟩ := id p_jB_23
      have p_jL_23 : jL P e_23.2 := jL.mono x1_15 (fun a j h => q_23 a j (wf_jL_X8_refuse h))
      have p_jH_23 : jH P e_23.2 := jH.mono x2_15 (fun a j h => q_23 a j (wf_jH_X8_refuse h))
      exact ⟨_, rfl, k_23, (fun _ _ _ => rfl), ⟨p_jB_23, p_jS_23, p_jR_23, p_jK_23, p_jT_23⟩⟩
def WM_X8_wiseChance (P : Nat) (a j : Nat) : Prop := (P + 1 ≤ a ∧ a < P + 2) ∨ (P + 3 ≤ a ∧ a < P + 4) ∨ (P + 11 ≤ a ∧ a < P + 23) ∨ (P + 29 ≤ a ∧ a < P + 30) ∨ (a = P ∧ (j = 6 ∨ j = 12 ∨ j = 33 ∨ j = 54 ∨ j = 55 ∨ j = 56 ∨ j = 57))
def WN_X8_wiseChance (P : Nat) (a j : Nat) : Prop := (P + 24 ≤ a ∧ a < P + 29) ∨ (a = P ∧ (j = 59 ∨ j = 60))
theorem wz_M_X8_isApplicant_X8_wiseChance {P a j : Nat} (h : ¬ WM_X8_wiseChance P a j) : ¬ WM_X8_isApplicant P a j := by unfold WM_X8_isApplicant; unfold WM_X8_wiseChance at h; omega
theorem wz_M_X8_refuse_X8_wiseChance {P a j : Nat} (h : ¬ WM_X8_wiseChance P a j) : ¬ WM_X8_refuse P a j := by unfold WM_X8_refuse; unfold WM_X8_wiseChance at h; omega
theorem wz_M_X8_areMany_X8_wiseChance {P a j : Nat} (h : ¬ WM_X8_wiseChance P a j) : ¬ WM_X8_areMany P a j := by unfold WM_X8_areMany; unfold WM_X8_wiseChance at h; omega
theorem wz_M_X8_wisest_X8_wiseChance {P a j : Nat} (h : ¬ WM_X8_wiseChance P a j) : ¬ WM_X8_wisest P a j := by unfold WM_X8_wisest; unfold WM_X8_wiseChance at h; omega
theorem wz_N_X8_wisest_X8_wiseChance {P a j : Nat} (h : ¬ WN_X8_wiseChance P a j) : ¬ WN_X8_wisest P a j := by unfold WN_X8_wisest; unfold WN_X8_wiseChance at h; omega
theorem wz_M_X8_givesLong_X8_wiseChance {P a j : Nat} (h : ¬ WM_X8_wiseChance P a j) : ¬ WM_X8_givesLong P a j := by unfold WM_X8_givesLong; unfold WM_X8_wiseChance at h; omega
set_option maxRecDepth 100000 in
set_option maxHeartbeats 4000000 in
theorem v_X8_wiseChance {P : Nat} {v0 : Int32} {M0 : zMt} {N0 : zNt}  (p_jB : jB P M0) (p_jS : jS P M0) (p_jR : jR P M0) (p_jK : jK P M0) (p_jT : jT P M0) : ∃ r, D_X8_wiseChance P v0 M0 N0 = some r ∧ ((∀ a j, ¬ WM_X8_wiseChance P a j → r.2.1 a j = M0 a j) ∧ (∀ a j, ¬ WN_X8_wiseChance P a j → r.2.2 a j = N0 a j) ∧ ((jB P r.2.1) ∧ (jS P r.2.1) ∧ (jR P r.2.1) ∧ (jK P r.2.1) ∧ (jT P r.2.1))) := by
  obtain ⟨u0_jB, u1_jB, u2_jB, u3_jB, u4_jB, u5_jB⟩ := id p_jB
  obtain ⟨u0_jS, u1_jS, u2_jS, u3_jS, u4_jS, u5_jS, u6_jS, u7_jS⟩ := jS.ints p_jS
  obtain ⟨u0_jT, u1_jT, u2_jT, u3_jT, u4_jT, u5_jT⟩ := id p_jT
  have T_55 : ∀ (y0_55 : Int64) (M_55 : zMt) (N_55 : zNt), (∀ a j, ¬ WM_X8_wiseChance P a j → M_55 a j = M0 a j) → (∀ a j, ¬ WN_X8_wiseChance P a j → N_55 a j = N0 a j) → (jB P M_55) → (jK P M_55) → (jR P M_55) → (jS P M_55) → (jT P M_55) → ∃ r, D_X8_wiseChance_55 P y0_55 M_55 N_55 = some r ∧ ((∀ a j, ¬ WM_X8_wiseChance P a j → r.2.1 a j = M0 a j) ∧ (∀ a j, ¬ WN_X8_wiseChance P a j → r.2.2 a j = N0 a j) ∧ ((jB P r.2.1) ∧ (jS P r.2.1) ∧ (jR P r.2.1) ∧ (jK P r.2.1) ∧ (jT P r.2.1))) := by
    intro y0_55 M_55 N_55 k_55 kn_55 p_jB_55 p_jK_55 p_jR_55 p_jS_55 p_jT_55
    obtain ⟨u0_jB_55, u1_jB_55, u2_jB_55, u3_jB_55, u4_jB_55, u5_jB_55⟩ := id p_jB_55
    obtain ⟨u0_jS_55, u1_jS_55, u2_jS_55, u3_jS_55, u4_jS_55, u5_jS_55, u6_jS_55, u7_jS_55⟩ := jS.ints p_jS_55
    obtain ⟨u0_jT_55, u1_jT_55, u2_jT_55, u3_jT_55, u4_jT_55, u5_jT_55⟩ := id p_jT_55
    unfold D_X8_wiseChance_55
    exact ⟨_, rfl, k_55, kn_55, ⟨p_jB_55, p_jS_55, p_jR_55, p_jK_55, p_jT_55⟩⟩
  unfold D_X8_wiseChance
  refine vB (v_X8_isApplicant p_jB p_jS) (fun e_2 f_2 q_2 => ?_)
  have k_2 : ∀ a j, ¬ WM_X8_wiseChance P a j → e_2.2 a j = M0 a j := fun a j h => (q_2.1 a j (wz_M_X8_isApplicant_X8_wiseChance h))
  have b_2 := q_2.2.1
  have c7_2 : Int32.toInt (e_2.2 P 7) = Int32.toInt (M0 P 7) := congrArg Int32.toInt (q_2.1 P 7 (wc_X8_isApplicant_7))
  have c8_2 : Int32.toInt (e_2.2 P 8) = Int32.toInt (M0 P 8) := congrArg Int32.toInt (q_2.1 P 8 (wc_X8_isApplicant_8))
  have n_2 : nA P e_2.2 = nA P M0 := nA_congr (fun a j h => q_2.1 a j (wf_nA_X8_isApplicant h))
  have p_jS_2 : jS P e_2.2 := jS.mono p_jS (fun a j h => q_2.1 a j (wf_jS_X8_isApplicant h))
  obtain ⟨u0_jS_2, u1_jS_2, u2_jS_2, u3_jS_2, u4_jS_2, u5_jS_2, u6_jS_2, u7_jS_2⟩ := jS.ints p_jS_2
  have p_jR_2 : jR P e_2.2 := jR.mono p_jR (fun a j h => q_2.1 a j (wf_jR_X8_isApplicant h))
  have p_jK_2 : jK P e_2.2 := jK.mono p_jK (fun a j h => q_2.1 a j (wf_jK_X8_isApplicant h))
  have p_jT_2 : jT P e_2.2 := jT.mono p_jT (fun a j h => q_2.1 a j (wf_jT_X8_isApplicant h))
  obtain ⟨u0_jT_2, u1_jT_2, u2_jT_2, u3_jT_2, u4_jT_2, u5_jT_2⟩ := id p_jT_2
  obtain ⟨x0_2, x1_2, x2_2, x3_2, x4_2⟩ := q_2.2.2
  obtain ⟨u0_jB_2, u1_jB_2, u2_jB_2, u3_jB_2, u4_jB_2, u5_jB_2⟩ := id x0_2
  (try simp only [Int32.toInt_add, Int32.toInt_sub, Int32.toInt_mul, Int32.toInt_toInt64, Int64.toInt_add, z_m1, Int32.reduceToInt, Int64.reduceToInt, Int32.reduceToNatClampNeg, Int.bmod_def] at x3_2)
  (try simp only [Int32.toInt_add, Int32.toInt_sub, Int32.toInt_mul, Int32.toInt_toInt64, Int64.toInt_add, z_m1, Int32.reduceToInt, Int64.reduceToInt, Int32.reduceToNatClampNeg, Int.bmod_def] at x4_2)
  refine vIf (fun h_5 => ?_) (fun h_5 => ?_)
  · have i_5 := congrArg Int32.toInt h_5
    (try simp only [Int32.toInt_add, Int32.toInt_sub, Int32.toInt_mul, Int32.toInt_toInt64, Int64.toInt_add, z_m1, Int32.reduceToInt, Int64.reduceToInt, Int32.reduceToNatClampNeg, Int.bmod_def] at i_5)
    refine vB (v_X8_refuse) (fun e_10 f_10 q_10 => ?_)
    have k_10 : ∀ a j, ¬ WM_X8_wiseChance P a j → e_10.2 a j = M0 a j := fun a j h => (q_10 a j (wz_M_X8_refuse_X8_wiseChance h)).trans (k_2 a j h)
    have c7_10 : Int32.toInt (e_10.2 P 7) = Int32.toInt (e_2.2 P 7) := congrArg Int32.toInt (q_10 P 7 (wc_X8_refuse_7))
    have c8_10 : Int32.toInt (e_10.2 P 8) = Int32.toInt (e_2.2 P 8) := congrArg Int32.toInt (q_10 P 8 (wc_X8_refuse_8))
    have c33_10 : Int32.toInt (e_10.2 P 33) = Int32.toInt (e_2.2 P 33) := congrArg Int32.toInt (q_10 P 33 (wc_X8_refuse_33))
    have n_10 : nA P e_10.2 = nA P e_2.2 := nA_congr (fun a j h => q_10 a j (wf_nA_X8_refuse h))
    have p_jS_10 : jS P e_10.2 := jS.mono p_jS_2 (fun a j h => q_10 a j (wf_jS_X8_refuse h))
    obtain ⟨u0_jS_10, u1_jS_10, u2_jS_10, u3_jS_10, u4_jS_10, u5_jS_10, u6_jS_10, u7_jS_10⟩ := jS.ints p_jS_10
    have p_jR_10 : jR P e_10.2 := jR.mono p_jR_2 (fun a j h => q_10 a j (wf_jR_X8_refuse h))
    have p_jK_10 : jK P e_10.2 := jK.mono p_jK_2 (fun a j h => q_10 a j (wf_jK_X8_refuse h))
    have p_jT_10 : jT P e_10.2 := jT.mono p_jT_2 (fun a j h => q_10 a j (wf_jT_X8_refuse h))
    obtain ⟨u0_jT_10, u1_jT_10, u2_jT_10, u3_jT_10, u4_jT_10, u5_jT_10⟩ := id p_jT_10
    have p_jB_10 : jB P e_10.2 := jB.mono x0_2 (fun a j h => q_10 a j (wf_jB_X8_refuse h))
    obtain ⟨u0_jB_10, u1_jB_10, u2_jB_10, u3_jB_10, u4_jB_10, u5_jB_10⟩ := id p_jB_10
    have p_jL_10 : jL P e_10.2 := jL.mono x1_2 (fun a j h => q_10 a j (wf_jL_X8_refuse h))
    have p_jH_10 : jH P e_10.2 := jH.mono x2_2 (fun a j h => q_10 a j (wf_jH_X8_refuse h))
    exact ⟨_, rfl, k_10, (fun _ _ _ => rfl), ⟨p_jB_10, p_jS_10, p_jR_10, p_jK_10, p_jT_10⟩⟩
  · have i_5 : ¬ Int32.toInt e_2.1 = Int32.toInt (0 : Int32) := fun q => h_5 (Int32.toInt_inj.mp q)
    (try simp only [Int32.toInt_add, Int32.toInt_sub, Int32.toInt_mul, Int32.toInt_toInt64, Int64.toInt_add, z_m1, Int32.reduceToInt, Int64.reduceToInt, Int32.reduceToNatClampNeg, Int.bmod_def] at i_5)
    refine vB (v_X8_areMany x0_2 p_jS_2) (fun e_16 f_16 q_16 => ?_)
    have k_16 : ∀ a j, ¬ WM_X8_wiseChance P a j → e_16.2 a j = M0 a j := fun a j h => (q_16.1 a j (wz_M_X8_areMany_X8_wiseChance h)).trans (k_2 a j h)
    have b_16 := q_16.2.1
    have c7_16 : Int32.toInt (e_16.2 P 7) = Int32.toInt (e_2.2 P 7) := congrArg Int32.toInt (q_16.1 P 7 (wc_X8_areMany_7))
    have c8_16 : Int32.toInt (e_16.2 P 8) = Int32.toInt (e_2.2 P 8) := congrArg Int32.toInt (q_16.1 P 8 (wc_X8_areMany_8))
    have n_16 : nA P e_16.2 = nA P e_2.2 := nA_congr (fun a j h => q_16.1 a j (wf_nA_X8_areMany h))
    have p_jS_16 : jS P e_16.2 := jS.mono p_jS_2 (fun a j h => q_16.1 a j (wf_jS_X8_areMany h))
    obtain ⟨u0_jS_16, u1_jS_16, u2_jS_16, u3_jS_16, u4_jS_16, u5_jS_16, u6_jS_16, u7_jS_16⟩ := jS.ints p_jS_16
    have p_jR_16 : jR P e_16.2 := jR.mono p_jR_2 (fun a j h => q_16.1 a j (wf_jR_X8_areMany h))
    have p_jK_16 : jK P e_16.2 := jK.mono p_jK_2 (fun a j h => q_16.1 a j (wf_jK_X8_areMany h))
    have p_jT_16 : jT P e_16.2 := jT.mono p_jT_2 (fun a j h => q_16.1 a j (wf_jT_X8_areMany h))
    obtain ⟨u0_jT_16, u1_jT_16, u2_jT_16, u3_jT_16, u4_jT_16, u5_jT_16⟩ := id p_jT_16
    obtain ⟨x0_16, x1_16, x2_16, x3_16, x4_16⟩ := q_16.2.2
    obtain ⟨u0_jB_16, u1_jB_16, u2_jB_16, u3_jB_16, u4_jB_16, u5_jB_16⟩ := id x0_16
    (try simp only [Int32.toInt_add, Int32.toInt_sub, Int32.toInt_mul, Int32.toInt_toInt64, Int64.toInt_add, z_m1, Int32.reduceToInt, Int64.reduceToInt, Int32.reduceToNatClampNeg, Int.bmod_def] at x3_16)
    (try simp only [Int32.toInt_add, Int32.toInt_sub, Int32.toInt_mul, Int32.toInt_toInt64, Int64.toInt_add, z_m1, Int32.reduceToInt, Int64.reduceToInt, Int32.reduceToNatClampNeg, Int.bmod_def] at x4_16)
    refine vIf (fun h_19 => ?_) (fun h_19 => ?_)
    · have i_19 := congrArg Int32.toInt h_19
      (try simp only [Int32.toInt_add, Int32.toInt_sub, Int32.toInt_mul, Int32.toInt_toInt64, Int64.toInt_add, z_m1, Int32.reduceToInt, Int64.reduceToInt, Int32.reduceToNatClampNeg, Int.bmod_def] at i_19)
      refine vB (v_X8_wisest x0_16 p_jS_16 x1_16 p_jR_16 (by first | omega | (simp only [Int32.toInt_add, Int32.toInt_sub, Int32.toInt_mul, Int32.toInt_toInt64, Int64.toInt_add, z_m1, Int32.reduceToInt, Int64.reduceToInt, Int32.reduceToNatClampNeg, Int.bmod_def, or_true, true_or, and_true, true_and] <;> omega)) (by first | omega | (simp only [Int32.toInt_add, Int32.toInt_sub, Int32.toInt_mul, Int32.toInt_toInt64, Int64.toInt_add, z_m1, Int32.reduceToInt, Int64.reduceToInt, Int32.reduceToNatClampNeg, Int.bmod_def, or_true, true_or, and_true, true_and] <;> omega)) (by first | omega | (simp only [Int32.toInt_add, Int32.toInt_sub, Int32.toInt_mul, Int32.toInt_toInt64, Int64.toInt_add, z_m1, Int32.reduceToInt, Int64.reduceToInt, Int32.reduceToNatClampNeg, Int.bmod_def, or_true, true_or, and_true, true_and] <;> omega)) (by first | omega | (simp only [Int32.toInt_add, Int32.toInt_sub, Int32.toInt_mul, Int32.toInt_toInt64, Int64.toInt_add, z_m1, Int32.reduceToInt, Int64.reduceToInt, Int32.reduceToNatClampNeg, Int.bmod_def, or_true, true_or, and_true, true_and] <;> omega))) (fun e_31 f_31 q_31 => ?_)
      have k_31 : ∀ a j, ¬ WM_X8_wiseChance P a j → e_31.2.1 a j = M0 a j := fun a j h => (q_31.1 a j (wz_M_X8_wisest_X8_wiseChance h)).trans (k_16 a j h)
      have kn_31 : ∀ a j, ¬ WN_X8_wiseChance P a j → e_31.2.2 a j = N0 a j := fun a j h => (q_31.2.1 a j (wz_N_X8_wisest_X8_wiseChance h))
      have c7_31 : Int32.toInt (e_31.2.1 P 7) = Int32.toInt (e_16.2 P 7) := congrArg Int32.toInt (q_31.1 P 7 (wc_X8_wisest_7))
      have c8_31 : Int32.toInt (e_31.2.1 P 8) = Int32.toInt (e_16.2 P 8) := congrArg Int32.toInt (q_31.1 P 8 (wc_X8_wisest_8))
      have p_jK_31 : jK P e_31.2.1 := jK.mono p_jK_16 (fun a j h => q_31.1 a j (wf_jK_X8_wisest h))
      have p_jT_31 : jT P e_31.2.1 := jT.mono p_jT_16 (fun a j h => q_31.1 a j (wf_jT_X8_wisest h))
      obtain ⟨u0_jT_31, u1_jT_31, u2_jT_31, u3_jT_31, u4_jT_31, u5_jT_31⟩ := id p_jT_31
      obtain ⟨x0_31, x1_31, x2_31⟩ := q_31.2.2
      obtain ⟨u0_jB_31, u1_jB_31, u2_jB_31, u3_jB_31, u4_jB_31, u5_jB_31⟩ := id x0_31
      obtain ⟨u0_jS_31, u1_jS_31, u2_jS_31, u3_jS_31, u4_jS_31, u5_jS_31, u6_jS_31, u7_jS_31⟩ := jS.ints x1_31
      refine vIf (fun h_35 => ?_) (fun h_35 => ?_)
      · have i_35 := congrArg Int32.toInt h_35
        (try simp only [Int32.toInt_add, Int32.toInt_sub, Int32.toInt_mul, Int32.toInt_toInt64, Int64.toInt_add, z_m1, Int32.reduceToInt, Int64.reduceToInt, Int32.reduceToNatClampNeg, Int.bmod_def] at i_35)
        refine vB (v_X8_refuse) (fun e_40 f_40 q_40 => ?_)
        have k_40 : ∀ a j, ¬ WM_X8_wiseChance P a j → e_40.2 a j = M0 a j := fun a j h => (q_40 a j (wz_M_X8_refuse_X8_wiseChance h)).trans (k_31 a j h)
        have c7_40 : Int32.toInt (e_40.2 P 7) = Int32.toInt (e_31.2.1 P 7) := congrArg Int32.toInt (q_40 P 7 (wc_X8_refuse_7))
        have c8_40 : Int32.toInt (e_40.2 P 8) = Int32.toInt (e_31.2.1 P 8) := congrArg Int32.toInt (q_40 P 8 (wc_X8_refuse_8))
        have c33_40 : Int32.toInt (e_40.2 P 33) = Int32.toInt (e_31.2.1 P 33) := congrArg Int32.toInt (q_40 P 33 (wc_X8_refuse_33))
        have n_40 : nA P e_40.2 = nA P e_31.2.1 := nA_congr (fun a j h => q_40 a j (wf_nA_X8_refuse h))
        have p_jK_40 : jK P e_40.2 := jK.mono p_jK_31 (fun a j h => q_40 a j (wf_jK_X8_refuse h))
        have p_jT_40 : jT P e_40.2 := jT.mono p_jT_31 (fun a j h => q_40 a j (wf_jT_X8_refuse h))
        obtain ⟨u0_jT_40, u1_jT_40, u2_jT_40, u3_jT_40, u4_jT_40, u5_jT_40⟩ := id p_jT_40
        have p_jB_40 : jB P e_40.2 := jB.mono x0_31 (fun a j h => q_40 a j (wf_jB_X8_refuse h))
        obtain ⟨u0_jB_40, u1_jB_40, u2_jB_40, u3_jB_40, u4_jB_40, u5_jB_40⟩ := id p_jB_40
        have p_jS_40 : jS P e_40.2 := jS.mono x1_31 (fun a j h => q_40 a j (wf_jS_X8_refuse h))
        obtain ⟨u0_jS_40, u1_jS_40, u2_jS_40, u3_jS_40, u4_jS_40, u5_jS_40, u6_jS_40, u7_jS_40⟩ := jS.ints p_jS_40
        have p_jR_40 : jR P e_40.2 := jR.mono x2_31 (fun a j h => q_40 a j (wf_jR_X8_refuse h))
        exact T_55 _ _ _ k_40 kn_31 p_jB_40 p_jK_40 p_jR_40 p_jS_40 p_jT_40
      · have i_35 : ¬ Int32.toInt e_31.1 = Int32.toInt (-1 : Int32) := fun q => h_35 (Int32.toInt_inj.mp q)
        (try simp only [Int32.toInt_add, Int32.toInt_sub, Int32.toInt_mul, Int32.toInt_toInt64, Int64.toInt_add, z_m1, Int32.reduceToInt, Int64.reduceToInt, Int32.reduceToNatClampNeg, Int.bmod_def] at i_35)
        refine vB (v_X8_givesLong) (fun e_52 f_52 q_52 => ?_)
        have k_52 : ∀ a j, ¬ WM_X8_wiseChance P a j → e_52.2 a j = M0 a j := fun a j h => (q_52 a j (wz_M_X8_givesLong_X8_wiseChance h)).trans (k_31 a j h)
        have c7_52 : Int32.toInt (e_52.2 P 7) = Int32.toInt (e_31.2.1 P 7) := congrArg Int32.toInt (q_52 P 7 (wc_X8_givesLong_7))
        have c8_52 : Int32.toInt (e_52.2 P 8) = Int32.toInt (e_31.2.1 P 8) := congrArg Int32.toInt (q_52 P 8 (wc_X8_givesLong_8))
        have c33_52 : Int32.toInt (e_52.2 P 33) = Int32.toInt (e_31.2.1 P 33) := congrArg Int32.toInt (q_52 P 33 (wc_X8_givesLong_33))
        have n_52 : nA P e_52.2 = nA P e_31.2.1 := nA_congr (fun a j h => q_52 a j (wf_nA_X8_givesLong h))
        have p_jK_52 : jK P e_52.2 := jK.mono p_jK_31 (fun a j h => q_52 a j (wf_jK_X8_givesLong h))
        have p_jT_52 : jT P e_52.2 := jT.mono p_jT_31 (fun a j h => q_52 a j (wf_jT_X8_givesLong h))
        obtain ⟨u0_jT_52, u1_jT_52, u2_jT_52, u3_jT_52, u4_jT_52, u5_jT_52⟩ := id p_jT_52
        have p_jB_52 : jB P e_52.2 := jB.mono x0_31 (fun a j h => q_52 a j (wf_jB_X8_givesLong h))
        obtain ⟨u0_jB_52, u1_jB_52, u2_jB_52, u3_jB_52, u4_jB_52, u5_jB_52⟩ := id p_jB_52
        have p_jS_52 : jS P e_52.2 := jS.mono x1_31 (fun a j h => q_52 a j (wf_jS_X8_givesLong h))
        obtain ⟨u0_jS_52, u1_jS_52, u2_jS_52, u3_jS_52, u4_jS_52, u5_jS_52, u6_jS_52, u7_jS_52⟩ := jS.ints p_jS_52
        have p_jR_52 : jR P e_52.2 := jR.mono x2_31 (fun a j h => q_52 a j (wf_jR_X8_givesLong h))
        exact T_55 _ _ _ k_52 kn_31 p_jB_52 p_jK_52 p_jR_52 p_jS_52 p_jT_52
    · have i_19 : ¬ Int32.toInt e_16.1 = Int32.toInt (0 : Int32) := fun q => h_19 (Int32.toInt_inj.mp q)
      (try simp only [Int32.toInt_add, Int32.toInt_sub, Int32.toInt_mul, Int32.toInt_toInt64, Int64.toInt_add, z_m1, Int32.reduceToInt, Int64.reduceToInt, Int32.reduceToNatClampNeg, Int.bmod_def] at i_19)
      refine vB (v_X8_refuse) (fun e_24 f_24 q_24 => ?_)
      have k_24 : ∀ a j, ¬ WM_X8_wiseChance P a j → e_24.2 a j = M0 a j := fun a j h => (q_24 a j (wz_M_X8_refuse_X8_wiseChance h)).trans (k_16 a j h)
      have c7_24 : Int32.toInt (e_24.2 P 7) = Int32.toInt (e_16.2 P 7) := congrArg Int32.toInt (q_24 P 7 (wc_X8_refuse_7))
      have c8_24 : Int32.toInt (e_24.2 P 8) = Int32.toInt (e_16.2 P 8) := congrArg Int32.toInt (q_24 P 8 (wc_X8_refuse_8))
      have c33_24 : Int32.toInt (e_24.2 P 33) = Int32.toInt (e_16.2 P 33) := congrArg Int32.toInt (q_24 P 33 (wc_X8_refuse_33))
      have n_24 : nA P e_24.2 = nA P e_16.2 := nA_congr (fun a j h => q_24 a j (wf_nA_X8_refuse h))
      have p_jS_24 : jS P e_24.2 := jS.mono p_jS_16 (fun a j h => q_24 a j (wf_jS_X8_refuse h))
      obtain ⟨u0_jS_24, u1_jS_24, u2_jS_24, u3_jS_24, u4_jS_24, u5_jS_24, u6_jS_24, u7_jS_24⟩ := jS.ints p_jS_24
      have p_jR_24 : jR P e_24.2 := jR.mono p_jR_16 (fun a j h => q_24 a j (wf_jR_X8_refuse h))
      have p_jK_24 : jK P e_24.2 := jK.mono p_jK_16 (fun a j h => q_24 a j (wf_jK_X8_refuse h))
      have p_jT_24 : jT P e_24.2 := jT.mono p_jT_16 (fun a j h => q_24 a j (wf_jT_X8_refuse h))
      obtain ⟨u0_jT_24, u1_jT_24, u2_jT_24, u3_jT_24, u4_jT_24, u5_jT_24⟩ := id p_jT_24
      have p_jB_24 : jB P e_24.2 := jB.mono x0_16 (fun a j h => q_24 a j (wf_jB_X8_refuse h))
      obtain ⟨u0_jB_24, u1_jB_24, u2_jB_24, u3_jB_24, u4_jB_24, u5_jB_24⟩ := id p_jB_24
      have p_jL_24 : jL P e_24.2 := jL.mono x1_16 (fun a j h => q_24 a j (wf_jL_X8_refuse h))
      have p_jH_24 : jH P e_24.2 := jH.mono x2_16 (fun a j h => q_24 a j (wf_jH_X8_refuse h))
      exact ⟨_, rfl, k_24, (fun _ _ _ => rfl), ⟨p_jB_24, p_jS_24, p_jR_24, p_jK_24, p_jT_24⟩⟩
def WM_X8_likes (P : Nat) (a j : Nat) : Prop := (P + 1 ≤ a ∧ a < P + 2) ∨ (P + 3 ≤ a ∧ a < P + 4) ∨ (P + 11 ≤ a ∧ a < P + 23) ∨ (P + 29 ≤ a ∧ a < P + 30) ∨ (a = P ∧ (j = 6 ∨ j = 12 ∨ j = 33 ∨ j = 54 ∨ j = 55 ∨ j = 56 ∨ j = 57))
def WN_X8_likes (P : Nat) (a j : Nat) : Prop := (P + 24 ≤ a ∧ a < P + 29) ∨ (a = P ∧ (j = 59))
theorem wz_M_X8_takesBack_X8_likes {P a j : Nat} (h : ¬ WM_X8_likes P a j) : ¬ WM_X8_takesBack P a j := by unfold WM_X8_takesBack; unfold WM_X8_likes at h; omega
theorem wz_M_X8_gives_X8_likes {P a j : Nat} (h : ¬ WM_X8_likes P a j) : ¬ WM_X8_gives P a j := by unfold WM_X8_gives; unfold WM_X8_likes at h; omega
theorem wq_X8_likes_M1_r {P a j : Nat} (h : ¬ WM_X8_likes P a j) : ¬ a = P + 1 := by unfold WM_X8_likes at h; omega
theorem wz_M_X8_laysAll_X8_likes {P a j : Nat} (h : ¬ WM_X8_likes P a j) : ¬ WM_X8_laysAll P a j := by unfold WM_X8_laysAll; unfold WM_X8_likes at h; omega
theorem wz_N_X8_laysAll_X8_likes {P a j : Nat} (h : ¬ WN_X8_likes P a j) : ¬ WN_X8_laysAll P a j := by unfold WN_X8_laysAll; unfold WN_X8_likes at h; omega
theorem wz_M_X8_isApplicant_X8_likes {P a j : Nat} (h : ¬ WM_X8_likes P a j) : ¬ WM_X8_isApplicant P a j := by unfold WM_X8_isApplicant; unfold WM_X8_likes at h; omega
theorem wz_M_X8_refuse_X8_likes {P a j : Nat} (h : ¬ WM_X8_likes P a j) : ¬ WM_X8_refuse P a j := by unfold WM_X8_refuse; unfold WM_X8_likes at h; omega
theorem wz_M_X8_areMany_X8_likes {P a j : Nat} (h : ¬ WM_X8_likes P a j) : ¬ WM_X8_areMany P a j := by unfold WM_X8_areMany; unfold WM_X8_likes at h; omega
theorem wz_M_X8_putsAside_X8_likes {P a j : Nat} (h : ¬ WM_X8_likes P a j) : ¬ WM_X8_putsAside P a j := by unfold WM_X8_putsAside; unfold WM_X8_likes at h; omega
set_option maxRecDepth 100000 in
set_option maxHeartbeats 4000000 in
theorem v_X8_likes {P : Nat} {v0 : Int32} {M0 : zMt} {N0 : zNt}  (p_jB : jB P M0) (p_jS : jS P M0) (p_jR : jR P M0) (p_jK : jK P M0) (p_jT : jT P M0) : ∃ r, D_X8_likes P v0 M0 N0 = some r ∧ ((∀ a j, ¬ WM_X8_likes P a j → r.2.1 a j = M0 a j) ∧ (∀ a j, ¬ WN_X8_likes P a j → r.2.2 a j = N0 a j) ∧ ((jB P r.2.1) ∧ (jS P r.2.1) ∧ (jR P r.2.1) ∧ (jK P r.2.1) ∧ (jT P r.2.1))) := by
  obtain ⟨u0_jB, u1_jB, u2_jB, u3_jB, u4_jB, u5_jB⟩ := id p_jB
  obtain ⟨u0_jS, u1_jS, u2_jS, u3_jS, u4_jS, u5_jS, u6_jS, u7_jS⟩ := jS.ints p_jS
  obtain ⟨u0_jT, u1_jT, u2_jT, u3_jT, u4_jT, u5_jT⟩ := id p_jT
  have TL_40 : ∀ u : Nat, ∀ (x1_40 : Int32) (x2_40 : Int32) (x3_40 : Int64) (x5_40 : Int32) (M_40 : zMt) (N_40 : zNt), (∀ a j, ¬ WM_X8_likes P a j → M_40 a j = M0 a j) → (∀ a j, ¬ WN_X8_likes P a j → N_40 a j = N0 a j) → (jA P M_40) → (jB P M_40) → (jH P M_40) → (jK P M_40) → (jL P M_40) → (jR P M_40) → (jS P M_40) → (jT P M_40) → (0 ≤ Int32.toInt x5_40) → (Int32.toInt x5_40 ≤ 3) → (0 ≤ Int32.toInt x1_40 ∧ Int32.toInt x1_40 < nA P M_40) → (nA P M_40 ≤ 7) → (2147483648 - Int32.toInt x5_40).toNat < u → ∃ r, D_X8_likes_40 P u x1_40 x2_40 x3_40 x5_40 M_40 N_40 = some r ∧ ((∀ a j, ¬ WM_X8_likes P a j → r.2.1 a j = M0 a j) ∧ (∀ a j, ¬ WN_X8_likes P a j → r.2.2 a j = N0 a j) ∧ ((jB P r.2.1) ∧ (jS P r.2.1) ∧ (jR P r.2.1) ∧ (jK P r.2.1) ∧ (jT P r.2.1))) := by
    intro u
    induction u with
    | zero => intro x1_40 x2_40 x3_40 x5_40 M_40 N_40 k_40 kn_40 p_jA_40 p_jB_40 p_jH_40 p_jK_40 p_jL_40 p_jR_40 p_jS_40 p_jT_40 f0_40 f1_40 f2_40 f3_40 hm_40; exact absurd hm_40 (Nat.not_lt_zero _)
    | succ u_40 ih_40 =>
      have T_78 : ∀ (x1_78 : Int32) (x2_78 : Int32) (x3_78 : Int64) (x5_78 : Int32) (M_78 : zMt) (N_78 : zNt), (∀ a j, ¬ WM_X8_likes P a j → M_78 a j = M0 a j) → (∀ a j, ¬ WN_X8_likes P a j → N_78 a j = N0 a j) → (jA P M_78) → (jB P M_78) → (jH P M_78) → (jK P M_78) → (jL P M_78) → (jR P M_78) → (jS P M_78) → (jT P M_78) → (0 ≤ Int32.toInt x5_78) → (Int32.toInt x5_78 < 3) → ((2147483648 - Int32.toInt x5_78).toNat < u_40 + 1) → (Int32.toInt x5_78 < 2147483647) → (0 ≤ Int32.toInt x1_78 ∧ Int32.toInt x1_78 < nA P M_78) → (nA P M_78 ≤ 7) → ∃ r, D_X8_likes_78 P (D_X8_likes_40 P u_40) x1_78 x2_78 x3_78 x5_78 M_78 N_78 = some r ∧ ((∀ a j, ¬ WM_X8_likes P a j → r.2.1 a j = M0 a j) ∧ (∀ a j, ¬ WN_X8_likes P a j → r.2.2 a j = N0 a j) ∧ ((jB P r.2.1) ∧ (jS P r.2.1) ∧ (jR P r.2.1) ∧ (jK P r.2.1) ∧ (jT P r.2.1))) := by
        intro x1_78 x2_78 x3_78 x5_78 M_78 N_78 k_78 kn_78 p_jA_78 p_jB_78 p_jH_78 p_jK_78 p_jL_78 p_jR_78 p_jS_78 p_jT_78 f0_78 f1_78 f2_78 f3_78 f4_78 f5_78
        obtain ⟨u0_jB_78, u1_jB_78, u2_jB_78, u3_jB_78, u4_jB_78, u5_jB_78⟩ := id p_jB_78
        obtain ⟨u0_jS_78, u1_jS_78, u2_jS_78, u3_jS_78, u4_jS_78, u5_jS_78, u6_jS_78, u7_jS_78⟩ := jS.ints p_jS_78
        obtain ⟨u0_jT_78, u1_jT_78, u2_jT_78, u3_jT_78, u4_jT_78, u5_jT_78⟩ := id p_jT_78
        unfold D_X8_likes_78
        exact ih_40 _ _ _ _ _ _ k_78 kn_78 p_jA_78 p_jB_78 p_jH_78 p_jK_78 p_jL_78 p_jR_78 p_jS_78 p_jT_78 (by first | omega | (simp only [Int32.toInt_add, Int32.toInt_sub, Int32.toInt_mul, Int32.toInt_toInt64, Int64.toInt_add, z_m1, Int32.reduceToInt, Int64.reduceToInt, Int32.reduceToNatClampNeg, Int.bmod_def, or_true, true_or, and_true, true_and] <;> omega)) (by first | omega | (simp only [Int32.toInt_add, Int32.toInt_sub, Int32.toInt_mul, Int32.toInt_toInt64, Int64.toInt_add, z_m1, Int32.reduceToInt, Int64.reduceToInt, Int32.reduceToNatClampNeg, Int.bmod_def, or_true, true_or, and_true, true_and] <;> omega)) (by first | omega | (simp only [Int32.toInt_add, Int32.toInt_sub, Int32.toInt_mul, Int32.toInt_toInt64, Int64.toInt_add, z_m1, Int32.reduceToInt, Int64.reduceToInt, Int32.reduceToNatClampNeg, Int.bmod_def, or_true, true_or, and_true, true_and] <;> omega)) (by first | omega | (simp only [Int32.toInt_add, Int32.toInt_sub, Int32.toInt_mul, Int32.toInt_toInt64, Int64.toInt_add, z_m1, Int32.reduceToInt, Int64.reduceToInt, Int32.reduceToNatClampNeg, Int.bmod_def, or_true, true_or, and_true, true_and] <;> omega)) (z_up1 f3_78 f2_78)
      intro x1_40 x2_40 x3_40 x5_40 M_40 N_40 k_40 kn_40 p_jA_40 p_jB_40 p_jH_40 p_jK_40 p_jL_40 p_jR_40 p_jS_40 p_jT_40 f0_40 f1_40 f2_40 f3_40 hm_40
      obtain ⟨u0_jB_40, u1_jB_40, u2_jB_40, u3_jB_40, u4_jB_40, u5_jB_40⟩ := id p_jB_40
      obtain ⟨u0_jS_40, u1_jS_40, u2_jS_40, u3_jS_40, u4_jS_40, u5_jS_40, u6_jS_40, u7_jS_40⟩ := jS.ints p_jS_40
      obtain ⟨u0_jT_40, u1_jT_40, u2_jT_40, u3_jT_40, u4_jT_40, u5_jT_40⟩ := id p_jT_40
      rw [D_X8_likes_40]
      refine vIf (fun h_43 => ?_) (fun h_43 => ?_)
      · have i_43 := Int32.le_iff_toInt_le.mp h_43
        (try simp only [Int32.toInt_add, Int32.toInt_sub, Int32.toInt_mul, Int32.toInt_toInt64, Int64.toInt_add, z_m1, Int32.reduceToInt, Int64.reduceToInt, Int32.reduceToNatClampNeg, Int.bmod_def] at i_43)
        refine vB (v_X8_takesBack p_jB_40 p_jA_40) (fun e_85 f_85 q_85 => ?_)
        have k_85 : ∀ a j, ¬ WM_X8_likes P a j → e_85 a j = M0 a j := fun a j h => (q_85.1 a j (wz_M_X8_takesBack_X8_likes h)).trans (k_40 a j h)
        have c7_85 : Int32.toInt (e_85 P 7) = Int32.toInt (M_40 P 7) := congrArg Int32.toInt (q_85.1 P 7 (wc_X8_takesBack_7))
        have c8_85 : Int32.toInt (e_85 P 8) = Int32.toInt (M_40 P 8) := congrArg Int32.toInt (q_85.1 P 8 (wc_X8_takesBack_8))
        have c33_85 : Int32.toInt (e_85 P 33) = Int32.toInt (M_40 P 33) := congrArg Int32.toInt (q_85.1 P 33 (wc_X8_takesBack_33))
        have p_jA_85 : jA P e_85 := jA.mono p_jA_40 (fun a j h => q_85.1 a j (wf_jA_X8_takesBack h))
        have p_jB_85 : jB P e_85 := jB.mono p_jB_40 (fun a j h => q_85.1 a j (wf_jB_X8_takesBack h))
        obtain ⟨u0_jB_85, u1_jB_85, u2_jB_85, u3_jB_85, u4_jB_85, u5_jB_85⟩ := id p_jB_85
        have p_jH_85 : jH P e_85 := jH.mono p_jH_40 (fun a j h => q_85.1 a j (wf_jH_X8_takesBack h))
        have p_jK_85 : jK P e_85 := jK.mono p_jK_40 (fun a j h => q_85.1 a j (wf_jK_X8_takesBack h))
        have p_jL_85 : jL P e_85 := jL.mono p_jL_40 (fun a j h => q_85.1 a j (wf_jL_X8_takesBack h))
        have p_jR_85 : jR P e_85 := jR.mono p_jR_40 (fun a j h => q_85.1 a j (wf_jR_X8_takesBack h))
        have p_jT_85 : jT P e_85 := jT.mono p_jT_40 (fun a j h => q_85.1 a j (wf_jT_X8_takesBack h))
        obtain ⟨u0_jT_85, u1_jT_85, u2_jT_85, u3_jT_85, u4_jT_85, u5_jT_85⟩ := id p_jT_85
        have x0_85 := q_85.2
        obtain ⟨u0_jS_85, u1_jS_85, u2_jS_85, u3_jS_85, u4_jS_85, u5_jS_85, u6_jS_85, u7_jS_85⟩ := jS.ints x0_85
        refine vB (v_X8_gives) (fun e_90 f_90 q_90 => ?_)
        have k_90 : ∀ a j, ¬ WM_X8_likes P a j → e_90.2 a j = M0 a j := fun a j h => (q_90 a j (wz_M_X8_gives_X8_likes h)).trans (k_85 a j h)
        have c7_90 : Int32.toInt (e_90.2 P 7) = Int32.toInt (e_85 P 7) := congrArg Int32.toInt (q_90 P 7 (wc_X8_gives_7))
        have c8_90 : Int32.toInt (e_90.2 P 8) = Int32.toInt (e_85 P 8) := congrArg Int32.toInt (q_90 P 8 (wc_X8_gives_8))
        have c33_90 : Int32.toInt (e_90.2 P 33) = Int32.toInt (e_85 P 33) := congrArg Int32.toInt (q_90 P 33 (wc_X8_gives_33))
        have n_90 : nA P e_90.2 = nA P e_85 := nA_congr (fun a j h => q_90 a j (wf_nA_X8_gives h))
        have p_jA_90 : jA P e_90.2 := jA.mono p_jA_85 (fun a j h => q_90 a j (wf_jA_X8_gives h))
        have p_jB_90 : jB P e_90.2 := jB.mono p_jB_85 (fun a j h => q_90 a j (wf_jB_X8_gives h))
        obtain ⟨u0_jB_90, u1_jB_90, u2_jB_90, u3_jB_90, u4_jB_90, u5_jB_90⟩ := id p_jB_90
        have p_jH_90 : jH P e_90.2 := jH.mono p_jH_85 (fun a j h => q_90 a j (wf_jH_X8_gives h))
        have p_jK_90 : jK P e_90.2 := jK.mono p_jK_85 (fun a j h => q_90 a j (wf_jK_X8_gives h))
        have p_jL_90 : jL P e_90.2 := jL.mono p_jL_85 (fun a j h => q_90 a j (wf_jL_X8_gives h))
        have p_jR_90 : jR P e_90.2 := jR.mono p_jR_85 (fun a j h => q_90 a j (wf_jR_X8_gives h))
        have p_jT_90 : jT P e_90.2 := jT.mono p_jT_85 (fun a j h => q_90 a j (wf_jT_X8_gives h))
        obtain ⟨u0_jT_90, u1_jT_90, u2_jT_90, u3_jT_90, u4_jT_90, u5_jT_90⟩ := id p_jT_90
        have p_jS_90 : jS P e_90.2 := jS.mono x0_85 (fun a j h => q_90 a j (wf_jS_X8_gives h))
        obtain ⟨u0_jS_90, u1_jS_90, u2_jS_90, u3_jS_90, u4_jS_90, u5_jS_90, u6_jS_90, u7_jS_90⟩ := jS.ints p_jS_90
        exact ⟨_, rfl, k_90, kn_40, ⟨p_jB_90, p_jS_90, p_jR_90, p_jK_90, p_jT_90⟩⟩
      · have i_43 := Int32.lt_iff_toInt_lt.mp (Int32.not_le.mp h_43)
        (try simp only [Int32.toInt_add, Int32.toInt_sub, Int32.toInt_mul, Int32.toInt_toInt64, Int64.toInt_add, z_m1, Int32.reduceToInt, Int64.reduceToInt, Int32.reduceToNatClampNeg, Int.bmod_def] at i_43)
        refine vI (vp_of (by first | omega | (simp only [Int32.toInt_add, Int32.toInt_sub, Int32.toInt_mul, Int32.toInt_toInt64, Int64.toInt_add, z_m1, Int32.reduceToInt, Int64.reduceToInt, Int32.reduceToNatClampNeg, Int.bmod_def, or_true, true_or, and_true, true_and] <;> omega)) (by first | omega | (simp only [Int32.toInt_add, Int32.toInt_sub, Int32.toInt_mul, Int32.toInt_toInt64, Int64.toInt_add, z_m1, Int32.reduceToInt, Int64.reduceToInt, Int32.reduceToNatClampNeg, Int.bmod_def, or_true, true_or, and_true, true_and] <;> omega))) ?_
        refine vLm (W := WM_X8_likes P) (fun a j h => (zu_ne (fun z => wq_X8_likes_M1_r h z.1)).trans (k_40 a j h)) (fun M_54 f_54 k_54 => ?_)
        have c7_54 : Int32.toInt (M_54 P 7) = Int32.toInt (M_40 P 7) := congrArg Int32.toInt ((congrFun (congrFun f_54.symm P) 7).trans (zu_ne (fun z => wq_pne0 (by decide) z.1)))
        have c8_54 : Int32.toInt (M_54 P 8) = Int32.toInt (M_40 P 8) := congrArg Int32.toInt ((congrFun (congrFun f_54.symm P) 8).trans (zu_ne (fun z => wq_pne0 (by decide) z.1)))
        have c33_54 : Int32.toInt (M_54 P 33) = Int32.toInt (M_40 P 33) := congrArg Int32.toInt ((congrFun (congrFun f_54.symm P) 33).trans (zu_ne (fun z => wq_pne0 (by decide) z.1)))
        have n_54 : nA P M_54 = nA P M_40 := nA_zu f_54 ⟨Or.inr (by decide), by decide⟩ (by omega)
        have p_jA_54 : jA P M_54 := jA.mono p_jA_40 (fun a j h => (congrFun (congrFun f_54.symm a) j).trans (zu_ne (fun z => wf_jA_M1_r h z.1)))
        have p_jB_54 : jB P M_54 := jB.mono p_jB_40 (fun a j h => (congrFun (congrFun f_54.symm a) j).trans (zu_ne (fun z => wf_jB_M1_r h z.1)))
        obtain ⟨u0_jB_54, u1_jB_54, u2_jB_54, u3_jB_54, u4_jB_54, u5_jB_54⟩ := id p_jB_54
        have p_jH_54 : jH P M_54 := jH.mono p_jH_40 (fun a j h => (congrFun (congrFun f_54.symm a) j).trans (zu_ne (fun z => wf_jH_M1_r h z.1)))
        have p_jK_54 : jK P M_54 := jK.mono p_jK_40 (fun a j h => (congrFun (congrFun f_54.symm a) j).trans (zu_ne (fun z => wf_jK_M1_r h z.1)))
        have p_jL_54 : jL P M_54 := jL.mono p_jL_40 (fun a j h => (congrFun (congrFun f_54.symm a) j).trans (zu_ne (fun z => wf_jL_M1_r h z.1)))
        have p_jR_54 : jR P M_54 := jR.mono p_jR_40 (fun a j h => (congrFun (congrFun f_54.symm a) j).trans (zu_ne (fun z => wf_jR_M1_r h z.1)))
        have p_jS_54 : jS P M_54 := jS.put p_jS_40 (by omega) f_54 (Or.inr (Or.inr (Or.inr (Or.inl ⟨by decide, (by first | omega | (simp only [Int32.toInt_add, Int32.toInt_sub, Int32.toInt_mul, Int32.toInt_toInt64, Int64.toInt_add, z_m1, Int32.reduceToInt, Int64.reduceToInt, Int32.reduceToNatClampNeg, Int.bmod_def, or_true, true_or, and_true, true_and] <;> omega)), (by first | omega | (simp only [Int32.toInt_add, Int32.toInt_sub, Int32.toInt_mul, Int32.toInt_toInt64, Int64.toInt_add, z_m1, Int32.reduceToInt, Int64.reduceToInt, Int32.reduceToNatClampNeg, Int.bmod_def, or_true, true_or, and_true, true_and] <;> omega))⟩))))
        obtain ⟨u0_jS_54, u1_jS_54, u2_jS_54, u3_jS_54, u4_jS_54, u5_jS_54, u6_jS_54, u7_jS_54⟩ := jS.ints p_jS_54
        have p_jT_54 : jT P M_54 := jT.mono p_jT_40 (fun a j h => (congrFun (congrFun f_54.symm a) j).trans (zu_ne (fun z => wf_jT_M1_r h z.1)))
        obtain ⟨u0_jT_54, u1_jT_54, u2_jT_54, u3_jT_54, u4_jT_54, u5_jT_54⟩ := id p_jT_54
        refine vB (v_X8_laysAll p_jB_54 p_jS_54 p_jR_54 (by first | omega | (simp only [Int32.toInt_add, Int32.toInt_sub, Int32.toInt_mul, Int32.toInt_toInt64, Int64.toInt_add, z_m1, Int32.reduceToInt, Int64.reduceToInt, Int32.reduceToNatClampNeg, Int.bmod_def, or_true, true_or, and_true, true_and] <;> omega))) (fun e_56 f_56 q_56 => ?_)
        have k_56 : ∀ a j, ¬ WM_X8_likes P a j → e_56.1 a j = M0 a j := fun a j h => (q_56.1 a j (wz_M_X8_laysAll_X8_likes h)).trans (k_54 a j h)
        have kn_56 : ∀ a j, ¬ WN_X8_likes P a j → e_56.2 a j = N0 a j := fun a j h => (q_56.2.1 a j (wz_N_X8_laysAll_X8_likes h)).trans (kn_40 a j h)
        have c7_56 : Int32.toInt (e_56.1 P 7) = Int32.toInt (M_54 P 7) := congrArg Int32.toInt (q_56.1 P 7 (wc_X8_laysAll_7))
        have c8_56 : Int32.toInt (e_56.1 P 8) = Int32.toInt (M_54 P 8) := congrArg Int32.toInt (q_56.1 P 8 (wc_X8_laysAll_8))
        have n_56 : nA P e_56.1 = nA P M_54 := nA_congr (fun a j h => q_56.1 a j (wf_nA_X8_laysAll h))
        have p_jA_56 : jA P e_56.1 := jA.mono p_jA_54 (fun a j h => q_56.1 a j (wf_jA_X8_laysAll h))
        have p_jK_56 : jK P e_56.1 := jK.mono p_jK_54 (fun a j h => q_56.1 a j (wf_jK_X8_laysAll h))
        have p_jS_56 : jS P e_56.1 := jS.mono p_jS_54 (fun a j h => q_56.1 a j (wf_jS_X8_laysAll h))
        obtain ⟨u0_jS_56, u1_jS_56, u2_jS_56, u3_jS_56, u4_jS_56, u5_jS_56, u6_jS_56, u7_jS_56⟩ := jS.ints p_jS_56
        have p_jT_56 : jT P e_56.1 := jT.mono p_jT_54 (fun a j h => q_56.1 a j (wf_jT_X8_laysAll h))
        obtain ⟨u0_jT_56, u1_jT_56, u2_jT_56, u3_jT_56, u4_jT_56, u5_jT_56⟩ := id p_jT_56
        obtain ⟨x0_56, x1_56, x2_56, x3_56, x4_56⟩ := q_56.2.2
        obtain ⟨u0_jB_56, u1_jB_56, u2_jB_56, u3_jB_56, u4_jB_56, u5_jB_56⟩ := id x0_56
        (try simp only [Int32.toInt_add, Int32.toInt_sub, Int32.toInt_mul, Int32.toInt_toInt64, Int64.toInt_add, z_m1, Int32.reduceToInt, Int64.reduceToInt, Int32.reduceToNatClampNeg, Int.bmod_def] at x4_56)
        refine vB (v_X8_chanceOf x0_56 (by first | omega | (simp only [Int32.toInt_add, Int32.toInt_sub, Int32.toInt_mul, Int32.toInt_toInt64, Int64.toInt_add, z_m1, Int32.reduceToInt, Int64.reduceToInt, Int32.reduceToNatClampNeg, Int.bmod_def, or_true, true_or, and_true, true_and] <;> omega)) (by first | omega | (simp only [Int32.toInt_add, Int32.toInt_sub, Int32.toInt_mul, Int32.toInt_toInt64, Int64.toInt_add, z_m1, Int32.reduceToInt, Int64.reduceToInt, Int32.reduceToNatClampNeg, Int.bmod_def, or_true, true_or, and_true, true_and] <;> omega))) (fun e_61 f_61 q_61 => ?_)
        refine vIf (fun h_66 => ?_) (fun h_66 => ?_)
        · exact T_78 _ _ _ _ _ _ k_56 kn_56 p_jA_56 x0_56 x2_56 p_jK_56 x1_56 x3_56 p_jS_56 p_jT_56 (by first | omega | (simp only [Int32.toInt_add, Int32.toInt_sub, Int32.toInt_mul, Int32.toInt_toInt64, Int64.toInt_add, z_m1, Int32.reduceToInt, Int64.reduceToInt, Int32.reduceToNatClampNeg, Int.bmod_def, or_true, true_or, and_true, true_and] <;> omega)) (by first | omega | (simp only [Int32.toInt_add, Int32.toInt_sub, Int32.toInt_mul, Int32.toInt_toInt64, Int64.toInt_add, z_m1, Int32.reduceToInt, Int64.reduceToInt, Int32.reduceToNatClampNeg, Int.bmod_def, or_true, true_or, and_true, true_and] <;> omega)) hm_40 (by first | assumption | exact z_lt (by assumption) | exact z_lt2 (by assumption) | exact z_lt3 (by assumption) (by first | assumption | decide)) (by first | omega | (simp only [Int32.toInt_add, Int32.toInt_sub, Int32.toInt_mul, Int32.toInt_toInt64, Int64.toInt_add, z_m1, Int32.reduceToInt, Int64.reduceToInt, Int32.reduceToNatClampNeg, Int.bmod_def, or_true, true_or, and_true, true_and] <;> omega)) (by first | omega | (simp only [Int32.toInt_add, Int32.toInt_sub, Int32.toInt_mul, Int32.toInt_toInt64, Int64.toInt_add, z_m1, Int32.reduceToInt, Int64.reduceToInt, Int32.reduceToNatClampNeg, Int.bmod_def, or_true, true_or, and_true, true_and] <;> omega))
        · refine vB (v_X8_chanceOf x0_56 (by first | omega | (simp only [Int32.toInt_add, Int32.toInt_sub, Int32.toInt_mul, Int32.toInt_toInt64, Int64.toInt_add, z_m1, Int32.reduceToInt, Int64.reduceToInt, Int32.reduceToNatClampNeg, Int.bmod_def, or_true, true_or, and_true, true_and] <;> omega)) (by first | omega | (simp only [Int32.toInt_add, Int32.toInt_sub, Int32.toInt_mul, Int32.toInt_toInt64, Int64.toInt_add, z_m1, Int32.reduceToInt, Int64.reduceToInt, Int32.reduceToNatClampNeg, Int.bmod_def, or_true, true_or, and_true, true_and] <;> omega))) (fun e_74 f_74 q_74 => ?_)
          exact T_78 _ _ _ _ _ _ k_56 kn_56 p_jA_56 x0_56 x2_56 p_jK_56 x1_56 x3_56 p_jS_56 p_jT_56 (by first | omega | (simp only [Int32.toInt_add, Int32.toInt_sub, Int32.toInt_mul, Int32.toInt_toInt64, Int64.toInt_add, z_m1, Int32.reduceToInt, Int64.reduceToInt, Int32.reduceToNatClampNeg, Int.bmod_def, or_true, true_or, and_true, true_and] <;> omega)) (by first | omega | (simp only [Int32.toInt_add, Int32.toInt_sub, Int32.toInt_mul, Int32.toInt_toInt64, Int64.toInt_add, z_m1, Int32.reduceToInt, Int64.reduceToInt, Int32.reduceToNatClampNeg, Int.bmod_def, or_true, true_or, and_true, true_and] <;> omega)) hm_40 (by first | assumption | exact z_lt (by assumption) | exact z_lt2 (by assumption) | exact z_lt3 (by assumption) (by first | assumption | decide)) (by first | omega | (simp only [Int32.toInt_add, Int32.toInt_sub, Int32.toInt_mul, Int32.toInt_toInt64, Int64.toInt_add, z_m1, Int32.reduceToInt, Int64.reduceToInt, Int32.reduceToNatClampNeg, Int.bmod_def, or_true, true_or, and_true, true_and] <;> omega)) (by first | omega | (simp only [Int32.toInt_add, Int32.toInt_sub, Int32.toInt_mul, Int32.toInt_toInt64, Int64.toInt_add, z_m1, Int32.reduceToInt, Int64.reduceToInt, Int32.reduceToNatClampNeg, Int.bmod_def, or_true, true_or, and_true, true_and] <;> omega))
  have T_40 : ∀ (x1_40 : Int32) (x2_40 : Int32) (x3_40 : Int64) (x5_40 : Int32) (M_40 : zMt) (N_40 : zNt), (∀ a j, ¬ WM_X8_likes P a j → M_40 a j = M0 a j) → (∀ a j, ¬ WN_X8_likes P a j → N_40 a j = N0 a j) → (jA P M_40) → (jB P M_40) → (jH P M_40) → (jK P M_40) → (jL P M_40) → (jR P M_40) → (jS P M_40) → (jT P M_40) → (0 ≤ Int32.toInt x5_40) → (Int32.toInt x5_40 ≤ 3) → (0 ≤ Int32.toInt x1_40 ∧ Int32.toInt x1_40 < nA P M_40) → (nA P M_40 ≤ 7) → ∃ r, D_X8_likes_40 P zFu x1_40 x2_40 x3_40 x5_40 M_40 N_40 = some r ∧ ((∀ a j, ¬ WM_X8_likes P a j → r.2.1 a j = M0 a j) ∧ (∀ a j, ¬ WN_X8_likes P a j → r.2.2 a j = N0 a j) ∧ ((jB P r.2.1) ∧ (jS P r.2.1) ∧ (jR P r.2.1) ∧ (jK P r.2.1) ∧ (jT P r.2.1))) := fun x1_40 x2_40 x3_40 x5_40 M_40 N_40 k_40 kn_40 p_jA_40 p_jB_40 p_jH_40 p_jK_40 p_jL_40 p_jR_40 p_jS_40 p_jT_40 f0_40 f1_40 f2_40 f3_40 => TL_40 zFu x1_40 x2_40 x3_40 x5_40 M_40 N_40 k_40 kn_40 p_jA_40 p_jB_40 p_jH_40 p_jK_40 p_jL_40 p_jR_40 p_jS_40 p_jT_40 f0_40 f1_40 f2_40 f3_40 (zFu_up _)
  unfold D_X8_likes
  refine vB (v_X8_isApplicant p_jB p_jS) (fun e_2 f_2 q_2 => ?_)
  have k_2 : ∀ a j, ¬ WM_X8_likes P a j → e_2.2 a j = M0 a j := fun a j h => (q_2.1 a j (wz_M_X8_isApplicant_X8_likes h))
  have b_2 := q_2.2.1
  have c7_2 : Int32.toInt (e_2.2 P 7) = Int32.toInt (M0 P 7) := congrArg Int32.toInt (q_2.1 P 7 (wc_X8_isApplicant_7))
  have c8_2 : Int32.toInt (e_2.2 P 8) = Int32.toInt (M0 P 8) := congrArg Int32.toInt (q_2.1 P 8 (wc_X8_isApplicant_8))
  have n_2 : nA P e_2.2 = nA P M0 := nA_congr (fun a j h => q_2.1 a j (wf_nA_X8_isApplicant h))
  have p_jS_2 : jS P e_2.2 := jS.mono p_jS (fun a j h => q_2.1 a j (wf_jS_X8_isApplicant h))
  obtain ⟨u0_jS_2, u1_jS_2, u2_jS_2, u3_jS_2, u4_jS_2, u5_jS_2, u6_jS_2, u7_jS_2⟩ := jS.ints p_jS_2
  have p_jR_2 : jR P e_2.2 := jR.mono p_jR (fun a j h => q_2.1 a j (wf_jR_X8_isApplicant h))
  have p_jK_2 : jK P e_2.2 := jK.mono p_jK (fun a j h => q_2.1 a j (wf_jK_X8_isApplicant h))
  have p_jT_2 : jT P e_2.2 := jT.mono p_jT (fun a j h => q_2.1 a j (wf_jT_X8_isApplicant h))
  obtain ⟨u0_jT_2, u1_jT_2, u2_jT_2, u3_jT_2, u4_jT_2, u5_jT_2⟩ := id p_jT_2
  obtain ⟨x0_2, x1_2, x2_2, x3_2, x4_2⟩ := q_2.2.2
  obtain ⟨u0_jB_2, u1_jB_2, u2_jB_2, u3_jB_2, u4_jB_2, u5_jB_2⟩ := id x0_2
  (try simp only [Int32.toInt_add, Int32.toInt_sub, Int32.toInt_mul, Int32.toInt_toInt64, Int64.toInt_add, z_m1, Int32.reduceToInt, Int64.reduceToInt, Int32.reduceToNatClampNeg, Int.bmod_def] at x3_2)
  (try simp only [Int32.toInt_add, Int32.toInt_sub, Int32.toInt_mul, Int32.toInt_toInt64, Int64.toInt_add, z_m1, Int32.reduceToInt, Int64.reduceToInt, Int32.reduceToNatClampNeg, Int.bmod_def] at x4_2)
  refine vIf (fun h_5 => ?_) (fun h_5 => ?_)
  · have i_5 := congrArg Int32.toInt h_5
    (try simp only [Int32.toInt_add, Int32.toInt_sub, Int32.toInt_mul, Int32.toInt_toInt64, Int64.toInt_add, z_m1, Int32.reduceToInt, Int64.reduceToInt, Int32.reduceToNatClampNeg, Int.bmod_def] at i_5)
    refine vB (v_X8_refuse) (fun e_10 f_10 q_10 => ?_)
    have k_10 : ∀ a j, ¬ WM_X8_likes P a j → e_10.2 a j = M0 a j := fun a j h => (q_10 a j (wz_M_X8_refuse_X8_likes h)).trans (k_2 a j h)
    have c7_10 : Int32.toInt (e_10.2 P 7) = Int32.toInt (e_2.2 P 7) := congrArg Int32.toInt (q_10 P 7 (wc_X8_refuse_7))
    have c8_10 : Int32.toInt (e_10.2 P 8) = Int32.toInt (e_2.2 P 8) := congrArg Int32.toInt (q_10 P 8 (wc_X8_refuse_8))
    have c33_10 : Int32.toInt (e_10.2 P 33) = Int32.toInt (e_2.2 P 33) := congrArg Int32.toInt (q_10 P 33 (wc_X8_refuse_33))
    have n_10 : nA P e_10.2 = nA P e_2.2 := nA_congr (fun a j h => q_10 a j (wf_nA_X8_refuse h))
    have p_jS_10 : jS P e_10.2 := jS.mono p_jS_2 (fun a j h => q_10 a j (wf_jS_X8_refuse h))
    obtain ⟨u0_jS_10, u1_jS_10, u2_jS_10, u3_jS_10, u4_jS_10, u5_jS_10, u6_jS_10, u7_jS_10⟩ := jS.ints p_jS_10
    have p_jR_10 : jR P e_10.2 := jR.mono p_jR_2 (fun a j h => q_10 a j (wf_jR_X8_refuse h))
    have p_jK_10 : jK P e_10.2 := jK.mono p_jK_2 (fun a j h => q_10 a j (wf_jK_X8_refuse h))
    have p_jT_10 : jT P e_10.2 := jT.mono p_jT_2 (fun a j h => q_10 a j (wf_jT_X8_refuse h))
    obtain ⟨u0_jT_10, u1_jT_10, u2_jT_10, u3_jT_10, u4_jT_10, u5_jT_10⟩ := id p_jT_10
    have p_jB_10 : jB P e_10.2 := jB.mono x0_2 (fun a j h => q_10 a j (wf_jB_X8_refuse h))
    obtain ⟨u0_jB_10, u1_jB_10, u2_jB_10, u3_jB_10, u4_jB_10, u5_jB_10⟩ := id p_jB_10
    have p_jL_10 : jL P e_10.2 := jL.mono x1_2 (fun a j h => q_10 a j (wf_jL_X8_refuse h))
    have p_jH_10 : jH P e_10.2 := jH.mono x2_2 (fun a j h => q_10 a j (wf_jH_X8_refuse h))
    exact ⟨_, rfl, k_10, (fun _ _ _ => rfl), ⟨p_jB_10, p_jS_10, p_jR_10, p_jK_10, p_jT_10⟩⟩
  · have i_5 : ¬ Int32.toInt e_2.1 = Int32.toInt (0 : Int32) := fun q => h_5 (Int32.toInt_inj.mp q)
    (try simp only [Int32.toInt_add, Int32.toInt_sub, Int32.toInt_mul, Int32.toInt_toInt64, Int64.toInt_add, z_m1, Int32.reduceToInt, Int64.reduceToInt, Int32.reduceToNatClampNeg, Int.bmod_def] at i_5)
    refine vB (v_X8_areMany x0_2 p_jS_2) (fun e_15 f_15 q_15 => ?_)
    have k_15 : ∀ a j, ¬ WM_X8_likes P a j → e_15.2 a j = M0 a j := fun a j h => (q_15.1 a j (wz_M_X8_areMany_X8_likes h)).trans (k_2 a j h)
    have b_15 := q_15.2.1
    have c7_15 : Int32.toInt (e_15.2 P 7) = Int32.toInt (e_2.2 P 7) := congrArg Int32.toInt (q_15.1 P 7 (wc_X8_areMany_7))
    have c8_15 : Int32.toInt (e_15.2 P 8) = Int32.toInt (e_2.2 P 8) := congrArg Int32.toInt (q_15.1 P 8 (wc_X8_areMany_8))
    have n_15 : nA P e_15.2 = nA P e_2.2 := nA_congr (fun a j h => q_15.1 a j (wf_nA_X8_areMany h))
    have p_jS_15 : jS P e_15.2 := jS.mono p_jS_2 (fun a j h => q_15.1 a j (wf_jS_X8_areMany h))
    obtain ⟨u0_jS_15, u1_jS_15, u2_jS_15, u3_jS_15, u4_jS_15, u5_jS_15, u6_jS_15, u7_jS_15⟩ := jS.ints p_jS_15
    have p_jR_15 : jR P e_15.2 := jR.mono p_jR_2 (fun a j h => q_15.1 a j (wf_jR_X8_areMany h))
    have p_jK_15 : jK P e_15.2 := jK.mono p_jK_2 (fun a j h => q_15.1 a j (wf_jK_X8_areMany h))
    have p_jT_15 : jT P e_15.2 := jT.mono p_jT_2 (fun a j h => q_15.1 a j (wf_jT_X8_areMany h))
    obtain ⟨u0_jT_15, u1_jT_15, u2_jT_15, u3_jT_15, u4_jT_15, u5_jT_15⟩ := id p_jT_15
    obtain ⟨x0_15, x1_15, x2_15, x3_15, x4_15⟩ := q_15.2.2
    obtain ⟨u0_jB_15, u1_jB_15, u2_jB_15, u3_jB_15, u4_jB_15, u5_jB_15⟩ := id x0_15
    (try simp only [Int32.toInt_add, Int32.toInt_sub, Int32.toInt_mul, Int32.toInt_toInt64, Int64.toInt_add, z_m1, Int32.reduceToInt, Int64.reduceToInt, Int32.reduceToNatClampNeg, Int.bmod_def] at x3_15)
    (try simp only [Int32.toInt_add, Int32.toInt_sub, Int32.toInt_mul, Int32.toInt_toInt64, Int64.toInt_add, z_m1, Int32.reduceToInt, Int64.reduceToInt, Int32.reduceToNatClampNeg, Int.bmod_def] at x4_15)
    refine vIf (fun h_18 => ?_) (fun h_18 => ?_)
    · have i_18 := congrArg Int32.toInt h_18
      (try simp only [Int32.toInt_add, Int32.toInt_sub, Int32.toInt_mul, Int32.toInt_toInt64, Int64.toInt_add, z_m1, Int32.reduceToInt, Int64.reduceToInt, Int32.reduceToNatClampNeg, Int.bmod_def] at i_18)
      refine vB (v_X8_putsAside x0_15 p_jS_15) (fun e_28 f_28 q_28 => ?_)
      have k_28 : ∀ a j, ¬ WM_X8_likes P a j → e_28 a j = M0 a j := fun a j h => (q_28.1 a j (wz_M_X8_putsAside_X8_likes h)).trans (k_15 a j h)
      have c7_28 : Int32.toInt (e_28 P 7) = Int32.toInt (e_15.2 P 7) := congrArg Int32.toInt (q_28.1 P 7 (wc_X8_putsAside_7))
      have c8_28 : Int32.toInt (e_28 P 8) = Int32.toInt (e_15.2 P 8) := congrArg Int32.toInt (q_28.1 P 8 (wc_X8_putsAside_8))
      have c33_28 : Int32.toInt (e_28 P 33) = Int32.toInt (e_15.2 P 33) := congrArg Int32.toInt (q_28.1 P 33 (wc_X8_putsAside_33))
      have n_28 : nA P e_28 = nA P e_15.2 := nA_congr (fun a j h => q_28.1 a j (wf_nA_X8_putsAside h))
      have p_jS_28 : jS P e_28 := jS.mono p_jS_15 (fun a j h => q_28.1 a j (wf_jS_X8_putsAside h))
      obtain ⟨u0_jS_28, u1_jS_28, u2_jS_28, u3_jS_28, u4_jS_28, u5_jS_28, u6_jS_28, u7_jS_28⟩ := jS.ints p_jS_28
      have p_jR_28 : jR P e_28 := jR.mono p_jR_15 (fun a j h => q_28.1 a j (wf_jR_X8_putsAside h))
      have p_jK_28 : jK P e_28 := jK.mono p_jK_15 (fun a j h => q_28.1 a j (wf_jK_X8_putsAside h))
      have p_jT_28 : jT P e_28 := jT.mono p_jT_15 (fun a j h => q_28.1 a j (wf_jT_X8_putsAside h))
      obtain ⟨u0_jT_28, u1_jT_28, u2_jT_28, u3_jT_28, u4_jT_28, u5_jT_28⟩ := id p_jT_28
      have p_jB_28 : jB P e_28 := jB.mono x0_15 (fun a j h => q_28.1 a j (wf_jB_X8_putsAside h))
      obtain ⟨u0_jB_28, u1_jB_28, u2_jB_28, u3_jB_28, u4_jB_28, u5_jB_28⟩ := id p_jB_28
      have p_jL_28 : jL P e_28 := jL.mono x1_15 (fun a j h => q_28.1 a j (wf_jL_X8_putsAside h))
      have p_jH_28 : jH P e_28 := jH.mono x2_15 (fun a j h => q_28.1 a j (wf_jH_X8_putsAside h))
      have x0_28 := q_28.2
      exact T_40 _ _ _ _ _ _ k_28 (fun _ _ _ => rfl) x0_28 p_jB_28 p_jH_28 p_jK_28 p_jL_28 p_jR_28 p_jS_28 p_jT_28 (by first | omega | (simp only [Int32.toInt_add, Int32.toInt_sub, Int32.toInt_mul, Int32.toInt_toInt64, Int64.toInt_add, z_m1, Int32.reduceToInt, Int64.reduceToInt, Int32.reduceToNatClampNeg, Int.bmod_def, or_true, true_or, and_true, true_and] <;> omega)) (by first | omega | (simp only [Int32.toInt_add, Int32.toInt_sub, Int32.toInt_mul, Int32.toInt_toInt64, Int64.toInt_add, z_m1, Int32.reduceToInt, Int64.reduceToInt, Int32.reduceToNatClampNeg, Int.bmod_def, or_true, true_or, and_true, true_and] <;> omega)) (by first | omega | (simp only [Int32.toInt_add, Int32.toInt_sub, Int32.toInt_mul, Int32.toInt_toInt64, Int64.toInt_add, z_m1, Int32.reduceToInt, Int64.reduceToInt, Int32.reduceToNatClampNeg, Int.bmod_def, or_true, true_or, and_true, true_and] <;> omega)) (by first | omega | (simp only [Int32.toInt_add, Int32.toInt_sub, Int32.toInt_mul, Int32.toInt_toInt64, Int64.toInt_add, z_m1, Int32.reduceToInt, Int64.reduceToInt, Int32.reduceToNatClampNeg, Int.bmod_def, or_true, true_or, and_true, true_and] <;> omega))
    · have i_18 : ¬ Int32.toInt e_15.1 = Int32.toInt (0 : Int32) := fun q => h_18 (Int32.toInt_inj.mp q)
      (try simp only [Int32.toInt_add, Int32.toInt_sub, Int32.toInt_mul, Int32.toInt_toInt64, Int64.toInt_add, z_m1, Int32.reduceToInt, Int64.reduceToInt, Int32.reduceToNatClampNeg, Int.bmod_def] at i_18)
      refine vB (v_X8_refuse) (fun e_23 f_23 q_23 => ?_)
      have k_23 : ∀ a j, ¬ WM_X8_likes P a j → e_23.2 a j = M0 a j := fun a j h => (q_23 a j (wz_M_X8_refuse_X8_likes h)).trans (k_15 a j h)
      have c7_23 : Int32.toInt (e_23.2 P 7) = Int32.toInt (e_15.2 P 7) := congrArg Int32.toInt (q_23 P 7 (wc_X8_refuse_7))
      have c8_23 : Int32.toInt (e_23.2 P 8) = Int32.toInt (e_15.2 P 8) := congrArg Int32.toInt (q_23 P 8 (wc_X8_refuse_8))
      have c33_23 : Int32.toInt (e_23.2 P 33) = Int32.toInt (e_15.2 P 33) := congrArg Int32.toInt (q_23 P 33 (wc_X8_refuse_33))
      have n_23 : nA P e_23.2 = nA P e_15.2 := nA_congr (fun a j h => q_23 a j (wf_nA_X8_refuse h))
      have p_jS_23 : jS P e_23.2 := jS.mono p_jS_15 (fun a j h => q_23 a j (wf_jS_X8_refuse h))
      obtain ⟨u0_jS_23, u1_jS_23, u2_jS_23, u3_jS_23, u4_jS_23, u5_jS_23, u6_jS_23, u7_jS_23⟩ := jS.ints p_jS_23
      have p_jR_23 : jR P e_23.2 := jR.mono p_jR_15 (fun a j h => q_23 a j (wf_jR_X8_refuse h))
      have p_jK_23 : jK P e_23.2 := jK.mono p_jK_15 (fun a j h => q_23 a j (wf_jK_X8_refuse h))
      have p_jT_23 : jT P e_23.2 := jT.mono p_jT_15 (fun a j h => q_23 a j (wf_jT_X8_refuse h))
      obtain ⟨u0_jT_23, u1_jT_23, u2_jT_23, u3_jT_23, u4_jT_23, u5_jT_23⟩ := id p_jT_23
      have p_jB_23 : jB P e_23.2 := jB.mono x0_15 (fun a j h => q_23 a j (wf_jB_X8_refuse h))
      obtain ⟨u0_jB_23, u1_jB_23, u2_jB_23, u3_jB_23, u4_jB_23, u5_jB_23⟩ := id p_jB_23
      have p_jL_23 : jL P e_23.2 := jL.mono x1_15 (fun a j h => q_23 a j (wf_jL_X8_refuse h))
      have p_jH_23 : jH P e_23.2 := jH.mono x2_15 (fun a j h => q_23 a j (wf_jH_X8_refuse h))
      exact ⟨_, rfl, k_23, (fun _ _ _ => rfl), ⟨p_jB_23, p_jS_23, p_jR_23, p_jK_23, p_jT_23⟩⟩
