def WM_X8_goesYear (P : Nat) (a j : Nat) : Prop := (P + 1 ≤ a ∧ a < P + 2) ∨ (P + 11 ≤ a ∧ a < P + 23) ∨ (P + 30 ≤ a ∧ a < P + 31) ∨ (a = P ∧ (j = 33))
def WN_X8_goesYear (P : Nat) (a j : Nat) : Prop := (a = P ∧ (j = 46))
theorem v_X8_goesYear {P : Nat} {v0 : Int32} {M0 : zMt} {N0 : zNt} (p_jB : jB P M0) (p_jS : jS P M0) (p_jR : jR P M0) (i_3 : 0 ≤ Int32.toInt v0) : ∃ r, D_X8_goesYear P v0 M0 N0 = some r ∧ ((∀ a j, ¬ WM_X8_goesYear P a j → r.1 a j = M0 a j) ∧ (∀ a j, ¬ WN_X8_goesYear P a j → r.2 a j = N0 a j) ∧ (jB P r.1) ∧ (jS P r.1) ∧ (jL P r.1) ∧ (jH P r.1) ∧ (jO P r.1) ∧ (jR P r.1) ∧ (Int32.toInt (r.1 P 33) = nA P r.1)) := by
  unfold D_X8_goesYear
  refine vB (v_X8_laysResult p_jB p_jS p_jR i_3) (fun e f q => ?_)
  obtain ⟨k1, kn1, hB, hL, hH, hO, hR, hN⟩ := q
  have hS : jS P e.1 := p_jS.mono (fun a j h => k1 a j (by unfold WM_X8_laysResult; omega))
  obtain ⟨b1, b2, b3, b4, b5, b6⟩ := id hB
  obtain ⟨H, hH8⟩ : ∃ H : Nat, (e.1 P 8).toInt = H := ⟨(e.1 P 8).toInt.toNat, by omega⟩
  have kn : ∀ a j, ¬ WN_X8_goesYear P a j → e.2 a j = N0 a j := fun a j h => kn1 a j (by unfold WN_X8_laysResult; unfold WN_X8_goesYear at h; omega)
  have L34 : ∀ (u i : Nat) (M : zMt), i ≤ H → H - i < u → (∀ a j, ¬ (a = P + 1 ∨ a = P + 30) → M a j = e.1 a j) → (∀ h : Nat, h < H → 0 ≤ (M (P + 30) h).toInt ∧ (M (P + 30) h).toInt ≤ 20) → jS P M → nA P M = nA P e.1 → ∃ r, D_X8_goesYear_34 P u (nI i) M e.2 = some r ∧ ((∀ a j, ¬ WM_X8_goesYear P a j → r.1 a j = M0 a j) ∧ (∀ a j, ¬ WN_X8_goesYear P a j → r.2 a j = N0 a j) ∧ (jB P r.1) ∧ (jS P r.1) ∧ (jL P r.1) ∧ (jH P r.1) ∧ (jO P r.1) ∧ (jR P r.1) ∧ (Int32.toInt (r.1 P 33) = nA P r.1)) := by
    intro u
    induction u with
    | zero => intro i M h1 h2; omega
    | succ u ih =>
      intro i M hi hu k hp hSM hnM
      have e8 : M P 8 = e.1 P 8 := k P 8 (by omega)
      have hit : (nI i).toInt = i := nI_toInt (by omega)
      rw [D_X8_goesYear_34, e8]
      refine vIf (fun hc => ?_) (fun hc => ?_)
      · refine ⟨_, rfl, fun a j h => (k a j (by unfold WM_X8_goesYear at h; omega)).trans (k1 a j (by unfold WM_X8_laysResult; unfold WM_X8_goesYear at h; omega)), kn, hB.mono (fun a j h => k a j (by omega)), hSM, hL.mono (fun a j h => k a j (by omega)), hH.mono (fun a j h => k a j (by omega)), hO.mono (fun a j h => k a j (by omega)), hR.mono (fun a j h => k a j (by omega)), ?_⟩
        show (M P 33).toInt = nA P M
        rw [hnM, ← hN, k P 33 (by omega)]
      · have hlt := Int32.lt_iff_toInt_lt.mp (Int32.not_le.mp hc)
        rw [hit, hH8] at hlt
        have z0 : (0 : Int32) + nI i = nI i := by rw [show (0 : Int32) = nI 0 from rfl, nI_add, Nat.zero_add]
        have hci : (nI i).toNatClampNeg = i := nI_clamp (by omega)
        refine vI (vp_in_nI (by omega) (by decide)) ?_
        rw [z0, hci]
        refine vI (vp_in_nI (by omega) (by decide)) ?_
        refine vLm (W := fun a j => a = P + 1 ∨ a = P + 30) (M0 := e.1) (fun a j h => (zu_ne (by omega)).trans (k a j h)) (fun M2 f2 k2 => ?_)
        have hpi := hp i (by omega)
        rw [nI_1]
        refine ih (i + 1) M2 (by omega) (by omega) k2 (fun h hh => ?_) (jS.put hSM (by rw [e8]; omega) f2 (Or.inl ⟨by omega, hpi⟩)) ?_
        · rw [← f2, zu_ne (by omega)]; exact hp h hh
        · rw [nA_zu f2 ⟨Or.inl (by omega), by omega⟩ (by rw [e8]; omega)]; exact hnM
  have L7 : ∀ (u i : Nat) (M : zMt), i ≤ H → H - i < u → (∀ a j, ¬ a = P + 30 → M a j = e.1 a j) → (∀ h : Nat, h < i → 0 ≤ (M (P + 30) h).toInt ∧ (M (P + 30) h).toInt ≤ 20) → ∃ r, D_X8_goesYear_7 P u (nI i) M e.2 = some r ∧ ((∀ a j, ¬ WM_X8_goesYear P a j → r.1 a j = M0 a j) ∧ (∀ a j, ¬ WN_X8_goesYear P a j → r.2 a j = N0 a j) ∧ (jB P r.1) ∧ (jS P r.1) ∧ (jL P r.1) ∧ (jH P r.1) ∧ (jO P r.1) ∧ (jR P r.1) ∧ (Int32.toInt (r.1 P 33) = nA P r.1)) := by
    intro u
    induction u with
    | zero => intro i M h1 h2; omega
    | succ u ih =>
      intro i M hi hu k hp
      have e8 : M P 8 = e.1 P 8 := k P 8 (by omega)
      have hit : (nI i).toInt = i := nI_toInt (by omega)
      rw [D_X8_goesYear_7, e8]
      refine vIf (fun hc => ?_) (fun hc => ?_)
      · have hge := Int32.le_iff_toInt_le.mp hc
        rw [hit, hH8] at hge
        have : i = H := by omega
        subst this
        exact L34 zFu 0 M (by omega) (by unfold zFu; omega) (fun a j h => k a j (by omega)) hp (hS.mono (fun a j h => k a j (by omega))) (nA_congr (fun a j h => k a j (by omega)))
      · have hlt := Int32.lt_iff_toInt_lt.mp (Int32.not_le.mp hc)
        rw [hit, hH8] at hlt
        refine vB (v_X8_behindNow (v0 := nI i) (hB.mono (fun a j h => k a j (by omega))) (hS.mono (fun a j h => k a j (by omega))) (hL.mono (fun a j h => k a j (by omega))) (hH.mono (fun a j h => k a j (by omega))) (hR.mono (fun a j h => k a j (by omega))) (by omega) (by rw [e8]; omega)) (fun e2 f2 q2 => ?_)
        refine vI (vp_in_nI (by omega) (by decide)) ?_
        rw [nI_clamp (n := i) (by omega), nI_1]
        refine ih (i + 1) _ (by omega) (by omega) (fun a j h => (zu_ne (by omega)).trans (k a j h)) (fun h hh => ?_)
        by_cases q : h = i
        · subst q
          rw [zu_eq]; exact q2
        · rw [zu_ne (by omega)]
          exact hp h (by omega)
  exact L7 zFu 0 e.1 (by omega) (by unfold zFu; omega) (fun _ _ _ => rfl) (fun h hh => absurd hh (Nat.not_lt_zero h))
def WM_X8_years (P : Nat) (a j : Nat) : Prop := (P + 1 ≤ a ∧ a < P + 2) ∨ (P + 3 ≤ a ∧ a < P + 4) ∨ (P + 11 ≤ a ∧ a < P + 23) ∨ (P + 30 ≤ a ∧ a < P + 32) ∨ (a = P ∧ (j = 6 ∨ j = 12 ∨ j = 33))
def WN_X8_years (P : Nat) (a j : Nat) : Prop := (a = P ∧ (j = 46))
theorem wz_M_X8_gives_X8_years {P a j : Nat} (h : ¬ WM_X8_years P a j) : ¬ WM_X8_gives P a j := by unfold WM_X8_gives; unfold WM_X8_years at h; omega
theorem wq_X8_years_M31_r {P a j : Nat} (h : ¬ WM_X8_years P a j) : ¬ a = P + 31 := by unfold WM_X8_years at h; omega
theorem wf_nA_M31_r {P a j : Nat} (h : (a = P + 1 ∨ (a = P ∧ j = 8))) : ¬ a = P + 31 := by omega
theorem wf_jA_M31_r {P a j : Nat} (h : (a = P + 3 ∨ (a = P ∧ (j = 7 ∨ j = 8)))) : ¬ a = P + 31 := by omega
theorem wf_jB_M31_r {P a j : Nat} (h : (a = P ∧ (j = 7 ∨ j = 8 ∨ j = 33))) : ¬ a = P + 31 := by omega
theorem wf_jH_M31_r {P a j : Nat} (h : ((a = P ∧ (j = 8 ∨ j = 33)) ∨ a = P + 11)) : ¬ a = P + 31 := by omega
theorem wf_jK_M31_r {P a j : Nat} (h : ((a = P ∧ (j = 7 ∨ j = 8 ∨ j = 9)) ∨ a = P + 4)) : ¬ a = P + 31 := by omega
theorem wf_jL_M31_r {P a j : Nat} (h : ((a = P ∧ j = 33) ∨ a = P + 13 ∨ a = P + 14 ∨ a = P + 17)) : ¬ a = P + 31 := by omega
theorem wf_jO_M31_r {P a j : Nat} (h : ((a = P ∧ j = 33) ∨ a = P + 18)) : ¬ a = P + 31 := by omega
theorem wf_jR_M31_r {P a : Nat} (h : a = P + 19) : ¬ a = P + 31 := by omega
theorem wf_jS_M31_r {P a j : Nat} (h : (a = P + 1 ∨ (a = P ∧ (j = 7 ∨ j = 8)))) : ¬ a = P + 31 := by omega
theorem wf_jT_M31_r {P a j : Nat} (h : (a = P ∧ (j = 9 ∨ j = 11 ∨ j = 64))) : ¬ a = P + 31 := by omega
theorem wz_M_X8_takesBack_X8_years {P a j : Nat} (h : ¬ WM_X8_years P a j) : ¬ WM_X8_takesBack P a j := by unfold WM_X8_takesBack; unfold WM_X8_years at h; omega
theorem wz_M_X8_goesYear_X8_years {P a j : Nat} (h : ¬ WM_X8_years P a j) : ¬ WM_X8_goesYear P a j := by unfold WM_X8_goesYear; unfold WM_X8_years at h; omega
theorem wz_N_X8_goesYear_X8_years {P a j : Nat} (h : ¬ WN_X8_years P a j) : ¬ WN_X8_goesYear P a j := by unfold WN_X8_goesYear; unfold WN_X8_years at h; omega
theorem wc_X8_goesYear_7 {P : Nat} : ¬ WM_X8_goesYear P P 7 := by unfold WM_X8_goesYear; omega
theorem wc_X8_goesYear_8 {P : Nat} : ¬ WM_X8_goesYear P P 8 := by unfold WM_X8_goesYear; omega
theorem wf_jA_X8_goesYear {P a j : Nat} (h : (a = P + 3 ∨ (a = P ∧ (j = 7 ∨ j = 8)))) : ¬ WM_X8_goesYear P a j := by unfold WM_X8_goesYear; omega
theorem wf_jK_X8_goesYear {P a j : Nat} (h : ((a = P ∧ (j = 7 ∨ j = 8 ∨ j = 9)) ∨ a = P + 4)) : ¬ WM_X8_goesYear P a j := by unfold WM_X8_goesYear; omega
theorem wf_jT_X8_goesYear {P a j : Nat} (h : (a = P ∧ (j = 9 ∨ j = 11 ∨ j = 64))) : ¬ WM_X8_goesYear P a j := by unfold WM_X8_goesYear; omega
theorem wz_M_X8_refuse_X8_years {P a j : Nat} (h : ¬ WM_X8_years P a j) : ¬ WM_X8_refuse P a j := by unfold WM_X8_refuse; unfold WM_X8_years at h; omega
theorem wz_M_X8_putsAside_X8_years {P a j : Nat} (h : ¬ WM_X8_years P a j) : ¬ WM_X8_putsAside P a j := by unfold WM_X8_putsAside; unfold WM_X8_years at h; omega
set_option maxRecDepth 100000 in
set_option maxHeartbeats 4000000 in
theorem v_X8_years {P : Nat} {v0 : Int32} {v1 : Int32} {v2 : Int32} {M0 : zMt} {N0 : zNt}  (p_jB : jB P M0) (p_jS : jS P M0) (p_jR : jR P M0) (p_jK : jK P M0) (p_jT : jT P M0) : ∃ r, D_X8_years P v0 v1 v2 M0 N0 = some r ∧ ((∀ a j, ¬ WM_X8_years P a j → r.2.1 a j = M0 a j) ∧ (∀ a j, ¬ WN_X8_years P a j → r.2.2 a j = N0 a j) ∧ ((jB P r.2.1) ∧ (jS P r.2.1) ∧ (jR P r.2.1) ∧ (jK P r.2.1) ∧ (jT P r.2.1))) := by
  obtain ⟨u0_jB, u1_jB, u2_jB, u3_jB, u4_jB, u5_jB⟩ := id p_jB
  obtain ⟨u0_jS, u1_jS, u2_jS, u3_jS, u4_jS, u5_jS, u6_jS, u7_jS⟩ := jS.ints p_jS
  obtain ⟨u0_jT, u1_jT, u2_jT, u3_jT, u4_jT, u5_jT⟩ := id p_jT
  have T_203 : ∀ (y1_203 : Int32) (M_203 : zMt) (N_203 : zNt), (∀ a j, ¬ WM_X8_years P a j → M_203 a j = M0 a j) → (∀ a j, ¬ WN_X8_years P a j → N_203 a j = N0 a j) → (jA P M_203) → (jB P M_203) → (jK P M_203) → (jR P M_203) → (jS P M_203) → (jT P M_203) → ∃ r, D_X8_years_203 P y1_203 M_203 N_203 = some r ∧ ((∀ a j, ¬ WM_X8_years P a j → r.2.1 a j = M0 a j) ∧ (∀ a j, ¬ WN_X8_years P a j → r.2.2 a j = N0 a j) ∧ ((jB P r.2.1) ∧ (jS P r.2.1) ∧ (jR P r.2.1) ∧ (jK P r.2.1) ∧ (jT P r.2.1))) := by
    intro y1_203 M_203 N_203 k_203 kn_203 p_jA_203 p_jB_203 p_jK_203 p_jR_203 p_jS_203 p_jT_203
    obtain ⟨u0_jB_203, u1_jB_203, u2_jB_203, u3_jB_203, u4_jB_203, u5_jB_203⟩ := id p_jB_203
    obtain ⟨u0_jS_203, u1_jS_203, u2_jS_203, u3_jS_203, u4_jS_203, u5_jS_203, u6_jS_203, u7_jS_203⟩ := jS.ints p_jS_203
    obtain ⟨u0_jT_203, u1_jT_203, u2_jT_203, u3_jT_203, u4_jT_203, u5_jT_203⟩ := id p_jT_203
    unfold D_X8_years_203
    refine vB (v_X8_gives) (fun e_203 f_203 q_203 => ?_)
    have k_203 : ∀ a j, ¬ WM_X8_years P a j → e_203.2 a j = M0 a j := fun a j h => (q_203 a j (wz_M_X8_gives_X8_years h)).trans (k_203 a j h)
    have c7_203 : Int32.toInt (e_203.2 P 7) = Int32.toInt (M_203 P 7) := congrArg Int32.toInt (q_203 P 7 (wc_X8_gives_7))
    have c8_203 : Int32.toInt (e_203.2 P 8) = Int32.toInt (M_203 P 8) := congrArg Int32.toInt (q_203 P 8 (wc_X8_gives_8))
    have c33_203 : Int32.toInt (e_203.2 P 33) = Int32.toInt (M_203 P 33) := congrArg Int32.toInt (q_203 P 33 (wc_X8_gives_33))
    have n_203 : nA P e_203.2 = nA P M_203 := nA_congr (fun a j h => q_203 a j (wf_nA_X8_gives h))
    have p_jA_203 : jA P e_203.2 := jA.mono p_jA_203 (fun a j h => q_203 a j (wf_jA_X8_gives h))
    have p_jB_203 : jB P e_203.2 := jB.mono p_jB_203 (fun a j h => q_203 a j (wf_jB_X8_gives h))
    obtain ⟨u0_jB_203, u1_jB_203, u2_jB_203, u3_jB_203, u4_jB_203, u5_jB_203⟩ := id p_jB_203
    have p_jK_203 : jK P e_203.2 := jK.mono p_jK_203 (fun a j h => q_203 a j (wf_jK_X8_gives h))
    have p_jR_203 : jR P e_203.2 := jR.mono p_jR_203 (fun a j h => q_203 a j (wf_jR_X8_gives h))
    have p_jS_203 : jS P e_203.2 := jS.mono p_jS_203 (fun a j h => q_203 a j (wf_jS_X8_gives h))
    obtain ⟨u0_jS_203, u1_jS_203, u2_jS_203, u3_jS_203, u4_jS_203, u5_jS_203, u6_jS_203, u7_jS_203⟩ := jS.ints p_jS_203
    have p_jT_203 : jT P e_203.2 := jT.mono p_jT_203 (fun a j h => q_203 a j (wf_jT_X8_gives h))
    obtain ⟨u0_jT_203, u1_jT_203, u2_jT_203, u3_jT_203, u4_jT_203, u5_jT_203⟩ := id p_jT_203
    exact ⟨_, rfl, k_203, kn_203, ⟨p_jB_203, p_jS_203, p_jR_203, p_jK_203, p_jT_203⟩⟩
  have TL_75 : ∀ u : Nat, ∀ (x1_75 : Int32) (x2_75 : Int32) (x3_75 : Int32) (x4_75 : Int32) (x5_75 : Int32) (x6_75 : Int32) (x7_75 : Int32) (M_75 : zMt) (N_75 : zNt), (∀ a j, ¬ WM_X8_years P a j → M_75 a j = M0 a j) → (∀ a j, ¬ WN_X8_years P a j → N_75 a j = N0 a j) → (jA P M_75) → (jB P M_75) → (jK P M_75) → (jR P M_75) → (jS P M_75) → (jT P M_75) → (0 ≤ Int32.toInt x7_75) → (0 ≤ Int32.toInt x1_75 ∧ 1 ≤ Int32.toInt x2_75 ∧ Int32.toInt x2_75 ≤ 30 ∧ Int32.toInt x1_75 + Int32.toInt x2_75 ≤ 999999999) → (2147483648 - Int32.toInt x7_75).toNat < u → ∃ r, D_X8_years_75 P u x1_75 x2_75 x3_75 x4_75 x5_75 x6_75 x7_75 M_75 N_75 = some r ∧ ((∀ a j, ¬ WM_X8_years P a j → r.2.1 a j = M0 a j) ∧ (∀ a j, ¬ WN_X8_years P a j → r.2.2 a j = N0 a j) ∧ ((jB P r.2.1) ∧ (jS P r.2.1) ∧ (jR P r.2.1) ∧ (jK P r.2.1) ∧ (jT P r.2.1))) := by
    intro u
    induction u with
    | zero => intro x1_75 x2_75 x3_75 x4_75 x5_75 x6_75 x7_75 M_75 N_75 k_75 kn_75 p_jA_75 p_jB_75 p_jK_75 p_jR_75 p_jS_75 p_jT_75 f0_75 f1_75 hm_75; exact absurd hm_75 (Nat.not_lt_zero _)
    | succ u_75 ih_75 =>
      have TL_112 : ∀ u : Nat, ∀ (x1_112 : Int32) (x2_112 : Int32) (x3_112 : Int32) (x4_112 : Int32) (x5_112 : Int32) (x6_112 : Int32) (x7_112 : Int32) (x8_112 : Int32) (M_112 : zMt) (N_112 : zNt), (∀ a j, ¬ WM_X8_years P a j → M_112 a j = M0 a j) → (∀ a j, ¬ WN_X8_years P a j → N_112 a j = N0 a j) → (jA P M_112) → (jB P M_112) → (jH P M_112) → (jK P M_112) → (jL P M_112) → (jO P M_112) → (jR P M_112) → (jS P M_112) → (jT P M_112) → (0 ≤ Int32.toInt x7_112) → (0 ≤ Int32.toInt x8_112) → (Int32.toInt x8_112 ≤ 10) → ((2147483648 - Int32.toInt x7_112).toNat < u_75 + 1) → (Int32.toInt x7_112 < 2147483647) → (0 ≤ Int32.toInt x1_112 ∧ 1 ≤ Int32.toInt x2_112 ∧ Int32.toInt x2_112 ≤ 30 ∧ Int32.toInt x1_112 + Int32.toInt x2_112 ≤ 999999999) → (2147483648 - Int32.toInt x8_112).toNat < u → ∃ r, D_X8_years_112 P (D_X8_years_75 P u_75) u x1_112 x2_112 x3_112 x4_112 x5_112 x6_112 x7_112 x8_112 M_112 N_112 = some r ∧ ((∀ a j, ¬ WM_X8_years P a j → r.2.1 a j = M0 a j) ∧ (∀ a j, ¬ WN_X8_years P a j → r.2.2 a j = N0 a j) ∧ ((jB P r.2.1) ∧ (jS P r.2.1) ∧ (jR P r.2.1) ∧ (jK P r.2.1) ∧ (jT P r.2.1))) := by
        intro u
        induction u with
        | zero => intro x1_112 x2_112 x3_112 x4_112 x5_112 x6_112 x7_112 x8_112 M_112 N_112 k_112 kn_112 p_jA_112 p_jB_112 p_jH_112 p_jK_112 p_jL_112 p_jO_112 p_jR_112 p_jS_112 p_jT_112 f0_112 f1_112 f2_112 f3_112 f4_112 f5_112 hm_112; exact absurd hm_112 (Nat.not_lt_zero _)
        | succ u_112 ih_112 =>
          have T_150 : ∀ (x1_150 : Int32) (x2_150 : Int32) (x3_150 : Int32) (x4_150 : Int32) (x5_150 : Int32) (x6_150 : Int32) (x7_150 : Int32) (x8_150 : Int32) (y1_150 : Int32) (y2_150 : Int32) (M_150 : zMt) (N_150 : zNt), (∀ a j, ¬ WM_X8_years P a j → M_150 a j = M0 a j) → (∀ a j, ¬ WN_X8_years P a j → N_150 a j = N0 a j) → (jA P M_150) → (jB P M_150) → (jH P M_150) → (jK P M_150) → (jL P M_150) → (jO P M_150) → (jR P M_150) → (jS P M_150) → (jT P M_150) → (0 ≤ Int32.toInt x7_150) → (0 ≤ Int32.toInt x8_150) → (Int32.toInt x8_150 < Int32.toInt (M_150 P 8)) → ((2147483648 - Int32.toInt x7_150).toNat < u_75 + 1) → (Int32.toInt x7_150 < 2147483647) → ((2147483648 - Int32.toInt x8_150).toNat < u_112 + 1) → (Int32.toInt x8_150 < 2147483647) → (0 ≤ Int32.toInt x1_150 ∧ 1 ≤ Int32.toInt x2_150 ∧ Int32.toInt x2_150 ≤ 30 ∧ Int32.toInt x1_150 + Int32.toInt x2_150 ≤ 999999999) → (Int32.toInt y1_150 = Int32.toInt x8_150) → ∃ r, D_X8_years_150 P (D_X8_years_75 P u_75) (D_X8_years_112 P (D_X8_years_75 P u_75) u_112) x1_150 x2_150 x3_150 x4_150 x5_150 x6_150 x7_150 x8_150 y1_150 y2_150 M_150 N_150 = some r ∧ ((∀ a j, ¬ WM_X8_years P a j → r.2.1 a j = M0 a j) ∧ (∀ a j, ¬ WN_X8_years P a j → r.2.2 a j = N0 a j) ∧ ((jB P r.2.1) ∧ (jS P r.2.1) ∧ (jR P r.2.1) ∧ (jK P r.2.1) ∧ (jT P r.2.1))) := by
            intro x1_150 x2_150 x3_150 x4_150 x5_150 x6_150 x7_150 x8_150 y1_150 y2_150 M_150o N_150 k_150 kn_150 p_jA_150 p_jB_150 p_jH_150 p_jK_150 p_jL_150 p_jO_150 p_jR_150 p_jS_150 p_jT_150 f0_150 f1_150 f2_150 f3_150 f4_150 f5_150 f6_150 f7_150 f8_150
            obtain ⟨u0_jB_150, u1_jB_150, u2_jB_150, u3_jB_150, u4_jB_150, u5_jB_150⟩ := id p_jB_150
            obtain ⟨u0_jS_150, u1_jS_150, u2_jS_150, u3_jS_150, u4_jS_150, u5_jS_150, u6_jS_150, u7_jS_150⟩ := jS.ints p_jS_150
            obtain ⟨u0_jT_150, u1_jT_150, u2_jT_150, u3_jT_150, u4_jT_150, u5_jT_150⟩ := id p_jT_150
            unfold D_X8_years_150
            refine vI (vp_of (by first | omega | (simp only [Int32.toInt_add, Int32.toInt_sub, Int32.toInt_mul, Int32.toInt_toInt64, Int64.toInt_add, z_m1, Int32.reduceToInt, Int64.reduceToInt, Int32.reduceToNatClampNeg, Int.bmod_def, or_true, true_or, and_true, true_and] <;> omega)) (by first | omega | (simp only [Int32.toInt_add, Int32.toInt_sub, Int32.toInt_mul, Int32.toInt_toInt64, Int64.toInt_add, z_m1, Int32.reduceToInt, Int64.reduceToInt, Int32.reduceToNatClampNeg, Int.bmod_def, or_true, true_or, and_true, true_and] <;> omega))) ?_
            refine vLm (W := WM_X8_years P) (fun a j h => (zu_ne (fun z => wq_X8_years_M31_r h z.1)).trans (k_150 a j h)) (fun M_150 f_150 k_150 => ?_)
            have c7_150 : Int32.toInt (M_150 P 7) = Int32.toInt (M_150o P 7) := congrArg Int32.toInt ((congrFun (congrFun f_150.symm P) 7).trans (zu_ne (fun z => wq_pne0 (by decide) z.1)))
            have c8_150 : Int32.toInt (M_150 P 8) = Int32.toInt (M_150o P 8) := congrArg Int32.toInt ((congrFun (congrFun f_150.symm P) 8).trans (zu_ne (fun z => wq_pne0 (by decide) z.1)))
            have c33_150 : Int32.toInt (M_150 P 33) = Int32.toInt (M_150o P 33) := congrArg Int32.toInt ((congrFun (congrFun f_150.symm P) 33).trans (zu_ne (fun z => wq_pne0 (by decide) z.1)))
            have n_150 : nA P M_150 = nA P M_150o := nA_congr (fun a j h => (congrFun (congrFun f_150.symm a) j).trans (zu_ne (fun z => wf_nA_M31_r h z.1)))
            have p_jA_150 : jA P M_150 := jA.mono p_jA_150 (fun a j h => (congrFun (congrFun f_150.symm a) j).trans (zu_ne (fun z => wf_jA_M31_r h z.1)))
            have p_jB_150 : jB P M_150 := jB.mono p_jB_150 (fun a j h => (congrFun (congrFun f_150.symm a) j).trans (zu_ne (fun z => wf_jB_M31_r h z.1)))
            obtain ⟨u0_jB_150, u1_jB_150, u2_jB_150, u3_jB_150, u4_jB_150, u5_jB_150⟩ := id p_jB_150
            have p_jH_150 : jH P M_150 := jH.mono p_jH_150 (fun a j h => (congrFun (congrFun f_150.symm a) j).trans (zu_ne (fun z => wf_jH_M31_r h z.1)))
            have p_jK_150 : jK P M_150 := jK.mono p_jK_150 (fun a j h => (congrFun (congrFun f_150.symm a) j).trans (zu_ne (fun z => wf_jK_M31_r h z.1)))
            have p_jL_150 : jL P M_150 := jL.mono p_jL_150 (fun a j h => (congrFun (congrFun f_150.symm a) j).trans (zu_ne (fun z => wf_jL_M31_r h z.1)))
            have p_jO_150 : jO P M_150 := jO.mono p_jO_150 (fun a j h => (congrFun (congrFun f_150.symm a) j).trans (zu_ne (fun z => wf_jO_M31_r h z.1)))
            have p_jR_150 : jR P M_150 := jR.mono p_jR_150 (fun a j h => (congrFun (congrFun f_150.symm a) j).trans (zu_ne (fun z => wf_jR_M31_r h z.1)))
            have p_jS_150 : jS P M_150 := jS.mono p_jS_150 (fun a j h => (congrFun (congrFun f_150.symm a) j).trans (zu_ne (fun z => wf_jS_M31_r h z.1)))
            obtain ⟨u0_jS_150, u1_jS_150, u2_jS_150, u3_jS_150, u4_jS_150, u5_jS_150, u6_jS_150, u7_jS_150⟩ := jS.ints p_jS_150
            have p_jT_150 : jT P M_150 := jT.mono p_jT_150 (fun a j h => (congrFun (congrFun f_150.symm a) j).trans (zu_ne (fun z => wf_jT_M31_r h z.1)))
            obtain ⟨u0_jT_150, u1_jT_150, u2_jT_150, u3_jT_150, u4_jT_150, u5_jT_150⟩ := id p_jT_150
            refine vI (vp_of (by first | omega | (simp only [Int32.toInt_add, Int32.toInt_sub, Int32.toInt_mul, Int32.toInt_toInt64, Int64.toInt_add, z_m1, Int32.reduceToInt, Int64.reduceToInt, Int32.reduceToNatClampNeg, Int.bmod_def, or_true, true_or, and_true, true_and] <;> omega)) (by first | omega | (simp only [Int32.toInt_add, Int32.toInt_sub, Int32.toInt_mul, Int32.toInt_toInt64, Int64.toInt_add, z_m1, Int32.reduceToInt, Int64.reduceToInt, Int32.reduceToNatClampNeg, Int.bmod_def, or_true, true_or, and_true, true_and] <;> omega))) ?_
            exact ih_112 _ _ _ _ _ _ _ _ _ _ k_150 kn_150 p_jA_150 p_jB_150 p_jH_150 p_jK_150 p_jL_150 p_jO_150 p_jR_150 p_jS_150 p_jT_150 (by first | omega | (simp only [Int32.toInt_add, Int32.toInt_sub, Int32.toInt_mul, Int32.toInt_toInt64, Int64.toInt_add, z_m1, Int32.reduceToInt, Int64.reduceToInt, Int32.reduceToNatClampNeg, Int.bmod_def, or_true, true_or, and_true, true_and] <;> omega)) (by first | omega | (simp only [Int32.toInt_add, Int32.toInt_sub, Int32.toInt_mul, Int32.toInt_toInt64, Int64.toInt_add, z_m1, Int32.reduceToInt, Int64.reduceToInt, Int32.reduceToNatClampNeg, Int.bmod_def, or_true, true_or, and_true, true_and] <;> omega)) (by first | omega | (simp only [Int32.toInt_add, Int32.toInt_sub, Int32.toInt_mul, Int32.toInt_toInt64, Int64.toInt_add, z_m1, Int32.reduceToInt, Int64.reduceToInt, Int32.reduceToNatClampNeg, Int.bmod_def, or_true, true_or, and_true, true_and] <;> omega)) f3_150 f4_150 (by first | omega | (simp only [Int32.toInt_add, Int32.toInt_sub, Int32.toInt_mul, Int32.toInt_toInt64, Int64.toInt_add, z_m1, Int32.reduceToInt, Int64.reduceToInt, Int32.reduceToNatClampNeg, Int.bmod_def, or_true, true_or, and_true, true_and] <;> omega)) (z_up1 f6_150 f5_150)
          intro x1_112 x2_112 x3_112 x4_112 x5_112 x6_112 x7_112 x8_112 M_112 N_112 k_112 kn_112 p_jA_112 p_jB_112 p_jH_112 p_jK_112 p_jL_112 p_jO_112 p_jR_112 p_jS_112 p_jT_112 f0_112 f1_112 f2_112 f3_112 f4_112 f5_112 hm_112
          obtain ⟨u0_jB_112, u1_jB_112, u2_jB_112, u3_jB_112, u4_jB_112, u5_jB_112⟩ := id p_jB_112
          obtain ⟨u0_jS_112, u1_jS_112, u2_jS_112, u3_jS_112, u4_jS_112, u5_jS_112, u6_jS_112, u7_jS_112⟩ := jS.ints p_jS_112
          obtain ⟨u0_jT_112, u1_jT_112, u2_jT_112, u3_jT_112, u4_jT_112, u5_jT_112⟩ := id p_jT_112
          rw [D_X8_years_112]
          refine vIf (fun h_118 => ?_) (fun h_118 => ?_)
          · have i_118 := Int32.le_iff_toInt_le.mp h_118
            (try simp only [Int32.toInt_add, Int32.toInt_sub, Int32.toInt_mul, Int32.toInt_toInt64, Int64.toInt_add, z_m1, Int32.reduceToInt, Int64.reduceToInt, Int32.reduceToNatClampNeg, Int.bmod_def] at i_118)
            exact ih_75 _ _ _ _ _ _ _ _ _ k_112 kn_112 p_jA_112 p_jB_112 p_jK_112 p_jR_112 p_jS_112 p_jT_112 (by first | omega | (simp only [Int32.toInt_add, Int32.toInt_sub, Int32.toInt_mul, Int32.toInt_toInt64, Int64.toInt_add, z_m1, Int32.reduceToInt, Int64.reduceToInt, Int32.reduceToNatClampNeg, Int.bmod_def, or_true, true_or, and_true, true_and] <;> omega)) (by first | omega | (simp only [Int32.toInt_add, Int32.toInt_sub, Int32.toInt_mul, Int32.toInt_toInt64, Int64.toInt_add, z_m1, Int32.reduceToInt, Int64.reduceToInt, Int32.reduceToNatClampNeg, Int.bmod_def, or_true, true_or, and_true, true_and] <;> omega)) (z_up1 f4_112 f3_112)
          · have i_118 := Int32.lt_iff_toInt_lt.mp (Int32.not_le.mp h_118)
            (try simp only [Int32.toInt_add, Int32.toInt_sub, Int32.toInt_mul, Int32.toInt_toInt64, Int64.toInt_add, z_m1, Int32.reduceToInt, Int64.reduceToInt, Int32.reduceToNatClampNeg, Int.bmod_def] at i_118)
            refine vB (v_X8_unitNow p_jB_112 p_jH_112 p_jR_112 (by first | omega | (simp only [Int32.toInt_add, Int32.toInt_sub, Int32.toInt_mul, Int32.toInt_toInt64, Int64.toInt_add, z_m1, Int32.reduceToInt, Int64.reduceToInt, Int32.reduceToNatClampNeg, Int.bmod_def, or_true, true_or, and_true, true_and] <;> omega)) (by first | omega | (simp only [Int32.toInt_add, Int32.toInt_sub, Int32.toInt_mul, Int32.toInt_toInt64, Int64.toInt_add, z_m1, Int32.reduceToInt, Int64.reduceToInt, Int32.reduceToNatClampNeg, Int.bmod_def, or_true, true_or, and_true, true_and] <;> omega))) (fun e_130 f_130 q_130 => ?_)
            obtain ⟨x0_130, x1_130⟩ := q_130
            (try simp only [Int32.toInt_add, Int32.toInt_sub, Int32.toInt_mul, Int32.toInt_toInt64, Int64.toInt_add, z_m1, Int32.reduceToInt, Int64.reduceToInt, Int32.reduceToNatClampNeg, Int.bmod_def] at x0_130)
            (try simp only [Int32.toInt_add, Int32.toInt_sub, Int32.toInt_mul, Int32.toInt_toInt64, Int64.toInt_add, z_m1, Int32.reduceToInt, Int64.reduceToInt, Int32.reduceToNatClampNeg, Int.bmod_def] at x1_130)
            refine vIf (fun h_134 => ?_) (fun h_134 => ?_)
            · have i_134 := congrArg Int32.toInt h_134
              (try simp only [Int32.toInt_add, Int32.toInt_sub, Int32.toInt_mul, Int32.toInt_toInt64, Int64.toInt_add, z_m1, Int32.reduceToInt, Int64.reduceToInt, Int32.reduceToNatClampNeg, Int.bmod_def] at i_134)
              refine vI (vp_of (by first | omega | (simp only [Int32.toInt_add, Int32.toInt_sub, Int32.toInt_mul, Int32.toInt_toInt64, Int64.toInt_add, z_m1, Int32.reduceToInt, Int64.reduceToInt, Int32.reduceToNatClampNeg, Int.bmod_def, or_true, true_or, and_true, true_and] <;> omega)) (by first | omega | (simp only [Int32.toInt_add, Int32.toInt_sub, Int32.toInt_mul, Int32.toInt_toInt64, Int64.toInt_add, z_m1, Int32.reduceToInt, Int64.reduceToInt, Int32.reduceToNatClampNeg, Int.bmod_def, or_true, true_or, and_true, true_and] <;> omega))) ?_
              exact T_150 _ _ _ _ _ _ _ _ _ _ _ _ k_112 kn_112 p_jA_112 p_jB_112 p_jH_112 p_jK_112 p_jL_112 p_jO_112 p_jR_112 p_jS_112 p_jT_112 (by first | omega | (simp only [Int32.toInt_add, Int32.toInt_sub, Int32.toInt_mul, Int32.toInt_toInt64, Int64.toInt_add, z_m1, Int32.reduceToInt, Int64.reduceToInt, Int32.reduceToNatClampNeg, Int.bmod_def, or_true, true_or, and_true, true_and] <;> omega)) (by first | omega | (simp only [Int32.toInt_add, Int32.toInt_sub, Int32.toInt_mul, Int32.toInt_toInt64, Int64.toInt_add, z_m1, Int32.reduceToInt, Int64.reduceToInt, Int32.reduceToNatClampNeg, Int.bmod_def, or_true, true_or, and_true, true_and] <;> omega)) (by first | omega | (simp only [Int32.toInt_add, Int32.toInt_sub, Int32.toInt_mul, Int32.toInt_toInt64, Int64.toInt_add, z_m1, Int32.reduceToInt, Int64.reduceToInt, Int32.reduceToNatClampNeg, Int.bmod_def, or_true, true_or, and_true, true_and] <;> omega)) f3_112 f4_112 hm_112 (by first | assumption | exact z_lt (by assumption) | exact z_lt2 (by assumption) | exact z_lt3 (by assumption) (by first | assumption | decide)) (by first | omega | (simp only [Int32.toInt_add, Int32.toInt_sub, Int32.toInt_mul, Int32.toInt_toInt64, Int64.toInt_add, z_m1, Int32.reduceToInt, Int64.reduceToInt, Int32.reduceToNatClampNeg, Int.bmod_def, or_true, true_or, and_true, true_and] <;> omega)) (by first | omega | (simp only [Int32.toInt_add, Int32.toInt_sub, Int32.toInt_mul, Int32.toInt_toInt64, Int64.toInt_add, z_m1, Int32.reduceToInt, Int64.reduceToInt, Int32.reduceToNatClampNeg, Int.bmod_def, or_true, true_or, and_true, true_and] <;> omega))
            · have i_134 : ¬ Int32.toInt e_130 = Int32.toInt (-1 : Int32) := fun q => h_134 (Int32.toInt_inj.mp q)
              (try simp only [Int32.toInt_add, Int32.toInt_sub, Int32.toInt_mul, Int32.toInt_toInt64, Int64.toInt_add, z_m1, Int32.reduceToInt, Int64.reduceToInt, Int32.reduceToNatClampNeg, Int.bmod_def] at i_134)
              exact T_150 _ _ _ _ _ _ _ _ _ _ _ _ k_112 kn_112 p_jA_112 p_jB_112 p_jH_112 p_jK_112 p_jL_112 p_jO_112 p_jR_112 p_jS_112 p_jT_112 (by first | omega | (simp only [Int32.toInt_add, Int32.toInt_sub, Int32.toInt_mul, Int32.toInt_toInt64, Int64.toInt_add, z_m1, Int32.reduceToInt, Int64.reduceToInt, Int32.reduceToNatClampNeg, Int.bmod_def, or_true, true_or, and_true, true_and] <;> omega)) (by first | omega | (simp only [Int32.toInt_add, Int32.toInt_sub, Int32.toInt_mul, Int32.toInt_toInt64, Int64.toInt_add, z_m1, Int32.reduceToInt, Int64.reduceToInt, Int32.reduceToNatClampNeg, Int.bmod_def, or_true, true_or, and_true, true_and] <;> omega)) (by first | omega | (simp only [Int32.toInt_add, Int32.toInt_sub, Int32.toInt_mul, Int32.toInt_toInt64, Int64.toInt_add, z_m1, Int32.reduceToInt, Int64.reduceToInt, Int32.reduceToNatClampNeg, Int.bmod_def, or_true, true_or, and_true, true_and] <;> omega)) f3_112 f4_112 hm_112 (by first | assumption | exact z_lt (by assumption) | exact z_lt2 (by assumption) | exact z_lt3 (by assumption) (by first | assumption | decide)) (by first | omega | (simp only [Int32.toInt_add, Int32.toInt_sub, Int32.toInt_mul, Int32.toInt_toInt64, Int64.toInt_add, z_m1, Int32.reduceToInt, Int64.reduceToInt, Int32.reduceToNatClampNeg, Int.bmod_def, or_true, true_or, and_true, true_and] <;> omega)) (by first | omega | (simp only [Int32.toInt_add, Int32.toInt_sub, Int32.toInt_mul, Int32.toInt_toInt64, Int64.toInt_add, z_m1, Int32.reduceToInt, Int64.reduceToInt, Int32.reduceToNatClampNeg, Int.bmod_def, or_true, true_or, and_true, true_and] <;> omega))
      have T_112 : ∀ (x1_112 : Int32) (x2_112 : Int32) (x3_112 : Int32) (x4_112 : Int32) (x5_112 : Int32) (x6_112 : Int32) (x7_112 : Int32) (x8_112 : Int32) (M_112 : zMt) (N_112 : zNt), (∀ a j, ¬ WM_X8_years P a j → M_112 a j = M0 a j) → (∀ a j, ¬ WN_X8_years P a j → N_112 a j = N0 a j) → (jA P M_112) → (jB P M_112) → (jH P M_112) → (jK P M_112) → (jL P M_112) → (jO P M_112) → (jR P M_112) → (jS P M_112) → (jT P M_112) → (0 ≤ Int32.toInt x7_112) → (0 ≤ Int32.toInt x8_112) → (Int32.toInt x8_112 ≤ 10) → ((2147483648 - Int32.toInt x7_112).toNat < u_75 + 1) → (Int32.toInt x7_112 < 2147483647) → (0 ≤ Int32.toInt x1_112 ∧ 1 ≤ Int32.toInt x2_112 ∧ Int32.toInt x2_112 ≤ 30 ∧ Int32.toInt x1_112 + Int32.toInt x2_112 ≤ 999999999) → ∃ r, D_X8_years_112 P (D_X8_years_75 P u_75) zFu x1_112 x2_112 x3_112 x4_112 x5_112 x6_112 x7_112 x8_112 M_112 N_112 = some r ∧ ((∀ a j, ¬ WM_X8_years P a j → r.2.1 a j = M0 a j) ∧ (∀ a j, ¬ WN_X8_years P a j → r.2.2 a j = N0 a j) ∧ ((jB P r.2.1) ∧ (jS P r.2.1) ∧ (jR P r.2.1) ∧ (jK P r.2.1) ∧ (jT P r.2.1))) := fun x1_112 x2_112 x3_112 x4_112 x5_112 x6_112 x7_112 x8_112 M_112 N_112 k_112 kn_112 p_jA_112 p_jB_112 p_jH_112 p_jK_112 p_jL_112 p_jO_112 p_jR_112 p_jS_112 p_jT_112 f0_112 f1_112 f2_112 f3_112 f4_112 f5_112 => TL_112 zFu x1_112 x2_112 x3_112 x4_112 x5_112 x6_112 x7_112 x8_112 M_112 N_112 k_112 kn_112 p_jA_112 p_jB_112 p_jH_112 p_jK_112 p_jL_112 p_jO_112 p_jR_112 p_jS_112 p_jT_112 f0_112 f1_112 f2_112 f3_112 f4_112 f5_112 (zFu_up _)
      intro x1_75 x2_75 x3_75 x4_75 x5_75 x6_75 x7_75 M_75 N_75 k_75 kn_75 p_jA_75 p_jB_75 p_jK_75 p_jR_75 p_jS_75 p_jT_75 f0_75 f1_75 hm_75
      obtain ⟨u0_jB_75, u1_jB_75, u2_jB_75, u3_jB_75, u4_jB_75, u5_jB_75⟩ := id p_jB_75
      obtain ⟨u0_jS_75, u1_jS_75, u2_jS_75, u3_jS_75, u4_jS_75, u5_jS_75, u6_jS_75, u7_jS_75⟩ := jS.ints p_jS_75
      obtain ⟨u0_jT_75, u1_jT_75, u2_jT_75, u3_jT_75, u4_jT_75, u5_jT_75⟩ := id p_jT_75
      rw [D_X8_years_75]
      refine vIf (fun h_78 => ?_) (fun h_78 => ?_)
      · have i_78 := Int32.le_iff_toInt_le.mp h_78
        (try simp only [Int32.toInt_add, Int32.toInt_sub, Int32.toInt_mul, Int32.toInt_toInt64, Int64.toInt_add, z_m1, Int32.reduceToInt, Int64.reduceToInt, Int32.reduceToNatClampNeg, Int.bmod_def] at i_78)
        refine vB (v_X8_takesBack p_jB_75 p_jA_75) (fun e_178 f_178 q_178 => ?_)
        have k_178 : ∀ a j, ¬ WM_X8_years P a j → e_178 a j = M0 a j := fun a j h => (q_178.1 a j (wz_M_X8_takesBack_X8_years h)).trans (k_75 a j h)
        have c7_178 : Int32.toInt (e_178 P 7) = Int32.toInt (M_75 P 7) := congrArg Int32.toInt (q_178.1 P 7 (wc_X8_takesBack_7))
        have c8_178 : Int32.toInt (e_178 P 8) = Int32.toInt (M_75 P 8) := congrArg Int32.toInt (q_178.1 P 8 (wc_X8_takesBack_8))
        have c33_178 : Int32.toInt (e_178 P 33) = Int32.toInt (M_75 P 33) := congrArg Int32.toInt (q_178.1 P 33 (wc_X8_takesBack_33))
        have p_jA_178 : jA P e_178 := jA.mono p_jA_75 (fun a j h => q_178.1 a j (wf_jA_X8_takesBack h))
        have p_jB_178 : jB P e_178 := jB.mono p_jB_75 (fun a j h => q_178.1 a j (wf_jB_X8_takesBack h))
        obtain ⟨u0_jB_178, u1_jB_178, u2_jB_178, u3_jB_178, u4_jB_178, u5_jB_178⟩ := id p_jB_178
        have p_jK_178 : jK P e_178 := jK.mono p_jK_75 (fun a j h => q_178.1 a j (wf_jK_X8_takesBack h))
        have p_jR_178 : jR P e_178 := jR.mono p_jR_75 (fun a j h => q_178.1 a j (wf_jR_X8_takesBack h))
        have p_jT_178 : jT P e_178 := jT.mono p_jT_75 (fun a j h => q_178.1 a j (wf_jT_X8_takesBack h))
        obtain ⟨u0_jT_178, u1_jT_178, u2_jT_178, u3_jT_178, u4_jT_178, u5_jT_178⟩ := id p_jT_178
        have x0_178 := q_178.2
        obtain ⟨u0_jS_178, u1_jS_178, u2_jS_178, u3_jS_178, u4_jS_178, u5_jS_178, u6_jS_178, u7_jS_178⟩ := jS.ints x0_178
        refine vIf (fun h_183 => ?_) (fun h_183 => ?_)
        · have i_183 := congrArg Int32.toInt h_183
          (try simp only [Int32.toInt_add, Int32.toInt_sub, Int32.toInt_mul, Int32.toInt_toInt64, Int64.toInt_add, z_m1, Int32.reduceToInt, Int64.reduceToInt, Int32.reduceToNatClampNeg, Int.bmod_def] at i_183)
          exact T_203 _ _ _ k_178 kn_75 p_jA_178 p_jB_178 p_jK_178 p_jR_178 x0_178 p_jT_178
        · have i_183 : ¬ Int32.toInt x3_75 = Int32.toInt (0 : Int32) := fun q => h_183 (Int32.toInt_inj.mp q)
          (try simp only [Int32.toInt_add, Int32.toInt_sub, Int32.toInt_mul, Int32.toInt_toInt64, Int64.toInt_add, z_m1, Int32.reduceToInt, Int64.reduceToInt, Int32.reduceToNatClampNeg, Int.bmod_def] at i_183)
          refine vIf (fun h_193 => ?_) (fun h_193 => ?_)
          · have i_193 := congrArg Int32.toInt h_193
            (try simp only [Int32.toInt_add, Int32.toInt_sub, Int32.toInt_mul, Int32.toInt_toInt64, Int64.toInt_add, z_m1, Int32.reduceToInt, Int64.reduceToInt, Int32.reduceToNatClampNeg, Int.bmod_def] at i_193)
            exact T_203 _ _ _ k_178 kn_75 p_jA_178 p_jB_178 p_jK_178 p_jR_178 x0_178 p_jT_178
          · have i_193 : ¬ Int32.toInt x3_75 = Int32.toInt (1 : Int32) := fun q => h_193 (Int32.toInt_inj.mp q)
            (try simp only [Int32.toInt_add, Int32.toInt_sub, Int32.toInt_mul, Int32.toInt_toInt64, Int64.toInt_add, z_m1, Int32.reduceToInt, Int64.reduceToInt, Int32.reduceToNatClampNeg, Int.bmod_def] at i_193)
            exact T_203 _ _ _ k_178 kn_75 p_jA_178 p_jB_178 p_jK_178 p_jR_178 x0_178 p_jT_178
      · have i_78 := Int32.lt_iff_toInt_lt.mp (Int32.not_le.mp h_78)
        (try simp only [Int32.toInt_add, Int32.toInt_sub, Int32.toInt_mul, Int32.toInt_toInt64, Int64.toInt_add, z_m1, Int32.reduceToInt, Int64.reduceToInt, Int32.reduceToNatClampNeg, Int.bmod_def] at i_78)
        refine vB (v_X8_goesYear p_jB_75 p_jS_75 p_jR_75 (by first | omega | (simp only [Int32.toInt_add, Int32.toInt_sub, Int32.toInt_mul, Int32.toInt_toInt64, Int64.toInt_add, z_m1, Int32.reduceToInt, Int64.reduceToInt, Int32.reduceToNatClampNeg, Int.bmod_def, or_true, true_or, and_true, true_and] <;> omega))) (fun e_86 f_86 q_86 => ?_)
        have k_86 : ∀ a j, ¬ WM_X8_years P a j → e_86.1 a j = M0 a j := fun a j h => (q_86.1 a j (wz_M_X8_goesYear_X8_years h)).trans (k_75 a j h)
        have kn_86 : ∀ a j, ¬ WN_X8_years P a j → e_86.2 a j = N0 a j := fun a j h => (q_86.2.1 a j (wz_N_X8_goesYear_X8_years h)).trans (kn_75 a j h)
        have c7_86 : Int32.toInt (e_86.1 P 7) = Int32.toInt (M_75 P 7) := congrArg Int32.toInt (q_86.1 P 7 (wc_X8_goesYear_7))
        have c8_86 : Int32.toInt (e_86.1 P 8) = Int32.toInt (M_75 P 8) := congrArg Int32.toInt (q_86.1 P 8 (wc_X8_goesYear_8))
        have p_jA_86 : jA P e_86.1 := jA.mono p_jA_75 (fun a j h => q_86.1 a j (wf_jA_X8_goesYear h))
        have p_jK_86 : jK P e_86.1 := jK.mono p_jK_75 (fun a j h => q_86.1 a j (wf_jK_X8_goesYear h))
        have p_jT_86 : jT P e_86.1 := jT.mono p_jT_75 (fun a j h => q_86.1 a j (wf_jT_X8_goesYear h))
        obtain ⟨u0_jT_86, u1_jT_86, u2_jT_86, u3_jT_86, u4_jT_86, u5_jT_86⟩ := id p_jT_86
        obtain ⟨x0_86, x1_86, x2_86, x3_86, x4_86, x5_86, x6_86⟩ := q_86.2.2
        obtain ⟨u0_jB_86, u1_jB_86, u2_jB_86, u3_jB_86, u4_jB_86, u5_jB_86⟩ := id x0_86
        obtain ⟨u0_jS_86, u1_jS_86, u2_jS_86, u3_jS_86, u4_jS_86, u5_jS_86, u6_jS_86, u7_jS_86⟩ := jS.ints x1_86
        (try simp only [Int32.toInt_add, Int32.toInt_sub, Int32.toInt_mul, Int32.toInt_toInt64, Int64.toInt_add, z_m1, Int32.reduceToInt, Int64.reduceToInt, Int32.reduceToNatClampNeg, Int.bmod_def] at x6_86)
        refine vB (v_X8_givenTags x0_86) (fun e_92 f_92 q_92 => ?_)
        refine vB (v_X8_winnersNow x0_86) (fun e_101 f_101 q_101 => ?_)
        exact T_112 _ _ _ _ _ _ _ _ _ _ k_86 kn_86 p_jA_86 x0_86 x3_86 p_jK_86 x2_86 x4_86 x5_86 x1_86 p_jT_86 (by first | omega | (simp only [Int32.toInt_add, Int32.toInt_sub, Int32.toInt_mul, Int32.toInt_toInt64, Int64.toInt_add, z_m1, Int32.reduceToInt, Int64.reduceToInt, Int32.reduceToNatClampNeg, Int.bmod_def, or_true, true_or, and_true, true_and] <;> omega)) (by first | omega | (simp only [Int32.toInt_add, Int32.toInt_sub, Int32.toInt_mul, Int32.toInt_toInt64, Int64.toInt_add, z_m1, Int32.reduceToInt, Int64.reduceToInt, Int32.reduceToNatClampNeg, Int.bmod_def, or_true, true_or, and_true, true_and] <;> omega)) (by first | omega | (simp only [Int32.toInt_add, Int32.toInt_sub, Int32.toInt_mul, Int32.toInt_toInt64, Int64.toInt_add, z_m1, Int32.reduceToInt, Int64.reduceToInt, Int32.reduceToNatClampNeg, Int.bmod_def, or_true, true_or, and_true, true_and] <;> omega)) hm_75 (by first | assumption | exact z_lt (by assumption) | exact z_lt2 (by assumption) | exact z_lt3 (by assumption) (by first | assumption | decide)) (by first | omega | (simp only [Int32.toInt_add, Int32.toInt_sub, Int32.toInt_mul, Int32.toInt_toInt64, Int64.toInt_add, z_m1, Int32.reduceToInt, Int64.reduceToInt, Int32.reduceToNatClampNeg, Int.bmod_def, or_true, true_or, and_true, true_and] <;> omega))
  have T_75 : ∀ (x1_75 : Int32) (x2_75 : Int32) (x3_75 : Int32) (x4_75 : Int32) (x5_75 : Int32) (x6_75 : Int32) (x7_75 : Int32) (M_75 : zMt) (N_75 : zNt), (∀ a j, ¬ WM_X8_years P a j → M_75 a j = M0 a j) → (∀ a j, ¬ WN_X8_years P a j → N_75 a j = N0 a j) → (jA P M_75) → (jB P M_75) → (jK P M_75) → (jR P M_75) → (jS P M_75) → (jT P M_75) → (0 ≤ Int32.toInt x7_75) → (0 ≤ Int32.toInt x1_75 ∧ 1 ≤ Int32.toInt x2_75 ∧ Int32.toInt x2_75 ≤ 30 ∧ Int32.toInt x1_75 + Int32.toInt x2_75 ≤ 999999999) → ∃ r, D_X8_years_75 P zFu x1_75 x2_75 x3_75 x4_75 x5_75 x6_75 x7_75 M_75 N_75 = some r ∧ ((∀ a j, ¬ WM_X8_years P a j → r.2.1 a j = M0 a j) ∧ (∀ a j, ¬ WN_X8_years P a j → r.2.2 a j = N0 a j) ∧ ((jB P r.2.1) ∧ (jS P r.2.1) ∧ (jR P r.2.1) ∧ (jK P r.2.1) ∧ (jT P r.2.1))) := fun x1_75 x2_75 x3_75 x4_75 x5_75 x6_75 x7_75 M_75 N_75 k_75 kn_75 p_jA_75 p_jB_75 p_jK_75 p_jR_75 p_jS_75 p_jT_75 f0_75 f1_75 => TL_75 zFu x1_75 x2_75 x3_75 x4_75 x5_75 x6_75 x7_75 M_75 N_75 k_75 kn_75 p_jA_75 p_jB_75 p_jK_75 p_jR_75 p_jS_75 p_jT_75 f0_75 f1_75 (zFu_up _)
  have TL_49 : ∀ u : Nat, ∀ (x1_49 : Int32) (x2_49 : Int32) (x3_49 : Int32) (x4_49 : Int32) (x5_49 : Int32) (x6_49 : Int32) (x7_49 : Int32) (M_49 : zMt) (N_49 : zNt), (∀ a j, ¬ WM_X8_years P a j → M_49 a j = M0 a j) → (∀ a j, ¬ WN_X8_years P a j → N_49 a j = N0 a j) → (jA P M_49) → (jB P M_49) → (jK P M_49) → (jR P M_49) → (jS P M_49) → (jT P M_49) → (x4_49 = 0 ∨ x4_49 = 1) → (x6_49 = 0 ∨ x6_49 = 1) → (0 ≤ Int32.toInt x7_49) → (Int32.toInt x7_49 ≤ 10) → (0 ≤ Int32.toInt x1_49 ∧ 1 ≤ Int32.toInt x2_49 ∧ Int32.toInt x2_49 ≤ 30 ∧ Int32.toInt x1_49 + Int32.toInt x2_49 ≤ 999999999) → (2147483648 - Int32.toInt x7_49).toNat < u → ∃ r, D_X8_years_49 P u x1_49 x2_49 x3_49 x4_49 x5_49 x6_49 x7_49 M_49 N_49 = some r ∧ ((∀ a j, ¬ WM_X8_years P a j → r.2.1 a j = M0 a j) ∧ (∀ a j, ¬ WN_X8_years P a j → r.2.2 a j = N0 a j) ∧ ((jB P r.2.1) ∧ (jS P r.2.1) ∧ (jR P r.2.1) ∧ (jK P r.2.1) ∧ (jT P r.2.1))) := by
    intro u
    induction u with
    | zero => intro x1_49 x2_49 x3_49 x4_49 x5_49 x6_49 x7_49 M_49 N_49 k_49 kn_49 p_jA_49 p_jB_49 p_jK_49 p_jR_49 p_jS_49 p_jT_49 f0_49 f1_49 f2_49 f3_49 f4_49 hm_49; exact absurd hm_49 (Nat.not_lt_zero _)
    | succ u_49 ih_49 =>
      intro x1_49 x2_49 x3_49 x4_49 x5_49 x6_49 x7_49 M_49 N_49 k_49 kn_49 p_jA_49 p_jB_49 p_jK_49 p_jR_49 p_jS_49 p_jT_49 f0_49 f1_49 f2_49 f3_49 f4_49 hm_49
      obtain ⟨u0_jB_49, u1_jB_49, u2_jB_49, u3_jB_49, u4_jB_49, u5_jB_49⟩ := id p_jB_49
      obtain ⟨u0_jS_49, u1_jS_49, u2_jS_49, u3_jS_49, u4_jS_49, u5_jS_49, u6_jS_49, u7_jS_49⟩ := jS.ints p_jS_49
      obtain ⟨u0_jT_49, u1_jT_49, u2_jT_49, u3_jT_49, u4_jT_49, u5_jT_49⟩ := id p_jT_49
      rw [D_X8_years_49]
      refine vIf (fun h_55 => ?_) (fun h_55 => ?_)
      · have i_55 := Int32.le_iff_toInt_le.mp h_55
        (try simp only [Int32.toInt_add, Int32.toInt_sub, Int32.toInt_mul, Int32.toInt_toInt64, Int64.toInt_add, z_m1, Int32.reduceToInt, Int64.reduceToInt, Int32.reduceToNatClampNeg, Int.bmod_def] at i_55)
        exact T_75 _ _ _ _ _ _ _ _ _ k_49 kn_49 p_jA_49 p_jB_49 p_jK_49 p_jR_49 p_jS_49 p_jT_49 (by first | omega | (simp only [Int32.toInt_add, Int32.toInt_sub, Int32.toInt_mul, Int32.toInt_toInt64, Int64.toInt_add, z_m1, Int32.reduceToInt, Int64.reduceToInt, Int32.reduceToNatClampNeg, Int.bmod_def, or_true, true_or, and_true, true_and] <;> omega)) (by first | omega | (simp only [Int32.toInt_add, Int32.toInt_sub, Int32.toInt_mul, Int32.toInt_toInt64, Int64.toInt_add, z_m1, Int32.reduceToInt, Int64.reduceToInt, Int32.reduceToNatClampNeg, Int.bmod_def, or_true, true_or, and_true, true_and] <;> omega))
      · have i_55 := Int32.lt_iff_toInt_lt.mp (Int32.not_le.mp h_55)
        (try simp only [Int32.toInt_add, Int32.toInt_sub, Int32.toInt_mul, Int32.toInt_toInt64, Int64.toInt_add, z_m1, Int32.reduceToInt, Int64.reduceToInt, Int32.reduceToNatClampNeg, Int.bmod_def] at i_55)
        refine vI (vp_of (by first | omega | (simp only [Int32.toInt_add, Int32.toInt_sub, Int32.toInt_mul, Int32.toInt_toInt64, Int64.toInt_add, z_m1, Int32.reduceToInt, Int64.reduceToInt, Int32.reduceToNatClampNeg, Int.bmod_def, or_true, true_or, and_true, true_and] <;> omega)) (by first | omega | (simp only [Int32.toInt_add, Int32.toInt_sub, Int32.toInt_mul, Int32.toInt_toInt64, Int64.toInt_add, z_m1, Int32.reduceToInt, Int64.reduceToInt, Int32.reduceToNatClampNeg, Int.bmod_def, or_true, true_or, and_true, true_and] <;> omega))) ?_
        refine vLm (W := WM_X8_years P) (fun a j h => (zu_ne (fun z => wq_X8_years_M31_r h z.1)).trans (k_49 a j h)) (fun M_65 f_65 k_65 => ?_)
        have c7_65 : Int32.toInt (M_65 P 7) = Int32.toInt (M_49 P 7) := congrArg Int32.toInt ((congrFun (congrFun f_65.symm P) 7).trans (zu_ne (fun z => wq_pne0 (by decide) z.1)))
        have c8_65 : Int32.toInt (M_65 P 8) = Int32.toInt (M_49 P 8) := congrArg Int32.toInt ((congrFun (congrFun f_65.symm P) 8).trans (zu_ne (fun z => wq_pne0 (by decide) z.1)))
        have c33_65 : Int32.toInt (M_65 P 33) = Int32.toInt (M_49 P 33) := congrArg Int32.toInt ((congrFun (congrFun f_65.symm P) 33).trans (zu_ne (fun z => wq_pne0 (by decide) z.1)))
        have n_65 : nA P M_65 = nA P M_49 := nA_congr (fun a j h => (congrFun (congrFun f_65.symm a) j).trans (zu_ne (fun z => wf_nA_M31_r h z.1)))
        have p_jA_65 : jA P M_65 := jA.mono p_jA_49 (fun a j h => (congrFun (congrFun f_65.symm a) j).trans (zu_ne (fun z => wf_jA_M31_r h z.1)))
        have p_jB_65 : jB P M_65 := jB.mono p_jB_49 (fun a j h => (congrFun (congrFun f_65.symm a) j).trans (zu_ne (fun z => wf_jB_M31_r h z.1)))
        obtain ⟨u0_jB_65, u1_jB_65, u2_jB_65, u3_jB_65, u4_jB_65, u5_jB_65⟩ := id p_jB_65
        have p_jK_65 : jK P M_65 := jK.mono p_jK_49 (fun a j h => (congrFun (congrFun f_65.symm a) j).trans (zu_ne (fun z => wf_jK_M31_r h z.1)))
        have p_jR_65 : jR P M_65 := jR.mono p_jR_49 (fun a j h => (congrFun (congrFun f_65.symm a) j).trans (zu_ne (fun z => wf_jR_M31_r h z.1)))
        have p_jS_65 : jS P M_65 := jS.mono p_jS_49 (fun a j h => (congrFun (congrFun f_65.symm a) j).trans (zu_ne (fun z => wf_jS_M31_r h z.1)))
        obtain ⟨u0_jS_65, u1_jS_65, u2_jS_65, u3_jS_65, u4_jS_65, u5_jS_65, u6_jS_65, u7_jS_65⟩ := jS.ints p_jS_65
        have p_jT_65 : jT P M_65 := jT.mono p_jT_49 (fun a j h => (congrFun (congrFun f_65.symm a) j).trans (zu_ne (fun z => wf_jT_M31_r h z.1)))
        obtain ⟨u0_jT_65, u1_jT_65, u2_jT_65, u3_jT_65, u4_jT_65, u5_jT_65⟩ := id p_jT_65
        exact ih_49 _ _ _ _ _ _ _ _ _ k_65 kn_49 p_jA_65 p_jB_65 p_jK_65 p_jR_65 p_jS_65 p_jT_65 (by first | exact Or.inl rfl | exact Or.inr rfl | assumption) (by first | exact Or.inl rfl | exact Or.inr rfl | assumption) (by first | omega | (simp only [Int32.toInt_add, Int32.toInt_sub, Int32.toInt_mul, Int32.toInt_toInt64, Int64.toInt_add, z_m1, Int32.reduceToInt, Int64.reduceToInt, Int32.reduceToNatClampNeg, Int.bmod_def, or_true, true_or, and_true, true_and] <;> omega)) (by first | omega | (simp only [Int32.toInt_add, Int32.toInt_sub, Int32.toInt_mul, Int32.toInt_toInt64, Int64.toInt_add, z_m1, Int32.reduceToInt, Int64.reduceToInt, Int32.reduceToNatClampNeg, Int.bmod_def, or_true, true_or, and_true, true_and] <;> omega)) (by first | omega | (simp only [Int32.toInt_add, Int32.toInt_sub, Int32.toInt_mul, Int32.toInt_toInt64, Int64.toInt_add, z_m1, Int32.reduceToInt, Int64.reduceToInt, Int32.reduceToNatClampNeg, Int.bmod_def, or_true, true_or, and_true, true_and] <;> omega)) (z_up1 (by first | assumption | exact z_lt (by assumption) | exact z_lt2 (by assumption) | exact z_lt3 (by assumption) (by first | assumption | decide)) hm_49)
  have T_49 : ∀ (x1_49 : Int32) (x2_49 : Int32) (x3_49 : Int32) (x4_49 : Int32) (x5_49 : Int32) (x6_49 : Int32) (x7_49 : Int32) (M_49 : zMt) (N_49 : zNt), (∀ a j, ¬ WM_X8_years P a j → M_49 a j = M0 a j) → (∀ a j, ¬ WN_X8_years P a j → N_49 a j = N0 a j) → (jA P M_49) → (jB P M_49) → (jK P M_49) → (jR P M_49) → (jS P M_49) → (jT P M_49) → (x4_49 = 0 ∨ x4_49 = 1) → (x6_49 = 0 ∨ x6_49 = 1) → (0 ≤ Int32.toInt x7_49) → (Int32.toInt x7_49 ≤ 10) → (0 ≤ Int32.toInt x1_49 ∧ 1 ≤ Int32.toInt x2_49 ∧ Int32.toInt x2_49 ≤ 30 ∧ Int32.toInt x1_49 + Int32.toInt x2_49 ≤ 999999999) → ∃ r, D_X8_years_49 P zFu x1_49 x2_49 x3_49 x4_49 x5_49 x6_49 x7_49 M_49 N_49 = some r ∧ ((∀ a j, ¬ WM_X8_years P a j → r.2.1 a j = M0 a j) ∧ (∀ a j, ¬ WN_X8_years P a j → r.2.2 a j = N0 a j) ∧ ((jB P r.2.1) ∧ (jS P r.2.1) ∧ (jR P r.2.1) ∧ (jK P r.2.1) ∧ (jT P r.2.1))) := fun x1_49 x2_49 x3_49 x4_49 x5_49 x6_49 x7_49 M_49 N_49 k_49 kn_49 p_jA_49 p_jB_49 p_jK_49 p_jR_49 p_jS_49 p_jT_49 f0_49 f1_49 f2_49 f3_49 f4_49 => TL_49 zFu x1_49 x2_49 x3_49 x4_49 x5_49 x6_49 x7_49 M_49 N_49 k_49 kn_49 p_jA_49 p_jB_49 p_jK_49 p_jR_49 p_jS_49 p_jT_49 f0_49 f1_49 f2_49 f3_49 f4_49 (zFu_up _)
  have T_20 : ∀ (M_20 : zMt) (N_20 : zNt), (∀ a j, ¬ WM_X8_years P a j → M_20 a j = M0 a j) → (∀ a j, ¬ WN_X8_years P a j → N_20 a j = N0 a j) → (jB P M_20) → (jK P M_20) → (jR P M_20) → (jS P M_20) → (jT P M_20) → ∃ r, D_X8_years_20 P M_20 N_20 = some r ∧ ((∀ a j, ¬ WM_X8_years P a j → r.2.1 a j = M0 a j) ∧ (∀ a j, ¬ WN_X8_years P a j → r.2.2 a j = N0 a j) ∧ ((jB P r.2.1) ∧ (jS P r.2.1) ∧ (jR P r.2.1) ∧ (jK P r.2.1) ∧ (jT P r.2.1))) := by
    intro M_20 N_20 k_20 kn_20 p_jB_20 p_jK_20 p_jR_20 p_jS_20 p_jT_20
    obtain ⟨u0_jB_20, u1_jB_20, u2_jB_20, u3_jB_20, u4_jB_20, u5_jB_20⟩ := id p_jB_20
    obtain ⟨u0_jS_20, u1_jS_20, u2_jS_20, u3_jS_20, u4_jS_20, u5_jS_20, u6_jS_20, u7_jS_20⟩ := jS.ints p_jS_20
    obtain ⟨u0_jT_20, u1_jT_20, u2_jT_20, u3_jT_20, u4_jT_20, u5_jT_20⟩ := id p_jT_20
    unfold D_X8_years_20
    refine vB (v_X8_refuse) (fun e_22 f_22 q_22 => ?_)
    have k_22 : ∀ a j, ¬ WM_X8_years P a j → e_22.2 a j = M0 a j := fun a j h => (q_22 a j (wz_M_X8_refuse_X8_years h)).trans (k_20 a j h)
    have c7_22 : Int32.toInt (e_22.2 P 7) = Int32.toInt (M_20 P 7) := congrArg Int32.toInt (q_22 P 7 (wc_X8_refuse_7))
    have c8_22 : Int32.toInt (e_22.2 P 8) = Int32.toInt (M_20 P 8) := congrArg Int32.toInt (q_22 P 8 (wc_X8_refuse_8))
    have c33_22 : Int32.toInt (e_22.2 P 33) = Int32.toInt (M_20 P 33) := congrArg Int32.toInt (q_22 P 33 (wc_X8_refuse_33))
    have n_22 : nA P e_22.2 = nA P M_20 := nA_congr (fun a j h => q_22 a j (wf_nA_X8_refuse h))
    have p_jB_22 : jB P e_22.2 := jB.mono p_jB_20 (fun a j h => q_22 a j (wf_jB_X8_refuse h))
    obtain ⟨u0_jB_22, u1_jB_22, u2_jB_22, u3_jB_22, u4_jB_22, u5_jB_22⟩ := id p_jB_22
    have p_jK_22 : jK P e_22.2 := jK.mono p_jK_20 (fun a j h => q_22 a j (wf_jK_X8_refuse h))
    have p_jR_22 : jR P e_22.2 := jR.mono p_jR_20 (fun a j h => q_22 a j (wf_jR_X8_refuse h))
    have p_jS_22 : jS P e_22.2 := jS.mono p_jS_20 (fun a j h => q_22 a j (wf_jS_X8_refuse h))
    obtain ⟨u0_jS_22, u1_jS_22, u2_jS_22, u3_jS_22, u4_jS_22, u5_jS_22, u6_jS_22, u7_jS_22⟩ := jS.ints p_jS_22
    have p_jT_22 : jT P e_22.2 := jT.mono p_jT_20 (fun a j h => q_22 a j (wf_jT_X8_refuse h))
    obtain ⟨u0_jT_22, u1_jT_22, u2_jT_22, u3_jT_22, u4_jT_22, u5_jT_22⟩ := id p_jT_22
    exact ⟨_, rfl, k_22, kn_20, ⟨p_jB_22, p_jS_22, p_jR_22, p_jK_22, p_jT_22⟩⟩
  unfold D_X8_years
  refine vB (v_X8_areYears) (fun e_2 f_2 q_2 => ?_)
  have b_2 := q_2.1
  have x0_2 := q_2.2
  (try simp only [Int32.toInt_add, Int32.toInt_sub, Int32.toInt_mul, Int32.toInt_toInt64, Int64.toInt_add, z_m1, Int32.reduceToInt, Int64.reduceToInt, Int32.reduceToNatClampNeg, Int.bmod_def] at x0_2)
  refine vIf (fun h_5 => ?_) (fun h_5 => ?_)
  · have i_5 := congrArg Int32.toInt h_5
    (try simp only [Int32.toInt_add, Int32.toInt_sub, Int32.toInt_mul, Int32.toInt_toInt64, Int64.toInt_add, z_m1, Int32.reduceToInt, Int64.reduceToInt, Int32.reduceToNatClampNeg, Int.bmod_def] at i_5)
    exact T_20 _ _ (fun _ _ _ => rfl) (fun _ _ _ => rfl) p_jB p_jK p_jR p_jS p_jT
  · have i_5 : ¬ Int32.toInt e_2 = Int32.toInt (0 : Int32) := fun q => h_5 (Int32.toInt_inj.mp q)
    (try simp only [Int32.toInt_add, Int32.toInt_sub, Int32.toInt_mul, Int32.toInt_toInt64, Int64.toInt_add, z_m1, Int32.reduceToInt, Int64.reduceToInt, Int32.reduceToNatClampNeg, Int.bmod_def] at i_5)
    refine vB (v_X8_isFrom) (fun e_14 f_14 q_14 => ?_)
    have b_14 := q_14.1
    have x0_14 := q_14.2
    (try simp only [Int32.toInt_add, Int32.toInt_sub, Int32.toInt_mul, Int32.toInt_toInt64, Int64.toInt_add, z_m1, Int32.reduceToInt, Int64.reduceToInt, Int32.reduceToNatClampNeg, Int.bmod_def] at x0_14)
    refine vIf (fun h_17 => ?_) (fun h_17 => ?_)
    · have i_17 := congrArg Int32.toInt h_17
      (try simp only [Int32.toInt_add, Int32.toInt_sub, Int32.toInt_mul, Int32.toInt_toInt64, Int64.toInt_add, z_m1, Int32.reduceToInt, Int64.reduceToInt, Int32.reduceToNatClampNeg, Int.bmod_def] at i_17)
      exact T_20 _ _ (fun _ _ _ => rfl) (fun _ _ _ => rfl) p_jB p_jK p_jR p_jS p_jT
    · have i_17 : ¬ Int32.toInt e_14 = Int32.toInt (0 : Int32) := fun q => h_17 (Int32.toInt_inj.mp q)
      (try simp only [Int32.toInt_add, Int32.toInt_sub, Int32.toInt_mul, Int32.toInt_toInt64, Int64.toInt_add, z_m1, Int32.reduceToInt, Int64.reduceToInt, Int32.reduceToNatClampNeg, Int.bmod_def] at i_17)
      refine vB (v_X8_putsAside p_jB p_jS) (fun e_27 f_27 q_27 => ?_)
      have k_27 : ∀ a j, ¬ WM_X8_years P a j → e_27 a j = M0 a j := fun a j h => (q_27.1 a j (wz_M_X8_putsAside_X8_years h))
      have c7_27 : Int32.toInt (e_27 P 7) = Int32.toInt (M0 P 7) := congrArg Int32.toInt (q_27.1 P 7 (wc_X8_putsAside_7))
      have c8_27 : Int32.toInt (e_27 P 8) = Int32.toInt (M0 P 8) := congrArg Int32.toInt (q_27.1 P 8 (wc_X8_putsAside_8))
      have c33_27 : Int32.toInt (e_27 P 33) = Int32.toInt (M0 P 33) := congrArg Int32.toInt (q_27.1 P 33 (wc_X8_putsAside_33))
      have n_27 : nA P e_27 = nA P M0 := nA_congr (fun a j h => q_27.1 a j (wf_nA_X8_putsAside h))
      have p_jB_27 : jB P e_27 := jB.mono p_jB (fun a j h => q_27.1 a j (wf_jB_X8_putsAside h))
      obtain ⟨u0_jB_27, u1_jB_27, u2_jB_27, u3_jB_27, u4_jB_27, u5_jB_27⟩ := id p_jB_27
      have p_jS_27 : jS P e_27 := jS.mono p_jS (fun a j h => q_27.1 a j (wf_jS_X8_putsAside h))
      obtain ⟨u0_jS_27, u1_jS_27, u2_jS_27, u3_jS_27, u4_jS_27, u5_jS_27, u6_jS_27, u7_jS_27⟩ := jS.ints p_jS_27
      have p_jR_27 : jR P e_27 := jR.mono p_jR (fun a j h => q_27.1 a j (wf_jR_X8_putsAside h))
      have p_jK_27 : jK P e_27 := jK.mono p_jK (fun a j h => q_27.1 a j (wf_jK_X8_putsAside h))
      have p_jT_27 : jT P e_27 := jT.mono p_jT (fun a j h => q_27.1 a j (wf_jT_X8_putsAside h))
      obtain ⟨u0_jT_27, u1_jT_27, u2_jT_27, u3_jT_27, u4_jT_27, u5_jT_27⟩ := id p_jT_27
      have x0_27 := q_27.2
      exact T_49 _ _ _ _ _ _ _ _ _ k_27 (fun _ _ _ => rfl) x0_27 p_jB_27 p_jK_27 p_jR_27 p_jS_27 p_jT_27 (by first | exact Or.inl rfl | exact Or.inr rfl | assumption) (by first | exact Or.inl rfl | exact Or.inr rfl | assumption) (by first | omega | (simp only [Int32.toInt_add, Int32.toInt_sub, Int32.toInt_mul, Int32.toInt_toInt64, Int64.toInt_add, z_m1, Int32.reduceToInt, Int64.reduceToInt, Int32.reduceToNatClampNeg, Int.bmod_def, or_true, true_or, and_true, true_and] <;> omega)) (by first | omega | (simp only [Int32.toInt_add, Int32.toInt_sub, Int32.toInt_mul, Int32.toInt_toInt64, Int64.toInt_add, z_m1, Int32.reduceToInt, Int64.reduceToInt, Int32.reduceToNatClampNeg, Int.bmod_def, or_true, true_or, and_true, true_and] <;> omega)) (by first | omega | (simp only [Int32.toInt_add, Int32.toInt_sub, Int32.toInt_mul, Int32.toInt_toInt64, Int64.toInt_add, z_m1, Int32.reduceToInt, Int64.reduceToInt, Int32.reduceToNatClampNeg, Int.bmod_def, or_true, true_or, and_true, true_and] <;> omega))
def WM_X8_often (P : Nat) (a j : Nat) : Prop := (P + 1 ≤ a ∧ a < P + 2) ∨ (P + 3 ≤ a ∧ a < P + 4) ∨ (P + 11 ≤ a ∧ a < P + 23) ∨ (P + 30 ≤ a ∧ a < P + 31) ∨ (a = P ∧ (j = 6 ∨ j = 12 ∨ j = 33))
def WN_X8_often (P : Nat) (a j : Nat) : Prop := (a = P ∧ (j = 46))
theorem wz_M_X8_takesBack_X8_often {P a j : Nat} (h : ¬ WM_X8_often P a j) : ¬ WM_X8_takesBack P a j := by unfold WM_X8_takesBack; unfold WM_X8_often at h; omega
theorem wz_M_X8_gives_X8_often {P a j : Nat} (h : ¬ WM_X8_often P a j) : ¬ WM_X8_gives P a j := by unfold WM_X8_gives; unfold WM_X8_often at h; omega
theorem wz_M_X8_goesYear_X8_often {P a j : Nat} (h : ¬ WM_X8_often P a j) : ¬ WM_X8_goesYear P a j := by unfold WM_X8_goesYear; unfold WM_X8_often at h; omega
theorem wz_N_X8_goesYear_X8_often {P a j : Nat} (h : ¬ WN_X8_often P a j) : ¬ WN_X8_goesYear P a j := by unfold WN_X8_goesYear; unfold WN_X8_often at h; omega
theorem wz_M_X8_refuse_X8_often {P a j : Nat} (h : ¬ WM_X8_often P a j) : ¬ WM_X8_refuse P a j := by unfold WM_X8_refuse; unfold WM_X8_often at h; omega
theorem wz_M_X8_putsAside_X8_often {P a j : Nat} (h : ¬ WM_X8_often P a j) : ¬ WM_X8_putsAside P a j := by unfold WM_X8_putsAside; unfold WM_X8_often at h; omega
set_option maxRecDepth 100000 in
set_option maxHeartbeats 4000000 in
theorem v_X8_often {P : Nat} {v0 : Int32} {v1 : Int32} {v2 : Int32} {M0 : zMt} {N0 : zNt}  (p_jB : jB P M0) (p_jS : jS P M0) (p_jR : jR P M0) (p_jK : jK P M0) (p_jT : jT P M0) : ∃ r, D_X8_often P v0 v1 v2 M0 N0 = some r ∧ ((∀ a j, ¬ WM_X8_often P a j → r.2.1 a j = M0 a j) ∧ (∀ a j, ¬ WN_X8_often P a j → r.2.2 a j = N0 a j) ∧ ((jB P r.2.1) ∧ (jS P r.2.1) ∧ (jR P r.2.1) ∧ (jK P r.2.1) ∧ (jT P r.2.1))) := by
  obtain ⟨u0_jB, u1_jB, u2_jB, u3_jB, u4_jB, u5_jB⟩ := id p_jB
  obtain ⟨u0_jS, u1_jS, u2_jS, u3_jS, u4_jS, u5_jS, u6_jS, u7_jS⟩ := jS.ints p_jS
  obtain ⟨u0_jT, u1_jT, u2_jT, u3_jT, u4_jT, u5_jT⟩ := id p_jT
  have TL_38 : ∀ u : Nat, ∀ (x1_38 : Int32) (x2_38 : Int32) (x3_38 : Int32) (x4_38 : Int32) (x5_38 : Int32) (M_38 : zMt) (N_38 : zNt), (∀ a j, ¬ WM_X8_often P a j → M_38 a j = M0 a j) → (∀ a j, ¬ WN_X8_often P a j → N_38 a j = N0 a j) → (jA P M_38) → (jB P M_38) → (jK P M_38) → (jR P M_38) → (jS P M_38) → (jT P M_38) → (0 ≤ Int32.toInt x5_38) → (0 ≤ Int32.toInt x1_38 ∧ 1 ≤ Int32.toInt x2_38 ∧ Int32.toInt x2_38 ≤ 30 ∧ Int32.toInt x1_38 + Int32.toInt x2_38 ≤ 999999999) → (0 ≤ Int32.toInt x3_38 ∧ Int32.toInt x3_38 < Int32.toInt (M_38 P 8)) → (2147483648 - Int32.toInt x5_38).toNat < u → ∃ r, D_X8_often_38 P u x1_38 x2_38 x3_38 x4_38 x5_38 M_38 N_38 = some r ∧ ((∀ a j, ¬ WM_X8_often P a j → r.2.1 a j = M0 a j) ∧ (∀ a j, ¬ WN_X8_often P a j → r.2.2 a j = N0 a j) ∧ ((jB P r.2.1) ∧ (jS P r.2.1) ∧ (jR P r.2.1) ∧ (jK P r.2.1) ∧ (jT P r.2.1))) := by
    intro u
    induction u with
    | zero => intro x1_38 x2_38 x3_38 x4_38 x5_38 M_38 N_38 k_38 kn_38 p_jA_38 p_jB_38 p_jK_38 p_jR_38 p_jS_38 p_jT_38 f0_38 f1_38 f2_38 hm_38; exact absurd hm_38 (Nat.not_lt_zero _)
    | succ u_38 ih_38 =>
      have T_68 : ∀ (x1_68 : Int32) (x2_68 : Int32) (x3_68 : Int32) (x5_68 : Int32) (y0_68 : Int32) (y1_68 : Int32) (M_68 : zMt) (N_68 : zNt), (∀ a j, ¬ WM_X8_often P a j → M_68 a j = M0 a j) → (∀ a j, ¬ WN_X8_often P a j → N_68 a j = N0 a j) → (jA P M_68) → (jB P M_68) → (jH P M_68) → (jK P M_68) → (jL P M_68) → (jO P M_68) → (jR P M_68) → (jS P M_68) → (jT P M_68) → (y1_68 = 0 ∨ y1_68 = 1) → (0 ≤ Int32.toInt x5_68) → ((2147483648 - Int32.toInt x5_68).toNat < u_38 + 1) → (Int32.toInt x5_68 < 2147483647) → (0 ≤ Int32.toInt x1_68 ∧ 1 ≤ Int32.toInt x2_68 ∧ Int32.toInt x2_68 ≤ 30 ∧ Int32.toInt x1_68 + Int32.toInt x2_68 ≤ 999999999) → (0 ≤ Int32.toInt x3_68 ∧ Int32.toInt x3_68 < Int32.toInt (M_68 P 8)) → ∃ r, D_X8_often_68 P (D_X8_often_38 P u_38) x1_68 x2_68 x3_68 x5_68 y0_68 y1_68 M_68 N_68 = some r ∧ ((∀ a j, ¬ WM_X8_often P a j → r.2.1 a j = M0 a j) ∧ (∀ a j, ¬ WN_X8_often P a j → r.2.2 a j = N0 a j) ∧ ((jB P r.2.1) ∧ (jS P r.2.1) ∧ (jR P r.2.1) ∧ (jK P r.2.1) ∧ (jT P r.2.1))) := by
        intro x1_68 x2_68 x3_68 x5_68 y0_68 y1_68 M_68 N_68 k_68 kn_68 p_jA_68 p_jB_68 p_jH_68 p_jK_68 p_jL_68 p_jO_68 p_jR_68 p_jS_68 p_jT_68 f0_68 f1_68 f2_68 f3_68 f4_68 f5_68
        obtain ⟨u0_jB_68, u1_jB_68, u2_jB_68, u3_jB_68, u4_jB_68, u5_jB_68⟩ := id p_jB_68
        obtain ⟨u0_jS_68, u1_jS_68, u2_jS_68, u3_jS_68, u4_jS_68, u5_jS_68, u6_jS_68, u7_jS_68⟩ := jS.ints p_jS_68
        obtain ⟨u0_jT_68, u1_jT_68, u2_jT_68, u3_jT_68, u4_jT_68, u5_jT_68⟩ := id p_jT_68
        unfold D_X8_often_68
        exact ih_38 _ _ _ _ _ _ _ k_68 kn_68 p_jA_68 p_jB_68 p_jK_68 p_jR_68 p_jS_68 p_jT_68 (by first | omega | (simp only [Int32.toInt_add, Int32.toInt_sub, Int32.toInt_mul, Int32.toInt_toInt64, Int64.toInt_add, z_m1, Int32.reduceToInt, Int64.reduceToInt, Int32.reduceToNatClampNeg, Int.bmod_def, or_true, true_or, and_true, true_and] <;> omega)) (by first | omega | (simp only [Int32.toInt_add, Int32.toInt_sub, Int32.toInt_mul, Int32.toInt_toInt64, Int64.toInt_add, z_m1, Int32.reduceToInt, Int64.reduceToInt, Int32.reduceToNatClampNeg, Int.bmod_def, or_true, true_or, and_true, true_and] <;> omega)) (by first | omega | (simp only [Int32.toInt_add, Int32.toInt_sub, Int32.toInt_mul, Int32.toInt_toInt64, Int64.toInt_add, z_m1, Int32.reduceToInt, Int64.reduceToInt, Int32.reduceToNatClampNeg, Int.bmod_def, or_true, true_or, and_true, true_and] <;> omega)) (z_up1 f3_68 f2_68)
      intro x1_38 x2_38 x3_38 x4_38 x5_38 M_38 N_38 k_38 kn_38 p_jA_38 p_jB_38 p_jK_38 p_jR_38 p_jS_38 p_jT_38 f0_38 f1_38 f2_38 hm_38
      obtain ⟨u0_jB_38, u1_jB_38, u2_jB_38, u3_jB_38, u4_jB_38, u5_jB_38⟩ := id p_jB_38
      obtain ⟨u0_jS_38, u1_jS_38, u2_jS_38, u3_jS_38, u4_jS_38, u5_jS_38, u6_jS_38, u7_jS_38⟩ := jS.ints p_jS_38
      obtain ⟨u0_jT_38, u1_jT_38, u2_jT_38, u3_jT_38, u4_jT_38, u5_jT_38⟩ := id p_jT_38
      rw [D_X8_often_38]
      refine vIf (fun h_41 => ?_) (fun h_41 => ?_)
      · have i_41 := Int32.le_iff_toInt_le.mp h_41
        (try simp only [Int32.toInt_add, Int32.toInt_sub, Int32.toInt_mul, Int32.toInt_toInt64, Int64.toInt_add, z_m1, Int32.reduceToInt, Int64.reduceToInt, Int32.reduceToNatClampNeg, Int.bmod_def] at i_41)
        refine vB (v_X8_takesBack p_jB_38 p_jA_38) (fun e_78 f_78 q_78 => ?_)
        have k_78 : ∀ a j, ¬ WM_X8_often P a j → e_78 a j = M0 a j := fun a j h => (q_78.1 a j (wz_M_X8_takesBack_X8_often h)).trans (k_38 a j h)
        have c7_78 : Int32.toInt (e_78 P 7) = Int32.toInt (M_38 P 7) := congrArg Int32.toInt (q_78.1 P 7 (wc_X8_takesBack_7))
        have c8_78 : Int32.toInt (e_78 P 8) = Int32.toInt (M_38 P 8) := congrArg Int32.toInt (q_78.1 P 8 (wc_X8_takesBack_8))
        have c33_78 : Int32.toInt (e_78 P 33) = Int32.toInt (M_38 P 33) := congrArg Int32.toInt (q_78.1 P 33 (wc_X8_takesBack_33))
        have p_jA_78 : jA P e_78 := jA.mono p_jA_38 (fun a j h => q_78.1 a j (wf_jA_X8_takesBack h))
        have p_jB_78 : jB P e_78 := jB.mono p_jB_38 (fun a j h => q_78.1 a j (wf_jB_X8_takesBack h))
        obtain ⟨u0_jB_78, u1_jB_78, u2_jB_78, u3_jB_78, u4_jB_78, u5_jB_78⟩ := id p_jB_78
        have p_jK_78 : jK P e_78 := jK.mono p_jK_38 (fun a j h => q_78.1 a j (wf_jK_X8_takesBack h))
        have p_jR_78 : jR P e_78 := jR.mono p_jR_38 (fun a j h => q_78.1 a j (wf_jR_X8_takesBack h))
        have p_jT_78 : jT P e_78 := jT.mono p_jT_38 (fun a j h => q_78.1 a j (wf_jT_X8_takesBack h))
        obtain ⟨u0_jT_78, u1_jT_78, u2_jT_78, u3_jT_78, u4_jT_78, u5_jT_78⟩ := id p_jT_78
        have x0_78 := q_78.2
        obtain ⟨u0_jS_78, u1_jS_78, u2_jS_78, u3_jS_78, u4_jS_78, u5_jS_78, u6_jS_78, u7_jS_78⟩ := jS.ints x0_78
        refine vB (v_X8_gives) (fun e_84 f_84 q_84 => ?_)
        have k_84 : ∀ a j, ¬ WM_X8_often P a j → e_84.2 a j = M0 a j := fun a j h => (q_84 a j (wz_M_X8_gives_X8_often h)).trans (k_78 a j h)
        have c7_84 : Int32.toInt (e_84.2 P 7) = Int32.toInt (e_78 P 7) := congrArg Int32.toInt (q_84 P 7 (wc_X8_gives_7))
        have c8_84 : Int32.toInt (e_84.2 P 8) = Int32.toInt (e_78 P 8) := congrArg Int32.toInt (q_84 P 8 (wc_X8_gives_8))
        have c33_84 : Int32.toInt (e_84.2 P 33) = Int32.toInt (e_78 P 33) := congrArg Int32.toInt (q_84 P 33 (wc_X8_gives_33))
        have n_84 : nA P e_84.2 = nA P e_78 := nA_congr (fun a j h => q_84 a j (wf_nA_X8_gives h))
        have p_jA_84 : jA P e_84.2 := jA.mono p_jA_78 (fun a j h => q_84 a j (wf_jA_X8_gives h))
        have p_jB_84 : jB P e_84.2 := jB.mono p_jB_78 (fun a j h => q_84 a j (wf_jB_X8_gives h))
        obtain ⟨u0_jB_84, u1_jB_84, u2_jB_84, u3_jB_84, u4_jB_84, u5_jB_84⟩ := id p_jB_84
        have p_jK_84 : jK P e_84.2 := jK.mono p_jK_78 (fun a j h => q_84 a j (wf_jK_X8_gives h))
        have p_jR_84 : jR P e_84.2 := jR.mono p_jR_78 (fun a j h => q_84 a j (wf_jR_X8_gives h))
        have p_jT_84 : jT P e_84.2 := jT.mono p_jT_78 (fun a j h => q_84 a j (wf_jT_X8_gives h))
        obtain ⟨u0_jT_84, u1_jT_84, u2_jT_84, u3_jT_84, u4_jT_84, u5_jT_84⟩ := id p_jT_84
        have p_jS_84 : jS P e_84.2 := jS.mono x0_78 (fun a j h => q_84 a j (wf_jS_X8_gives h))
        obtain ⟨u0_jS_84, u1_jS_84, u2_jS_84, u3_jS_84, u4_jS_84, u5_jS_84, u6_jS_84, u7_jS_84⟩ := jS.ints p_jS_84
        exact ⟨_, rfl, k_84, kn_38, ⟨p_jB_84, p_jS_84, p_jR_84, p_jK_84, p_jT_84⟩⟩
      · have i_41 := Int32.lt_iff_toInt_lt.mp (Int32.not_le.mp h_41)
        (try simp only [Int32.toInt_add, Int32.toInt_sub, Int32.toInt_mul, Int32.toInt_toInt64, Int64.toInt_add, z_m1, Int32.reduceToInt, Int64.reduceToInt, Int32.reduceToNatClampNeg, Int.bmod_def] at i_41)
        refine vB (v_X8_goesYear p_jB_38 p_jS_38 p_jR_38 (by first | omega | (simp only [Int32.toInt_add, Int32.toInt_sub, Int32.toInt_mul, Int32.toInt_toInt64, Int64.toInt_add, z_m1, Int32.reduceToInt, Int64.reduceToInt, Int32.reduceToNatClampNeg, Int.bmod_def, or_true, true_or, and_true, true_and] <;> omega))) (fun e_49 f_49 q_49 => ?_)
        have k_49 : ∀ a j, ¬ WM_X8_often P a j → e_49.1 a j = M0 a j := fun a j h => (q_49.1 a j (wz_M_X8_goesYear_X8_often h)).trans (k_38 a j h)
        have kn_49 : ∀ a j, ¬ WN_X8_often P a j → e_49.2 a j = N0 a j := fun a j h => (q_49.2.1 a j (wz_N_X8_goesYear_X8_often h)).trans (kn_38 a j h)
        have c7_49 : Int32.toInt (e_49.1 P 7) = Int32.toInt (M_38 P 7) := congrArg Int32.toInt (q_49.1 P 7 (wc_X8_goesYear_7))
        have c8_49 : Int32.toInt (e_49.1 P 8) = Int32.toInt (M_38 P 8) := congrArg Int32.toInt (q_49.1 P 8 (wc_X8_goesYear_8))
        have p_jA_49 : jA P e_49.1 := jA.mono p_jA_38 (fun a j h => q_49.1 a j (wf_jA_X8_goesYear h))
        have p_jK_49 : jK P e_49.1 := jK.mono p_jK_38 (fun a j h => q_49.1 a j (wf_jK_X8_goesYear h))
        have p_jT_49 : jT P e_49.1 := jT.mono p_jT_38 (fun a j h => q_49.1 a j (wf_jT_X8_goesYear h))
        obtain ⟨u0_jT_49, u1_jT_49, u2_jT_49, u3_jT_49, u4_jT_49, u5_jT_49⟩ := id p_jT_49
        obtain ⟨x0_49, x1_49, x2_49, x3_49, x4_49, x5_49, x6_49⟩ := q_49.2.2
        obtain ⟨u0_jB_49, u1_jB_49, u2_jB_49, u3_jB_49, u4_jB_49, u5_jB_49⟩ := id x0_49
        obtain ⟨u0_jS_49, u1_jS_49, u2_jS_49, u3_jS_49, u4_jS_49, u5_jS_49, u6_jS_49, u7_jS_49⟩ := jS.ints x1_49
        (try simp only [Int32.toInt_add, Int32.toInt_sub, Int32.toInt_mul, Int32.toInt_toInt64, Int64.toInt_add, z_m1, Int32.reduceToInt, Int64.reduceToInt, Int32.reduceToNatClampNeg, Int.bmod_def] at x6_49)
        refine vB (v_X8_unitNow x0_49 x3_49 x5_49 (by first | omega | (simp only [Int32.toInt_add, Int32.toInt_sub, Int32.toInt_mul, Int32.toInt_toInt64, Int64.toInt_add, z_m1, Int32.reduceToInt, Int64.reduceToInt, Int32.reduceToNatClampNeg, Int.bmod_def, or_true, true_or, and_true, true_and] <;> omega)) (by first | omega | (simp only [Int32.toInt_add, Int32.toInt_sub, Int32.toInt_mul, Int32.toInt_toInt64, Int64.toInt_add, z_m1, Int32.reduceToInt, Int64.reduceToInt, Int32.reduceToNatClampNeg, Int.bmod_def, or_true, true_or, and_true, true_and] <;> omega))) (fun e_56 f_56 q_56 => ?_)
        obtain ⟨x0_56, x1_56⟩ := q_56
        (try simp only [Int32.toInt_add, Int32.toInt_sub, Int32.toInt_mul, Int32.toInt_toInt64, Int64.toInt_add, z_m1, Int32.reduceToInt, Int64.reduceToInt, Int32.reduceToNatClampNeg, Int.bmod_def] at x0_56)
        (try simp only [Int32.toInt_add, Int32.toInt_sub, Int32.toInt_mul, Int32.toInt_toInt64, Int64.toInt_add, z_m1, Int32.reduceToInt, Int64.reduceToInt, Int32.reduceToNatClampNeg, Int.bmod_def] at x1_56)
        refine vIf (fun h_60 => ?_) (fun h_60 => ?_)
        · have i_60 := congrArg Int32.toInt h_60
          (try simp only [Int32.toInt_add, Int32.toInt_sub, Int32.toInt_mul, Int32.toInt_toInt64, Int64.toInt_add, z_m1, Int32.reduceToInt, Int64.reduceToInt, Int32.reduceToNatClampNeg, Int.bmod_def] at i_60)
          exact T_68 _ _ _ _ _ _ _ _ k_49 kn_49 p_jA_49 x0_49 x3_49 p_jK_49 x2_49 x4_49 x5_49 x1_49 p_jT_49 (by first | exact Or.inl rfl | exact Or.inr rfl | assumption) (by first | omega | (simp only [Int32.toInt_add, Int32.toInt_sub, Int32.toInt_mul, Int32.toInt_toInt64, Int64.toInt_add, z_m1, Int32.reduceToInt, Int64.reduceToInt, Int32.reduceToNatClampNeg, Int.bmod_def, or_true, true_or, and_true, true_and] <;> omega)) hm_38 (by first | assumption | exact z_lt (by assumption) | exact z_lt2 (by assumption) | exact z_lt3 (by assumption) (by first | assumption | decide)) (by first | omega | (simp only [Int32.toInt_add, Int32.toInt_sub, Int32.toInt_mul, Int32.toInt_toInt64, Int64.toInt_add, z_m1, Int32.reduceToInt, Int64.reduceToInt, Int32.reduceToNatClampNeg, Int.bmod_def, or_true, true_or, and_true, true_and] <;> omega)) (by first | omega | (simp only [Int32.toInt_add, Int32.toInt_sub, Int32.toInt_mul, Int32.toInt_toInt64, Int64.toInt_add, z_m1, Int32.reduceToInt, Int64.reduceToInt, Int32.reduceToNatClampNeg, Int.bmod_def, or_true, true_or, and_true, true_and] <;> omega))
        · have i_60 : ¬ Int32.toInt e_56 = Int32.toInt (-1 : Int32) := fun q => h_60 (Int32.toInt_inj.mp q)
          (try simp only [Int32.toInt_add, Int32.toInt_sub, Int32.toInt_mul, Int32.toInt_toInt64, Int64.toInt_add, z_m1, Int32.reduceToInt, Int64.reduceToInt, Int32.reduceToNatClampNeg, Int.bmod_def] at i_60)
          exact T_68 _ _ _ _ _ _ _ _ k_49 kn_49 p_jA_49 x0_49 x3_49 p_jK_49 x2_49 x4_49 x5_49 x1_49 p_jT_49 (by first | exact Or.inl rfl | exact Or.inr rfl | assumption) (by first | omega | (simp only [Int32.toInt_add, Int32.toInt_sub, Int32.toInt_mul, Int32.toInt_toInt64, Int64.toInt_add, z_m1, Int32.reduceToInt, Int64.reduceToInt, Int32.reduceToNatClampNeg, Int.bmod_def, or_true, true_or, and_true, true_and] <;> omega)) hm_38 (by first | assumption | exact z_lt (by assumption) | exact z_lt2 (by assumption) | exact z_lt3 (by assumption) (by first | assumption | decide)) (by first | omega | (simp only [Int32.toInt_add, Int32.toInt_sub, Int32.toInt_mul, Int32.toInt_toInt64, Int64.toInt_add, z_m1, Int32.reduceToInt, Int64.reduceToInt, Int32.reduceToNatClampNeg, Int.bmod_def, or_true, true_or, and_true, true_and] <;> omega)) (by first | omega | (simp only [Int32.toInt_add, Int32.toInt_sub, Int32.toInt_mul, Int32.toInt_toInt64, Int64.toInt_add, z_m1, Int32.reduceToInt, Int64.reduceToInt, Int32.reduceToNatClampNeg, Int.bmod_def, or_true, true_or, and_true, true_and] <;> omega))
  have T_38 : ∀ (x1_38 : Int32) (x2_38 : Int32) (x3_38 : Int32) (x4_38 : Int32) (x5_38 : Int32) (M_38 : zMt) (N_38 : zNt), (∀ a j, ¬ WM_X8_often P a j → M_38 a j = M0 a j) → (∀ a j, ¬ WN_X8_often P a j → N_38 a j = N0 a j) → (jA P M_38) → (jB P M_38) → (jK P M_38) → (jR P M_38) → (jS P M_38) → (jT P M_38) → (0 ≤ Int32.toInt x5_38) → (0 ≤ Int32.toInt x1_38 ∧ 1 ≤ Int32.toInt x2_38 ∧ Int32.toInt x2_38 ≤ 30 ∧ Int32.toInt x1_38 + Int32.toInt x2_38 ≤ 999999999) → (0 ≤ Int32.toInt x3_38 ∧ Int32.toInt x3_38 < Int32.toInt (M_38 P 8)) → ∃ r, D_X8_often_38 P zFu x1_38 x2_38 x3_38 x4_38 x5_38 M_38 N_38 = some r ∧ ((∀ a j, ¬ WM_X8_often P a j → r.2.1 a j = M0 a j) ∧ (∀ a j, ¬ WN_X8_often P a j → r.2.2 a j = N0 a j) ∧ ((jB P r.2.1) ∧ (jS P r.2.1) ∧ (jR P r.2.1) ∧ (jK P r.2.1) ∧ (jT P r.2.1))) := fun x1_38 x2_38 x3_38 x4_38 x5_38 M_38 N_38 k_38 kn_38 p_jA_38 p_jB_38 p_jK_38 p_jR_38 p_jS_38 p_jT_38 f0_38 f1_38 f2_38 => TL_38 zFu x1_38 x2_38 x3_38 x4_38 x5_38 M_38 N_38 k_38 kn_38 p_jA_38 p_jB_38 p_jK_38 p_jR_38 p_jS_38 p_jT_38 f0_38 f1_38 f2_38 (zFu_up _)
  unfold D_X8_often
  refine vB (v_X8_areYears) (fun e_2 f_2 q_2 => ?_)
  have b_2 := q_2.1
  have x0_2 := q_2.2
  (try simp only [Int32.toInt_add, Int32.toInt_sub, Int32.toInt_mul, Int32.toInt_toInt64, Int64.toInt_add, z_m1, Int32.reduceToInt, Int64.reduceToInt, Int32.reduceToNatClampNeg, Int.bmod_def] at x0_2)
  refine vIf (fun h_5 => ?_) (fun h_5 => ?_)
  · have i_5 := congrArg Int32.toInt h_5
    (try simp only [Int32.toInt_add, Int32.toInt_sub, Int32.toInt_mul, Int32.toInt_toInt64, Int64.toInt_add, z_m1, Int32.reduceToInt, Int64.reduceToInt, Int32.reduceToNatClampNeg, Int.bmod_def] at i_5)
    refine vB (v_X8_refuse) (fun e_10 f_10 q_10 => ?_)
    have k_10 : ∀ a j, ¬ WM_X8_often P a j → e_10.2 a j = M0 a j := fun a j h => (q_10 a j (wz_M_X8_refuse_X8_often h))
    have c7_10 : Int32.toInt (e_10.2 P 7) = Int32.toInt (M0 P 7) := congrArg Int32.toInt (q_10 P 7 (wc_X8_refuse_7))
    have c8_10 : Int32.toInt (e_10.2 P 8) = Int32.toInt (M0 P 8) := congrArg Int32.toInt (q_10 P 8 (wc_X8_refuse_8))
    have c33_10 : Int32.toInt (e_10.2 P 33) = Int32.toInt (M0 P 33) := congrArg Int32.toInt (q_10 P 33 (wc_X8_refuse_33))
    have n_10 : nA P e_10.2 = nA P M0 := nA_congr (fun a j h => q_10 a j (wf_nA_X8_refuse h))
    have p_jB_10 : jB P e_10.2 := jB.mono p_jB (fun a j h => q_10 a j (wf_jB_X8_refuse h))
    obtain ⟨u0_jB_10, u1_jB_10, u2_jB_10, u3_jB_10, u4_jB_10, u5_jB_10⟩ := id p_jB_10
    have p_jS_10 : jS P e_10.2 := jS.mono p_jS (fun a j h => q_10 a j (wf_jS_X8_refuse h))
    obtain ⟨u0_jS_10, u1_jS_10, u2_jS_10, u3_jS_10, u4_jS_10, u5_jS_10, u6_jS_10, u7_jS_10⟩ := jS.ints p_jS_10
    have p_jR_10 : jR P e_10.2 := jR.mono p_jR (fun a j h => q_10 a j (wf_jR_X8_refuse h))
    have p_jK_10 : jK P e_10.2 := jK.mono p_jK (fun a j h => q_10 a j (wf_jK_X8_refuse h))
    have p_jT_10 : jT P e_10.2 := jT.mono p_jT (fun a j h => q_10 a j (wf_jT_X8_refuse h))
    obtain ⟨u0_jT_10, u1_jT_10, u2_jT_10, u3_jT_10, u4_jT_10, u5_jT_10⟩ := id p_jT_10
    exact ⟨_, rfl, k_10, (fun _ _ _ => rfl), ⟨p_jB_10, p_jS_10, p_jR_10, p_jK_10, p_jT_10⟩⟩
  · have i_5 : ¬ Int32.toInt e_2 = Int32.toInt (0 : Int32) := fun q => h_5 (Int32.toInt_inj.mp q)
    (try simp only [Int32.toInt_add, Int32.toInt_sub, Int32.toInt_mul, Int32.toInt_toInt64, Int64.toInt_add, z_m1, Int32.reduceToInt, Int64.reduceToInt, Int32.reduceToNatClampNeg, Int.bmod_def] at i_5)
    refine vB (v_X8_isHunter p_jB) (fun e_16 f_16 q_16 => ?_)
    have b_16 := q_16.1
    have x0_16 := q_16.2
    (try simp only [Int32.toInt_add, Int32.toInt_sub, Int32.toInt_mul, Int32.toInt_toInt64, Int64.toInt_add, z_m1, Int32.reduceToInt, Int64.reduceToInt, Int32.reduceToNatClampNeg, Int.bmod_def] at x0_16)
    refine vIf (fun h_19 => ?_) (fun h_19 => ?_)
    · have i_19 := congrArg Int32.toInt h_19
      (try simp only [Int32.toInt_add, Int32.toInt_sub, Int32.toInt_mul, Int32.toInt_toInt64, Int64.toInt_add, z_m1, Int32.reduceToInt, Int64.reduceToInt, Int32.reduceToNatClampNeg, Int.bmod_def] at i_19)
      refine vB (v_X8_refuse) (fun e_24 f_24 q_24 => ?_)
      have k_24 : ∀ a j, ¬ WM_X8_often P a j → e_24.2 a j = M0 a j := fun a j h => (q_24 a j (wz_M_X8_refuse_X8_often h))
      have c7_24 : Int32.toInt (e_24.2 P 7) = Int32.toInt (M0 P 7) := congrArg Int32.toInt (q_24 P 7 (wc_X8_refuse_7))
      have c8_24 : Int32.toInt (e_24.2 P 8) = Int32.toInt (M0 P 8) := congrArg Int32.toInt (q_24 P 8 (wc_X8_refuse_8))
      have c33_24 : Int32.toInt (e_24.2 P 33) = Int32.toInt (M0 P 33) := congrArg Int32.toInt (q_24 P 33 (wc_X8_refuse_33))
      have n_24 : nA P e_24.2 = nA P M0 := nA_congr (fun a j h => q_24 a j (wf_nA_X8_refuse h))
      have p_jB_24 : jB P e_24.2 := jB.mono p_jB (fun a j h => q_24 a j (wf_jB_X8_refuse h))
      obtain ⟨u0_jB_24, u1_jB_24, u2_jB_24, u3_jB_24, u4_jB_24, u5_jB_24⟩ := id p_jB_24
      have p_jS_24 : jS P e_24.2 := jS.mono p_jS (fun a j h => q_24 a j (wf_jS_X8_refuse h))
      obtain ⟨u0_jS_24, u1_jS_24, u2_jS_24, u3_jS_24, u4_jS_24, u5_jS_24, u6_jS_24, u7_jS_24⟩ := jS.ints p_jS_24
      have p_jR_24 : jR P e_24.2 := jR.mono p_jR (fun a j h => q_24 a j (wf_jR_X8_refuse h))
      have p_jK_24 : jK P e_24.2 := jK.mono p_jK (fun a j h => q_24 a j (wf_jK_X8_refuse h))
      have p_jT_24 : jT P e_24.2 := jT.mono p_jT (fun a j h => q_24 a j (wf_jT_X8_refuse h))
      obtain ⟨u0_jT_24, u1_jT_24, u2_jT_24, u3_jT_24, u4_jT_24, u5_jT_24⟩ := id p_jT_24
      exact ⟨_, rfl, k_24, (fun _ _ _ => rfl), ⟨p_jB_24, p_jS_24, p_jR_24, p_jK_24, p_jT_24⟩⟩
    · have i_19 : ¬ Int32.toInt e_16 = Int32.toInt (0 : Int32) := fun q => h_19 (Int32.toInt_inj.mp q)
      (try simp only [Int32.toInt_add, Int32.toInt_sub, Int32.toInt_mul, Int32.toInt_toInt64, Int64.toInt_add, z_m1, Int32.reduceToInt, Int64.reduceToInt, Int32.reduceToNatClampNeg, Int.bmod_def] at i_19)
      refine vB (v_X8_putsAside p_jB p_jS) (fun e_29 f_29 q_29 => ?_)
      have k_29 : ∀ a j, ¬ WM_X8_often P a j → e_29 a j = M0 a j := fun a j h => (q_29.1 a j (wz_M_X8_putsAside_X8_often h))
      have c7_29 : Int32.toInt (e_29 P 7) = Int32.toInt (M0 P 7) := congrArg Int32.toInt (q_29.1 P 7 (wc_X8_putsAside_7))
      have c8_29 : Int32.toInt (e_29 P 8) = Int32.toInt (M0 P 8) := congrArg Int32.toInt (q_29.1 P 8 (wc_X8_putsAside_8))
      have c33_29 : Int32.toInt (e_29 P 33) = Int32.toInt (M0 P 33) := congrArg Int32.toInt (q_29.1 P 33 (wc_X8_putsAside_33))
      have n_29 : nA P e_29 = nA P M0 := nA_congr (fun a j h => q_29.1 a j (wf_nA_X8_putsAside h))
      have p_jB_29 : jB P e_29 := jB.mono p_jB (fun a j h => q_29.1 a j (wf_jB_X8_putsAside h))
      obtain ⟨u0_jB_29, u1_jB_29, u2_jB_29, u3_jB_29, u4_jB_29, u5_jB_29⟩ := id p_jB_29
      have p_jS_29 : jS P e_29 := jS.mono p_jS (fun a j h => q_29.1 a j (wf_jS_X8_putsAside h))
      obtain ⟨u0_jS_29, u1_jS_29, u2_jS_29, u3_jS_29, u4_jS_29, u5_jS_29, u6_jS_29, u7_jS_29⟩ := jS.ints p_jS_29
      have p_jR_29 : jR P e_29 := jR.mono p_jR (fun a j h => q_29.1 a j (wf_jR_X8_putsAside h))
      have p_jK_29 : jK P e_29 := jK.mono p_jK (fun a j h => q_29.1 a j (wf_jK_X8_putsAside h))
      have p_jT_29 : jT P e_29 := jT.mono p_jT (fun a j h => q_29.1 a j (wf_jT_X8_putsAside h))
      obtain ⟨u0_jT_29, u1_jT_29, u2_jT_29, u3_jT_29, u4_jT_29, u5_jT_29⟩ := id p_jT_29
      have x0_29 := q_29.2
      exact T_38 _ _ _ _ _ _ _ k_29 (fun _ _ _ => rfl) x0_29 p_jB_29 p_jK_29 p_jR_29 p_jS_29 p_jT_29 (by first | omega | (simp only [Int32.toInt_add, Int32.toInt_sub, Int32.toInt_mul, Int32.toInt_toInt64, Int64.toInt_add, z_m1, Int32.reduceToInt, Int64.reduceToInt, Int32.reduceToNatClampNeg, Int.bmod_def, or_true, true_or, and_true, true_and] <;> omega)) (by first | omega | (simp only [Int32.toInt_add, Int32.toInt_sub, Int32.toInt_mul, Int32.toInt_toInt64, Int64.toInt_add, z_m1, Int32.reduceToInt, Int64.reduceToInt, Int32.reduceToNatClampNeg, Int.bmod_def, or_true, true_or, and_true, true_and] <;> omega)) (by first | omega | (simp only [Int32.toInt_add, Int32.toInt_sub, Int32.toInt_mul, Int32.toInt_toInt64, Int64.toInt_add, z_m1, Int32.reduceToInt, Int64.reduceToInt, Int32.reduceToNatClampNeg, Int.bmod_def, or_true, true_or, and_true, true_and] <;> omega))
def WM_X8_soonest (P : Nat) (a j : Nat) : Prop := (P + 1 ≤ a ∧ a < P + 2) ∨ (P + 3 ≤ a ∧ a < P + 4) ∨ (P + 11 ≤ a ∧ a < P + 23) ∨ (P + 30 ≤ a ∧ a < P + 31) ∨ (a = P ∧ (j = 6 ∨ j = 12 ∨ j = 33))
def WN_X8_soonest (P : Nat) (a j : Nat) : Prop := (a = P ∧ (j = 46))
theorem wz_M_X8_takesBack_X8_soonest {P a j : Nat} (h : ¬ WM_X8_soonest P a j) : ¬ WM_X8_takesBack P a j := by unfold WM_X8_takesBack; unfold WM_X8_soonest at h; omega
theorem wz_M_X8_refuse_X8_soonest {P a j : Nat} (h : ¬ WM_X8_soonest P a j) : ¬ WM_X8_refuse P a j := by unfold WM_X8_refuse; unfold WM_X8_soonest at h; omega
theorem wz_M_X8_gives_X8_soonest {P a j : Nat} (h : ¬ WM_X8_soonest P a j) : ¬ WM_X8_gives P a j := by unfold WM_X8_gives; unfold WM_X8_soonest at h; omega
theorem wz_M_X8_goesYear_X8_soonest {P a j : Nat} (h : ¬ WM_X8_soonest P a j) : ¬ WM_X8_goesYear P a j := by unfold WM_X8_goesYear; unfold WM_X8_soonest at h; omega
theorem wz_N_X8_goesYear_X8_soonest {P a j : Nat} (h : ¬ WN_X8_soonest P a j) : ¬ WN_X8_goesYear P a j := by unfold WN_X8_goesYear; unfold WN_X8_soonest at h; omega
theorem wz_M_X8_putsAside_X8_soonest {P a j : Nat} (h : ¬ WM_X8_soonest P a j) : ¬ WM_X8_putsAside P a j := by unfold WM_X8_putsAside; unfold WM_X8_soonest at h; omega
set_option maxRecDepth 100000 in
set_option maxHeartbeats 4000000 in
theorem v_X8_soonest {P : Nat} {v0 : Int32} {v1 : Int32} {v2 : Int32} {M0 : zMt} {N0 : zNt}  (p_jB : jB P M0) (p_jS : jS P M0) (p_jR : jR P M0) (p_jK : jK P M0) (p_jT : jT P M0) : ∃ r, D_X8_soonest P v0 v1 v2 M0 N0 = some r ∧ ((∀ a j, ¬ WM_X8_soonest P a j → r.2.1 a j = M0 a j) ∧ (∀ a j, ¬ WN_X8_soonest P a j → r.2.2 a j = N0 a j) ∧ ((jB P r.2.1) ∧ (jS P r.2.1) ∧ (jR P r.2.1) ∧ (jK P r.2.1) ∧ (jT P r.2.1))) := by
  obtain ⟨u0_jB, u1_jB, u2_jB, u3_jB, u4_jB, u5_jB⟩ := id p_jB
  obtain ⟨u0_jS, u1_jS, u2_jS, u3_jS, u4_jS, u5_jS, u6_jS, u7_jS⟩ := jS.ints p_jS
  obtain ⟨u0_jT, u1_jT, u2_jT, u3_jT, u4_jT, u5_jT⟩ := id p_jT
  have T_130 : ∀ (y0_130 : Int32) (M_130 : zMt) (N_130 : zNt), (∀ a j, ¬ WM_X8_soonest P a j → M_130 a j = M0 a j) → (∀ a j, ¬ WN_X8_soonest P a j → N_130 a j = N0 a j) → (jA P M_130) → (jB P M_130) → (jK P M_130) → (jR P M_130) → (jS P M_130) → (jT P M_130) → ∃ r, D_X8_soonest_130 P y0_130 M_130 N_130 = some r ∧ ((∀ a j, ¬ WM_X8_soonest P a j → r.2.1 a j = M0 a j) ∧ (∀ a j, ¬ WN_X8_soonest P a j → r.2.2 a j = N0 a j) ∧ ((jB P r.2.1) ∧ (jS P r.2.1) ∧ (jR P r.2.1) ∧ (jK P r.2.1) ∧ (jT P r.2.1))) := by
    intro y0_130 M_130 N_130 k_130 kn_130 p_jA_130 p_jB_130 p_jK_130 p_jR_130 p_jS_130 p_jT_130
    obtain ⟨u0_jB_130, u1_jB_130, u2_jB_130, u3_jB_130, u4_jB_130, u5_jB_130⟩ := id p_jB_130
    obtain ⟨u0_jS_130, u1_jS_130, u2_jS_130, u3_jS_130, u4_jS_130, u5_jS_130, u6_jS_130, u7_jS_130⟩ := jS.ints p_jS_130
    obtain ⟨u0_jT_130, u1_jT_130, u2_jT_130, u3_jT_130, u4_jT_130, u5_jT_130⟩ := id p_jT_130
    unfold D_X8_soonest_130
    exact ⟨_, rfl, k_130, kn_130, ⟨p_jB_130, p_jS_130, p_jR_130, p_jK_130, p_jT_130⟩⟩
  have T_106 : ∀ (x4_106 : Int32) (M_106 : zMt) (N_106 : zNt), (∀ a j, ¬ WM_X8_soonest P a j → M_106 a j = M0 a j) → (∀ a j, ¬ WN_X8_soonest P a j → N_106 a j = N0 a j) → (jA P M_106) → (jB P M_106) → (jK P M_106) → (jR P M_106) → (jS P M_106) → (jT P M_106) → ∃ r, D_X8_soonest_106 P x4_106 M_106 N_106 = some r ∧ ((∀ a j, ¬ WM_X8_soonest P a j → r.2.1 a j = M0 a j) ∧ (∀ a j, ¬ WN_X8_soonest P a j → r.2.2 a j = N0 a j) ∧ ((jB P r.2.1) ∧ (jS P r.2.1) ∧ (jR P r.2.1) ∧ (jK P r.2.1) ∧ (jT P r.2.1))) := by
    intro x4_106 M_106 N_106 k_106 kn_106 p_jA_106 p_jB_106 p_jK_106 p_jR_106 p_jS_106 p_jT_106
    obtain ⟨u0_jB_106, u1_jB_106, u2_jB_106, u3_jB_106, u4_jB_106, u5_jB_106⟩ := id p_jB_106
    obtain ⟨u0_jS_106, u1_jS_106, u2_jS_106, u3_jS_106, u4_jS_106, u5_jS_106, u6_jS_106, u7_jS_106⟩ := jS.ints p_jS_106
    obtain ⟨u0_jT_106, u1_jT_106, u2_jT_106, u3_jT_106, u4_jT_106, u5_jT_106⟩ := id p_jT_106
    unfold D_X8_soonest_106
    refine vB (v_X8_takesBack p_jB_106 p_jA_106) (fun e_107 f_107 q_107 => ?_)
    have k_107 : ∀ a j, ¬ WM_X8_soonest P a j → e_107 a j = M0 a j := fun a j h => (q_107.1 a j (wz_M_X8_takesBack_X8_soonest h)).trans (k_106 a j h)
    have c7_107 : Int32.toInt (e_107 P 7) = Int32.toInt (M_106 P 7) := congrArg Int32.toInt (q_107.1 P 7 (wc_X8_takesBack_7))
    have c8_107 : Int32.toInt (e_107 P 8) = Int32.toInt (M_106 P 8) := congrArg Int32.toInt (q_107.1 P 8 (wc_X8_takesBack_8))
    have c33_107 : Int32.toInt (e_107 P 33) = Int32.toInt (M_106 P 33) := congrArg Int32.toInt (q_107.1 P 33 (wc_X8_takesBack_33))
    have p_jA_107 : jA P e_107 := jA.mono p_jA_106 (fun a j h => q_107.1 a j (wf_jA_X8_takesBack h))
    have p_jB_107 : jB P e_107 := jB.mono p_jB_106 (fun a j h => q_107.1 a j (wf_jB_X8_takesBack h))
    obtain ⟨u0_jB_107, u1_jB_107, u2_jB_107, u3_jB_107, u4_jB_107, u5_jB_107⟩ := id p_jB_107
    have p_jK_107 : jK P e_107 := jK.mono p_jK_106 (fun a j h => q_107.1 a j (wf_jK_X8_takesBack h))
    have p_jR_107 : jR P e_107 := jR.mono p_jR_106 (fun a j h => q_107.1 a j (wf_jR_X8_takesBack h))
    have p_jT_107 : jT P e_107 := jT.mono p_jT_106 (fun a j h => q_107.1 a j (wf_jT_X8_takesBack h))
    obtain ⟨u0_jT_107, u1_jT_107, u2_jT_107, u3_jT_107, u4_jT_107, u5_jT_107⟩ := id p_jT_107
    have x0_107 := q_107.2
    obtain ⟨u0_jS_107, u1_jS_107, u2_jS_107, u3_jS_107, u4_jS_107, u5_jS_107, u6_jS_107, u7_jS_107⟩ := jS.ints x0_107
    refine vIf (fun h_113 => ?_) (fun h_113 => ?_)
    · have i_113 := congrArg Int32.toInt h_113
      (try simp only [Int32.toInt_add, Int32.toInt_sub, Int32.toInt_mul, Int32.toInt_toInt64, Int64.toInt_add, z_m1, Int32.reduceToInt, Int64.reduceToInt, Int32.reduceToNatClampNeg, Int.bmod_def] at i_113)
      refine vB (v_X8_refuse) (fun e_118 f_118 q_118 => ?_)
      have k_118 : ∀ a j, ¬ WM_X8_soonest P a j → e_118.2 a j = M0 a j := fun a j h => (q_118 a j (wz_M_X8_refuse_X8_soonest h)).trans (k_107 a j h)
      have c7_118 : Int32.toInt (e_118.2 P 7) = Int32.toInt (e_107 P 7) := congrArg Int32.toInt (q_118 P 7 (wc_X8_refuse_7))
      have c8_118 : Int32.toInt (e_118.2 P 8) = Int32.toInt (e_107 P 8) := congrArg Int32.toInt (q_118 P 8 (wc_X8_refuse_8))
      have c33_118 : Int32.toInt (e_118.2 P 33) = Int32.toInt (e_107 P 33) := congrArg Int32.toInt (q_118 P 33 (wc_X8_refuse_33))
      have n_118 : nA P e_118.2 = nA P e_107 := nA_congr (fun a j h => q_118 a j (wf_nA_X8_refuse h))
      have p_jA_118 : jA P e_118.2 := jA.mono p_jA_107 (fun a j h => q_118 a j (wf_jA_X8_refuse h))
      have p_jB_118 : jB P e_118.2 := jB.mono p_jB_107 (fun a j h => q_118 a j (wf_jB_X8_refuse h))
      obtain ⟨u0_jB_118, u1_jB_118, u2_jB_118, u3_jB_118, u4_jB_118, u5_jB_118⟩ := id p_jB_118
      have p_jK_118 : jK P e_118.2 := jK.mono p_jK_107 (fun a j h => q_118 a j (wf_jK_X8_refuse h))
      have p_jR_118 : jR P e_118.2 := jR.mono p_jR_107 (fun a j h => q_118 a j (wf_jR_X8_refuse h))
      have p_jT_118 : jT P e_118.2 := jT.mono p_jT_107 (fun a j h => q_118 a j (wf_jT_X8_refuse h))
      obtain ⟨u0_jT_118, u1_jT_118, u2_jT_118, u3_jT_118, u4_jT_118, u5_jT_118⟩ := id p_jT_118
      have p_jS_118 : jS P e_118.2 := jS.mono x0_107 (fun a j h => q_118 a j (wf_jS_X8_refuse h))
      obtain ⟨u0_jS_118, u1_jS_118, u2_jS_118, u3_jS_118, u4_jS_118, u5_jS_118, u6_jS_118, u7_jS_118⟩ := jS.ints p_jS_118
      exact T_130 _ _ _ k_118 kn_106 p_jA_118 p_jB_118 p_jK_118 p_jR_118 p_jS_118 p_jT_118
    · have i_113 : ¬ Int32.toInt x4_106 = Int32.toInt (-1 : Int32) := fun q => h_113 (Int32.toInt_inj.mp q)
      (try simp only [Int32.toInt_add, Int32.toInt_sub, Int32.toInt_mul, Int32.toInt_toInt64, Int64.toInt_add, z_m1, Int32.reduceToInt, Int64.reduceToInt, Int32.reduceToNatClampNeg, Int.bmod_def] at i_113)
      refine vB (v_X8_gives) (fun e_127 f_127 q_127 => ?_)
      have k_127 : ∀ a j, ¬ WM_X8_soonest P a j → e_127.2 a j = M0 a j := fun a j h => (q_127 a j (wz_M_X8_gives_X8_soonest h)).trans (k_107 a j h)
      have c7_127 : Int32.toInt (e_127.2 P 7) = Int32.toInt (e_107 P 7) := congrArg Int32.toInt (q_127 P 7 (wc_X8_gives_7))
      have c8_127 : Int32.toInt (e_127.2 P 8) = Int32.toInt (e_107 P 8) := congrArg Int32.toInt (q_127 P 8 (wc_X8_gives_8))
      have c33_127 : Int32.toInt (e_127.2 P 33) = Int32.toInt (e_107 P 33) := congrArg Int32.toInt (q_127 P 33 (wc_X8_gives_33))
      have n_127 : nA P e_127.2 = nA P e_107 := nA_congr (fun a j h => q_127 a j (wf_nA_X8_gives h))
      have p_jA_127 : jA P e_127.2 := jA.mono p_jA_107 (fun a j h => q_127 a j (wf_jA_X8_gives h))
      have p_jB_127 : jB P e_127.2 := jB.mono p_jB_107 (fun a j h => q_127 a j (wf_jB_X8_gives h))
      obtain ⟨u0_jB_127, u1_jB_127, u2_jB_127, u3_jB_127, u4_jB_127, u5_jB_127⟩ := id p_jB_127
      have p_jK_127 : jK P e_127.2 := jK.mono p_jK_107 (fun a j h => q_127 a j (wf_jK_X8_gives h))
      have p_jR_127 : jR P e_127.2 := jR.mono p_jR_107 (fun a j h => q_127 a j (wf_jR_X8_gives h))
      have p_jT_127 : jT P e_127.2 := jT.mono p_jT_107 (fun a j h => q_127 a j (wf_jT_X8_gives h))
      obtain ⟨u0_jT_127, u1_jT_127, u2_jT_127, u3_jT_127, u4_jT_127, u5_jT_127⟩ := id p_jT_127
      have p_jS_127 : jS P e_127.2 := jS.mono x0_107 (fun a j h => q_127 a j (wf_jS_X8_gives h))
      obtain ⟨u0_jS_127, u1_jS_127, u2_jS_127, u3_jS_127, u4_jS_127, u5_jS_127, u6_jS_127, u7_jS_127⟩ := jS.ints p_jS_127
      exact T_130 _ _ _ k_127 kn_106 p_jA_127 p_jB_127 p_jK_127 p_jR_127 p_jS_127 p_jT_127
  have TL_38 : ∀ u : Nat, ∀ (x1_38 : Int32) (x2_38 : Int32) (x3_38 : Int32) (x4_38 : Int32) (x5_38 : Int32) (M_38 : zMt) (N_38 : zNt), (∀ a j, ¬ WM_X8_soonest P a j → M_38 a j = M0 a j) → (∀ a j, ¬ WN_X8_soonest P a j → N_38 a j = N0 a j) → (jA P M_38) → (jB P M_38) → (jK P M_38) → (jR P M_38) → (jS P M_38) → (jT P M_38) → (0 ≤ Int32.toInt x5_38) → (0 ≤ Int32.toInt x1_38 ∧ 1 ≤ Int32.toInt x2_38 ∧ Int32.toInt x2_38 ≤ 30 ∧ Int32.toInt x1_38 + Int32.toInt x2_38 ≤ 999999999) → (0 ≤ Int32.toInt x3_38 ∧ Int32.toInt x3_38 < Int32.toInt (M_38 P 8)) → (2147483648 - Int32.toInt x5_38).toNat < u → ∃ r, D_X8_soonest_38 P u x1_38 x2_38 x3_38 x4_38 x5_38 M_38 N_38 = some r ∧ ((∀ a j, ¬ WM_X8_soonest P a j → r.2.1 a j = M0 a j) ∧ (∀ a j, ¬ WN_X8_soonest P a j → r.2.2 a j = N0 a j) ∧ ((jB P r.2.1) ∧ (jS P r.2.1) ∧ (jR P r.2.1) ∧ (jK P r.2.1) ∧ (jT P r.2.1))) := by
    intro u
    induction u with
    | zero => intro x1_38 x2_38 x3_38 x4_38 x5_38 M_38 N_38 k_38 kn_38 p_jA_38 p_jB_38 p_jK_38 p_jR_38 p_jS_38 p_jT_38 f0_38 f1_38 f2_38 hm_38; exact absurd hm_38 (Nat.not_lt_zero _)
    | succ u_38 ih_38 =>
      have T_98 : ∀ (x1_98 : Int32) (x2_98 : Int32) (x3_98 : Int32) (x5_98 : Int32) (y0_98 : Int32) (M_98 : zMt) (N_98 : zNt), (∀ a j, ¬ WM_X8_soonest P a j → M_98 a j = M0 a j) → (∀ a j, ¬ WN_X8_soonest P a j → N_98 a j = N0 a j) → (jA P M_98) → (jB P M_98) → (jH P M_98) → (jK P M_98) → (jL P M_98) → (jO P M_98) → (jR P M_98) → (jS P M_98) → (jT P M_98) → (0 ≤ Int32.toInt x5_98) → ((2147483648 - Int32.toInt x5_98).toNat < u_38 + 1) → (Int32.toInt x5_98 < 2147483647) → (0 ≤ Int32.toInt x1_98 ∧ 1 ≤ Int32.toInt x2_98 ∧ Int32.toInt x2_98 ≤ 30 ∧ Int32.toInt x1_98 + Int32.toInt x2_98 ≤ 999999999) → (0 ≤ Int32.toInt x3_98 ∧ Int32.toInt x3_98 < Int32.toInt (M_98 P 8)) → ∃ r, D_X8_soonest_98 P (D_X8_soonest_38 P u_38) x1_98 x2_98 x3_98 x5_98 y0_98 M_98 N_98 = some r ∧ ((∀ a j, ¬ WM_X8_soonest P a j → r.2.1 a j = M0 a j) ∧ (∀ a j, ¬ WN_X8_soonest P a j → r.2.2 a j = N0 a j) ∧ ((jB P r.2.1) ∧ (jS P r.2.1) ∧ (jR P r.2.1) ∧ (jK P r.2.1) ∧ (jT P r.2.1))) := by
        intro x1_98 x2_98 x3_98 x5_98 y0_98 M_98 N_98 k_98 kn_98 p_jA_98 p_jB_98 p_jH_98 p_jK_98 p_jL_98 p_jO_98 p_jR_98 p_jS_98 p_jT_98 f0_98 f1_98 f2_98 f3_98 f4_98
        obtain ⟨u0_jB_98, u1_jB_98, u2_jB_98, u3_jB_98, u4_jB_98, u5_jB_98⟩ := id p_jB_98
        obtain ⟨u0_jS_98, u1_jS_98, u2_jS_98, u3_jS_98, u4_jS_98, u5_jS_98, u6_jS_98, u7_jS_98⟩ := jS.ints p_jS_98
        obtain ⟨u0_jT_98, u1_jT_98, u2_jT_98, u3_jT_98, u4_jT_98, u5_jT_98⟩ := id p_jT_98
        unfold D_X8_soonest_98
        exact ih_38 _ _ _ _ _ _ _ k_98 kn_98 p_jA_98 p_jB_98 p_jK_98 p_jR_98 p_jS_98 p_jT_98 (by first | omega | (simp only [Int32.toInt_add, Int32.toInt_sub, Int32.toInt_mul, Int32.toInt_toInt64, Int64.toInt_add, z_m1, Int32.reduceToInt, Int64.reduceToInt, Int32.reduceToNatClampNeg, Int.bmod_def, or_true, true_or, and_true, true_and] <;> omega)) (by first | omega | (simp only [Int32.toInt_add, Int32.toInt_sub, Int32.toInt_mul, Int32.toInt_toInt64, Int64.toInt_add, z_m1, Int32.reduceToInt, Int64.reduceToInt, Int32.reduceToNatClampNeg, Int.bmod_def, or_true, true_or, and_true, true_and] <;> omega)) (by first | omega | (simp only [Int32.toInt_add, Int32.toInt_sub, Int32.toInt_mul, Int32.toInt_toInt64, Int64.toInt_add, z_m1, Int32.reduceToInt, Int64.reduceToInt, Int32.reduceToNatClampNeg, Int.bmod_def, or_true, true_or, and_true, true_and] <;> omega)) (z_up1 f2_98 f1_98)
      have TL_61 : ∀ u : Nat, ∀ (x1_61 : Int32) (x2_61 : Int32) (x3_61 : Int32) (x5_61 : Int32) (x6_61 : Int32) (M_61 : zMt) (N_61 : zNt), (∀ a j, ¬ WM_X8_soonest P a j → M_61 a j = M0 a j) → (∀ a j, ¬ WN_X8_soonest P a j → N_61 a j = N0 a j) → (jA P M_61) → (jB P M_61) → (jH P M_61) → (jK P M_61) → (jL P M_61) → (jO P M_61) → (jR P M_61) → (jS P M_61) → (jT P M_61) → (0 ≤ Int32.toInt x5_61) → (0 ≤ Int32.toInt x6_61) → ((2147483648 - Int32.toInt x5_61).toNat < u_38 + 1) → (Int32.toInt x5_61 < 2147483647) → (0 ≤ Int32.toInt x1_61 ∧ 1 ≤ Int32.toInt x2_61 ∧ Int32.toInt x2_61 ≤ 30 ∧ Int32.toInt x1_61 + Int32.toInt x2_61 ≤ 999999999) → (0 ≤ Int32.toInt x3_61 ∧ Int32.toInt x3_61 < Int32.toInt (M_61 P 8)) → (0 ≤ Int32.toInt x6_61) → (∃ a : Nat, Int32.toInt x6_61 ≤ a ∧ (a : Int) < Int32.toInt (M_61 P 33) ∧ bitAt (M_61 (P + 11) a) (Int32.toInt x3_61).toNat) → (10 - Int32.toInt x6_61).toNat < u → ∃ r, D_X8_soonest_61 P (D_X8_soonest_38 P u_38) u x1_61 x2_61 x3_61 x5_61 x6_61 M_61 N_61 = some r ∧ ((∀ a j, ¬ WM_X8_soonest P a j → r.2.1 a j = M0 a j) ∧ (∀ a j, ¬ WN_X8_soonest P a j → r.2.2 a j = N0 a j) ∧ ((jB P r.2.1) ∧ (jS P r.2.1) ∧ (jR P r.2.1) ∧ (jK P r.2.1) ∧ (jT P r.2.1))) := by
        intro u
        induction u with
        | zero => intro x1_61 x2_61 x3_61 x5_61 x6_61 M_61 N_61 k_61 kn_61 p_jA_61 p_jB_61 p_jH_61 p_jK_61 p_jL_61 p_jO_61 p_jR_61 p_jS_61 p_jT_61 f0_61 f1_61 f2_61 f3_61 f4_61 f5_61 f6_61 f7_61 hm_61; exact absurd hm_61 (Nat.not_lt_zero _)
        | succ u_61 ih_61 =>
          intro x1_61 x2_61 x3_61 x5_61 x6_61 M_61 N_61 k_61 kn_61 p_jA_61 p_jB_61 p_jH_61 p_jK_61 p_jL_61 p_jO_61 p_jR_61 p_jS_61 p_jT_61 f0_61 f1_61 f2_61 f3_61 f4_61 f5_61 f6_61 f7_61 hm_61
          obtain ⟨u0_jB_61, u1_jB_61, u2_jB_61, u3_jB_61, u4_jB_61, u5_jB_61⟩ := id p_jB_61
          obtain ⟨u0_jS_61, u1_jS_61, u2_jS_61, u3_jS_61, u4_jS_61, u5_jS_61, u6_jS_61, u7_jS_61⟩ := jS.ints p_jS_61
          obtain ⟨u0_jT_61, u1_jT_61, u2_jT_61, u3_jT_61, u4_jT_61, u5_jT_61⟩ := id p_jT_61
          rw [D_X8_soonest_61]
          refine vI (vp_of (by first | omega | (simp only [Int32.toInt_add, Int32.toInt_sub, Int32.toInt_mul, Int32.toInt_toInt64, Int64.toInt_add, z_m1, Int32.reduceToInt, Int64.reduceToInt, Int32.reduceToNatClampNeg, Int.bmod_def, or_true, true_or, and_true, true_and] <;> omega)) (by obtain ⟨a9, h91, h92, _⟩ := (by assumption : ∃ a : Nat, Int32.toInt x6_61 ≤ a ∧ (a : Int) < Int32.toInt (M_61 P 33) ∧ bitAt (M_61 (P + 11) a) (Int32.toInt x3_61).toNat); omega)) ?_
          refine vB (v_X8_has) (fun e_69 f_69 q_69 => ?_)
          have b_69 := q_69.1
          have x0_69 := q_69.2
          refine vIf (fun h_72 => ?_) (fun h_72 => ?_)
          · have i_72 := congrArg Int32.toInt h_72
            (try simp only [Int32.toInt_add, Int32.toInt_sub, Int32.toInt_mul, Int32.toInt_toInt64, Int64.toInt_add, z_m1, Int32.reduceToInt, Int64.reduceToInt, Int32.reduceToNatClampNeg, Int.bmod_def] at i_72)
            exact ih_61 _ _ _ _ _ _ _ k_61 kn_61 p_jA_61 p_jB_61 p_jH_61 p_jK_61 p_jL_61 p_jO_61 p_jR_61 p_jS_61 p_jT_61 (by first | omega | (simp only [Int32.toInt_add, Int32.toInt_sub, Int32.toInt_mul, Int32.toInt_toInt64, Int64.toInt_add, z_m1, Int32.reduceToInt, Int64.reduceToInt, Int32.reduceToNatClampNeg, Int.bmod_def, or_true, true_or, and_true, true_and] <;> omega)) (by first | omega | (simp only [Int32.toInt_add, Int32.toInt_sub, Int32.toInt_mul, Int32.toInt_toInt64, Int64.toInt_add, z_m1, Int32.reduceToInt, Int64.reduceToInt, Int32.reduceToNatClampNeg, Int.bmod_def, or_true, true_or, and_true, true_and] <;> omega)) f2_61 f3_61 (by first | omega | (simp only [Int32.toInt_add, Int32.toInt_sub, Int32.toInt_mul, Int32.toInt_toInt64, Int64.toInt_add, z_m1, Int32.reduceToInt, Int64.reduceToInt, Int32.reduceToNatClampNeg, Int.bmod_def, or_true, true_or, and_true, true_and] <;> omega)) (by first | omega | (simp only [Int32.toInt_add, Int32.toInt_sub, Int32.toInt_mul, Int32.toInt_toInt64, Int64.toInt_add, z_m1, Int32.reduceToInt, Int64.reduceToInt, Int32.reduceToNatClampNeg, Int.bmod_def, or_true, true_or, and_true, true_and] <;> omega)) (by first | omega | (simp only [Int32.toInt_add, Int32.toInt_sub, Int32.toInt_mul, Int32.toInt_toInt64, Int64.toInt_add, z_m1, Int32.reduceToInt, Int64.reduceToInt, Int32.reduceToNatClampNeg, Int.bmod_def, or_true, true_or, and_true, true_and] <;> omega)) (by first | exact z_next0 (by assumption) (by first | omega | (simp only [Int32.toInt_add, Int32.toInt_sub, Int32.toInt_mul, Int32.toInt_toInt64, Int64.toInt_add, z_m1, Int32.reduceToInt, Int64.reduceToInt, Int32.reduceToNatClampNeg, Int.bmod_def, or_true, true_or, and_true, true_and] <;> omega)) (by first | omega | (simp only [Int32.toInt_add, Int32.toInt_sub, Int32.toInt_mul, Int32.toInt_toInt64, Int64.toInt_add, z_m1, Int32.reduceToInt, Int64.reduceToInt, Int32.reduceToNatClampNeg, Int.bmod_def, or_true, true_or, and_true, true_and] <;> omega)) | exact z_next (by omega) (by omega) (by omega) (by assumption) (by assumption) (by assumption)) (by obtain ⟨a9, h91, h92, _⟩ := (by assumption : ∃ a : Nat, Int32.toInt x6_61 ≤ a ∧ (a : Int) < Int32.toInt (M_61 P 33) ∧ bitAt (M_61 (P + 11) a) (Int32.toInt x3_61).toNat); have h93 := z_inc (x := x6_61) (by omega); omega)
          · have i_72 : ¬ Int32.toInt e_69 = Int32.toInt (0 : Int32) := fun q => h_72 (Int32.toInt_inj.mp q)
            (try simp only [Int32.toInt_add, Int32.toInt_sub, Int32.toInt_mul, Int32.toInt_toInt64, Int64.toInt_add, z_m1, Int32.reduceToInt, Int64.reduceToInt, Int32.reduceToNatClampNeg, Int.bmod_def] at i_72)
            refine vB (v_X8_hasFirst p_jB_61 p_jS_61 p_jL_61 p_jR_61 (by first | omega | (simp only [Int32.toInt_add, Int32.toInt_sub, Int32.toInt_mul, Int32.toInt_toInt64, Int64.toInt_add, z_m1, Int32.reduceToInt, Int64.reduceToInt, Int32.reduceToNatClampNeg, Int.bmod_def, or_true, true_or, and_true, true_and] <;> omega)) (by obtain ⟨a9, h91, h92, _⟩ := (by assumption : ∃ a : Nat, Int32.toInt x6_61 ≤ a ∧ (a : Int) < Int32.toInt (M_61 P 33) ∧ bitAt (M_61 (P + 11) a) (Int32.toInt x3_61).toNat); omega)) (fun e_84 f_84 q_84 => ?_)
            have b_84 := q_84
            refine vIf (fun h_87 => ?_) (fun h_87 => ?_)
            · have i_87 := congrArg Int32.toInt h_87
              (try simp only [Int32.toInt_add, Int32.toInt_sub, Int32.toInt_mul, Int32.toInt_toInt64, Int64.toInt_add, z_m1, Int32.reduceToInt, Int64.reduceToInt, Int32.reduceToNatClampNeg, Int.bmod_def] at i_87)
              exact T_98 _ _ _ _ _ _ _ k_61 kn_61 p_jA_61 p_jB_61 p_jH_61 p_jK_61 p_jL_61 p_jO_61 p_jR_61 p_jS_61 p_jT_61 (by first | omega | (simp only [Int32.toInt_add, Int32.toInt_sub, Int32.toInt_mul, Int32.toInt_toInt64, Int64.toInt_add, z_m1, Int32.reduceToInt, Int64.reduceToInt, Int32.reduceToNatClampNeg, Int.bmod_def, or_true, true_or, and_true, true_and] <;> omega)) f2_61 f3_61 (by first | omega | (simp only [Int32.toInt_add, Int32.toInt_sub, Int32.toInt_mul, Int32.toInt_toInt64, Int64.toInt_add, z_m1, Int32.reduceToInt, Int64.reduceToInt, Int32.reduceToNatClampNeg, Int.bmod_def, or_true, true_or, and_true, true_and] <;> omega)) (by first | omega | (simp only [Int32.toInt_add, Int32.toInt_sub, Int32.toInt_mul, Int32.toInt_toInt64, Int64.toInt_add, z_m1, Int32.reduceToInt, Int64.reduceToInt, Int32.reduceToNatClampNeg, Int.bmod_def, or_true, true_or, and_true, true_and] <;> omega))
            · have i_87 : ¬ Int32.toInt e_84 = Int32.toInt (0 : Int32) := fun q => h_87 (Int32.toInt_inj.mp q)
              (try simp only [Int32.toInt_add, Int32.toInt_sub, Int32.toInt_mul, Int32.toInt_toInt64, Int64.toInt_add, z_m1, Int32.reduceToInt, Int64.reduceToInt, Int32.reduceToNatClampNeg, Int.bmod_def] at i_87)
              exact T_98 _ _ _ _ _ _ _ k_61 kn_61 p_jA_61 p_jB_61 p_jH_61 p_jK_61 p_jL_61 p_jO_61 p_jR_61 p_jS_61 p_jT_61 (by first | omega | (simp only [Int32.toInt_add, Int32.toInt_sub, Int32.toInt_mul, Int32.toInt_toInt64, Int64.toInt_add, z_m1, Int32.reduceToInt, Int64.reduceToInt, Int32.reduceToNatClampNeg, Int.bmod_def, or_true, true_or, and_true, true_and] <;> omega)) f2_61 f3_61 (by first | omega | (simp only [Int32.toInt_add, Int32.toInt_sub, Int32.toInt_mul, Int32.toInt_toInt64, Int64.toInt_add, z_m1, Int32.reduceToInt, Int64.reduceToInt, Int32.reduceToNatClampNeg, Int.bmod_def, or_true, true_or, and_true, true_and] <;> omega)) (by first | omega | (simp only [Int32.toInt_add, Int32.toInt_sub, Int32.toInt_mul, Int32.toInt_toInt64, Int64.toInt_add, z_m1, Int32.reduceToInt, Int64.reduceToInt, Int32.reduceToNatClampNeg, Int.bmod_def, or_true, true_or, and_true, true_and] <;> omega))
      have T_61 : ∀ (x1_61 : Int32) (x2_61 : Int32) (x3_61 : Int32) (x5_61 : Int32) (x6_61 : Int32) (M_61 : zMt) (N_61 : zNt), (∀ a j, ¬ WM_X8_soonest P a j → M_61 a j = M0 a j) → (∀ a j, ¬ WN_X8_soonest P a j → N_61 a j = N0 a j) → (jA P M_61) → (jB P M_61) → (jH P M_61) → (jK P M_61) → (jL P M_61) → (jO P M_61) → (jR P M_61) → (jS P M_61) → (jT P M_61) → (0 ≤ Int32.toInt x5_61) → (0 ≤ Int32.toInt x6_61) → ((2147483648 - Int32.toInt x5_61).toNat < u_38 + 1) → (Int32.toInt x5_61 < 2147483647) → (0 ≤ Int32.toInt x1_61 ∧ 1 ≤ Int32.toInt x2_61 ∧ Int32.toInt x2_61 ≤ 30 ∧ Int32.toInt x1_61 + Int32.toInt x2_61 ≤ 999999999) → (0 ≤ Int32.toInt x3_61 ∧ Int32.toInt x3_61 < Int32.toInt (M_61 P 8)) → (0 ≤ Int32.toInt x6_61) → (∃ a : Nat, Int32.toInt x6_61 ≤ a ∧ (a : Int) < Int32.toInt (M_61 P 33) ∧ bitAt (M_61 (P + 11) a) (Int32.toInt x3_61).toNat) → ∃ r, D_X8_soonest_61 P (D_X8_soonest_38 P u_38) zFu x1_61 x2_61 x3_61 x5_61 x6_61 M_61 N_61 = some r ∧ ((∀ a j, ¬ WM_X8_soonest P a j → r.2.1 a j = M0 a j) ∧ (∀ a j, ¬ WN_X8_soonest P a j → r.2.2 a j = N0 a j) ∧ ((jB P r.2.1) ∧ (jS P r.2.1) ∧ (jR P r.2.1) ∧ (jK P r.2.1) ∧ (jT P r.2.1))) := fun x1_61 x2_61 x3_61 x5_61 x6_61 M_61 N_61 k_61 kn_61 p_jA_61 p_jB_61 p_jH_61 p_jK_61 p_jL_61 p_jO_61 p_jR_61 p_jS_61 p_jT_61 f0_61 f1_61 f2_61 f3_61 f4_61 f5_61 f6_61 f7_61 => TL_61 zFu x1_61 x2_61 x3_61 x5_61 x6_61 M_61 N_61 k_61 kn_61 p_jA_61 p_jB_61 p_jH_61 p_jK_61 p_jL_61 p_jO_61 p_jR_61 p_jS_61 p_jT_61 f0_61 f1_61 f2_61 f3_61 f4_61 f5_61 f6_61 f7_61 (by unfold zFu; omega)
      intro x1_38 x2_38 x3_38 x4_38 x5_38 M_38 N_38 k_38 kn_38 p_jA_38 p_jB_38 p_jK_38 p_jR_38 p_jS_38 p_jT_38 f0_38 f1_38 f2_38 hm_38
      obtain ⟨u0_jB_38, u1_jB_38, u2_jB_38, u3_jB_38, u4_jB_38, u5_jB_38⟩ := id p_jB_38
      obtain ⟨u0_jS_38, u1_jS_38, u2_jS_38, u3_jS_38, u4_jS_38, u5_jS_38, u6_jS_38, u7_jS_38⟩ := jS.ints p_jS_38
      obtain ⟨u0_jT_38, u1_jT_38, u2_jT_38, u3_jT_38, u4_jT_38, u5_jT_38⟩ := id p_jT_38
      rw [D_X8_soonest_38]
      refine vIf (fun h_41 => ?_) (fun h_41 => ?_)
      · have i_41 := Int32.le_iff_toInt_le.mp h_41
        (try simp only [Int32.toInt_add, Int32.toInt_sub, Int32.toInt_mul, Int32.toInt_toInt64, Int64.toInt_add, z_m1, Int32.reduceToInt, Int64.reduceToInt, Int32.reduceToNatClampNeg, Int.bmod_def] at i_41)
        exact T_106 _ _ _ k_38 kn_38 p_jA_38 p_jB_38 p_jK_38 p_jR_38 p_jS_38 p_jT_38
      · have i_41 := Int32.lt_iff_toInt_lt.mp (Int32.not_le.mp h_41)
        (try simp only [Int32.toInt_add, Int32.toInt_sub, Int32.toInt_mul, Int32.toInt_toInt64, Int64.toInt_add, z_m1, Int32.reduceToInt, Int64.reduceToInt, Int32.reduceToNatClampNeg, Int.bmod_def] at i_41)
        refine vIf (fun h_47 => ?_) (fun h_47 => ?_)
        · have i_47 := congrArg Int32.toInt h_47
          (try simp only [Int32.toInt_add, Int32.toInt_sub, Int32.toInt_mul, Int32.toInt_toInt64, Int64.toInt_add, z_m1, Int32.reduceToInt, Int64.reduceToInt, Int32.reduceToNatClampNeg, Int.bmod_def] at i_47)
          refine vB (v_X8_goesYear p_jB_38 p_jS_38 p_jR_38 (by first | omega | (simp only [Int32.toInt_add, Int32.toInt_sub, Int32.toInt_mul, Int32.toInt_toInt64, Int64.toInt_add, z_m1, Int32.reduceToInt, Int64.reduceToInt, Int32.reduceToNatClampNeg, Int.bmod_def, or_true, true_or, and_true, true_and] <;> omega))) (fun e_55 f_55 q_55 => ?_)
          have k_55 : ∀ a j, ¬ WM_X8_soonest P a j → e_55.1 a j = M0 a j := fun a j h => (q_55.1 a j (wz_M_X8_goesYear_X8_soonest h)).trans (k_38 a j h)
          have kn_55 : ∀ a j, ¬ WN_X8_soonest P a j → e_55.2 a j = N0 a j := fun a j h => (q_55.2.1 a j (wz_N_X8_goesYear_X8_soonest h)).trans (kn_38 a j h)
          have c7_55 : Int32.toInt (e_55.1 P 7) = Int32.toInt (M_38 P 7) := congrArg Int32.toInt (q_55.1 P 7 (wc_X8_goesYear_7))
          have c8_55 : Int32.toInt (e_55.1 P 8) = Int32.toInt (M_38 P 8) := congrArg Int32.toInt (q_55.1 P 8 (wc_X8_goesYear_8))
          have p_jA_55 : jA P e_55.1 := jA.mono p_jA_38 (fun a j h => q_55.1 a j (wf_jA_X8_goesYear h))
          have p_jK_55 : jK P e_55.1 := jK.mono p_jK_38 (fun a j h => q_55.1 a j (wf_jK_X8_goesYear h))
          have p_jT_55 : jT P e_55.1 := jT.mono p_jT_38 (fun a j h => q_55.1 a j (wf_jT_X8_goesYear h))
          obtain ⟨u0_jT_55, u1_jT_55, u2_jT_55, u3_jT_55, u4_jT_55, u5_jT_55⟩ := id p_jT_55
          obtain ⟨x0_55, x1_55, x2_55, x3_55, x4_55, x5_55, x6_55⟩ := q_55.2.2
          obtain ⟨u0_jB_55, u1_jB_55, u2_jB_55, u3_jB_55, u4_jB_55, u5_jB_55⟩ := id x0_55
          obtain ⟨u0_jS_55, u1_jS_55, u2_jS_55, u3_jS_55, u4_jS_55, u5_jS_55, u6_jS_55, u7_jS_55⟩ := jS.ints x1_55
          (try simp only [Int32.toInt_add, Int32.toInt_sub, Int32.toInt_mul, Int32.toInt_toInt64, Int64.toInt_add, z_m1, Int32.reduceToInt, Int64.reduceToInt, Int32.reduceToNatClampNeg, Int.bmod_def] at x6_55)
          exact T_61 _ _ _ _ _ _ _ k_55 kn_55 p_jA_55 x0_55 x3_55 p_jK_55 x2_55 x4_55 x5_55 x1_55 p_jT_55 (by first | omega | (simp only [Int32.toInt_add, Int32.toInt_sub, Int32.toInt_mul, Int32.toInt_toInt64, Int64.toInt_add, z_m1, Int32.reduceToInt, Int64.reduceToInt, Int32.reduceToNatClampNeg, Int.bmod_def, or_true, true_or, and_true, true_and] <;> omega)) (by first | omega | (simp only [Int32.toInt_add, Int32.toInt_sub, Int32.toInt_mul, Int32.toInt_toInt64, Int64.toInt_add, z_m1, Int32.reduceToInt, Int64.reduceToInt, Int32.reduceToNatClampNeg, Int.bmod_def, or_true, true_or, and_true, true_and] <;> omega)) hm_38 (by first | assumption | exact z_lt (by assumption) | exact z_lt2 (by assumption) | exact z_lt3 (by assumption) (by first | assumption | decide)) (by first | omega | (simp only [Int32.toInt_add, Int32.toInt_sub, Int32.toInt_mul, Int32.toInt_toInt64, Int64.toInt_add, z_m1, Int32.reduceToInt, Int64.reduceToInt, Int32.reduceToNatClampNeg, Int.bmod_def, or_true, true_or, and_true, true_and] <;> omega)) (by first | omega | (simp only [Int32.toInt_add, Int32.toInt_sub, Int32.toInt_mul, Int32.toInt_toInt64, Int64.toInt_add, z_m1, Int32.reduceToInt, Int64.reduceToInt, Int32.reduceToNatClampNeg, Int.bmod_def, or_true, true_or, and_true, true_and] <;> omega)) (by first | omega | (simp only [Int32.toInt_add, Int32.toInt_sub, Int32.toInt_mul, Int32.toInt_toInt64, Int64.toInt_add, z_m1, Int32.reduceToInt, Int64.reduceToInt, Int32.reduceToNatClampNeg, Int.bmod_def, or_true, true_or, and_true, true_and] <;> omega)) (by first | exact z_next0 (by assumption) (by first | omega | (simp only [Int32.toInt_add, Int32.toInt_sub, Int32.toInt_mul, Int32.toInt_toInt64, Int64.toInt_add, z_m1, Int32.reduceToInt, Int64.reduceToInt, Int32.reduceToNatClampNeg, Int.bmod_def, or_true, true_or, and_true, true_and] <;> omega)) (by first | omega | (simp only [Int32.toInt_add, Int32.toInt_sub, Int32.toInt_mul, Int32.toInt_toInt64, Int64.toInt_add, z_m1, Int32.reduceToInt, Int64.reduceToInt, Int32.reduceToNatClampNeg, Int.bmod_def, or_true, true_or, and_true, true_and] <;> omega)) | exact z_next (by omega) (by omega) (by omega) (by assumption) (by assumption) (by assumption))
        · have i_47 : ¬ Int32.toInt x4_38 = Int32.toInt (-1 : Int32) := fun q => h_47 (Int32.toInt_inj.mp q)
          (try simp only [Int32.toInt_add, Int32.toInt_sub, Int32.toInt_mul, Int32.toInt_toInt64, Int64.toInt_add, z_m1, Int32.reduceToInt, Int64.reduceToInt, Int32.reduceToNatClampNeg, Int.bmod_def] at i_47)
          exact T_106 _ _ _ k_38 kn_38 p_jA_38 p_jB_38 p_jK_38 p_jR_38 p_jS_38 p_jT_38
  have T_38 : ∀ (x1_38 : Int32) (x2_38 : Int32) (x3_38 : Int32) (x4_38 : Int32) (x5_38 : Int32) (M_38 : zMt) (N_38 : zNt), (∀ a j, ¬ WM_X8_soonest P a j → M_38 a j = M0 a j) → (∀ a j, ¬ WN_X8_soonest P a j → N_38 a j = N0 a j) → (jA P M_38) → (jB P M_38) → (jK P M_38) → (jR P M_38) → (jS P M_38) → (jT P M_38) → (0 ≤ Int32.toInt x5_38) → (0 ≤ Int32.toInt x1_38 ∧ 1 ≤ Int32.toInt x2_38 ∧ Int32.toInt x2_38 ≤ 30 ∧ Int32.toInt x1_38 + Int32.toInt x2_38 ≤ 999999999) → (0 ≤ Int32.toInt x3_38 ∧ Int32.toInt x3_38 < Int32.toInt (M_38 P 8)) → ∃ r, D_X8_soonest_38 P zFu x1_38 x2_38 x3_38 x4_38 x5_38 M_38 N_38 = some r ∧ ((∀ a j, ¬ WM_X8_soonest P a j → r.2.1 a j = M0 a j) ∧ (∀ a j, ¬ WN_X8_soonest P a j → r.2.2 a j = N0 a j) ∧ ((jB P r.2.1) ∧ (jS P r.2.1) ∧ (jR P r.2.1) ∧ (jK P r.2.1) ∧ (jT P r.2.1))) := fun x1_38 x2_38 x3_38 x4_38 x5_38 M_38 N_38 k_38 kn_38 p_jA_38 p_jB_38 p_jK_38 p_jR_38 p_jS_38 p_jT_38 f0_38 f1_38 f2_38 => TL_38 zFu x1_38 x2_38 x3_38 x4_38 x5_38 M_38 N_38 k_38 kn_38 p_jA_38 p_jB_38 p_jK_38 p_jR_38 p_jS_38 p_jT_38 f0_38 f1_38 f2_38 (zFu_up _)
  unfold D_X8_soonest
  refine vB (v_X8_areYears) (fun e_2 f_2 q_2 => ?_)
  have b_2 := q_2.1
  have x0_2 := q_2.2
  (try simp only [Int32.toInt_add, Int32.toInt_sub, Int32.toInt_mul, Int32.toInt_toInt64, Int64.toInt_add, z_m1, Int32.reduceToInt, Int64.reduceToInt, Int32.reduceToNatClampNeg, Int.bmod_def] at x0_2)
  refine vIf (fun h_5 => ?_) (fun h_5 => ?_)
  · have i_5 := congrArg Int32.toInt h_5
    (try simp only [Int32.toInt_add, Int32.toInt_sub, Int32.toInt_mul, Int32.toInt_toInt64, Int64.toInt_add, z_m1, Int32.reduceToInt, Int64.reduceToInt, Int32.reduceToNatClampNeg, Int.bmod_def] at i_5)
    refine vB (v_X8_refuse) (fun e_10 f_10 q_10 => ?_)
    have k_10 : ∀ a j, ¬ WM_X8_soonest P a j → e_10.2 a j = M0 a j := fun a j h => (q_10 a j (wz_M_X8_refuse_X8_soonest h))
    have c7_10 : Int32.toInt (e_10.2 P 7) = Int32.toInt (M0 P 7) := congrArg Int32.toInt (q_10 P 7 (wc_X8_refuse_7))
    have c8_10 : Int32.toInt (e_10.2 P 8) = Int32.toInt (M0 P 8) := congrArg Int32.toInt (q_10 P 8 (wc_X8_refuse_8))
    have c33_10 : Int32.toInt (e_10.2 P 33) = Int32.toInt (M0 P 33) := congrArg Int32.toInt (q_10 P 33 (wc_X8_refuse_33))
    have n_10 : nA P e_10.2 = nA P M0 := nA_congr (fun a j h => q_10 a j (wf_nA_X8_refuse h))
    have p_jB_10 : jB P e_10.2 := jB.mono p_jB (fun a j h => q_10 a j (wf_jB_X8_refuse h))
    obtain ⟨u0_jB_10, u1_jB_10, u2_jB_10, u3_jB_10, u4_jB_10, u5_jB_10⟩ := id p_jB_10
    have p_jS_10 : jS P e_10.2 := jS.mono p_jS (fun a j h => q_10 a j (wf_jS_X8_refuse h))
    obtain ⟨u0_jS_10, u1_jS_10, u2_jS_10, u3_jS_10, u4_jS_10, u5_jS_10, u6_jS_10, u7_jS_10⟩ := jS.ints p_jS_10
    have p_jR_10 : jR P e_10.2 := jR.mono p_jR (fun a j h => q_10 a j (wf_jR_X8_refuse h))
    have p_jK_10 : jK P e_10.2 := jK.mono p_jK (fun a j h => q_10 a j (wf_jK_X8_refuse h))
    have p_jT_10 : jT P e_10.2 := jT.mono p_jT (fun a j h => q_10 a j (wf_jT_X8_refuse h))
    obtain ⟨u0_jT_10, u1_jT_10, u2_jT_10, u3_jT_10, u4_jT_10, u5_jT_10⟩ := id p_jT_10
    exact ⟨_, rfl, k_10, (fun _ _ _ => rfl), ⟨p_jB_10, p_jS_10, p_jR_10, p_jK_10, p_jT_10⟩⟩
  · have i_5 : ¬ Int32.toInt e_2 = Int32.toInt (0 : Int32) := fun q => h_5 (Int32.toInt_inj.mp q)
    (try simp only [Int32.toInt_add, Int32.toInt_sub, Int32.toInt_mul, Int32.toInt_toInt64, Int64.toInt_add, z_m1, Int32.reduceToInt, Int64.reduceToInt, Int32.reduceToNatClampNeg, Int.bmod_def] at i_5)
    refine vB (v_X8_isHunter p_jB) (fun e_16 f_16 q_16 => ?_)
    have b_16 := q_16.1
    have x0_16 := q_16.2
    (try simp only [Int32.toInt_add, Int32.toInt_sub, Int32.toInt_mul, Int32.toInt_toInt64, Int64.toInt_add, z_m1, Int32.reduceToInt, Int64.reduceToInt, Int32.reduceToNatClampNeg, Int.bmod_def] at x0_16)
    refine vIf (fun h_19 => ?_) (fun h_19 => ?_)
    · have i_19 := congrArg Int32.toInt h_19
      (try simp only [Int32.toInt_add, Int32.toInt_sub, Int32.toInt_mul, Int32.toInt_toInt64, Int64.toInt_add, z_m1, Int32.reduceToInt, Int64.reduceToInt, Int32.reduceToNatClampNeg, Int.bmod_def] at i_19)
      refine vB (v_X8_refuse) (fun e_24 f_24 q_24 => ?_)
      have k_24 : ∀ a j, ¬ WM_X8_soonest P a j → e_24.2 a j = M0 a j := fun a j h => (q_24 a j (wz_M_X8_refuse_X8_soonest h))
      have c7_24 : Int32.toInt (e_24.2 P 7) = Int32.toInt (M0 P 7) := congrArg Int32.toInt (q_24 P 7 (wc_X8_refuse_7))
      have c8_24 : Int32.toInt (e_24.2 P 8) = Int32.toInt (M0 P 8) := congrArg Int32.toInt (q_24 P 8 (wc_X8_refuse_8))
      have c33_24 : Int32.toInt (e_24.2 P 33) = Int32.toInt (M0 P 33) := congrArg Int32.toInt (q_24 P 33 (wc_X8_refuse_33))
      have n_24 : nA P e_24.2 = nA P M0 := nA_congr (fun a j h => q_24 a j (wf_nA_X8_refuse h))
      have p_jB_24 : jB P e_24.2 := jB.mono p_jB (fun a j h => q_24 a j (wf_jB_X8_refuse h))
      obtain ⟨u0_jB_24, u1_jB_24, u2_jB_24, u3_jB_24, u4_jB_24, u5_jB_24⟩ := id p_jB_24
      have p_jS_24 : jS P e_24.2 := jS.mono p_jS (fun a j h => q_24 a j (wf_jS_X8_refuse h))
      obtain ⟨u0_jS_24, u1_jS_24, u2_jS_24, u3_jS_24, u4_jS_24, u5_jS_24, u6_jS_24, u7_jS_24⟩ := jS.ints p_jS_24
      have p_jR_24 : jR P e_24.2 := jR.mono p_jR (fun a j h => q_24 a j (wf_jR_X8_refuse h))
      have p_jK_24 : jK P e_24.2 := jK.mono p_jK (fun a j h => q_24 a j (wf_jK_X8_refuse h))
      have p_jT_24 : jT P e_24.2 := jT.mono p_jT (fun a j h => q_24 a j (wf_jT_X8_refuse h))
      obtain ⟨u0_jT_24, u1_jT_24, u2_jT_24, u3_jT_24, u4_jT_24, u5_jT_24⟩ := id p_jT_24
      exact ⟨_, rfl, k_24, (fun _ _ _ => rfl), ⟨p_jB_24, p_jS_24, p_jR_24, p_jK_24, p_jT_24⟩⟩
    · have i_19 : ¬ Int32.toInt e_16 = Int32.toInt (0 : Int32) := fun q => h_19 (Int32.toInt_inj.mp q)
      (try simp only [Int32.toInt_add, Int32.toInt_sub, Int32.toInt_mul, Int32.toInt_toInt64, Int64.toInt_add, z_m1, Int32.reduceToInt, Int64.reduceToInt, Int32.reduceToNatClampNeg, Int.bmod_def] at i_19)
      refine vB (v_X8_putsAside p_jB p_jS) (fun e_29 f_29 q_29 => ?_)
      have k_29 : ∀ a j, ¬ WM_X8_soonest P a j → e_29 a j = M0 a j := fun a j h => (q_29.1 a j (wz_M_X8_putsAside_X8_soonest h))
      have c7_29 : Int32.toInt (e_29 P 7) = Int32.toInt (M0 P 7) := congrArg Int32.toInt (q_29.1 P 7 (wc_X8_putsAside_7))
      have c8_29 : Int32.toInt (e_29 P 8) = Int32.toInt (M0 P 8) := congrArg Int32.toInt (q_29.1 P 8 (wc_X8_putsAside_8))
      have c33_29 : Int32.toInt (e_29 P 33) = Int32.toInt (M0 P 33) := congrArg Int32.toInt (q_29.1 P 33 (wc_X8_putsAside_33))
      have n_29 : nA P e_29 = nA P M0 := nA_congr (fun a j h => q_29.1 a j (wf_nA_X8_putsAside h))
      have p_jB_29 : jB P e_29 := jB.mono p_jB (fun a j h => q_29.1 a j (wf_jB_X8_putsAside h))
      obtain ⟨u0_jB_29, u1_jB_29, u2_jB_29, u3_jB_29, u4_jB_29, u5_jB_29⟩ := id p_jB_29
      have p_jS_29 : jS P e_29 := jS.mono p_jS (fun a j h => q_29.1 a j (wf_jS_X8_putsAside h))
      obtain ⟨u0_jS_29, u1_jS_29, u2_jS_29, u3_jS_29, u4_jS_29, u5_jS_29, u6_jS_29, u7_jS_29⟩ := jS.ints p_jS_29
      have p_jR_29 : jR P e_29 := jR.mono p_jR (fun a j h => q_29.1 a j (wf_jR_X8_putsAside h))
      have p_jK_29 : jK P e_29 := jK.mono p_jK (fun a j h => q_29.1 a j (wf_jK_X8_putsAside h))
      have p_jT_29 : jT P e_29 := jT.mono p_jT (fun a j h => q_29.1 a j (wf_jT_X8_putsAside h))
      obtain ⟨u0_jT_29, u1_jT_29, u2_jT_29, u3_jT_29, u4_jT_29, u5_jT_29⟩ := id p_jT_29
      have x0_29 := q_29.2
      exact T_38 _ _ _ _ _ _ _ k_29 (fun _ _ _ => rfl) x0_29 p_jB_29 p_jK_29 p_jR_29 p_jS_29 p_jT_29 (by first | omega | (simp only [Int32.toInt_add, Int32.toInt_sub, Int32.toInt_mul, Int32.toInt_toInt64, Int64.toInt_add, z_m1, Int32.reduceToInt, Int64.reduceToInt, Int32.reduceToNatClampNeg, Int.bmod_def, or_true, true_or, and_true, true_and] <;> omega)) (by first | omega | (simp only [Int32.toInt_add, Int32.toInt_sub, Int32.toInt_mul, Int32.toInt_toInt64, Int64.toInt_add, z_m1, Int32.reduceToInt, Int64.reduceToInt, Int32.reduceToNatClampNeg, Int.bmod_def, or_true, true_or, and_true, true_and] <;> omega)) (by first | omega | (simp only [Int32.toInt_add, Int32.toInt_sub, Int32.toInt_mul, Int32.toInt_toInt64, Int64.toInt_add, z_m1, Int32.reduceToInt, Int64.reduceToInt, Int32.reduceToNatClampNeg, Int.bmod_def, or_true, true_or, and_true, true_and] <;> omega))
def WM_X8_keeps (P : Nat) (a j : Nat) : Prop := (P + 4 ≤ a ∧ a < P + 5) ∨ (a = P ∧ (j = 9))
theorem h_X8_keeps_50 {P c : Nat} {M0 : zMt} (p_jB : jB P M0) (p_jS : jS P M0) (hc : M0 P 9 = nI c) (hc7 : c ≤ 7) (hK : ∀ k : Nat, k < c → jRow (fun j => M0 (P + 4) (82 * k + j)) (M0 P 7).toInt (M0 P 8).toInt) : ∃ r, D_X8_keeps_50 P M0 = some r ∧ ((∀ a j, ¬ (a = P + 4 ∨ (a = P ∧ j = 9)) → r a j = M0 a j) ∧ (jK P r) ∧ r P 9 = nI (c + 1)) := by
  have hH := p_jB.2.2.2.1
  have L : ∀ (u k : Nat) (M : zMt), k ≤ 82 → 82 - k < u → (∀ a j, ¬ a = P + 4 → M a j = M0 a j) → (∀ j, j < 82 * c → M (P + 4) j = M0 (P + 4) j) → (∀ j, j < k → M (P + 4) (82 * c + j) = M0 (P + 1) j) → ∃ r, D_X8_keeps_52 P u (nI k) M = some r ∧ ((∀ a j, ¬ (a = P + 4 ∨ (a = P ∧ j = 9)) → r a j = M0 a j) ∧ (jK P r) ∧ r P 9 = nI (c + 1)) := by
    intro u
    induction u with
    | zero => intro k M h1 h2; omega
    | succ u ih =>
      intro k M hk hu kk h1 h2
      have e9 : M P 9 = nI c := by rw [kk P 9 (by omega)]; exact hc
      rw [D_X8_keeps_52]
      refine vIf (fun h => ?_) (fun h => ?_)
      · have h82 : 82 ≤ k := (nI_leI (by decide) (by omega)).mp h
        rw [e9, nI_1]
        refine ⟨_, rfl, fun a j h => (zu_ne (by omega)).trans (kk a j (by omega)), ?_, zu_eq⟩
        intro x hx
        rw [zu_eq, nI_toInt (by omega)] at hx
        rw [zu_ne (by omega), zu_ne (by omega), kk P 7 (by omega), kk P 8 (by omega)]
        have e : ∀ j, zu M P 9 (nI (c + 1)) (P + 4) j = M (P + 4) j := fun j => zu_ne (by omega)
        by_cases q : x = c
        · subst q
          exact jRow.congr p_jS hH (fun j hj => by rw [e]; exact h2 j (by omega))
        · exact jRow.congr (hK x (by omega)) hH (fun j hj => by rw [e]; exact h1 _ (by omega))
      · have hlt : k < 82 := Nat.not_le.mp (fun q => h ((nI_leI (by decide) (by omega)).mpr q))
        have hck : (nI k).toNatClampNeg = k := nI_clamp (by omega)
        have em : (82 : Int32) * nI c + nI k = nI (82 * c + k) := by
          rw [show (82 : Int32) * nI c = nI (82 * c) from (by rw [show (82 : Int32) = nI 82 from rfl]; unfold nI; rw [Int32.ofNat_mul]), nI_add]
        refine vI (vp_in_nI hlt (by decide)) ?_
        rw [e9, em, nI_clamp (n := 82 * c + k) (by omega), hck]
        refine vI (vp_in_nI (by omega) (by decide)) ?_
        rw [nI_1]
        refine ih (k + 1) _ (by omega) (by omega) (fun a j h => (zu_ne (by omega)).trans (kk a j h)) (fun j hj => (zu_ne (by omega)).trans (h1 j hj)) (fun j hj => ?_)
        by_cases q : j = k
        · subst q
          rw [zu_eq]
          exact kk (P + 1) j (by omega)
        · rw [zu_ne (by omega)]
          exact h2 j (by omega)
  unfold D_X8_keeps_50
  exact L zFu 0 M0 (by omega) (by unfold zFu; omega) (fun _ _ _ => rfl) (fun _ _ => rfl) (fun j hj => absurd hj (Nat.not_lt_zero j))
theorem v_X8_keeps {P : Nat} {M0 : zMt} (p_jB : jB P M0) (p_jS : jS P M0) (p_jK : jK P M0) (p_jT : jT P M0) : ∃ r, D_X8_keeps P M0 = some r ∧ ((∀ a j, ¬ WM_X8_keeps P a j → r a j = M0 a j) ∧ (jK P r) ∧ (jT P r)) := by
  obtain ⟨t1, t2, t3, t4, t5, t6⟩ := id p_jT
  obtain ⟨c, hc, hct⟩ : ∃ c : Nat, M0 P 9 = nI c ∧ (c : Int) = (M0 P 9).toInt := ⟨(M0 P 9).toInt.toNat, z_toN t1, by omega⟩
  have fin : ∀ (r M1 : zMt) (c1 : Nat), c1 ≤ 7 → (∀ a j, ¬ (a = P + 4 ∨ (a = P ∧ j = 9)) → M1 a j = M0 a j) → ((∀ a j, ¬ (a = P + 4 ∨ (a = P ∧ j = 9)) → r a j = M1 a j) ∧ (jK P r) ∧ r P 9 = nI (c1 + 1)) → ((∀ a j, ¬ WM_X8_keeps P a j → r a j = M0 a j) ∧ (jK P r) ∧ (jT P r)) := by
    intro r M1 c1 h1 h2 h3
    refine ⟨fun a j h => (h3.1 a j (by unfold WM_X8_keeps at h; omega)).trans (h2 a j (by unfold WM_X8_keeps at h; omega)), h3.2.1, ?_⟩
    unfold jT
    rw [h3.2.2, h3.1 P 11 (by omega), h3.1 P 64 (by omega), h2 P 11 (by omega), h2 P 64 (by omega), nI_toInt (by omega)]
    exact ⟨by omega, by omega, t3, t4, t5, t6⟩
  unfold D_X8_keeps
  refine vIf (fun h => ?_) (fun h => ?_)
  · have hc8 : c = 8 := by
      rw [hc] at h
      have := congrArg Int32.toInt h
      rw [nI_toInt (by omega)] at this
      have e8 : (8 : Int32).toInt = 8 := by decide
      omega
    subst hc8
    have hH := p_jB.2.2.2.1
    have L : ∀ (u k : Nat) (M : zMt), 82 ≤ k → k ≤ 656 → 656 - k < u → (∀ a j, ¬ a = P + 4 → M a j = M0 a j) → (∀ j, j + 82 < k → M (P + 4) j = M0 (P + 4) (j + 82)) → (∀ j, k ≤ j + 82 → M (P + 4) j = M0 (P + 4) j) → ∃ r, D_X8_keeps_12 P u (nI k) M = some r ∧ ((∀ a j, ¬ WM_X8_keeps P a j → r a j = M0 a j) ∧ (jK P r) ∧ (jT P r)) := by
      intro u
      induction u with
      | zero => intro k M h1 h2; omega
      | succ u ih =>
        intro k M hk0 hk hu kk h1 h2
        rw [D_X8_keeps_12]
        refine vIf (fun h => ?_) (fun h => ?_)
        · have h656 : 656 ≤ k := (nI_leI (by decide) (by omega)).mp h
          have e9 : M P 9 = nI 8 := by rw [kk P 9 (by omega)]; exact hc
          rw [e9, show nI 8 - 1 = nI 7 from nI_pred 7]
          have hB1 : jB P (zu M P 9 (nI 7)) := p_jB.mono (fun a j h => (zu_ne (by omega)).trans (kk a j (by omega)))
          have hS1 : jS P (zu M P 9 (nI 7)) := p_jS.mono (fun a j h => (zu_ne (by omega)).trans (kk a j (by omega)))
          obtain ⟨r, r1, r2⟩ := h_X8_keeps_50 (c := 7) hB1 hS1 zu_eq (by omega) (fun x hx => by
            rw [zu_ne (by omega), zu_ne (by omega), kk P 7 (by omega), kk P 8 (by omega)]
            refine jRow.congr (p_jK (x + 1) (by omega)) hH (fun j hj => ?_)
            show zu M P 9 (nI 7) (P + 4) (82 * x + j) = M0 (P + 4) (82 * (x + 1) + j)
            rw [zu_ne (by omega), h1 _ (by omega), show 82 * x + j + 82 = 82 * (x + 1) + j by omega])
          exact ⟨r, r1, fin r _ 7 (by omega) (fun a j h => (zu_ne (by omega)).trans (kk a j (by omega))) r2⟩
        · have hlt : k < 656 := Nat.not_le.mp (fun q => h ((nI_leI (by decide) (by omega)).mpr q))
          obtain ⟨y, rfl⟩ : ∃ y, k = y + 82 := ⟨k - 82, by omega⟩
          have es : nI (y + 82) - 82 = nI y := Int32.toInt_inj.mp (by
            rw [Int32.toInt_sub, nI_toInt (by omega), nI_toInt (by omega), show (82 : Int32).toInt = 82 by decide, Int.bmod_def]
            omega)
          refine vI (vp_in_nI hlt (by decide)) ?_
          rw [es]
          refine vI (vp_in_nI (by omega) (by decide)) ?_
          rw [nI_clamp (n := y) (by omega), nI_clamp (n := y + 82) (by omega), nI_1]
          refine ih (y + 82 + 1) _ (by omega) (by omega) (by omega) (fun a j h => (zu_ne (by omega)).trans (kk a j h)) (fun j hj => ?_) (fun j hj => (zu_ne (by omega)).trans (h2 j (by omega)))
          by_cases q : j = y
          · subst q
            rw [zu_eq]
            exact h2 _ (by omega)
          · rw [zu_ne (by omega)]
            exact h1 j (by omega)
    exact L zFu 82 M0 (by omega) (by omega) (by unfold zFu; omega) (fun _ _ _ => rfl) (fun j hj => by omega) (fun _ _ => rfl)
  · have hc7 : c ≤ 7 := by
      by_cases q : c = 8
      · subst q; exact absurd hc h
      · omega
    obtain ⟨r, r1, r2⟩ := h_X8_keeps_50 (c := c) p_jB p_jS hc hc7 (fun x hx => p_jK x (by omega))
    exact ⟨r, r1, fin r M0 c hc7 (fun _ _ _ => rfl) r2⟩
def WM_X8_undo (P : Nat) (a j : Nat) : Prop := (P + 1 ≤ a ∧ a < P + 2) ∨ (a = P ∧ (j = 6 ∨ j = 9 ∨ j = 12))
theorem v_X8_undo {P : Nat} {M0 : zMt} (p_jB : jB P M0) (p_jS : jS P M0) (p_jR : jR P M0) (p_jK : jK P M0) (p_jT : jT P M0) : ∃ r, D_X8_undo P M0 = some r ∧ ((∀ a j, ¬ WM_X8_undo P a j → r.2 a j = M0 a j) ∧ (jB P r.2) ∧ (jS P r.2) ∧ (jR P r.2) ∧ (jK P r.2) ∧ (jT P r.2)) := by
  obtain ⟨t1, t2, t3, t4, t5, t6⟩ := id p_jT
  have hH := p_jB.2.2.2.1
  obtain ⟨c, hc, hct⟩ : ∃ c : Nat, M0 P 9 = nI c ∧ (c : Int) = (M0 P 9).toInt := ⟨(M0 P 9).toInt.toNat, z_toN t1, by omega⟩
  unfold D_X8_undo
  refine vIf (fun h => ?_) (fun h => ?_)
  · refine vB v_X8_refuse (fun e f q => ⟨_, rfl, ?_⟩)
    exact ⟨fun a j h => q a j (by unfold WM_X8_refuse; unfold WM_X8_undo at h; omega), p_jB.mono (fun a j h => q a j (by unfold WM_X8_refuse; omega)), p_jS.mono (fun a j h => q a j (by unfold WM_X8_refuse; omega)), p_jR.mono (fun a j h => q a j (by unfold WM_X8_refuse; omega)), p_jK.mono (fun a j h => q a j (by unfold WM_X8_refuse; omega)), p_jT.mono (fun a j h => q a j (by unfold WM_X8_refuse; omega))⟩
  · obtain ⟨d, rfl⟩ : ∃ d, c = d + 1 := by
      refine ⟨c - 1, ?_⟩
      have : c ≠ 0 := fun q => h (by rw [hc, q]; rfl)
      omega
    rw [hc, nI_pred]
    refine vLm (W := fun a j => a = P ∧ j = 9) (M0 := M0) (fun a j h => zu_ne (by omega)) (fun M1 f1 k1 => ?_)
    have e9 : M1 P 9 = nI d := by rw [← f1, zu_eq]
    have L : ∀ (u k : Nat) (M : zMt), k ≤ 82 → 82 - k < u → (∀ a j, ¬ a = P + 1 → M a j = M1 a j) → (∀ j, j < k → M (P + 1) j = M1 (P + 4) (82 * d + j)) → ∃ r, D_X8_undo_25 P u (nI k) M = some r ∧ ((∀ a j, ¬ WM_X8_undo P a j → r.2 a j = M0 a j) ∧ (jB P r.2) ∧ (jS P r.2) ∧ (jR P r.2) ∧ (jK P r.2) ∧ (jT P r.2)) := by
      intro u
      induction u with
      | zero => intro k M h1 h2; omega
      | succ u ih =>
        intro k M hk hu kk h1
        have e9m : M P 9 = nI d := by rw [kk P 9 (by omega)]; exact e9
        rw [D_X8_undo_25]
        refine vIf (fun h => ?_) (fun h => ?_)
        · have h82 : 82 ≤ k := (nI_leI (by decide) (by omega)).mp h
          refine vB v_X8_gives (fun e f q => ⟨_, rfl, ?_⟩)
          have g : ∀ a j, ¬ (a = P + 1 ∨ (a = P ∧ (j = 6 ∨ j = 9 ∨ j = 12))) → e.2 a j = M0 a j := fun a j h => (q a j (by unfold WM_X8_gives; omega)).trans ((kk a j (by omega)).trans (k1 a j (by omega)))
          have g9 : e.2 P 9 = nI d := (q P 9 (by unfold WM_X8_gives; omega)).trans e9m
          have gK : ∀ j, e.2 (P + 4) j = M0 (P + 4) j := fun j => g (P + 4) j (by omega)
          refine ⟨fun a j h => g a j (by unfold WM_X8_undo at h; omega), p_jB.mono (fun a j h => g a j (by omega)), ?_, p_jR.mono (fun a j h => g a j (by omega)), ?_, ?_⟩
          · show jRow (e.2 (P + 1)) (e.2 P 7).toInt (e.2 P 8).toInt
            rw [g P 7 (by omega), g P 8 (by omega)]
            refine jRow.congr (p_jK d (by omega)) hH (fun j hj => ?_)
            show e.2 (P + 1) j = M0 (P + 4) (82 * d + j)
            rw [q (P + 1) j (by unfold WM_X8_gives; omega), h1 j (by omega)]
            exact k1 (P + 4) _ (by omega)
          · intro x hx
            show jRow (fun j => e.2 (P + 4) (82 * x + j)) (e.2 P 7).toInt (e.2 P 8).toInt
            have hx2 : (x : Int) < (e.2 P 9).toInt := hx
            rw [g9, nI_toInt (by omega)] at hx2
            rw [g P 7 (by omega), g P 8 (by omega)]
            exact jRow.congr (p_jK x (by omega)) hH (fun j hj => gK _)
          · show jT P e.2
            unfold jT
            rw [g9, g P 11 (by omega), g P 64 (by omega), nI_toInt (by omega)]
            exact ⟨by omega, by omega, t3, t4, t5, t6⟩
        · have hlt : k < 82 := Nat.not_le.mp (fun q => h ((nI_leI (by decide) (by omega)).mpr q))
          have hck : (nI k).toNatClampNeg = k := nI_clamp (by omega)
          have em : (82 : Int32) * nI d + nI k = nI (82 * d + k) := by
            rw [show (82 : Int32) * nI d = nI (82 * d) from (by rw [show (82 : Int32) = nI 82 from rfl]; unfold nI; rw [Int32.ofNat_mul]), nI_add]
          rw [e9m, em, nI_clamp (n := 82 * d + k) (by omega), hck]
          refine vI (vp_in_nI (by omega) (by decide)) (vI (vp_in_nI hlt (by decide)) ?_)
          rw [nI_1]
          refine ih (k + 1) _ (by omega) (by omega) (fun a j h => (zu_ne (by omega)).trans (kk a j h)) (fun j hj => ?_)
          by_cases q : j = k
          · subst q
            rw [zu_eq]
            exact kk (P + 4) _ (by omega)
          · rw [zu_ne (by omega)]
            exact h1 j (by omega)
    exact L zFu 0 M1 (by omega) (by unfold zFu; omega) (fun _ _ _ => rfl) (fun j hj => absurd hj (Nat.not_lt_zero j))
def WM_X8_draw (P : Nat) (a j : Nat) : Prop := (P + 1 ≤ a ∧ a < P + 2) ∨ (P + 4 ≤ a ∧ a < P + 5) ∨ (P + 11 ≤ a ∧ a < P + 23) ∨ (P + 30 ≤ a ∧ a < P + 31) ∨ (a = P ∧ (j = 6 ∨ j = 9 ∨ j = 12 ∨ j = 33))
def WN_X8_draw (P : Nat) (a j : Nat) : Prop := (a = P ∧ (j = 46))
theorem wq_X8_draw_M1_r {P a j : Nat} (h : ¬ WM_X8_draw P a j) : ¬ a = P + 1 := by unfold WM_X8_draw at h; omega
theorem wf_jO_M1_r {P a j : Nat} (h : ((a = P ∧ j = 33) ∨ a = P + 18)) : ¬ a = P + 1 := by omega
theorem wz_M_X8_gives_X8_draw {P a j : Nat} (h : ¬ WM_X8_draw P a j) : ¬ WM_X8_gives P a j := by unfold WM_X8_gives; unfold WM_X8_draw at h; omega
theorem wz_M_X8_refuse_X8_draw {P a j : Nat} (h : ¬ WM_X8_draw P a j) : ¬ WM_X8_refuse P a j := by unfold WM_X8_refuse; unfold WM_X8_draw at h; omega
theorem wz_M_X8_keeps_X8_draw {P a j : Nat} (h : ¬ WM_X8_draw P a j) : ¬ WM_X8_keeps P a j := by unfold WM_X8_keeps; unfold WM_X8_draw at h; omega
theorem wc_X8_keeps_7 {P : Nat} : ¬ WM_X8_keeps P P 7 := by unfold WM_X8_keeps; omega
theorem wc_X8_keeps_8 {P : Nat} : ¬ WM_X8_keeps P P 8 := by unfold WM_X8_keeps; omega
theorem wc_X8_keeps_33 {P : Nat} : ¬ WM_X8_keeps P P 33 := by unfold WM_X8_keeps; omega
theorem wf_nA_X8_keeps {P a j : Nat} (h : (a = P + 1 ∨ (a = P ∧ j = 8))) : ¬ WM_X8_keeps P a j := by unfold WM_X8_keeps; omega
theorem wf_jB_X8_keeps {P a j : Nat} (h : (a = P ∧ (j = 7 ∨ j = 8 ∨ j = 33))) : ¬ WM_X8_keeps P a j := by unfold WM_X8_keeps; omega
theorem wf_jS_X8_keeps {P a j : Nat} (h : (a = P + 1 ∨ (a = P ∧ (j = 7 ∨ j = 8)))) : ¬ WM_X8_keeps P a j := by unfold WM_X8_keeps; omega
theorem wf_jR_X8_keeps {P a j : Nat} (h : a = P + 19) : ¬ WM_X8_keeps P a j := by unfold WM_X8_keeps; omega
theorem wz_M_X8_goesYear_X8_draw {P a j : Nat} (h : ¬ WM_X8_draw P a j) : ¬ WM_X8_goesYear P a j := by unfold WM_X8_goesYear; unfold WM_X8_draw at h; omega
theorem wz_N_X8_goesYear_X8_draw {P a j : Nat} (h : ¬ WN_X8_draw P a j) : ¬ WN_X8_goesYear P a j := by unfold WN_X8_goesYear; unfold WN_X8_draw at h; omega
set_option maxRecDepth 100000 in
set_option maxHeartbeats 4000000 in
theorem v_X8_draw {P : Nat} {v0 : Int32} {M0 : zMt} {N0 : zNt}  (p_jB : jB P M0) (p_jS : jS P M0) (p_jR : jR P M0) (p_jK : jK P M0) (p_jT : jT P M0) : ∃ r, D_X8_draw P v0 M0 N0 = some r ∧ ((∀ a j, ¬ WM_X8_draw P a j → r.2.1 a j = M0 a j) ∧ (∀ a j, ¬ WN_X8_draw P a j → r.2.2 a j = N0 a j) ∧ ((jB P r.2.1) ∧ (jS P r.2.1) ∧ (jR P r.2.1) ∧ (jK P r.2.1) ∧ (jT P r.2.1))) := by
  obtain ⟨u0_jB, u1_jB, u2_jB, u3_jB, u4_jB, u5_jB⟩ := id p_jB
  obtain ⟨u0_jS, u1_jS, u2_jS, u3_jS, u4_jS, u5_jS, u6_jS, u7_jS⟩ := jS.ints p_jS
  obtain ⟨u0_jT, u1_jT, u2_jT, u3_jT, u4_jT, u5_jT⟩ := id p_jT
  have TL_24 : ∀ u : Nat, ∀ (x2_24 : Int32) (M_24 : zMt) (N_24 : zNt), (∀ a j, ¬ WM_X8_draw P a j → M_24 a j = M0 a j) → (∀ a j, ¬ WN_X8_draw P a j → N_24 a j = N0 a j) → (jB P M_24) → (jH P M_24) → (jK P M_24) → (jL P M_24) → (jO P M_24) → (jR P M_24) → (jS P M_24) → (jT P M_24) → (0 ≤ Int32.toInt x2_24) → (Int32.toInt x2_24 ≤ 10) → (2147483648 - Int32.toInt x2_24).toNat < u → ∃ r, D_X8_draw_24 P u x2_24 M_24 N_24 = some r ∧ ((∀ a j, ¬ WM_X8_draw P a j → r.2.1 a j = M0 a j) ∧ (∀ a j, ¬ WN_X8_draw P a j → r.2.2 a j = N0 a j) ∧ ((jB P r.2.1) ∧ (jS P r.2.1) ∧ (jR P r.2.1) ∧ (jK P r.2.1) ∧ (jT P r.2.1))) := by
    intro u
    induction u with
    | zero => intro x2_24 M_24 N_24 k_24 kn_24 p_jB_24 p_jH_24 p_jK_24 p_jL_24 p_jO_24 p_jR_24 p_jS_24 p_jT_24 f0_24 f1_24 hm_24; exact absurd hm_24 (Nat.not_lt_zero _)
    | succ u_24 ih_24 =>
      intro x2_24 M_24 N_24 k_24 kn_24 p_jB_24 p_jH_24 p_jK_24 p_jL_24 p_jO_24 p_jR_24 p_jS_24 p_jT_24 f0_24 f1_24 hm_24
      obtain ⟨u0_jB_24, u1_jB_24, u2_jB_24, u3_jB_24, u4_jB_24, u5_jB_24⟩ := id p_jB_24
      obtain ⟨u0_jS_24, u1_jS_24, u2_jS_24, u3_jS_24, u4_jS_24, u5_jS_24, u6_jS_24, u7_jS_24⟩ := jS.ints p_jS_24
      obtain ⟨u0_jT_24, u1_jT_24, u2_jT_24, u3_jT_24, u4_jT_24, u5_jT_24⟩ := id p_jT_24
      rw [D_X8_draw_24]
      refine vIf (fun h_29 => ?_) (fun h_29 => ?_)
      · have i_29 := Int32.le_iff_toInt_le.mp h_29
        (try simp only [Int32.toInt_add, Int32.toInt_sub, Int32.toInt_mul, Int32.toInt_toInt64, Int64.toInt_add, z_m1, Int32.reduceToInt, Int64.reduceToInt, Int32.reduceToNatClampNeg, Int.bmod_def] at i_29)
        refine vI (vp_of (by first | omega | (simp only [Int32.toInt_add, Int32.toInt_sub, Int32.toInt_mul, Int32.toInt_toInt64, Int64.toInt_add, z_m1, Int32.reduceToInt, Int64.reduceToInt, Int32.reduceToNatClampNeg, Int.bmod_def, or_true, true_or, and_true, true_and] <;> omega)) (by first | omega | (simp only [Int32.toInt_add, Int32.toInt_sub, Int32.toInt_mul, Int32.toInt_toInt64, Int64.toInt_add, z_m1, Int32.reduceToInt, Int64.reduceToInt, Int32.reduceToNatClampNeg, Int.bmod_def, or_true, true_or, and_true, true_and] <;> omega))) ?_
        refine vI (vp_of (by first | omega | (simp only [Int32.toInt_add, Int32.toInt_sub, Int32.toInt_mul, Int32.toInt_toInt64, Int64.toInt_add, z_m1, Int32.reduceToInt, Int64.reduceToInt, Int32.reduceToNatClampNeg, Int.bmod_def, or_true, true_or, and_true, true_and] <;> omega)) (by first | omega | (simp only [Int32.toInt_add, Int32.toInt_sub, Int32.toInt_mul, Int32.toInt_toInt64, Int64.toInt_add, z_m1, Int32.reduceToInt, Int64.reduceToInt, Int32.reduceToNatClampNeg, Int.bmod_def, or_true, true_or, and_true, true_and] <;> omega))) ?_
        refine vLm (W := WM_X8_draw P) (fun a j h => (zu_ne (fun z => wq_X8_draw_M1_r h z.1)).trans (k_24 a j h)) (fun M_62 f_62 k_62 => ?_)
        have c7_62 : Int32.toInt (M_62 P 7) = Int32.toInt (M_24 P 7) := congrArg Int32.toInt ((congrFun (congrFun f_62.symm P) 7).trans (zu_ne (fun z => wq_pne0 (by decide) z.1)))
        have c8_62 : Int32.toInt (M_62 P 8) = Int32.toInt (M_24 P 8) := congrArg Int32.toInt ((congrFun (congrFun f_62.symm P) 8).trans (zu_ne (fun z => wq_pne0 (by decide) z.1)))
        have c33_62 : Int32.toInt (M_62 P 33) = Int32.toInt (M_24 P 33) := congrArg Int32.toInt ((congrFun (congrFun f_62.symm P) 33).trans (zu_ne (fun z => wq_pne0 (by decide) z.1)))
        have p_jB_62 : jB P M_62 := jB.mono p_jB_24 (fun a j h => (congrFun (congrFun f_62.symm a) j).trans (zu_ne (fun z => wf_jB_M1_r h z.1)))
        obtain ⟨u0_jB_62, u1_jB_62, u2_jB_62, u3_jB_62, u4_jB_62, u5_jB_62⟩ := id p_jB_62
        have p_jH_62 : jH P M_62 := jH.mono p_jH_24 (fun a j h => (congrFun (congrFun f_62.symm a) j).trans (zu_ne (fun z => wf_jH_M1_r h z.1)))
        have p_jK_62 : jK P M_62 := jK.mono p_jK_24 (fun a j h => (congrFun (congrFun f_62.symm a) j).trans (zu_ne (fun z => wf_jK_M1_r h z.1)))
        have p_jL_62 : jL P M_62 := jL.mono p_jL_24 (fun a j h => (congrFun (congrFun f_62.symm a) j).trans (zu_ne (fun z => wf_jL_M1_r h z.1)))
        have p_jO_62 : jO P M_62 := jO.mono p_jO_24 (fun a j h => (congrFun (congrFun f_62.symm a) j).trans (zu_ne (fun z => wf_jO_M1_r h z.1)))
        have p_jR_62 : jR P M_62 := jR.mono p_jR_24 (fun a j h => (congrFun (congrFun f_62.symm a) j).trans (zu_ne (fun z => wf_jR_M1_r h z.1)))
        have p_jS_62 : jS P M_62 := jS.put p_jS_24 (by omega) f_62 (Or.inr (Or.inr (Or.inr (Or.inr (Or.inr (by decide))))))
        obtain ⟨u0_jS_62, u1_jS_62, u2_jS_62, u3_jS_62, u4_jS_62, u5_jS_62, u6_jS_62, u7_jS_62⟩ := jS.ints p_jS_62
        have p_jT_62 : jT P M_62 := jT.mono p_jT_24 (fun a j h => (congrFun (congrFun f_62.symm a) j).trans (zu_ne (fun z => wf_jT_M1_r h z.1)))
        obtain ⟨u0_jT_62, u1_jT_62, u2_jT_62, u3_jT_62, u4_jT_62, u5_jT_62⟩ := id p_jT_62
        refine vB (v_X8_givenTags p_jB_62) (fun e_65 f_65 q_65 => ?_)
        refine vB (v_X8_gives) (fun e_68 f_68 q_68 => ?_)
        have k_68 : ∀ a j, ¬ WM_X8_draw P a j → e_68.2 a j = M0 a j := fun a j h => (q_68 a j (wz_M_X8_gives_X8_draw h)).trans (k_62 a j h)
        have c7_68 : Int32.toInt (e_68.2 P 7) = Int32.toInt (M_62 P 7) := congrArg Int32.toInt (q_68 P 7 (wc_X8_gives_7))
        have c8_68 : Int32.toInt (e_68.2 P 8) = Int32.toInt (M_62 P 8) := congrArg Int32.toInt (q_68 P 8 (wc_X8_gives_8))
        have c33_68 : Int32.toInt (e_68.2 P 33) = Int32.toInt (M_62 P 33) := congrArg Int32.toInt (q_68 P 33 (wc_X8_gives_33))
        have n_68 : nA P e_68.2 = nA P M_62 := nA_congr (fun a j h => q_68 a j (wf_nA_X8_gives h))
        have p_jB_68 : jB P e_68.2 := jB.mono p_jB_62 (fun a j h => q_68 a j (wf_jB_X8_gives h))
        obtain ⟨u0_jB_68, u1_jB_68, u2_jB_68, u3_jB_68, u4_jB_68, u5_jB_68⟩ := id p_jB_68
        have p_jH_68 : jH P e_68.2 := jH.mono p_jH_62 (fun a j h => q_68 a j (wf_jH_X8_gives h))
        have p_jK_68 : jK P e_68.2 := jK.mono p_jK_62 (fun a j h => q_68 a j (wf_jK_X8_gives h))
        have p_jL_68 : jL P e_68.2 := jL.mono p_jL_62 (fun a j h => q_68 a j (wf_jL_X8_gives h))
        have p_jO_68 : jO P e_68.2 := jO.mono p_jO_62 (fun a j h => q_68 a j (wf_jO_X8_gives h))
        have p_jR_68 : jR P e_68.2 := jR.mono p_jR_62 (fun a j h => q_68 a j (wf_jR_X8_gives h))
        have p_jS_68 : jS P e_68.2 := jS.mono p_jS_62 (fun a j h => q_68 a j (wf_jS_X8_gives h))
        obtain ⟨u0_jS_68, u1_jS_68, u2_jS_68, u3_jS_68, u4_jS_68, u5_jS_68, u6_jS_68, u7_jS_68⟩ := jS.ints p_jS_68
        have p_jT_68 : jT P e_68.2 := jT.mono p_jT_62 (fun a j h => q_68 a j (wf_jT_X8_gives h))
        obtain ⟨u0_jT_68, u1_jT_68, u2_jT_68, u3_jT_68, u4_jT_68, u5_jT_68⟩ := id p_jT_68
        exact ⟨_, rfl, k_68, kn_24, ⟨p_jB_68, p_jS_68, p_jR_68, p_jK_68, p_jT_68⟩⟩
      · have i_29 := Int32.lt_iff_toInt_lt.mp (Int32.not_le.mp h_29)
        (try simp only [Int32.toInt_add, Int32.toInt_sub, Int32.toInt_mul, Int32.toInt_toInt64, Int64.toInt_add, z_m1, Int32.reduceToInt, Int64.reduceToInt, Int32.reduceToNatClampNeg, Int.bmod_def] at i_29)
        refine vB (v_X8_unitNow p_jB_24 p_jH_24 p_jR_24 (by first | omega | (simp only [Int32.toInt_add, Int32.toInt_sub, Int32.toInt_mul, Int32.toInt_toInt64, Int64.toInt_add, z_m1, Int32.reduceToInt, Int64.reduceToInt, Int32.reduceToNatClampNeg, Int.bmod_def, or_true, true_or, and_true, true_and] <;> omega)) (by first | omega | (simp only [Int32.toInt_add, Int32.toInt_sub, Int32.toInt_mul, Int32.toInt_toInt64, Int64.toInt_add, z_m1, Int32.reduceToInt, Int64.reduceToInt, Int32.reduceToNatClampNeg, Int.bmod_def, or_true, true_or, and_true, true_and] <;> omega))) (fun e_42 f_42 q_42 => ?_)
        obtain ⟨x0_42, x1_42⟩ := q_42
        (try simp only [Int32.toInt_add, Int32.toInt_sub, Int32.toInt_mul, Int32.toInt_toInt64, Int64.toInt_add, z_m1, Int32.reduceToInt, Int64.reduceToInt, Int32.reduceToNatClampNeg, Int.bmod_def] at x0_42)
        (try simp only [Int32.toInt_add, Int32.toInt_sub, Int32.toInt_mul, Int32.toInt_toInt64, Int64.toInt_add, z_m1, Int32.reduceToInt, Int64.reduceToInt, Int32.reduceToNatClampNeg, Int.bmod_def] at x1_42)
        refine vI (vp_of (by first | omega | (simp only [Int32.toInt_add, Int32.toInt_sub, Int32.toInt_mul, Int32.toInt_toInt64, Int64.toInt_add, z_m1, Int32.reduceToInt, Int64.reduceToInt, Int32.reduceToNatClampNeg, Int.bmod_def, or_true, true_or, and_true, true_and] <;> omega)) (by first | omega | (simp only [Int32.toInt_add, Int32.toInt_sub, Int32.toInt_mul, Int32.toInt_toInt64, Int64.toInt_add, z_m1, Int32.reduceToInt, Int64.reduceToInt, Int32.reduceToNatClampNeg, Int.bmod_def, or_true, true_or, and_true, true_and] <;> omega))) ?_
        refine vLm (W := WM_X8_draw P) (fun a j h => (zu_ne (fun z => wq_X8_draw_M1_r h z.1)).trans (k_24 a j h)) (fun M_45 f_45 k_45 => ?_)
        have c7_45 : Int32.toInt (M_45 P 7) = Int32.toInt (M_24 P 7) := congrArg Int32.toInt ((congrFun (congrFun f_45.symm P) 7).trans (zu_ne (fun z => wq_pne0 (by decide) z.1)))
        have c8_45 : Int32.toInt (M_45 P 8) = Int32.toInt (M_24 P 8) := congrArg Int32.toInt ((congrFun (congrFun f_45.symm P) 8).trans (zu_ne (fun z => wq_pne0 (by decide) z.1)))
        have c33_45 : Int32.toInt (M_45 P 33) = Int32.toInt (M_24 P 33) := congrArg Int32.toInt ((congrFun (congrFun f_45.symm P) 33).trans (zu_ne (fun z => wq_pne0 (by decide) z.1)))
        have p_jB_45 : jB P M_45 := jB.mono p_jB_24 (fun a j h => (congrFun (congrFun f_45.symm a) j).trans (zu_ne (fun z => wf_jB_M1_r h z.1)))
        obtain ⟨u0_jB_45, u1_jB_45, u2_jB_45, u3_jB_45, u4_jB_45, u5_jB_45⟩ := id p_jB_45
        have p_jH_45 : jH P M_45 := jH.mono p_jH_24 (fun a j h => (congrFun (congrFun f_45.symm a) j).trans (zu_ne (fun z => wf_jH_M1_r h z.1)))
        have p_jK_45 : jK P M_45 := jK.mono p_jK_24 (fun a j h => (congrFun (congrFun f_45.symm a) j).trans (zu_ne (fun z => wf_jK_M1_r h z.1)))
        have p_jL_45 : jL P M_45 := jL.mono p_jL_24 (fun a j h => (congrFun (congrFun f_45.symm a) j).trans (zu_ne (fun z => wf_jL_M1_r h z.1)))
        have p_jO_45 : jO P M_45 := jO.mono p_jO_24 (fun a j h => (congrFun (congrFun f_45.symm a) j).trans (zu_ne (fun z => wf_jO_M1_r h z.1)))
        have p_jR_45 : jR P M_45 := jR.mono p_jR_24 (fun a j h => (congrFun (congrFun f_45.symm a) j).trans (zu_ne (fun z => wf_jR_M1_r h z.1)))
        have p_jS_45 : jS P M_45 := jS.put p_jS_24 (by omega) f_45 (Or.inr (Or.inr (Or.inr (Or.inr (Or.inr (by have h1 := z_cl (x := (72 : Int32) + x2_24) (by first | omega | (simp only [Int32.toInt_add, Int32.toInt_sub, Int32.toInt_mul, Int32.toInt_toInt64, Int64.toInt_add, z_m1, Int32.reduceToInt, Int64.reduceToInt, Int32.reduceToNatClampNeg, Int.bmod_def, or_true, true_or, and_true, true_and] <;> omega)); have h2 : 72 ≤ Int32.toInt ((72 : Int32) + x2_24) := (by first | omega | (simp only [Int32.toInt_add, Int32.toInt_sub, Int32.toInt_mul, Int32.toInt_toInt64, Int64.toInt_add, z_m1, Int32.reduceToInt, Int64.reduceToInt, Int32.reduceToNatClampNeg, Int.bmod_def, or_true, true_or, and_true, true_and] <;> omega)); omega))))))
        obtain ⟨u0_jS_45, u1_jS_45, u2_jS_45, u3_jS_45, u4_jS_45, u5_jS_45, u6_jS_45, u7_jS_45⟩ := jS.ints p_jS_45
        have p_jT_45 : jT P M_45 := jT.mono p_jT_24 (fun a j h => (congrFun (congrFun f_45.symm a) j).trans (zu_ne (fun z => wf_jT_M1_r h z.1)))
        obtain ⟨u0_jT_45, u1_jT_45, u2_jT_45, u3_jT_45, u4_jT_45, u5_jT_45⟩ := id p_jT_45
        exact ih_24 _ _ _ k_45 kn_24 p_jB_45 p_jH_45 p_jK_45 p_jL_45 p_jO_45 p_jR_45 p_jS_45 p_jT_45 (by first | omega | (simp only [Int32.toInt_add, Int32.toInt_sub, Int32.toInt_mul, Int32.toInt_toInt64, Int64.toInt_add, z_m1, Int32.reduceToInt, Int64.reduceToInt, Int32.reduceToNatClampNeg, Int.bmod_def, or_true, true_or, and_true, true_and] <;> omega)) (by first | omega | (simp only [Int32.toInt_add, Int32.toInt_sub, Int32.toInt_mul, Int32.toInt_toInt64, Int64.toInt_add, z_m1, Int32.reduceToInt, Int64.reduceToInt, Int32.reduceToNatClampNeg, Int.bmod_def, or_true, true_or, and_true, true_and] <;> omega)) (z_up1 (by first | assumption | exact z_lt (by assumption) | exact z_lt2 (by assumption) | exact z_lt3 (by assumption) (by first | assumption | decide)) hm_24)
  have T_24 : ∀ (x2_24 : Int32) (M_24 : zMt) (N_24 : zNt), (∀ a j, ¬ WM_X8_draw P a j → M_24 a j = M0 a j) → (∀ a j, ¬ WN_X8_draw P a j → N_24 a j = N0 a j) → (jB P M_24) → (jH P M_24) → (jK P M_24) → (jL P M_24) → (jO P M_24) → (jR P M_24) → (jS P M_24) → (jT P M_24) → (0 ≤ Int32.toInt x2_24) → (Int32.toInt x2_24 ≤ 10) → ∃ r, D_X8_draw_24 P zFu x2_24 M_24 N_24 = some r ∧ ((∀ a j, ¬ WM_X8_draw P a j → r.2.1 a j = M0 a j) ∧ (∀ a j, ¬ WN_X8_draw P a j → r.2.2 a j = N0 a j) ∧ ((jB P r.2.1) ∧ (jS P r.2.1) ∧ (jR P r.2.1) ∧ (jK P r.2.1) ∧ (jT P r.2.1))) := fun x2_24 M_24 N_24 k_24 kn_24 p_jB_24 p_jH_24 p_jK_24 p_jL_24 p_jO_24 p_jR_24 p_jS_24 p_jT_24 f0_24 f1_24 => TL_24 zFu x2_24 M_24 N_24 k_24 kn_24 p_jB_24 p_jH_24 p_jK_24 p_jL_24 p_jO_24 p_jR_24 p_jS_24 p_jT_24 f0_24 f1_24 (zFu_up _)
  unfold D_X8_draw
  refine vB (v_X8_isSeed) (fun e_1 f_1 q_1 => ?_)
  have b_1 := q_1.1
  have x0_1 := q_1.2
  (try simp only [Int32.toInt_add, Int32.toInt_sub, Int32.toInt_mul, Int32.toInt_toInt64, Int64.toInt_add, z_m1, Int32.reduceToInt, Int64.reduceToInt, Int32.reduceToNatClampNeg, Int.bmod_def] at x0_1)
  refine vIf (fun h_4 => ?_) (fun h_4 => ?_)
  · have i_4 := congrArg Int32.toInt h_4
    (try simp only [Int32.toInt_add, Int32.toInt_sub, Int32.toInt_mul, Int32.toInt_toInt64, Int64.toInt_add, z_m1, Int32.reduceToInt, Int64.reduceToInt, Int32.reduceToNatClampNeg, Int.bmod_def] at i_4)
    refine vB (v_X8_refuse) (fun e_9 f_9 q_9 => ?_)
    have k_9 : ∀ a j, ¬ WM_X8_draw P a j → e_9.2 a j = M0 a j := fun a j h => (q_9 a j (wz_M_X8_refuse_X8_draw h))
    have c7_9 : Int32.toInt (e_9.2 P 7) = Int32.toInt (M0 P 7) := congrArg Int32.toInt (q_9 P 7 (wc_X8_refuse_7))
    have c8_9 : Int32.toInt (e_9.2 P 8) = Int32.toInt (M0 P 8) := congrArg Int32.toInt (q_9 P 8 (wc_X8_refuse_8))
    have c33_9 : Int32.toInt (e_9.2 P 33) = Int32.toInt (M0 P 33) := congrArg Int32.toInt (q_9 P 33 (wc_X8_refuse_33))
    have n_9 : nA P e_9.2 = nA P M0 := nA_congr (fun a j h => q_9 a j (wf_nA_X8_refuse h))
    have p_jB_9 : jB P e_9.2 := jB.mono p_jB (fun a j h => q_9 a j (wf_jB_X8_refuse h))
    obtain ⟨u0_jB_9, u1_jB_9, u2_jB_9, u3_jB_9, u4_jB_9, u5_jB_9⟩ := id p_jB_9
    have p_jS_9 : jS P e_9.2 := jS.mono p_jS (fun a j h => q_9 a j (wf_jS_X8_refuse h))
    obtain ⟨u0_jS_9, u1_jS_9, u2_jS_9, u3_jS_9, u4_jS_9, u5_jS_9, u6_jS_9, u7_jS_9⟩ := jS.ints p_jS_9
    have p_jR_9 : jR P e_9.2 := jR.mono p_jR (fun a j h => q_9 a j (wf_jR_X8_refuse h))
    have p_jK_9 : jK P e_9.2 := jK.mono p_jK (fun a j h => q_9 a j (wf_jK_X8_refuse h))
    have p_jT_9 : jT P e_9.2 := jT.mono p_jT (fun a j h => q_9 a j (wf_jT_X8_refuse h))
    obtain ⟨u0_jT_9, u1_jT_9, u2_jT_9, u3_jT_9, u4_jT_9, u5_jT_9⟩ := id p_jT_9
    exact ⟨_, rfl, k_9, (fun _ _ _ => rfl), ⟨p_jB_9, p_jS_9, p_jR_9, p_jK_9, p_jT_9⟩⟩
  · have i_4 : ¬ Int32.toInt e_1 = Int32.toInt (0 : Int32) := fun q => h_4 (Int32.toInt_inj.mp q)
    (try simp only [Int32.toInt_add, Int32.toInt_sub, Int32.toInt_mul, Int32.toInt_toInt64, Int64.toInt_add, z_m1, Int32.reduceToInt, Int64.reduceToInt, Int32.reduceToNatClampNeg, Int.bmod_def] at i_4)
    refine vB (v_X8_keeps p_jB p_jS p_jK p_jT) (fun e_14 f_14 q_14 => ?_)
    have k_14 : ∀ a j, ¬ WM_X8_draw P a j → e_14 a j = M0 a j := fun a j h => (q_14.1 a j (wz_M_X8_keeps_X8_draw h))
    have c7_14 : Int32.toInt (e_14 P 7) = Int32.toInt (M0 P 7) := congrArg Int32.toInt (q_14.1 P 7 (wc_X8_keeps_7))
    have c8_14 : Int32.toInt (e_14 P 8) = Int32.toInt (M0 P 8) := congrArg Int32.toInt (q_14.1 P 8 (wc_X8_keeps_8))
    have c33_14 : Int32.toInt (e_14 P 33) = Int32.toInt (M0 P 33) := congrArg Int32.toInt (q_14.1 P 33 (wc_X8_keeps_33))
    have n_14 : nA P e_14 = nA P M0 := nA_congr (fun a j h => q_14.1 a j (wf_nA_X8_keeps h))
    have p_jB_14 : jB P e_14 := jB.mono p_jB (fun a j h => q_14.1 a j (wf_jB_X8_keeps h))
    obtain ⟨u0_jB_14, u1_jB_14, u2_jB_14, u3_jB_14, u4_jB_14, u5_jB_14⟩ := id p_jB_14
    have p_jS_14 : jS P e_14 := jS.mono p_jS (fun a j h => q_14.1 a j (wf_jS_X8_keeps h))
    obtain ⟨u0_jS_14, u1_jS_14, u2_jS_14, u3_jS_14, u4_jS_14, u5_jS_14, u6_jS_14, u7_jS_14⟩ := jS.ints p_jS_14
    have p_jR_14 : jR P e_14 := jR.mono p_jR (fun a j h => q_14.1 a j (wf_jR_X8_keeps h))
    obtain ⟨x0_14, x1_14⟩ := q_14.2
    obtain ⟨u0_jT_14, u1_jT_14, u2_jT_14, u3_jT_14, u4_jT_14, u5_jT_14⟩ := id x1_14
    refine vB (v_X8_goesYear p_jB_14 p_jS_14 p_jR_14 (by first | omega | (simp only [Int32.toInt_add, Int32.toInt_sub, Int32.toInt_mul, Int32.toInt_toInt64, Int64.toInt_add, z_m1, Int32.reduceToInt, Int64.reduceToInt, Int32.reduceToNatClampNeg, Int.bmod_def, or_true, true_or, and_true, true_and] <;> omega))) (fun e_19 f_19 q_19 => ?_)
    have k_19 : ∀ a j, ¬ WM_X8_draw P a j → e_19.1 a j = M0 a j := fun a j h => (q_19.1 a j (wz_M_X8_goesYear_X8_draw h)).trans (k_14 a j h)
    have kn_19 : ∀ a j, ¬ WN_X8_draw P a j → e_19.2 a j = N0 a j := fun a j h => (q_19.2.1 a j (wz_N_X8_goesYear_X8_draw h))
    have c7_19 : Int32.toInt (e_19.1 P 7) = Int32.toInt (e_14 P 7) := congrArg Int32.toInt (q_19.1 P 7 (wc_X8_goesYear_7))
    have c8_19 : Int32.toInt (e_19.1 P 8) = Int32.toInt (e_14 P 8) := congrArg Int32.toInt (q_19.1 P 8 (wc_X8_goesYear_8))
    have p_jK_19 : jK P e_19.1 := jK.mono x0_14 (fun a j h => q_19.1 a j (wf_jK_X8_goesYear h))
    have p_jT_19 : jT P e_19.1 := jT.mono x1_14 (fun a j h => q_19.1 a j (wf_jT_X8_goesYear h))
    obtain ⟨u0_jT_19, u1_jT_19, u2_jT_19, u3_jT_19, u4_jT_19, u5_jT_19⟩ := id p_jT_19
    obtain ⟨x0_19, x1_19, x2_19, x3_19, x4_19, x5_19, x6_19⟩ := q_19.2.2
    obtain ⟨u0_jB_19, u1_jB_19, u2_jB_19, u3_jB_19, u4_jB_19, u5_jB_19⟩ := id x0_19
    obtain ⟨u0_jS_19, u1_jS_19, u2_jS_19, u3_jS_19, u4_jS_19, u5_jS_19, u6_jS_19, u7_jS_19⟩ := jS.ints x1_19
    (try simp only [Int32.toInt_add, Int32.toInt_sub, Int32.toInt_mul, Int32.toInt_toInt64, Int64.toInt_add, z_m1, Int32.reduceToInt, Int64.reduceToInt, Int32.reduceToNatClampNeg, Int.bmod_def] at x6_19)
    exact T_24 _ _ _ k_19 kn_19 x0_19 x3_19 p_jK_19 x2_19 x4_19 x5_19 x1_19 p_jT_19 (by first | omega | (simp only [Int32.toInt_add, Int32.toInt_sub, Int32.toInt_mul, Int32.toInt_toInt64, Int64.toInt_add, z_m1, Int32.reduceToInt, Int64.reduceToInt, Int32.reduceToNatClampNeg, Int.bmod_def, or_true, true_or, and_true, true_and] <;> omega)) (by first | omega | (simp only [Int32.toInt_add, Int32.toInt_sub, Int32.toInt_mul, Int32.toInt_toInt64, Int64.toInt_add, z_m1, Int32.reduceToInt, Int64.reduceToInt, Int32.reduceToNatClampNeg, Int.bmod_def, or_true, true_or, and_true, true_and] <;> omega))
def WM_X8_becomes (P : Nat) (a j : Nat) : Prop := (P + 1 ≤ a ∧ a < P + 2) ∨ (P + 4 ≤ a ∧ a < P + 5) ∨ (a = P ∧ (j = 6 ∨ j = 9 ∨ j = 12))
/-- a place of the row, and a number that may stand there -/
def jOk (k : Nat) (v : Int32) : Prop := (k < 10 ∧ 0 ≤ v.toInt ∧ v.toInt ≤ 20) ∨ (62 ≤ k ∧ k < 67 ∧ 0 ≤ v.toInt ∧ v.toInt ≤ 20) ∨ (k = 67 ∧ 0 ≤ v.toInt ∧ v.toInt ≤ 2) ∨ (68 ≤ k ∧ k < 70 ∧ 0 ≤ v.toInt ∧ v.toInt ≤ 100)
theorem v_X8_becomes {P : Nat} {v0 v1 : Int32} {M0 : zMt} (p_jB : jB P M0) (p_jS : jS P M0) (p_jR : jR P M0) (p_jK : jK P M0) (p_jT : jT P M0) (i_5 : 0 ≤ Int32.toInt v0) (i_6 : Int32.toInt v0 < 82) (i_7 : jOk (v0.toNatClampNeg) v1) : ∃ r, D_X8_becomes P v0 v1 M0 = some r ∧ ((∀ a j, ¬ WM_X8_becomes P a j → r.2 a j = M0 a j) ∧ (jB P r.2) ∧ (jS P r.2) ∧ (jR P r.2) ∧ (jK P r.2) ∧ (jT P r.2)) := by
  have hin : vp_in v0 82 := vp_of i_5 (by omega)
  unfold D_X8_becomes
  refine vI hin ?_
  refine vIf (fun h => ?_) (fun h => ?_)
  · refine vB v_X8_refuse (fun e f q => ⟨_, rfl, ?_⟩)
    exact ⟨fun a j h => q a j (by unfold WM_X8_refuse; unfold WM_X8_becomes at h; omega), p_jB.mono (fun a j h => q a j (by unfold WM_X8_refuse; omega)), p_jS.mono (fun a j h => q a j (by unfold WM_X8_refuse; omega)), p_jR.mono (fun a j h => q a j (by unfold WM_X8_refuse; omega)), p_jK.mono (fun a j h => q a j (by unfold WM_X8_refuse; omega)), p_jT.mono (fun a j h => q a j (by unfold WM_X8_refuse; omega))⟩
  · refine vB (v_X8_keeps p_jB p_jS p_jK p_jT) (fun e1 f1 q1 => ?_)
    have hB1 := p_jB.mono (M' := e1) (fun a j h => q1.1 a j (by unfold WM_X8_keeps; omega))
    have hS1 := p_jS.mono (M' := e1) (fun a j h => q1.1 a j (by unfold WM_X8_keeps; omega))
    have hR1 := p_jR.mono (M' := e1) (fun a j h => q1.1 a j (by unfold WM_X8_keeps; omega))
    refine vI hin (vI hin ?_)
    refine vLm (W := fun a j => a = P + 1) (M0 := e1) (fun a j h => zu_ne (by omega)) (fun M2 f2 k2 => ?_)
    have hS2 : jS P M2 := jS.put hS1 hB1.2.2.2.1 f2 (by
      unfold jOk at i_7
      rcases i_7 with q | q | q | q
      · exact Or.inl q
      · exact Or.inr (Or.inr (Or.inl q))
      · exact Or.inr (Or.inr (Or.inr (Or.inl q)))
      · exact Or.inr (Or.inr (Or.inr (Or.inr (Or.inl q)))))
    refine vB v_X8_gives (fun e f q => ⟨_, rfl, ?_⟩)
    have g : ∀ a j, ¬ (a = P ∧ (j = 6 ∨ j = 12)) → e.2 a j = M2 a j := fun a j h => q a j (by unfold WM_X8_gives; omega)
    exact ⟨fun a j h => (g a j (by unfold WM_X8_becomes at h; omega)).trans ((k2 a j (by unfold WM_X8_becomes at h; omega)).trans (q1.1 a j (by unfold WM_X8_keeps; unfold WM_X8_becomes at h; omega))), hB1.mono (fun a j h => (g a j (by omega)).trans (k2 a j (by omega))), hS2.mono (fun a j h => g a j (by omega)), hR1.mono (fun a j h => (g a j (by omega)).trans (k2 a j (by omega))), q1.2.1.mono (fun a j h => (g a j (by omega)).trans (k2 a j (by omega))), q1.2.2.mono (fun a j h => (g a j (by omega)).trans (k2 a j (by omega)))⟩
def WM_X8_points (P : Nat) (a j : Nat) : Prop := (P + 1 ≤ a ∧ a < P + 2) ∨ (P + 4 ≤ a ∧ a < P + 5) ∨ (a = P ∧ (j = 6 ∨ j = 9 ∨ j = 12))
theorem wz_M_X8_refuse_X8_points {P a j : Nat} (h : ¬ WM_X8_points P a j) : ¬ WM_X8_refuse P a j := by unfold WM_X8_refuse; unfold WM_X8_points at h; omega
theorem wz_M_X8_becomes_X8_points {P a j : Nat} (h : ¬ WM_X8_points P a j) : ¬ WM_X8_becomes P a j := by unfold WM_X8_becomes; unfold WM_X8_points at h; omega
theorem wc_X8_becomes_7 {P : Nat} : ¬ WM_X8_becomes P P 7 := by unfold WM_X8_becomes; omega
theorem wc_X8_becomes_8 {P : Nat} : ¬ WM_X8_becomes P P 8 := by unfold WM_X8_becomes; omega
theorem wc_X8_becomes_33 {P : Nat} : ¬ WM_X8_becomes P P 33 := by unfold WM_X8_becomes; omega
theorem wf_jB_X8_becomes {P a j : Nat} (h : (a = P ∧ (j = 7 ∨ j = 8 ∨ j = 33))) : ¬ WM_X8_becomes P a j := by unfold WM_X8_becomes; omega
theorem wf_jR_X8_becomes {P a j : Nat} (h : a = P + 19) : ¬ WM_X8_becomes P a j := by unfold WM_X8_becomes; omega
set_option maxRecDepth 100000 in
set_option maxHeartbeats 4000000 in
theorem v_X8_points {P : Nat} {v0 : Int32} {v1 : Int32} {M0 : zMt}  (p_jB : jB P M0) (p_jS : jS P M0) (p_jR : jR P M0) (p_jK : jK P M0) (p_jT : jT P M0) : ∃ r, D_X8_points P v0 v1 M0 = some r ∧ ((∀ a j, ¬ WM_X8_points P a j → r.2 a j = M0 a j) ∧ ((jB P r.2) ∧ (jS P r.2) ∧ (jR P r.2) ∧ (jK P r.2) ∧ (jT P r.2))) := by
  obtain ⟨u0_jB, u1_jB, u2_jB, u3_jB, u4_jB, u5_jB⟩ := id p_jB
  obtain ⟨u0_jS, u1_jS, u2_jS, u3_jS, u4_jS, u5_jS, u6_jS, u7_jS⟩ := jS.ints p_jS
  obtain ⟨u0_jT, u1_jT, u2_jT, u3_jT, u4_jT, u5_jT⟩ := id p_jT
  have T_42 : ∀ (y0_42 : Int32) (M_42 : zMt), (∀ a j, ¬ WM_X8_points P a j → M_42 a j = M0 a j) → (jB P M_42) → (jK P M_42) → (jR P M_42) → (jS P M_42) → (jT P M_42) → ∃ r, D_X8_points_42 P y0_42 M_42 = some r ∧ ((∀ a j, ¬ WM_X8_points P a j → r.2 a j = M0 a j) ∧ ((jB P r.2) ∧ (jS P r.2) ∧ (jR P r.2) ∧ (jK P r.2) ∧ (jT P r.2))) := by
    intro y0_42 M_42 k_42 p_jB_42 p_jK_42 p_jR_42 p_jS_42 p_jT_42
    obtain ⟨u0_jB_42, u1_jB_42, u2_jB_42, u3_jB_42, u4_jB_42, u5_jB_42⟩ := id p_jB_42
    obtain ⟨u0_jS_42, u1_jS_42, u2_jS_42, u3_jS_42, u4_jS_42, u5_jS_42, u6_jS_42, u7_jS_42⟩ := jS.ints p_jS_42
    obtain ⟨u0_jT_42, u1_jT_42, u2_jT_42, u3_jT_42, u4_jT_42, u5_jT_42⟩ := id p_jT_42
    unfold D_X8_points_42
    exact ⟨_, rfl, k_42, ⟨p_jB_42, p_jS_42, p_jR_42, p_jK_42, p_jT_42⟩⟩
  unfold D_X8_points
  refine vB (v_X8_isFrom) (fun e_6 f_6 q_6 => ?_)
  have b_6 := q_6.1
  have x0_6 := q_6.2
  (try simp only [Int32.toInt_add, Int32.toInt_sub, Int32.toInt_mul, Int32.toInt_toInt64, Int64.toInt_add, z_m1, Int32.reduceToInt, Int64.reduceToInt, Int32.reduceToNatClampNeg, Int.bmod_def] at x0_6)
  refine vIf (fun h_9 => ?_) (fun h_9 => ?_)
  · have i_9 := congrArg Int32.toInt h_9
    (try simp only [Int32.toInt_add, Int32.toInt_sub, Int32.toInt_mul, Int32.toInt_toInt64, Int64.toInt_add, z_m1, Int32.reduceToInt, Int64.reduceToInt, Int32.reduceToNatClampNeg, Int.bmod_def] at i_9)
    refine vB (v_X8_refuse) (fun e_14 f_14 q_14 => ?_)
    have k_14 : ∀ a j, ¬ WM_X8_points P a j → e_14.2 a j = M0 a j := fun a j h => (q_14 a j (wz_M_X8_refuse_X8_points h))
    have c7_14 : Int32.toInt (e_14.2 P 7) = Int32.toInt (M0 P 7) := congrArg Int32.toInt (q_14 P 7 (wc_X8_refuse_7))
    have c8_14 : Int32.toInt (e_14.2 P 8) = Int32.toInt (M0 P 8) := congrArg Int32.toInt (q_14 P 8 (wc_X8_refuse_8))
    have c33_14 : Int32.toInt (e_14.2 P 33) = Int32.toInt (M0 P 33) := congrArg Int32.toInt (q_14 P 33 (wc_X8_refuse_33))
    have n_14 : nA P e_14.2 = nA P M0 := nA_congr (fun a j h => q_14 a j (wf_nA_X8_refuse h))
    have p_jB_14 : jB P e_14.2 := jB.mono p_jB (fun a j h => q_14 a j (wf_jB_X8_refuse h))
    obtain ⟨u0_jB_14, u1_jB_14, u2_jB_14, u3_jB_14, u4_jB_14, u5_jB_14⟩ := id p_jB_14
    have p_jS_14 : jS P e_14.2 := jS.mono p_jS (fun a j h => q_14 a j (wf_jS_X8_refuse h))
    obtain ⟨u0_jS_14, u1_jS_14, u2_jS_14, u3_jS_14, u4_jS_14, u5_jS_14, u6_jS_14, u7_jS_14⟩ := jS.ints p_jS_14
    have p_jR_14 : jR P e_14.2 := jR.mono p_jR (fun a j h => q_14 a j (wf_jR_X8_refuse h))
    have p_jK_14 : jK P e_14.2 := jK.mono p_jK (fun a j h => q_14 a j (wf_jK_X8_refuse h))
    have p_jT_14 : jT P e_14.2 := jT.mono p_jT (fun a j h => q_14 a j (wf_jT_X8_refuse h))
    obtain ⟨u0_jT_14, u1_jT_14, u2_jT_14, u3_jT_14, u4_jT_14, u5_jT_14⟩ := id p_jT_14
    exact ⟨_, rfl, k_14, ⟨p_jB_14, p_jS_14, p_jR_14, p_jK_14, p_jT_14⟩⟩
  · have i_9 : ¬ Int32.toInt e_6 = Int32.toInt (0 : Int32) := fun q => h_9 (Int32.toInt_inj.mp q)
    (try simp only [Int32.toInt_add, Int32.toInt_sub, Int32.toInt_mul, Int32.toInt_toInt64, Int64.toInt_add, z_m1, Int32.reduceToInt, Int64.reduceToInt, Int32.reduceToNatClampNeg, Int.bmod_def] at i_9)
    refine vB (v_X8_isHunter p_jB) (fun e_20 f_20 q_20 => ?_)
    have b_20 := q_20.1
    have x0_20 := q_20.2
    (try simp only [Int32.toInt_add, Int32.toInt_sub, Int32.toInt_mul, Int32.toInt_toInt64, Int64.toInt_add, z_m1, Int32.reduceToInt, Int64.reduceToInt, Int32.reduceToNatClampNeg, Int.bmod_def] at x0_20)
    refine vIf (fun h_23 => ?_) (fun h_23 => ?_)
    · have i_23 := congrArg Int32.toInt h_23
      (try simp only [Int32.toInt_add, Int32.toInt_sub, Int32.toInt_mul, Int32.toInt_toInt64, Int64.toInt_add, z_m1, Int32.reduceToInt, Int64.reduceToInt, Int32.reduceToNatClampNeg, Int.bmod_def] at i_23)
      refine vB (v_X8_refuse) (fun e_39 f_39 q_39 => ?_)
      have k_39 : ∀ a j, ¬ WM_X8_points P a j → e_39.2 a j = M0 a j := fun a j h => (q_39 a j (wz_M_X8_refuse_X8_points h))
      have c7_39 : Int32.toInt (e_39.2 P 7) = Int32.toInt (M0 P 7) := congrArg Int32.toInt (q_39 P 7 (wc_X8_refuse_7))
      have c8_39 : Int32.toInt (e_39.2 P 8) = Int32.toInt (M0 P 8) := congrArg Int32.toInt (q_39 P 8 (wc_X8_refuse_8))
      have c33_39 : Int32.toInt (e_39.2 P 33) = Int32.toInt (M0 P 33) := congrArg Int32.toInt (q_39 P 33 (wc_X8_refuse_33))
      have n_39 : nA P e_39.2 = nA P M0 := nA_congr (fun a j h => q_39 a j (wf_nA_X8_refuse h))
      have p_jB_39 : jB P e_39.2 := jB.mono p_jB (fun a j h => q_39 a j (wf_jB_X8_refuse h))
      obtain ⟨u0_jB_39, u1_jB_39, u2_jB_39, u3_jB_39, u4_jB_39, u5_jB_39⟩ := id p_jB_39
      have p_jS_39 : jS P e_39.2 := jS.mono p_jS (fun a j h => q_39 a j (wf_jS_X8_refuse h))
      obtain ⟨u0_jS_39, u1_jS_39, u2_jS_39, u3_jS_39, u4_jS_39, u5_jS_39, u6_jS_39, u7_jS_39⟩ := jS.ints p_jS_39
      have p_jR_39 : jR P e_39.2 := jR.mono p_jR (fun a j h => q_39 a j (wf_jR_X8_refuse h))
      have p_jK_39 : jK P e_39.2 := jK.mono p_jK (fun a j h => q_39 a j (wf_jK_X8_refuse h))
      have p_jT_39 : jT P e_39.2 := jT.mono p_jT (fun a j h => q_39 a j (wf_jT_X8_refuse h))
      obtain ⟨u0_jT_39, u1_jT_39, u2_jT_39, u3_jT_39, u4_jT_39, u5_jT_39⟩ := id p_jT_39
      exact T_42 _ _ k_39 p_jB_39 p_jK_39 p_jR_39 p_jS_39 p_jT_39
    · have i_23 : ¬ Int32.toInt e_20 = Int32.toInt (0 : Int32) := fun q => h_23 (Int32.toInt_inj.mp q)
      (try simp only [Int32.toInt_add, Int32.toInt_sub, Int32.toInt_mul, Int32.toInt_toInt64, Int64.toInt_add, z_m1, Int32.reduceToInt, Int64.reduceToInt, Int32.reduceToNatClampNeg, Int.bmod_def] at i_23)
      refine vB (v_X8_becomes p_jB p_jS p_jR p_jK p_jT (by first | omega | (simp only [Int32.toInt_add, Int32.toInt_sub, Int32.toInt_mul, Int32.toInt_toInt64, Int64.toInt_add, z_m1, Int32.reduceToInt, Int64.reduceToInt, Int32.reduceToNatClampNeg, Int.bmod_def, or_true, true_or, and_true, true_and] <;> omega)) (by first | omega | (simp only [Int32.toInt_add, Int32.toInt_sub, Int32.toInt_mul, Int32.toInt_toInt64, Int64.toInt_add, z_m1, Int32.reduceToInt, Int64.reduceToInt, Int32.reduceToNatClampNeg, Int.bmod_def, or_true, true_or, and_true, true_and] <;> omega)) (by have h1 := z_cl (x := (0 : Int32) + v0) (by first | omega | (simp only [Int32.toInt_add, Int32.toInt_sub, Int32.toInt_mul, Int32.toInt_toInt64, Int64.toInt_add, z_m1, Int32.reduceToInt, Int64.reduceToInt, Int32.reduceToNatClampNeg, Int.bmod_def, or_true, true_or, and_true, true_and] <;> omega)); have h2 : 0 ≤ Int32.toInt ((0 : Int32) + v0) ∧ Int32.toInt ((0 : Int32) + v0) < 10 := (by first | omega | (simp only [Int32.toInt_add, Int32.toInt_sub, Int32.toInt_mul, Int32.toInt_toInt64, Int64.toInt_add, z_m1, Int32.reduceToInt, Int64.reduceToInt, Int32.reduceToNatClampNeg, Int.bmod_def, or_true, true_or, and_true, true_and] <;> omega)); unfold jOk; exact Or.inl ⟨by omega, by omega, by omega⟩)) (fun e_31 f_31 q_31 => ?_)
      have k_31 : ∀ a j, ¬ WM_X8_points P a j → e_31.2 a j = M0 a j := fun a j h => (q_31.1 a j (wz_M_X8_becomes_X8_points h))
      have c7_31 : Int32.toInt (e_31.2 P 7) = Int32.toInt (M0 P 7) := congrArg Int32.toInt (q_31.1 P 7 (wc_X8_becomes_7))
      have c8_31 : Int32.toInt (e_31.2 P 8) = Int32.toInt (M0 P 8) := congrArg Int32.toInt (q_31.1 P 8 (wc_X8_becomes_8))
      have c33_31 : Int32.toInt (e_31.2 P 33) = Int32.toInt (M0 P 33) := congrArg Int32.toInt (q_31.1 P 33 (wc_X8_becomes_33))
      have p_jB_31 : jB P e_31.2 := jB.mono p_jB (fun a j h => q_31.1 a j (wf_jB_X8_becomes h))
      obtain ⟨u0_jB_31, u1_jB_31, u2_jB_31, u3_jB_31, u4_jB_31, u5_jB_31⟩ := id p_jB_31
      have p_jR_31 : jR P e_31.2 := jR.mono p_jR (fun a j h => q_31.1 a j (wf_jR_X8_becomes h))
      obtain ⟨x0_31, x1_31, x2_31, x3_31, x4_31⟩ := q_31.2
      obtain ⟨u0_jB_31, u1_jB_31, u2_jB_31, u3_jB_31, u4_jB_31, u5_jB_31⟩ := id x0_31
      obtain ⟨u0_jS_31, u1_jS_31, u2_jS_31, u3_jS_31, u4_jS_31, u5_jS_31, u6_jS_31, u7_jS_31⟩ := jS.ints x1_31
      obtain ⟨u0_jT_31, u1_jT_31, u2_jT_31, u3_jT_31, u4_jT_31, u5_jT_31⟩ := id x4_31
      exact T_42 _ _ k_31 x0_31 x3_31 x2_31 x1_31 x4_31
def WM_X8_quota (P : Nat) (a j : Nat) : Prop := (P + 1 ≤ a ∧ a < P + 2) ∨ (P + 4 ≤ a ∧ a < P + 5) ∨ (a = P ∧ (j = 6 ∨ j = 9 ∨ j = 12))
theorem wz_M_X8_refuse_X8_quota {P a j : Nat} (h : ¬ WM_X8_quota P a j) : ¬ WM_X8_refuse P a j := by unfold WM_X8_refuse; unfold WM_X8_quota at h; omega
theorem wz_M_X8_becomes_X8_quota {P a j : Nat} (h : ¬ WM_X8_quota P a j) : ¬ WM_X8_becomes P a j := by unfold WM_X8_becomes; unfold WM_X8_quota at h; omega
set_option maxRecDepth 100000 in
set_option maxHeartbeats 4000000 in
theorem v_X8_quota {P : Nat} {v0 : Int32} {v1 : Int32} {M0 : zMt}  (p_jB : jB P M0) (p_jS : jS P M0) (p_jR : jR P M0) (p_jK : jK P M0) (p_jT : jT P M0) : ∃ r, D_X8_quota P v0 v1 M0 = some r ∧ ((∀ a j, ¬ WM_X8_quota P a j → r.2 a j = M0 a j) ∧ ((jB P r.2) ∧ (jS P r.2) ∧ (jR P r.2) ∧ (jK P r.2) ∧ (jT P r.2))) := by
  obtain ⟨u0_jB, u1_jB, u2_jB, u3_jB, u4_jB, u5_jB⟩ := id p_jB
  obtain ⟨u0_jS, u1_jS, u2_jS, u3_jS, u4_jS, u5_jS, u6_jS, u7_jS⟩ := jS.ints p_jS
  obtain ⟨u0_jT, u1_jT, u2_jT, u3_jT, u4_jT, u5_jT⟩ := id p_jT
  have T_43 : ∀ (y0_43 : Int32) (M_43 : zMt), (∀ a j, ¬ WM_X8_quota P a j → M_43 a j = M0 a j) → (jB P M_43) → (jK P M_43) → (jR P M_43) → (jS P M_43) → (jT P M_43) → ∃ r, D_X8_quota_43 P y0_43 M_43 = some r ∧ ((∀ a j, ¬ WM_X8_quota P a j → r.2 a j = M0 a j) ∧ ((jB P r.2) ∧ (jS P r.2) ∧ (jR P r.2) ∧ (jK P r.2) ∧ (jT P r.2))) := by
    intro y0_43 M_43 k_43 p_jB_43 p_jK_43 p_jR_43 p_jS_43 p_jT_43
    obtain ⟨u0_jB_43, u1_jB_43, u2_jB_43, u3_jB_43, u4_jB_43, u5_jB_43⟩ := id p_jB_43
    obtain ⟨u0_jS_43, u1_jS_43, u2_jS_43, u3_jS_43, u4_jS_43, u5_jS_43, u6_jS_43, u7_jS_43⟩ := jS.ints p_jS_43
    obtain ⟨u0_jT_43, u1_jT_43, u2_jT_43, u3_jT_43, u4_jT_43, u5_jT_43⟩ := id p_jT_43
    unfold D_X8_quota_43
    exact ⟨_, rfl, k_43, ⟨p_jB_43, p_jS_43, p_jR_43, p_jK_43, p_jT_43⟩⟩
  unfold D_X8_quota
  refine vB (v_X8_isFrom) (fun e_6 f_6 q_6 => ?_)
  have b_6 := q_6.1
  have x0_6 := q_6.2
  (try simp only [Int32.toInt_add, Int32.toInt_sub, Int32.toInt_mul, Int32.toInt_toInt64, Int64.toInt_add, z_m1, Int32.reduceToInt, Int64.reduceToInt, Int32.reduceToNatClampNeg, Int.bmod_def] at x0_6)
  refine vIf (fun h_9 => ?_) (fun h_9 => ?_)
  · have i_9 := congrArg Int32.toInt h_9
    (try simp only [Int32.toInt_add, Int32.toInt_sub, Int32.toInt_mul, Int32.toInt_toInt64, Int64.toInt_add, z_m1, Int32.reduceToInt, Int64.reduceToInt, Int32.reduceToNatClampNeg, Int.bmod_def] at i_9)
    refine vB (v_X8_refuse) (fun e_14 f_14 q_14 => ?_)
    have k_14 : ∀ a j, ¬ WM_X8_quota P a j → e_14.2 a j = M0 a j := fun a j h => (q_14 a j (wz_M_X8_refuse_X8_quota h))
    have c7_14 : Int32.toInt (e_14.2 P 7) = Int32.toInt (M0 P 7) := congrArg Int32.toInt (q_14 P 7 (wc_X8_refuse_7))
    have c8_14 : Int32.toInt (e_14.2 P 8) = Int32.toInt (M0 P 8) := congrArg Int32.toInt (q_14 P 8 (wc_X8_refuse_8))
    have c33_14 : Int32.toInt (e_14.2 P 33) = Int32.toInt (M0 P 33) := congrArg Int32.toInt (q_14 P 33 (wc_X8_refuse_33))
    have n_14 : nA P e_14.2 = nA P M0 := nA_congr (fun a j h => q_14 a j (wf_nA_X8_refuse h))
    have p_jB_14 : jB P e_14.2 := jB.mono p_jB (fun a j h => q_14 a j (wf_jB_X8_refuse h))
    obtain ⟨u0_jB_14, u1_jB_14, u2_jB_14, u3_jB_14, u4_jB_14, u5_jB_14⟩ := id p_jB_14
    have p_jS_14 : jS P e_14.2 := jS.mono p_jS (fun a j h => q_14 a j (wf_jS_X8_refuse h))
    obtain ⟨u0_jS_14, u1_jS_14, u2_jS_14, u3_jS_14, u4_jS_14, u5_jS_14, u6_jS_14, u7_jS_14⟩ := jS.ints p_jS_14
    have p_jR_14 : jR P e_14.2 := jR.mono p_jR (fun a j h => q_14 a j (wf_jR_X8_refuse h))
    have p_jK_14 : jK P e_14.2 := jK.mono p_jK (fun a j h => q_14 a j (wf_jK_X8_refuse h))
    have p_jT_14 : jT P e_14.2 := jT.mono p_jT (fun a j h => q_14 a j (wf_jT_X8_refuse h))
    obtain ⟨u0_jT_14, u1_jT_14, u2_jT_14, u3_jT_14, u4_jT_14, u5_jT_14⟩ := id p_jT_14
    exact ⟨_, rfl, k_14, ⟨p_jB_14, p_jS_14, p_jR_14, p_jK_14, p_jT_14⟩⟩
  · have i_9 : ¬ Int32.toInt e_6 = Int32.toInt (0 : Int32) := fun q => h_9 (Int32.toInt_inj.mp q)
    (try simp only [Int32.toInt_add, Int32.toInt_sub, Int32.toInt_mul, Int32.toInt_toInt64, Int64.toInt_add, z_m1, Int32.reduceToInt, Int64.reduceToInt, Int32.reduceToNatClampNeg, Int.bmod_def] at i_9)
    refine vB (v_X8_isUnit p_jB) (fun e_20 f_20 q_20 => ?_)
    have b_20 := q_20.1
    have x0_20 := q_20.2
    (try simp only [Int32.toInt_add, Int32.toInt_sub, Int32.toInt_mul, Int32.toInt_toInt64, Int64.toInt_add, z_m1, Int32.reduceToInt, Int64.reduceToInt, Int32.reduceToNatClampNeg, Int.bmod_def] at x0_20)
    refine vIf (fun h_23 => ?_) (fun h_23 => ?_)
    · have i_23 := congrArg Int32.toInt h_23
      (try simp only [Int32.toInt_add, Int32.toInt_sub, Int32.toInt_mul, Int32.toInt_toInt64, Int64.toInt_add, z_m1, Int32.reduceToInt, Int64.reduceToInt, Int32.reduceToNatClampNeg, Int.bmod_def] at i_23)
      refine vB (v_X8_refuse) (fun e_40 f_40 q_40 => ?_)
      have k_40 : ∀ a j, ¬ WM_X8_quota P a j → e_40.2 a j = M0 a j := fun a j h => (q_40 a j (wz_M_X8_refuse_X8_quota h))
      have c7_40 : Int32.toInt (e_40.2 P 7) = Int32.toInt (M0 P 7) := congrArg Int32.toInt (q_40 P 7 (wc_X8_refuse_7))
      have c8_40 : Int32.toInt (e_40.2 P 8) = Int32.toInt (M0 P 8) := congrArg Int32.toInt (q_40 P 8 (wc_X8_refuse_8))
      have c33_40 : Int32.toInt (e_40.2 P 33) = Int32.toInt (M0 P 33) := congrArg Int32.toInt (q_40 P 33 (wc_X8_refuse_33))
      have n_40 : nA P e_40.2 = nA P M0 := nA_congr (fun a j h => q_40 a j (wf_nA_X8_refuse h))
      have p_jB_40 : jB P e_40.2 := jB.mono p_jB (fun a j h => q_40 a j (wf_jB_X8_refuse h))
      obtain ⟨u0_jB_40, u1_jB_40, u2_jB_40, u3_jB_40, u4_jB_40, u5_jB_40⟩ := id p_jB_40
      have p_jS_40 : jS P e_40.2 := jS.mono p_jS (fun a j h => q_40 a j (wf_jS_X8_refuse h))
      obtain ⟨u0_jS_40, u1_jS_40, u2_jS_40, u3_jS_40, u4_jS_40, u5_jS_40, u6_jS_40, u7_jS_40⟩ := jS.ints p_jS_40
      have p_jR_40 : jR P e_40.2 := jR.mono p_jR (fun a j h => q_40 a j (wf_jR_X8_refuse h))
      have p_jK_40 : jK P e_40.2 := jK.mono p_jK (fun a j h => q_40 a j (wf_jK_X8_refuse h))
      have p_jT_40 : jT P e_40.2 := jT.mono p_jT (fun a j h => q_40 a j (wf_jT_X8_refuse h))
      obtain ⟨u0_jT_40, u1_jT_40, u2_jT_40, u3_jT_40, u4_jT_40, u5_jT_40⟩ := id p_jT_40
      exact T_43 _ _ k_40 p_jB_40 p_jK_40 p_jR_40 p_jS_40 p_jT_40
    · have i_23 : ¬ Int32.toInt e_20 = Int32.toInt (0 : Int32) := fun q => h_23 (Int32.toInt_inj.mp q)
      (try simp only [Int32.toInt_add, Int32.toInt_sub, Int32.toInt_mul, Int32.toInt_toInt64, Int64.toInt_add, z_m1, Int32.reduceToInt, Int64.reduceToInt, Int32.reduceToNatClampNeg, Int.bmod_def] at i_23)
      refine vB (v_X8_becomes p_jB p_jS p_jR p_jK p_jT (by first | omega | (simp only [Int32.toInt_add, Int32.toInt_sub, Int32.toInt_mul, Int32.toInt_toInt64, Int64.toInt_add, z_m1, Int32.reduceToInt, Int64.reduceToInt, Int32.reduceToNatClampNeg, Int.bmod_def, or_true, true_or, and_true, true_and] <;> omega)) (by first | omega | (simp only [Int32.toInt_add, Int32.toInt_sub, Int32.toInt_mul, Int32.toInt_toInt64, Int64.toInt_add, z_m1, Int32.reduceToInt, Int64.reduceToInt, Int32.reduceToNatClampNeg, Int.bmod_def, or_true, true_or, and_true, true_and] <;> omega)) (by have h1 := z_cl (x := (62 : Int32) + v0) (by first | omega | (simp only [Int32.toInt_add, Int32.toInt_sub, Int32.toInt_mul, Int32.toInt_toInt64, Int64.toInt_add, z_m1, Int32.reduceToInt, Int64.reduceToInt, Int32.reduceToNatClampNeg, Int.bmod_def, or_true, true_or, and_true, true_and] <;> omega)); have h2 : 62 ≤ Int32.toInt ((62 : Int32) + v0) ∧ Int32.toInt ((62 : Int32) + v0) < 67 := (by first | omega | (simp only [Int32.toInt_add, Int32.toInt_sub, Int32.toInt_mul, Int32.toInt_toInt64, Int64.toInt_add, z_m1, Int32.reduceToInt, Int64.reduceToInt, Int32.reduceToNatClampNeg, Int.bmod_def, or_true, true_or, and_true, true_and] <;> omega)); unfold jOk; exact Or.inr (Or.inl ⟨by omega, by omega, by omega, by omega⟩))) (fun e_32 f_32 q_32 => ?_)
      have k_32 : ∀ a j, ¬ WM_X8_quota P a j → e_32.2 a j = M0 a j := fun a j h => (q_32.1 a j (wz_M_X8_becomes_X8_quota h))
      have c7_32 : Int32.toInt (e_32.2 P 7) = Int32.toInt (M0 P 7) := congrArg Int32.toInt (q_32.1 P 7 (wc_X8_becomes_7))
      have c8_32 : Int32.toInt (e_32.2 P 8) = Int32.toInt (M0 P 8) := congrArg Int32.toInt (q_32.1 P 8 (wc_X8_becomes_8))
      have c33_32 : Int32.toInt (e_32.2 P 33) = Int32.toInt (M0 P 33) := congrArg Int32.toInt (q_32.1 P 33 (wc_X8_becomes_33))
      have p_jB_32 : jB P e_32.2 := jB.mono p_jB (fun a j h => q_32.1 a j (wf_jB_X8_becomes h))
      obtain ⟨u0_jB_32, u1_jB_32, u2_jB_32, u3_jB_32, u4_jB_32, u5_jB_32⟩ := id p_jB_32
      have p_jR_32 : jR P e_32.2 := jR.mono p_jR (fun a j h => q_32.1 a j (wf_jR_X8_becomes h))
      obtain ⟨x0_32, x1_32, x2_32, x3_32, x4_32⟩ := q_32.2
      obtain ⟨u0_jB_32, u1_jB_32, u2_jB_32, u3_jB_32, u4_jB_32, u5_jB_32⟩ := id x0_32
      obtain ⟨u0_jS_32, u1_jS_32, u2_jS_32, u3_jS_32, u4_jS_32, u5_jS_32, u6_jS_32, u7_jS_32⟩ := jS.ints x1_32
      obtain ⟨u0_jT_32, u1_jT_32, u2_jT_32, u3_jT_32, u4_jT_32, u5_jT_32⟩ := id x4_32
      exact T_43 _ _ k_32 x0_32 x3_32 x2_32 x1_32 x4_32
def WM_X8_law (P : Nat) (a j : Nat) : Prop := (P + 1 ≤ a ∧ a < P + 2) ∨ (P + 4 ≤ a ∧ a < P + 5) ∨ (a = P ∧ (j = 6 ∨ j = 9 ∨ j = 12))
theorem wz_M_X8_refuse_X8_law {P a j : Nat} (h : ¬ WM_X8_law P a j) : ¬ WM_X8_refuse P a j := by unfold WM_X8_refuse; unfold WM_X8_law at h; omega
theorem wz_M_X8_becomes_X8_law {P a j : Nat} (h : ¬ WM_X8_law P a j) : ¬ WM_X8_becomes P a j := by unfold WM_X8_becomes; unfold WM_X8_law at h; omega
set_option maxRecDepth 100000 in
set_option maxHeartbeats 4000000 in
theorem v_X8_law {P : Nat} {v0 : Int32} {M0 : zMt}  (p_jB : jB P M0) (p_jS : jS P M0) (p_jR : jR P M0) (p_jK : jK P M0) (p_jT : jT P M0) : ∃ r, D_X8_law P v0 M0 = some r ∧ ((∀ a j, ¬ WM_X8_law P a j → r.2 a j = M0 a j) ∧ ((jB P r.2) ∧ (jS P r.2) ∧ (jR P r.2) ∧ (jK P r.2) ∧ (jT P r.2))) := by
  obtain ⟨u0_jB, u1_jB, u2_jB, u3_jB, u4_jB, u5_jB⟩ := id p_jB
  obtain ⟨u0_jS, u1_jS, u2_jS, u3_jS, u4_jS, u5_jS, u6_jS, u7_jS⟩ := jS.ints p_jS
  obtain ⟨u0_jT, u1_jT, u2_jT, u3_jT, u4_jT, u5_jT⟩ := id p_jT
  have T_27 : ∀ (y0_27 : Int32) (M_27 : zMt), (∀ a j, ¬ WM_X8_law P a j → M_27 a j = M0 a j) → (jB P M_27) → (jK P M_27) → (jR P M_27) → (jS P M_27) → (jT P M_27) → ∃ r, D_X8_law_27 P y0_27 M_27 = some r ∧ ((∀ a j, ¬ WM_X8_law P a j → r.2 a j = M0 a j) ∧ ((jB P r.2) ∧ (jS P r.2) ∧ (jR P r.2) ∧ (jK P r.2) ∧ (jT P r.2))) := by
    intro y0_27 M_27 k_27 p_jB_27 p_jK_27 p_jR_27 p_jS_27 p_jT_27
    obtain ⟨u0_jB_27, u1_jB_27, u2_jB_27, u3_jB_27, u4_jB_27, u5_jB_27⟩ := id p_jB_27
    obtain ⟨u0_jS_27, u1_jS_27, u2_jS_27, u3_jS_27, u4_jS_27, u5_jS_27, u6_jS_27, u7_jS_27⟩ := jS.ints p_jS_27
    obtain ⟨u0_jT_27, u1_jT_27, u2_jT_27, u3_jT_27, u4_jT_27, u5_jT_27⟩ := id p_jT_27
    unfold D_X8_law_27
    exact ⟨_, rfl, k_27, ⟨p_jB_27, p_jS_27, p_jR_27, p_jK_27, p_jT_27⟩⟩
  unfold D_X8_law
  refine vB (v_X8_isFrom) (fun e_6 f_6 q_6 => ?_)
  have b_6 := q_6.1
  have x0_6 := q_6.2
  (try simp only [Int32.toInt_add, Int32.toInt_sub, Int32.toInt_mul, Int32.toInt_toInt64, Int64.toInt_add, z_m1, Int32.reduceToInt, Int64.reduceToInt, Int32.reduceToNatClampNeg, Int.bmod_def] at x0_6)
  refine vIf (fun h_9 => ?_) (fun h_9 => ?_)
  · have i_9 := congrArg Int32.toInt h_9
    (try simp only [Int32.toInt_add, Int32.toInt_sub, Int32.toInt_mul, Int32.toInt_toInt64, Int64.toInt_add, z_m1, Int32.reduceToInt, Int64.reduceToInt, Int32.reduceToNatClampNeg, Int.bmod_def] at i_9)
    refine vB (v_X8_refuse) (fun e_24 f_24 q_24 => ?_)
    have k_24 : ∀ a j, ¬ WM_X8_law P a j → e_24.2 a j = M0 a j := fun a j h => (q_24 a j (wz_M_X8_refuse_X8_law h))
    have c7_24 : Int32.toInt (e_24.2 P 7) = Int32.toInt (M0 P 7) := congrArg Int32.toInt (q_24 P 7 (wc_X8_refuse_7))
    have c8_24 : Int32.toInt (e_24.2 P 8) = Int32.toInt (M0 P 8) := congrArg Int32.toInt (q_24 P 8 (wc_X8_refuse_8))
    have c33_24 : Int32.toInt (e_24.2 P 33) = Int32.toInt (M0 P 33) := congrArg Int32.toInt (q_24 P 33 (wc_X8_refuse_33))
    have n_24 : nA P e_24.2 = nA P M0 := nA_congr (fun a j h => q_24 a j (wf_nA_X8_refuse h))
    have p_jB_24 : jB P e_24.2 := jB.mono p_jB (fun a j h => q_24 a j (wf_jB_X8_refuse h))
    obtain ⟨u0_jB_24, u1_jB_24, u2_jB_24, u3_jB_24, u4_jB_24, u5_jB_24⟩ := id p_jB_24
    have p_jS_24 : jS P e_24.2 := jS.mono p_jS (fun a j h => q_24 a j (wf_jS_X8_refuse h))
    obtain ⟨u0_jS_24, u1_jS_24, u2_jS_24, u3_jS_24, u4_jS_24, u5_jS_24, u6_jS_24, u7_jS_24⟩ := jS.ints p_jS_24
    have p_jR_24 : jR P e_24.2 := jR.mono p_jR (fun a j h => q_24 a j (wf_jR_X8_refuse h))
    have p_jK_24 : jK P e_24.2 := jK.mono p_jK (fun a j h => q_24 a j (wf_jK_X8_refuse h))
    have p_jT_24 : jT P e_24.2 := jT.mono p_jT (fun a j h => q_24 a j (wf_jT_X8_refuse h))
    obtain ⟨u0_jT_24, u1_jT_24, u2_jT_24, u3_jT_24, u4_jT_24, u5_jT_24⟩ := id p_jT_24
    exact T_27 _ _ k_24 p_jB_24 p_jK_24 p_jR_24 p_jS_24 p_jT_24
  · have i_9 : ¬ Int32.toInt e_6 = Int32.toInt (0 : Int32) := fun q => h_9 (Int32.toInt_inj.mp q)
    (try simp only [Int32.toInt_add, Int32.toInt_sub, Int32.toInt_mul, Int32.toInt_toInt64, Int64.toInt_add, z_m1, Int32.reduceToInt, Int64.reduceToInt, Int32.reduceToNatClampNeg, Int.bmod_def] at i_9)
    refine vB (v_X8_becomes p_jB p_jS p_jR p_jK p_jT (by first | omega | (simp only [Int32.toInt_add, Int32.toInt_sub, Int32.toInt_mul, Int32.toInt_toInt64, Int64.toInt_add, z_m1, Int32.reduceToInt, Int64.reduceToInt, Int32.reduceToNatClampNeg, Int.bmod_def, or_true, true_or, and_true, true_and] <;> omega)) (by first | omega | (simp only [Int32.toInt_add, Int32.toInt_sub, Int32.toInt_mul, Int32.toInt_toInt64, Int64.toInt_add, z_m1, Int32.reduceToInt, Int64.reduceToInt, Int32.reduceToNatClampNeg, Int.bmod_def, or_true, true_or, and_true, true_and] <;> omega)) (Or.inr (Or.inr (Or.inl ⟨by decide, (by first | omega | (simp only [Int32.toInt_add, Int32.toInt_sub, Int32.toInt_mul, Int32.toInt_toInt64, Int64.toInt_add, z_m1, Int32.reduceToInt, Int64.reduceToInt, Int32.reduceToNatClampNeg, Int.bmod_def, or_true, true_or, and_true, true_and] <;> omega)), (by first | omega | (simp only [Int32.toInt_add, Int32.toInt_sub, Int32.toInt_mul, Int32.toInt_toInt64, Int64.toInt_add, z_m1, Int32.reduceToInt, Int64.reduceToInt, Int32.reduceToNatClampNeg, Int.bmod_def, or_true, true_or, and_true, true_and] <;> omega))⟩)))) (fun e_16 f_16 q_16 => ?_)
    have k_16 : ∀ a j, ¬ WM_X8_law P a j → e_16.2 a j = M0 a j := fun a j h => (q_16.1 a j (wz_M_X8_becomes_X8_law h))
    have c7_16 : Int32.toInt (e_16.2 P 7) = Int32.toInt (M0 P 7) := congrArg Int32.toInt (q_16.1 P 7 (wc_X8_becomes_7))
    have c8_16 : Int32.toInt (e_16.2 P 8) = Int32.toInt (M0 P 8) := congrArg Int32.toInt (q_16.1 P 8 (wc_X8_becomes_8))
    have c33_16 : Int32.toInt (e_16.2 P 33) = Int32.toInt (M0 P 33) := congrArg Int32.toInt (q_16.1 P 33 (wc_X8_becomes_33))
    have p_jB_16 : jB P e_16.2 := jB.mono p_jB (fun a j h => q_16.1 a j (wf_jB_X8_becomes h))
    obtain ⟨u0_jB_16, u1_jB_16, u2_jB_16, u3_jB_16, u4_jB_16, u5_jB_16⟩ := id p_jB_16
    have p_jR_16 : jR P e_16.2 := jR.mono p_jR (fun a j h => q_16.1 a j (wf_jR_X8_becomes h))
    obtain ⟨x0_16, x1_16, x2_16, x3_16, x4_16⟩ := q_16.2
    obtain ⟨u0_jB_16, u1_jB_16, u2_jB_16, u3_jB_16, u4_jB_16, u5_jB_16⟩ := id x0_16
    obtain ⟨u0_jS_16, u1_jS_16, u2_jS_16, u3_jS_16, u4_jS_16, u5_jS_16, u6_jS_16, u7_jS_16⟩ := jS.ints x1_16
    obtain ⟨u0_jT_16, u1_jT_16, u2_jT_16, u3_jT_16, u4_jT_16, u5_jT_16⟩ := id x4_16
    exact T_27 _ _ k_16 x0_16 x3_16 x2_16 x1_16 x4_16
def WM_X8_prefer (P : Nat) (a j : Nat) : Prop := (P + 1 ≤ a ∧ a < P + 2) ∨ (P + 4 ≤ a ∧ a < P + 5) ∨ (a = P ∧ (j = 6 ∨ j = 9 ∨ j = 12))
theorem wz_M_X8_refuse_X8_prefer {P a j : Nat} (h : ¬ WM_X8_prefer P a j) : ¬ WM_X8_refuse P a j := by unfold WM_X8_refuse; unfold WM_X8_prefer at h; omega
theorem wz_M_X8_becomes_X8_prefer {P a j : Nat} (h : ¬ WM_X8_prefer P a j) : ¬ WM_X8_becomes P a j := by unfold WM_X8_becomes; unfold WM_X8_prefer at h; omega
set_option maxRecDepth 100000 in
set_option maxHeartbeats 4000000 in
theorem v_X8_prefer {P : Nat} {v0 : Int32} {M0 : zMt}  (p_jB : jB P M0) (p_jS : jS P M0) (p_jR : jR P M0) (p_jK : jK P M0) (p_jT : jT P M0) : ∃ r, D_X8_prefer P v0 M0 = some r ∧ ((∀ a j, ¬ WM_X8_prefer P a j → r.2 a j = M0 a j) ∧ ((jB P r.2) ∧ (jS P r.2) ∧ (jR P r.2) ∧ (jK P r.2) ∧ (jT P r.2))) := by
  obtain ⟨u0_jB, u1_jB, u2_jB, u3_jB, u4_jB, u5_jB⟩ := id p_jB
  obtain ⟨u0_jS, u1_jS, u2_jS, u3_jS, u4_jS, u5_jS, u6_jS, u7_jS⟩ := jS.ints p_jS
  obtain ⟨u0_jT, u1_jT, u2_jT, u3_jT, u4_jT, u5_jT⟩ := id p_jT
  have T_27 : ∀ (y0_27 : Int32) (M_27 : zMt), (∀ a j, ¬ WM_X8_prefer P a j → M_27 a j = M0 a j) → (jB P M_27) → (jK P M_27) → (jR P M_27) → (jS P M_27) → (jT P M_27) → ∃ r, D_X8_prefer_27 P y0_27 M_27 = some r ∧ ((∀ a j, ¬ WM_X8_prefer P a j → r.2 a j = M0 a j) ∧ ((jB P r.2) ∧ (jS P r.2) ∧ (jR P r.2) ∧ (jK P r.2) ∧ (jT P r.2))) := by
    intro y0_27 M_27 k_27 p_jB_27 p_jK_27 p_jR_27 p_jS_27 p_jT_27
    obtain ⟨u0_jB_27, u1_jB_27, u2_jB_27, u3_jB_27, u4_jB_27, u5_jB_27⟩ := id p_jB_27
    obtain ⟨u0_jS_27, u1_jS_27, u2_jS_27, u3_jS_27, u4_jS_27, u5_jS_27, u6_jS_27, u7_jS_27⟩ := jS.ints p_jS_27
    obtain ⟨u0_jT_27, u1_jT_27, u2_jT_27, u3_jT_27, u4_jT_27, u5_jT_27⟩ := id p_jT_27
    unfold D_X8_prefer_27
    exact ⟨_, rfl, k_27, ⟨p_jB_27, p_jS_27, p_jR_27, p_jK_27, p_jT_27⟩⟩
  unfold D_X8_prefer
  refine vB (v_X8_isFrom) (fun e_6 f_6 q_6 => ?_)
  have b_6 := q_6.1
  have x0_6 := q_6.2
  (try simp only [Int32.toInt_add, Int32.toInt_sub, Int32.toInt_mul, Int32.toInt_toInt64, Int64.toInt_add, z_m1, Int32.reduceToInt, Int64.reduceToInt, Int32.reduceToNatClampNeg, Int.bmod_def] at x0_6)
  refine vIf (fun h_9 => ?_) (fun h_9 => ?_)
  · have i_9 := congrArg Int32.toInt h_9
    (try simp only [Int32.toInt_add, Int32.toInt_sub, Int32.toInt_mul, Int32.toInt_toInt64, Int64.toInt_add, z_m1, Int32.reduceToInt, Int64.reduceToInt, Int32.reduceToNatClampNeg, Int.bmod_def] at i_9)
    refine vB (v_X8_refuse) (fun e_24 f_24 q_24 => ?_)
    have k_24 : ∀ a j, ¬ WM_X8_prefer P a j → e_24.2 a j = M0 a j := fun a j h => (q_24 a j (wz_M_X8_refuse_X8_prefer h))
    have c7_24 : Int32.toInt (e_24.2 P 7) = Int32.toInt (M0 P 7) := congrArg Int32.toInt (q_24 P 7 (wc_X8_refuse_7))
    have c8_24 : Int32.toInt (e_24.2 P 8) = Int32.toInt (M0 P 8) := congrArg Int32.toInt (q_24 P 8 (wc_X8_refuse_8))
    have c33_24 : Int32.toInt (e_24.2 P 33) = Int32.toInt (M0 P 33) := congrArg Int32.toInt (q_24 P 33 (wc_X8_refuse_33))
    have n_24 : nA P e_24.2 = nA P M0 := nA_congr (fun a j h => q_24 a j (wf_nA_X8_refuse h))
    have p_jB_24 : jB P e_24.2 := jB.mono p_jB (fun a j h => q_24 a j (wf_jB_X8_refuse h))
    obtain ⟨u0_jB_24, u1_jB_24, u2_jB_24, u3_jB_24, u4_jB_24, u5_jB_24⟩ := id p_jB_24
    have p_jS_24 : jS P e_24.2 := jS.mono p_jS (fun a j h => q_24 a j (wf_jS_X8_refuse h))
    obtain ⟨u0_jS_24, u1_jS_24, u2_jS_24, u3_jS_24, u4_jS_24, u5_jS_24, u6_jS_24, u7_jS_24⟩ := jS.ints p_jS_24
    have p_jR_24 : jR P e_24.2 := jR.mono p_jR (fun a j h => q_24 a j (wf_jR_X8_refuse h))
    have p_jK_24 : jK P e_24.2 := jK.mono p_jK (fun a j h => q_24 a j (wf_jK_X8_refuse h))
    have p_jT_24 : jT P e_24.2 := jT.mono p_jT (fun a j h => q_24 a j (wf_jT_X8_refuse h))
    obtain ⟨u0_jT_24, u1_jT_24, u2_jT_24, u3_jT_24, u4_jT_24, u5_jT_24⟩ := id p_jT_24
    exact T_27 _ _ k_24 p_jB_24 p_jK_24 p_jR_24 p_jS_24 p_jT_24
  · have i_9 : ¬ Int32.toInt e_6 = Int32.toInt (0 : Int32) := fun q => h_9 (Int32.toInt_inj.mp q)
    (try simp only [Int32.toInt_add, Int32.toInt_sub, Int32.toInt_mul, Int32.toInt_toInt64, Int64.toInt_add, z_m1, Int32.reduceToInt, Int64.reduceToInt, Int32.reduceToNatClampNeg, Int.bmod_def] at i_9)
    refine vB (v_X8_becomes p_jB p_jS p_jR p_jK p_jT (by first | omega | (simp only [Int32.toInt_add, Int32.toInt_sub, Int32.toInt_mul, Int32.toInt_toInt64, Int64.toInt_add, z_m1, Int32.reduceToInt, Int64.reduceToInt, Int32.reduceToNatClampNeg, Int.bmod_def, or_true, true_or, and_true, true_and] <;> omega)) (by first | omega | (simp only [Int32.toInt_add, Int32.toInt_sub, Int32.toInt_mul, Int32.toInt_toInt64, Int64.toInt_add, z_m1, Int32.reduceToInt, Int64.reduceToInt, Int32.reduceToNatClampNeg, Int.bmod_def, or_true, true_or, and_true, true_and] <;> omega)) (Or.inr (Or.inr (Or.inr ⟨by decide, by decide, (by first | omega | (simp only [Int32.toInt_add, Int32.toInt_sub, Int32.toInt_mul, Int32.toInt_toInt64, Int64.toInt_add, z_m1, Int32.reduceToInt, Int64.reduceToInt, Int32.reduceToNatClampNeg, Int.bmod_def, or_true, true_or, and_true, true_and] <;> omega)), (by first | omega | (simp only [Int32.toInt_add, Int32.toInt_sub, Int32.toInt_mul, Int32.toInt_toInt64, Int64.toInt_add, z_m1, Int32.reduceToInt, Int64.reduceToInt, Int32.reduceToNatClampNeg, Int.bmod_def, or_true, true_or, and_true, true_and] <;> omega))⟩)))) (fun e_16 f_16 q_16 => ?_)
    have k_16 : ∀ a j, ¬ WM_X8_prefer P a j → e_16.2 a j = M0 a j := fun a j h => (q_16.1 a j (wz_M_X8_becomes_X8_prefer h))
    have c7_16 : Int32.toInt (e_16.2 P 7) = Int32.toInt (M0 P 7) := congrArg Int32.toInt (q_16.1 P 7 (wc_X8_becomes_7))
    have c8_16 : Int32.toInt (e_16.2 P 8) = Int32.toInt (M0 P 8) := congrArg Int32.toInt (q_16.1 P 8 (wc_X8_becomes_8))
    have c33_16 : Int32.toInt (e_16.2 P 33) = Int32.toInt (M0 P 33) := congrArg Int32.toInt (q_16.1 P 33 (wc_X8_becomes_33))
    have p_jB_16 : jB P e_16.2 := jB.mono p_jB (fun a j h => q_16.1 a j (wf_jB_X8_becomes h))
    obtain ⟨u0_jB_16, u1_jB_16, u2_jB_16, u3_jB_16, u4_jB_16, u5_jB_16⟩ := id p_jB_16
    have p_jR_16 : jR P e_16.2 := jR.mono p_jR (fun a j h => q_16.1 a j (wf_jR_X8_becomes h))
    obtain ⟨x0_16, x1_16, x2_16, x3_16, x4_16⟩ := q_16.2
    obtain ⟨u0_jB_16, u1_jB_16, u2_jB_16, u3_jB_16, u4_jB_16, u5_jB_16⟩ := id x0_16
    obtain ⟨u0_jS_16, u1_jS_16, u2_jS_16, u3_jS_16, u4_jS_16, u5_jS_16, u6_jS_16, u7_jS_16⟩ := jS.ints x1_16
    obtain ⟨u0_jT_16, u1_jT_16, u2_jT_16, u3_jT_16, u4_jT_16, u5_jT_16⟩ := id x4_16
    exact T_27 _ _ k_16 x0_16 x3_16 x2_16 x1_16 x4_16
def WM_X8_guests (P : Nat) (a j : Nat) : Prop := (P + 1 ≤ a ∧ a < P + 2) ∨ (P + 4 ≤ a ∧ a < P + 5) ∨ (a = P ∧ (j = 6 ∨ j = 9 ∨ j = 12))
theorem wz_M_X8_refuse_X8_guests {P a j : Nat} (h : ¬ WM_X8_guests P a j) : ¬ WM_X8_refuse P a j := by unfold WM_X8_refuse; unfold WM_X8_guests at h; omega
theorem wz_M_X8_becomes_X8_guests {P a j : Nat} (h : ¬ WM_X8_guests P a j) : ¬ WM_X8_becomes P a j := by unfold WM_X8_becomes; unfold WM_X8_guests at h; omega
set_option maxRecDepth 100000 in
set_option maxHeartbeats 4000000 in
theorem v_X8_guests {P : Nat} {v0 : Int32} {M0 : zMt}  (p_jB : jB P M0) (p_jS : jS P M0) (p_jR : jR P M0) (p_jK : jK P M0) (p_jT : jT P M0) : ∃ r, D_X8_guests P v0 M0 = some r ∧ ((∀ a j, ¬ WM_X8_guests P a j → r.2 a j = M0 a j) ∧ ((jB P r.2) ∧ (jS P r.2) ∧ (jR P r.2) ∧ (jK P r.2) ∧ (jT P r.2))) := by
  obtain ⟨u0_jB, u1_jB, u2_jB, u3_jB, u4_jB, u5_jB⟩ := id p_jB
  obtain ⟨u0_jS, u1_jS, u2_jS, u3_jS, u4_jS, u5_jS, u6_jS, u7_jS⟩ := jS.ints p_jS
  obtain ⟨u0_jT, u1_jT, u2_jT, u3_jT, u4_jT, u5_jT⟩ := id p_jT
  have T_27 : ∀ (y0_27 : Int32) (M_27 : zMt), (∀ a j, ¬ WM_X8_guests P a j → M_27 a j = M0 a j) → (jB P M_27) → (jK P M_27) → (jR P M_27) → (jS P M_27) → (jT P M_27) → ∃ r, D_X8_guests_27 P y0_27 M_27 = some r ∧ ((∀ a j, ¬ WM_X8_guests P a j → r.2 a j = M0 a j) ∧ ((jB P r.2) ∧ (jS P r.2) ∧ (jR P r.2) ∧ (jK P r.2) ∧ (jT P r.2))) := by
    intro y0_27 M_27 k_27 p_jB_27 p_jK_27 p_jR_27 p_jS_27 p_jT_27
    obtain ⟨u0_jB_27, u1_jB_27, u2_jB_27, u3_jB_27, u4_jB_27, u5_jB_27⟩ := id p_jB_27
    obtain ⟨u0_jS_27, u1_jS_27, u2_jS_27, u3_jS_27, u4_jS_27, u5_jS_27, u6_jS_27, u7_jS_27⟩ := jS.ints p_jS_27
    obtain ⟨u0_jT_27, u1_jT_27, u2_jT_27, u3_jT_27, u4_jT_27, u5_jT_27⟩ := id p_jT_27
    unfold D_X8_guests_27
    exact ⟨_, rfl, k_27, ⟨p_jB_27, p_jS_27, p_jR_27, p_jK_27, p_jT_27⟩⟩
  unfold D_X8_guests
  refine vB (v_X8_isFrom) (fun e_6 f_6 q_6 => ?_)
  have b_6 := q_6.1
  have x0_6 := q_6.2
  (try simp only [Int32.toInt_add, Int32.toInt_sub, Int32.toInt_mul, Int32.toInt_toInt64, Int64.toInt_add, z_m1, Int32.reduceToInt, Int64.reduceToInt, Int32.reduceToNatClampNeg, Int.bmod_def] at x0_6)
  refine vIf (fun h_9 => ?_) (fun h_9 => ?_)
  · have i_9 := congrArg Int32.toInt h_9
    (try simp only [Int32.toInt_add, Int32.toInt_sub, Int32.toInt_mul, Int32.toInt_toInt64, Int64.toInt_add, z_m1, Int32.reduceToInt, Int64.reduceToInt, Int32.reduceToNatClampNeg, Int.bmod_def] at i_9)
    refine vB (v_X8_refuse) (fun e_24 f_24 q_24 => ?_)
    have k_24 : ∀ a j, ¬ WM_X8_guests P a j → e_24.2 a j = M0 a j := fun a j h => (q_24 a j (wz_M_X8_refuse_X8_guests h))
    have c7_24 : Int32.toInt (e_24.2 P 7) = Int32.toInt (M0 P 7) := congrArg Int32.toInt (q_24 P 7 (wc_X8_refuse_7))
    have c8_24 : Int32.toInt (e_24.2 P 8) = Int32.toInt (M0 P 8) := congrArg Int32.toInt (q_24 P 8 (wc_X8_refuse_8))
    have c33_24 : Int32.toInt (e_24.2 P 33) = Int32.toInt (M0 P 33) := congrArg Int32.toInt (q_24 P 33 (wc_X8_refuse_33))
    have n_24 : nA P e_24.2 = nA P M0 := nA_congr (fun a j h => q_24 a j (wf_nA_X8_refuse h))
    have p_jB_24 : jB P e_24.2 := jB.mono p_jB (fun a j h => q_24 a j (wf_jB_X8_refuse h))
    obtain ⟨u0_jB_24, u1_jB_24, u2_jB_24, u3_jB_24, u4_jB_24, u5_jB_24⟩ := id p_jB_24
    have p_jS_24 : jS P e_24.2 := jS.mono p_jS (fun a j h => q_24 a j (wf_jS_X8_refuse h))
    obtain ⟨u0_jS_24, u1_jS_24, u2_jS_24, u3_jS_24, u4_jS_24, u5_jS_24, u6_jS_24, u7_jS_24⟩ := jS.ints p_jS_24
    have p_jR_24 : jR P e_24.2 := jR.mono p_jR (fun a j h => q_24 a j (wf_jR_X8_refuse h))
    have p_jK_24 : jK P e_24.2 := jK.mono p_jK (fun a j h => q_24 a j (wf_jK_X8_refuse h))
    have p_jT_24 : jT P e_24.2 := jT.mono p_jT (fun a j h => q_24 a j (wf_jT_X8_refuse h))
    obtain ⟨u0_jT_24, u1_jT_24, u2_jT_24, u3_jT_24, u4_jT_24, u5_jT_24⟩ := id p_jT_24
    exact T_27 _ _ k_24 p_jB_24 p_jK_24 p_jR_24 p_jS_24 p_jT_24
  · have i_9 : ¬ Int32.toInt e_6 = Int32.toInt (0 : Int32) := fun q => h_9 (Int32.toInt_inj.mp q)
    (try simp only [Int32.toInt_add, Int32.toInt_sub, Int32.toInt_mul, Int32.toInt_toInt64, Int64.toInt_add, z_m1, Int32.reduceToInt, Int64.reduceToInt, Int32.reduceToNatClampNeg, Int.bmod_def] at i_9)
    refine vB (v_X8_becomes p_jB p_jS p_jR p_jK p_jT (by first | omega | (simp only [Int32.toInt_add, Int32.toInt_sub, Int32.toInt_mul, Int32.toInt_toInt64, Int64.toInt_add, z_m1, Int32.reduceToInt, Int64.reduceToInt, Int32.reduceToNatClampNeg, Int.bmod_def, or_true, true_or, and_true, true_and] <;> omega)) (by first | omega | (simp only [Int32.toInt_add, Int32.toInt_sub, Int32.toInt_mul, Int32.toInt_toInt64, Int64.toInt_add, z_m1, Int32.reduceToInt, Int64.reduceToInt, Int32.reduceToNatClampNeg, Int.bmod_def, or_true, true_or, and_true, true_and] <;> omega)) (Or.inr (Or.inr (Or.inr ⟨by decide, by decide, (by first | omega | (simp only [Int32.toInt_add, Int32.toInt_sub, Int32.toInt_mul, Int32.toInt_toInt64, Int64.toInt_add, z_m1, Int32.reduceToInt, Int64.reduceToInt, Int32.reduceToNatClampNeg, Int.bmod_def, or_true, true_or, and_true, true_and] <;> omega)), (by first | omega | (simp only [Int32.toInt_add, Int32.toInt_sub, Int32.toInt_mul, Int32.toInt_toInt64, Int64.toInt_add, z_m1, Int32.reduceToInt, Int64.reduceToInt, Int32.reduceToNatClampNeg, Int.bmod_def, or_true, true_or, and_true, true_and] <;> omega))⟩)))) (fun e_16 f_16 q_16 => ?_)
    have k_16 : ∀ a j, ¬ WM_X8_guests P a j → e_16.2 a j = M0 a j := fun a j h => (q_16.1 a j (wz_M_X8_becomes_X8_guests h))
    have c7_16 : Int32.toInt (e_16.2 P 7) = Int32.toInt (M0 P 7) := congrArg Int32.toInt (q_16.1 P 7 (wc_X8_becomes_7))
    have c8_16 : Int32.toInt (e_16.2 P 8) = Int32.toInt (M0 P 8) := congrArg Int32.toInt (q_16.1 P 8 (wc_X8_becomes_8))
    have c33_16 : Int32.toInt (e_16.2 P 33) = Int32.toInt (M0 P 33) := congrArg Int32.toInt (q_16.1 P 33 (wc_X8_becomes_33))
    have p_jB_16 : jB P e_16.2 := jB.mono p_jB (fun a j h => q_16.1 a j (wf_jB_X8_becomes h))
    obtain ⟨u0_jB_16, u1_jB_16, u2_jB_16, u3_jB_16, u4_jB_16, u5_jB_16⟩ := id p_jB_16
    have p_jR_16 : jR P e_16.2 := jR.mono p_jR (fun a j h => q_16.1 a j (wf_jR_X8_becomes h))
    obtain ⟨x0_16, x1_16, x2_16, x3_16, x4_16⟩ := q_16.2
    obtain ⟨u0_jB_16, u1_jB_16, u2_jB_16, u3_jB_16, u4_jB_16, u5_jB_16⟩ := id x0_16
    obtain ⟨u0_jS_16, u1_jS_16, u2_jS_16, u3_jS_16, u4_jS_16, u5_jS_16, u6_jS_16, u7_jS_16⟩ := jS.ints x1_16
    obtain ⟨u0_jT_16, u1_jT_16, u2_jT_16, u3_jT_16, u4_jT_16, u5_jT_16⟩ := id x4_16
    exact T_27 _ _ k_16 x0_16 x3_16 x2_16 x1_16 x4_16
