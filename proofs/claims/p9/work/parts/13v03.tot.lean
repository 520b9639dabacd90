def WM_X7_mean (P : Nat) (a j : Nat) : Prop := (P + 114 ≤ a ∧ a < P + 115) ∨ (P + 118 ≤ a ∧ a < P + 125) ∨ (a = P ∧ (j = 0 ∨ j = 3))
def WN_X7_mean (P : Nat) (a j : Nat) : Prop := (P + 113 ≤ a ∧ a < P + 114) ∨ (P + 115 ≤ a ∧ a < P + 117)
set_option maxRecDepth 100000 in
set_option maxHeartbeats 4000000 in
theorem v_X7_mean {P : Nat} {v0 : Int32} {M0 : zMt} {N0 : zNt}  : ∃ r, D_X7_mean P v0 M0 N0 = some r ∧ ((∀ a j, ¬ WM_X7_mean P a j → r.2.1 a j = M0 a j) ∧ (∀ a j, ¬ WN_X7_mean P a j → r.2.2 a j = N0 a j)) := by
  have TL_43 : ∀ u : Nat, ∀ (x1_43 : Int32) (x2_43 : Int64) (x4_43 : Int32) (M_43 : zMt) (N_43 : zNt), (∀ a j, ¬ WM_X7_mean P a j → M_43 a j = M0 a j) → (∀ a j, ¬ WN_X7_mean P a j → N_43 a j = N0 a j) → (2147483648 - Int32.toInt x4_43).toNat < u → ∃ r, D_X7_mean_43 P u x1_43 x2_43 x4_43 M_43 N_43 = some r ∧ ((∀ a j, ¬ WM_X7_mean P a j → r.2.1 a j = M0 a j) ∧ (∀ a j, ¬ WN_X7_mean P a j → r.2.2 a j = N0 a j)) := by
    intro u
    induction u with
    | zero => intro x1_43 x2_43 x4_43 M_43 N_43 k_43 kn_43 hm_43; exact absurd hm_43 (Nat.not_lt_zero _)
    | succ u_43 ih_43 =>
      intro x1_43 x2_43 x4_43 M_43 N_43 k_43 kn_43 hm_43
      rw [D_X7_mean_43]
      refine vIf (fun h_52 => ?_) (fun h_52 => ?_)
      · refine vB (v_X7_answerParts) (fun e_90 f_90 q_90 => ?_)
        have k_90 : ∀ a j, ¬ WM_X7_mean P a j → e_90.2 a j = M0 a j := fun a j h => (q_90 a j (by unfold WM_X7_answerParts; unfold WM_X7_mean at h; omega)).trans (k_43 a j h)
        exact ⟨_, rfl, k_90, kn_43⟩
      · refine vB (v_X0_certainUnit) (fun e_76 f_76 q_76 => ?_)
        exact ih_43 _ _ _ _ _ k_43 kn_43 (z_up1 (by first | assumption | exact z_lt (by assumption) | exact z_lt2 (by assumption) | exact z_lt3 (by assumption) (by first | assumption | decide)) hm_43)
  have T_43 : ∀ (x1_43 : Int32) (x2_43 : Int64) (x4_43 : Int32) (M_43 : zMt) (N_43 : zNt), (∀ a j, ¬ WM_X7_mean P a j → M_43 a j = M0 a j) → (∀ a j, ¬ WN_X7_mean P a j → N_43 a j = N0 a j) → ∃ r, D_X7_mean_43 P zFu x1_43 x2_43 x4_43 M_43 N_43 = some r ∧ ((∀ a j, ¬ WM_X7_mean P a j → r.2.1 a j = M0 a j) ∧ (∀ a j, ¬ WN_X7_mean P a j → r.2.2 a j = N0 a j)) := fun x1_43 x2_43 x4_43 M_43 N_43 k_43 kn_43 => TL_43 zFu x1_43 x2_43 x4_43 M_43 N_43 k_43 kn_43 (zFu_up _)
  unfold D_X7_mean
  refine vB (v_X7_isUnit) (fun e_2 f_2 q_2 => ?_)
  have b_2 := q_2
  refine vIf (fun h_5 => ?_) (fun h_5 => ?_)
  · refine vB (v_X7_refuse) (fun e_10 f_10 q_10 => ?_)
    have k_10 : ∀ a j, ¬ WM_X7_mean P a j → e_10.2 a j = M0 a j := fun a j h => (q_10 a j (by unfold WM_X7_refuse; unfold WM_X7_mean at h; omega))
    exact ⟨_, rfl, k_10, (fun _ _ _ => rfl)⟩
  · refine vIf (fun h_24 => ?_) (fun h_24 => ?_)
    · refine vB (v_X7_reckon) (fun e_35 f_35 q_35 => ?_)
      have k_35 : ∀ a j, ¬ WM_X7_mean P a j → e_35.1 a j = M0 a j := fun a j h => (q_35.1 a j (by unfold WM_X7_reckon; unfold WM_X7_mean at h; omega))
      have kn_35 : ∀ a j, ¬ WN_X7_mean P a j → e_35.2 a j = N0 a j := fun a j h => (q_35.2 a j (by unfold WN_X7_reckon; unfold WN_X7_mean at h; omega))
      exact T_43 _ _ _ _ _ k_35 kn_35
    · refine vB (v_X7_refuse) (fun e_29 f_29 q_29 => ?_)
      have k_29 : ∀ a j, ¬ WM_X7_mean P a j → e_29.2 a j = M0 a j := fun a j h => (q_29 a j (by unfold WM_X7_refuse; unfold WM_X7_mean at h; omega))
      exact ⟨_, rfl, k_29, (fun _ _ _ => rfl)⟩
def WM_X7_given (P : Nat) (a j : Nat) : Prop := (P + 114 ≤ a ∧ a < P + 115) ∨ (P + 118 ≤ a ∧ a < P + 125) ∨ (a = P ∧ (j = 0 ∨ j = 3))
def WN_X7_given (P : Nat) (a j : Nat) : Prop := (P + 113 ≤ a ∧ a < P + 114) ∨ (P + 115 ≤ a ∧ a < P + 117)
set_option maxRecDepth 100000 in
set_option maxHeartbeats 4000000 in
theorem v_X7_given {P : Nat} {v0 : Int32} {M0 : zMt} {N0 : zNt}  : ∃ r, D_X7_given P v0 M0 N0 = some r ∧ ((∀ a j, ¬ WM_X7_given P a j → r.2.1 a j = M0 a j) ∧ (∀ a j, ¬ WN_X7_given P a j → r.2.2 a j = N0 a j)) := by
  have T_67 : ∀ (y1_67 : Int32) (M_67 : zMt) (N_67 : zNt), (∀ a j, ¬ WM_X7_given P a j → M_67 a j = M0 a j) → (∀ a j, ¬ WN_X7_given P a j → N_67 a j = N0 a j) → ∃ r, D_X7_given_67 P y1_67 M_67 N_67 = some r ∧ ((∀ a j, ¬ WM_X7_given P a j → r.2.1 a j = M0 a j) ∧ (∀ a j, ¬ WN_X7_given P a j → r.2.2 a j = N0 a j)) := by
    intro y1_67 M_67 N_67 k_67 kn_67
    unfold D_X7_given_67
    refine vB (v_X7_answer) (fun e_67 f_67 q_67 => ?_)
    have k_67 : ∀ a j, ¬ WM_X7_given P a j → e_67.2 a j = M0 a j := fun a j h => (q_67 a j (by unfold WM_X7_answer; unfold WM_X7_given at h; omega)).trans (k_67 a j h)
    exact ⟨_, rfl, k_67, kn_67⟩
  have T_9 : ∀ (M_9 : zMt) (N_9 : zNt), (∀ a j, ¬ WM_X7_given P a j → M_9 a j = M0 a j) → (∀ a j, ¬ WN_X7_given P a j → N_9 a j = N0 a j) → ∃ r, D_X7_given_9 P M_9 N_9 = some r ∧ ((∀ a j, ¬ WM_X7_given P a j → r.2.1 a j = M0 a j) ∧ (∀ a j, ¬ WN_X7_given P a j → r.2.2 a j = N0 a j)) := by
    intro M_9 N_9 k_9 kn_9
    unfold D_X7_given_9
    refine vB (v_X7_refuse) (fun e_11 f_11 q_11 => ?_)
    have k_11 : ∀ a j, ¬ WM_X7_given P a j → e_11.2 a j = M0 a j := fun a j h => (q_11 a j (by unfold WM_X7_refuse; unfold WM_X7_given at h; omega)).trans (k_9 a j h)
    exact ⟨_, rfl, k_11, kn_9⟩
  unfold D_X7_given
  refine vIf (fun h_1 => ?_) (fun h_1 => ?_)
  · exact T_9 _ _ (fun _ _ _ => rfl) (fun _ _ _ => rfl)
  · refine vIf (fun h_6 => ?_) (fun h_6 => ?_)
    · refine vIf (fun h_24 => ?_) (fun h_24 => ?_)
      · refine vB (v_X7_reckon) (fun e_34 f_34 q_34 => ?_)
        have k_34 : ∀ a j, ¬ WM_X7_given P a j → e_34.1 a j = M0 a j := fun a j h => (q_34.1 a j (by unfold WM_X7_reckon; unfold WM_X7_given at h; omega))
        have kn_34 : ∀ a j, ¬ WN_X7_given P a j → e_34.2 a j = N0 a j := fun a j h => (q_34.2 a j (by unfold WN_X7_reckon; unfold WN_X7_given at h; omega))
        refine vIf (fun h_39 => ?_) (fun h_39 => ?_)
        · refine vB (v_X0_fewestTags) (fun e_50 f_50 q_50 => ?_)
          exact T_67 _ _ _ k_34 kn_34
        · refine vB (v_X0_mostTags) (fun e_64 f_64 q_64 => ?_)
          exact T_67 _ _ _ k_34 kn_34
      · refine vB (v_X7_refuse) (fun e_29 f_29 q_29 => ?_)
        have k_29 : ∀ a j, ¬ WM_X7_given P a j → e_29.2 a j = M0 a j := fun a j h => (q_29 a j (by unfold WM_X7_refuse; unfold WM_X7_given at h; omega))
        exact ⟨_, rfl, k_29, (fun _ _ _ => rfl)⟩
    · exact T_9 _ _ (fun _ _ _ => rfl) (fun _ _ _ => rfl)
def WM_X7_ends (P : Nat) (a j : Nat) : Prop := (P + 114 ≤ a ∧ a < P + 115) ∨ (P + 118 ≤ a ∧ a < P + 125) ∨ (a = P ∧ (j = 0 ∨ j = 3))
def WN_X7_ends (P : Nat) (a j : Nat) : Prop := (P + 113 ≤ a ∧ a < P + 114) ∨ (P + 115 ≤ a ∧ a < P + 117)
set_option maxRecDepth 100000 in
set_option maxHeartbeats 4000000 in
theorem v_X7_ends {P : Nat}  {M0 : zMt} {N0 : zNt}  : ∃ r, D_X7_ends P M0 N0 = some r ∧ ((∀ a j, ¬ WM_X7_ends P a j → r.2.1 a j = M0 a j) ∧ (∀ a j, ¬ WN_X7_ends P a j → r.2.2 a j = N0 a j)) := by
  unfold D_X7_ends
  refine vIf (fun h_9 => ?_) (fun h_9 => ?_)
  · refine vB (v_X7_reckon) (fun e_19 f_19 q_19 => ?_)
    have k_19 : ∀ a j, ¬ WM_X7_ends P a j → e_19.1 a j = M0 a j := fun a j h => (q_19.1 a j (by unfold WM_X7_reckon; unfold WM_X7_ends at h; omega))
    have kn_19 : ∀ a j, ¬ WN_X7_ends P a j → e_19.2 a j = N0 a j := fun a j h => (q_19.2 a j (by unfold WN_X7_reckon; unfold WN_X7_ends at h; omega))
    refine vB (v_X7_answer) (fun e_33 f_33 q_33 => ?_)
    have k_33 : ∀ a j, ¬ WM_X7_ends P a j → e_33.2 a j = M0 a j := fun a j h => (q_33 a j (by unfold WM_X7_answer; unfold WM_X7_ends at h; omega)).trans (k_19 a j h)
    exact ⟨_, rfl, k_33, kn_19⟩
  · refine vB (v_X7_refuse) (fun e_14 f_14 q_14 => ?_)
    have k_14 : ∀ a j, ¬ WM_X7_ends P a j → e_14.2 a j = M0 a j := fun a j h => (q_14 a j (by unfold WM_X7_refuse; unfold WM_X7_ends at h; omega))
    exact ⟨_, rfl, k_14, (fun _ _ _ => rfl)⟩
def WM_X7_need (P : Nat) (a j : Nat) : Prop := (P + 159 ≤ a ∧ a < P + 166) ∨ (P + 167 ≤ a ∧ a < P + 179) ∨ (P + 189 ≤ a ∧ a < P + 190) ∨ (P + 193 ≤ a ∧ a < P + 200) ∨ (a = P ∧ (j = 0)) ∨ (a = P + 158 ∧ (j = 0 ∨ j = 1 ∨ j = 2 ∨ j = 3 ∨ j = 4 ∨ j = 5 ∨ j = 6)) ∨ (a = P + 166 ∧ (j = 0 ∨ j = 1 ∨ j = 2 ∨ j = 3))
def WN_X7_need (P : Nat) (a j : Nat) : Prop := (P + 188 ≤ a ∧ a < P + 189) ∨ (P + 190 ≤ a ∧ a < P + 192)
set_option maxRecDepth 100000 in
set_option maxHeartbeats 4000000 in
theorem v_X7_need {P : Nat} {v0 : Int32} {v1 : Int32} {M0 : zMt} {N0 : zNt}  : ∃ r, D_X7_need P v0 v1 M0 N0 = some r ∧ ((∀ a j, ¬ WM_X7_need P a j → r.2.1 a j = M0 a j) ∧ (∀ a j, ¬ WN_X7_need P a j → r.2.2 a j = N0 a j)) := by
  have TL_97 : ∀ u : Nat, ∀ (x1_97 : Int32) (x2_97 : Int32) (x3_97 : Int32) (x4_97 : Int32) (M_97 : zMt) (N_97 : zNt), (∀ a j, ¬ WM_X7_need P a j → M_97 a j = M0 a j) → (∀ a j, ¬ WN_X7_need P a j → N_97 a j = N0 a j) → (2147483648 - Int32.toInt x4_97).toNat < u → ∃ r, D_X7_need_97 P u x1_97 x2_97 x3_97 x4_97 M_97 N_97 = some r ∧ ((∀ a j, ¬ WM_X7_need P a j → r.2.1 a j = M0 a j) ∧ (∀ a j, ¬ WN_X7_need P a j → r.2.2 a j = N0 a j)) := by
    intro u
    induction u with
    | zero => intro x1_97 x2_97 x3_97 x4_97 M_97 N_97 k_97 kn_97 hm_97; exact absurd hm_97 (Nat.not_lt_zero _)
    | succ u_97 ih_97 =>
      intro x1_97 x2_97 x3_97 x4_97 M_97 N_97 k_97 kn_97 hm_97
      rw [D_X7_need_97]
      refine vIf (fun h_101 => ?_) (fun h_101 => ?_)
      · refine vB (v_X7_refuse) (fun e_172 f_172 q_172 => ?_)
        have k_172 : ∀ a j, ¬ WM_X7_need P a j → e_172.2 a j = M0 a j := fun a j h => (q_172 a j (by unfold WM_X7_refuse; unfold WM_X7_need at h; omega)).trans (k_97 a j h)
        exact ⟨_, rfl, k_172, kn_97⟩
      · refine vLm (W := WM_X7_need P) (fun a j h => (congrFun (zwr_row (by unfold WM_X7_need at h; omega)) j).trans (k_97 a j h)) (fun M_114 f_114 k_114 => ?_)
        refine vB (v_X2_gather) (fun e_125 f_125 q_125 => ?_)
        have k_125 : ∀ a j, ¬ WM_X7_need P a j → e_125 a j = M0 a j := fun a j h => (q_125 a j (by unfold WM_X2_gather; unfold WM_X7_need at h; omega)).trans (k_114 a j h)
        refine vB (v_X0_reckon) (fun e_136 f_136 q_136 => ?_)
        have k_136 : ∀ a j, ¬ WM_X7_need P a j → e_136.1 a j = M0 a j := fun a j h => (q_136.1 a j (by unfold WM_X0_reckon; unfold WM_X7_need at h; omega)).trans (k_125 a j h)
        have kn_136 : ∀ a j, ¬ WN_X7_need P a j → e_136.2 a j = N0 a j := fun a j h => (q_136.2 a j (by unfold WN_X0_reckon; unfold WN_X7_need at h; omega)).trans (kn_97 a j h)
        refine vB (v_X0_anyUnit) (fun e_144 f_144 q_144 => ?_)
        refine vIf (fun h_154 => ?_) (fun h_154 => ?_)
        · exact ih_97 _ _ _ _ _ _ k_136 kn_136 (z_up1 (by first | assumption | exact z_lt (by assumption) | exact z_lt2 (by assumption) | exact z_lt3 (by assumption) (by first | assumption | decide)) hm_97)
        · refine vB (v_X7_answer) (fun e_160 f_160 q_160 => ?_)
          have k_160 : ∀ a j, ¬ WM_X7_need P a j → e_160.2 a j = M0 a j := fun a j h => (q_160 a j (by unfold WM_X7_answer; unfold WM_X7_need at h; omega)).trans (k_136 a j h)
          exact ⟨_, rfl, k_160, kn_136⟩
  have T_97 : ∀ (x1_97 : Int32) (x2_97 : Int32) (x3_97 : Int32) (x4_97 : Int32) (M_97 : zMt) (N_97 : zNt), (∀ a j, ¬ WM_X7_need P a j → M_97 a j = M0 a j) → (∀ a j, ¬ WN_X7_need P a j → N_97 a j = N0 a j) → ∃ r, D_X7_need_97 P zFu x1_97 x2_97 x3_97 x4_97 M_97 N_97 = some r ∧ ((∀ a j, ¬ WM_X7_need P a j → r.2.1 a j = M0 a j) ∧ (∀ a j, ¬ WN_X7_need P a j → r.2.2 a j = N0 a j)) := fun x1_97 x2_97 x3_97 x4_97 M_97 N_97 k_97 kn_97 => TL_97 zFu x1_97 x2_97 x3_97 x4_97 M_97 N_97 k_97 kn_97 (zFu_up _)
  have T_11 : ∀ (M_11 : zMt) (N_11 : zNt), (∀ a j, ¬ WM_X7_need P a j → M_11 a j = M0 a j) → (∀ a j, ¬ WN_X7_need P a j → N_11 a j = N0 a j) → ∃ r, D_X7_need_11 P M_11 N_11 = some r ∧ ((∀ a j, ¬ WM_X7_need P a j → r.2.1 a j = M0 a j) ∧ (∀ a j, ¬ WN_X7_need P a j → r.2.2 a j = N0 a j)) := by
    intro M_11 N_11 k_11 kn_11
    unfold D_X7_need_11
    refine vB (v_X7_refuse) (fun e_13 f_13 q_13 => ?_)
    have k_13 : ∀ a j, ¬ WM_X7_need P a j → e_13.2 a j = M0 a j := fun a j h => (q_13 a j (by unfold WM_X7_refuse; unfold WM_X7_need at h; omega)).trans (k_11 a j h)
    exact ⟨_, rfl, k_13, kn_11⟩
  unfold D_X7_need
  refine vIf (fun h_1 => ?_) (fun h_1 => ?_)
  · exact T_11 _ _ (fun _ _ _ => rfl) (fun _ _ _ => rfl)
  · refine vIf (fun h_8 => ?_) (fun h_8 => ?_)
    · refine vB (v_X7_isHunter) (fun e_19 f_19 q_19 => ?_)
      have b_19 := q_19
      refine vIf (fun h_22 => ?_) (fun h_22 => ?_)
      · refine vB (v_X7_refuse) (fun e_27 f_27 q_27 => ?_)
        have k_27 : ∀ a j, ¬ WM_X7_need P a j → e_27.2 a j = M0 a j := fun a j h => (q_27 a j (by unfold WM_X7_refuse; unfold WM_X7_need at h; omega))
        exact ⟨_, rfl, k_27, (fun _ _ _ => rfl)⟩
      · refine vIf (fun h_43 => ?_) (fun h_43 => ?_)
        · refine vIf (fun h_62 => ?_) (fun h_62 => ?_)
          · refine vB (v_X4_take) (fun e_91 f_91 q_91 => ?_)
            have k_91 : ∀ a j, ¬ WM_X7_need P a j → e_91 a j = M0 a j := fun a j h => (q_91 a j (by unfold WM_X4_take; unfold WM_X7_need at h; omega))
            exact T_97 _ _ _ _ _ _ k_91 (fun _ _ _ => rfl)
          · refine vB (v_X7_refuse) (fun e_67 f_67 q_67 => ?_)
            have k_67 : ∀ a j, ¬ WM_X7_need P a j → e_67.2 a j = M0 a j := fun a j h => (q_67 a j (by unfold WM_X7_refuse; unfold WM_X7_need at h; omega))
            exact ⟨_, rfl, k_67, (fun _ _ _ => rfl)⟩
        · refine vB (v_X7_refuse) (fun e_49 f_49 q_49 => ?_)
          have k_49 : ∀ a j, ¬ WM_X7_need P a j → e_49.2 a j = M0 a j := fun a j h => (q_49 a j (by unfold WM_X7_refuse; unfold WM_X7_need at h; omega))
          exact ⟨_, rfl, k_49, (fun _ _ _ => rfl)⟩
    · exact T_11 _ _ (fun _ _ _ => rfl) (fun _ _ _ => rfl)
set_option maxRecDepth 100000 in
set_option maxHeartbeats 4000000 in
theorem v_X7_whyNotWise {P : Nat} {M : zMt} {v0 : Int32}  : ∃ r, D_X7_whyNotWise P M v0 = some r ∧ (True) := by
  have T_39 : ∀ (y0_39 : Int32), ∃ r, D_X7_whyNotWise_39 P M y0_39 = some r ∧ (True) := by
    intro y0_39
    unfold D_X7_whyNotWise_39
    exact ⟨_, rfl, trivial⟩
  unfold D_X7_whyNotWise
  refine vB (v_X7_isApplicant) (fun e_2 f_2 q_2 => ?_)
  have b_2 := q_2
  refine vIf (fun h_5 => ?_) (fun h_5 => ?_)
  · exact ⟨_, rfl, trivial⟩
  · refine vIf (fun h_19 => ?_) (fun h_19 => ?_)
    · refine vIf (fun h_31 => ?_) (fun h_31 => ?_)
      · exact T_39 _
      · exact T_39 _
    · exact ⟨_, rfl, trivial⟩
def WM_X7_partsOfOnly (P : Nat) (a j : Nat) : Prop := (P + 159 ≤ a ∧ a < P + 166) ∨ (P + 167 ≤ a ∧ a < P + 179) ∨ (P + 189 ≤ a ∧ a < P + 190) ∨ (P + 193 ≤ a ∧ a < P + 200) ∨ (a = P + 158 ∧ (j = 0 ∨ j = 1 ∨ j = 2 ∨ j = 3 ∨ j = 4 ∨ j = 5 ∨ j = 6)) ∨ (a = P + 166 ∧ (j = 0 ∨ j = 1 ∨ j = 2 ∨ j = 3))
def WN_X7_partsOfOnly (P : Nat) (a j : Nat) : Prop := (P + 188 ≤ a ∧ a < P + 189) ∨ (P + 190 ≤ a ∧ a < P + 192)
set_option maxRecDepth 100000 in
set_option maxHeartbeats 4000000 in
theorem v_X7_partsOfOnly {P : Nat} {v0 : Int32} {v1 : Int32} {M0 : zMt} {N0 : zNt}  : ∃ r, D_X7_partsOfOnly P v0 v1 M0 N0 = some r ∧ ((∀ a j, ¬ WM_X7_partsOfOnly P a j → r.2.1 a j = M0 a j) ∧ (∀ a j, ¬ WN_X7_partsOfOnly P a j → r.2.2 a j = N0 a j)) := by
  unfold D_X7_partsOfOnly
  refine vB (v_X4_take) (fun e_8 f_8 q_8 => ?_)
  have k_8 : ∀ a j, ¬ WM_X7_partsOfOnly P a j → e_8 a j = M0 a j := fun a j h => (q_8 a j (by unfold WM_X4_take; unfold WM_X7_partsOfOnly at h; omega))
  refine vB (v_X4_wishFor) (fun e_29 f_29 q_29 => ?_)
  have k_29 : ∀ a j, ¬ WM_X7_partsOfOnly P a j → e_29 a j = M0 a j := fun a j h => (q_29 a j (by unfold WM_X4_wishFor; unfold WM_X7_partsOfOnly at h; omega)).trans (k_8 a j h)
  refine vB (v_X2_gather) (fun e_40 f_40 q_40 => ?_)
  have k_40 : ∀ a j, ¬ WM_X7_partsOfOnly P a j → e_40 a j = M0 a j := fun a j h => (q_40 a j (by unfold WM_X2_gather; unfold WM_X7_partsOfOnly at h; omega)).trans (k_29 a j h)
  refine vB (v_X0_reckon) (fun e_51 f_51 q_51 => ?_)
  have k_51 : ∀ a j, ¬ WM_X7_partsOfOnly P a j → e_51.1 a j = M0 a j := fun a j h => (q_51.1 a j (by unfold WM_X0_reckon; unfold WM_X7_partsOfOnly at h; omega)).trans (k_40 a j h)
  have kn_51 : ∀ a j, ¬ WN_X7_partsOfOnly P a j → e_51.2 a j = N0 a j := fun a j h => (q_51.2 a j (by unfold WN_X0_reckon; unfold WN_X7_partsOfOnly at h; omega))
  refine vB (v_X0_anyUnit) (fun e_59 f_59 q_59 => ?_)
  exact ⟨_, rfl, k_51, kn_51⟩
def WM_X7_wise (P : Nat) (a j : Nat) : Prop := (P + 159 ≤ a ∧ a < P + 166) ∨ (P + 167 ≤ a ∧ a < P + 179) ∨ (P + 189 ≤ a ∧ a < P + 190) ∨ (P + 193 ≤ a ∧ a < P + 200) ∨ (a = P ∧ (j = 0)) ∨ (a = P + 158 ∧ (j = 0 ∨ j = 1 ∨ j = 2 ∨ j = 3 ∨ j = 4 ∨ j = 5 ∨ j = 6)) ∨ (a = P + 166 ∧ (j = 0 ∨ j = 1 ∨ j = 2 ∨ j = 3))
def WN_X7_wise (P : Nat) (a j : Nat) : Prop := (P + 188 ≤ a ∧ a < P + 189) ∨ (P + 190 ≤ a ∧ a < P + 192)
set_option maxRecDepth 100000 in
set_option maxHeartbeats 4000000 in
theorem v_X7_wise {P : Nat} {v0 : Int32} {M0 : zMt} {N0 : zNt}  : ∃ r, D_X7_wise P v0 M0 N0 = some r ∧ ((∀ a j, ¬ WM_X7_wise P a j → r.2.1 a j = M0 a j) ∧ (∀ a j, ¬ WN_X7_wise P a j → r.2.2 a j = N0 a j)) := by
  have TL_26 : ∀ u : Nat, ∀ (x1_26 : Int32) (x3_26 : Int32) (x4_26 : Int64) (x6_26 : Int32) (M_26 : zMt) (N_26 : zNt), (∀ a j, ¬ WM_X7_wise P a j → M_26 a j = M0 a j) → (∀ a j, ¬ WN_X7_wise P a j → N_26 a j = N0 a j) → (2147483648 - Int32.toInt x6_26).toNat < u → ∃ r, D_X7_wise_26 P u x1_26 x3_26 x4_26 x6_26 M_26 N_26 = some r ∧ ((∀ a j, ¬ WM_X7_wise P a j → r.2.1 a j = M0 a j) ∧ (∀ a j, ¬ WN_X7_wise P a j → r.2.2 a j = N0 a j)) := by
    intro u
    induction u with
    | zero => intro x1_26 x3_26 x4_26 x6_26 M_26 N_26 k_26 kn_26 hm_26; exact absurd hm_26 (Nat.not_lt_zero _)
    | succ u_26 ih_26 =>
      have T_62 : ∀ (x1_62 : Int32) (x3_62 : Int32) (x4_62 : Int64) (x6_62 : Int32) (M_62 : zMt) (N_62 : zNt), (∀ a j, ¬ WM_X7_wise P a j → M_62 a j = M0 a j) → (∀ a j, ¬ WN_X7_wise P a j → N_62 a j = N0 a j) → ((2147483648 - Int32.toInt x6_62).toNat < u_26 + 1) → (Int32.toInt x6_62 < 2147483647) → ∃ r, D_X7_wise_62 P (D_X7_wise_26 P u_26) x1_62 x3_62 x4_62 x6_62 M_62 N_62 = some r ∧ ((∀ a j, ¬ WM_X7_wise P a j → r.2.1 a j = M0 a j) ∧ (∀ a j, ¬ WN_X7_wise P a j → r.2.2 a j = N0 a j)) := by
        intro x1_62 x3_62 x4_62 x6_62 M_62 N_62 k_62 kn_62 f0_62 f1_62
        unfold D_X7_wise_62
        exact ih_26 _ _ _ _ _ _ k_62 kn_62 (z_up1 f1_62 f0_62)
      intro x1_26 x3_26 x4_26 x6_26 M_26 N_26 k_26 kn_26 hm_26
      rw [D_X7_wise_26]
      refine vIf (fun h_35 => ?_) (fun h_35 => ?_)
      · refine vB (v_X7_answer) (fun e_70 f_70 q_70 => ?_)
        have k_70 : ∀ a j, ¬ WM_X7_wise P a j → e_70.2 a j = M0 a j := fun a j h => (q_70 a j (by unfold WM_X7_answer; unfold WM_X7_wise at h; omega)).trans (k_26 a j h)
        exact ⟨_, rfl, k_70, kn_26⟩
      · refine vB (v_X7_partsOfOnly) (fun e_42 f_42 q_42 => ?_)
        have k_42 : ∀ a j, ¬ WM_X7_wise P a j → e_42.2.1 a j = M0 a j := fun a j h => (q_42.1 a j (by unfold WM_X7_partsOfOnly; unfold WM_X7_wise at h; omega)).trans (k_26 a j h)
        have kn_42 : ∀ a j, ¬ WN_X7_wise P a j → e_42.2.2 a j = N0 a j := fun a j h => (q_42.2 a j (by unfold WN_X7_partsOfOnly; unfold WN_X7_wise at h; omega)).trans (kn_26 a j h)
        refine vIf (fun h_52 => ?_) (fun h_52 => ?_)
        · exact T_62 _ _ _ _ _ _ k_42 kn_42 hm_26 (by first | assumption | exact z_lt (by assumption) | exact z_lt2 (by assumption) | exact z_lt3 (by assumption) (by first | assumption | decide))
        · exact T_62 _ _ _ _ _ _ k_42 kn_42 hm_26 (by first | assumption | exact z_lt (by assumption) | exact z_lt2 (by assumption) | exact z_lt3 (by assumption) (by first | assumption | decide))
  have T_26 : ∀ (x1_26 : Int32) (x3_26 : Int32) (x4_26 : Int64) (x6_26 : Int32) (M_26 : zMt) (N_26 : zNt), (∀ a j, ¬ WM_X7_wise P a j → M_26 a j = M0 a j) → (∀ a j, ¬ WN_X7_wise P a j → N_26 a j = N0 a j) → ∃ r, D_X7_wise_26 P zFu x1_26 x3_26 x4_26 x6_26 M_26 N_26 = some r ∧ ((∀ a j, ¬ WM_X7_wise P a j → r.2.1 a j = M0 a j) ∧ (∀ a j, ¬ WN_X7_wise P a j → r.2.2 a j = N0 a j)) := fun x1_26 x3_26 x4_26 x6_26 M_26 N_26 k_26 kn_26 => TL_26 zFu x1_26 x3_26 x4_26 x6_26 M_26 N_26 k_26 kn_26 (zFu_up _)
  unfold D_X7_wise
  refine vB (v_X7_whyNotWise) (fun e_2 f_2 q_2 => ?_)
  refine vIf (fun h_7 => ?_) (fun h_7 => ?_)
  · exact T_26 _ _ _ _ _ _ (fun _ _ _ => rfl) (fun _ _ _ => rfl)
  · refine vB (v_X7_refuse) (fun e_12 f_12 q_12 => ?_)
    have k_12 : ∀ a j, ¬ WM_X7_wise P a j → e_12.2 a j = M0 a j := fun a j h => (q_12 a j (by unfold WM_X7_refuse; unfold WM_X7_wise at h; omega))
    exact ⟨_, rfl, k_12, (fun _ _ _ => rfl)⟩
def WM_X7_wiseChance (P : Nat) (a j : Nat) : Prop := (P + 159 ≤ a ∧ a < P + 166) ∨ (P + 167 ≤ a ∧ a < P + 179) ∨ (P + 189 ≤ a ∧ a < P + 190) ∨ (P + 193 ≤ a ∧ a < P + 200) ∨ (a = P ∧ (j = 0)) ∨ (a = P + 158 ∧ (j = 0 ∨ j = 1 ∨ j = 2 ∨ j = 3 ∨ j = 4 ∨ j = 5 ∨ j = 6)) ∨ (a = P + 166 ∧ (j = 0 ∨ j = 1 ∨ j = 2 ∨ j = 3))
def WN_X7_wiseChance (P : Nat) (a j : Nat) : Prop := (P + 188 ≤ a ∧ a < P + 189) ∨ (P + 190 ≤ a ∧ a < P + 192)
set_option maxRecDepth 100000 in
set_option maxHeartbeats 4000000 in
theorem v_X7_wiseChance {P : Nat} {v0 : Int32} {M0 : zMt} {N0 : zNt}  : ∃ r, D_X7_wiseChance P v0 M0 N0 = some r ∧ ((∀ a j, ¬ WM_X7_wiseChance P a j → r.2.1 a j = M0 a j) ∧ (∀ a j, ¬ WN_X7_wiseChance P a j → r.2.2 a j = N0 a j)) := by
  have TL_22 : ∀ u : Nat, ∀ (x1_22 : Int32) (x3_22 : Int64) (x5_22 : Int32) (M_22 : zMt) (N_22 : zNt), (∀ a j, ¬ WM_X7_wiseChance P a j → M_22 a j = M0 a j) → (∀ a j, ¬ WN_X7_wiseChance P a j → N_22 a j = N0 a j) → (2147483648 - Int32.toInt x5_22).toNat < u → ∃ r, D_X7_wiseChance_22 P u x1_22 x3_22 x5_22 M_22 N_22 = some r ∧ ((∀ a j, ¬ WM_X7_wiseChance P a j → r.2.1 a j = M0 a j) ∧ (∀ a j, ¬ WN_X7_wiseChance P a j → r.2.2 a j = N0 a j)) := by
    intro u
    induction u with
    | zero => intro x1_22 x3_22 x5_22 M_22 N_22 k_22 kn_22 hm_22; exact absurd hm_22 (Nat.not_lt_zero _)
    | succ u_22 ih_22 =>
      intro x1_22 x3_22 x5_22 M_22 N_22 k_22 kn_22 hm_22
      rw [D_X7_wiseChance_22]
      refine vIf (fun h_31 => ?_) (fun h_31 => ?_)
      · refine vB (v_X7_answerParts) (fun e_54 f_54 q_54 => ?_)
        have k_54 : ∀ a j, ¬ WM_X7_wiseChance P a j → e_54.2 a j = M0 a j := fun a j h => (q_54 a j (by unfold WM_X7_answerParts; unfold WM_X7_wiseChance at h; omega)).trans (k_22 a j h)
        exact ⟨_, rfl, k_54, kn_22⟩
      · refine vB (v_X7_partsOfOnly) (fun e_39 f_39 q_39 => ?_)
        have k_39 : ∀ a j, ¬ WM_X7_wiseChance P a j → e_39.2.1 a j = M0 a j := fun a j h => (q_39.1 a j (by unfold WM_X7_partsOfOnly; unfold WM_X7_wiseChance at h; omega)).trans (k_22 a j h)
        have kn_39 : ∀ a j, ¬ WN_X7_wiseChance P a j → e_39.2.2 a j = N0 a j := fun a j h => (q_39.2 a j (by unfold WN_X7_partsOfOnly; unfold WN_X7_wiseChance at h; omega)).trans (kn_22 a j h)
        exact ih_22 _ _ _ _ _ k_39 kn_39 (z_up1 (by first | assumption | exact z_lt (by assumption) | exact z_lt2 (by assumption) | exact z_lt3 (by assumption) (by first | assumption | decide)) hm_22)
  have T_22 : ∀ (x1_22 : Int32) (x3_22 : Int64) (x5_22 : Int32) (M_22 : zMt) (N_22 : zNt), (∀ a j, ¬ WM_X7_wiseChance P a j → M_22 a j = M0 a j) → (∀ a j, ¬ WN_X7_wiseChance P a j → N_22 a j = N0 a j) → ∃ r, D_X7_wiseChance_22 P zFu x1_22 x3_22 x5_22 M_22 N_22 = some r ∧ ((∀ a j, ¬ WM_X7_wiseChance P a j → r.2.1 a j = M0 a j) ∧ (∀ a j, ¬ WN_X7_wiseChance P a j → r.2.2 a j = N0 a j)) := fun x1_22 x3_22 x5_22 M_22 N_22 k_22 kn_22 => TL_22 zFu x1_22 x3_22 x5_22 M_22 N_22 k_22 kn_22 (zFu_up _)
  unfold D_X7_wiseChance
  refine vB (v_X7_whyNotWise) (fun e_2 f_2 q_2 => ?_)
  refine vIf (fun h_7 => ?_) (fun h_7 => ?_)
  · exact T_22 _ _ _ _ _ (fun _ _ _ => rfl) (fun _ _ _ => rfl)
  · refine vB (v_X7_refuse) (fun e_12 f_12 q_12 => ?_)
    have k_12 : ∀ a j, ¬ WM_X7_wiseChance P a j → e_12.2 a j = M0 a j := fun a j h => (q_12 a j (by unfold WM_X7_refuse; unfold WM_X7_wiseChance at h; omega))
    exact ⟨_, rfl, k_12, (fun _ _ _ => rfl)⟩
def WM_X7_together (P : Nat) (a j : Nat) : Prop := (P + 159 ≤ a ∧ a < P + 166) ∨ (P + 167 ≤ a ∧ a < P + 179) ∨ (P + 189 ≤ a ∧ a < P + 190) ∨ (P + 193 ≤ a ∧ a < P + 200) ∨ (a = P ∧ (j = 0)) ∨ (a = P + 158 ∧ (j = 0 ∨ j = 1 ∨ j = 2 ∨ j = 3 ∨ j = 4 ∨ j = 5 ∨ j = 6)) ∨ (a = P + 166 ∧ (j = 0 ∨ j = 1 ∨ j = 2 ∨ j = 3))
def WN_X7_together (P : Nat) (a j : Nat) : Prop := (P + 188 ≤ a ∧ a < P + 189) ∨ (P + 190 ≤ a ∧ a < P + 192)
set_option maxRecDepth 100000 in
set_option maxHeartbeats 4000000 in
theorem v_X7_together {P : Nat} {v0 : Int32} {v1 : Int32} {M0 : zMt} {N0 : zNt}  : ∃ r, D_X7_together P v0 v1 M0 N0 = some r ∧ ((∀ a j, ¬ WM_X7_together P a j → r.2.1 a j = M0 a j) ∧ (∀ a j, ¬ WN_X7_together P a j → r.2.2 a j = N0 a j)) := by
  have T_65 : ∀ (M_65 : zMt) (N_65 : zNt), (∀ a j, ¬ WM_X7_together P a j → M_65 a j = M0 a j) → (∀ a j, ¬ WN_X7_together P a j → N_65 a j = N0 a j) → ∃ r, D_X7_together_65 P M_65 N_65 = some r ∧ ((∀ a j, ¬ WM_X7_together P a j → r.2.1 a j = M0 a j) ∧ (∀ a j, ¬ WN_X7_together P a j → r.2.2 a j = N0 a j)) := by
    intro M_65 N_65 k_65 kn_65
    unfold D_X7_together_65
    refine vB (v_X7_refuse) (fun e_68 f_68 q_68 => ?_)
    have k_68 : ∀ a j, ¬ WM_X7_together P a j → e_68.2 a j = M0 a j := fun a j h => (q_68 a j (by unfold WM_X7_refuse; unfold WM_X7_together at h; omega)).trans (k_65 a j h)
    exact ⟨_, rfl, k_68, kn_65⟩
  have T_16 : ∀ (M_16 : zMt) (N_16 : zNt), (∀ a j, ¬ WM_X7_together P a j → M_16 a j = M0 a j) → (∀ a j, ¬ WN_X7_together P a j → N_16 a j = N0 a j) → ∃ r, D_X7_together_16 P M_16 N_16 = some r ∧ ((∀ a j, ¬ WM_X7_together P a j → r.2.1 a j = M0 a j) ∧ (∀ a j, ¬ WN_X7_together P a j → r.2.2 a j = N0 a j)) := by
    intro M_16 N_16 k_16 kn_16
    unfold D_X7_together_16
    refine vB (v_X7_refuse) (fun e_18 f_18 q_18 => ?_)
    have k_18 : ∀ a j, ¬ WM_X7_together P a j → e_18.2 a j = M0 a j := fun a j h => (q_18 a j (by unfold WM_X7_refuse; unfold WM_X7_together at h; omega)).trans (k_16 a j h)
    exact ⟨_, rfl, k_18, kn_16⟩
  unfold D_X7_together
  refine vB (v_X7_isHunter) (fun e_2 f_2 q_2 => ?_)
  have b_2 := q_2
  refine vIf (fun h_5 => ?_) (fun h_5 => ?_)
  · exact T_16 _ _ (fun _ _ _ => rfl) (fun _ _ _ => rfl)
  · refine vB (v_X7_isHunter) (fun e_10 f_10 q_10 => ?_)
    have b_10 := q_10
    refine vIf (fun h_13 => ?_) (fun h_13 => ?_)
    · exact T_16 _ _ (fun _ _ _ => rfl) (fun _ _ _ => rfl)
    · refine vIf (fun h_25 => ?_) (fun h_25 => ?_)
      · refine vB (v_X7_refuse) (fun e_30 f_30 q_30 => ?_)
        have k_30 : ∀ a j, ¬ WM_X7_together P a j → e_30.2 a j = M0 a j := fun a j h => (q_30 a j (by unfold WM_X7_refuse; unfold WM_X7_together at h; omega))
        exact ⟨_, rfl, k_30, (fun _ _ _ => rfl)⟩
      · refine vIf (fun h_47 => ?_) (fun h_47 => ?_)
        · refine vIf (fun h_62 => ?_) (fun h_62 => ?_)
          · refine vIf (fun h_82 => ?_) (fun h_82 => ?_)
            · refine vB (v_X4_take) (fun e_100 f_100 q_100 => ?_)
              have k_100 : ∀ a j, ¬ WM_X7_together P a j → e_100 a j = M0 a j := fun a j h => (q_100 a j (by unfold WM_X4_take; unfold WM_X7_together at h; omega))
              refine vB (v_X4_join) (fun e_109 f_109 q_109 => ?_)
              have k_109 : ∀ a j, ¬ WM_X7_together P a j → e_109 a j = M0 a j := fun a j h => (q_109 a j (by unfold WM_X4_join; unfold WM_X7_together at h; omega)).trans (k_100 a j h)
              refine vB (v_X2_gather) (fun e_120 f_120 q_120 => ?_)
              have k_120 : ∀ a j, ¬ WM_X7_together P a j → e_120 a j = M0 a j := fun a j h => (q_120 a j (by unfold WM_X2_gather; unfold WM_X7_together at h; omega)).trans (k_109 a j h)
              refine vB (v_X0_reckon) (fun e_131 f_131 q_131 => ?_)
              have k_131 : ∀ a j, ¬ WM_X7_together P a j → e_131.1 a j = M0 a j := fun a j h => (q_131.1 a j (by unfold WM_X0_reckon; unfold WM_X7_together at h; omega)).trans (k_120 a j h)
              have kn_131 : ∀ a j, ¬ WN_X7_together P a j → e_131.2 a j = N0 a j := fun a j h => (q_131.2 a j (by unfold WN_X0_reckon; unfold WN_X7_together at h; omega))
              refine vB (v_X0_anyUnit) (fun e_150 f_150 q_150 => ?_)
              refine vB (v_X7_answerParts) (fun e_153 f_153 q_153 => ?_)
              have k_153 : ∀ a j, ¬ WM_X7_together P a j → e_153.2 a j = M0 a j := fun a j h => (q_153 a j (by unfold WM_X7_answerParts; unfold WM_X7_together at h; omega)).trans (k_131 a j h)
              exact ⟨_, rfl, k_153, kn_131⟩
            · refine vB (v_X7_refuse) (fun e_87 f_87 q_87 => ?_)
              have k_87 : ∀ a j, ¬ WM_X7_together P a j → e_87.2 a j = M0 a j := fun a j h => (q_87 a j (by unfold WM_X7_refuse; unfold WM_X7_together at h; omega))
              exact ⟨_, rfl, k_87, (fun _ _ _ => rfl)⟩
          · exact T_65 _ _ (fun _ _ _ => rfl) (fun _ _ _ => rfl)
        · exact T_65 _ _ (fun _ _ _ => rfl) (fun _ _ _ => rfl)
set_option maxRecDepth 100000 in
set_option maxHeartbeats 4000000 in
theorem v_X7_isParty {P : Nat} {M : zMt} {v0 : Int32}  : ∃ r, D_X7_isParty P M v0 = some r ∧ ((r = 0 ∨ r = 1)) := by
  have T_20 : ∀ (y0_20 : Int32), (y0_20 = 0 ∨ y0_20 = 1) → ∃ r, D_X7_isParty_20 P M y0_20 = some r ∧ ((r = 0 ∨ r = 1)) := by
    intro y0_20 f0_20
    unfold D_X7_isParty_20
    exact ⟨_, rfl, (by first | exact Or.inl rfl | exact Or.inr rfl | assumption)⟩
  have T_19 : ∃ r, D_X7_isParty_19 P M = some r ∧ ((r = 0 ∨ r = 1)) := by
    unfold D_X7_isParty_19
    exact T_20 _ (by first | exact Or.inl rfl | exact Or.inr rfl | assumption)
  unfold D_X7_isParty
  refine vIf (fun h_1 => ?_) (fun h_1 => ?_)
  · exact T_19
  · refine vIf (fun h_12 => ?_) (fun h_12 => ?_)
    · exact T_19
    · exact T_20 _ (by first | exact Or.inl rfl | exact Or.inr rfl | assumption)
def WM_X7_apart (P : Nat) (a j : Nat) : Prop := (P + 159 ≤ a ∧ a < P + 166) ∨ (P + 167 ≤ a ∧ a < P + 179) ∨ (P + 189 ≤ a ∧ a < P + 190) ∨ (P + 193 ≤ a ∧ a < P + 200) ∨ (a = P ∧ (j = 0)) ∨ (a = P + 158 ∧ (j = 0 ∨ j = 1 ∨ j = 2 ∨ j = 3 ∨ j = 4 ∨ j = 5 ∨ j = 6)) ∨ (a = P + 166 ∧ (j = 0 ∨ j = 1 ∨ j = 2 ∨ j = 3))
def WN_X7_apart (P : Nat) (a j : Nat) : Prop := (P + 188 ≤ a ∧ a < P + 189) ∨ (P + 190 ≤ a ∧ a < P + 192)
set_option maxRecDepth 100000 in
set_option maxHeartbeats 4000000 in
theorem v_X7_apart {P : Nat} {v0 : Int32} {M0 : zMt} {N0 : zNt}  : ∃ r, D_X7_apart P v0 M0 N0 = some r ∧ ((∀ a j, ¬ WM_X7_apart P a j → r.2.1 a j = M0 a j) ∧ (∀ a j, ¬ WN_X7_apart P a j → r.2.2 a j = N0 a j)) := by
  have TL_79 : ∀ u : Nat, ∀ (x1_79 : Int32) (x2_79 : Int32) (x3_79 : Int32) (M_79 : zMt) (N_79 : zNt), (∀ a j, ¬ WM_X7_apart P a j → M_79 a j = M0 a j) → (∀ a j, ¬ WN_X7_apart P a j → N_79 a j = N0 a j) → (2147483648 - Int32.toInt x3_79).toNat < u → ∃ r, D_X7_apart_79 P u x1_79 x2_79 x3_79 M_79 N_79 = some r ∧ ((∀ a j, ¬ WM_X7_apart P a j → r.2.1 a j = M0 a j) ∧ (∀ a j, ¬ WN_X7_apart P a j → r.2.2 a j = N0 a j)) := by
    intro u
    induction u with
    | zero => intro x1_79 x2_79 x3_79 M_79 N_79 k_79 kn_79 hm_79; exact absurd hm_79 (Nat.not_lt_zero _)
    | succ u_79 ih_79 =>
      have T_121 : ∀ (x1_121 : Int32) (x2_121 : Int32) (x3_121 : Int32) (M_121 : zMt) (N_121 : zNt), (∀ a j, ¬ WM_X7_apart P a j → M_121 a j = M0 a j) → (∀ a j, ¬ WN_X7_apart P a j → N_121 a j = N0 a j) → ((2147483648 - Int32.toInt x3_121).toNat < u_79 + 1) → (Int32.toInt x3_121 < 2147483647) → ∃ r, D_X7_apart_121 P (D_X7_apart_79 P u_79) x1_121 x2_121 x3_121 M_121 N_121 = some r ∧ ((∀ a j, ¬ WM_X7_apart P a j → r.2.1 a j = M0 a j) ∧ (∀ a j, ¬ WN_X7_apart P a j → r.2.2 a j = N0 a j)) := by
        intro x1_121 x2_121 x3_121 M_121 N_121 k_121 kn_121 f0_121 f1_121
        unfold D_X7_apart_121
        exact ih_79 _ _ _ _ _ k_121 kn_121 (z_up1 f1_121 f0_121)
      intro x1_79 x2_79 x3_79 M_79 N_79 k_79 kn_79 hm_79
      rw [D_X7_apart_79]
      refine vIf (fun h_87 => ?_) (fun h_87 => ?_)
      · refine vB (v_X0_allOf) (fun e_133 f_133 q_133 => ?_)
        refine vB (v_X7_answerParts) (fun e_136 f_136 q_136 => ?_)
        have k_136 : ∀ a j, ¬ WM_X7_apart P a j → e_136.2 a j = M0 a j := fun a j h => (q_136 a j (by unfold WM_X7_answerParts; unfold WM_X7_apart at h; omega)).trans (k_79 a j h)
        exact ⟨_, rfl, k_136, kn_79⟩
      · refine vIf (fun h_102 => ?_) (fun h_102 => ?_)
        · exact T_121 _ _ _ _ _ k_79 kn_79 hm_79 (by first | assumption | exact z_lt (by assumption) | exact z_lt2 (by assumption) | exact z_lt3 (by assumption) (by first | assumption | decide))
        · exact T_121 _ _ _ _ _ k_79 kn_79 hm_79 (by first | assumption | exact z_lt (by assumption) | exact z_lt2 (by assumption) | exact z_lt3 (by assumption) (by first | assumption | decide))
  have T_79 : ∀ (x1_79 : Int32) (x2_79 : Int32) (x3_79 : Int32) (M_79 : zMt) (N_79 : zNt), (∀ a j, ¬ WM_X7_apart P a j → M_79 a j = M0 a j) → (∀ a j, ¬ WN_X7_apart P a j → N_79 a j = N0 a j) → ∃ r, D_X7_apart_79 P zFu x1_79 x2_79 x3_79 M_79 N_79 = some r ∧ ((∀ a j, ¬ WM_X7_apart P a j → r.2.1 a j = M0 a j) ∧ (∀ a j, ¬ WN_X7_apart P a j → r.2.2 a j = N0 a j)) := fun x1_79 x2_79 x3_79 M_79 N_79 k_79 kn_79 => TL_79 zFu x1_79 x2_79 x3_79 M_79 N_79 k_79 kn_79 (zFu_up _)
  unfold D_X7_apart
  refine vB (v_X7_isParty) (fun e_2 f_2 q_2 => ?_)
  have b_2 := q_2
  refine vIf (fun h_5 => ?_) (fun h_5 => ?_)
  · refine vB (v_X7_refuse) (fun e_10 f_10 q_10 => ?_)
    have k_10 : ∀ a j, ¬ WM_X7_apart P a j → e_10.2 a j = M0 a j := fun a j h => (q_10 a j (by unfold WM_X7_refuse; unfold WM_X7_apart at h; omega))
    exact ⟨_, rfl, k_10, (fun _ _ _ => rfl)⟩
  · refine vB (v_X4_take) (fun e_23 f_23 q_23 => ?_)
    have k_23 : ∀ a j, ¬ WM_X7_apart P a j → e_23 a j = M0 a j := fun a j h => (q_23 a j (by unfold WM_X4_take; unfold WM_X7_apart at h; omega))
    refine vB (v_X4_dissolve) (fun e_31 f_31 q_31 => ?_)
    have k_31 : ∀ a j, ¬ WM_X7_apart P a j → e_31 a j = M0 a j := fun a j h => (q_31 a j (by unfold WM_X4_dissolve; unfold WM_X7_apart at h; omega)).trans (k_23 a j h)
    refine vB (v_X2_gather) (fun e_42 f_42 q_42 => ?_)
    have k_42 : ∀ a j, ¬ WM_X7_apart P a j → e_42 a j = M0 a j := fun a j h => (q_42 a j (by unfold WM_X2_gather; unfold WM_X7_apart at h; omega)).trans (k_31 a j h)
    refine vIf (fun h_54 => ?_) (fun h_54 => ?_)
    · refine vB (v_X0_reckon) (fun e_72 f_72 q_72 => ?_)
      have k_72 : ∀ a j, ¬ WM_X7_apart P a j → e_72.1 a j = M0 a j := fun a j h => (q_72.1 a j (by unfold WM_X0_reckon; unfold WM_X7_apart at h; omega)).trans (k_42 a j h)
      have kn_72 : ∀ a j, ¬ WN_X7_apart P a j → e_72.2 a j = N0 a j := fun a j h => (q_72.2 a j (by unfold WN_X0_reckon; unfold WN_X7_apart at h; omega))
      exact T_79 _ _ _ _ _ k_72 kn_72
    · refine vB (v_X7_refuse) (fun e_59 f_59 q_59 => ?_)
      have k_59 : ∀ a j, ¬ WM_X7_apart P a j → e_59.2 a j = M0 a j := fun a j h => (q_59 a j (by unfold WM_X7_refuse; unfold WM_X7_apart at h; omega)).trans (k_42 a j h)
      exact ⟨_, rfl, k_59, (fun _ _ _ => rfl)⟩
def WM_X7_likes (P : Nat) (a j : Nat) : Prop := (P + 159 ≤ a ∧ a < P + 166) ∨ (P + 167 ≤ a ∧ a < P + 179) ∨ (P + 189 ≤ a ∧ a < P + 190) ∨ (P + 193 ≤ a ∧ a < P + 200) ∨ (a = P ∧ (j = 0)) ∨ (a = P + 158 ∧ (j = 0 ∨ j = 1 ∨ j = 2 ∨ j = 3 ∨ j = 4 ∨ j = 5 ∨ j = 6)) ∨ (a = P + 166 ∧ (j = 0 ∨ j = 1 ∨ j = 2 ∨ j = 3))
def WN_X7_likes (P : Nat) (a j : Nat) : Prop := (P + 188 ≤ a ∧ a < P + 189) ∨ (P + 190 ≤ a ∧ a < P + 192)
set_option maxRecDepth 100000 in
set_option maxHeartbeats 4000000 in
theorem v_X7_likes {P : Nat} {v0 : Int32} {M0 : zMt} {N0 : zNt}  : ∃ r, D_X7_likes P v0 M0 N0 = some r ∧ ((∀ a j, ¬ WM_X7_likes P a j → r.2.1 a j = M0 a j) ∧ (∀ a j, ¬ WN_X7_likes P a j → r.2.2 a j = N0 a j)) := by
  have TL_52 : ∀ u : Nat, ∀ (x1_52 : Int32) (x2_52 : Int32) (x3_52 : Int64) (x5_52 : Int32) (M_52 : zMt) (N_52 : zNt), (∀ a j, ¬ WM_X7_likes P a j → M_52 a j = M0 a j) → (∀ a j, ¬ WN_X7_likes P a j → N_52 a j = N0 a j) → (2147483648 - Int32.toInt x5_52).toNat < u → ∃ r, D_X7_likes_52 P u x1_52 x2_52 x3_52 x5_52 M_52 N_52 = some r ∧ ((∀ a j, ¬ WM_X7_likes P a j → r.2.1 a j = M0 a j) ∧ (∀ a j, ¬ WN_X7_likes P a j → r.2.2 a j = N0 a j)) := by
    intro u
    induction u with
    | zero => intro x1_52 x2_52 x3_52 x5_52 M_52 N_52 k_52 kn_52 hm_52; exact absurd hm_52 (Nat.not_lt_zero _)
    | succ u_52 ih_52 =>
      have T_112 : ∀ (x1_112 : Int32) (x2_112 : Int32) (x3_112 : Int64) (x5_112 : Int32) (M_112 : zMt) (N_112 : zNt), (∀ a j, ¬ WM_X7_likes P a j → M_112 a j = M0 a j) → (∀ a j, ¬ WN_X7_likes P a j → N_112 a j = N0 a j) → ((2147483648 - Int32.toInt x5_112).toNat < u_52 + 1) → (Int32.toInt x5_112 < 2147483647) → ∃ r, D_X7_likes_112 P (D_X7_likes_52 P u_52) x1_112 x2_112 x3_112 x5_112 M_112 N_112 = some r ∧ ((∀ a j, ¬ WM_X7_likes P a j → r.2.1 a j = M0 a j) ∧ (∀ a j, ¬ WN_X7_likes P a j → r.2.2 a j = N0 a j)) := by
        intro x1_112 x2_112 x3_112 x5_112 M_112 N_112 k_112 kn_112 f0_112 f1_112
        unfold D_X7_likes_112
        exact ih_52 _ _ _ _ _ _ k_112 kn_112 (z_up1 f1_112 f0_112)
      intro x1_52 x2_52 x3_52 x5_52 M_52 N_52 k_52 kn_52 hm_52
      rw [D_X7_likes_52]
      refine vIf (fun h_55 => ?_) (fun h_55 => ?_)
      · refine vB (v_X7_answer) (fun e_120 f_120 q_120 => ?_)
        have k_120 : ∀ a j, ¬ WM_X7_likes P a j → e_120.2 a j = M0 a j := fun a j h => (q_120 a j (by unfold WM_X7_answer; unfold WM_X7_likes at h; omega)).trans (k_52 a j h)
        exact ⟨_, rfl, k_120, kn_52⟩
      · refine vLm (W := WM_X7_likes P) (fun a j h => (zu_ne (by unfold WM_X7_likes at h; omega)).trans (k_52 a j h)) (fun M_64 f_64 k_64 => ?_)
        refine vB (v_X2_gather) (fun e_75 f_75 q_75 => ?_)
        have k_75 : ∀ a j, ¬ WM_X7_likes P a j → e_75 a j = M0 a j := fun a j h => (q_75 a j (by unfold WM_X2_gather; unfold WM_X7_likes at h; omega)).trans (k_64 a j h)
        refine vB (v_X0_reckon) (fun e_86 f_86 q_86 => ?_)
        have k_86 : ∀ a j, ¬ WM_X7_likes P a j → e_86.1 a j = M0 a j := fun a j h => (q_86.1 a j (by unfold WM_X0_reckon; unfold WM_X7_likes at h; omega)).trans (k_75 a j h)
        have kn_86 : ∀ a j, ¬ WN_X7_likes P a j → e_86.2 a j = N0 a j := fun a j h => (q_86.2 a j (by unfold WN_X0_reckon; unfold WN_X7_likes at h; omega)).trans (kn_52 a j h)
        refine vB (v_X0_anyUnit) (fun e_94 f_94 q_94 => ?_)
        refine vIf (fun h_103 => ?_) (fun h_103 => ?_)
        · exact T_112 _ _ _ _ _ _ k_86 kn_86 hm_52 (by first | assumption | exact z_lt (by assumption) | exact z_lt2 (by assumption) | exact z_lt3 (by assumption) (by first | assumption | decide))
        · exact T_112 _ _ _ _ _ _ k_86 kn_86 hm_52 (by first | assumption | exact z_lt (by assumption) | exact z_lt2 (by assumption) | exact z_lt3 (by assumption) (by first | assumption | decide))
  have T_52 : ∀ (x1_52 : Int32) (x2_52 : Int32) (x3_52 : Int64) (x5_52 : Int32) (M_52 : zMt) (N_52 : zNt), (∀ a j, ¬ WM_X7_likes P a j → M_52 a j = M0 a j) → (∀ a j, ¬ WN_X7_likes P a j → N_52 a j = N0 a j) → ∃ r, D_X7_likes_52 P zFu x1_52 x2_52 x3_52 x5_52 M_52 N_52 = some r ∧ ((∀ a j, ¬ WM_X7_likes P a j → r.2.1 a j = M0 a j) ∧ (∀ a j, ¬ WN_X7_likes P a j → r.2.2 a j = N0 a j)) := fun x1_52 x2_52 x3_52 x5_52 M_52 N_52 k_52 kn_52 => TL_52 zFu x1_52 x2_52 x3_52 x5_52 M_52 N_52 k_52 kn_52 (zFu_up _)
  unfold D_X7_likes
  refine vB (v_X7_isApplicant) (fun e_2 f_2 q_2 => ?_)
  have b_2 := q_2
  refine vIf (fun h_5 => ?_) (fun h_5 => ?_)
  · refine vB (v_X7_refuse) (fun e_10 f_10 q_10 => ?_)
    have k_10 : ∀ a j, ¬ WM_X7_likes P a j → e_10.2 a j = M0 a j := fun a j h => (q_10 a j (by unfold WM_X7_refuse; unfold WM_X7_likes at h; omega))
    exact ⟨_, rfl, k_10, (fun _ _ _ => rfl)⟩
  · refine vIf (fun h_23 => ?_) (fun h_23 => ?_)
    · refine vB (v_X4_take) (fun e_46 f_46 q_46 => ?_)
      have k_46 : ∀ a j, ¬ WM_X7_likes P a j → e_46 a j = M0 a j := fun a j h => (q_46 a j (by unfold WM_X4_take; unfold WM_X7_likes at h; omega))
      exact T_52 _ _ _ _ _ _ k_46 (fun _ _ _ => rfl)
    · refine vB (v_X7_refuse) (fun e_28 f_28 q_28 => ?_)
      have k_28 : ∀ a j, ¬ WM_X7_likes P a j → e_28.2 a j = M0 a j := fun a j h => (q_28 a j (by unfold WM_X7_refuse; unfold WM_X7_likes at h; omega))
      exact ⟨_, rfl, k_28, (fun _ _ _ => rfl)⟩
theorem v_X7_areYears {v0 v1 : Int32} : ∃ r, D_X7_areYears v0 v1 = some r ∧ ((r = 0 ∨ r = 1) ∧ (r = 0 ∨ Int32.toInt v1 < 2147483647)) := by
  unfold D_X7_areYears
  refine vB v_X7_isSeed (fun e _ _ => ?_)
  refine vIf (fun _ => ⟨_, rfl, Or.inl rfl, Or.inl rfl⟩) (fun _ => ?_)
  refine vIf (fun _ => ⟨_, rfl, Or.inl rfl, Or.inl rfl⟩) (fun _ => ?_)
  refine vIf (fun _ => ⟨_, rfl, Or.inl rfl, Or.inl rfl⟩) (fun h => ?_)
  refine vIf (fun _ => ⟨_, rfl, Or.inl rfl, Or.inl rfl⟩) (fun _ => ?_)
  exact ⟨_, rfl, Or.inr rfl, Or.inr (z_lt3 h (by decide))⟩
def WM_X7_years (P : Nat) (a j : Nat) : Prop := (P + 126 ≤ a ∧ a < P + 129) ∨ (P + 130 ≤ a ∧ a < P + 137) ∨ (P + 138 ≤ a ∧ a < P + 150) ∨ (P + 151 ≤ a ∧ a < P + 158) ∨ (a = P ∧ (j = 0)) ∨ (a = P + 125 ∧ (j = 0 ∨ j = 1)) ∨ (a = P + 129 ∧ (j = 0 ∨ j = 1 ∨ j = 2 ∨ j = 3 ∨ j = 4 ∨ j = 5 ∨ j = 6)) ∨ (a = P + 137 ∧ (j = 0 ∨ j = 1 ∨ j = 2 ∨ j = 3))
set_option maxRecDepth 100000 in
set_option maxHeartbeats 4000000 in
theorem v_X7_years {P : Nat} {v0 : Int32} {v1 : Int32} {v2 : Int32} {M0 : zMt}  : ∃ r, D_X7_years P v0 v1 v2 M0 = some r ∧ ((∀ a j, ¬ WM_X7_years P a j → r.2 a j = M0 a j)) := by
  have T_17 : ∀ (M_17 : zMt), (∀ a j, ¬ WM_X7_years P a j → M_17 a j = M0 a j) → ∃ r, D_X7_years_17 P M_17 = some r ∧ ((∀ a j, ¬ WM_X7_years P a j → r.2 a j = M0 a j)) := by
    intro M_17 k_17
    unfold D_X7_years_17
    refine vB (v_X7_refuse) (fun e_19 f_19 q_19 => ?_)
    have k_19 : ∀ a j, ¬ WM_X7_years P a j → e_19.2 a j = M0 a j := fun a j h => (q_19 a j (by unfold WM_X7_refuse; unfold WM_X7_years at h; omega)).trans (k_17 a j h)
    exact ⟨_, rfl, k_19⟩
  unfold D_X7_years
  refine vB (v_X7_areYears) (fun e_2 f_2 q_2 => ?_)
  have b_2 := q_2.1
  have t_2 := q_2.2
  refine vIf (fun h_5 => ?_) (fun h_5 => ?_)
  · exact T_17 _ (fun _ _ _ => rfl)
  · refine vIf (fun h_9 => ?_) (fun h_9 => ?_)
    · exact T_17 _ (fun _ _ _ => rfl)
    · refine vIf (fun h_14 => ?_) (fun h_14 => ?_)
      · refine vB (v_X6_pass (Or.resolve_left (by assumption) (by assumption))) (fun e_33 f_33 q_33 => ?_)
        have k_33 : ∀ a j, ¬ WM_X7_years P a j → e_33 a j = M0 a j := fun a j h => (q_33 a j (by unfold WM_X6_pass; unfold WM_X7_years at h; omega))
        refine vIf (fun h_37 => ?_) (fun h_37_0 => ?_)
        · skip
          refine vB (v_X7_answer) (fun e_72 f_72 q_72 => ?_)
          have k_72 : ∀ a j, ¬ WM_X7_years P a j → e_72.2 a j = M0 a j := fun a j h => (q_72 a j (by unfold WM_X7_answer; unfold WM_X7_years at h; omega)).trans (k_33 a j h)
          exact ⟨_, rfl, k_72⟩
        refine vIf (fun h_37 => ?_) (fun h_37_1 => ?_)
        · skip
          refine vB (v_X6_unserved) (fun e_88 f_88 q_88 => ?_)
          refine vB (v_X7_answer) (fun e_91 f_91 q_91 => ?_)
          have k_91 : ∀ a j, ¬ WM_X7_years P a j → e_91.2 a j = M0 a j := fun a j h => (q_91 a j (by unfold WM_X7_answer; unfold WM_X7_years at h; omega)).trans (k_33 a j h)
          exact ⟨_, rfl, k_91⟩
        refine vB (v_X7_answer) (fun e_103 f_103 q_103 => ?_)
        have k_103 : ∀ a j, ¬ WM_X7_years P a j → e_103.2 a j = M0 a j := fun a j h => (q_103 a j (by unfold WM_X7_answer; unfold WM_X7_years at h; omega)).trans (k_33 a j h)
        exact ⟨_, rfl, k_103⟩
      · exact T_17 _ (fun _ _ _ => rfl)
def WM_X7_often (P : Nat) (a j : Nat) : Prop := (P + 126 ≤ a ∧ a < P + 129) ∨ (P + 130 ≤ a ∧ a < P + 137) ∨ (P + 138 ≤ a ∧ a < P + 150) ∨ (P + 151 ≤ a ∧ a < P + 158) ∨ (a = P ∧ (j = 0)) ∨ (a = P + 125 ∧ (j = 0 ∨ j = 1)) ∨ (a = P + 129 ∧ (j = 0 ∨ j = 1 ∨ j = 2 ∨ j = 3 ∨ j = 4 ∨ j = 5 ∨ j = 6)) ∨ (a = P + 137 ∧ (j = 0 ∨ j = 1 ∨ j = 2 ∨ j = 3))
set_option maxRecDepth 100000 in
set_option maxHeartbeats 4000000 in
theorem v_X7_often {P : Nat} {v0 : Int32} {v1 : Int32} {v2 : Int32} {M0 : zMt}  : ∃ r, D_X7_often P v0 v1 v2 M0 = some r ∧ ((∀ a j, ¬ WM_X7_often P a j → r.2 a j = M0 a j)) := by
  unfold D_X7_often
  refine vB (v_X7_areYears) (fun e_2 f_2 q_2 => ?_)
  have b_2 := q_2.1
  have t_2 := q_2.2
  refine vIf (fun h_5 => ?_) (fun h_5 => ?_)
  · refine vB (v_X7_refuse) (fun e_10 f_10 q_10 => ?_)
    have k_10 : ∀ a j, ¬ WM_X7_often P a j → e_10.2 a j = M0 a j := fun a j h => (q_10 a j (by unfold WM_X7_refuse; unfold WM_X7_often at h; omega))
    exact ⟨_, rfl, k_10⟩
  · refine vB (v_X7_isHunter) (fun e_16 f_16 q_16 => ?_)
    have b_16 := q_16
    refine vIf (fun h_19 => ?_) (fun h_19 => ?_)
    · refine vB (v_X7_refuse) (fun e_24 f_24 q_24 => ?_)
      have k_24 : ∀ a j, ¬ WM_X7_often P a j → e_24.2 a j = M0 a j := fun a j h => (q_24 a j (by unfold WM_X7_refuse; unfold WM_X7_often at h; omega))
      exact ⟨_, rfl, k_24⟩
    · refine vB (v_X6_pass (Or.resolve_left (by assumption) (by assumption))) (fun e_38 f_38 q_38 => ?_)
      have k_38 : ∀ a j, ¬ WM_X7_often P a j → e_38 a j = M0 a j := fun a j h => (q_38 a j (by unfold WM_X6_pass; unfold WM_X7_often at h; omega))
      refine vB (v_X7_answer) (fun e_53 f_53 q_53 => ?_)
      have k_53 : ∀ a j, ¬ WM_X7_often P a j → e_53.2 a j = M0 a j := fun a j h => (q_53 a j (by unfold WM_X7_answer; unfold WM_X7_often at h; omega)).trans (k_38 a j h)
      exact ⟨_, rfl, k_53⟩
def WM_X7_soonest (P : Nat) (a j : Nat) : Prop := (P + 126 ≤ a ∧ a < P + 129) ∨ (P + 130 ≤ a ∧ a < P + 137) ∨ (P + 138 ≤ a ∧ a < P + 150) ∨ (P + 151 ≤ a ∧ a < P + 158) ∨ (a = P ∧ (j = 0)) ∨ (a = P + 125 ∧ (j = 0 ∨ j = 1)) ∨ (a = P + 129 ∧ (j = 0 ∨ j = 1 ∨ j = 2 ∨ j = 3 ∨ j = 4 ∨ j = 5 ∨ j = 6)) ∨ (a = P + 137 ∧ (j = 0 ∨ j = 1 ∨ j = 2 ∨ j = 3))
set_option maxRecDepth 100000 in
set_option maxHeartbeats 4000000 in
theorem v_X7_soonest {P : Nat} {v0 : Int32} {v1 : Int32} {v2 : Int32} {M0 : zMt}  : ∃ r, D_X7_soonest P v0 v1 v2 M0 = some r ∧ ((∀ a j, ¬ WM_X7_soonest P a j → r.2 a j = M0 a j)) := by
  have T_73 : ∀ (y0_73 : Int32) (M_73 : zMt), (∀ a j, ¬ WM_X7_soonest P a j → M_73 a j = M0 a j) → ∃ r, D_X7_soonest_73 P y0_73 M_73 = some r ∧ ((∀ a j, ¬ WM_X7_soonest P a j → r.2 a j = M0 a j)) := by
    intro y0_73 M_73 k_73
    unfold D_X7_soonest_73
    exact ⟨_, rfl, k_73⟩
  unfold D_X7_soonest
  refine vB (v_X7_areYears) (fun e_2 f_2 q_2 => ?_)
  have b_2 := q_2.1
  have t_2 := q_2.2
  refine vIf (fun h_5 => ?_) (fun h_5 => ?_)
  · refine vB (v_X7_refuse) (fun e_10 f_10 q_10 => ?_)
    have k_10 : ∀ a j, ¬ WM_X7_soonest P a j → e_10.2 a j = M0 a j := fun a j h => (q_10 a j (by unfold WM_X7_refuse; unfold WM_X7_soonest at h; omega))
    exact ⟨_, rfl, k_10⟩
  · refine vB (v_X7_isHunter) (fun e_16 f_16 q_16 => ?_)
    have b_16 := q_16
    refine vIf (fun h_19 => ?_) (fun h_19 => ?_)
    · refine vB (v_X7_refuse) (fun e_24 f_24 q_24 => ?_)
      have k_24 : ∀ a j, ¬ WM_X7_soonest P a j → e_24.2 a j = M0 a j := fun a j h => (q_24 a j (by unfold WM_X7_refuse; unfold WM_X7_soonest at h; omega))
      exact ⟨_, rfl, k_24⟩
    · refine vB (v_X6_pass (Or.resolve_left (by assumption) (by assumption))) (fun e_38 f_38 q_38 => ?_)
      have k_38 : ∀ a j, ¬ WM_X7_soonest P a j → e_38 a j = M0 a j := fun a j h => (q_38 a j (by unfold WM_X6_pass; unfold WM_X7_soonest at h; omega))
      refine vIf (fun h_56 => ?_) (fun h_56 => ?_)
      · refine vB (v_X7_refuse) (fun e_61 f_61 q_61 => ?_)
        have k_61 : ∀ a j, ¬ WM_X7_soonest P a j → e_61.2 a j = M0 a j := fun a j h => (q_61 a j (by unfold WM_X7_refuse; unfold WM_X7_soonest at h; omega)).trans (k_38 a j h)
        exact T_73 _ _ k_61
      · refine vB (v_X7_answer) (fun e_70 f_70 q_70 => ?_)
        have k_70 : ∀ a j, ¬ WM_X7_soonest P a j → e_70.2 a j = M0 a j := fun a j h => (q_70 a j (by unfold WM_X7_answer; unfold WM_X7_soonest at h; omega)).trans (k_38 a j h)
        exact T_73 _ _ k_70
def WM_X7_draw (P : Nat) (a j : Nat) : Prop := (P + 19 ≤ a ∧ a < P + 20) ∨ (P + 24 ≤ a ∧ a < P + 91) ∨ (P + 92 ≤ a ∧ a < P + 104) ∨ (P + 105 ≤ a ∧ a < P + 112) ∨ (a = P ∧ (j = 0 ∨ j = 3)) ∨ (a = P + 17 ∧ (j = 6)) ∨ (a = P + 91 ∧ (j = 0 ∨ j = 1 ∨ j = 2 ∨ j = 3))
set_option maxRecDepth 100000 in
set_option maxHeartbeats 4000000 in
theorem v_X7_draw {P : Nat} {v0 : Int32} {M0 : zMt}  (hvp : vp_in (M0 (P + 25) 1) 8) : ∃ r, D_X7_draw P v0 M0 = some r ∧ ((∀ a j, ¬ WM_X7_draw P a j → r.2 a j = M0 a j) ∧ (vp_in (r.2 (P + 25) 1) 8)) := by
  unfold D_X7_draw
  refine vB (v_X7_isSeed) (fun e_1 f_1 q_1 => ?_)
  have b_1 := q_1
  refine vIf (fun h_4 => ?_) (fun h_4 => ?_)
  · refine vB (v_X7_refuse) (fun e_9 f_9 q_9 => ?_)
    have k_9 : ∀ a j, ¬ WM_X7_draw P a j → e_9.2 a j = M0 a j := fun a j h => (q_9 a j (by unfold WM_X7_refuse; unfold WM_X7_draw at h; omega))
    have t_9 : vp_in (e_9.2 (P + 25) 1) 8 := by rw [q_9 (P + 25) 1 (by unfold WM_X7_refuse; omega)]; exact hvp
    exact ⟨_, rfl, k_9, t_9⟩
  · refine vB (v_X1_keep hvp) (fun e_21 f_21 q_21 => ?_)
    have k_21 : ∀ a j, ¬ WM_X7_draw P a j → e_21 a j = M0 a j := fun a j h => (q_21.1 a j (by unfold WM_X1_keep; unfold WM_X7_draw at h; omega))
    have t_21 := q_21.2
    refine vB (v_X5_bySeed) (fun e_33 f_33 q_33 => ?_)
    have k_33 : ∀ a j, ¬ WM_X7_draw P a j → e_33 a j = M0 a j := fun a j h => (q_33 a j (by unfold WM_X5_bySeed; unfold WM_X7_draw at h; omega)).trans (k_21 a j h)
    have t_33 : vp_in (e_33 (P + 25) 1) 8 := by rw [q_33 (P + 25) 1 (by unfold WM_X5_bySeed; omega)]; exact t_21
    refine vB (v_X4_live) (fun e_48 f_48 q_48 => ?_)
    have k_48 : ∀ a j, ¬ WM_X7_draw P a j → e_48 a j = M0 a j := fun a j h => (q_48 a j (by unfold WM_X4_live; unfold WM_X7_draw at h; omega)).trans (k_33 a j h)
    have t_48 : vp_in (e_48 (P + 25) 1) 8 := by rw [q_48 (P + 25) 1 (by unfold WM_X4_live; omega)]; exact t_33
    refine vLm (W := WM_X7_draw P) (fun a j h => (zu_ne (by unfold WM_X7_draw at h; omega)).trans (k_48 a j h)) (fun M_61 f_61 k_61 => ?_)
    have t_61 : vp_in (M_61 (P + 25) 1) 8 := by rw [(congrFun (congrFun f_61.symm (P + 25)) 1).trans (zu_ne (by omega))]; exact t_48
    refine vB (v_X5_tagsGiven) (fun e_73 f_73 q_73 => ?_)
    refine vB (v_X7_changed) (fun e_76 f_76 q_76 => ?_)
    have k_76 : ∀ a j, ¬ WM_X7_draw P a j → e_76.2 a j = M0 a j := fun a j h => (q_76 a j (by unfold WM_X7_changed; unfold WM_X7_draw at h; omega)).trans (k_61 a j h)
    have t_76 : vp_in (e_76.2 (P + 25) 1) 8 := by rw [q_76 (P + 25) 1 (by unfold WM_X7_changed; omega)]; exact t_61
    exact ⟨_, rfl, k_76, t_76⟩
def WM_X7_points (P : Nat) (a j : Nat) : Prop := (P + 19 ≤ a ∧ a < P + 20) ∨ (P + 25 ≤ a ∧ a < P + 91) ∨ (P + 92 ≤ a ∧ a < P + 104) ∨ (a = P ∧ (j = 0 ∨ j = 3)) ∨ (a = P + 91 ∧ (j = 0 ∨ j = 1 ∨ j = 2 ∨ j = 3))
set_option maxRecDepth 100000 in
set_option maxHeartbeats 4000000 in
theorem v_X7_points {P : Nat} {v0 : Int32} {v1 : Int32} {M0 : zMt}  (hvp : vp_in (M0 (P + 25) 1) 8) : ∃ r, D_X7_points P v0 v1 M0 = some r ∧ ((∀ a j, ¬ WM_X7_points P a j → r.2 a j = M0 a j) ∧ (vp_in (r.2 (P + 25) 1) 8)) := by
  have T_10 : ∀ (M_10 : zMt), (∀ a j, ¬ WM_X7_points P a j → M_10 a j = M0 a j) → (vp_in (M_10 (P + 25) 1) 8) → ∃ r, D_X7_points_10 P M_10 = some r ∧ ((∀ a j, ¬ WM_X7_points P a j → r.2 a j = M0 a j) ∧ (vp_in (r.2 (P + 25) 1) 8)) := by
    intro M_10 k_10 t_10
    unfold D_X7_points_10
    refine vB (v_X7_refuse) (fun e_12 f_12 q_12 => ?_)
    have k_12 : ∀ a j, ¬ WM_X7_points P a j → e_12.2 a j = M0 a j := fun a j h => (q_12 a j (by unfold WM_X7_refuse; unfold WM_X7_points at h; omega)).trans (k_10 a j h)
    have t_12 : vp_in (e_12.2 (P + 25) 1) 8 := by rw [q_12 (P + 25) 1 (by unfold WM_X7_refuse; omega)]; exact t_10
    exact ⟨_, rfl, k_12, t_12⟩
  unfold D_X7_points
  refine vIf (fun h_1 => ?_) (fun h_1 => ?_)
  · exact T_10 _ (fun _ _ _ => rfl) hvp
  · refine vIf (fun h_7 => ?_) (fun h_7 => ?_)
    · refine vB (v_X7_isHunter) (fun e_18 f_18 q_18 => ?_)
      have b_18 := q_18
      refine vIf (fun h_21 => ?_) (fun h_21 => ?_)
      · refine vB (v_X7_refuse) (fun e_26 f_26 q_26 => ?_)
        have k_26 : ∀ a j, ¬ WM_X7_points P a j → e_26.2 a j = M0 a j := fun a j h => (q_26 a j (by unfold WM_X7_refuse; unfold WM_X7_points at h; omega))
        have t_26 : vp_in (e_26.2 (P + 25) 1) 8 := by rw [q_26 (P + 25) 1 (by unfold WM_X7_refuse; omega)]; exact hvp
        exact ⟨_, rfl, k_26, t_26⟩
      · refine vIf (fun h_44 => ?_) (fun h_44 => ?_)
        · refine vB (v_X7_refuse) (fun e_49 f_49 q_49 => ?_)
          have k_49 : ∀ a j, ¬ WM_X7_points P a j → e_49.2 a j = M0 a j := fun a j h => (q_49 a j (by unfold WM_X7_refuse; unfold WM_X7_points at h; omega))
          have t_49 : vp_in (e_49.2 (P + 25) 1) 8 := by rw [q_49 (P + 25) 1 (by unfold WM_X7_refuse; omega)]; exact hvp
          exact ⟨_, rfl, k_49, t_49⟩
        · refine vB (v_X1_keep hvp) (fun e_61 f_61 q_61 => ?_)
          have k_61 : ∀ a j, ¬ WM_X7_points P a j → e_61 a j = M0 a j := fun a j h => (q_61.1 a j (by unfold WM_X1_keep; unfold WM_X7_points at h; omega))
          have t_61 := q_61.2
          refine vLm (W := WM_X7_points P) (fun a j h => (congrFun (zwr_row (by unfold WM_X7_points at h; omega)) j).trans (k_61 a j h)) (fun M_73 f_73 k_73 => ?_)
          have t_73 : vp_in (M_73 (P + 25) 1) 8 := by rw [(congrFun (congrFun f_73.symm (P + 25)) 1).trans (congrFun (zwr_row (by omega)) 1)]; exact t_61
          refine vB (v_X7_changed) (fun e_78 f_78 q_78 => ?_)
          have k_78 : ∀ a j, ¬ WM_X7_points P a j → e_78.2 a j = M0 a j := fun a j h => (q_78 a j (by unfold WM_X7_changed; unfold WM_X7_points at h; omega)).trans (k_73 a j h)
          have t_78 : vp_in (e_78.2 (P + 25) 1) 8 := by rw [q_78 (P + 25) 1 (by unfold WM_X7_changed; omega)]; exact t_73
          exact ⟨_, rfl, k_78, t_78⟩
    · exact T_10 _ (fun _ _ _ => rfl) hvp
def WM_X7_quota (P : Nat) (a j : Nat) : Prop := (P + 18 ≤ a ∧ a < P + 19) ∨ (P + 25 ≤ a ∧ a < P + 91) ∨ (P + 92 ≤ a ∧ a < P + 104) ∨ (a = P ∧ (j = 0 ∨ j = 3)) ∨ (a = P + 91 ∧ (j = 0 ∨ j = 1 ∨ j = 2 ∨ j = 3))
set_option maxRecDepth 100000 in
set_option maxHeartbeats 4000000 in
theorem v_X7_quota {P : Nat} {v0 : Int32} {v1 : Int32} {M0 : zMt}  (hvp : vp_in (M0 (P + 25) 1) 8) : ∃ r, D_X7_quota P v0 v1 M0 = some r ∧ ((∀ a j, ¬ WM_X7_quota P a j → r.2 a j = M0 a j) ∧ (vp_in (r.2 (P + 25) 1) 8)) := by
  have T_10 : ∀ (M_10 : zMt), (∀ a j, ¬ WM_X7_quota P a j → M_10 a j = M0 a j) → (vp_in (M_10 (P + 25) 1) 8) → ∃ r, D_X7_quota_10 P M_10 = some r ∧ ((∀ a j, ¬ WM_X7_quota P a j → r.2 a j = M0 a j) ∧ (vp_in (r.2 (P + 25) 1) 8)) := by
    intro M_10 k_10 t_10
    unfold D_X7_quota_10
    refine vB (v_X7_refuse) (fun e_12 f_12 q_12 => ?_)
    have k_12 : ∀ a j, ¬ WM_X7_quota P a j → e_12.2 a j = M0 a j := fun a j h => (q_12 a j (by unfold WM_X7_refuse; unfold WM_X7_quota at h; omega)).trans (k_10 a j h)
    have t_12 : vp_in (e_12.2 (P + 25) 1) 8 := by rw [q_12 (P + 25) 1 (by unfold WM_X7_refuse; omega)]; exact t_10
    exact ⟨_, rfl, k_12, t_12⟩
  unfold D_X7_quota
  refine vIf (fun h_1 => ?_) (fun h_1 => ?_)
  · exact T_10 _ (fun _ _ _ => rfl) hvp
  · refine vIf (fun h_7 => ?_) (fun h_7 => ?_)
    · refine vB (v_X7_isUnit) (fun e_18 f_18 q_18 => ?_)
      have b_18 := q_18
      refine vIf (fun h_21 => ?_) (fun h_21 => ?_)
      · refine vB (v_X7_refuse) (fun e_26 f_26 q_26 => ?_)
        have k_26 : ∀ a j, ¬ WM_X7_quota P a j → e_26.2 a j = M0 a j := fun a j h => (q_26 a j (by unfold WM_X7_refuse; unfold WM_X7_quota at h; omega))
        have t_26 : vp_in (e_26.2 (P + 25) 1) 8 := by rw [q_26 (P + 25) 1 (by unfold WM_X7_refuse; omega)]; exact hvp
        exact ⟨_, rfl, k_26, t_26⟩
      · refine vIf (fun h_44 => ?_) (fun h_44 => ?_)
        · refine vB (v_X7_refuse) (fun e_49 f_49 q_49 => ?_)
          have k_49 : ∀ a j, ¬ WM_X7_quota P a j → e_49.2 a j = M0 a j := fun a j h => (q_49 a j (by unfold WM_X7_refuse; unfold WM_X7_quota at h; omega))
          have t_49 : vp_in (e_49.2 (P + 25) 1) 8 := by rw [q_49 (P + 25) 1 (by unfold WM_X7_refuse; omega)]; exact hvp
          exact ⟨_, rfl, k_49, t_49⟩
        · refine vB (v_X1_keep hvp) (fun e_61 f_61 q_61 => ?_)
          have k_61 : ∀ a j, ¬ WM_X7_quota P a j → e_61 a j = M0 a j := fun a j h => (q_61.1 a j (by unfold WM_X1_keep; unfold WM_X7_quota at h; omega))
          have t_61 := q_61.2
          refine vLm (W := WM_X7_quota P) (fun a j h => (congrFun (zwr_row (by unfold WM_X7_quota at h; omega)) j).trans (k_61 a j h)) (fun M_73 f_73 k_73 => ?_)
          have t_73 : vp_in (M_73 (P + 25) 1) 8 := by rw [(congrFun (congrFun f_73.symm (P + 25)) 1).trans (congrFun (zwr_row (by omega)) 1)]; exact t_61
          refine vB (v_X7_changed) (fun e_78 f_78 q_78 => ?_)
          have k_78 : ∀ a j, ¬ WM_X7_quota P a j → e_78.2 a j = M0 a j := fun a j h => (q_78 a j (by unfold WM_X7_changed; unfold WM_X7_quota at h; omega)).trans (k_73 a j h)
          have t_78 : vp_in (e_78.2 (P + 25) 1) 8 := by rw [q_78 (P + 25) 1 (by unfold WM_X7_changed; omega)]; exact t_73
          exact ⟨_, rfl, k_78, t_78⟩
    · exact T_10 _ (fun _ _ _ => rfl) hvp
set_option maxRecDepth 100000 in
set_option maxHeartbeats 4000000 in
theorem v_X7_isUnitOrNone {P : Nat} {M : zMt} {v0 : Int32}  : ∃ r, D_X7_isUnitOrNone P M v0 = some r ∧ ((r = 0 ∨ r = 1)) := by
  have T_18 : ∀ (y0_18 : Int32), (y0_18 = 0 ∨ y0_18 = 1) → ∃ r, D_X7_isUnitOrNone_18 P M y0_18 = some r ∧ ((r = 0 ∨ r = 1)) := by
    intro y0_18 f0_18
    unfold D_X7_isUnitOrNone_18
    exact ⟨_, rfl, (by first | exact Or.inl rfl | exact Or.inr rfl | assumption)⟩
  have T_13 : ∃ r, D_X7_isUnitOrNone_13 P M = some r ∧ ((r = 0 ∨ r = 1)) := by
    unfold D_X7_isUnitOrNone_13
    exact T_18 _ (by first | exact Or.inl rfl | exact Or.inr rfl | assumption)
  unfold D_X7_isUnitOrNone
  refine vIf (fun h_2 => ?_) (fun h_2 => ?_)
  · exact T_13
  · refine vB (v_X7_isUnit) (fun e_7 f_7 q_7 => ?_)
    have b_7 := q_7
    refine vIf (fun h_10 => ?_) (fun h_10 => ?_)
    · exact T_18 _ (by first | exact Or.inl rfl | exact Or.inr rfl | assumption)
    · exact T_13
def WM_X7_choose (P : Nat) (a j : Nat) : Prop := (P + 22 ≤ a ∧ a < P + 24) ∨ (P + 25 ≤ a ∧ a < P + 91) ∨ (P + 92 ≤ a ∧ a < P + 104) ∨ (a = P ∧ (j = 0 ∨ j = 3)) ∨ (a = P + 91 ∧ (j = 0 ∨ j = 1 ∨ j = 2 ∨ j = 3))
set_option maxRecDepth 100000 in
set_option maxHeartbeats 4000000 in
theorem v_X7_choose {P : Nat} {v0 : Int32} {v1 : Int32} {v2 : Int32} {v3 : Int32} {M0 : zMt}  (hvp : vp_in (M0 (P + 25) 1) 8) : ∃ r, D_X7_choose P v0 v1 v2 v3 M0 = some r ∧ ((∀ a j, ¬ WM_X7_choose P a j → r.2 a j = M0 a j) ∧ (vp_in (r.2 (P + 25) 1) 8)) := by
  have T_145 : ∀ (x1_145 : Int32) (x2_145 : Int32) (x3_145 : Int32) (x4_145 : Int32) (M_145 : zMt), (∀ a j, ¬ WM_X7_choose P a j → M_145 a j = M0 a j) → (vp_in (M_145 (P + 25) 1) 8) → ∃ r, D_X7_choose_145 P x1_145 x2_145 x3_145 x4_145 M_145 = some r ∧ ((∀ a j, ¬ WM_X7_choose P a j → r.2 a j = M0 a j) ∧ (vp_in (r.2 (P + 25) 1) 8)) := by
    intro x1_145 x2_145 x3_145 x4_145 M_145 k_145 t_145
    unfold D_X7_choose_145
    refine vB (v_X1_keep t_145) (fun e_166 f_166 q_166 => ?_)
    have k_166 : ∀ a j, ¬ WM_X7_choose P a j → e_166 a j = M0 a j := fun a j h => (q_166.1 a j (by unfold WM_X1_keep; unfold WM_X7_choose at h; omega)).trans (k_145 a j h)
    have t_166 := q_166.2
    refine vB (v_X4_wishFor) (fun e_188 f_188 q_188 => ?_)
    have k_188 : ∀ a j, ¬ WM_X7_choose P a j → e_188 a j = M0 a j := fun a j h => (q_188 a j (by unfold WM_X4_wishFor; unfold WM_X7_choose at h; omega)).trans (k_166 a j h)
    have t_188 : vp_in (e_188 (P + 25) 1) 8 := by rw [q_188 (P + 25) 1 (by unfold WM_X4_wishFor; omega)]; exact t_166
    refine vB (v_X7_changed) (fun e_194 f_194 q_194 => ?_)
    have k_194 : ∀ a j, ¬ WM_X7_choose P a j → e_194.2 a j = M0 a j := fun a j h => (q_194 a j (by unfold WM_X7_changed; unfold WM_X7_choose at h; omega)).trans (k_188 a j h)
    have t_194 : vp_in (e_194.2 (P + 25) 1) 8 := by rw [q_194 (P + 25) 1 (by unfold WM_X7_changed; omega)]; exact t_188
    exact ⟨_, rfl, k_194, t_194⟩
  have T_93 : ∀ (M_93 : zMt), (∀ a j, ¬ WM_X7_choose P a j → M_93 a j = M0 a j) → (vp_in (M_93 (P + 25) 1) 8) → ∃ r, D_X7_choose_93 P M_93 = some r ∧ ((∀ a j, ¬ WM_X7_choose P a j → r.2 a j = M0 a j) ∧ (vp_in (r.2 (P + 25) 1) 8)) := by
    intro M_93 k_93 t_93
    unfold D_X7_choose_93
    refine vB (v_X7_refuse) (fun e_95 f_95 q_95 => ?_)
    have k_95 : ∀ a j, ¬ WM_X7_choose P a j → e_95.2 a j = M0 a j := fun a j h => (q_95 a j (by unfold WM_X7_refuse; unfold WM_X7_choose at h; omega)).trans (k_93 a j h)
    have t_95 : vp_in (e_95.2 (P + 25) 1) 8 := by rw [q_95 (P + 25) 1 (by unfold WM_X7_refuse; omega)]; exact t_93
    exact ⟨_, rfl, k_95, t_95⟩
  have T_60 : ∀ (x1_60 : Int32) (x2_60 : Int32) (x3_60 : Int32) (x4_60 : Int32) (M_60 : zMt), (∀ a j, ¬ WM_X7_choose P a j → M_60 a j = M0 a j) → (vp_in (M_60 (P + 25) 1) 8) → ∃ r, D_X7_choose_60 P x1_60 x2_60 x3_60 x4_60 M_60 = some r ∧ ((∀ a j, ¬ WM_X7_choose P a j → r.2 a j = M0 a j) ∧ (vp_in (r.2 (P + 25) 1) 8)) := by
    intro x1_60 x2_60 x3_60 x4_60 M_60 k_60 t_60
    unfold D_X7_choose_60
    refine vB (v_X7_isApplicant) (fun e_62 f_62 q_62 => ?_)
    have b_62 := q_62
    refine vIf (fun h_65 => ?_) (fun h_65 => ?_)
    · exact T_93 _ k_60 t_60
    · refine vB (v_X7_isUnitOrNone) (fun e_70 f_70 q_70 => ?_)
      have b_70 := q_70
      refine vIf (fun h_73 => ?_) (fun h_73 => ?_)
      · exact T_93 _ k_60 t_60
      · refine vB (v_X7_isUnitOrNone) (fun e_78 f_78 q_78 => ?_)
        have b_78 := q_78
        refine vIf (fun h_81 => ?_) (fun h_81 => ?_)
        · exact T_93 _ k_60 t_60
        · refine vB (v_X7_isUnitOrNone) (fun e_87 f_87 q_87 => ?_)
          have b_87 := q_87
          refine vIf (fun h_90 => ?_) (fun h_90 => ?_)
          · exact T_93 _ k_60 t_60
          · refine vB (v_X2_wish) (fun e_105 f_105 q_105 => ?_)
            refine vIf (fun h_109 => ?_) (fun h_109 => ?_)
            · refine vB (v_X2_wish) (fun e_118 f_118 q_118 => ?_)
              refine vIf (fun h_122 => ?_) (fun h_122 => ?_)
              · refine vB (v_X2_wish) (fun e_131 f_131 q_131 => ?_)
                refine vIf (fun h_136 => ?_) (fun h_136 => ?_)
                · refine vB (v_X7_refuse) (fun e_141 f_141 q_141 => ?_)
                  have k_141 : ∀ a j, ¬ WM_X7_choose P a j → e_141.2 a j = M0 a j := fun a j h => (q_141 a j (by unfold WM_X7_refuse; unfold WM_X7_choose at h; omega)).trans (k_60 a j h)
                  have t_141 : vp_in (e_141.2 (P + 25) 1) 8 := by rw [q_141 (P + 25) 1 (by unfold WM_X7_refuse; omega)]; exact t_60
                  exact ⟨_, rfl, k_141, t_141⟩
                · exact T_145 _ _ _ _ _ k_60 t_60
              · exact T_145 _ _ _ _ _ k_60 t_60
            · exact T_145 _ _ _ _ _ k_60 t_60
  have T_54 : ∀ (M_54 : zMt), (∀ a j, ¬ WM_X7_choose P a j → M_54 a j = M0 a j) → (vp_in (M_54 (P + 25) 1) 8) → ∃ r, D_X7_choose_54 P M_54 = some r ∧ ((∀ a j, ¬ WM_X7_choose P a j → r.2 a j = M0 a j) ∧ (vp_in (r.2 (P + 25) 1) 8)) := by
    intro M_54 k_54 t_54
    unfold D_X7_choose_54
    refine vB (v_X7_refuse) (fun e_56 f_56 q_56 => ?_)
    have k_56 : ∀ a j, ¬ WM_X7_choose P a j → e_56.2 a j = M0 a j := fun a j h => (q_56 a j (by unfold WM_X7_refuse; unfold WM_X7_choose at h; omega)).trans (k_54 a j h)
    have t_56 : vp_in (e_56.2 (P + 25) 1) 8 := by rw [q_56 (P + 25) 1 (by unfold WM_X7_refuse; omega)]; exact t_54
    exact ⟨_, rfl, k_56, t_56⟩
  have T_43 : ∀ (x1_43 : Int32) (x2_43 : Int32) (x3_43 : Int32) (x4_43 : Int32) (M_43 : zMt), (∀ a j, ¬ WM_X7_choose P a j → M_43 a j = M0 a j) → (vp_in (M_43 (P + 25) 1) 8) → ∃ r, D_X7_choose_43 P x1_43 x2_43 x3_43 x4_43 M_43 = some r ∧ ((∀ a j, ¬ WM_X7_choose P a j → r.2 a j = M0 a j) ∧ (vp_in (r.2 (P + 25) 1) 8)) := by
    intro x1_43 x2_43 x3_43 x4_43 M_43 k_43 t_43
    unfold D_X7_choose_43
    refine vIf (fun h_45 => ?_) (fun h_45 => ?_)
    · exact T_60 _ _ _ _ _ k_43 t_43
    · refine vIf (fun h_51 => ?_) (fun h_51 => ?_)
      · exact T_54 _ k_43 t_43
      · exact T_60 _ _ _ _ _ k_43 t_43
  have T_27 : ∀ (x1_27 : Int32) (x2_27 : Int32) (x3_27 : Int32) (x4_27 : Int32) (M_27 : zMt), (∀ a j, ¬ WM_X7_choose P a j → M_27 a j = M0 a j) → (vp_in (M_27 (P + 25) 1) 8) → ∃ r, D_X7_choose_27 P x1_27 x2_27 x3_27 x4_27 M_27 = some r ∧ ((∀ a j, ¬ WM_X7_choose P a j → r.2 a j = M0 a j) ∧ (vp_in (r.2 (P + 25) 1) 8)) := by
    intro x1_27 x2_27 x3_27 x4_27 M_27 k_27 t_27
    unfold D_X7_choose_27
    refine vIf (fun h_29 => ?_) (fun h_29 => ?_)
    · exact T_43 _ _ _ _ _ k_27 t_27
    · refine vIf (fun h_34 => ?_) (fun h_34 => ?_)
      · exact T_54 _ k_27 t_27
      · refine vIf (fun h_40 => ?_) (fun h_40 => ?_)
        · exact T_54 _ k_27 t_27
        · exact T_43 _ _ _ _ _ k_27 t_27
  have T_21 : ∀ (M_21 : zMt), (∀ a j, ¬ WM_X7_choose P a j → M_21 a j = M0 a j) → (vp_in (M_21 (P + 25) 1) 8) → ∃ r, D_X7_choose_21 P M_21 = some r ∧ ((∀ a j, ¬ WM_X7_choose P a j → r.2 a j = M0 a j) ∧ (vp_in (r.2 (P + 25) 1) 8)) := by
    intro M_21 k_21 t_21
    unfold D_X7_choose_21
    refine vB (v_X7_refuse) (fun e_23 f_23 q_23 => ?_)
    have k_23 : ∀ a j, ¬ WM_X7_choose P a j → e_23.2 a j = M0 a j := fun a j h => (q_23 a j (by unfold WM_X7_refuse; unfold WM_X7_choose at h; omega)).trans (k_21 a j h)
    have t_23 : vp_in (e_23.2 (P + 25) 1) 8 := by rw [q_23 (P + 25) 1 (by unfold WM_X7_refuse; omega)]; exact t_21
    exact ⟨_, rfl, k_23, t_23⟩
  have T_10 : ∀ (x1_10 : Int32) (x2_10 : Int32) (x3_10 : Int32) (x4_10 : Int32) (M_10 : zMt), (∀ a j, ¬ WM_X7_choose P a j → M_10 a j = M0 a j) → (vp_in (M_10 (P + 25) 1) 8) → ∃ r, D_X7_choose_10 P x1_10 x2_10 x3_10 x4_10 M_10 = some r ∧ ((∀ a j, ¬ WM_X7_choose P a j → r.2 a j = M0 a j) ∧ (vp_in (r.2 (P + 25) 1) 8)) := by
    intro x1_10 x2_10 x3_10 x4_10 M_10 k_10 t_10
    unfold D_X7_choose_10
    refine vIf (fun h_12 => ?_) (fun h_12 => ?_)
    · refine vIf (fun h_18 => ?_) (fun h_18 => ?_)
      · exact T_27 _ _ _ _ _ k_10 t_10
      · exact T_21 _ k_10 t_10
    · exact T_27 _ _ _ _ _ k_10 t_10
  unfold D_X7_choose
  refine vIf (fun h_2 => ?_) (fun h_2 => ?_)
  · refine vIf (fun h_7 => ?_) (fun h_7 => ?_)
    · exact T_10 _ _ _ _ _ (fun _ _ _ => rfl) hvp
    · exact T_21 _ (fun _ _ _ => rfl) hvp
  · exact T_10 _ _ _ _ _ (fun _ _ _ => rfl) hvp
def WM_X7_law (P : Nat) (a j : Nat) : Prop := (P + 25 ≤ a ∧ a < P + 91) ∨ (P + 92 ≤ a ∧ a < P + 104) ∨ (a = P ∧ (j = 0 ∨ j = 3)) ∨ (a = P + 17 ∧ (j = 3)) ∨ (a = P + 91 ∧ (j = 0 ∨ j = 1 ∨ j = 2 ∨ j = 3))
set_option maxRecDepth 100000 in
set_option maxHeartbeats 4000000 in
theorem v_X7_law {P : Nat} {v0 : Int32} {M0 : zMt}  (hvp : vp_in (M0 (P + 25) 1) 8) : ∃ r, D_X7_law P v0 M0 = some r ∧ ((∀ a j, ¬ WM_X7_law P a j → r.2 a j = M0 a j) ∧ (vp_in (r.2 (P + 25) 1) 8)) := by
  have T_9 : ∀ (M_9 : zMt), (∀ a j, ¬ WM_X7_law P a j → M_9 a j = M0 a j) → (vp_in (M_9 (P + 25) 1) 8) → ∃ r, D_X7_law_9 P M_9 = some r ∧ ((∀ a j, ¬ WM_X7_law P a j → r.2 a j = M0 a j) ∧ (vp_in (r.2 (P + 25) 1) 8)) := by
    intro M_9 k_9 t_9
    unfold D_X7_law_9
    refine vB (v_X7_refuse) (fun e_11 f_11 q_11 => ?_)
    have k_11 : ∀ a j, ¬ WM_X7_law P a j → e_11.2 a j = M0 a j := fun a j h => (q_11 a j (by unfold WM_X7_refuse; unfold WM_X7_law at h; omega)).trans (k_9 a j h)
    have t_11 : vp_in (e_11.2 (P + 25) 1) 8 := by rw [q_11 (P + 25) 1 (by unfold WM_X7_refuse; omega)]; exact t_9
    exact ⟨_, rfl, k_11, t_11⟩
  unfold D_X7_law
  refine vIf (fun h_1 => ?_) (fun h_1 => ?_)
  · exact T_9 _ (fun _ _ _ => rfl) hvp
  · refine vIf (fun h_6 => ?_) (fun h_6 => ?_)
    · refine vIf (fun h_25 => ?_) (fun h_25 => ?_)
      · refine vB (v_X7_refuse) (fun e_30 f_30 q_30 => ?_)
        have k_30 : ∀ a j, ¬ WM_X7_law P a j → e_30.2 a j = M0 a j := fun a j h => (q_30 a j (by unfold WM_X7_refuse; unfold WM_X7_law at h; omega))
        have t_30 : vp_in (e_30.2 (P + 25) 1) 8 := by rw [q_30 (P + 25) 1 (by unfold WM_X7_refuse; omega)]; exact hvp
        exact ⟨_, rfl, k_30, t_30⟩
      · refine vB (v_X1_keep hvp) (fun e_42 f_42 q_42 => ?_)
        have k_42 : ∀ a j, ¬ WM_X7_law P a j → e_42 a j = M0 a j := fun a j h => (q_42.1 a j (by unfold WM_X1_keep; unfold WM_X7_law at h; omega))
        have t_42 := q_42.2
        refine vLm (W := WM_X7_law P) (fun a j h => (zu_ne (by unfold WM_X7_law at h; omega)).trans (k_42 a j h)) (fun M_50 f_50 k_50 => ?_)
        have t_50 : vp_in (M_50 (P + 25) 1) 8 := by rw [(congrFun (congrFun f_50.symm (P + 25)) 1).trans (zu_ne (by omega))]; exact t_42
        refine vB (v_X7_changed) (fun e_55 f_55 q_55 => ?_)
        have k_55 : ∀ a j, ¬ WM_X7_law P a j → e_55.2 a j = M0 a j := fun a j h => (q_55 a j (by unfold WM_X7_changed; unfold WM_X7_law at h; omega)).trans (k_50 a j h)
        have t_55 : vp_in (e_55.2 (P + 25) 1) 8 := by rw [q_55 (P + 25) 1 (by unfold WM_X7_changed; omega)]; exact t_50
        exact ⟨_, rfl, k_55, t_55⟩
    · exact T_9 _ (fun _ _ _ => rfl) hvp
def WM_X7_prefer (P : Nat) (a j : Nat) : Prop := (P + 25 ≤ a ∧ a < P + 91) ∨ (P + 92 ≤ a ∧ a < P + 104) ∨ (a = P ∧ (j = 0 ∨ j = 3)) ∨ (a = P + 17 ∧ (j = 4)) ∨ (a = P + 91 ∧ (j = 0 ∨ j = 1 ∨ j = 2 ∨ j = 3))
set_option maxRecDepth 100000 in
set_option maxHeartbeats 4000000 in
theorem v_X7_prefer {P : Nat} {v0 : Int32} {M0 : zMt}  (hvp : vp_in (M0 (P + 25) 1) 8) : ∃ r, D_X7_prefer P v0 M0 = some r ∧ ((∀ a j, ¬ WM_X7_prefer P a j → r.2 a j = M0 a j) ∧ (vp_in (r.2 (P + 25) 1) 8)) := by
  have T_10 : ∀ (M_10 : zMt), (∀ a j, ¬ WM_X7_prefer P a j → M_10 a j = M0 a j) → (vp_in (M_10 (P + 25) 1) 8) → ∃ r, D_X7_prefer_10 P M_10 = some r ∧ ((∀ a j, ¬ WM_X7_prefer P a j → r.2 a j = M0 a j) ∧ (vp_in (r.2 (P + 25) 1) 8)) := by
    intro M_10 k_10 t_10
    unfold D_X7_prefer_10
    refine vB (v_X7_refuse) (fun e_12 f_12 q_12 => ?_)
    have k_12 : ∀ a j, ¬ WM_X7_prefer P a j → e_12.2 a j = M0 a j := fun a j h => (q_12 a j (by unfold WM_X7_refuse; unfold WM_X7_prefer at h; omega)).trans (k_10 a j h)
    have t_12 : vp_in (e_12.2 (P + 25) 1) 8 := by rw [q_12 (P + 25) 1 (by unfold WM_X7_refuse; omega)]; exact t_10
    exact ⟨_, rfl, k_12, t_12⟩
  unfold D_X7_prefer
  refine vIf (fun h_1 => ?_) (fun h_1 => ?_)
  · exact T_10 _ (fun _ _ _ => rfl) hvp
  · refine vIf (fun h_7 => ?_) (fun h_7 => ?_)
    · refine vIf (fun h_26 => ?_) (fun h_26 => ?_)
      · refine vB (v_X7_refuse) (fun e_31 f_31 q_31 => ?_)
        have k_31 : ∀ a j, ¬ WM_X7_prefer P a j → e_31.2 a j = M0 a j := fun a j h => (q_31 a j (by unfold WM_X7_refuse; unfold WM_X7_prefer at h; omega))
        have t_31 : vp_in (e_31.2 (P + 25) 1) 8 := by rw [q_31 (P + 25) 1 (by unfold WM_X7_refuse; omega)]; exact hvp
        exact ⟨_, rfl, k_31, t_31⟩
      · refine vB (v_X1_keep hvp) (fun e_43 f_43 q_43 => ?_)
        have k_43 : ∀ a j, ¬ WM_X7_prefer P a j → e_43 a j = M0 a j := fun a j h => (q_43.1 a j (by unfold WM_X1_keep; unfold WM_X7_prefer at h; omega))
        have t_43 := q_43.2
        refine vLm (W := WM_X7_prefer P) (fun a j h => (zu_ne (by unfold WM_X7_prefer at h; omega)).trans (k_43 a j h)) (fun M_51 f_51 k_51 => ?_)
        have t_51 : vp_in (M_51 (P + 25) 1) 8 := by rw [(congrFun (congrFun f_51.symm (P + 25)) 1).trans (zu_ne (by omega))]; exact t_43
        refine vB (v_X7_changed) (fun e_56 f_56 q_56 => ?_)
        have k_56 : ∀ a j, ¬ WM_X7_prefer P a j → e_56.2 a j = M0 a j := fun a j h => (q_56 a j (by unfold WM_X7_changed; unfold WM_X7_prefer at h; omega)).trans (k_51 a j h)
        have t_56 : vp_in (e_56.2 (P + 25) 1) 8 := by rw [q_56 (P + 25) 1 (by unfold WM_X7_changed; omega)]; exact t_51
        exact ⟨_, rfl, k_56, t_56⟩
    · exact T_10 _ (fun _ _ _ => rfl) hvp
def WM_X7_guests (P : Nat) (a j : Nat) : Prop := (P + 25 ≤ a ∧ a < P + 91) ∨ (P + 92 ≤ a ∧ a < P + 104) ∨ (a = P ∧ (j = 0 ∨ j = 3)) ∨ (a = P + 17 ∧ (j = 5)) ∨ (a = P + 91 ∧ (j = 0 ∨ j = 1 ∨ j = 2 ∨ j = 3))
set_option maxRecDepth 100000 in
set_option maxHeartbeats 4000000 in
theorem v_X7_guests {P : Nat} {v0 : Int32} {M0 : zMt}  (hvp : vp_in (M0 (P + 25) 1) 8) : ∃ r, D_X7_guests P v0 M0 = some r ∧ ((∀ a j, ¬ WM_X7_guests P a j → r.2 a j = M0 a j) ∧ (vp_in (r.2 (P + 25) 1) 8)) := by
  have T_10 : ∀ (M_10 : zMt), (∀ a j, ¬ WM_X7_guests P a j → M_10 a j = M0 a j) → (vp_in (M_10 (P + 25) 1) 8) → ∃ r, D_X7_guests_10 P M_10 = some r ∧ ((∀ a j, ¬ WM_X7_guests P a j → r.2 a j = M0 a j) ∧ (vp_in (r.2 (P + 25) 1) 8)) := by
    intro M_10 k_10 t_10
    unfold D_X7_guests_10
    refine vB (v_X7_refuse) (fun e_12 f_12 q_12 => ?_)
    have k_12 : ∀ a j, ¬ WM_X7_guests P a j → e_12.2 a j = M0 a j := fun a j h => (q_12 a j (by unfold WM_X7_refuse; unfold WM_X7_guests at h; omega)).trans (k_10 a j h)
    have t_12 : vp_in (e_12.2 (P + 25) 1) 8 := by rw [q_12 (P + 25) 1 (by unfold WM_X7_refuse; omega)]; exact t_10
    exact ⟨_, rfl, k_12, t_12⟩
  unfold D_X7_guests
  refine vIf (fun h_1 => ?_) (fun h_1 => ?_)
  · exact T_10 _ (fun _ _ _ => rfl) hvp
  · refine vIf (fun h_7 => ?_) (fun h_7 => ?_)
    · refine vIf (fun h_26 => ?_) (fun h_26 => ?_)
      · refine vB (v_X7_refuse) (fun e_31 f_31 q_31 => ?_)
        have k_31 : ∀ a j, ¬ WM_X7_guests P a j → e_31.2 a j = M0 a j := fun a j h => (q_31 a j (by unfold WM_X7_refuse; unfold WM_X7_guests at h; omega))
        have t_31 : vp_in (e_31.2 (P + 25) 1) 8 := by rw [q_31 (P + 25) 1 (by unfold WM_X7_refuse; omega)]; exact hvp
        exact ⟨_, rfl, k_31, t_31⟩
      · refine vB (v_X1_keep hvp) (fun e_43 f_43 q_43 => ?_)
        have k_43 : ∀ a j, ¬ WM_X7_guests P a j → e_43 a j = M0 a j := fun a j h => (q_43.1 a j (by unfold WM_X1_keep; unfold WM_X7_guests at h; omega))
        have t_43 := q_43.2
        refine vLm (W := WM_X7_guests P) (fun a j h => (zu_ne (by unfold WM_X7_guests at h; omega)).trans (k_43 a j h)) (fun M_51 f_51 k_51 => ?_)
        have t_51 : vp_in (M_51 (P + 25) 1) 8 := by rw [(congrFun (congrFun f_51.symm (P + 25)) 1).trans (zu_ne (by omega))]; exact t_43
        refine vB (v_X7_changed) (fun e_56 f_56 q_56 => ?_)
        have k_56 : ∀ a j, ¬ WM_X7_guests P a j → e_56.2 a j = M0 a j := fun a j h => (q_56 a j (by unfold WM_X7_changed; unfold WM_X7_guests at h; omega)).trans (k_51 a j h)
        have t_56 : vp_in (e_56.2 (P + 25) 1) 8 := by rw [q_56 (P + 25) 1 (by unfold WM_X7_changed; omega)]; exact t_51
        exact ⟨_, rfl, k_56, t_56⟩
    · exact T_10 _ (fun _ _ _ => rfl) hvp
def WM_X7_split (P : Nat) (a j : Nat) : Prop := (P + 21 ≤ a ∧ a < P + 22) ∨ (P + 25 ≤ a ∧ a < P + 91) ∨ (P + 92 ≤ a ∧ a < P + 104) ∨ (a = P ∧ (j = 0 ∨ j = 3)) ∨ (a = P + 17 ∧ (j = 2)) ∨ (a = P + 91 ∧ (j = 0 ∨ j = 1 ∨ j = 2 ∨ j = 3))
set_option maxRecDepth 100000 in
set_option maxHeartbeats 4000000 in
theorem v_X7_split {P : Nat} {v0 : Int32} {M0 : zMt}  (hvp : vp_in (M0 (P + 25) 1) 8) : ∃ r, D_X7_split P v0 M0 = some r ∧ ((∀ a j, ¬ WM_X7_split P a j → r.2 a j = M0 a j) ∧ (vp_in (r.2 (P + 25) 1) 8)) := by
  unfold D_X7_split
  refine vB (v_X7_isParty) (fun e_2 f_2 q_2 => ?_)
  have b_2 := q_2
  refine vIf (fun h_5 => ?_) (fun h_5 => ?_)
  · refine vB (v_X7_refuse) (fun e_10 f_10 q_10 => ?_)
    have k_10 : ∀ a j, ¬ WM_X7_split P a j → e_10.2 a j = M0 a j := fun a j h => (q_10 a j (by unfold WM_X7_refuse; unfold WM_X7_split at h; omega))
    have t_10 : vp_in (e_10.2 (P + 25) 1) 8 := by rw [q_10 (P + 25) 1 (by unfold WM_X7_refuse; omega)]; exact hvp
    exact ⟨_, rfl, k_10, t_10⟩
  · refine vB (v_X1_keep hvp) (fun e_22 f_22 q_22 => ?_)
    have k_22 : ∀ a j, ¬ WM_X7_split P a j → e_22 a j = M0 a j := fun a j h => (q_22.1 a j (by unfold WM_X1_keep; unfold WM_X7_split at h; omega))
    have t_22 := q_22.2
    refine vB (v_X4_dissolve) (fun e_30 f_30 q_30 => ?_)
    have k_30 : ∀ a j, ¬ WM_X7_split P a j → e_30 a j = M0 a j := fun a j h => (q_30 a j (by unfold WM_X4_dissolve; unfold WM_X7_split at h; omega)).trans (k_22 a j h)
    have t_30 : vp_in (e_30 (P + 25) 1) 8 := by rw [q_30 (P + 25) 1 (by unfold WM_X4_dissolve; omega)]; exact t_22
    refine vB (v_X7_changed) (fun e_35 f_35 q_35 => ?_)
    have k_35 : ∀ a j, ¬ WM_X7_split P a j → e_35.2 a j = M0 a j := fun a j h => (q_35 a j (by unfold WM_X7_changed; unfold WM_X7_split at h; omega)).trans (k_30 a j h)
    have t_35 : vp_in (e_35.2 (P + 25) 1) 8 := by rw [q_35 (P + 25) 1 (by unfold WM_X7_changed; omega)]; exact t_30
    refine vB (v_X7_answer) (fun e_47 f_47 q_47 => ?_)
    have k_47 : ∀ a j, ¬ WM_X7_split P a j → e_47.2 a j = M0 a j := fun a j h => (q_47 a j (by unfold WM_X7_answer; unfold WM_X7_split at h; omega)).trans (k_35 a j h)
    have t_47 : vp_in (e_47.2 (P + 25) 1) 8 := by rw [q_47 (P + 25) 1 (by unfold WM_X7_answer; omega)]; exact t_35
    exact ⟨_, rfl, k_47, t_47⟩
def WM_X7_undo (P : Nat) (a j : Nat) : Prop := (P + 17 ≤ a ∧ a < P + 25) ∨ (P + 92 ≤ a ∧ a < P + 104) ∨ (a = P ∧ (j = 0 ∨ j = 3)) ∨ (a = P + 25 ∧ (j = 0 ∨ j = 1)) ∨ (a = P + 91 ∧ (j = 0 ∨ j = 1 ∨ j = 2 ∨ j = 3))
set_option maxRecDepth 100000 in
set_option maxHeartbeats 4000000 in
theorem v_X7_undo {P : Nat}  {M0 : zMt}  (hvp : vp_in (M0 (P + 25) 1) 8) : ∃ r, D_X7_undo P M0 = some r ∧ ((∀ a j, ¬ WM_X7_undo P a j → r.2 a j = M0 a j) ∧ (vp_in (r.2 (P + 25) 1) 8)) := by
  unfold D_X7_undo
  refine vB (v_X1_giveBack (by omega) hvp) (fun e_8 f_8 q_8 => ?_)
  have k_8 : ∀ a j, ¬ WM_X7_undo P a j → e_8.2 a j = M0 a j := fun a j h => (q_8.1 a j (by unfold WM_X1_giveBack; unfold WM_X7_undo at h; omega))
  have b_8 := q_8.2.1
  have t_8 := q_8.2.2
  refine vIf (fun h_11 => ?_) (fun h_11 => ?_)
  · refine vB (v_X7_refuse) (fun e_16 f_16 q_16 => ?_)
    have k_16 : ∀ a j, ¬ WM_X7_undo P a j → e_16.2 a j = M0 a j := fun a j h => (q_16 a j (by unfold WM_X7_refuse; unfold WM_X7_undo at h; omega)).trans (k_8 a j h)
    have t_16 : vp_in (e_16.2 (P + 25) 1) 8 := by rw [q_16 (P + 25) 1 (by unfold WM_X7_refuse; omega)]; exact t_8
    exact ⟨_, rfl, k_16, t_16⟩
  · refine vB (v_X7_changed) (fun e_28 f_28 q_28 => ?_)
    have k_28 : ∀ a j, ¬ WM_X7_undo P a j → e_28.2 a j = M0 a j := fun a j h => (q_28 a j (by unfold WM_X7_changed; unfold WM_X7_undo at h; omega)).trans (k_8 a j h)
    have t_28 : vp_in (e_28.2 (P + 25) 1) 8 := by rw [q_28 (P + 25) 1 (by unfold WM_X7_changed; omega)]; exact t_8
    exact ⟨_, rfl, k_28, t_28⟩
def WM_X7_write (P : Nat) (a j : Nat) : Prop := (P + 2 ≤ a ∧ a < P + 3) ∨ (a = P ∧ (j = 2))
set_option maxRecDepth 100000 in
set_option maxHeartbeats 4000000 in
theorem v_X7_write {P : Nat} {v0 : Int32} {M0 : zMt}  : ∃ r, D_X7_write P v0 M0 = some r ∧ ((∀ a j, ¬ WM_X7_write P a j → r a j = M0 a j)) := by
  unfold D_X7_write
  refine vLm (W := WM_X7_write P) (fun a j h => (congrFun (zwr_row (by unfold WM_X7_write at h; omega)) j)) (fun M_9 f_9 k_9 => ?_)
  refine vLm (W := WM_X7_write P) (fun a j h => (zu_ne (by unfold WM_X7_write at h; omega)).trans (k_9 a j h)) (fun M_19 f_19 k_19 => ?_)
  exact ⟨_, rfl, k_19⟩
def WM_X7_print (P : Nat) (a j : Nat) : Prop := (P + 2 ≤ a ∧ a < P + 3) ∨ (P + 105 ≤ a ∧ a < P + 112) ∨ (a = P ∧ (j = 0 ∨ j = 2))
set_option maxRecDepth 100000 in
set_option maxHeartbeats 4000000 in
theorem v_X7_print {P : Nat} {v0 : Int32} {M0 : zMt}  : ∃ r, D_X7_print P v0 M0 = some r ∧ ((∀ a j, ¬ WM_X7_print P a j → r.2 a j = M0 a j)) := by
  have TL_32 : ∀ u : Nat, ∀ (x2_32 : Int32) (M_32 : zMt), (∀ a j, ¬ WM_X7_print P a j → M_32 a j = M0 a j) → (2147483648 - Int32.toInt x2_32).toNat < u → ∃ r, D_X7_print_32 P u x2_32 M_32 = some r ∧ ((∀ a j, ¬ WM_X7_print P a j → r.2 a j = M0 a j)) := by
    intro u
    induction u with
    | zero => intro x2_32 M_32 k_32 hm_32; exact absurd hm_32 (Nat.not_lt_zero _)
    | succ u_32 ih_32 =>
      have T_123 : ∀ (x2_123 : Int32) (M_123 : zMt), (∀ a j, ¬ WM_X7_print P a j → M_123 a j = M0 a j) → ((2147483648 - Int32.toInt x2_123).toNat < u_32 + 1) → (Int32.toInt x2_123 < 2147483647) → ∃ r, D_X7_print_123 P (D_X7_print_32 P u_32) x2_123 M_123 = some r ∧ ((∀ a j, ¬ WM_X7_print P a j → r.2 a j = M0 a j)) := by
        intro x2_123 M_123 k_123 f0_123 f1_123
        unfold D_X7_print_123
        refine vB (v_X7_write) (fun e_126 f_126 q_126 => ?_)
        have k_126 : ∀ a j, ¬ WM_X7_print P a j → e_126 a j = M0 a j := fun a j h => (q_126 a j (by unfold WM_X7_write; unfold WM_X7_print at h; omega)).trans (k_123 a j h)
        exact ih_32 _ _ k_126 (z_up1 f1_123 f0_123)
      have T_99 : ∀ (x2_99 : Int32) (x3_99 : Int32) (y1_99 : Int32) (M_99 : zMt), (∀ a j, ¬ WM_X7_print P a j → M_99 a j = M0 a j) → ((2147483648 - Int32.toInt x2_99).toNat < u_32 + 1) → (Int32.toInt x2_99 < 2147483647) → ∃ r, D_X7_print_99 P (D_X7_print_32 P u_32) x2_99 x3_99 y1_99 M_99 = some r ∧ ((∀ a j, ¬ WM_X7_print P a j → r.2 a j = M0 a j)) := by
        intro x2_99 x3_99 y1_99 M_99 k_99 f0_99 f1_99
        unfold D_X7_print_99
        refine vB (v_X7_write) (fun e_99 f_99 q_99 => ?_)
        have k_99 : ∀ a j, ¬ WM_X7_print P a j → e_99 a j = M0 a j := fun a j h => (q_99 a j (by unfold WM_X7_write; unfold WM_X7_print at h; omega)).trans (k_99 a j h)
        refine vIf (fun h_114 => ?_) (fun h_114 => ?_)
        · refine vB (v_X7_write) (fun e_120 f_120 q_120 => ?_)
          have k_120 : ∀ a j, ¬ WM_X7_print P a j → e_120 a j = M0 a j := fun a j h => (q_120 a j (by unfold WM_X7_write; unfold WM_X7_print at h; omega)).trans (k_99 a j h)
          exact T_123 _ _ k_120 f0_99 f1_99
        · exact T_123 _ _ k_99 f0_99 f1_99
      intro x2_32 M_32 k_32 hm_32
      rw [D_X7_print_32]
      refine vIf (fun h_40 => ?_) (fun h_40 => ?_)
      · refine vB (v_X7_answer) (fun e_140 f_140 q_140 => ?_)
        have k_140 : ∀ a j, ¬ WM_X7_print P a j → e_140.2 a j = M0 a j := fun a j h => (q_140 a j (by unfold WM_X7_answer; unfold WM_X7_print at h; omega)).trans (k_32 a j h)
        exact ⟨_, rfl, k_140⟩
      · refine vB (v_X7_write) (fun e_73 f_73 q_73 => ?_)
        have k_73 : ∀ a j, ¬ WM_X7_print P a j → e_73 a j = M0 a j := fun a j h => (q_73 a j (by unfold WM_X7_write; unfold WM_X7_print at h; omega)).trans (k_32 a j h)
        refine vB (v_X7_write) (fun e_79 f_79 q_79 => ?_)
        have k_79 : ∀ a j, ¬ WM_X7_print P a j → e_79 a j = M0 a j := fun a j h => (q_79 a j (by unfold WM_X7_write; unfold WM_X7_print at h; omega)).trans (k_73 a j h)
        refine vIf (fun h_86 => ?_) (fun h_86 => ?_)
        · exact T_99 _ _ _ _ k_79 hm_32 (by first | assumption | exact z_lt (by assumption) | exact z_lt2 (by assumption) | exact z_lt3 (by assumption) (by first | assumption | decide))
        · exact T_99 _ _ _ _ k_79 hm_32 (by first | assumption | exact z_lt (by assumption) | exact z_lt2 (by assumption) | exact z_lt3 (by assumption) (by first | assumption | decide))
  have T_32 : ∀ (x2_32 : Int32) (M_32 : zMt), (∀ a j, ¬ WM_X7_print P a j → M_32 a j = M0 a j) → ∃ r, D_X7_print_32 P zFu x2_32 M_32 = some r ∧ ((∀ a j, ¬ WM_X7_print P a j → r.2 a j = M0 a j)) := fun x2_32 M_32 k_32 => TL_32 zFu x2_32 M_32 k_32 (zFu_up _)
  unfold D_X7_print
  refine vB (v_X7_isSeed) (fun e_1 f_1 q_1 => ?_)
  have b_1 := q_1
  refine vIf (fun h_4 => ?_) (fun h_4 => ?_)
  · refine vB (v_X7_refuse) (fun e_9 f_9 q_9 => ?_)
    have k_9 : ∀ a j, ¬ WM_X7_print P a j → e_9.2 a j = M0 a j := fun a j h => (q_9 a j (by unfold WM_X7_refuse; unfold WM_X7_print at h; omega))
    exact ⟨_, rfl, k_9⟩
  · refine vB (v_X5_bySeed) (fun e_22 f_22 q_22 => ?_)
    have k_22 : ∀ a j, ¬ WM_X7_print P a j → e_22 a j = M0 a j := fun a j h => (q_22 a j (by unfold WM_X5_bySeed; unfold WM_X7_print at h; omega))
    refine vLm (W := WM_X7_print P) (fun a j h => (zu_ne (by unfold WM_X7_print at h; omega)).trans (k_22 a j h)) (fun M_27 f_27 k_27 => ?_)
    exact T_32 _ _ k_27
def WM_X7_out (P : Nat) (a j : Nat) : Prop := (a = P ∧ (j = 0))
set_option maxRecDepth 100000 in
set_option maxHeartbeats 4000000 in
theorem v_X7_out {P : Nat} {v0 : Int32} {M0 : zMt}  : ∃ r, D_X7_out P v0 M0 = some r ∧ ((∀ a j, ¬ WM_X7_out P a j → r.2 a j = M0 a j)) := by
  have T_38 : ∀ (y0_38 : Int32) (M_38 : zMt), (∀ a j, ¬ WM_X7_out P a j → M_38 a j = M0 a j) → ∃ r, D_X7_out_38 P y0_38 M_38 = some r ∧ ((∀ a j, ¬ WM_X7_out P a j → r.2 a j = M0 a j)) := by
    intro y0_38 M_38 k_38
    unfold D_X7_out_38
    exact ⟨_, rfl, k_38⟩
  unfold D_X7_out
  refine vIf (fun h_1 => ?_) (fun h_1 => ?_)
  · refine vIf (fun h_15 => ?_) (fun h_15 => ?_)
    · refine vB (v_X7_answer) (fun e_35 f_35 q_35 => ?_)
      have k_35 : ∀ a j, ¬ WM_X7_out P a j → e_35.2 a j = M0 a j := fun a j h => (q_35 a j (by unfold WM_X7_answer; unfold WM_X7_out at h; omega))
      exact T_38 _ _ k_35
    · refine vB (v_X7_refuse) (fun e_20 f_20 q_20 => ?_)
      have k_20 : ∀ a j, ¬ WM_X7_out P a j → e_20.2 a j = M0 a j := fun a j h => (q_20 a j (by unfold WM_X7_refuse; unfold WM_X7_out at h; omega))
      exact T_38 _ _ k_20
  · refine vB (v_X7_refuse) (fun e_6 f_6 q_6 => ?_)
    have k_6 : ∀ a j, ¬ WM_X7_out P a j → e_6.2 a j = M0 a j := fun a j h => (q_6 a j (by unfold WM_X7_refuse; unfold WM_X7_out at h; omega))
    exact ⟨_, rfl, k_6⟩
