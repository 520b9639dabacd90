def WM_X7_often (P : Nat) (a j : Nat) : Prop := (P + 126 ≤ a ∧ a < P + 129) ∨ (P + 130 ≤ a ∧ a < P + 137) ∨ (P + 138 ≤ a ∧ a < P + 150) ∨ (P + 151 ≤ a ∧ a < P + 158) ∨ (a = P ∧ (j = 0)) ∨ (a = P + 125 ∧ (j = 0 ∨ j = 1)) ∨ (a = P + 129 ∧ (j = 0 ∨ j = 1 ∨ j = 2 ∨ j = 3 ∨ j = 4 ∨ j = 5 ∨ j = 6)) ∨ (a = P + 137 ∧ (j = 0 ∨ j = 1 ∨ j = 2 ∨ j = 3))
set_option maxRecDepth 100000 in
set_option maxHeartbeats 4000000 in
theorem v_X7_often {P : Nat} {v0 : Int32} {v1 : Int32} {v2 : Int32} {M0 : zMt}  : ∃ r, D_X7_often P v0 v1 v2 M0 = some r ∧ ((∀ a j, ¬ WM_X7_often P a j → r.2 a j = M0 a j)) := by
  unfold D_X7_often
  refine vB (v_X7_areYears) (fun e_2 f_2 q_2 => ?_)
  have b_2 := q_2
  refine vIf (fun h_5 => ?_) (fun h_5 => ?_)
  · refine vB (v_X7_refuse) (fun e_10 f_10 q_10 => ?_)
    have k_10 : ∀ a j, ¬ WM_X7_often P a j → e_10.2 a j = M0 a j := fun a j h => (q_10 a j (by unfold WM_X7_refuse; unfold WM_X7_often at h; omega))
    exact ⟨_, rfl, k_10⟩
  · refine vB (v_X7_isHunter) (fun e_16 f_16 q_16 => ?_)
    have b_16 := q_16
    refine vIf (fun h_19 => ?_) (fun h_19 => ?_)
    · refine vB (v_X7_refuse) (fun e_24 f_24 q_24 => ?_)
      have k_24 : ∀ a j, ¬ WM_X7_often P a j → e_24.2 a j = M0 a j := fun a j h => (q_24 a j (by unfold WM_X7_refuse; unfold WM_X7_often at h; omega))
      exact ⟨_, rfl, k_24⟩
    · refine vB (v_X6_pass) (fun e_38 f_38 q_38 => ?_)
      have k_38 : ∀ a j, ¬ WM_X7_often P a j → e_38 a j = M0 a j := fun a j h => (q_38 a j (by unfold WM_X6_pass; unfold WM_X7_often at h; omega))
      refine vB (v_X7_answer) (fun e_53 f_53 q_53 => ?_)
      have k_53 : ∀ a j, ¬ WM_X7_often P a j → e_53.2 a j = M0 a j := fun a j h => (q_53 a j (by unfold WM_X7_answer; unfold WM_X7_often at h; omega)).trans (k_38 a j h)
      exact ⟨_, rfl, k_53⟩
def WM_X7_soonest (P : Nat) (a j : Nat) : Prop := (P + 126 ≤ a ∧ a < P + 129) ∨ (P + 130 ≤ a ∧ a < P + 137) ∨ (P + 138 ≤ a ∧ a < P + 150) ∨ (P + 151 ≤ a ∧ a < P + 158) ∨ (a = P ∧ (j = 0)) ∨ (a = P + 125 ∧ (j = 0 ∨ j = 1)) ∨ (a = P + 129 ∧ (j = 0 ∨ j = 1 ∨ j = 2 ∨ j = 3 ∨ j = 4 ∨ j = 5 ∨ j = 6)) ∨ (a = P + 137 ∧ (j = 0 ∨ j = 1 ∨ j = 2 ∨ j = 3))
set_option maxRecDepth 100000 in
set_option maxHeartbeats 4000000 in
theorem v_X7_soonest {P : Nat} {v0 : Int32} {v1 : Int32} {v2 : Int32} {M0 : zMt}  : ∃ r, D_X7_soonest P v0 v1 v2 M0 = some r ∧ ((∀ a j, ¬ WM_X7_soonest P a j → r.2 a j = M0 a j)) := by
  have T_73 : ∀ (y0_73 : Int32) (M_73 : zMt), (∀ a j, ¬ WM_X7_soonest P a j → M_73 a j = M0 a j) → ∃ r, D_X7_soonest_73 P y0_73 M_73 = some r ∧ ((∀ a j, ¬ WM_X7_soonest P a j → r.2 a j = M0 a j)) := by
    intro y0_73 M_73 k_73
    unfold D_X7_soonest_73
    exact ⟨_, rfl, k_73⟩
  unfold D_X7_soonest
  refine vB (v_X7_areYears) (fun e_2 f_2 q_2 => ?_)
  have b_2 := q_2
  refine vIf (fun h_5 => ?_) (fun h_5 => ?_)
  · refine vB (v_X7_refuse) (fun e_10 f_10 q_10 => ?_)
    have k_10 : ∀ a j, ¬ WM_X7_soonest P a j → e_10.2 a j = M0 a j := fun a j h => (q_10 a j (by unfold WM_X7_refuse; unfold WM_X7_soonest at h; omega))
    exact ⟨_, rfl, k_10⟩
  · refine vB (v_X7_isHunter) (fun e_16 f_16 q_16 => ?_)
    have b_16 := q_16
    refine vIf (fun h_19 => ?_) (fun h_19 => ?_)
    · refine vB (v_X7_refuse) (fun e_24 f_24 q_24 => ?_)
      have k_24 : ∀ a j, ¬ WM_X7_soonest P a j → e_24.2 a j = M0 a j := fun a j h => (q_24 a j (by unfold WM_X7_refuse; unfold WM_X7_soonest at h; omega))
      exact ⟨_, rfl, k_24⟩
    · refine vB (v_X6_pass) (fun e_38 f_38 q_38 => ?_)
      have k_38 : ∀ a j, ¬ WM_X7_soonest P a j → e_38 a j = M0 a j := fun a j h => (q_38 a j (by unfold WM_X6_pass; unfold WM_X7_soonest at h; omega))
      refine vIf (fun h_56 => ?_) (fun h_56 => ?_)
      · refine vB (v_X7_refuse) (fun e_61 f_61 q_61 => ?_)
        have k_61 : ∀ a j, ¬ WM_X7_soonest P a j → e_61.2 a j = M0 a j := fun a j h => (q_61 a j (by unfold WM_X7_refuse; unfold WM_X7_soonest at h; omega)).trans (k_38 a j h)
        exact T_73 _ _ k_61
      · refine vB (v_X7_answer) (fun e_70 f_70 q_70 => ?_)
        have k_70 : ∀ a j, ¬ WM_X7_soonest P a j → e_70.2 a j = M0 a j := fun a j h => (q_70 a j (by unfold WM_X7_answer; unfold WM_X7_soonest at h; omega)).trans (k_38 a j h)
        exact T_73 _ _ k_70
def WM_X7_draw (P : Nat) (a j : Nat) : Prop := (P + 19 ≤ a ∧ a < P + 20) ∨ (P + 24 ≤ a ∧ a < P + 91) ∨ (P + 92 ≤ a ∧ a < P + 104) ∨ (P + 105 ≤ a ∧ a < P + 112) ∨ (a = P ∧ (j = 0 ∨ j = 3)) ∨ (a = P + 17 ∧ (j = 6)) ∨ (a = P + 91 ∧ (j = 0 ∨ j = 1 ∨ j = 2 ∨ j = 3))
set_option maxRecDepth 100000 in
set_option maxHeartbeats 4000000 in
theorem v_X7_draw {P : Nat} {v0 : Int32} {M0 : zMt}  (hvp : vp_in (M0 (P + 25) 1) 8) : ∃ r, D_X7_draw P v0 M0 = some r ∧ ((∀ a j, ¬ WM_X7_draw P a j → r.2 a j = M0 a j) ∧ (vp_in (r.2 (P + 25) 1) 8)) := by
  unfold D_X7_draw
  refine vB (v_X7_isSeed) (fun e_1 f_1 q_1 => ?_)
  have b_1 := q_1
  refine vIf (fun h_4 => ?_) (fun h_4 => ?_)
  · refine vB (v_X7_refuse) (fun e_9 f_9 q_9 => ?_)
    have k_9 : ∀ a j, ¬ WM_X7_draw P a j → e_9.2 a j = M0 a j := fun a j h => (q_9 a j (by unfold WM_X7_refuse; unfold WM_X7_draw at h; omega))
    have t_9 : vp_in (e_9.2 (P + 25) 1) 8 := by rw [q_9 (P + 25) 1 (by unfold WM_X7_refuse; omega)]; exact hvp
    exact ⟨_, rfl, k_9, t_9⟩
  · refine vB (v_X1_keep hvp) (fun e_21 f_21 q_21 => ?_)
    have k_21 : ∀ a j, ¬ WM_X7_draw P a j → e_21 a j = M0 a j := fun a j h => (q_21.1 a j (by unfold WM_X1_keep; unfold WM_X7_draw at h; omega))
    have t_21 := q_21.2
    refine vB (v_X5_bySeed) (fun e_33 f_33 q_33 => ?_)
    have k_33 : ∀ a j, ¬ WM_X7_draw P a j → e_33 a j = M0 a j := fun a j h => (q_33 a j (by unfold WM_X5_bySeed; unfold WM_X7_draw at h; omega)).trans (k_21 a j h)
    have t_33 : vp_in (e_33 (P + 25) 1) 8 := by rw [q_33 (P + 25) 1 (by unfold WM_X5_bySeed; omega)]; exact t_21
    refine vB (v_X4_live) (fun e_48 f_48 q_48 => ?_)
    have k_48 : ∀ a j, ¬ WM_X7_draw P a j → e_48 a j = M0 a j := fun a j h => (q_48 a j (by unfold WM_X4_live; unfold WM_X7_draw at h; omega)).trans (k_33 a j h)
    have t_48 : vp_in (e_48 (P + 25) 1) 8 := by rw [q_48 (P + 25) 1 (by unfold WM_X4_live; omega)]; exact t_33
    refine vLm (W := WM_X7_draw P) (fun a j h => (zu_ne (by unfold WM_X7_draw at h; omega)).trans (k_48 a j h)) (fun M_61 f_61 k_61 => ?_)
    have t_61 : vp_in (M_61 (P + 25) 1) 8 := by rw [(congrFun (congrFun f_61.symm (P + 25)) 1).trans (zu_ne (by omega))]; exact t_48
    refine vB (v_X5_tagsGiven) (fun e_73 f_73 q_73 => ?_)
    refine vB (v_X7_changed) (fun e_76 f_76 q_76 => ?_)
    have k_76 : ∀ a j, ¬ WM_X7_draw P a j → e_76.2 a j = M0 a j := fun a j h => (q_76 a j (by unfold WM_X7_changed; unfold WM_X7_draw at h; omega)).trans (k_61 a j h)
    have t_76 : vp_in (e_76.2 (P + 25) 1) 8 := by rw [q_76 (P + 25) 1 (by unfold WM_X7_changed; omega)]; exact t_61
    exact ⟨_, rfl, k_76, t_76⟩
def WM_X7_points (P : Nat) (a j : Nat) : Prop := (P + 19 ≤ a ∧ a < P + 20) ∨ (P + 25 ≤ a ∧ a < P + 91) ∨ (P + 92 ≤ a ∧ a < P + 104) ∨ (a = P ∧ (j = 0 ∨ j = 3)) ∨ (a = P + 91 ∧ (j = 0 ∨ j = 1 ∨ j = 2 ∨ j = 3))
set_option maxRecDepth 100000 in
set_option maxHeartbeats 4000000 in
theorem v_X7_points {P : Nat} {v0 : Int32} {v1 : Int32} {M0 : zMt}  (hvp : vp_in (M0 (P + 25) 1) 8) : ∃ r, D_X7_points P v0 v1 M0 = some r ∧ ((∀ a j, ¬ WM_X7_points P a j → r.2 a j = M0 a j) ∧ (vp_in (r.2 (P + 25) 1) 8)) := by
  have T_10 : ∀ (M_10 : zMt), (∀ a j, ¬ WM_X7_points P a j → M_10 a j = M0 a j) → (vp_in (M_10 (P + 25) 1) 8) → ∃ r, D_X7_points_10 P M_10 = some r ∧ ((∀ a j, ¬ WM_X7_points P a j → r.2 a j = M0 a j) ∧ (vp_in (r.2 (P + 25) 1) 8)) := by
    intro M_10 k_10 t_10
    unfold D_X7_points_10
    refine vB (v_X7_refuse) (fun e_12 f_12 q_12 => ?_)
    have k_12 : ∀ a j, ¬ WM_X7_points P a j → e_12.2 a j = M0 a j := fun a j h => (q_12 a j (by unfold WM_X7_refuse; unfold WM_X7_points at h; omega)).trans (k_10 a j h)
    have t_12 : vp_in (e_12.2 (P + 25) 1) 8 := by rw [q_12 (P + 25) 1 (by unfold WM_X7_refuse; omega)]; exact t_10
    exact ⟨_, rfl, k_12, t_12⟩
  unfold D_X7_points
  refine vIf (fun h_1 => ?_) (fun h_1 => ?_)
  · exact T_10 _ (fun _ _ _ => rfl) hvp
  · refine vIf (fun h_7 => ?_) (fun h_7 => ?_)
    · refine vB (v_X7_isHunter) (fun e_18 f_18 q_18 => ?_)
      have b_18 := q_18
      refine vIf (fun h_21 => ?_) (fun h_21 => ?_)
      · refine vB (v_X7_refuse) (fun e_26 f_26 q_26 => ?_)
        have k_26 : ∀ a j, ¬ WM_X7_points P a j → e_26.2 a j = M0 a j := fun a j h => (q_26 a j (by unfold WM_X7_refuse; unfold WM_X7_points at h; omega))
        have t_26 : vp_in (e_26.2 (P + 25) 1) 8 := by rw [q_26 (P + 25) 1 (by unfold WM_X7_refuse; omega)]; exact hvp
        exact ⟨_, rfl, k_26, t_26⟩
      · refine vIf (fun h_44 => ?_) (fun h_44 => ?_)
        · refine vB (v_X7_refuse) (fun e_49 f_49 q_49 => ?_)
          have k_49 : ∀ a j, ¬ WM_X7_points P a j → e_49.2 a j = M0 a j := fun a j h => (q_49 a j (by unfold WM_X7_refuse; unfold WM_X7_points at h; omega))
          have t_49 : vp_in (e_49.2 (P + 25) 1) 8 := by rw [q_49 (P + 25) 1 (by unfold WM_X7_refuse; omega)]; exact hvp
          exact ⟨_, rfl, k_49, t_49⟩
        · refine vB (v_X1_keep hvp) (fun e_61 f_61 q_61 => ?_)
          have k_61 : ∀ a j, ¬ WM_X7_points P a j → e_61 a j = M0 a j := fun a j h => (q_61.1 a j (by unfold WM_X1_keep; unfold WM_X7_points at h; omega))
          have t_61 := q_61.2
          refine vLm (W := WM_X7_points P) (fun a j h => (congrFun (zwr_row (by unfold WM_X7_points at h; omega)) j).trans (k_61 a j h)) (fun M_73 f_73 k_73 => ?_)
          have t_73 : vp_in (M_73 (P + 25) 1) 8 := by rw [(congrFun (congrFun f_73.symm (P + 25)) 1).trans (congrFun (zwr_row (by omega)) 1)]; exact t_61
          refine vB (v_X7_changed) (fun e_78 f_78 q_78 => ?_)
          have k_78 : ∀ a j, ¬ WM_X7_points P a j → e_78.2 a j = M0 a j := fun a j h => (q_78 a j (by unfold WM_X7_changed; unfold WM_X7_points at h; omega)).trans (k_73 a j h)
          have t_78 : vp_in (e_78.2 (P + 25) 1) 8 := by rw [q_78 (P + 25) 1 (by unfold WM_X7_changed; omega)]; exact t_73
          exact ⟨_, rfl, k_78, t_78⟩
    · exact T_10 _ (fun _ _ _ => rfl) hvp
def WM_X7_quota (P : Nat) (a j : Nat) : Prop := (P + 18 ≤ a ∧ a < P + 19) ∨ (P + 25 ≤ a ∧ a < P + 91) ∨ (P + 92 ≤ a ∧ a < P + 104) ∨ (a = P ∧ (j = 0 ∨ j = 3)) ∨ (a = P + 91 ∧ (j = 0 ∨ j = 1 ∨ j = 2 ∨ j = 3))
set_option maxRecDepth 100000 in
set_option maxHeartbeats 4000000 in
theorem v_X7_quota {P : Nat} {v0 : Int32} {v1 : Int32} {M0 : zMt}  (hvp : vp_in (M0 (P + 25) 1) 8) : ∃ r, D_X7_quota P v0 v1 M0 = some r ∧ ((∀ a j, ¬ WM_X7_quota P a j → r.2 a j = M0 a j) ∧ (vp_in (r.2 (P + 25) 1) 8)) := by
  have T_10 : ∀ (M_10 : zMt), (∀ a j, ¬ WM_X7_quota P a j → M_10 a j = M0 a j) → (vp_in (M_10 (P + 25) 1) 8) → ∃ r, D_X7_quota_10 P M_10 = some r ∧ ((∀ a j, ¬ WM_X7_quota P a j → r.2 a j = M0 a j) ∧ (vp_in (r.2 (P + 25) 1) 8)) := by
    intro M_10 k_10 t_10
    unfold D_X7_quota_10
    refine vB (v_X7_refuse) (fun e_12 f_12 q_12 => ?_)
    have k_12 : ∀ a j, ¬ WM_X7_quota P a j → e_12.2 a j = M0 a j := fun a j h => (q_12 a j (by unfold WM_X7_refuse; unfold WM_X7_quota at h; omega)).trans (k_10 a j h)
    have t_12 : vp_in (e_12.2 (P + 25) 1) 8 := by rw [q_12 (P + 25) 1 (by unfold WM_X7_refuse; omega)]; exact t_10
    exact ⟨_, rfl, k_12, t_12⟩
  unfold D_X7_quota
  refine vIf (fun h_1 => ?_) (fun h_1 => ?_)
  · exact T_10 _ (fun _ _ _ => rfl) hvp
  · refine vIf (fun h_7 => ?_) (fun h_7 => ?_)
    · refine vB (v_X7_isUnit) (fun e_18 f_18 q_18 => ?_)
      have b_18 := q_18
      refine vIf (fun h_21 => ?_) (fun h_21 => ?_)
      · refine vB (v_X7_refuse) (fun e_26 f_26 q_26 => ?_)
        have k_26 : ∀ a j, ¬ WM_X7_quota P a j → e_26.2 a j = M0 a j := fun a j h => (q_26 a j (by unfold WM_X7_refuse; unfold WM_X7_quota at h; omega))
        have t_26 : vp_in (e_26.2 (P + 25) 1) 8 := by rw [q_26 (P + 25) 1 (by unfold WM_X7_refuse; omega)]; exact hvp
        exact ⟨_, rfl, k_26, t_26⟩
      · refine vIf (fun h_44 => ?_) (fun h_44 => ?_)
        · refine vB (v_X7_refuse) (fun e_49 f_49 q_49 => ?_)
          have k_49 : ∀ a j, ¬ WM_X7_quota P a j → e_49.2 a j = M0 a j := fun a j h => (q_49 a j (by unfold WM_X7_refuse; unfold WM_X7_quota at h; omega))
          have t_49 : vp_in (e_49.2 (P + 25) 1) 8 := by rw [q_49 (P + 25) 1 (by unfold WM_X7_refuse; omega)]; exact hvp
          exact ⟨_, rfl, k_49, t_49⟩
        · refine vB (v_X1_keep hvp) (fun e_61 f_61 q_61 => ?_)
          have k_61 : ∀ a j, ¬ WM_X7_quota P a j → e_61 a j = M0 a j := fun a j h => (q_61.1 a j (by unfold WM_X1_keep; unfold WM_X7_quota at h; omega))
          have t_61 := q_61.2
          refine vLm (W := WM_X7_quota P) (fun a j h => (congrFun (zwr_row (by unfold WM_X7_quota at h; omega)) j).trans (k_61 a j h)) (fun M_73 f_73 k_73 => ?_)
          have t_73 : vp_in (M_73 (P + 25) 1) 8 := by rw [(congrFun (congrFun f_73.symm (P + 25)) 1).trans (congrFun (zwr_row (by omega)) 1)]; exact t_61
          refine vB (v_X7_changed) (fun e_78 f_78 q_78 => ?_)
          have k_78 : ∀ a j, ¬ WM_X7_quota P a j → e_78.2 a j = M0 a j := fun a j h => (q_78 a j (by unfold WM_X7_changed; unfold WM_X7_quota at h; omega)).trans (k_73 a j h)
          have t_78 : vp_in (e_78.2 (P + 25) 1) 8 := by rw [q_78 (P + 25) 1 (by unfold WM_X7_changed; omega)]; exact t_73
          exact ⟨_, rfl, k_78, t_78⟩
    · exact T_10 _ (fun _ _ _ => rfl) hvp
set_option maxRecDepth 100000 in
set_option maxHeartbeats 4000000 in
theorem v_X7_isUnitOrNone {P : Nat} {M : zMt} {v0 : Int32}  : ∃ r, D_X7_isUnitOrNone P M v0 = some r ∧ ((r = 0 ∨ r = 1)) := by
  have T_18 : ∀ (y0_18 : Int32), (y0_18 = 0 ∨ y0_18 = 1) → ∃ r, D_X7_isUnitOrNone_18 P M y0_18 = some r ∧ ((r = 0 ∨ r = 1)) := by
    intro y0_18 f0_18
    unfold D_X7_isUnitOrNone_18
    exact ⟨_, rfl, (by first | exact Or.inl rfl | exact Or.inr rfl | assumption)⟩
  have T_13 : ∃ r, D_X7_isUnitOrNone_13 P M = some r ∧ ((r = 0 ∨ r = 1)) := by
    unfold D_X7_isUnitOrNone_13
    exact T_18 _ (by first | exact Or.inl rfl | exact Or.inr rfl | assumption)
  unfold D_X7_isUnitOrNone
  refine vIf (fun h_2 => ?_) (fun h_2 => ?_)
  · exact T_13
  · refine vB (v_X7_isUnit) (fun e_7 f_7 q_7 => ?_)
    have b_7 := q_7
    refine vIf (fun h_10 => ?_) (fun h_10 => ?_)
    · exact T_18 _ (by first | exact Or.inl rfl | exact Or.inr rfl | assumption)
    · exact T_13
def WM_X7_choose (P : Nat) (a j : Nat) : Prop := (P + 22 ≤ a ∧ a < P + 24) ∨ (P + 25 ≤ a ∧ a < P + 91) ∨ (P + 92 ≤ a ∧ a < P + 104) ∨ (a = P ∧ (j = 0 ∨ j = 3)) ∨ (a = P + 91 ∧ (j = 0 ∨ j = 1 ∨ j = 2 ∨ j = 3))
set_option maxRecDepth 100000 in
set_option maxHeartbeats 4000000 in
theorem v_X7_choose {P : Nat} {v0 : Int32} {v1 : Int32} {v2 : Int32} {v3 : Int32} {M0 : zMt}  (hvp : vp_in (M0 (P + 25) 1) 8) : ∃ r, D_X7_choose P v0 v1 v2 v3 M0 = some r ∧ ((∀ a j, ¬ WM_X7_choose P a j → r.2 a j = M0 a j) ∧ (vp_in (r.2 (P + 25) 1) 8)) := by
  have T_145 : ∀ (x1_145 : Int32) (x2_145 : Int32) (x3_145 : Int32) (x4_145 : Int32) (M_145 : zMt), (∀ a j, ¬ WM_X7_choose P a j → M_145 a j = M0 a j) → (vp_in (M_145 (P + 25) 1) 8) → ∃ r, D_X7_choose_145 P x1_145 x2_145 x3_145 x4_145 M_145 = some r ∧ ((∀ a j, ¬ WM_X7_choose P a j → r.2 a j = M0 a j) ∧ (vp_in (r.2 (P + 25) 1) 8)) := by
    intro x1_145 x2_145 x3_145 x4_145 M_145 k_145 t_145
    unfold D_X7_choose_145
    refine vB (v_X1_keep t_145) (fun e_166 f_166 q_166 => ?_)
    have k_166 : ∀ a j, ¬ WM_X7_choose P a j → e_166 a j = M0 a j := fun a j h => (q_166.1 a j (by unfold WM_X1_keep; unfold WM_X7_choose at h; omega)).trans (k_145 a j h)
    have t_166 := q_166.2
    refine vB (v_X4_wishFor) (fun e_188 f_188 q_188 => ?_)
    have k_188 : ∀ a j, ¬ WM_X7_choose P a j → e_188 a j = M0 a j := fun a j h => (q_188 a j (by unfold WM_X4_wishFor; unfold WM_X7_choose at h; omega)).trans (k_166 a j h)
    have t_188 : vp_in (e_188 (P + 25) 1) 8 := by rw [q_188 (P + 25) 1 (by unfold WM_X4_wishFor; omega)]; exact t_166
    refine vB (v_X7_changed) (fun e_194 f_194 q_194 => ?_)
    have k_194 : ∀ a j, ¬ WM_X7_choose P a j → e_194.2 a j = M0 a j := fun a j h => (q_194 a j (by unfold WM_X7_changed; unfold WM_X7_choose at h; omega)).trans (k_188 a j h)
    have t_194 : vp_in (e_194.2 (P + 25) 1) 8 := by rw [q_194 (P + 25) 1 (by unfold WM_X7_changed; omega)]; exact t_188
    exact ⟨_, rfl, k_194, t_194⟩
  have T_93 : ∀ (M_93 : zMt), (∀ a j, ¬ WM_X7_choose P a j → M_93 a j = M0 a j) → (vp_in (M_93 (P + 25) 1) 8) → ∃ r, D_X7_choose_93 P M_93 = some r ∧ ((∀ a j, ¬ WM_X7_choose P a j → r.2 a j = M0 a j) ∧ (vp_in (r.2 (P + 25) 1) 8)) := by
    intro M_93 k_93 t_93
    unfold D_X7_choose_93
    refine vB (v_X7_refuse) (fun e_95 f_95 q_95 => ?_)
    have k_95 : ∀ a j, ¬ WM_X7_choose P a j → e_95.2 a j = M0 a j := fun a j h => (q_95 a j (by unfold WM_X7_refuse; unfold WM_X7_choose at h; omega)).trans (k_93 a j h)
    have t_95 : vp_in (e_95.2 (P + 25) 1) 8 := by rw [q_95 (P + 25) 1 (by unfold WM_X7_refuse; omega)]; exact t_93
    exact ⟨_, rfl, k_95, t_95⟩
  have T_60 : ∀ (x1_60 : Int32) (x2_60 : Int32) (x3_60 : Int32) (x4_60 : Int32) (M_60 : zMt), (∀ a j, ¬ WM_X7_choose P a j → M_60 a j = M0 a j) → (vp_in (M_60 (P + 25) 1) 8) → ∃ r, D_X7_choose_60 P x1_60 x2_60 x3_60 x4_60 M_60 = some r ∧ ((∀ a j, ¬ WM_X7_choose P a j → r.2 a j = M0 a j) ∧ (vp_in (r.2 (P + 25) 1) 8)) := by
    intro x1_60 x2_60 x3_60 x4_60 M_60 k_60 t_60
    unfold D_X7_choose_60
    refine vB (v_X7_isApplicant) (fun e_62 f_62 q_62 => ?_)
    have b_62 := q_62
    refine vIf (fun h_65 => ?_) (fun h_65 => ?_)
    · exact T_93 _ k_60 t_60
    · refine vB (v_X7_isUnitOrNone) (fun e_70 f_70 q_70 => ?_)
      have b_70 := q_70
      refine vIf (fun h_73 => ?_) (fun h_73 => ?_)
      · exact T_93 _ k_60 t_60
      · refine vB (v_X7_isUnitOrNone) (fun e_78 f_78 q_78 => ?_)
        have b_78 := q_78
        refine vIf (fun h_81 => ?_) (fun h_81 => ?_)
        · exact T_93 _ k_60 t_60
        · refine vB (v_X7_isUnitOrNone) (fun e_87 f_87 q_87 => ?_)
          have b_87 := q_87
          refine vIf (fun h_90 => ?_) (fun h_90 => ?_)
          · exact T_93 _ k_60 t_60
          · refine vB (v_X2_wish) (fun e_105 f_105 q_105 => ?_)
            refine vIf (fun h_109 => ?_) (fun h_109 => ?_)
            · refine vB (v_X2_wish) (fun e_118 f_118 q_118 => ?_)
              refine vIf (fun h_122 => ?_) (fun h_122 => ?_)
              · refine vB (v_X2_wish) (fun e_131 f_131 q_131 => ?_)
                refine vIf (fun h_136 => ?_) (fun h_136 => ?_)
                · refine vB (v_X7_refuse) (fun e_141 f_141 q_141 => ?_)
                  have k_141 : ∀ a j, ¬ WM_X7_choose P a j → e_141.2 a j = M0 a j := fun a j h => (q_141 a j (by unfold WM_X7_refuse; unfold WM_X7_choose at h; omega)).trans (k_60 a j h)
                  have t_141 : vp_in (e_141.2 (P + 25) 1) 8 := by rw [q_141 (P + 25) 1 (by unfold WM_X7_refuse; omega)]; exact t_60
                  exact ⟨_, rfl, k_141, t_141⟩
                · exact T_145 _ _ _ _ _ k_60 t_60
              · exact T_145 _ _ _ _ _ k_60 t_60
            · exact T_145 _ _ _ _ _ k_60 t_60
  have T_54 : ∀ (M_54 : zMt), (∀ a j, ¬ WM_X7_choose P a j → M_54 a j = M0 a j) → (vp_in (M_54 (P + 25) 1) 8) → ∃ r, D_X7_choose_54 P M_54 = some r ∧ ((∀ a j, ¬ WM_X7_choose P a j → r.2 a j = M0 a j) ∧ (vp_in (r.2 (P + 25) 1) 8)) := by
    intro M_54 k_54 t_54
    unfold D_X7_choose_54
    refine vB (v_X7_refuse) (fun e_56 f_56 q_56 => ?_)
    have k_56 : ∀ a j, ¬ WM_X7_choose P a j → e_56.2 a j = M0 a j := fun a j h => (q_56 a j (by unfold WM_X7_refuse; unfold WM_X7_choose at h; omega)).trans (k_54 a j h)
    have t_56 : vp_in (e_56.2 (P + 25) 1) 8 := by rw [q_56 (P + 25) 1 (by unfold WM_X7_refuse; omega)]; exact t_54
    exact ⟨_, rfl, k_56, t_56⟩
  have T_43 : ∀ (x1_43 : Int32) (x2_43 : Int32) (x3_43 : Int32) (x4_43 : Int32) (M_43 : zMt), (∀ a j, ¬ WM_X7_choose P a j → M_43 a j = M0 a j) → (vp_in (M_43 (P + 25) 1) 8) → ∃ r, D_X7_choose_43 P x1_43 x2_43 x3_43 x4_43 M_43 = some r ∧ ((∀ a j, ¬ WM_X7_choose P a j → r.2 a j = M0 a j) ∧ (vp_in (r.2 (P + 25) 1) 8)) := by
    intro x1_43 x2_43 x3_43 x4_43 M_43 k_43 t_43
    unfold D_X7_choose_43
    refine vIf (fun h_45 => ?_) (fun h_45 => ?_)
    · exact T_60 _ _ _ _ _ k_43 t_43
    · refine vIf (fun h_51 => ?_) (fun h_51 => ?_)
      · exact T_54 _ k_43 t_43
      · exact T_60 _ _ _ _ _ k_43 t_43
  have T_27 : ∀ (x1_27 : Int32) (x2_27 : Int32) (x3_27 : Int32) (x4_27 : Int32) (M_27 : zMt), (∀ a j, ¬ WM_X7_choose P a j → M_27 a j = M0 a j) → (vp_in (M_27 (P + 25) 1) 8) → ∃ r, D_X7_choose_27 P x1_27 x2_27 x3_27 x4_27 M_27 = some r ∧ ((∀ a j, ¬ WM_X7_choose P a j → r.2 a j = M0 a j) ∧ (vp_in (r.2 (P + 25) 1) 8)) := by
    intro x1_27 x2_27 x3_27 x4_27 M_27 k_27 t_27
    unfold D_X7_choose_27
    refine vIf (fun h_29 => ?_) (fun h_29 => ?_)
    · exact T_43 _ _ _ _ _ k_27 t_27
    · refine vIf (fun h_34 => ?_) (fun h_34 => ?_)
      · exact T_54 _ k_27 t_27
      · refine vIf (fun h_40 => ?_) (fun h_40 => ?_)
        · exact T_54 _ k_27 t_27
        · exact T_43 _ _ _ _ _ k_27 t_27
  have T_21 : ∀ (M_21 : zMt), (∀ a j, ¬ WM_X7_choose P a j → M_21 a j = M0 a j) → (vp_in (M_21 (P + 25) 1) 8) → ∃ r, D_X7_choose_21 P M_21 = some r ∧ ((∀ a j, ¬ WM_X7_choose P a j → r.2 a j = M0 a j) ∧ (vp_in (r.2 (P + 25) 1) 8)) := by
    intro M_21 k_21 t_21
    unfold D_X7_choose_21
    refine vB (v_X7_refuse) (fun e_23 f_23 q_23 => ?_)
    have k_23 : ∀ a j, ¬ WM_X7_choose P a j → e_23.2 a j = M0 a j := fun a j h => (q_23 a j (by unfold WM_X7_refuse; unfold WM_X7_choose at h; omega)).trans (k_21 a j h)
    have t_23 : vp_in (e_23.2 (P + 25) 1) 8 := by rw [q_23 (P + 25) 1 (by unfold WM_X7_refuse; omega)]; exact t_21
    exact ⟨_, rfl, k_23, t_23⟩
  have T_10 : ∀ (x1_10 : Int32) (x2_10 : Int32) (x3_10 : Int32) (x4_10 : Int32) (M_10 : zMt), (∀ a j, ¬ WM_X7_choose P a j → M_10 a j = M0 a j) → (vp_in (M_10 (P + 25) 1) 8) → ∃ r, D_X7_choose_10 P x1_10 x2_10 x3_10 x4_10 M_10 = some r ∧ ((∀ a j, ¬ WM_X7_choose P a j → r.2 a j = M0 a j) ∧ (vp_in (r.2 (P + 25) 1) 8)) := by
    intro x1_10 x2_10 x3_10 x4_10 M_10 k_10 t_10
    unfold D_X7_choose_10
    refine vIf (fun h_12 => ?_) (fun h_12 => ?_)
    · refine vIf (fun h_18 => ?_) (fun h_18 => ?_)
      · exact T_27 _ _ _ _ _ k_10 t_10
      · exact T_21 _ k_10 t_10
    · exact T_27 _ _ _ _ _ k_10 t_10
  unfold D_X7_choose
  refine vIf (fun h_2 => ?_) (fun h_2 => ?_)
  · refine vIf (fun h_7 => ?_) (fun h_7 => ?_)
    · exact T_10 _ _ _ _ _ (fun _ _ _ => rfl) hvp
    · exact T_21 _ (fun _ _ _ => rfl) hvp
  · exact T_10 _ _ _ _ _ (fun _ _ _ => rfl) hvp
def WM_X7_law (P : Nat) (a j : Nat) : Prop := (P + 25 ≤ a ∧ a < P + 91) ∨ (P + 92 ≤ a ∧ a < P + 104) ∨ (a = P ∧ (j = 0 ∨ j = 3)) ∨ (a = P + 17 ∧ (j = 3)) ∨ (a = P + 91 ∧ (j = 0 ∨ j = 1 ∨ j = 2 ∨ j = 3))
set_option maxRecDepth 100000 in
set_option maxHeartbeats 4000000 in
theorem v_X7_law {P : Nat} {v0 : Int32} {M0 : zMt}  (hvp : vp_in (M0 (P + 25) 1) 8) : ∃ r, D_X7_law P v0 M0 = some r ∧ ((∀ a j, ¬ WM_X7_law P a j → r.2 a j = M0 a j) ∧ (vp_in (r.2 (P + 25) 1) 8)) := by
  have T_9 : ∀ (M_9 : zMt), (∀ a j, ¬ WM_X7_law P a j → M_9 a j = M0 a j) → (vp_in (M_9 (P + 25) 1) 8) → ∃ r, D_X7_law_9 P M_9 = some r ∧ ((∀ a j, ¬ WM_X7_law P a j → r.2 a j = M0 a j) ∧ (vp_in (r.2 (P + 25) 1) 8)) := by
    intro M_9 k_9 t_9
    unfold D_X7_law_9
    refine vB (v_X7_refuse) (fun e_11 f_11 q_11 => ?_)
    have k_11 : ∀ a j, ¬ WM_X7_law P a j → e_11.2 a j = M0 a j := fun a j h => (q_11 a j (by unfold WM_X7_refuse; unfold WM_X7_law at h; omega)).trans (k_9 a j h)
    have t_11 : vp_in (e_11.2 (P + 25) 1) 8 := by rw [q_11 (P + 25) 1 (by unfold WM_X7_refuse; omega)]; exact t_9
    exact ⟨_, rfl, k_11, t_11⟩
  unfold D_X7_law
  refine vIf (fun h_1 => ?_) (fun h_1 => ?_)
  · exact T_9 _ (fun _ _ _ => rfl) hvp
  · refine vIf (fun h_6 => ?_) (fun h_6 => ?_)
    · refine vIf (fun h_25 => ?_) (fun h_25 => ?_)
      · refine vB (v_X7_refuse) (fun e_30 f_30 q_30 => ?_)
        have k_30 : ∀ a j, ¬ WM_X7_law P a j → e_30.2 a j = M0 a j := fun a j h => (q_30 a j (by unfold WM_X7_refuse; unfold WM_X7_law at h; omega))
        have t_30 : vp_in (e_30.2 (P + 25) 1) 8 := by rw [q_30 (P + 25) 1 (by unfold WM_X7_refuse; omega)]; exact hvp
        exact ⟨_, rfl, k_30, t_30⟩
      · refine vB (v_X1_keep hvp) (fun e_42 f_42 q_42 => ?_)
        have k_42 : ∀ a j, ¬ WM_X7_law P a j → e_42 a j = M0 a j := fun a j h => (q_42.1 a j (by unfold WM_X1_keep; unfold WM_X7_law at h; omega))
        have t_42 := q_42.2
        refine vLm (W := WM_X7_law P) (fun a j h => (zu_ne (by unfold WM_X7_law at h; omega)).trans (k_42 a j h)) (fun M_50 f_50 k_50 => ?_)
        have t_50 : vp_in (M_50 (P + 25) 1) 8 := by rw [(congrFun (congrFun f_50.symm (P + 25)) 1).trans (zu_ne (by omega))]; exact t_42
        refine vB (v_X7_changed) (fun e_55 f_55 q_55 => ?_)
        have k_55 : ∀ a j, ¬ WM_X7_law P a j → e_55.2 a j = M0 a j := fun a j h => (q_55 a j (by unfold WM_X7_changed; unfold WM_X7_law at h; omega)).trans (k_50 a j h)
        have t_55 : vp_in (e_55.2 (P + 25) 1) 8 := by rw [q_55 (P + 25) 1 (by unfold WM_X7_changed; omega)]; exact t_50
        exact ⟨_, rfl, k_55, t_55⟩
    · exact T_9 _ (fun _ _ _ => rfl) hvp
def WM_X7_prefer (P : Nat) (a j : Nat) : Prop := (P + 25 ≤ a ∧ a < P + 91) ∨ (P + 92 ≤ a ∧ a < P + 104) ∨ (a = P ∧ (j = 0 ∨ j = 3)) ∨ (a = P + 17 ∧ (j = 4)) ∨ (a = P + 91 ∧ (j = 0 ∨ j = 1 ∨ j = 2 ∨ j = 3))
set_option maxRecDepth 100000 in
set_option maxHeartbeats 4000000 in
theorem v_X7_prefer {P : Nat} {v0 : Int32} {M0 : zMt}  (hvp : vp_in (M0 (P + 25) 1) 8) : ∃ r, D_X7_prefer P v0 M0 = some r ∧ ((∀ a j, ¬ WM_X7_prefer P a j → r.2 a j = M0 a j) ∧ (vp_in (r.2 (P + 25) 1) 8)) := by
  have T_10 : ∀ (M_10 : zMt), (∀ a j, ¬ WM_X7_prefer P a j → M_10 a j = M0 a j) → (vp_in (M_10 (P + 25) 1) 8) → ∃ r, D_X7_prefer_10 P M_10 = some r ∧ ((∀ a j, ¬ WM_X7_prefer P a j → r.2 a j = M0 a j) ∧ (vp_in (r.2 (P + 25) 1) 8)) := by
    intro M_10 k_10 t_10
    unfold D_X7_prefer_10
    refine vB (v_X7_refuse) (fun e_12 f_12 q_12 => ?_)
    have k_12 : ∀ a j, ¬ WM_X7_prefer P a j → e_12.2 a j = M0 a j := fun a j h => (q_12 a j (by unfold WM_X7_refuse; unfold WM_X7_prefer at h; omega)).trans (k_10 a j h)
    have t_12 : vp_in (e_12.2 (P + 25) 1) 8 := by rw [q_12 (P + 25) 1 (by unfold WM_X7_refuse; omega)]; exact t_10
    exact ⟨_, rfl, k_12, t_12⟩
  unfold D_X7_prefer
  refine vIf (fun h_1 => ?_) (fun h_1 => ?_)
  · exact T_10 _ (fun _ _ _ => rfl) hvp
  · refine vIf (fun h_7 => ?_) (fun h_7 => ?_)
    · refine vIf (fun h_26 => ?_) (fun h_26 => ?_)
      · refine vB (v_X7_refuse) (fun e_31 f_31 q_31 => ?_)
        have k_31 : ∀ a j, ¬ WM_X7_prefer P a j → e_31.2 a j = M0 a j := fun a j h => (q_31 a j (by unfold WM_X7_refuse; unfold WM_X7_prefer at h; omega))
        have t_31 : vp_in (e_31.2 (P + 25) 1) 8 := by rw [q_31 (P + 25) 1 (by unfold WM_X7_refuse; omega)]; exact hvp
        exact ⟨_, rfl, k_31, t_31⟩
      · refine vB (v_X1_keep hvp) (fun e_43 f_43 q_43 => ?_)
        have k_43 : ∀ a j, ¬ WM_X7_prefer P a j → e_43 a j = M0 a j := fun a j h => (q_43.1 a j (by unfold WM_X1_keep; unfold WM_X7_prefer at h; omega))
        have t_43 := q_43.2
        refine vLm (W := WM_X7_prefer P) (fun a j h => (zu_ne (by unfold WM_X7_prefer at h; omega)).trans (k_43 a j h)) (fun M_51 f_51 k_51 => ?_)
        have t_51 : vp_in (M_51 (P + 25) 1) 8 := by rw [(congrFun (congrFun f_51.symm (P + 25)) 1).trans (zu_ne (by omega))]; exact t_43
        refine vB (v_X7_changed) (fun e_56 f_56 q_56 => ?_)
        have k_56 : ∀ a j, ¬ WM_X7_prefer P a j → e_56.2 a j = M0 a j := fun a j h => (q_56 a j (by unfold WM_X7_changed; unfold WM_X7_prefer at h; omega)).trans (k_51 a j h)
        have t_56 : vp_in (e_56.2 (P + 25) 1) 8 := by rw [q_56 (P + 25) 1 (by unfold WM_X7_changed; omega)]; exact t_51
        exact ⟨_, rfl, k_56, t_56⟩
    · exact T_10 _ (fun _ _ _ => rfl) hvp
def WM_X7_guests (P : Nat) (a j : Nat) : Prop := (P + 25 ≤ a ∧ a < P + 91) ∨ (P + 92 ≤ a ∧ a < P + 104) ∨ (a = P ∧ (j = 0 ∨ j = 3)) ∨ (a = P + 17 ∧ (j = 5)) ∨ (a = P + 91 ∧ (j = 0 ∨ j = 1 ∨ j = 2 ∨ j = 3))
set_option maxRecDepth 100000 in
set_option maxHeartbeats 4000000 in
theorem v_X7_guests {P : Nat} {v0 : Int32} {M0 : zMt}  (hvp : vp_in (M0 (P + 25) 1) 8) : ∃ r, D_X7_guests P v0 M0 = some r ∧ ((∀ a j, ¬ WM_X7_guests P a j → r.2 a j = M0 a j) ∧ (vp_in (r.2 (P + 25) 1) 8)) := by
  have T_10 : ∀ (M_10 : zMt), (∀ a j, ¬ WM_X7_guests P a j → M_10 a j = M0 a j) → (vp_in (M_10 (P + 25) 1) 8) → ∃ r, D_X7_guests_10 P M_10 = some r ∧ ((∀ a j, ¬ WM_X7_guests P a j → r.2 a j = M0 a j) ∧ (vp_in (r.2 (P + 25) 1) 8)) := by
    intro M_10 k_10 t_10
    unfold D_X7_guests_10
    refine vB (v_X7_refuse) (fun e_12 f_12 q_12 => ?_)
    have k_12 : ∀ a j, ¬ WM_X7_guests P a j → e_12.2 a j = M0 a j := fun a j h => (q_12 a j (by unfold WM_X7_refuse; unfold WM_X7_guests at h; omega)).trans (k_10 a j h)
    have t_12 : vp_in (e_12.2 (P + 25) 1) 8 := by rw [q_12 (P + 25) 1 (by unfold WM_X7_refuse; omega)]; exact t_10
    exact ⟨_, rfl, k_12, t_12⟩
  unfold D_X7_guests
  refine vIf (fun h_1 => ?_) (fun h_1 => ?_)
  · exact T_10 _ (fun _ _ _ => rfl) hvp
  · refine vIf (fun h_7 => ?_) (fun h_7 => ?_)
    · refine vIf (fun h_26 => ?_) (fun h_26 => ?_)
      · refine vB (v_X7_refuse) (fun e_31 f_31 q_31 => ?_)
        have k_31 : ∀ a j, ¬ WM_X7_guests P a j → e_31.2 a j = M0 a j := fun a j h => (q_31 a j (by unfold WM_X7_refuse; unfold WM_X7_guests at h; omega))
        have t_31 : vp_in (e_31.2 (P + 25) 1) 8 := by rw [q_31 (P + 25) 1 (by unfold WM_X7_refuse; omega)]; exact hvp
        exact ⟨_, rfl, k_31, t_31⟩
      · refine vB (v_X1_keep hvp) (fun e_43 f_43 q_43 => ?_)
        have k_43 : ∀ a j, ¬ WM_X7_guests P a j → e_43 a j = M0 a j := fun a j h => (q_43.1 a j (by unfold WM_X1_keep; unfold WM_X7_guests at h; omega))
        have t_43 := q_43.2
        refine vLm (W := WM_X7_guests P) (fun a j h => (zu_ne (by unfold WM_X7_guests at h; omega)).trans (k_43 a j h)) (fun M_51 f_51 k_51 => ?_)
        have t_51 : vp_in (M_51 (P + 25) 1) 8 := by rw [(congrFun (congrFun f_51.symm (P + 25)) 1).trans (zu_ne (by omega))]; exact t_43
        refine vB (v_X7_changed) (fun e_56 f_56 q_56 => ?_)
        have k_56 : ∀ a j, ¬ WM_X7_guests P a j → e_56.2 a j = M0 a j := fun a j h => (q_56 a j (by unfold WM_X7_changed; unfold WM_X7_guests at h; omega)).trans (k_51 a j h)
        have t_56 : vp_in (e_56.2 (P + 25) 1) 8 := by rw [q_56 (P + 25) 1 (by unfold WM_X7_changed; omega)]; exact t_51
        exact ⟨_, rfl, k_56, t_56⟩
    · exact T_10 _ (fun _ _ _ => rfl) hvp
def WM_X7_split (P : Nat) (a j : Nat) : Prop := (P + 21 ≤ a ∧ a < P + 22) ∨ (P + 25 ≤ a ∧ a < P + 91) ∨ (P + 92 ≤ a ∧ a < P + 104) ∨ (a = P ∧ (j = 0 ∨ j = 3)) ∨ (a = P + 17 ∧ (j = 2)) ∨ (a = P + 91 ∧ (j = 0 ∨ j = 1 ∨ j = 2 ∨ j = 3))
set_option maxRecDepth 100000 in
set_option maxHeartbeats 4000000 in
theorem v_X7_split {P : Nat} {v0 : Int32} {M0 : zMt}  (hvp : vp_in (M0 (P + 25) 1) 8) : ∃ r, D_X7_split P v0 M0 = some r ∧ ((∀ a j, ¬ WM_X7_split P a j → r.2 a j = M0 a j) ∧ (vp_in (r.2 (P + 25) 1) 8)) := by
  unfold D_X7_split
  refine vB (v_X7_isParty) (fun e_2 f_2 q_2 => ?_)
  have b_2 := q_2
  refine vIf (fun h_5 => ?_) (fun h_5 => ?_)
  · refine vB (v_X7_refuse) (fun e_10 f_10 q_10 => ?_)
    have k_10 : ∀ a j, ¬ WM_X7_split P a j → e_10.2 a j = M0 a j := fun a j h => (q_10 a j (by unfold WM_X7_refuse; unfold WM_X7_split at h; omega))
    have t_10 : vp_in (e_10.2 (P + 25) 1) 8 := by rw [q_10 (P + 25) 1 (by unfold WM_X7_refuse; omega)]; exact hvp
    exact ⟨_, rfl, k_10, t_10⟩
  · refine vB (v_X1_keep hvp) (fun e_22 f_22 q_22 => ?_)
    have k_22 : ∀ a j, ¬ WM_X7_split P a j → e_22 a j = M0 a j := fun a j h => (q_22.1 a j (by unfold WM_X1_keep; unfold WM_X7_split at h; omega))
    have t_22 := q_22.2
    refine vB (v_X4_dissolve) (fun e_30 f_30 q_30 => ?_)
    have k_30 : ∀ a j, ¬ WM_X7_split P a j → e_30 a j = M0 a j := fun a j h => (q_30 a j (by unfold WM_X4_dissolve; unfold WM_X7_split at h; omega)).trans (k_22 a j h)
    have t_30 : vp_in (e_30 (P + 25) 1) 8 := by rw [q_30 (P + 25) 1 (by unfold WM_X4_dissolve; omega)]; exact t_22
    refine vB (v_X7_changed) (fun e_35 f_35 q_35 => ?_)
    have k_35 : ∀ a j, ¬ WM_X7_split P a j → e_35.2 a j = M0 a j := fun a j h => (q_35 a j (by unfold WM_X7_changed; unfold WM_X7_split at h; omega)).trans (k_30 a j h)
    have t_35 : vp_in (e_35.2 (P + 25) 1) 8 := by rw [q_35 (P + 25) 1 (by unfold WM_X7_changed; omega)]; exact t_30
    refine vB (v_X7_answer) (fun e_47 f_47 q_47 => ?_)
    have k_47 : ∀ a j, ¬ WM_X7_split P a j → e_47.2 a j = M0 a j := fun a j h => (q_47 a j (by unfold WM_X7_answer; unfold WM_X7_split at h; omega)).trans (k_35 a j h)
    have t_47 : vp_in (e_47.2 (P + 25) 1) 8 := by rw [q_47 (P + 25) 1 (by unfold WM_X7_answer; omega)]; exact t_35
    exact ⟨_, rfl, k_47, t_47⟩
def WM_X7_undo (P : Nat) (a j : Nat) : Prop := (P + 18 ≤ a ∧ a < P + 25) ∨ (P + 92 ≤ a ∧ a < P + 104) ∨ (a = P ∧ (j = 0 ∨ j = 3)) ∨ (a = P + 17 ∧ (j = 0 ∨ j = 1 ∨ j = 2 ∨ j = 3 ∨ j = 4 ∨ j = 5 ∨ j = 6)) ∨ (a = P + 25 ∧ (j = 0 ∨ j = 1)) ∨ (a = P + 91 ∧ (j = 0 ∨ j = 1 ∨ j = 2 ∨ j = 3))
set_option maxRecDepth 100000 in
set_option maxHeartbeats 4000000 in
theorem v_X7_undo {P : Nat}  {M0 : zMt}  (hvp : vp_in (M0 (P + 25) 1) 8) : ∃ r, D_X7_undo P M0 = some r ∧ ((∀ a j, ¬ WM_X7_undo P a j → r.2 a j = M0 a j) ∧ (vp_in (r.2 (P + 25) 1) 8)) := by
  unfold D_X7_undo
  refine vB (v_X1_giveBack (by omega) hvp) (fun e_8 f_8 q_8 => ?_)
  have k_8 : ∀ a j, ¬ WM_X7_undo P a j → e_8.2 a j = M0 a j := fun a j h => (q_8.1 a j (by unfold WM_X1_giveBack; unfold WM_X7_undo at h; omega))
  have b_8 := q_8.2.1
  have t_8 := q_8.2.2
  refine vIf (fun h_11 => ?_) (fun h_11 => ?_)
  · refine vB (v_X7_refuse) (fun e_16 f_16 q_16 => ?_)
    have k_16 : ∀ a j, ¬ WM_X7_undo P a j → e_16.2 a j = M0 a j := fun a j h => (q_16 a j (by unfold WM_X7_refuse; unfold WM_X7_undo at h; omega)).trans (k_8 a j h)
    have t_16 : vp_in (e_16.2 (P + 25) 1) 8 := by rw [q_16 (P + 25) 1 (by unfold WM_X7_refuse; omega)]; exact t_8
    exact ⟨_, rfl, k_16, t_16⟩
  · refine vB (v_X7_changed) (fun e_28 f_28 q_28 => ?_)
    have k_28 : ∀ a j, ¬ WM_X7_undo P a j → e_28.2 a j = M0 a j := fun a j h => (q_28 a j (by unfold WM_X7_changed; unfold WM_X7_undo at h; omega)).trans (k_8 a j h)
    have t_28 : vp_in (e_28.2 (P + 25) 1) 8 := by rw [q_28 (P + 25) 1 (by unfold WM_X7_changed; omega)]; exact t_8
    exact ⟨_, rfl, k_28, t_28⟩
def WM_X7_write (P : Nat) (a j : Nat) : Prop := (P + 2 ≤ a ∧ a < P + 3) ∨ (a = P ∧ (j = 2))
set_option maxRecDepth 100000 in
set_option maxHeartbeats 4000000 in
theorem v_X7_write {P : Nat} {v0 : Int32} {M0 : zMt}  : ∃ r, D_X7_write P v0 M0 = some r ∧ ((∀ a j, ¬ WM_X7_write P a j → r a j = M0 a j)) := by
  unfold D_X7_write
  refine vLm (W := WM_X7_write P) (fun a j h => (congrFun (zwr_row (by unfold WM_X7_write at h; omega)) j)) (fun M_9 f_9 k_9 => ?_)
  refine vLm (W := WM_X7_write P) (fun a j h => (zu_ne (by unfold WM_X7_write at h; omega)).trans (k_9 a j h)) (fun M_19 f_19 k_19 => ?_)
  exact ⟨_, rfl, k_19⟩
def WM_X7_print (P : Nat) (a j : Nat) : Prop := (P + 2 ≤ a ∧ a < P + 3) ∨ (P + 105 ≤ a ∧ a < P + 112) ∨ (a = P ∧ (j = 0 ∨ j = 2))
set_option maxRecDepth 100000 in
set_option maxHeartbeats 4000000 in
theorem v_X7_print {P : Nat} {v0 : Int32} {M0 : zMt}  : ∃ r, D_X7_print P v0 M0 = some r ∧ ((∀ a j, ¬ WM_X7_print P a j → r.2 a j = M0 a j)) := by
  have TL_32 : ∀ u : Nat, ∀ (x2_32 : Int32) (M_32 : zMt), (∀ a j, ¬ WM_X7_print P a j → M_32 a j = M0 a j) → (2147483648 - Int32.toInt x2_32).toNat < u → ∃ r, D_X7_print_32 P u x2_32 M_32 = some r ∧ ((∀ a j, ¬ WM_X7_print P a j → r.2 a j = M0 a j)) := by
    intro u
    induction u with
    | zero => intro x2_32 M_32 k_32 hm_32; exact absurd hm_32 (Nat.not_lt_zero _)
    | succ u_32 ih_32 =>
      have T_123 : ∀ (x2_123 : Int32) (M_123 : zMt), (∀ a j, ¬ WM_X7_print P a j → M_123 a j = M0 a j) → ((2147483648 - Int32.toInt x2_123).toNat < u_32 + 1) → (Int32.toInt x2_123 < 2147483647) → ∃ r, D_X7_print_123 P (D_X7_print_32 P u_32) x2_123 M_123 = some r ∧ ((∀ a j, ¬ WM_X7_print P a j → r.2 a j = M0 a j)) := by
        intro x2_123 M_123 k_123 f0_123 f1_123
        unfold D_X7_print_123
        refine vB (v_X7_write) (fun e_126 f_126 q_126 => ?_)
        have k_126 : ∀ a j, ¬ WM_X7_print P a j → e_126 a j = M0 a j := fun a j h => (q_126 a j (by unfold WM_X7_write; unfold WM_X7_print at h; omega)).trans (k_123 a j h)
        exact ih_32 _ _ k_126 (z_up1 f1_123 f0_123)
      have T_99 : ∀ (x2_99 : Int32) (x3_99 : Int32) (y1_99 : Int32) (M_99 : zMt), (∀ a j, ¬ WM_X7_print P a j → M_99 a j = M0 a j) → ((2147483648 - Int32.toInt x2_99).toNat < u_32 + 1) → (Int32.toInt x2_99 < 2147483647) → ∃ r, D_X7_print_99 P (D_X7_print_32 P u_32) x2_99 x3_99 y1_99 M_99 = some r ∧ ((∀ a j, ¬ WM_X7_print P a j → r.2 a j = M0 a j)) := by
        intro x2_99 x3_99 y1_99 M_99 k_99 f0_99 f1_99
        unfold D_X7_print_99
        refine vB (v_X7_write) (fun e_99 f_99 q_99 => ?_)
        have k_99 : ∀ a j, ¬ WM_X7_print P a j → e_99 a j = M0 a j := fun a j h => (q_99 a j (by unfold WM_X7_write; unfold WM_X7_print at h; omega)).trans (k_99 a j h)
        refine vIf (fun h_114 => ?_) (fun h_114 => ?_)
        · refine vB (v_X7_write) (fun e_120 f_120 q_120 => ?_)
          have k_120 : ∀ a j, ¬ WM_X7_print P a j → e_120 a j = M0 a j := fun a j h => (q_120 a j (by unfold WM_X7_write; unfold WM_X7_print at h; omega)).trans (k_99 a j h)
          exact T_123 _ _ k_120 f0_99 f1_99
        · exact T_123 _ _ k_99 f0_99 f1_99
      intro x2_32 M_32 k_32 hm_32
      rw [D_X7_print_32]
      refine vIf (fun h_40 => ?_) (fun h_40 => ?_)
      · refine vB (v_X7_answer) (fun e_140 f_140 q_140 => ?_)
        have k_140 : ∀ a j, ¬ WM_X7_print P a j → e_140.2 a j = M0 a j := fun a j h => (q_140 a j (by unfold WM_X7_answer; unfold WM_X7_print at h; omega)).trans (k_32 a j h)
        exact ⟨_, rfl, k_140⟩
      · refine vB (v_X7_write) (fun e_73 f_73 q_73 => ?_)
        have k_73 : ∀ a j, ¬ WM_X7_print P a j → e_73 a j = M0 a j := fun a j h => (q_73 a j (by unfold WM_X7_write; unfold WM_X7_print at h; omega)).trans (k_32 a j h)
        refine vB (v_X7_write) (fun e_79 f_79 q_79 => ?_)
        have k_79 : ∀ a j, ¬ WM_X7_print P a j → e_79 a j = M0 a j := fun a j h => (q_79 a j (by unfold WM_X7_write; unfold WM_X7_print at h; omega)).trans (k_73 a j h)
        refine vIf (fun h_86 => ?_) (fun h_86 => ?_)
        · exact T_99 _ _ _ _ k_79 hm_32 (by first | assumption | exact z_lt (by assumption) | exact z_lt2 (by assumption) | exact z_lt3 (by assumption) (by decide))
        · exact T_99 _ _ _ _ k_79 hm_32 (by first | assumption | exact z_lt (by assumption) | exact z_lt2 (by assumption) | exact z_lt3 (by assumption) (by decide))
  have T_32 : ∀ (x2_32 : Int32) (M_32 : zMt), (∀ a j, ¬ WM_X7_print P a j → M_32 a j = M0 a j) → ∃ r, D_X7_print_32 P zFu x2_32 M_32 = some r ∧ ((∀ a j, ¬ WM_X7_print P a j → r.2 a j = M0 a j)) := fun x2_32 M_32 k_32 => TL_32 zFu x2_32 M_32 k_32 (zFu_up _)
  unfold D_X7_print
  refine vB (v_X7_isSeed) (fun e_1 f_1 q_1 => ?_)
  have b_1 := q_1
  refine vIf (fun h_4 => ?_) (fun h_4 => ?_)
  · refine vB (v_X7_refuse) (fun e_9 f_9 q_9 => ?_)
    have k_9 : ∀ a j, ¬ WM_X7_print P a j → e_9.2 a j = M0 a j := fun a j h => (q_9 a j (by unfold WM_X7_refuse; unfold WM_X7_print at h; omega))
    exact ⟨_, rfl, k_9⟩
  · refine vB (v_X5_bySeed) (fun e_22 f_22 q_22 => ?_)
    have k_22 : ∀ a j, ¬ WM_X7_print P a j → e_22 a j = M0 a j := fun a j h => (q_22 a j (by unfold WM_X5_bySeed; unfold WM_X7_print at h; omega))
    refine vLm (W := WM_X7_print P) (fun a j h => (zu_ne (by unfold WM_X7_print at h; omega)).trans (k_22 a j h)) (fun M_27 f_27 k_27 => ?_)
    exact T_32 _ _ k_27
def WM_X7_out (P : Nat) (a j : Nat) : Prop := (a = P ∧ (j = 0))
set_option maxRecDepth 100000 in
set_option maxHeartbeats 4000000 in
theorem v_X7_out {P : Nat} {v0 : Int32} {M0 : zMt}  : ∃ r, D_X7_out P v0 M0 = some r ∧ ((∀ a j, ¬ WM_X7_out P a j → r.2 a j = M0 a j)) := by
  have T_38 : ∀ (y0_38 : Int32) (M_38 : zMt), (∀ a j, ¬ WM_X7_out P a j → M_38 a j = M0 a j) → ∃ r, D_X7_out_38 P y0_38 M_38 = some r ∧ ((∀ a j, ¬ WM_X7_out P a j → r.2 a j = M0 a j)) := by
    intro y0_38 M_38 k_38
    unfold D_X7_out_38
    exact ⟨_, rfl, k_38⟩
  unfold D_X7_out
  refine vIf (fun h_1 => ?_) (fun h_1 => ?_)
  · refine vIf (fun h_15 => ?_) (fun h_15 => ?_)
    · refine vB (v_X7_answer) (fun e_35 f_35 q_35 => ?_)
      have k_35 : ∀ a j, ¬ WM_X7_out P a j → e_35.2 a j = M0 a j := fun a j h => (q_35 a j (by unfold WM_X7_answer; unfold WM_X7_out at h; omega))
      exact T_38 _ _ k_35
    · refine vB (v_X7_refuse) (fun e_20 f_20 q_20 => ?_)
      have k_20 : ∀ a j, ¬ WM_X7_out P a j → e_20.2 a j = M0 a j := fun a j h => (q_20 a j (by unfold WM_X7_refuse; unfold WM_X7_out at h; omega))
      exact T_38 _ _ k_20
  · refine vB (v_X7_refuse) (fun e_6 f_6 q_6 => ?_)
    have k_6 : ∀ a j, ¬ WM_X7_out P a j → e_6.2 a j = M0 a j := fun a j h => (q_6 a j (by unfold WM_X7_refuse; unfold WM_X7_out at h; omega))
    exact ⟨_, rfl, k_6⟩
