def WM_X7_out (P : Nat) (a j : Nat) : Prop := (a = P ∧ (j = 0))
set_option maxRecDepth 100000 in
set_option maxHeartbeats 4000000 in
theorem v_X7_out {P : Nat} {v0 : Int32} {M0 : zMt}  : ∃ r, D_X7_out P v0 M0 = some r ∧ ((∀ a j, ¬ WM_X7_out P a j → r.2 a j = M0 a j)) := by
  have T_38 : ∀ (y0_38 : Int32) (M_38 : zMt), (∀ a j, ¬ WM_X7_out P a j → M_38 a j = M0 a j) → ∃ r, D_X7_out_38 P y0_38 M_38 = some r ∧ ((∀ a j, ¬ WM_X7_out P a j → r.2 a j = M0 a j)) := by
    intro y0_38 M_38 k_38
    unfold D_X7_out_38
    exact ⟨_, rfl, k_38⟩
  unfold D_X7_out
  refine vIf (fun h_1 => ?_) (fun h_1 => ?_)
  · refine vIf (fun h_15 => ?_) (fun h_15 => ?_)
    · refine vB (v_X7_answer) (fun e_35 f_35 q_35 => ?_)
      have k_35 : ∀ a j, ¬ WM_X7_out P a j → e_35.2 a j = M0 a j := fun a j h => (q_35 a j (by unfold WM_X7_answer; unfold WM_X7_out at h; omega))
      exact T_38 _ _ k_35
    · refine vB (v_X7_refuse) (fun e_20 f_20 q_20 => ?_)
      have k_20 : ∀ a j, ¬ WM_X7_out P a j → e_20.2 a j = M0 a j := fun a j h => (q_20 a j (by unfold WM_X7_refuse; unfold WM_X7_out at h; omega))
      exact T_38 _ _ k_20
  · refine vB (v_X7_refuse) (fun e_6 f_6 q_6 => ?_)
    have k_6 : ∀ a j, ¬ WM_X7_out P a j → e_6.2 a j = M0 a j := fun a j h => (q_6 a j (by unfold WM_X7_refuse; unfold WM_X7_out at h; omega))
    exact ⟨_, rfl, k_6⟩
