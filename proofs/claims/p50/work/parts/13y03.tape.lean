/-! what load leaves of the tape -/
theorem w_X7_load {P : Nat} {v0 : Int32} {M0 : zMt} {N0 : zNt} : ∃ r, D_X7_load P v0 M0 N0 = some r ∧ ((v0 < 0 ∨ ¬ v0 ≤ M0 P 1) ∧ r.2.1 P 1 = M0 P 1 ∨ (¬ v0 < 0 ∧ v0 ≤ M0 P 1) ∧ r.2.1 P 1 = 0) := by
  unfold D_X7_load
  refine vIf (fun h1 => ?_) (fun h1 => ?_)
  · unfold D_X7_load_12
    exact vB v_X7_refuse (fun e f q => ⟨_, rfl, Or.inl ⟨Or.inl h1, q P 1 (by unfold WM_X7_refuse; omega)⟩⟩)
  · refine vIf (fun h2 => ?_) (fun h2 => ?_)
    · refine vB v_X3_read (fun e f q => ?_)
      refine vLm (W := fun a j => ¬ (a = P ∧ j = 1)) (M0 := zu e.2.1 P 1 (0 : Int32)) (fun a j _ => rfl) (fun y fy _ => ?_)
      have y1 : y P 1 = 0 := by rw [← fy, zu_eq]
      refine vIf (fun h3 => ?_) (fun h3 => ?_)
      · exact vB v_X7_refuse (fun e2 f2 q2 => ⟨_, rfl, Or.inr ⟨⟨h1, h2⟩, (q2 P 1 (by unfold WM_X7_refuse; omega)).trans y1⟩⟩)
      · refine vB v_X4_take (fun e2 f2 q2 => vB v_X1_forget (fun e3 f3 q3 => vB v_X7_changed (fun e4 f4 q4 => ⟨_, rfl, Or.inr ⟨⟨h1, h2⟩, ?_⟩⟩)))
        exact (q4 P 1 (by unfold WM_X7_changed; omega)).trans ((q3 P 1 (by unfold WM_X1_forget; omega)).trans ((q2 P 1 (by unfold WM_X4_take; omega)).trans y1))
    · unfold D_X7_load_12
      exact vB v_X7_refuse (fun e f q => ⟨_, rfl, Or.inl ⟨Or.inr h2, q P 1 (by unfold WM_X7_refuse; omega)⟩⟩)
