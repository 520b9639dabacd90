def WM_X7_write (P : Nat) (a j : Nat) : Prop := (P + 2 ≤ a ∧ a < P + 3) ∨ (a = P ∧ (j = 2))
set_option maxRecDepth 100000 in
set_option maxHeartbeats 4000000 in
theorem v_X7_write {P : Nat} {v0 : Int32} {M0 : zMt}  : ∃ r, D_X7_write P v0 M0 = some r ∧ ((∀ a j, ¬ WM_X7_write P a j → r a j = M0 a j)) := by
  unfold D_X7_write
  refine vLm (W := WM_X7_write P) (fun a j h => (congrFun (zwr_row (by unfold WM_X7_write at h; omega)) j)) (fun M_9 f_9 k_9 => ?_)
  refine vLm (W := WM_X7_write P) (fun a j h => (zu_ne (by unfold WM_X7_write at h; omega)).trans (k_9 a j h)) (fun M_19 f_19 k_19 => ?_)
  exact ⟨_, rfl, k_19⟩
def WM_X7_print (P : Nat) (a j : Nat) : Prop := (P + 2 ≤ a ∧ a < P + 3) ∨ (P + 105 ≤ a ∧ a < P + 112) ∨ (a = P ∧ (j = 0 ∨ j = 2))
set_option maxRecDepth 100000 in
set_option maxHeartbeats 4000000 in
theorem v_X7_print {P : Nat} {v0 : Int32} {M0 : zMt}  : ∃ r, D_X7_print P v0 M0 = some r ∧ ((∀ a j, ¬ WM_X7_print P a j → r.2 a j = M0 a j)) := by
  have TL_32 : ∀ u : Nat, ∀ (x2_32 : Int32) (M_32 : zMt), (∀ a j, ¬ WM_X7_print P a j → M_32 a j = M0 a j) → (2147483648 - Int32.toInt x2_32).toNat < u → ∃ r, D_X7_print_32 P u x2_32 M_32 = some r ∧ ((∀ a j, ¬ WM_X7_print P a j → r.2 a j = M0 a j)) := by
    intro u
    induction u with
    | zero => intro x2_32 M_32 k_32 hm_32; exact absurd hm_32 (Nat.not_lt_zero _)
    | succ u_32 ih_32 =>
      have T_123 : ∀ (x2_123 : Int32) (M_123 : zMt), (∀ a j, ¬ WM_X7_print P a j → M_123 a j = M0 a j) → ((2147483648 - Int32.toInt x2_123).toNat < u_32 + 1) → (Int32.toInt x2_123 < 2147483647) → ∃ r, D_X7_print_123 P (D_X7_print_32 P u_32) x2_123 M_123 = some r ∧ ((∀ a j, ¬ WM_X7_print P a j → r.2 a j = M0 a j)) := by
        intro x2_123 M_123 k_123 f0_123 f1_123
        unfold D_X7_print_123
        refine vB (v_X7_write) (fun e_126 f_126 q_126 => ?_)
        have k_126 : ∀ a j, ¬ WM_X7_print P a j → e_126 a j = M0 a j := fun a j h => (q_126 a j (by unfold WM_X7_write; unfold WM_X7_print at h; omega)).trans (k_123 a j h)
        exact ih_32 _ _ k_126 (z_up1 f1_123 f0_123)
      have T_99 : ∀ (x2_99 : Int32) (x3_99 : Int32) (y1_99 : Int32) (M_99 : zMt), (∀ a j, ¬ WM_X7_print P a j → M_99 a j = M0 a j) → ((2147483648 - Int32.toInt x2_99).toNat < u_32 + 1) → (Int32.toInt x2_99 < 2147483647) → ∃ r, D_X7_print_99 P (D_X7_print_32 P u_32) x2_99 x3_99 y1_99 M_99 = some r ∧ ((∀ a j, ¬ WM_X7_print P a j → r.2 a j = M0 a j)) := by
        intro x2_99 x3_99 y1_99 M_99 k_99 f0_99 f1_99
        unfold D_X7_print_99
        refine vB (v_X7_write) (fun e_99 f_99 q_99 => ?_)
        have k_99 : ∀ a j, ¬ WM_X7_print P a j → e_99 a j = M0 a j := fun a j h => (q_99 a j (by unfold WM_X7_write; unfold WM_X7_print at h; omega)).trans (k_99 a j h)
        refine vIf (fun h_114 => ?_) (fun h_114 => ?_)
        · refine vB (v_X7_write) (fun e_120 f_120 q_120 => ?_)
          have k_120 : ∀ a j, ¬ WM_X7_print P a j → e_120 a j = M0 a j := fun a j h => (q_120 a j (by unfold WM_X7_write; unfold WM_X7_print at h; omega)).trans (k_99 a j h)
          exact T_123 _ _ k_120 f0_99 f1_99
        · exact T_123 _ _ k_99 f0_99 f1_99
      intro x2_32 M_32 k_32 hm_32
      rw [D_X7_print_32]
      refine vIf (fun h_40 => ?_) (fun h_40 => ?_)
      · refine vB (v_X7_answer) (fun e_140 f_140 q_140 => ?_)
        have k_140 : ∀ a j, ¬ WM_X7_print P a j → e_140.2 a j = M0 a j := fun a j h => (q_140 a j (by unfold WM_X7_answer; unfold WM_X7_print at h; omega)).trans (k_32 a j h)
        exact ⟨_, rfl, k_140⟩
      · refine vB (v_X7_write) (fun e_73 f_73 q_73 => ?_)
        have k_73 : ∀ a j, ¬ WM_X7_print P a j → e_73 a j = M0 a j := fun a j h => (q_73 a j (by unfold WM_X7_write; unfold WM_X7_print at h; omega)).trans (k_32 a j h)
        refine vB (v_X7_write) (fun e_79 f_79 q_79 => ?_)
        have k_79 : ∀ a j, ¬ WM_X7_print P a j → e_79 a j = M0 a j := fun a j h => (q_79 a j (by unfold WM_X7_write; unfold WM_X7_print at h; omega)).trans (k_73 a j h)
        refine vIf (fun h_86 => ?_) (fun h_86 => ?_)
        · exact T_99 _ _ _ _ k_79 hm_32 (by first | assumption | exact z_lt (by assumption) | exact z_lt2 (by assumption) | exact z_lt3 (by assumption) (by first | assumption | decide))
        · exact T_99 _ _ _ _ k_79 hm_32 (by first | assumption | exact z_lt (by assumption) | exact z_lt2 (by assumption) | exact z_lt3 (by assumption) (by first | assumption | decide))
  have T_32 : ∀ (x2_32 : Int32) (M_32 : zMt), (∀ a j, ¬ WM_X7_print P a j → M_32 a j = M0 a j) → ∃ r, D_X7_print_32 P zFu x2_32 M_32 = some r ∧ ((∀ a j, ¬ WM_X7_print P a j → r.2 a j = M0 a j)) := fun x2_32 M_32 k_32 => TL_32 zFu x2_32 M_32 k_32 (zFu_up _)
  unfold D_X7_print
  refine vB (v_X7_isSeed) (fun e_1 f_1 q_1 => ?_)
  have b_1 := q_1
  refine vIf (fun h_4 => ?_) (fun h_4 => ?_)
  · refine vB (v_X7_refuse) (fun e_9 f_9 q_9 => ?_)
    have k_9 : ∀ a j, ¬ WM_X7_print P a j → e_9.2 a j = M0 a j := fun a j h => (q_9 a j (by unfold WM_X7_refuse; unfold WM_X7_print at h; omega))
    exact ⟨_, rfl, k_9⟩
  · refine vB (v_X5_bySeed) (fun e_22 f_22 q_22 => ?_)
    have k_22 : ∀ a j, ¬ WM_X7_print P a j → e_22 a j = M0 a j := fun a j h => (q_22 a j (by unfold WM_X5_bySeed; unfold WM_X7_print at h; omega))
    refine vLm (W := WM_X7_print P) (fun a j h => (zu_ne (by unfold WM_X7_print at h; omega)).trans (k_22 a j h)) (fun M_27 f_27 k_27 => ?_)
    exact T_32 _ _ k_27
def WM_X7_out (P : Nat) (a j : Nat) : Prop := (a = P ∧ (j = 0))
set_option maxRecDepth 100000 in
set_option maxHeartbeats 4000000 in
theorem v_X7_out {P : Nat} {v0 : Int32} {M0 : zMt}  : ∃ r, D_X7_out P v0 M0 = some r ∧ ((∀ a j, ¬ WM_X7_out P a j → r.2 a j = M0 a j)) := by
  have T_38 : ∀ (y0_38 : Int32) (M_38 : zMt), (∀ a j, ¬ WM_X7_out P a j → M_38 a j = M0 a j) → ∃ r, D_X7_out_38 P y0_38 M_38 = some r ∧ ((∀ a j, ¬ WM_X7_out P a j → r.2 a j = M0 a j)) := by
    intro y0_38 M_38 k_38
    unfold D_X7_out_38
    exact ⟨_, rfl, k_38⟩
  unfold D_X7_out
  refine vIf (fun h_1 => ?_) (fun h_1 => ?_)
  · refine vIf (fun h_15 => ?_) (fun h_15 => ?_)
    · refine vB (v_X7_answer) (fun e_35 f_35 q_35 => ?_)
      have k_35 : ∀ a j, ¬ WM_X7_out P a j → e_35.2 a j = M0 a j := fun a j h => (q_35 a j (by unfold WM_X7_answer; unfold WM_X7_out at h; omega))
      exact T_38 _ _ k_35
    · refine vB (v_X7_refuse) (fun e_20 f_20 q_20 => ?_)
      have k_20 : ∀ a j, ¬ WM_X7_out P a j → e_20.2 a j = M0 a j := fun a j h => (q_20 a j (by unfold WM_X7_refuse; unfold WM_X7_out at h; omega))
      exact T_38 _ _ k_20
  · refine vB (v_X7_refuse) (fun e_6 f_6 q_6 => ?_)
    have k_6 : ∀ a j, ¬ WM_X7_out P a j → e_6.2 a j = M0 a j := fun a j h => (q_6 a j (by unfold WM_X7_refuse; unfold WM_X7_out at h; omega))
    exact ⟨_, rfl, k_6⟩
