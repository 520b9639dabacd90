set_option maxRecDepth 100000 in
set_option maxHeartbeats 4000000 in
theorem v_X2_askers {Q : Nat} {M : zMt} {v0 : Int32}  : ∃ r, D_X2_askers Q M v0 = some r ∧ (True) := by
  have TL_4 : ∀ u : Nat, ∀ (x1_4 : Int32) (x2_4 : Int32) (x3_4 : Int32), (2147483648 - Int32.toInt x3_4).toNat < u → ∃ r, D_X2_askers_4 Q M u x1_4 x2_4 x3_4 = some r ∧ (True) := by
    intro u
    induction u with
    | zero => intro x1_4 x2_4 x3_4 hm_4; exact absurd hm_4 (Nat.not_lt_zero _)
    | succ u_4 ih_4 =>
      have T_28 : ∀ (x1_28 : Int32) (x3_28 : Int32) (y0_28 : Int32) (y1_28 : Int32), (y1_28 = 0 ∨ y1_28 = 1) → ((2147483648 - Int32.toInt x3_28).toNat < u_4 + 1) → (Int32.toInt x3_28 < 2147483647) → ∃ r, D_X2_askers_28 Q M (D_X2_askers_4 Q M u_4) x1_28 x3_28 y0_28 y1_28 = some r ∧ (True) := by
        intro x1_28 x3_28 y0_28 y1_28 f0_28 f1_28 f2_28
        unfold D_X2_askers_28
        exact ih_4 _ _ _ (z_up1 f2_28 f1_28)
      intro x1_4 x2_4 x3_4 hm_4
      rw [D_X2_askers_4]
      refine vIf (fun h_9 => ?_) (fun h_9 => ?_)
      · exact ⟨_, rfl, trivial⟩
      · refine vB (v_X2_rankOf) (fun e_16 f_16 q_16 => ?_)
        refine vIf (fun h_20 => ?_) (fun h_20 => ?_)
        · exact T_28 _ _ _ _ (by first | exact Or.inl rfl | exact Or.inr rfl | assumption) hm_4 (by first | assumption | exact z_lt (by assumption) | exact z_lt2 (by assumption) | exact z_lt3 (by assumption) (by decide))
        · exact T_28 _ _ _ _ (by first | exact Or.inl rfl | exact Or.inr rfl | assumption) hm_4 (by first | assumption | exact z_lt (by assumption) | exact z_lt2 (by assumption) | exact z_lt3 (by assumption) (by decide))
  have T_4 : ∀ (x1_4 : Int32) (x2_4 : Int32) (x3_4 : Int32), ∃ r, D_X2_askers_4 Q M zFu x1_4 x2_4 x3_4 = some r ∧ (True) := fun x1_4 x2_4 x3_4 => TL_4 zFu x1_4 x2_4 x3_4 (zFu_up _)
  unfold D_X2_askers
  exact T_4 _ _ _
def WM_X4_clear (Q : Nat) (a j : Nat) : Prop := (Q + 1 ≤ a ∧ a < Q + 8) ∨ (a = Q ∧ (j = 0 ∨ j = 1 ∨ j = 2 ∨ j = 3 ∨ j = 4 ∨ j = 5 ∨ j = 6))
set_option maxRecDepth 100000 in
set_option maxHeartbeats 4000000 in
theorem v_X4_clear {Q : Nat}  {M0 : zMt}  : ∃ r, D_X4_clear Q M0 = some r ∧ ((∀ a j, ¬ WM_X4_clear Q a j → r a j = M0 a j)) := by
  unfold D_X4_clear
  refine vLm (W := WM_X4_clear Q) (fun a j h => (zu_ne (by unfold WM_X4_clear at h; omega))) (fun M_2 f_2 k_2 => ?_)
  refine vLm (W := WM_X4_clear Q) (fun a j h => (zu_ne (by unfold WM_X4_clear at h; omega)).trans (k_2 a j h)) (fun M_7 f_7 k_7 => ?_)
  refine vLm (W := WM_X4_clear Q) (fun a j h => (zu_ne (by unfold WM_X4_clear at h; omega)).trans (k_7 a j h)) (fun M_12 f_12 k_12 => ?_)
  refine vLm (W := WM_X4_clear Q) (fun a j h => (zu_ne (by unfold WM_X4_clear at h; omega)).trans (k_12 a j h)) (fun M_17 f_17 k_17 => ?_)
  refine vLm (W := WM_X4_clear Q) (fun a j h => (zu_ne (by unfold WM_X4_clear at h; omega)).trans (k_17 a j h)) (fun M_22 f_22 k_22 => ?_)
  refine vLm (W := WM_X4_clear Q) (fun a j h => (zu_ne (by unfold WM_X4_clear at h; omega)).trans (k_22 a j h)) (fun M_28 f_28 k_28 => ?_)
  refine vLm (W := WM_X4_clear Q) (fun a j h => (zu_ne (by unfold WM_X4_clear at h; omega)).trans (k_28 a j h)) (fun M_33 f_33 k_33 => ?_)
  refine vLm (W := WM_X4_clear Q) (fun a j h => (congrFun (zfil_row (by unfold WM_X4_clear at h; omega)) j).trans (k_33 a j h)) (fun M_41 f_41 k_41 => ?_)
  refine vLm (W := WM_X4_clear Q) (fun a j h => (congrFun (zfil_row (by unfold WM_X4_clear at h; omega)) j).trans (k_41 a j h)) (fun M_49 f_49 k_49 => ?_)
  refine vLm (W := WM_X4_clear Q) (fun a j h => (congrFun (zfil_row (by unfold WM_X4_clear at h; omega)) j).trans (k_49 a j h)) (fun M_57 f_57 k_57 => ?_)
  refine vLm (W := WM_X4_clear Q) (fun a j h => (congrFun (zfil_row (by unfold WM_X4_clear at h; omega)) j).trans (k_57 a j h)) (fun M_65 f_65 k_65 => ?_)
  refine vLm (W := WM_X4_clear Q) (fun a j h => (congrFun (zfil_row (by unfold WM_X4_clear at h; omega)) j).trans (k_65 a j h)) (fun M_73 f_73 k_73 => ?_)
  refine vLm (W := WM_X4_clear Q) (fun a j h => (congrFun (zfil_row (by unfold WM_X4_clear at h; omega)) j).trans (k_73 a j h)) (fun M_81 f_81 k_81 => ?_)
  refine vLm (W := WM_X4_clear Q) (fun a j h => (congrFun (zfil_row (by unfold WM_X4_clear at h; omega)) j).trans (k_81 a j h)) (fun M_89 f_89 k_89 => ?_)
  exact ⟨_, rfl, k_89⟩
set_option maxRecDepth 100000 in
set_option maxHeartbeats 4000000 in
theorem v_X3_isBlank  {v0 : Int32}  : ∃ r, D_X3_isBlank v0 = some r ∧ ((r = 0 ∨ r = 1)) := by
  have T_17 : ∀ (y0_17 : Int32), (y0_17 = 0 ∨ y0_17 = 1) → ∃ r, D_X3_isBlank_17 y0_17 = some r ∧ ((r = 0 ∨ r = 1)) := by
    intro y0_17 f0_17
    unfold D_X3_isBlank_17
    exact ⟨_, rfl, (by first | exact Or.inl rfl | exact Or.inr rfl | assumption)⟩
  have T_12 : ∃ r, D_X3_isBlank_12 = some r ∧ ((r = 0 ∨ r = 1)) := by
    unfold D_X3_isBlank_12
    exact T_17 _ (by first | exact Or.inl rfl | exact Or.inr rfl | assumption)
  unfold D_X3_isBlank
  refine vIf (fun h_3 => ?_) (fun h_3 => ?_)
  · exact T_12
  · refine vIf (fun h_9 => ?_) (fun h_9 => ?_)
    · exact T_12
    · exact T_17 _ (by first | exact Or.inl rfl | exact Or.inr rfl | assumption)
set_option maxRecDepth 100000 in
set_option maxHeartbeats 4000000 in
theorem v_X3_isLetter  {v0 : Int32}  : ∃ r, D_X3_isLetter v0 = some r ∧ ((r = 0 ∨ r = 1)) := by
  have T_17 : ∀ (y0_17 : Int32), (y0_17 = 0 ∨ y0_17 = 1) → ∃ r, D_X3_isLetter_17 y0_17 = some r ∧ ((r = 0 ∨ r = 1)) := by
    intro y0_17 f0_17
    unfold D_X3_isLetter_17
    exact ⟨_, rfl, (by first | exact Or.inl rfl | exact Or.inr rfl | assumption)⟩
  have T_16 : ∃ r, D_X3_isLetter_16 = some r ∧ ((r = 0 ∨ r = 1)) := by
    unfold D_X3_isLetter_16
    exact T_17 _ (by first | exact Or.inl rfl | exact Or.inr rfl | assumption)
  unfold D_X3_isLetter
  refine vIf (fun h_3 => ?_) (fun h_3 => ?_)
  · exact T_16
  · refine vIf (fun h_9 => ?_) (fun h_9 => ?_)
    · exact T_16
    · exact T_17 _ (by first | exact Or.inl rfl | exact Or.inr rfl | assumption)
def WM_X3_stepWord (Q : Nat) (a j : Nat) : Prop := (a = Q ∧ (j = 5 ∨ j = 6))
def WN_X3_stepWord (Q : Nat) (a j : Nat) : Prop := (a = Q ∧ (j = 8))
set_option maxRecDepth 100000 in
set_option maxHeartbeats 4000000 in
theorem v_X3_stepWord {Q : Nat}  {M0 : zMt} {N0 : zNt}  : ∃ r, D_X3_stepWord Q M0 N0 = some r ∧ ((∀ a j, ¬ WM_X3_stepWord Q a j → r.1 a j = M0 a j) ∧ (∀ a j, ¬ WN_X3_stepWord Q a j → r.2 a j = N0 a j)) := by
  have T_96 : ∀ (y1_96 : Int32) (M_96 : zMt) (N_96 : zNt), (∀ a j, ¬ WM_X3_stepWord Q a j → M_96 a j = M0 a j) → (∀ a j, ¬ WN_X3_stepWord Q a j → N_96 a j = N0 a j) → ∃ r, D_X3_stepWord_96 Q y1_96 M_96 N_96 = some r ∧ ((∀ a j, ¬ WM_X3_stepWord Q a j → r.1 a j = M0 a j) ∧ (∀ a j, ¬ WN_X3_stepWord Q a j → r.2 a j = N0 a j)) := by
    intro y1_96 M_96 N_96 k_96 kn_96
    unfold D_X3_stepWord_96
    refine vLm (W := WM_X3_stepWord Q) (fun a j h => (zu_ne (by unfold WM_X3_stepWord at h; omega)).trans (k_96 a j h)) (fun M_96 f_96 k_96 => ?_)
    exact ⟨_, rfl, k_96, kn_96⟩
  have T_76 : ∀ (M_76 : zMt) (N_76 : zNt), (∀ a j, ¬ WM_X3_stepWord Q a j → M_76 a j = M0 a j) → (∀ a j, ¬ WN_X3_stepWord Q a j → N_76 a j = N0 a j) → ∃ r, D_X3_stepWord_76 Q M_76 N_76 = some r ∧ ((∀ a j, ¬ WM_X3_stepWord Q a j → r.1 a j = M0 a j) ∧ (∀ a j, ¬ WN_X3_stepWord Q a j → r.2 a j = N0 a j)) := by
    intro M_76 N_76 k_76 kn_76
    unfold D_X3_stepWord_76
    refine vIf (fun h_88 => ?_) (fun h_88 => ?_)
    · exact T_96 _ _ _ k_76 kn_76
    · exact T_96 _ _ _ k_76 kn_76
  have TL_5 : ∀ u : Nat, ∀ (M_5 : zMt) (N_5 : zNt), (∀ a j, ¬ WM_X3_stepWord Q a j → M_5 a j = M0 a j) → (∀ a j, ¬ WN_X3_stepWord Q a j → N_5 a j = N0 a j) → (2147483648 - Int32.toInt (M_5 Q 5)).toNat < u → ∃ r, D_X3_stepWord_5 Q u M_5 N_5 = some r ∧ ((∀ a j, ¬ WM_X3_stepWord Q a j → r.1 a j = M0 a j) ∧ (∀ a j, ¬ WN_X3_stepWord Q a j → r.2 a j = N0 a j)) := by
    intro u
    induction u with
    | zero => intro M_5 N_5 k_5 kn_5 hm_5; exact absurd hm_5 (Nat.not_lt_zero _)
    | succ u_5 ih_5 =>
      intro M_5 N_5 k_5 kn_5 hm_5
      rw [D_X3_stepWord_5]
      refine vIf (fun h_13 => ?_) (fun h_13 => ?_)
      · exact T_76 _ _ k_5 kn_5
      · refine vB (v_X3_isLetter) (fun e_27 f_27 q_27 => ?_)
        have b_27 := q_27
        refine vIf (fun h_30 => ?_) (fun h_30 => ?_)
        · exact T_76 _ _ k_5 kn_5
        · refine vLn (W := WN_X3_stepWord Q) (fun a j h => (zu_ne (by unfold WN_X3_stepWord at h; omega)).trans (kn_5 a j h)) (fun N_60 f_60 kn_60 => ?_)
          refine vLm (W := WM_X3_stepWord Q) (fun a j h => (zu_ne (by unfold WM_X3_stepWord at h; omega)).trans (k_5 a j h)) (fun M_70 f_70 k_70 => ?_)
          exact ih_5 _ _ k_70 kn_60 (by rw [← f_70, zu_eq]; exact z_up1 (z_lt (by assumption)) hm_5)
  have T_5 : ∀ (M_5 : zMt) (N_5 : zNt), (∀ a j, ¬ WM_X3_stepWord Q a j → M_5 a j = M0 a j) → (∀ a j, ¬ WN_X3_stepWord Q a j → N_5 a j = N0 a j) → ∃ r, D_X3_stepWord_5 Q zFu M_5 N_5 = some r ∧ ((∀ a j, ¬ WM_X3_stepWord Q a j → r.1 a j = M0 a j) ∧ (∀ a j, ¬ WN_X3_stepWord Q a j → r.2 a j = N0 a j)) := fun M_5 N_5 k_5 kn_5 => TL_5 zFu M_5 N_5 k_5 kn_5 (zFu_up _)
  unfold D_X3_stepWord
  refine vLn (W := WN_X3_stepWord Q) (fun a j h => (zu_ne (by unfold WN_X3_stepWord at h; omega))) (fun N_2 f_2 kn_2 => ?_)
  exact T_5 _ _ (fun _ _ _ => rfl) kn_2
set_option maxRecDepth 100000 in
set_option maxHeartbeats 4000000 in
theorem v_X3_isDigit  {v0 : Int32}  : ∃ r, D_X3_isDigit v0 = some r ∧ ((r = 0 ∨ r = 1)) := by
  have T_17 : ∀ (y0_17 : Int32), (y0_17 = 0 ∨ y0_17 = 1) → ∃ r, D_X3_isDigit_17 y0_17 = some r ∧ ((r = 0 ∨ r = 1)) := by
    intro y0_17 f0_17
    unfold D_X3_isDigit_17
    exact ⟨_, rfl, (by first | exact Or.inl rfl | exact Or.inr rfl | assumption)⟩
  have T_16 : ∃ r, D_X3_isDigit_16 = some r ∧ ((r = 0 ∨ r = 1)) := by
    unfold D_X3_isDigit_16
    exact T_17 _ (by first | exact Or.inl rfl | exact Or.inr rfl | assumption)
  unfold D_X3_isDigit
  refine vIf (fun h_3 => ?_) (fun h_3 => ?_)
  · exact T_16
  · refine vIf (fun h_9 => ?_) (fun h_9 => ?_)
    · exact T_16
    · exact T_17 _ (by first | exact Or.inl rfl | exact Or.inr rfl | assumption)
def WM_X3_stepNumber (Q : Nat) (a j : Nat) : Prop := (a = Q ∧ (j = 5 ∨ j = 6 ∨ j = 9))
set_option maxRecDepth 100000 in
set_option maxHeartbeats 4000000 in
theorem v_X3_stepNumber {Q : Nat}  {M0 : zMt}  : ∃ r, D_X3_stepNumber Q M0 = some r ∧ ((∀ a j, ¬ WM_X3_stepNumber Q a j → r a j = M0 a j)) := by
  have T_91 : ∀ (y1_91 : Int32) (M_91 : zMt), (∀ a j, ¬ WM_X3_stepNumber Q a j → M_91 a j = M0 a j) → ∃ r, D_X3_stepNumber_91 Q y1_91 M_91 = some r ∧ ((∀ a j, ¬ WM_X3_stepNumber Q a j → r a j = M0 a j)) := by
    intro y1_91 M_91 k_91
    unfold D_X3_stepNumber_91
    refine vLm (W := WM_X3_stepNumber Q) (fun a j h => (zu_ne (by unfold WM_X3_stepNumber at h; omega)).trans (k_91 a j h)) (fun M_91 f_91 k_91 => ?_)
    exact ⟨_, rfl, k_91⟩
  have T_72 : ∀ (M_72 : zMt), (∀ a j, ¬ WM_X3_stepNumber Q a j → M_72 a j = M0 a j) → ∃ r, D_X3_stepNumber_72 Q M_72 = some r ∧ ((∀ a j, ¬ WM_X3_stepNumber Q a j → r a j = M0 a j)) := by
    intro M_72 k_72
    unfold D_X3_stepNumber_72
    refine vIf (fun h_83 => ?_) (fun h_83 => ?_)
    · exact T_91 _ _ k_72
    · exact T_91 _ _ k_72
  have TL_5 : ∀ u : Nat, ∀ (M_5 : zMt), (∀ a j, ¬ WM_X3_stepNumber Q a j → M_5 a j = M0 a j) → (2147483648 - Int32.toInt (M_5 Q 5)).toNat < u → ∃ r, D_X3_stepNumber_5 Q u M_5 = some r ∧ ((∀ a j, ¬ WM_X3_stepNumber Q a j → r a j = M0 a j)) := by
    intro u
    induction u with
    | zero => intro M_5 k_5 hm_5; exact absurd hm_5 (Nat.not_lt_zero _)
    | succ u_5 ih_5 =>
      intro M_5 k_5 hm_5
      rw [D_X3_stepNumber_5]
      refine vIf (fun h_13 => ?_) (fun h_13 => ?_)
      · exact T_72 _ k_5
      · refine vB (v_X3_isDigit) (fun e_27 f_27 q_27 => ?_)
        have b_27 := q_27
        refine vIf (fun h_30 => ?_) (fun h_30 => ?_)
        · exact T_72 _ k_5
        · refine vLm (W := WM_X3_stepNumber Q) (fun a j h => (zu_ne (by unfold WM_X3_stepNumber at h; omega)).trans (k_5 a j h)) (fun M_56 f_56 k_56 => ?_)
          refine vLm (W := WM_X3_stepNumber Q) (fun a j h => (zu_ne (by unfold WM_X3_stepNumber at h; omega)).trans (k_56 a j h)) (fun M_66 f_66 k_66 => ?_)
          exact ih_5 _ k_66 (by rw [← f_66, zu_eq, ← f_56, zu_ne (show ¬ (Q = Q ∧ (5 : Nat) = 9) by omega)]; exact z_up1 (z_lt (by assumption)) hm_5)
  have T_5 : ∀ (M_5 : zMt), (∀ a j, ¬ WM_X3_stepNumber Q a j → M_5 a j = M0 a j) → ∃ r, D_X3_stepNumber_5 Q zFu M_5 = some r ∧ ((∀ a j, ¬ WM_X3_stepNumber Q a j → r a j = M0 a j)) := fun M_5 k_5 => TL_5 zFu M_5 k_5 (zFu_up _)
  unfold D_X3_stepNumber
  refine vLm (W := WM_X3_stepNumber Q) (fun a j h => (zu_ne (by unfold WM_X3_stepNumber at h; omega))) (fun M_2 f_2 k_2 => ?_)
  exact T_5 _ k_2
def WM_X3_step (Q : Nat) (a j : Nat) : Prop := (a = Q ∧ (j = 5 ∨ j = 6 ∨ j = 7 ∨ j = 9))
def WN_X3_step (Q : Nat) (a j : Nat) : Prop := (a = Q ∧ (j = 8))
set_option maxRecDepth 100000 in
set_option maxHeartbeats 4000000 in
theorem v_X3_step {Q : Nat}  {M0 : zMt} {N0 : zNt}  : ∃ r, D_X3_step Q M0 N0 = some r ∧ ((∀ a j, ¬ WM_X3_step Q a j → r.1 a j = M0 a j) ∧ (∀ a j, ¬ WN_X3_step Q a j → r.2 a j = N0 a j)) := by
  have T_137 : ∀ (M_137 : zMt) (N_137 : zNt), (∀ a j, ¬ WM_X3_step Q a j → M_137 a j = M0 a j) → (∀ a j, ¬ WN_X3_step Q a j → N_137 a j = N0 a j) → ∃ r, D_X3_step_137 Q M_137 N_137 = some r ∧ ((∀ a j, ¬ WM_X3_step Q a j → r.1 a j = M0 a j) ∧ (∀ a j, ¬ WN_X3_step Q a j → r.2 a j = N0 a j)) := by
    intro M_137 N_137 k_137 kn_137
    unfold D_X3_step_137
    exact ⟨_, rfl, k_137, kn_137⟩
  have T_41 : ∀ (M_41 : zMt) (N_41 : zNt), (∀ a j, ¬ WM_X3_step Q a j → M_41 a j = M0 a j) → (∀ a j, ¬ WN_X3_step Q a j → N_41 a j = N0 a j) → ∃ r, D_X3_step_41 Q M_41 N_41 = some r ∧ ((∀ a j, ¬ WM_X3_step Q a j → r.1 a j = M0 a j) ∧ (∀ a j, ¬ WN_X3_step Q a j → r.2 a j = N0 a j)) := by
    intro M_41 N_41 k_41 kn_41
    unfold D_X3_step_41
    refine vLm (W := WM_X3_step Q) (fun a j h => (zu_ne (by unfold WM_X3_step at h; omega)).trans (k_41 a j h)) (fun M_46 f_46 k_46 => ?_)
    refine vIf (fun h_69 => ?_) (fun h_69 => ?_)
    · refine vB (v_X3_isLetter) (fun e_81 f_81 q_81 => ?_)
      have b_81 := q_81
      refine vIf (fun h_84 => ?_) (fun h_84 => ?_)
      · refine vB (v_X3_isDigit) (fun e_95 f_95 q_95 => ?_)
        have b_95 := q_95
        refine vIf (fun h_98 => ?_) (fun h_98 => ?_)
        · refine vIf (fun h_111 => ?_) (fun h_111 => ?_)
          · refine vLm (W := WM_X3_step Q) (fun a j h => (zu_ne (by unfold WM_X3_step at h; omega)).trans (k_46 a j h)) (fun M_116 f_116 k_116 => ?_)
            refine vLm (W := WM_X3_step Q) (fun a j h => (zu_ne (by unfold WM_X3_step at h; omega)).trans (k_116 a j h)) (fun M_126 f_126 k_126 => ?_)
            exact T_137 _ _ k_126 kn_41
          · refine vLm (W := WM_X3_step Q) (fun a j h => (zu_ne (by unfold WM_X3_step at h; omega)).trans (k_46 a j h)) (fun M_134 f_134 k_134 => ?_)
            exact T_137 _ _ k_134 kn_41
        · refine vB (v_X3_stepNumber) (fun e_102 f_102 q_102 => ?_)
          have k_102 : ∀ a j, ¬ WM_X3_step Q a j → e_102 a j = M0 a j := fun a j h => (q_102 a j (by unfold WM_X3_stepNumber; unfold WM_X3_step at h; omega)).trans (k_46 a j h)
          exact T_137 _ _ k_102 kn_41
      · refine vB (v_X3_stepWord) (fun e_88 f_88 q_88 => ?_)
        have k_88 : ∀ a j, ¬ WM_X3_step Q a j → e_88.1 a j = M0 a j := fun a j h => (q_88.1 a j (by unfold WM_X3_stepWord; unfold WM_X3_step at h; omega)).trans (k_46 a j h)
        have kn_88 : ∀ a j, ¬ WN_X3_step Q a j → e_88.2 a j = N0 a j := fun a j h => (q_88.2 a j (by unfold WN_X3_stepWord; unfold WN_X3_step at h; omega)).trans (kn_41 a j h)
        exact T_137 _ _ k_88 kn_88
    · refine vLm (W := WM_X3_step Q) (fun a j h => (zu_ne (by unfold WM_X3_step at h; omega)).trans (k_46 a j h)) (fun M_74 f_74 k_74 => ?_)
      exact T_137 _ _ k_74 kn_41
  have TL_0 : ∀ u : Nat, ∀ (M_0 : zMt) (N_0 : zNt), (∀ a j, ¬ WM_X3_step Q a j → M_0 a j = M0 a j) → (∀ a j, ¬ WN_X3_step Q a j → N_0 a j = N0 a j) → (2147483648 - Int32.toInt (M_0 Q 5)).toNat < u → ∃ r, D_X3_step_0 Q u M_0 N_0 = some r ∧ ((∀ a j, ¬ WM_X3_step Q a j → r.1 a j = M0 a j) ∧ (∀ a j, ¬ WN_X3_step Q a j → r.2 a j = N0 a j)) := by
    intro u
    induction u with
    | zero => intro M_0 N_0 k_0 kn_0 hm_0; exact absurd hm_0 (Nat.not_lt_zero _)
    | succ u_0 ih_0 =>
      intro M_0 N_0 k_0 kn_0 hm_0
      rw [D_X3_step_0]
      refine vIf (fun h_8 => ?_) (fun h_8 => ?_)
      · exact T_41 _ _ k_0 kn_0
      · refine vB (v_X3_isBlank) (fun e_22 f_22 q_22 => ?_)
        have b_22 := q_22
        refine vIf (fun h_25 => ?_) (fun h_25 => ?_)
        · exact T_41 _ _ k_0 kn_0
        · refine vLm (W := WM_X3_step Q) (fun a j h => (zu_ne (by unfold WM_X3_step at h; omega)).trans (k_0 a j h)) (fun M_35 f_35 k_35 => ?_)
          exact ih_0 _ _ k_35 kn_0 (by rw [← f_35, zu_eq]; exact z_up1 (z_lt (by assumption)) hm_0)
  have T_0 : ∀ (M_0 : zMt) (N_0 : zNt), (∀ a j, ¬ WM_X3_step Q a j → M_0 a j = M0 a j) → (∀ a j, ¬ WN_X3_step Q a j → N_0 a j = N0 a j) → ∃ r, D_X3_step_0 Q zFu M_0 N_0 = some r ∧ ((∀ a j, ¬ WM_X3_step Q a j → r.1 a j = M0 a j) ∧ (∀ a j, ¬ WN_X3_step Q a j → r.2 a j = N0 a j)) := fun M_0 N_0 k_0 kn_0 => TL_0 zFu M_0 N_0 k_0 kn_0 (zFu_up _)
  unfold D_X3_step
  exact T_0 _ _ (fun _ _ _ => rfl) (fun _ _ _ => rfl)
set_option maxRecDepth 100000 in
set_option maxHeartbeats 4000000 in
theorem v_X3_says {Q : Nat} {w0 : Nat} {M : zMt}  (hw0 : w0 < zLit.length) : ∃ r, D_X3_says Q w0 M = some r ∧ ((r = 0 ∨ r = 1)) := by
  have TL_28 : ∀ u : Nat, ∀ (x2_28 : Int32), (0 ≤ Int32.toInt x2_28) → (2147483648 - Int32.toInt x2_28).toNat < u → ∃ r, D_X3_says_28 Q w0 M u x2_28 = some r ∧ ((r = 0 ∨ r = 1)) := by
    intro u
    induction u with
    | zero => intro x2_28 f0_28 hm_28; exact absurd hm_28 (Nat.not_lt_zero _)
    | succ u_28 ih_28 =>
      intro x2_28 f0_28 hm_28
      rw [D_X3_says_28]
      refine vIf (fun h_33 => ?_) (fun h_33 => ?_)
      · exact ⟨_, rfl, (by first | exact Or.inl rfl | exact Or.inr rfl | assumption)⟩
      · refine vI (z_in (by have := (zCh_ok w0 (by assumption)).1; omega) (z_nlt (by assumption)) (by assumption)) ?_
        refine vIf (fun h_54 => ?_) (fun h_54 => ?_)
        · exact ih_28 _ (by first | decide | exact z_nn (by assumption) (by assumption)) (z_up1 (by first | assumption | exact z_lt (by assumption) | exact z_lt2 (by assumption) | exact z_lt3 (by assumption) (by decide)) hm_28)
        · exact ⟨_, rfl, (by first | exact Or.inl rfl | exact Or.inr rfl | assumption)⟩
  have T_28 : ∀ (x2_28 : Int32), (0 ≤ Int32.toInt x2_28) → ∃ r, D_X3_says_28 Q w0 M zFu x2_28 = some r ∧ ((r = 0 ∨ r = 1)) := fun x2_28 f0_28 => TL_28 zFu x2_28 f0_28 (zFu_up _)
  have T_24 : ∃ r, D_X3_says_24 Q w0 M = some r ∧ ((r = 0 ∨ r = 1)) := by
    unfold D_X3_says_24
    exact ⟨_, rfl, (by first | exact Or.inl rfl | exact Or.inr rfl | assumption)⟩
  unfold D_X3_says
  refine vIf (fun h_5 => ?_) (fun h_5 => ?_)
  · refine vIf (fun h_21 => ?_) (fun h_21 => ?_)
    · exact T_28 _ (by first | decide | exact z_nn (by assumption) (by assumption))
    · exact T_24
  · exact T_24
set_option maxRecDepth 100000 in
set_option maxHeartbeats 4000000 in
theorem v_X3_isName {Q : Nat} {M : zMt}   : ∃ r, D_X3_isName Q M = some r ∧ ((r = 0 ∨ r = 1)) := by
  have T_85 : ∀ (y0_85 : Int32), (y0_85 = 0 ∨ y0_85 = 1) → ∃ r, D_X3_isName_85 Q M y0_85 = some r ∧ ((r = 0 ∨ r = 1)) := by
    intro y0_85 f0_85
    unfold D_X3_isName_85
    exact ⟨_, rfl, (by first | exact Or.inl rfl | exact Or.inr rfl | assumption)⟩
  have T_84 : ∃ r, D_X3_isName_84 Q M = some r ∧ ((r = 0 ∨ r = 1)) := by
    unfold D_X3_isName_84
    exact T_85 _ (by first | exact Or.inl rfl | exact Or.inr rfl | assumption)
  unfold D_X3_isName
  refine vIf (fun h_5 => ?_) (fun h_5 => ?_)
  · refine vB (v_X3_says (by first | assumption | decide)) (fun e_11 f_11 q_11 => ?_)
    have b_11 := q_11
    refine vIf (fun h_14 => ?_) (fun h_14 => ?_)
    · refine vB (v_X3_says (by first | assumption | decide)) (fun e_20 f_20 q_20 => ?_)
      have b_20 := q_20
      refine vIf (fun h_23 => ?_) (fun h_23 => ?_)
      · refine vB (v_X3_says (by first | assumption | decide)) (fun e_29 f_29 q_29 => ?_)
        have b_29 := q_29
        refine vIf (fun h_32 => ?_) (fun h_32 => ?_)
        · refine vB (v_X3_says (by first | assumption | decide)) (fun e_38 f_38 q_38 => ?_)
          have b_38 := q_38
          refine vIf (fun h_41 => ?_) (fun h_41 => ?_)
          · refine vB (v_X3_says (by first | assumption | decide)) (fun e_47 f_47 q_47 => ?_)
            have b_47 := q_47
            refine vIf (fun h_50 => ?_) (fun h_50 => ?_)
            · refine vB (v_X3_says (by first | assumption | decide)) (fun e_56 f_56 q_56 => ?_)
              have b_56 := q_56
              refine vIf (fun h_59 => ?_) (fun h_59 => ?_)
              · refine vB (v_X3_says (by first | assumption | decide)) (fun e_65 f_65 q_65 => ?_)
                have b_65 := q_65
                refine vIf (fun h_68 => ?_) (fun h_68 => ?_)
                · refine vB (v_X3_says (by first | assumption | decide)) (fun e_74 f_74 q_74 => ?_)
                  have b_74 := q_74
                  refine vIf (fun h_77 => ?_) (fun h_77 => ?_)
                  · exact T_85 _ (by first | exact Or.inl rfl | exact Or.inr rfl | assumption)
                  · exact T_84
                · exact T_84
              · exact T_84
            · exact T_84
          · exact T_84
        · exact T_84
      · exact T_84
    · exact T_84
  · exact T_84
def WM_X3_fail (Q : Nat) (a j : Nat) : Prop := (a = Q ∧ (j = 1 ∨ j = 2))
set_option maxRecDepth 100000 in
set_option maxHeartbeats 4000000 in
theorem v_X3_fail {Q : Nat} {v0 : Int32} {M0 : zMt}  : ∃ r, D_X3_fail Q v0 M0 = some r ∧ ((∀ a j, ¬ WM_X3_fail Q a j → r.2 a j = M0 a j) ∧ (r.1 = 0 ∨ r.1 = 1)) := by
  have T_14 : ∀ (y1_14 : Int32) (M_14 : zMt), (∀ a j, ¬ WM_X3_fail Q a j → M_14 a j = M0 a j) → ∃ r, D_X3_fail_14 Q y1_14 M_14 = some r ∧ ((∀ a j, ¬ WM_X3_fail Q a j → r.2 a j = M0 a j) ∧ (r.1 = 0 ∨ r.1 = 1)) := by
    intro y1_14 M_14 k_14
    unfold D_X3_fail_14
    refine vLm (W := WM_X3_fail Q) (fun a j h => (zu_ne (by unfold WM_X3_fail at h; omega)).trans (k_14 a j h)) (fun M_14 f_14 k_14 => ?_)
    refine vLm (W := WM_X3_fail Q) (fun a j h => (zu_ne (by unfold WM_X3_fail at h; omega)).trans (k_14 a j h)) (fun M_22 f_22 k_22 => ?_)
    exact ⟨_, rfl, k_22, (by first | exact Or.inl rfl | exact Or.inr rfl | assumption)⟩
  unfold D_X3_fail
  refine vIf (fun h_6 => ?_) (fun h_6 => ?_)
  · exact T_14 _ _ (fun _ _ _ => rfl)
  · exact T_14 _ _ (fun _ _ _ => rfl)
set_option maxRecDepth 100000 in
set_option maxHeartbeats 4000000 in
theorem v_X3_find {Q : Nat} {nQ : Nat} {N : zNt} {v0 : Int32} {v1 : Int64}  : ∃ r, D_X3_find Q nQ N v0 v1 = some r ∧ (True) := by
  have TL_3 : ∀ u : Nat, ∀ (x1_3 : Int32) (x2_3 : Int64) (x4_3 : Int32), (2147483648 - Int32.toInt x4_3).toNat < u → ∃ r, D_X3_find_3 Q nQ N u x1_3 x2_3 x4_3 = some r ∧ (True) := by
    intro u
    induction u with
    | zero => intro x1_3 x2_3 x4_3 hm_3; exact absurd hm_3 (Nat.not_lt_zero _)
    | succ u_3 ih_3 =>
      intro x1_3 x2_3 x4_3 hm_3
      rw [D_X3_find_3]
      refine vIf (fun h_6 => ?_) (fun h_6 => ?_)
      · exact ⟨_, rfl, trivial⟩
      · refine vIf (fun h_17 => ?_) (fun h_17 => ?_)
        · exact ⟨_, rfl, trivial⟩
        · exact ih_3 _ _ _ (z_up1 (by first | assumption | exact z_lt (by assumption) | exact z_lt2 (by assumption) | exact z_lt3 (by assumption) (by decide)) hm_3)
  have T_3 : ∀ (x1_3 : Int32) (x2_3 : Int64) (x4_3 : Int32), ∃ r, D_X3_find_3 Q nQ N zFu x1_3 x2_3 x4_3 = some r ∧ (True) := fun x1_3 x2_3 x4_3 => TL_3 zFu x1_3 x2_3 x4_3 (zFu_up _)
  unfold D_X3_find
  exact T_3 _ _ _
set_option maxRecDepth 100000 in
set_option maxHeartbeats 4000000 in
theorem v_X3_isTaken {Q : Nat} {M : zMt} {N : zNt} {v0 : Int64}  : ∃ r, D_X3_isTaken Q M N v0 = some r ∧ ((r = 0 ∨ r = 1)) := by
  have T_62 : ∀ (y0_62 : Int32), (y0_62 = 0 ∨ y0_62 = 1) → ∃ r, D_X3_isTaken_62 Q M N y0_62 = some r ∧ ((r = 0 ∨ r = 1)) := by
    intro y0_62 f0_62
    unfold D_X3_isTaken_62
    exact ⟨_, rfl, (by first | exact Or.inl rfl | exact Or.inr rfl | assumption)⟩
  have T_57 : ∃ r, D_X3_isTaken_57 Q M N = some r ∧ ((r = 0 ∨ r = 1)) := by
    unfold D_X3_isTaken_57
    exact T_62 _ (by first | exact Or.inl rfl | exact Or.inr rfl | assumption)
  unfold D_X3_isTaken
  refine vB (v_X3_find) (fun e_12 f_12 q_12 => ?_)
  refine vIf (fun h_16 => ?_) (fun h_16 => ?_)
  · refine vB (v_X3_find) (fun e_31 f_31 q_31 => ?_)
    refine vIf (fun h_35 => ?_) (fun h_35 => ?_)
    · refine vB (v_X3_find) (fun e_50 f_50 q_50 => ?_)
      refine vIf (fun h_54 => ?_) (fun h_54 => ?_)
      · exact T_62 _ (by first | exact Or.inl rfl | exact Or.inr rfl | assumption)
      · exact T_57
    · exact T_57
  · exact T_57
def WM_X3_readNewName (Q : Nat) (a j : Nat) : Prop := (a = Q ∧ (j = 1 ∨ j = 2 ∨ j = 5 ∨ j = 6 ∨ j = 7 ∨ j = 9))
def WN_X3_readNewName (Q : Nat) (a j : Nat) : Prop := (a = Q ∧ (j = 8 ∨ j = 10))
set_option maxRecDepth 100000 in
set_option maxHeartbeats 4000000 in
theorem v_X3_readNewName {Q : Nat}  {M0 : zMt} {N0 : zNt}  : ∃ r, D_X3_readNewName Q M0 N0 = some r ∧ ((∀ a j, ¬ WM_X3_readNewName Q a j → r.2.1 a j = M0 a j) ∧ (∀ a j, ¬ WN_X3_readNewName Q a j → r.2.2 a j = N0 a j) ∧ (r.1 = 0 ∨ r.1 = 1)) := by
  unfold D_X3_readNewName
  refine vB (v_X3_isName) (fun e_1 f_1 q_1 => ?_)
  have b_1 := q_1
  refine vIf (fun h_4 => ?_) (fun h_4 => ?_)
  · refine vB (v_X3_fail) (fun e_9 f_9 q_9 => ?_)
    have k_9 : ∀ a j, ¬ WM_X3_readNewName Q a j → e_9.2 a j = M0 a j := fun a j h => (q_9.1 a j (by unfold WM_X3_fail; unfold WM_X3_readNewName at h; omega))
    have b_9 := q_9.2
    exact ⟨_, rfl, k_9, (fun _ _ _ => rfl), (by first | exact Or.inl rfl | exact Or.inr rfl | assumption)⟩
  · refine vB (v_X3_isTaken) (fun e_18 f_18 q_18 => ?_)
    have b_18 := q_18
    refine vIf (fun h_21 => ?_) (fun h_21 => ?_)
    · refine vLn (W := WN_X3_readNewName Q) (fun a j h => (zu_ne (by unfold WN_X3_readNewName at h; omega))) (fun N_35 f_35 kn_35 => ?_)
      refine vB (v_X3_step) (fun e_39 f_39 q_39 => ?_)
      have k_39 : ∀ a j, ¬ WM_X3_readNewName Q a j → e_39.1 a j = M0 a j := fun a j h => (q_39.1 a j (by unfold WM_X3_step; unfold WM_X3_readNewName at h; omega))
      have kn_39 : ∀ a j, ¬ WN_X3_readNewName Q a j → e_39.2 a j = N0 a j := fun a j h => (q_39.2 a j (by unfold WN_X3_step; unfold WN_X3_readNewName at h; omega)).trans (kn_35 a j h)
      exact ⟨_, rfl, k_39, kn_39, (by first | exact Or.inl rfl | exact Or.inr rfl | assumption)⟩
    · refine vB (v_X3_fail) (fun e_26 f_26 q_26 => ?_)
      have k_26 : ∀ a j, ¬ WM_X3_readNewName Q a j → e_26.2 a j = M0 a j := fun a j h => (q_26.1 a j (by unfold WM_X3_fail; unfold WM_X3_readNewName at h; omega))
      have b_26 := q_26.2
      exact ⟨_, rfl, k_26, (fun _ _ _ => rfl), (by first | exact Or.inl rfl | exact Or.inr rfl | assumption)⟩
def WM_X3_numberUpTo (Q : Nat) (a j : Nat) : Prop := (a = Q ∧ (j = 1 ∨ j = 2 ∨ j = 5 ∨ j = 6 ∨ j = 7 ∨ j = 9))
def WN_X3_numberUpTo (Q : Nat) (a j : Nat) : Prop := (a = Q ∧ (j = 8))
set_option maxRecDepth 100000 in
set_option maxHeartbeats 4000000 in
theorem v_X3_numberUpTo {Q : Nat} {v0 : Int32} {M0 : zMt} {N0 : zNt}  : ∃ r, D_X3_numberUpTo Q v0 M0 N0 = some r ∧ ((∀ a j, ¬ WM_X3_numberUpTo Q a j → r.2.1 a j = M0 a j) ∧ (∀ a j, ¬ WN_X3_numberUpTo Q a j → r.2.2 a j = N0 a j) ∧ (r.1 = 0 ∨ r.1 = 1)) := by
  unfold D_X3_numberUpTo
  refine vIf (fun h_5 => ?_) (fun h_5 => ?_)
  · refine vIf (fun h_19 => ?_) (fun h_19 => ?_)
    · refine vB (v_X3_step) (fun e_29 f_29 q_29 => ?_)
      have k_29 : ∀ a j, ¬ WM_X3_numberUpTo Q a j → e_29.1 a j = M0 a j := fun a j h => (q_29.1 a j (by unfold WM_X3_step; unfold WM_X3_numberUpTo at h; omega))
      have kn_29 : ∀ a j, ¬ WN_X3_numberUpTo Q a j → e_29.2 a j = N0 a j := fun a j h => (q_29.2 a j (by unfold WN_X3_step; unfold WN_X3_numberUpTo at h; omega))
      exact ⟨_, rfl, k_29, kn_29, (by first | exact Or.inl rfl | exact Or.inr rfl | assumption)⟩
    · refine vB (v_X3_fail) (fun e_24 f_24 q_24 => ?_)
      have k_24 : ∀ a j, ¬ WM_X3_numberUpTo Q a j → e_24.2 a j = M0 a j := fun a j h => (q_24.1 a j (by unfold WM_X3_fail; unfold WM_X3_numberUpTo at h; omega))
      have b_24 := q_24.2
      exact ⟨_, rfl, k_24, (fun _ _ _ => rfl), (by first | exact Or.inl rfl | exact Or.inr rfl | assumption)⟩
  · refine vB (v_X3_fail) (fun e_10 f_10 q_10 => ?_)
    have k_10 : ∀ a j, ¬ WM_X3_numberUpTo Q a j → e_10.2 a j = M0 a j := fun a j h => (q_10.1 a j (by unfold WM_X3_fail; unfold WM_X3_numberUpTo at h; omega))
    have b_10 := q_10.2
    exact ⟨_, rfl, k_10, (fun _ _ _ => rfl), (by first | exact Or.inl rfl | exact Or.inr rfl | assumption)⟩
def WM_X3_endOfLine (Q : Nat) (a j : Nat) : Prop := (a = Q ∧ (j = 1 ∨ j = 2 ∨ j = 5 ∨ j = 6 ∨ j = 7 ∨ j = 9))
def WN_X3_endOfLine (Q : Nat) (a j : Nat) : Prop := (a = Q ∧ (j = 8))
set_option maxRecDepth 100000 in
set_option maxHeartbeats 4000000 in
theorem v_X3_endOfLine {Q : Nat}  {M0 : zMt} {N0 : zNt}  : ∃ r, D_X3_endOfLine Q M0 N0 = some r ∧ ((∀ a j, ¬ WM_X3_endOfLine Q a j → r.2.1 a j = M0 a j) ∧ (∀ a j, ¬ WN_X3_endOfLine Q a j → r.2.2 a j = N0 a j) ∧ (r.1 = 0 ∨ r.1 = 1)) := by
  unfold D_X3_endOfLine
  refine vIf (fun h_5 => ?_) (fun h_5 => ?_)
  · refine vB (v_X3_step) (fun e_15 f_15 q_15 => ?_)
    have k_15 : ∀ a j, ¬ WM_X3_endOfLine Q a j → e_15.1 a j = M0 a j := fun a j h => (q_15.1 a j (by unfold WM_X3_step; unfold WM_X3_endOfLine at h; omega))
    have kn_15 : ∀ a j, ¬ WN_X3_endOfLine Q a j → e_15.2 a j = N0 a j := fun a j h => (q_15.2 a j (by unfold WN_X3_step; unfold WN_X3_endOfLine at h; omega))
    exact ⟨_, rfl, k_15, kn_15, (by first | exact Or.inl rfl | exact Or.inr rfl | assumption)⟩
  · refine vB (v_X3_fail) (fun e_10 f_10 q_10 => ?_)
    have k_10 : ∀ a j, ¬ WM_X3_endOfLine Q a j → e_10.2 a j = M0 a j := fun a j h => (q_10.1 a j (by unfold WM_X3_fail; unfold WM_X3_endOfLine at h; omega))
    have b_10 := q_10.2
    exact ⟨_, rfl, k_10, (fun _ _ _ => rfl), (by first | exact Or.inl rfl | exact Or.inr rfl | assumption)⟩
def WM_X4_addUnit (Q : Nat) (a j : Nat) : Prop := (Q + 1 ≤ a ∧ a < Q + 2) ∨ (a = Q ∧ (j = 0))
set_option maxRecDepth 100000 in
set_option maxHeartbeats 4000000 in
theorem v_X4_addUnit {Q : Nat} {v0 : Int32} {M0 : zMt}  : ∃ r, D_X4_addUnit Q v0 M0 = some r ∧ ((∀ a j, ¬ WM_X4_addUnit Q a j → r a j = M0 a j)) := by
  unfold D_X4_addUnit
  refine vLm (W := WM_X4_addUnit Q) (fun a j h => (congrFun (zwr_row (by unfold WM_X4_addUnit at h; omega)) j)) (fun M_9 f_9 k_9 => ?_)
  refine vLm (W := WM_X4_addUnit Q) (fun a j h => (zu_ne (by unfold WM_X4_addUnit at h; omega)).trans (k_9 a j h)) (fun M_19 f_19 k_19 => ?_)
  exact ⟨_, rfl, k_19⟩
def WM_X3_readUnit (Q : Nat) (a j : Nat) : Prop := (Q + 2 ≤ a ∧ a < Q + 3) ∨ (a = Q ∧ (j = 1 ∨ j = 2 ∨ j = 5 ∨ j = 6 ∨ j = 7 ∨ j = 9)) ∨ (a = Q + 1 ∧ (j = 0))
def WN_X3_readUnit (Q : Nat) (a j : Nat) : Prop := (Q + 10 ≤ a ∧ a < Q + 11) ∨ (a = Q ∧ (j = 8 ∨ j = 10))
set_option maxRecDepth 100000 in
set_option maxHeartbeats 4000000 in
theorem v_X3_readUnit {Q : Nat}  {M0 : zMt} {N0 : zNt}  : ∃ r, D_X3_readUnit Q M0 N0 = some r ∧ ((∀ a j, ¬ WM_X3_readUnit Q a j → r.2.1 a j = M0 a j) ∧ (∀ a j, ¬ WN_X3_readUnit Q a j → r.2.2 a j = N0 a j) ∧ (r.1 = 0 ∨ r.1 = 1)) := by
  have T_29 : ∀ (M_29 : zMt) (N_29 : zNt), (∀ a j, ¬ WM_X3_readUnit Q a j → M_29 a j = M0 a j) → (∀ a j, ¬ WN_X3_readUnit Q a j → N_29 a j = N0 a j) → ∃ r, D_X3_readUnit_29 Q M_29 N_29 = some r ∧ ((∀ a j, ¬ WM_X3_readUnit Q a j → r.2.1 a j = M0 a j) ∧ (∀ a j, ¬ WN_X3_readUnit Q a j → r.2.2 a j = N0 a j) ∧ (r.1 = 0 ∨ r.1 = 1)) := by
    intro M_29 N_29 k_29 kn_29
    unfold D_X3_readUnit_29
    exact ⟨_, rfl, k_29, kn_29, (by first | exact Or.inl rfl | exact Or.inr rfl | assumption)⟩
  unfold D_X3_readUnit
  refine vB (v_X3_step) (fun e_1 f_1 q_1 => ?_)
  have k_1 : ∀ a j, ¬ WM_X3_readUnit Q a j → e_1.1 a j = M0 a j := fun a j h => (q_1.1 a j (by unfold WM_X3_step; unfold WM_X3_readUnit at h; omega))
  have kn_1 : ∀ a j, ¬ WN_X3_readUnit Q a j → e_1.2 a j = N0 a j := fun a j h => (q_1.2 a j (by unfold WN_X3_step; unfold WN_X3_readUnit at h; omega))
  refine vB (v_X3_readNewName) (fun e_5 f_5 q_5 => ?_)
  have k_5 : ∀ a j, ¬ WM_X3_readUnit Q a j → e_5.2.1 a j = M0 a j := fun a j h => (q_5.1 a j (by unfold WM_X3_readNewName; unfold WM_X3_readUnit at h; omega)).trans (k_1 a j h)
  have kn_5 : ∀ a j, ¬ WN_X3_readUnit Q a j → e_5.2.2 a j = N0 a j := fun a j h => (q_5.2.1 a j (by unfold WN_X3_readNewName; unfold WN_X3_readUnit at h; omega)).trans (kn_1 a j h)
  have b_5 := q_5.2.2
  refine vIf (fun h_8 => ?_) (fun h_8 => ?_)
  · exact ⟨_, rfl, k_5, kn_5, (by first | exact Or.inl rfl | exact Or.inr rfl | assumption)⟩
  · refine vB (v_X3_numberUpTo) (fun e_16 f_16 q_16 => ?_)
    have k_16 : ∀ a j, ¬ WM_X3_readUnit Q a j → e_16.2.1 a j = M0 a j := fun a j h => (q_16.1 a j (by unfold WM_X3_numberUpTo; unfold WM_X3_readUnit at h; omega)).trans (k_5 a j h)
    have kn_16 : ∀ a j, ¬ WN_X3_readUnit Q a j → e_16.2.2 a j = N0 a j := fun a j h => (q_16.2.1 a j (by unfold WN_X3_numberUpTo; unfold WN_X3_readUnit at h; omega)).trans (kn_5 a j h)
    have b_16 := q_16.2.2
    refine vIf (fun h_19 => ?_) (fun h_19 => ?_)
    · exact T_29 _ _ k_16 kn_16
    · refine vB (v_X3_endOfLine) (fun e_23 f_23 q_23 => ?_)
      have k_23 : ∀ a j, ¬ WM_X3_readUnit Q a j → e_23.2.1 a j = M0 a j := fun a j h => (q_23.1 a j (by unfold WM_X3_endOfLine; unfold WM_X3_readUnit at h; omega)).trans (k_16 a j h)
      have kn_23 : ∀ a j, ¬ WN_X3_readUnit Q a j → e_23.2.2 a j = N0 a j := fun a j h => (q_23.2.1 a j (by unfold WN_X3_endOfLine; unfold WN_X3_readUnit at h; omega)).trans (kn_16 a j h)
      have b_23 := q_23.2.2
      refine vIf (fun h_26 => ?_) (fun h_26 => ?_)
      · exact T_29 _ _ k_23 kn_23
      · refine vLn (W := WN_X3_readUnit Q) (fun a j h => (congrFun (zwr_row (by unfold WN_X3_readUnit at h; omega)) j).trans (kn_23 a j h)) (fun N_46 f_46 kn_46 => ?_)
        refine vB (v_X4_addUnit) (fun e_57 f_57 q_57 => ?_)
        have k_57 : ∀ a j, ¬ WM_X3_readUnit Q a j → e_57 a j = M0 a j := fun a j h => (q_57 a j (by unfold WM_X4_addUnit; unfold WM_X3_readUnit at h; omega)).trans (k_23 a j h)
        exact ⟨_, rfl, k_57, kn_46, (by first | exact Or.inl rfl | exact Or.inr rfl | assumption)⟩
def WM_X4_addHunter (Q : Nat) (a j : Nat) : Prop := (Q + 2 ≤ a ∧ a < Q + 4) ∨ (a = Q ∧ (j = 1))
set_option maxRecDepth 100000 in
set_option maxHeartbeats 4000000 in
theorem v_X4_addHunter {Q : Nat} {v0 : Int32} {v1 : Int32} {M0 : zMt} (bv1 : v1 = 0 ∨ v1 = 1) : ∃ r, D_X4_addHunter Q v0 v1 M0 = some r ∧ ((∀ a j, ¬ WM_X4_addHunter Q a j → r a j = M0 a j)) := by
  have T_29 : ∀ (y1_29 : Int32) (y2_29 : Int32) (M_29 : zMt), (∀ a j, ¬ WM_X4_addHunter Q a j → M_29 a j = M0 a j) → (y2_29 = 0 ∨ y2_29 = 1) → ∃ r, D_X4_addHunter_29 Q y1_29 y2_29 M_29 = some r ∧ ((∀ a j, ¬ WM_X4_addHunter Q a j → r a j = M0 a j)) := by
    intro y1_29 y2_29 M_29 k_29 f0_29
    unfold D_X4_addHunter_29
    refine vLm (W := WM_X4_addHunter Q) (fun a j h => (congrFun (zwr_row (by unfold WM_X4_addHunter at h; omega)) j).trans (k_29 a j h)) (fun M_29 f_29 k_29 => ?_)
    refine vLm (W := WM_X4_addHunter Q) (fun a j h => (zu_ne (by unfold WM_X4_addHunter at h; omega)).trans (k_29 a j h)) (fun M_39 f_39 k_39 => ?_)
    exact ⟨_, rfl, k_39⟩
  unfold D_X4_addHunter
  refine vLm (W := WM_X4_addHunter Q) (fun a j h => (congrFun (zwr_row (by unfold WM_X4_addHunter at h; omega)) j)) (fun M_9 f_9 k_9 => ?_)
  refine vIf (fun h_21 => ?_) (fun h_21 => ?_)
  · exact T_29 _ _ _ k_9 (by first | exact Or.inl rfl | exact Or.inr rfl | assumption)
  · exact T_29 _ _ _ k_9 (by first | exact Or.inl rfl | exact Or.inr rfl | assumption)
def WM_X3_readHunter (Q : Nat) (a j : Nat) : Prop := (Q + 3 ≤ a ∧ a < Q + 5) ∨ (a = Q ∧ (j = 1 ∨ j = 2 ∨ j = 5 ∨ j = 6 ∨ j = 7 ∨ j = 9)) ∨ (a = Q + 1 ∧ (j = 1))
def WN_X3_readHunter (Q : Nat) (a j : Nat) : Prop := (Q + 11 ≤ a ∧ a < Q + 12) ∨ (a = Q ∧ (j = 8 ∨ j = 10))
set_option maxRecDepth 100000 in
set_option maxHeartbeats 4000000 in
theorem v_X3_readHunter {Q : Nat}  {M0 : zMt} {N0 : zNt}  : ∃ r, D_X3_readHunter Q M0 N0 = some r ∧ ((∀ a j, ¬ WM_X3_readHunter Q a j → r.2.1 a j = M0 a j) ∧ (∀ a j, ¬ WN_X3_readHunter Q a j → r.2.2 a j = N0 a j) ∧ (r.1 = 0 ∨ r.1 = 1)) := by
  have T_39 : ∀ (x1_39 : Int32) (M_39 : zMt) (N_39 : zNt), (∀ a j, ¬ WM_X3_readHunter Q a j → M_39 a j = M0 a j) → (∀ a j, ¬ WN_X3_readHunter Q a j → N_39 a j = N0 a j) → (x1_39 = 0 ∨ x1_39 = 1) → ∃ r, D_X3_readHunter_39 Q x1_39 M_39 N_39 = some r ∧ ((∀ a j, ¬ WM_X3_readHunter Q a j → r.2.1 a j = M0 a j) ∧ (∀ a j, ¬ WN_X3_readHunter Q a j → r.2.2 a j = N0 a j) ∧ (r.1 = 0 ∨ r.1 = 1)) := by
    intro x1_39 M_39 N_39 k_39 kn_39 f0_39
    unfold D_X3_readHunter_39
    refine vB (v_X3_endOfLine) (fun e_40 f_40 q_40 => ?_)
    have k_40 : ∀ a j, ¬ WM_X3_readHunter Q a j → e_40.2.1 a j = M0 a j := fun a j h => (q_40.1 a j (by unfold WM_X3_endOfLine; unfold WM_X3_readHunter at h; omega)).trans (k_39 a j h)
    have kn_40 : ∀ a j, ¬ WN_X3_readHunter Q a j → e_40.2.2 a j = N0 a j := fun a j h => (q_40.2.1 a j (by unfold WN_X3_endOfLine; unfold WN_X3_readHunter at h; omega)).trans (kn_39 a j h)
    have b_40 := q_40.2.2
    refine vIf (fun h_43 => ?_) (fun h_43 => ?_)
    · exact ⟨_, rfl, k_40, kn_40, (by first | exact Or.inl rfl | exact Or.inr rfl | assumption)⟩
    · refine vLn (W := WN_X3_readHunter Q) (fun a j h => (congrFun (zwr_row (by unfold WN_X3_readHunter at h; omega)) j).trans (kn_40 a j h)) (fun N_63 f_63 kn_63 => ?_)
      refine vB (v_X4_addHunter (by first | exact Or.inl rfl | exact Or.inr rfl | assumption)) (fun e_75 f_75 q_75 => ?_)
      have k_75 : ∀ a j, ¬ WM_X3_readHunter Q a j → e_75 a j = M0 a j := fun a j h => (q_75 a j (by unfold WM_X4_addHunter; unfold WM_X3_readHunter at h; omega)).trans (k_40 a j h)
      exact ⟨_, rfl, k_75, kn_63, (by first | exact Or.inl rfl | exact Or.inr rfl | assumption)⟩
  unfold D_X3_readHunter
  refine vB (v_X3_step) (fun e_1 f_1 q_1 => ?_)
  have k_1 : ∀ a j, ¬ WM_X3_readHunter Q a j → e_1.1 a j = M0 a j := fun a j h => (q_1.1 a j (by unfold WM_X3_step; unfold WM_X3_readHunter at h; omega))
  have kn_1 : ∀ a j, ¬ WN_X3_readHunter Q a j → e_1.2 a j = N0 a j := fun a j h => (q_1.2 a j (by unfold WN_X3_step; unfold WN_X3_readHunter at h; omega))
  refine vB (v_X3_readNewName) (fun e_5 f_5 q_5 => ?_)
  have k_5 : ∀ a j, ¬ WM_X3_readHunter Q a j → e_5.2.1 a j = M0 a j := fun a j h => (q_5.1 a j (by unfold WM_X3_readNewName; unfold WM_X3_readHunter at h; omega)).trans (k_1 a j h)
  have kn_5 : ∀ a j, ¬ WN_X3_readHunter Q a j → e_5.2.2 a j = N0 a j := fun a j h => (q_5.2.1 a j (by unfold WN_X3_readNewName; unfold WN_X3_readHunter at h; omega)).trans (kn_1 a j h)
  have b_5 := q_5.2.2
  refine vIf (fun h_8 => ?_) (fun h_8 => ?_)
  · exact ⟨_, rfl, k_5, kn_5, (by first | exact Or.inl rfl | exact Or.inr rfl | assumption)⟩
  · refine vB (v_X3_numberUpTo) (fun e_16 f_16 q_16 => ?_)
    have k_16 : ∀ a j, ¬ WM_X3_readHunter Q a j → e_16.2.1 a j = M0 a j := fun a j h => (q_16.1 a j (by unfold WM_X3_numberUpTo; unfold WM_X3_readHunter at h; omega)).trans (k_5 a j h)
    have kn_16 : ∀ a j, ¬ WN_X3_readHunter Q a j → e_16.2.2 a j = N0 a j := fun a j h => (q_16.2.1 a j (by unfold WN_X3_numberUpTo; unfold WN_X3_readHunter at h; omega)).trans (kn_5 a j h)
    have b_16 := q_16.2.2
    refine vIf (fun h_19 => ?_) (fun h_19 => ?_)
    · exact ⟨_, rfl, k_16, kn_16, (by first | exact Or.inl rfl | exact Or.inr rfl | assumption)⟩
    · refine vB (v_X3_says (by first | assumption | decide)) (fun e_27 f_27 q_27 => ?_)
      have b_27 := q_27
      refine vIf (fun h_32 => ?_) (fun h_32 => ?_)
      · exact T_39 _ _ _ k_16 kn_16 (by first | exact Or.inl rfl | exact Or.inr rfl | assumption)
      · refine vB (v_X3_step) (fun e_36 f_36 q_36 => ?_)
        have k_36 : ∀ a j, ¬ WM_X3_readHunter Q a j → e_36.1 a j = M0 a j := fun a j h => (q_36.1 a j (by unfold WM_X3_step; unfold WM_X3_readHunter at h; omega)).trans (k_16 a j h)
        have kn_36 : ∀ a j, ¬ WN_X3_readHunter Q a j → e_36.2 a j = N0 a j := fun a j h => (q_36.2 a j (by unfold WN_X3_step; unfold WN_X3_readHunter at h; omega)).trans (kn_16 a j h)
        exact T_39 _ _ _ k_36 kn_36 (by first | exact Or.inl rfl | exact Or.inr rfl | assumption)
set_option maxRecDepth 100000 in
set_option maxHeartbeats 4000000 in
theorem v_X3_isFree {Q : Nat} {M : zMt} {v0 : Int32}  : ∃ r, D_X3_isFree Q M v0 = some r ∧ ((r = 0 ∨ r = 1)) := by
  have T_39 : ∀ (y0_39 : Int32), (y0_39 = 0 ∨ y0_39 = 1) → ∃ r, D_X3_isFree_39 Q M y0_39 = some r ∧ ((r = 0 ∨ r = 1)) := by
    intro y0_39 f0_39
    unfold D_X3_isFree_39
    exact ⟨_, rfl, (by first | exact Or.inl rfl | exact Or.inr rfl | assumption)⟩
  have T_38 : ∃ r, D_X3_isFree_38 Q M = some r ∧ ((r = 0 ∨ r = 1)) := by
    unfold D_X3_isFree_38
    exact T_39 _ (by first | exact Or.inl rfl | exact Or.inr rfl | assumption)
  unfold D_X3_isFree
  refine vIf (fun h_2 => ?_) (fun h_2 => ?_)
  · exact T_38
  · refine vIf (fun h_17 => ?_) (fun h_17 => ?_)
    · refine vIf (fun h_31 => ?_) (fun h_31 => ?_)
      · exact T_39 _ (by first | exact Or.inl rfl | exact Or.inr rfl | assumption)
      · exact T_38
    · exact T_38
def WM_X4_addParty (Q : Nat) (a j : Nat) : Prop := (Q + 4 ≤ a ∧ a < Q + 5) ∨ (a = Q ∧ (j = 2))
set_option maxRecDepth 100000 in
set_option maxHeartbeats 4000000 in
theorem v_X4_addParty {Q : Nat} {v0 : Int32} {M0 : zMt}  : ∃ r, D_X4_addParty Q v0 M0 = some r ∧ ((∀ a j, ¬ WM_X4_addParty Q a j → r a j = M0 a j)) := by
  have TL_2 : ∀ u : Nat, ∀ (x1_2 : Int32) (x2_2 : Int32) (M_2 : zMt), (∀ a j, ¬ WM_X4_addParty Q a j → M_2 a j = M0 a j) → (2147483648 - Int32.toInt x2_2).toNat < u → ∃ r, D_X4_addParty_2 Q u x1_2 x2_2 M_2 = some r ∧ ((∀ a j, ¬ WM_X4_addParty Q a j → r a j = M0 a j)) := by
    intro u
    induction u with
    | zero => intro x1_2 x2_2 M_2 k_2 hm_2; exact absurd hm_2 (Nat.not_lt_zero _)
    | succ u_2 ih_2 =>
      have T_31 : ∀ (x1_31 : Int32) (x2_31 : Int32) (M_31 : zMt), (∀ a j, ¬ WM_X4_addParty Q a j → M_31 a j = M0 a j) → ((2147483648 - Int32.toInt x2_31).toNat < u_2 + 1) → (Int32.toInt x2_31 < 2147483647) → ∃ r, D_X4_addParty_31 Q (D_X4_addParty_2 Q u_2) x1_31 x2_31 M_31 = some r ∧ ((∀ a j, ¬ WM_X4_addParty Q a j → r a j = M0 a j)) := by
        intro x1_31 x2_31 M_31 k_31 f0_31 f1_31
        unfold D_X4_addParty_31
        exact ih_2 _ _ _ k_31 (z_up1 f1_31 f0_31)
      intro x1_2 x2_2 M_2 k_2 hm_2
      rw [D_X4_addParty_2]
      refine vIf (fun h_7 => ?_) (fun h_7 => ?_)
      · refine vLm (W := WM_X4_addParty Q) (fun a j h => (zu_ne (by unfold WM_X4_addParty at h; omega)).trans (k_2 a j h)) (fun M_44 f_44 k_44 => ?_)
        exact ⟨_, rfl, k_44⟩
      · refine vIf (fun h_16 => ?_) (fun h_16 => ?_)
        · refine vLm (W := WM_X4_addParty Q) (fun a j h => (congrFun (zwr_row (by unfold WM_X4_addParty at h; omega)) j).trans (k_2 a j h)) (fun M_28 f_28 k_28 => ?_)
          exact T_31 _ _ _ k_28 hm_2 (by first | assumption | exact z_lt (by assumption) | exact z_lt2 (by assumption) | exact z_lt3 (by assumption) (by decide))
        · exact T_31 _ _ _ k_2 hm_2 (by first | assumption | exact z_lt (by assumption) | exact z_lt2 (by assumption) | exact z_lt3 (by assumption) (by decide))
  have T_2 : ∀ (x1_2 : Int32) (x2_2 : Int32) (M_2 : zMt), (∀ a j, ¬ WM_X4_addParty Q a j → M_2 a j = M0 a j) → ∃ r, D_X4_addParty_2 Q zFu x1_2 x2_2 M_2 = some r ∧ ((∀ a j, ¬ WM_X4_addParty Q a j → r a j = M0 a j)) := fun x1_2 x2_2 M_2 k_2 => TL_2 zFu x1_2 x2_2 M_2 k_2 (zFu_up _)
  unfold D_X4_addParty
  exact T_2 _ _ _ (fun _ _ _ => rfl)
def WM_X3_readParty (Q : Nat) (a j : Nat) : Prop := (Q + 5 ≤ a ∧ a < Q + 6) ∨ (a = Q ∧ (j = 1 ∨ j = 2 ∨ j = 5 ∨ j = 6 ∨ j = 7 ∨ j = 9)) ∨ (a = Q + 1 ∧ (j = 2))
def WN_X3_readParty (Q : Nat) (a j : Nat) : Prop := (Q + 12 ≤ a ∧ a < Q + 13) ∨ (a = Q ∧ (j = 8 ∨ j = 10))
set_option maxRecDepth 100000 in
set_option maxHeartbeats 4000000 in
theorem v_X3_readParty {Q : Nat}  {M0 : zMt} {N0 : zNt}  : ∃ r, D_X3_readParty Q M0 N0 = some r ∧ ((∀ a j, ¬ WM_X3_readParty Q a j → r.2.1 a j = M0 a j) ∧ (∀ a j, ¬ WN_X3_readParty Q a j → r.2.2 a j = N0 a j) ∧ (r.1 = 0 ∨ r.1 = 1)) := by
  have T_106 : ∀ (x1_106 : Int32) (M_106 : zMt) (N_106 : zNt), (∀ a j, ¬ WM_X3_readParty Q a j → M_106 a j = M0 a j) → (∀ a j, ¬ WN_X3_readParty Q a j → N_106 a j = N0 a j) → ∃ r, D_X3_readParty_106 Q x1_106 M_106 N_106 = some r ∧ ((∀ a j, ¬ WM_X3_readParty Q a j → r.2.1 a j = M0 a j) ∧ (∀ a j, ¬ WN_X3_readParty Q a j → r.2.2 a j = N0 a j) ∧ (r.1 = 0 ∨ r.1 = 1)) := by
    intro x1_106 M_106 N_106 k_106 kn_106
    unfold D_X3_readParty_106
    refine vB (v_X3_endOfLine) (fun e_107 f_107 q_107 => ?_)
    have k_107 : ∀ a j, ¬ WM_X3_readParty Q a j → e_107.2.1 a j = M0 a j := fun a j h => (q_107.1 a j (by unfold WM_X3_endOfLine; unfold WM_X3_readParty at h; omega)).trans (k_106 a j h)
    have kn_107 : ∀ a j, ¬ WN_X3_readParty Q a j → e_107.2.2 a j = N0 a j := fun a j h => (q_107.2.1 a j (by unfold WN_X3_endOfLine; unfold WN_X3_readParty at h; omega)).trans (kn_106 a j h)
    have b_107 := q_107.2.2
    refine vIf (fun h_110 => ?_) (fun h_110 => ?_)
    · exact ⟨_, rfl, k_107, kn_107, (by first | exact Or.inl rfl | exact Or.inr rfl | assumption)⟩
    · refine vLn (W := WN_X3_readParty Q) (fun a j h => (congrFun (zwr_row (by unfold WN_X3_readParty at h; omega)) j).trans (kn_107 a j h)) (fun N_130 f_130 kn_130 => ?_)
      refine vB (v_X4_addParty) (fun e_138 f_138 q_138 => ?_)
      have k_138 : ∀ a j, ¬ WM_X3_readParty Q a j → e_138 a j = M0 a j := fun a j h => (q_138 a j (by unfold WM_X4_addParty; unfold WM_X3_readParty at h; omega)).trans (k_107 a j h)
      exact ⟨_, rfl, k_138, kn_130, (by first | exact Or.inl rfl | exact Or.inr rfl | assumption)⟩
  have T_84 : ∀ (M_84 : zMt) (N_84 : zNt), (∀ a j, ¬ WM_X3_readParty Q a j → M_84 a j = M0 a j) → (∀ a j, ¬ WN_X3_readParty Q a j → N_84 a j = N0 a j) → ∃ r, D_X3_readParty_84 Q M_84 N_84 = some r ∧ ((∀ a j, ¬ WM_X3_readParty Q a j → r.2.1 a j = M0 a j) ∧ (∀ a j, ¬ WN_X3_readParty Q a j → r.2.2 a j = N0 a j) ∧ (r.1 = 0 ∨ r.1 = 1)) := by
    intro M_84 N_84 k_84 kn_84
    unfold D_X3_readParty_84
    refine vB (v_X3_fail) (fun e_86 f_86 q_86 => ?_)
    have k_86 : ∀ a j, ¬ WM_X3_readParty Q a j → e_86.2 a j = M0 a j := fun a j h => (q_86.1 a j (by unfold WM_X3_fail; unfold WM_X3_readParty at h; omega)).trans (k_84 a j h)
    have b_86 := q_86.2
    exact ⟨_, rfl, k_86, kn_84, (by first | exact Or.inl rfl | exact Or.inr rfl | assumption)⟩
  have TL_17 : ∀ u : Nat, ∀ (x1_17 : Int32) (x2_17 : Int32) (M_17 : zMt) (N_17 : zNt), (∀ a j, ¬ WM_X3_readParty Q a j → M_17 a j = M0 a j) → (∀ a j, ¬ WN_X3_readParty Q a j → N_17 a j = N0 a j) → (2147483648 - Int32.toInt x2_17).toNat < u → ∃ r, D_X3_readParty_17 Q u x1_17 x2_17 M_17 N_17 = some r ∧ ((∀ a j, ¬ WM_X3_readParty Q a j → r.2.1 a j = M0 a j) ∧ (∀ a j, ¬ WN_X3_readParty Q a j → r.2.2 a j = N0 a j) ∧ (r.1 = 0 ∨ r.1 = 1)) := by
    intro u
    induction u with
    | zero => intro x1_17 x2_17 M_17 N_17 k_17 kn_17 hm_17; exact absurd hm_17 (Nat.not_lt_zero _)
    | succ u_17 ih_17 =>
      have T_35 : ∀ (x1_35 : Int32) (x2_35 : Int32) (M_35 : zMt) (N_35 : zNt), (∀ a j, ¬ WM_X3_readParty Q a j → M_35 a j = M0 a j) → (∀ a j, ¬ WN_X3_readParty Q a j → N_35 a j = N0 a j) → ((2147483648 - Int32.toInt x2_35).toNat < u_17 + 1) → (Int32.toInt x2_35 < 2147483647) → ∃ r, D_X3_readParty_35 Q (D_X3_readParty_17 Q u_17) x1_35 x2_35 M_35 N_35 = some r ∧ ((∀ a j, ¬ WM_X3_readParty Q a j → r.2.1 a j = M0 a j) ∧ (∀ a j, ¬ WN_X3_readParty Q a j → r.2.2 a j = N0 a j) ∧ (r.1 = 0 ∨ r.1 = 1)) := by
        intro x1_35 x2_35 M_35 N_35 k_35 kn_35 f0_35 f1_35
        unfold D_X3_readParty_35
        refine vB (v_X3_isName) (fun e_36 f_36 q_36 => ?_)
        have b_36 := q_36
        refine vIf (fun h_39 => ?_) (fun h_39 => ?_)
        · refine vB (v_X3_fail) (fun e_44 f_44 q_44 => ?_)
          have k_44 : ∀ a j, ¬ WM_X3_readParty Q a j → e_44.2 a j = M0 a j := fun a j h => (q_44.1 a j (by unfold WM_X3_fail; unfold WM_X3_readParty at h; omega)).trans (k_35 a j h)
          have b_44 := q_44.2
          exact ⟨_, rfl, k_44, kn_35, (by first | exact Or.inl rfl | exact Or.inr rfl | assumption)⟩
        · refine vB (v_X3_find) (fun e_63 f_63 q_63 => ?_)
          refine vB (v_X3_isFree) (fun e_69 f_69 q_69 => ?_)
          have b_69 := q_69
          refine vIf (fun h_72 => ?_) (fun h_72 => ?_)
          · exact T_84 _ _ k_35 kn_35
          · refine vIf (fun h_81 => ?_) (fun h_81 => ?_)
            · exact T_84 _ _ k_35 kn_35
            · refine vB (v_X3_step) (fun e_97 f_97 q_97 => ?_)
              have k_97 : ∀ a j, ¬ WM_X3_readParty Q a j → e_97.1 a j = M0 a j := fun a j h => (q_97.1 a j (by unfold WM_X3_step; unfold WM_X3_readParty at h; omega)).trans (k_35 a j h)
              have kn_97 : ∀ a j, ¬ WN_X3_readParty Q a j → e_97.2 a j = N0 a j := fun a j h => (q_97.2 a j (by unfold WN_X3_step; unfold WN_X3_readParty at h; omega)).trans (kn_35 a j h)
              exact ih_17 _ _ _ _ k_97 kn_97 (z_up1 f1_35 f0_35)
      intro x1_17 x2_17 M_17 N_17 k_17 kn_17 hm_17
      rw [D_X3_readParty_17]
      refine vIf (fun h_19 => ?_) (fun h_19 => ?_)
      · exact T_106 _ _ _ k_17 kn_17
      · refine vIf (fun h_24 => ?_) (fun h_24 => ?_)
        · exact T_35 _ _ _ _ k_17 kn_17 hm_17 (by first | assumption | exact z_lt (by assumption) | exact z_lt2 (by assumption) | exact z_lt3 (by assumption) (by decide))
        · refine vIf (fun h_32 => ?_) (fun h_32 => ?_)
          · exact T_106 _ _ _ k_17 kn_17
          · exact T_35 _ _ _ _ k_17 kn_17 hm_17 (by first | assumption | exact z_lt (by assumption) | exact z_lt2 (by assumption) | exact z_lt3 (by assumption) (by decide))
  have T_17 : ∀ (x1_17 : Int32) (x2_17 : Int32) (M_17 : zMt) (N_17 : zNt), (∀ a j, ¬ WM_X3_readParty Q a j → M_17 a j = M0 a j) → (∀ a j, ¬ WN_X3_readParty Q a j → N_17 a j = N0 a j) → ∃ r, D_X3_readParty_17 Q zFu x1_17 x2_17 M_17 N_17 = some r ∧ ((∀ a j, ¬ WM_X3_readParty Q a j → r.2.1 a j = M0 a j) ∧ (∀ a j, ¬ WN_X3_readParty Q a j → r.2.2 a j = N0 a j) ∧ (r.1 = 0 ∨ r.1 = 1)) := fun x1_17 x2_17 M_17 N_17 k_17 kn_17 => TL_17 zFu x1_17 x2_17 M_17 N_17 k_17 kn_17 (zFu_up _)
  unfold D_X3_readParty
  refine vB (v_X3_step) (fun e_1 f_1 q_1 => ?_)
  have k_1 : ∀ a j, ¬ WM_X3_readParty Q a j → e_1.1 a j = M0 a j := fun a j h => (q_1.1 a j (by unfold WM_X3_step; unfold WM_X3_readParty at h; omega))
  have kn_1 : ∀ a j, ¬ WN_X3_readParty Q a j → e_1.2 a j = N0 a j := fun a j h => (q_1.2 a j (by unfold WN_X3_step; unfold WN_X3_readParty at h; omega))
  refine vB (v_X3_readNewName) (fun e_5 f_5 q_5 => ?_)
  have k_5 : ∀ a j, ¬ WM_X3_readParty Q a j → e_5.2.1 a j = M0 a j := fun a j h => (q_5.1 a j (by unfold WM_X3_readNewName; unfold WM_X3_readParty at h; omega)).trans (k_1 a j h)
  have kn_5 : ∀ a j, ¬ WN_X3_readParty Q a j → e_5.2.2 a j = N0 a j := fun a j h => (q_5.2.1 a j (by unfold WN_X3_readNewName; unfold WN_X3_readParty at h; omega)).trans (kn_1 a j h)
  have b_5 := q_5.2.2
  refine vIf (fun h_8 => ?_) (fun h_8 => ?_)
  · exact ⟨_, rfl, k_5, kn_5, (by first | exact Or.inl rfl | exact Or.inr rfl | assumption)⟩
  · exact T_17 _ _ _ _ k_5 kn_5
set_option maxRecDepth 100000 in
set_option maxHeartbeats 4000000 in
theorem v_X3_asker {Q : Nat} {M : zMt} {N : zNt}   : ∃ r, D_X3_asker Q M N = some r ∧ (True) := by
  have T_116 : ∀ (x3_116 : Int32), ∃ r, D_X3_asker_116 Q M N x3_116 = some r ∧ (True) := by
    intro x3_116
    unfold D_X3_asker_116
    exact ⟨_, rfl, trivial⟩
  have TL_55 : ∀ u : Nat, ∀ (x2_55 : Int32) (x3_55 : Int32) (x4_55 : Int32), (2147483648 - Int32.toInt x4_55).toNat < u → ∃ r, D_X3_asker_55 Q M N u x2_55 x3_55 x4_55 = some r ∧ (True) := by
    intro u
    induction u with
    | zero => intro x2_55 x3_55 x4_55 hm_55; exact absurd hm_55 (Nat.not_lt_zero _)
    | succ u_55 ih_55 =>
      have T_110 : ∀ (x2_110 : Int32) (x3_110 : Int32) (x4_110 : Int32), ((2147483648 - Int32.toInt x4_110).toNat < u_55 + 1) → (Int32.toInt x4_110 < 2147483647) → ∃ r, D_X3_asker_110 Q M N (D_X3_asker_55 Q M N u_55) x2_110 x3_110 x4_110 = some r ∧ (True) := by
        intro x2_110 x3_110 x4_110 f0_110 f1_110
        unfold D_X3_asker_110
        exact ih_55 _ _ _ (z_up1 f1_110 f0_110)
      intro x2_55 x3_55 x4_55 hm_55
      rw [D_X3_asker_55]
      refine vIf (fun h_57 => ?_) (fun h_57 => ?_)
      · exact T_116 _
      · refine vIf (fun h_69 => ?_) (fun h_69 => ?_)
        · exact T_116 _
        · refine vIf (fun h_85 => ?_) (fun h_85 => ?_)
          · refine vIf (fun h_100 => ?_) (fun h_100 => ?_)
            · exact T_110 _ _ _ hm_55 (by first | assumption | exact z_lt (by assumption) | exact z_lt2 (by assumption) | exact z_lt3 (by assumption) (by decide))
            · exact T_110 _ _ _ hm_55 (by first | assumption | exact z_lt (by assumption) | exact z_lt2 (by assumption) | exact z_lt3 (by assumption) (by decide))
          · exact T_110 _ _ _ hm_55 (by first | assumption | exact z_lt (by assumption) | exact z_lt2 (by assumption) | exact z_lt3 (by assumption) (by decide))
  have T_55 : ∀ (x2_55 : Int32) (x3_55 : Int32) (x4_55 : Int32), ∃ r, D_X3_asker_55 Q M N zFu x2_55 x3_55 x4_55 = some r ∧ (True) := fun x2_55 x3_55 x4_55 => TL_55 zFu x2_55 x3_55 x4_55 (zFu_up _)
  unfold D_X3_asker
  refine vB (v_X3_find) (fun e_15 f_15 q_15 => ?_)
  refine vB (v_X3_isFree) (fun e_21 f_21 q_21 => ?_)
  have b_21 := q_21
  refine vIf (fun h_24 => ?_) (fun h_24 => ?_)
  · refine vB (v_X3_find) (fun e_46 f_46 q_46 => ?_)
    exact T_55 _ _ _
  · exact ⟨_, rfl, trivial⟩
def WM_X4_wishFor (Q : Nat) (a j : Nat) : Prop := (Q + 5 ≤ a ∧ a < Q + 7)
set_option maxRecDepth 100000 in
set_option maxHeartbeats 4000000 in
theorem v_X4_wishFor {Q : Nat} {v0 : Int32} {v1 : Int32} {v2 : Int32} {v3 : Int32} {M0 : zMt}  : ∃ r, D_X4_wishFor Q v0 v1 v2 v3 M0 = some r ∧ ((∀ a j, ¬ WM_X4_wishFor Q a j → r a j = M0 a j)) := by
  have TL_38 : ∀ u : Nat, ∀ (x1_38 : Int32) (x2_38 : Int32) (x3_38 : Int32) (x4_38 : Int32) (x5_38 : Int32) (x6_38 : Int32) (M_38 : zMt), (∀ a j, ¬ WM_X4_wishFor Q a j → M_38 a j = M0 a j) → (2147483648 - Int32.toInt x6_38).toNat < u → ∃ r, D_X4_wishFor_38 Q u x1_38 x2_38 x3_38 x4_38 x5_38 x6_38 M_38 = some r ∧ ((∀ a j, ¬ WM_X4_wishFor Q a j → r a j = M0 a j)) := by
    intro u
    induction u with
    | zero => intro x1_38 x2_38 x3_38 x4_38 x5_38 x6_38 M_38 k_38 hm_38; exact absurd hm_38 (Nat.not_lt_zero _)
    | succ u_38 ih_38 =>
      have T_109 : ∀ (x1_109 : Int32) (x2_109 : Int32) (x3_109 : Int32) (x4_109 : Int32) (x5_109 : Int32) (x6_109 : Int32) (M_109 : zMt), (∀ a j, ¬ WM_X4_wishFor Q a j → M_109 a j = M0 a j) → ((2147483648 - Int32.toInt x6_109).toNat < u_38 + 1) → (Int32.toInt x6_109 < 2147483647) → ∃ r, D_X4_wishFor_109 Q (D_X4_wishFor_38 Q u_38) x1_109 x2_109 x3_109 x4_109 x5_109 x6_109 M_109 = some r ∧ ((∀ a j, ¬ WM_X4_wishFor Q a j → r a j = M0 a j)) := by
        intro x1_109 x2_109 x3_109 x4_109 x5_109 x6_109 M_109 k_109 f0_109 f1_109
        unfold D_X4_wishFor_109
        exact ih_38 _ _ _ _ _ _ _ k_109 (z_up1 f1_109 f0_109)
      intro x1_38 x2_38 x3_38 x4_38 x5_38 x6_38 M_38 k_38 hm_38
      rw [D_X4_wishFor_38]
      refine vIf (fun h_44 => ?_) (fun h_44 => ?_)
      · exact ⟨_, rfl, k_38⟩
      · refine vIf (fun h_54 => ?_) (fun h_54 => ?_)
        · refine vLm (W := WM_X4_wishFor Q) (fun a j h => (congrFun (zwr_row (by unfold WM_X4_wishFor at h; omega)) j).trans (k_38 a j h)) (fun M_65 f_65 k_65 => ?_)
          refine vLm (W := WM_X4_wishFor Q) (fun a j h => (congrFun (zwr_row (by unfold WM_X4_wishFor at h; omega)) j).trans (k_65 a j h)) (fun M_77 f_77 k_77 => ?_)
          refine vLm (W := WM_X4_wishFor Q) (fun a j h => (congrFun (zwr_row (by unfold WM_X4_wishFor at h; omega)) j).trans (k_77 a j h)) (fun M_91 f_91 k_91 => ?_)
          refine vLm (W := WM_X4_wishFor Q) (fun a j h => (congrFun (zwr_row (by unfold WM_X4_wishFor at h; omega)) j).trans (k_91 a j h)) (fun M_106 f_106 k_106 => ?_)
          exact T_109 _ _ _ _ _ _ _ k_106 hm_38 (by first | assumption | exact z_lt (by assumption) | exact z_lt2 (by assumption) | exact z_lt3 (by assumption) (by decide))
        · exact T_109 _ _ _ _ _ _ _ k_38 hm_38 (by first | assumption | exact z_lt (by assumption) | exact z_lt2 (by assumption) | exact z_lt3 (by assumption) (by decide))
  have T_38 : ∀ (x1_38 : Int32) (x2_38 : Int32) (x3_38 : Int32) (x4_38 : Int32) (x5_38 : Int32) (x6_38 : Int32) (M_38 : zMt), (∀ a j, ¬ WM_X4_wishFor Q a j → M_38 a j = M0 a j) → ∃ r, D_X4_wishFor_38 Q zFu x1_38 x2_38 x3_38 x4_38 x5_38 x6_38 M_38 = some r ∧ ((∀ a j, ¬ WM_X4_wishFor Q a j → r a j = M0 a j)) := fun x1_38 x2_38 x3_38 x4_38 x5_38 x6_38 M_38 k_38 => TL_38 zFu x1_38 x2_38 x3_38 x4_38 x5_38 x6_38 M_38 k_38 (zFu_up _)
  have T_32 : ∀ (x1_32 : Int32) (x2_32 : Int32) (x3_32 : Int32) (x4_32 : Int32) (y0_32 : Int32) (y1_32 : Int32) (M_32 : zMt), (∀ a j, ¬ WM_X4_wishFor Q a j → M_32 a j = M0 a j) → (y1_32 = 0 ∨ y1_32 = 1) → ∃ r, D_X4_wishFor_32 Q x1_32 x2_32 x3_32 x4_32 y0_32 y1_32 M_32 = some r ∧ ((∀ a j, ¬ WM_X4_wishFor Q a j → r a j = M0 a j)) := by
    intro x1_32 x2_32 x3_32 x4_32 y0_32 y1_32 M_32 k_32 f0_32
    unfold D_X4_wishFor_32
    exact T_38 _ _ _ _ _ _ _ k_32
  have T_20 : ∀ (x1_20 : Int32) (x2_20 : Int32) (x3_20 : Int32) (x4_20 : Int32) (y0_20 : Int32) (y1_20 : Int32) (M_20 : zMt), (∀ a j, ¬ WM_X4_wishFor Q a j → M_20 a j = M0 a j) → (y0_20 = 0 ∨ y0_20 = 1) → (y1_20 = 0 ∨ y1_20 = 1) → ∃ r, D_X4_wishFor_20 Q x1_20 x2_20 x3_20 x4_20 y0_20 y1_20 M_20 = some r ∧ ((∀ a j, ¬ WM_X4_wishFor Q a j → r a j = M0 a j)) := by
    intro x1_20 x2_20 x3_20 x4_20 y0_20 y1_20 M_20 k_20 f0_20 f1_20
    unfold D_X4_wishFor_20
    refine vIf (fun h_24 => ?_) (fun h_24 => ?_)
    · exact T_32 _ _ _ _ _ _ _ k_20 (by first | exact Or.inl rfl | exact Or.inr rfl | assumption)
    · exact T_32 _ _ _ _ _ _ _ k_20 (by first | exact Or.inl rfl | exact Or.inr rfl | assumption)
  have T_10 : ∀ (x1_10 : Int32) (x2_10 : Int32) (x3_10 : Int32) (x4_10 : Int32) (y0_10 : Int32) (M_10 : zMt), (∀ a j, ¬ WM_X4_wishFor Q a j → M_10 a j = M0 a j) → (y0_10 = 0 ∨ y0_10 = 1) → ∃ r, D_X4_wishFor_10 Q x1_10 x2_10 x3_10 x4_10 y0_10 M_10 = some r ∧ ((∀ a j, ¬ WM_X4_wishFor Q a j → r a j = M0 a j)) := by
    intro x1_10 x2_10 x3_10 x4_10 y0_10 M_10 k_10 f0_10
    unfold D_X4_wishFor_10
    refine vIf (fun h_12 => ?_) (fun h_12 => ?_)
    · exact T_20 _ _ _ _ _ _ _ k_10 (by first | exact Or.inl rfl | exact Or.inr rfl | assumption) (by first | exact Or.inl rfl | exact Or.inr rfl | assumption)
    · exact T_20 _ _ _ _ _ _ _ k_10 (by first | exact Or.inl rfl | exact Or.inr rfl | assumption) (by first | exact Or.inl rfl | exact Or.inr rfl | assumption)
  unfold D_X4_wishFor
  refine vIf (fun h_2 => ?_) (fun h_2 => ?_)
  · exact T_10 _ _ _ _ _ _ (fun _ _ _ => rfl) (by first | exact Or.inl rfl | exact Or.inr rfl | assumption)
  · exact T_10 _ _ _ _ _ _ (fun _ _ _ => rfl) (by first | exact Or.inl rfl | exact Or.inr rfl | assumption)
def WM_X3_readAsks (Q : Nat) (a j : Nat) : Prop := (Q + 6 ≤ a ∧ a < Q + 8) ∨ (Q + 13 ≤ a ∧ a < Q + 14) ∨ (a = Q ∧ (j = 1 ∨ j = 2 ∨ j = 5 ∨ j = 6 ∨ j = 7 ∨ j = 9))
def WN_X3_readAsks (Q : Nat) (a j : Nat) : Prop := (a = Q ∧ (j = 8))
set_option maxRecDepth 100000 in
set_option maxHeartbeats 4000000 in
theorem v_X3_readAsks {Q : Nat}  {M0 : zMt} {N0 : zNt}  : ∃ r, D_X3_readAsks Q M0 N0 = some r ∧ ((∀ a j, ¬ WM_X3_readAsks Q a j → r.2.1 a j = M0 a j) ∧ (∀ a j, ¬ WN_X3_readAsks Q a j → r.2.2 a j = N0 a j) ∧ (r.1 = 0 ∨ r.1 = 1)) := by
  have T_150 : ∀ (x1_150 : Int32) (M_150 : zMt) (N_150 : zNt), (∀ a j, ¬ WM_X3_readAsks Q a j → M_150 a j = M0 a j) → (∀ a j, ¬ WN_X3_readAsks Q a j → N_150 a j = N0 a j) → ∃ r, D_X3_readAsks_150 Q x1_150 M_150 N_150 = some r ∧ ((∀ a j, ¬ WM_X3_readAsks Q a j → r.2.1 a j = M0 a j) ∧ (∀ a j, ¬ WN_X3_readAsks Q a j → r.2.2 a j = N0 a j) ∧ (r.1 = 0 ∨ r.1 = 1)) := by
    intro x1_150 M_150 N_150 k_150 kn_150
    unfold D_X3_readAsks_150
    refine vB (v_X3_endOfLine) (fun e_151 f_151 q_151 => ?_)
    have k_151 : ∀ a j, ¬ WM_X3_readAsks Q a j → e_151.2.1 a j = M0 a j := fun a j h => (q_151.1 a j (by unfold WM_X3_endOfLine; unfold WM_X3_readAsks at h; omega)).trans (k_150 a j h)
    have kn_151 : ∀ a j, ¬ WN_X3_readAsks Q a j → e_151.2.2 a j = N0 a j := fun a j h => (q_151.2.1 a j (by unfold WN_X3_endOfLine; unfold WN_X3_readAsks at h; omega)).trans (kn_150 a j h)
    have b_151 := q_151.2.2
    refine vIf (fun h_154 => ?_) (fun h_154 => ?_)
    · exact ⟨_, rfl, k_151, kn_151, (by first | exact Or.inl rfl | exact Or.inr rfl | assumption)⟩
    · refine vB (v_X4_wishFor) (fun e_188 f_188 q_188 => ?_)
      have k_188 : ∀ a j, ¬ WM_X3_readAsks Q a j → e_188 a j = M0 a j := fun a j h => (q_188 a j (by unfold WM_X4_wishFor; unfold WM_X3_readAsks at h; omega)).trans (k_151 a j h)
      exact ⟨_, rfl, k_188, kn_151, (by first | exact Or.inl rfl | exact Or.inr rfl | assumption)⟩
  have T_125 : ∀ (M_125 : zMt) (N_125 : zNt), (∀ a j, ¬ WM_X3_readAsks Q a j → M_125 a j = M0 a j) → (∀ a j, ¬ WN_X3_readAsks Q a j → N_125 a j = N0 a j) → ∃ r, D_X3_readAsks_125 Q M_125 N_125 = some r ∧ ((∀ a j, ¬ WM_X3_readAsks Q a j → r.2.1 a j = M0 a j) ∧ (∀ a j, ¬ WN_X3_readAsks Q a j → r.2.2 a j = N0 a j) ∧ (r.1 = 0 ∨ r.1 = 1)) := by
    intro M_125 N_125 k_125 kn_125
    unfold D_X3_readAsks_125
    refine vB (v_X3_fail) (fun e_127 f_127 q_127 => ?_)
    have k_127 : ∀ a j, ¬ WM_X3_readAsks Q a j → e_127.2 a j = M0 a j := fun a j h => (q_127.1 a j (by unfold WM_X3_fail; unfold WM_X3_readAsks at h; omega)).trans (k_125 a j h)
    have b_127 := q_127.2
    exact ⟨_, rfl, k_127, kn_125, (by first | exact Or.inl rfl | exact Or.inr rfl | assumption)⟩
  have TL_46 : ∀ u : Nat, ∀ (x1_46 : Int32) (x2_46 : Int32) (M_46 : zMt) (N_46 : zNt), (∀ a j, ¬ WM_X3_readAsks Q a j → M_46 a j = M0 a j) → (∀ a j, ¬ WN_X3_readAsks Q a j → N_46 a j = N0 a j) → (2147483648 - Int32.toInt x2_46).toNat < u → ∃ r, D_X3_readAsks_46 Q u x1_46 x2_46 M_46 N_46 = some r ∧ ((∀ a j, ¬ WM_X3_readAsks Q a j → r.2.1 a j = M0 a j) ∧ (∀ a j, ¬ WN_X3_readAsks Q a j → r.2.2 a j = N0 a j) ∧ (r.1 = 0 ∨ r.1 = 1)) := by
    intro u
    induction u with
    | zero => intro x1_46 x2_46 M_46 N_46 k_46 kn_46 hm_46; exact absurd hm_46 (Nat.not_lt_zero _)
    | succ u_46 ih_46 =>
      have T_64 : ∀ (x1_64 : Int32) (x2_64 : Int32) (M_64 : zMt) (N_64 : zNt), (∀ a j, ¬ WM_X3_readAsks Q a j → M_64 a j = M0 a j) → (∀ a j, ¬ WN_X3_readAsks Q a j → N_64 a j = N0 a j) → ((2147483648 - Int32.toInt x2_64).toNat < u_46 + 1) → (Int32.toInt x2_64 < 2147483647) → ∃ r, D_X3_readAsks_64 Q (D_X3_readAsks_46 Q u_46) x1_64 x2_64 M_64 N_64 = some r ∧ ((∀ a j, ¬ WM_X3_readAsks Q a j → r.2.1 a j = M0 a j) ∧ (∀ a j, ¬ WN_X3_readAsks Q a j → r.2.2 a j = N0 a j) ∧ (r.1 = 0 ∨ r.1 = 1)) := by
        intro x1_64 x2_64 M_64 N_64 k_64 kn_64 f0_64 f1_64
        unfold D_X3_readAsks_64
        refine vB (v_X3_isName) (fun e_65 f_65 q_65 => ?_)
        have b_65 := q_65
        refine vIf (fun h_68 => ?_) (fun h_68 => ?_)
        · refine vB (v_X3_fail) (fun e_73 f_73 q_73 => ?_)
          have k_73 : ∀ a j, ¬ WM_X3_readAsks Q a j → e_73.2 a j = M0 a j := fun a j h => (q_73.1 a j (by unfold WM_X3_fail; unfold WM_X3_readAsks at h; omega)).trans (k_64 a j h)
          have b_73 := q_73.2
          exact ⟨_, rfl, k_73, kn_64, (by first | exact Or.inl rfl | exact Or.inr rfl | assumption)⟩
        · refine vB (v_X3_find) (fun e_92 f_92 q_92 => ?_)
          refine vIf (fun h_98 => ?_) (fun h_98 => ?_)
          · exact T_125 _ _ k_64 kn_64
          · refine vIf (fun h_110 => ?_) (fun h_110 => ?_)
            · exact T_125 _ _ k_64 kn_64
            · refine vIf (fun h_122 => ?_) (fun h_122 => ?_)
              · exact T_125 _ _ k_64 kn_64
              · refine vLm (W := WM_X3_readAsks Q) (fun a j h => (congrFun (zwr_row (by unfold WM_X3_readAsks at h; omega)) j).trans (k_64 a j h)) (fun M_137 f_137 k_137 => ?_)
                refine vB (v_X3_step) (fun e_141 f_141 q_141 => ?_)
                have k_141 : ∀ a j, ¬ WM_X3_readAsks Q a j → e_141.1 a j = M0 a j := fun a j h => (q_141.1 a j (by unfold WM_X3_step; unfold WM_X3_readAsks at h; omega)).trans (k_137 a j h)
                have kn_141 : ∀ a j, ¬ WN_X3_readAsks Q a j → e_141.2 a j = N0 a j := fun a j h => (q_141.2 a j (by unfold WN_X3_step; unfold WN_X3_readAsks at h; omega)).trans (kn_64 a j h)
                exact ih_46 _ _ _ _ k_141 kn_141 (z_up1 f1_64 f0_64)
      intro x1_46 x2_46 M_46 N_46 k_46 kn_46 hm_46
      rw [D_X3_readAsks_46]
      refine vIf (fun h_48 => ?_) (fun h_48 => ?_)
      · exact T_150 _ _ _ k_46 kn_46
      · refine vIf (fun h_53 => ?_) (fun h_53 => ?_)
        · exact T_64 _ _ _ _ k_46 kn_46 hm_46 (by first | assumption | exact z_lt (by assumption) | exact z_lt2 (by assumption) | exact z_lt3 (by assumption) (by decide))
        · refine vIf (fun h_61 => ?_) (fun h_61 => ?_)
          · exact T_150 _ _ _ k_46 kn_46
          · exact T_64 _ _ _ _ k_46 kn_46 hm_46 (by first | assumption | exact z_lt (by assumption) | exact z_lt2 (by assumption) | exact z_lt3 (by assumption) (by decide))
  have T_46 : ∀ (x1_46 : Int32) (x2_46 : Int32) (M_46 : zMt) (N_46 : zNt), (∀ a j, ¬ WM_X3_readAsks Q a j → M_46 a j = M0 a j) → (∀ a j, ¬ WN_X3_readAsks Q a j → N_46 a j = N0 a j) → ∃ r, D_X3_readAsks_46 Q zFu x1_46 x2_46 M_46 N_46 = some r ∧ ((∀ a j, ¬ WM_X3_readAsks Q a j → r.2.1 a j = M0 a j) ∧ (∀ a j, ¬ WN_X3_readAsks Q a j → r.2.2 a j = N0 a j) ∧ (r.1 = 0 ∨ r.1 = 1)) := fun x1_46 x2_46 M_46 N_46 k_46 kn_46 => TL_46 zFu x1_46 x2_46 M_46 N_46 k_46 kn_46 (zFu_up _)
  unfold D_X3_readAsks
  refine vB (v_X3_step) (fun e_1 f_1 q_1 => ?_)
  have k_1 : ∀ a j, ¬ WM_X3_readAsks Q a j → e_1.1 a j = M0 a j := fun a j h => (q_1.1 a j (by unfold WM_X3_step; unfold WM_X3_readAsks at h; omega))
  have kn_1 : ∀ a j, ¬ WN_X3_readAsks Q a j → e_1.2 a j = N0 a j := fun a j h => (q_1.2 a j (by unfold WN_X3_step; unfold WN_X3_readAsks at h; omega))
  refine vB (v_X3_isName) (fun e_5 f_5 q_5 => ?_)
  have b_5 := q_5
  refine vIf (fun h_8 => ?_) (fun h_8 => ?_)
  · refine vB (v_X3_fail) (fun e_13 f_13 q_13 => ?_)
    have k_13 : ∀ a j, ¬ WM_X3_readAsks Q a j → e_13.2 a j = M0 a j := fun a j h => (q_13.1 a j (by unfold WM_X3_fail; unfold WM_X3_readAsks at h; omega)).trans (k_1 a j h)
    have b_13 := q_13.2
    exact ⟨_, rfl, k_13, kn_1, (by first | exact Or.inl rfl | exact Or.inr rfl | assumption)⟩
  · refine vB (v_X3_asker) (fun e_18 f_18 q_18 => ?_)
    refine vIf (fun h_23 => ?_) (fun h_23 => ?_)
    · refine vB (v_X3_fail) (fun e_28 f_28 q_28 => ?_)
      have k_28 : ∀ a j, ¬ WM_X3_readAsks Q a j → e_28.2 a j = M0 a j := fun a j h => (q_28.1 a j (by unfold WM_X3_fail; unfold WM_X3_readAsks at h; omega)).trans (k_1 a j h)
      have b_28 := q_28.2
      exact ⟨_, rfl, k_28, kn_1, (by first | exact Or.inl rfl | exact Or.inr rfl | assumption)⟩
    · refine vB (v_X3_step) (fun e_33 f_33 q_33 => ?_)
      have k_33 : ∀ a j, ¬ WM_X3_readAsks Q a j → e_33.1 a j = M0 a j := fun a j h => (q_33.1 a j (by unfold WM_X3_step; unfold WM_X3_readAsks at h; omega)).trans (k_1 a j h)
      have kn_33 : ∀ a j, ¬ WN_X3_readAsks Q a j → e_33.2 a j = N0 a j := fun a j h => (q_33.2 a j (by unfold WN_X3_step; unfold WN_X3_readAsks at h; omega)).trans (kn_1 a j h)
      refine vLm (W := WM_X3_readAsks Q) (fun a j h => (congrFun (zfil_row (by unfold WM_X3_readAsks at h; omega)) j).trans (k_33 a j h)) (fun M_41 f_41 k_41 => ?_)
      exact T_46 _ _ _ _ k_41 kn_33
