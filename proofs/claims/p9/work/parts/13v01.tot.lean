def WM_X3_endOfLine (Q : Nat) (a j : Nat) : Prop := (a = Q ∧ (j = 1 ∨ j = 2 ∨ j = 5 ∨ j = 6 ∨ j = 7 ∨ j = 9))
def WN_X3_endOfLine (Q : Nat) (a j : Nat) : Prop := (a = Q ∧ (j = 8))
set_option maxRecDepth 100000 in
set_option maxHeartbeats 4000000 in
theorem v_X3_endOfLine {Q : Nat}  {M0 : zMt} {N0 : zNt}  : ∃ r, D_X3_endOfLine Q M0 N0 = some r ∧ ((∀ a j, ¬ WM_X3_endOfLine Q a j → r.2.1 a j = M0 a j) ∧ (∀ a j, ¬ WN_X3_endOfLine Q a j → r.2.2 a j = N0 a j) ∧ (r.1 = 0 ∨ r.1 = 1)) := by
  unfold D_X3_endOfLine
  refine vIf (fun h_5 => ?_) (fun h_5 => ?_)
  · refine vB (v_X3_step) (fun e_15 f_15 q_15 => ?_)
    have k_15 : ∀ a j, ¬ WM_X3_endOfLine Q a j → e_15.1 a j = M0 a j := fun a j h => (q_15.1 a j (by unfold WM_X3_step; unfold WM_X3_endOfLine at h; omega))
    have kn_15 : ∀ a j, ¬ WN_X3_endOfLine Q a j → e_15.2 a j = N0 a j := fun a j h => (q_15.2 a j (by unfold WN_X3_step; unfold WN_X3_endOfLine at h; omega))
    exact ⟨_, rfl, k_15, kn_15, (by first | exact Or.inl rfl | exact Or.inr rfl | assumption)⟩
  · refine vB (v_X3_fail) (fun e_10 f_10 q_10 => ?_)
    have k_10 : ∀ a j, ¬ WM_X3_endOfLine Q a j → e_10.2 a j = M0 a j := fun a j h => (q_10.1 a j (by unfold WM_X3_fail; unfold WM_X3_endOfLine at h; omega))
    have b_10 := q_10.2
    exact ⟨_, rfl, k_10, (fun _ _ _ => rfl), (by first | exact Or.inl rfl | exact Or.inr rfl | assumption)⟩
def WM_X4_addUnit (Q : Nat) (a j : Nat) : Prop := (Q + 1 ≤ a ∧ a < Q + 2) ∨ (a = Q ∧ (j = 0))
set_option maxRecDepth 100000 in
set_option maxHeartbeats 4000000 in
theorem v_X4_addUnit {Q : Nat} {v0 : Int32} {M0 : zMt}  : ∃ r, D_X4_addUnit Q v0 M0 = some r ∧ ((∀ a j, ¬ WM_X4_addUnit Q a j → r a j = M0 a j)) := by
  unfold D_X4_addUnit
  refine vLm (W := WM_X4_addUnit Q) (fun a j h => (congrFun (zwr_row (by unfold WM_X4_addUnit at h; omega)) j)) (fun M_9 f_9 k_9 => ?_)
  refine vLm (W := WM_X4_addUnit Q) (fun a j h => (zu_ne (by unfold WM_X4_addUnit at h; omega)).trans (k_9 a j h)) (fun M_19 f_19 k_19 => ?_)
  exact ⟨_, rfl, k_19⟩
def WM_X3_readUnit (Q : Nat) (a j : Nat) : Prop := (Q + 2 ≤ a ∧ a < Q + 3) ∨ (a = Q ∧ (j = 1 ∨ j = 2 ∨ j = 5 ∨ j = 6 ∨ j = 7 ∨ j = 9)) ∨ (a = Q + 1 ∧ (j = 0))
def WN_X3_readUnit (Q : Nat) (a j : Nat) : Prop := (Q + 10 ≤ a ∧ a < Q + 11) ∨ (a = Q ∧ (j = 8 ∨ j = 10))
set_option maxRecDepth 100000 in
set_option maxHeartbeats 4000000 in
theorem v_X3_readUnit {Q : Nat}  {M0 : zMt} {N0 : zNt}  : ∃ r, D_X3_readUnit Q M0 N0 = some r ∧ ((∀ a j, ¬ WM_X3_readUnit Q a j → r.2.1 a j = M0 a j) ∧ (∀ a j, ¬ WN_X3_readUnit Q a j → r.2.2 a j = N0 a j) ∧ (r.1 = 0 ∨ r.1 = 1)) := by
  have T_29 : ∀ (M_29 : zMt) (N_29 : zNt), (∀ a j, ¬ WM_X3_readUnit Q a j → M_29 a j = M0 a j) → (∀ a j, ¬ WN_X3_readUnit Q a j → N_29 a j = N0 a j) → ∃ r, D_X3_readUnit_29 Q M_29 N_29 = some r ∧ ((∀ a j, ¬ WM_X3_readUnit Q a j → r.2.1 a j = M0 a j) ∧ (∀ a j, ¬ WN_X3_readUnit Q a j → r.2.2 a j = N0 a j) ∧ (r.1 = 0 ∨ r.1 = 1)) := by
    intro M_29 N_29 k_29 kn_29
    unfold D_X3_readUnit_29
    exact ⟨_, rfl, k_29, kn_29, (by first | exact Or.inl rfl | exact Or.inr rfl | assumption)⟩
  unfold D_X3_readUnit
  refine vB (v_X3_step) (fun e_1 f_1 q_1 => ?_)
  have k_1 : ∀ a j, ¬ WM_X3_readUnit Q a j → e_1.1 a j = M0 a j := fun a j h => (q_1.1 a j (by unfold WM_X3_step; unfold WM_X3_readUnit at h; omega))
  have kn_1 : ∀ a j, ¬ WN_X3_readUnit Q a j → e_1.2 a j = N0 a j := fun a j h => (q_1.2 a j (by unfold WN_X3_step; unfold WN_X3_readUnit at h; omega))
  refine vB (v_X3_readNewName) (fun e_5 f_5 q_5 => ?_)
  have k_5 : ∀ a j, ¬ WM_X3_readUnit Q a j → e_5.2.1 a j = M0 a j := fun a j h => (q_5.1 a j (by unfold WM_X3_readNewName; unfold WM_X3_readUnit at h; omega)).trans (k_1 a j h)
  have kn_5 : ∀ a j, ¬ WN_X3_readUnit Q a j → e_5.2.2 a j = N0 a j := fun a j h => (q_5.2.1 a j (by unfold WN_X3_readNewName; unfold WN_X3_readUnit at h; omega)).trans (kn_1 a j h)
  have b_5 := q_5.2.2
  refine vIf (fun h_8 => ?_) (fun h_8 => ?_)
  · exact ⟨_, rfl, k_5, kn_5, (by first | exact Or.inl rfl | exact Or.inr rfl | assumption)⟩
  · refine vB (v_X3_numberUpTo) (fun e_16 f_16 q_16 => ?_)
    have k_16 : ∀ a j, ¬ WM_X3_readUnit Q a j → e_16.2.1 a j = M0 a j := fun a j h => (q_16.1 a j (by unfold WM_X3_numberUpTo; unfold WM_X3_readUnit at h; omega)).trans (k_5 a j h)
    have kn_16 : ∀ a j, ¬ WN_X3_readUnit Q a j → e_16.2.2 a j = N0 a j := fun a j h => (q_16.2.1 a j (by unfold WN_X3_numberUpTo; unfold WN_X3_readUnit at h; omega)).trans (kn_5 a j h)
    have b_16 := q_16.2.2
    refine vIf (fun h_19 => ?_) (fun h_19 => ?_)
    · exact T_29 _ _ k_16 kn_16
    · refine vB (v_X3_endOfLine) (fun e_23 f_23 q_23 => ?_)
      have k_23 : ∀ a j, ¬ WM_X3_readUnit Q a j → e_23.2.1 a j = M0 a j := fun a j h => (q_23.1 a j (by unfold WM_X3_endOfLine; unfold WM_X3_readUnit at h; omega)).trans (k_16 a j h)
      have kn_23 : ∀ a j, ¬ WN_X3_readUnit Q a j → e_23.2.2 a j = N0 a j := fun a j h => (q_23.2.1 a j (by unfold WN_X3_endOfLine; unfold WN_X3_readUnit at h; omega)).trans (kn_16 a j h)
      have b_23 := q_23.2.2
      refine vIf (fun h_26 => ?_) (fun h_26 => ?_)
      · exact T_29 _ _ k_23 kn_23
      · refine vLn (W := WN_X3_readUnit Q) (fun a j h => (congrFun (zwr_row (by unfold WN_X3_readUnit at h; omega)) j).trans (kn_23 a j h)) (fun N_46 f_46 kn_46 => ?_)
        refine vB (v_X4_addUnit) (fun e_57 f_57 q_57 => ?_)
        have k_57 : ∀ a j, ¬ WM_X3_readUnit Q a j → e_57 a j = M0 a j := fun a j h => (q_57 a j (by unfold WM_X4_addUnit; unfold WM_X3_readUnit at h; omega)).trans (k_23 a j h)
        exact ⟨_, rfl, k_57, kn_46, (by first | exact Or.inl rfl | exact Or.inr rfl | assumption)⟩
def WM_X4_addHunter (Q : Nat) (a j : Nat) : Prop := (Q + 2 ≤ a ∧ a < Q + 4) ∨ (a = Q ∧ (j = 1))
set_option maxRecDepth 100000 in
set_option maxHeartbeats 4000000 in
theorem v_X4_addHunter {Q : Nat} {v0 : Int32} {v1 : Int32} {M0 : zMt} (bv1 : v1 = 0 ∨ v1 = 1) : ∃ r, D_X4_addHunter Q v0 v1 M0 = some r ∧ ((∀ a j, ¬ WM_X4_addHunter Q a j → r a j = M0 a j)) := by
  have T_29 : ∀ (y1_29 : Int32) (y2_29 : Int32) (M_29 : zMt), (∀ a j, ¬ WM_X4_addHunter Q a j → M_29 a j = M0 a j) → (y2_29 = 0 ∨ y2_29 = 1) → ∃ r, D_X4_addHunter_29 Q y1_29 y2_29 M_29 = some r ∧ ((∀ a j, ¬ WM_X4_addHunter Q a j → r a j = M0 a j)) := by
    intro y1_29 y2_29 M_29 k_29 f0_29
    unfold D_X4_addHunter_29
    refine vLm (W := WM_X4_addHunter Q) (fun a j h => (congrFun (zwr_row (by unfold WM_X4_addHunter at h; omega)) j).trans (k_29 a j h)) (fun M_29 f_29 k_29 => ?_)
    refine vLm (W := WM_X4_addHunter Q) (fun a j h => (zu_ne (by unfold WM_X4_addHunter at h; omega)).trans (k_29 a j h)) (fun M_39 f_39 k_39 => ?_)
    exact ⟨_, rfl, k_39⟩
  unfold D_X4_addHunter
  refine vLm (W := WM_X4_addHunter Q) (fun a j h => (congrFun (zwr_row (by unfold WM_X4_addHunter at h; omega)) j)) (fun M_9 f_9 k_9 => ?_)
  refine vIf (fun h_21 => ?_) (fun h_21 => ?_)
  · exact T_29 _ _ _ k_9 (by first | exact Or.inl rfl | exact Or.inr rfl | assumption)
  · exact T_29 _ _ _ k_9 (by first | exact Or.inl rfl | exact Or.inr rfl | assumption)
def WM_X3_readHunter (Q : Nat) (a j : Nat) : Prop := (Q + 3 ≤ a ∧ a < Q + 5) ∨ (a = Q ∧ (j = 1 ∨ j = 2 ∨ j = 5 ∨ j = 6 ∨ j = 7 ∨ j = 9)) ∨ (a = Q + 1 ∧ (j = 1))
def WN_X3_readHunter (Q : Nat) (a j : Nat) : Prop := (Q + 11 ≤ a ∧ a < Q + 12) ∨ (a = Q ∧ (j = 8 ∨ j = 10))
set_option maxRecDepth 100000 in
set_option maxHeartbeats 4000000 in
theorem v_X3_readHunter {Q : Nat}  {M0 : zMt} {N0 : zNt}  : ∃ r, D_X3_readHunter Q M0 N0 = some r ∧ ((∀ a j, ¬ WM_X3_readHunter Q a j → r.2.1 a j = M0 a j) ∧ (∀ a j, ¬ WN_X3_readHunter Q a j → r.2.2 a j = N0 a j) ∧ (r.1 = 0 ∨ r.1 = 1)) := by
  have T_39 : ∀ (x1_39 : Int32) (M_39 : zMt) (N_39 : zNt), (∀ a j, ¬ WM_X3_readHunter Q a j → M_39 a j = M0 a j) → (∀ a j, ¬ WN_X3_readHunter Q a j → N_39 a j = N0 a j) → (x1_39 = 0 ∨ x1_39 = 1) → ∃ r, D_X3_readHunter_39 Q x1_39 M_39 N_39 = some r ∧ ((∀ a j, ¬ WM_X3_readHunter Q a j → r.2.1 a j = M0 a j) ∧ (∀ a j, ¬ WN_X3_readHunter Q a j → r.2.2 a j = N0 a j) ∧ (r.1 = 0 ∨ r.1 = 1)) := by
    intro x1_39 M_39 N_39 k_39 kn_39 f0_39
    unfold D_X3_readHunter_39
    refine vB (v_X3_endOfLine) (fun e_40 f_40 q_40 => ?_)
    have k_40 : ∀ a j, ¬ WM_X3_readHunter Q a j → e_40.2.1 a j = M0 a j := fun a j h => (q_40.1 a j (by unfold WM_X3_endOfLine; unfold WM_X3_readHunter at h; omega)).trans (k_39 a j h)
    have kn_40 : ∀ a j, ¬ WN_X3_readHunter Q a j → e_40.2.2 a j = N0 a j := fun a j h => (q_40.2.1 a j (by unfold WN_X3_endOfLine; unfold WN_X3_readHunter at h; omega)).trans (kn_39 a j h)
    have b_40 := q_40.2.2
    refine vIf (fun h_43 => ?_) (fun h_43 => ?_)
    · exact ⟨_, rfl, k_40, kn_40, (by first | exact Or.inl rfl | exact Or.inr rfl | assumption)⟩
    · refine vLn (W := WN_X3_readHunter Q) (fun a j h => (congrFun (zwr_row (by unfold WN_X3_readHunter at h; omega)) j).trans (kn_40 a j h)) (fun N_63 f_63 kn_63 => ?_)
      refine vB (v_X4_addHunter (by first | exact Or.inl rfl | exact Or.inr rfl | assumption)) (fun e_75 f_75 q_75 => ?_)
      have k_75 : ∀ a j, ¬ WM_X3_readHunter Q a j → e_75 a j = M0 a j := fun a j h => (q_75 a j (by unfold WM_X4_addHunter; unfold WM_X3_readHunter at h; omega)).trans (k_40 a j h)
      exact ⟨_, rfl, k_75, kn_63, (by first | exact Or.inl rfl | exact Or.inr rfl | assumption)⟩
  unfold D_X3_readHunter
  refine vB (v_X3_step) (fun e_1 f_1 q_1 => ?_)
  have k_1 : ∀ a j, ¬ WM_X3_readHunter Q a j → e_1.1 a j = M0 a j := fun a j h => (q_1.1 a j (by unfold WM_X3_step; unfold WM_X3_readHunter at h; omega))
  have kn_1 : ∀ a j, ¬ WN_X3_readHunter Q a j → e_1.2 a j = N0 a j := fun a j h => (q_1.2 a j (by unfold WN_X3_step; unfold WN_X3_readHunter at h; omega))
  refine vB (v_X3_readNewName) (fun e_5 f_5 q_5 => ?_)
  have k_5 : ∀ a j, ¬ WM_X3_readHunter Q a j → e_5.2.1 a j = M0 a j := fun a j h => (q_5.1 a j (by unfold WM_X3_readNewName; unfold WM_X3_readHunter at h; omega)).trans (k_1 a j h)
  have kn_5 : ∀ a j, ¬ WN_X3_readHunter Q a j → e_5.2.2 a j = N0 a j := fun a j h => (q_5.2.1 a j (by unfold WN_X3_readNewName; unfold WN_X3_readHunter at h; omega)).trans (kn_1 a j h)
  have b_5 := q_5.2.2
  refine vIf (fun h_8 => ?_) (fun h_8 => ?_)
  · exact ⟨_, rfl, k_5, kn_5, (by first | exact Or.inl rfl | exact Or.inr rfl | assumption)⟩
  · refine vB (v_X3_numberUpTo) (fun e_16 f_16 q_16 => ?_)
    have k_16 : ∀ a j, ¬ WM_X3_readHunter Q a j → e_16.2.1 a j = M0 a j := fun a j h => (q_16.1 a j (by unfold WM_X3_numberUpTo; unfold WM_X3_readHunter at h; omega)).trans (k_5 a j h)
    have kn_16 : ∀ a j, ¬ WN_X3_readHunter Q a j → e_16.2.2 a j = N0 a j := fun a j h => (q_16.2.1 a j (by unfold WN_X3_numberUpTo; unfold WN_X3_readHunter at h; omega)).trans (kn_5 a j h)
    have b_16 := q_16.2.2
    refine vIf (fun h_19 => ?_) (fun h_19 => ?_)
    · exact ⟨_, rfl, k_16, kn_16, (by first | exact Or.inl rfl | exact Or.inr rfl | assumption)⟩
    · refine vB (v_X3_says (by first | assumption | decide)) (fun e_27 f_27 q_27 => ?_)
      have b_27 := q_27
      refine vIf (fun h_32 => ?_) (fun h_32 => ?_)
      · exact T_39 _ _ _ k_16 kn_16 (by first | exact Or.inl rfl | exact Or.inr rfl | assumption)
      · refine vB (v_X3_step) (fun e_36 f_36 q_36 => ?_)
        have k_36 : ∀ a j, ¬ WM_X3_readHunter Q a j → e_36.1 a j = M0 a j := fun a j h => (q_36.1 a j (by unfold WM_X3_step; unfold WM_X3_readHunter at h; omega)).trans (k_16 a j h)
        have kn_36 : ∀ a j, ¬ WN_X3_readHunter Q a j → e_36.2 a j = N0 a j := fun a j h => (q_36.2 a j (by unfold WN_X3_step; unfold WN_X3_readHunter at h; omega)).trans (kn_16 a j h)
        exact T_39 _ _ _ k_36 kn_36 (by first | exact Or.inl rfl | exact Or.inr rfl | assumption)
set_option maxRecDepth 100000 in
set_option maxHeartbeats 4000000 in
theorem v_X3_isFree {Q : Nat} {M : zMt} {v0 : Int32}  : ∃ r, D_X3_isFree Q M v0 = some r ∧ ((r = 0 ∨ r = 1)) := by
  have T_39 : ∀ (y0_39 : Int32), (y0_39 = 0 ∨ y0_39 = 1) → ∃ r, D_X3_isFree_39 Q M y0_39 = some r ∧ ((r = 0 ∨ r = 1)) := by
    intro y0_39 f0_39
    unfold D_X3_isFree_39
    exact ⟨_, rfl, (by first | exact Or.inl rfl | exact Or.inr rfl | assumption)⟩
  have T_38 : ∃ r, D_X3_isFree_38 Q M = some r ∧ ((r = 0 ∨ r = 1)) := by
    unfold D_X3_isFree_38
    exact T_39 _ (by first | exact Or.inl rfl | exact Or.inr rfl | assumption)
  unfold D_X3_isFree
  refine vIf (fun h_2 => ?_) (fun h_2 => ?_)
  · exact T_38
  · refine vIf (fun h_17 => ?_) (fun h_17 => ?_)
    · refine vIf (fun h_31 => ?_) (fun h_31 => ?_)
      · exact T_39 _ (by first | exact Or.inl rfl | exact Or.inr rfl | assumption)
      · exact T_38
    · exact T_38
def WM_X4_addParty (Q : Nat) (a j : Nat) : Prop := (Q + 4 ≤ a ∧ a < Q + 5) ∨ (a = Q ∧ (j = 2))
set_option maxRecDepth 100000 in
set_option maxHeartbeats 4000000 in
theorem v_X4_addParty {Q : Nat} {v0 : Int32} {M0 : zMt}  : ∃ r, D_X4_addParty Q v0 M0 = some r ∧ ((∀ a j, ¬ WM_X4_addParty Q a j → r a j = M0 a j)) := by
  have TL_2 : ∀ u : Nat, ∀ (x1_2 : Int32) (x2_2 : Int32) (M_2 : zMt), (∀ a j, ¬ WM_X4_addParty Q a j → M_2 a j = M0 a j) → (2147483648 - Int32.toInt x2_2).toNat < u → ∃ r, D_X4_addParty_2 Q u x1_2 x2_2 M_2 = some r ∧ ((∀ a j, ¬ WM_X4_addParty Q a j → r a j = M0 a j)) := by
    intro u
    induction u with
    | zero => intro x1_2 x2_2 M_2 k_2 hm_2; exact absurd hm_2 (Nat.not_lt_zero _)
    | succ u_2 ih_2 =>
      have T_31 : ∀ (x1_31 : Int32) (x2_31 : Int32) (M_31 : zMt), (∀ a j, ¬ WM_X4_addParty Q a j → M_31 a j = M0 a j) → ((2147483648 - Int32.toInt x2_31).toNat < u_2 + 1) → (Int32.toInt x2_31 < 2147483647) → ∃ r, D_X4_addParty_31 Q (D_X4_addParty_2 Q u_2) x1_31 x2_31 M_31 = some r ∧ ((∀ a j, ¬ WM_X4_addParty Q a j → r a j = M0 a j)) := by
        intro x1_31 x2_31 M_31 k_31 f0_31 f1_31
        unfold D_X4_addParty_31
        exact ih_2 _ _ _ k_31 (z_up1 f1_31 f0_31)
      intro x1_2 x2_2 M_2 k_2 hm_2
      rw [D_X4_addParty_2]
      refine vIf (fun h_7 => ?_) (fun h_7 => ?_)
      · refine vLm (W := WM_X4_addParty Q) (fun a j h => (zu_ne (by unfold WM_X4_addParty at h; omega)).trans (k_2 a j h)) (fun M_44 f_44 k_44 => ?_)
        exact ⟨_, rfl, k_44⟩
      · refine vIf (fun h_16 => ?_) (fun h_16 => ?_)
        · refine vLm (W := WM_X4_addParty Q) (fun a j h => (congrFun (zwr_row (by unfold WM_X4_addParty at h; omega)) j).trans (k_2 a j h)) (fun M_28 f_28 k_28 => ?_)
          exact T_31 _ _ _ k_28 hm_2 (by first | assumption | exact z_lt (by assumption) | exact z_lt2 (by assumption) | exact z_lt3 (by assumption) (by first | assumption | decide))
        · exact T_31 _ _ _ k_2 hm_2 (by first | assumption | exact z_lt (by assumption) | exact z_lt2 (by assumption) | exact z_lt3 (by assumption) (by first | assumption | decide))
  have T_2 : ∀ (x1_2 : Int32) (x2_2 : Int32) (M_2 : zMt), (∀ a j, ¬ WM_X4_addParty Q a j → M_2 a j = M0 a j) → ∃ r, D_X4_addParty_2 Q zFu x1_2 x2_2 M_2 = some r ∧ ((∀ a j, ¬ WM_X4_addParty Q a j → r a j = M0 a j)) := fun x1_2 x2_2 M_2 k_2 => TL_2 zFu x1_2 x2_2 M_2 k_2 (zFu_up _)
  unfold D_X4_addParty
  exact T_2 _ _ _ (fun _ _ _ => rfl)
def WM_X3_readParty (Q : Nat) (a j : Nat) : Prop := (Q + 5 ≤ a ∧ a < Q + 6) ∨ (a = Q ∧ (j = 1 ∨ j = 2 ∨ j = 5 ∨ j = 6 ∨ j = 7 ∨ j = 9)) ∨ (a = Q + 1 ∧ (j = 2))
def WN_X3_readParty (Q : Nat) (a j : Nat) : Prop := (Q + 12 ≤ a ∧ a < Q + 13) ∨ (a = Q ∧ (j = 8 ∨ j = 10))
set_option maxRecDepth 100000 in
set_option maxHeartbeats 4000000 in
theorem v_X3_readParty {Q : Nat}  {M0 : zMt} {N0 : zNt}  : ∃ r, D_X3_readParty Q M0 N0 = some r ∧ ((∀ a j, ¬ WM_X3_readParty Q a j → r.2.1 a j = M0 a j) ∧ (∀ a j, ¬ WN_X3_readParty Q a j → r.2.2 a j = N0 a j) ∧ (r.1 = 0 ∨ r.1 = 1)) := by
  have T_106 : ∀ (x1_106 : Int32) (M_106 : zMt) (N_106 : zNt), (∀ a j, ¬ WM_X3_readParty Q a j → M_106 a j = M0 a j) → (∀ a j, ¬ WN_X3_readParty Q a j → N_106 a j = N0 a j) → ∃ r, D_X3_readParty_106 Q x1_106 M_106 N_106 = some r ∧ ((∀ a j, ¬ WM_X3_readParty Q a j → r.2.1 a j = M0 a j) ∧ (∀ a j, ¬ WN_X3_readParty Q a j → r.2.2 a j = N0 a j) ∧ (r.1 = 0 ∨ r.1 = 1)) := by
    intro x1_106 M_106 N_106 k_106 kn_106
    unfold D_X3_readParty_106
    refine vB (v_X3_endOfLine) (fun e_107 f_107 q_107 => ?_)
    have k_107 : ∀ a j, ¬ WM_X3_readParty Q a j → e_107.2.1 a j = M0 a j := fun a j h => (q_107.1 a j (by unfold WM_X3_endOfLine; unfold WM_X3_readParty at h; omega)).trans (k_106 a j h)
    have kn_107 : ∀ a j, ¬ WN_X3_readParty Q a j → e_107.2.2 a j = N0 a j := fun a j h => (q_107.2.1 a j (by unfold WN_X3_endOfLine; unfold WN_X3_readParty at h; omega)).trans (kn_106 a j h)
    have b_107 := q_107.2.2
    refine vIf (fun h_110 => ?_) (fun h_110 => ?_)
    · exact ⟨_, rfl, k_107, kn_107, (by first | exact Or.inl rfl | exact Or.inr rfl | assumption)⟩
    · refine vLn (W := WN_X3_readParty Q) (fun a j h => (congrFun (zwr_row (by unfold WN_X3_readParty at h; omega)) j).trans (kn_107 a j h)) (fun N_130 f_130 kn_130 => ?_)
      refine vB (v_X4_addParty) (fun e_138 f_138 q_138 => ?_)
      have k_138 : ∀ a j, ¬ WM_X3_readParty Q a j → e_138 a j = M0 a j := fun a j h => (q_138 a j (by unfold WM_X4_addParty; unfold WM_X3_readParty at h; omega)).trans (k_107 a j h)
      exact ⟨_, rfl, k_138, kn_130, (by first | exact Or.inl rfl | exact Or.inr rfl | assumption)⟩
  have T_84 : ∀ (M_84 : zMt) (N_84 : zNt), (∀ a j, ¬ WM_X3_readParty Q a j → M_84 a j = M0 a j) → (∀ a j, ¬ WN_X3_readParty Q a j → N_84 a j = N0 a j) → ∃ r, D_X3_readParty_84 Q M_84 N_84 = some r ∧ ((∀ a j, ¬ WM_X3_readParty Q a j → r.2.1 a j = M0 a j) ∧ (∀ a j, ¬ WN_X3_readParty Q a j → r.2.2 a j = N0 a j) ∧ (r.1 = 0 ∨ r.1 = 1)) := by
    intro M_84 N_84 k_84 kn_84
    unfold D_X3_readParty_84
    refine vB (v_X3_fail) (fun e_86 f_86 q_86 => ?_)
    have k_86 : ∀ a j, ¬ WM_X3_readParty Q a j → e_86.2 a j = M0 a j := fun a j h => (q_86.1 a j (by unfold WM_X3_fail; unfold WM_X3_readParty at h; omega)).trans (k_84 a j h)
    have b_86 := q_86.2
    exact ⟨_, rfl, k_86, kn_84, (by first | exact Or.inl rfl | exact Or.inr rfl | assumption)⟩
  have TL_17 : ∀ u : Nat, ∀ (x1_17 : Int32) (x2_17 : Int32) (M_17 : zMt) (N_17 : zNt), (∀ a j, ¬ WM_X3_readParty Q a j → M_17 a j = M0 a j) → (∀ a j, ¬ WN_X3_readParty Q a j → N_17 a j = N0 a j) → (2147483648 - Int32.toInt x2_17).toNat < u → ∃ r, D_X3_readParty_17 Q u x1_17 x2_17 M_17 N_17 = some r ∧ ((∀ a j, ¬ WM_X3_readParty Q a j → r.2.1 a j = M0 a j) ∧ (∀ a j, ¬ WN_X3_readParty Q a j → r.2.2 a j = N0 a j) ∧ (r.1 = 0 ∨ r.1 = 1)) := by
    intro u
    induction u with
    | zero => intro x1_17 x2_17 M_17 N_17 k_17 kn_17 hm_17; exact absurd hm_17 (Nat.not_lt_zero _)
    | succ u_17 ih_17 =>
      have T_35 : ∀ (x1_35 : Int32) (x2_35 : Int32) (M_35 : zMt) (N_35 : zNt), (∀ a j, ¬ WM_X3_readParty Q a j → M_35 a j = M0 a j) → (∀ a j, ¬ WN_X3_readParty Q a j → N_35 a j = N0 a j) → ((2147483648 - Int32.toInt x2_35).toNat < u_17 + 1) → (Int32.toInt x2_35 < 2147483647) → ∃ r, D_X3_readParty_35 Q (D_X3_readParty_17 Q u_17) x1_35 x2_35 M_35 N_35 = some r ∧ ((∀ a j, ¬ WM_X3_readParty Q a j → r.2.1 a j = M0 a j) ∧ (∀ a j, ¬ WN_X3_readParty Q a j → r.2.2 a j = N0 a j) ∧ (r.1 = 0 ∨ r.1 = 1)) := by
        intro x1_35 x2_35 M_35 N_35 k_35 kn_35 f0_35 f1_35
        unfold D_X3_readParty_35
        refine vB (v_X3_isName) (fun e_36 f_36 q_36 => ?_)
        have b_36 := q_36
        refine vIf (fun h_39 => ?_) (fun h_39 => ?_)
        · refine vB (v_X3_fail) (fun e_44 f_44 q_44 => ?_)
          have k_44 : ∀ a j, ¬ WM_X3_readParty Q a j → e_44.2 a j = M0 a j := fun a j h => (q_44.1 a j (by unfold WM_X3_fail; unfold WM_X3_readParty at h; omega)).trans (k_35 a j h)
          have b_44 := q_44.2
          exact ⟨_, rfl, k_44, kn_35, (by first | exact Or.inl rfl | exact Or.inr rfl | assumption)⟩
        · refine vB (v_X3_find) (fun e_63 f_63 q_63 => ?_)
          refine vB (v_X3_isFree) (fun e_69 f_69 q_69 => ?_)
          have b_69 := q_69
          refine vIf (fun h_72 => ?_) (fun h_72 => ?_)
          · exact T_84 _ _ k_35 kn_35
          · refine vIf (fun h_81 => ?_) (fun h_81 => ?_)
            · exact T_84 _ _ k_35 kn_35
            · refine vB (v_X3_step) (fun e_97 f_97 q_97 => ?_)
              have k_97 : ∀ a j, ¬ WM_X3_readParty Q a j → e_97.1 a j = M0 a j := fun a j h => (q_97.1 a j (by unfold WM_X3_step; unfold WM_X3_readParty at h; omega)).trans (k_35 a j h)
              have kn_97 : ∀ a j, ¬ WN_X3_readParty Q a j → e_97.2 a j = N0 a j := fun a j h => (q_97.2 a j (by unfold WN_X3_step; unfold WN_X3_readParty at h; omega)).trans (kn_35 a j h)
              exact ih_17 _ _ _ _ k_97 kn_97 (z_up1 f1_35 f0_35)
      intro x1_17 x2_17 M_17 N_17 k_17 kn_17 hm_17
      rw [D_X3_readParty_17]
      refine vIf (fun h_19 => ?_) (fun h_19 => ?_)
      · exact T_106 _ _ _ k_17 kn_17
      · refine vIf (fun h_24 => ?_) (fun h_24 => ?_)
        · exact T_35 _ _ _ _ k_17 kn_17 hm_17 (by first | assumption | exact z_lt (by assumption) | exact z_lt2 (by assumption) | exact z_lt3 (by assumption) (by first | assumption | decide))
        · refine vIf (fun h_32 => ?_) (fun h_32 => ?_)
          · exact T_106 _ _ _ k_17 kn_17
          · exact T_35 _ _ _ _ k_17 kn_17 hm_17 (by first | assumption | exact z_lt (by assumption) | exact z_lt2 (by assumption) | exact z_lt3 (by assumption) (by first | assumption | decide))
  have T_17 : ∀ (x1_17 : Int32) (x2_17 : Int32) (M_17 : zMt) (N_17 : zNt), (∀ a j, ¬ WM_X3_readParty Q a j → M_17 a j = M0 a j) → (∀ a j, ¬ WN_X3_readParty Q a j → N_17 a j = N0 a j) → ∃ r, D_X3_readParty_17 Q zFu x1_17 x2_17 M_17 N_17 = some r ∧ ((∀ a j, ¬ WM_X3_readParty Q a j → r.2.1 a j = M0 a j) ∧ (∀ a j, ¬ WN_X3_readParty Q a j → r.2.2 a j = N0 a j) ∧ (r.1 = 0 ∨ r.1 = 1)) := fun x1_17 x2_17 M_17 N_17 k_17 kn_17 => TL_17 zFu x1_17 x2_17 M_17 N_17 k_17 kn_17 (zFu_up _)
  unfold D_X3_readParty
  refine vB (v_X3_step) (fun e_1 f_1 q_1 => ?_)
  have k_1 : ∀ a j, ¬ WM_X3_readParty Q a j → e_1.1 a j = M0 a j := fun a j h => (q_1.1 a j (by unfold WM_X3_step; unfold WM_X3_readParty at h; omega))
  have kn_1 : ∀ a j, ¬ WN_X3_readParty Q a j → e_1.2 a j = N0 a j := fun a j h => (q_1.2 a j (by unfold WN_X3_step; unfold WN_X3_readParty at h; omega))
  refine vB (v_X3_readNewName) (fun e_5 f_5 q_5 => ?_)
  have k_5 : ∀ a j, ¬ WM_X3_readParty Q a j → e_5.2.1 a j = M0 a j := fun a j h => (q_5.1 a j (by unfold WM_X3_readNewName; unfold WM_X3_readParty at h; omega)).trans (k_1 a j h)
  have kn_5 : ∀ a j, ¬ WN_X3_readParty Q a j → e_5.2.2 a j = N0 a j := fun a j h => (q_5.2.1 a j (by unfold WN_X3_readNewName; unfold WN_X3_readParty at h; omega)).trans (kn_1 a j h)
  have b_5 := q_5.2.2
  refine vIf (fun h_8 => ?_) (fun h_8 => ?_)
  · exact ⟨_, rfl, k_5, kn_5, (by first | exact Or.inl rfl | exact Or.inr rfl | assumption)⟩
  · exact T_17 _ _ _ _ k_5 kn_5
set_option maxRecDepth 100000 in
set_option maxHeartbeats 4000000 in
theorem v_X3_asker {Q : Nat} {M : zMt} {N : zNt}   : ∃ r, D_X3_asker Q M N = some r ∧ (True) := by
  have T_116 : ∀ (x3_116 : Int32), ∃ r, D_X3_asker_116 Q M N x3_116 = some r ∧ (True) := by
    intro x3_116
    unfold D_X3_asker_116
    exact ⟨_, rfl, trivial⟩
  have TL_55 : ∀ u : Nat, ∀ (x2_55 : Int32) (x3_55 : Int32) (x4_55 : Int32), (2147483648 - Int32.toInt x4_55).toNat < u → ∃ r, D_X3_asker_55 Q M N u x2_55 x3_55 x4_55 = some r ∧ (True) := by
    intro u
    induction u with
    | zero => intro x2_55 x3_55 x4_55 hm_55; exact absurd hm_55 (Nat.not_lt_zero _)
    | succ u_55 ih_55 =>
      have T_110 : ∀ (x2_110 : Int32) (x3_110 : Int32) (x4_110 : Int32), ((2147483648 - Int32.toInt x4_110).toNat < u_55 + 1) → (Int32.toInt x4_110 < 2147483647) → ∃ r, D_X3_asker_110 Q M N (D_X3_asker_55 Q M N u_55) x2_110 x3_110 x4_110 = some r ∧ (True) := by
        intro x2_110 x3_110 x4_110 f0_110 f1_110
        unfold D_X3_asker_110
        exact ih_55 _ _ _ (z_up1 f1_110 f0_110)
      intro x2_55 x3_55 x4_55 hm_55
      rw [D_X3_asker_55]
      refine vIf (fun h_57 => ?_) (fun h_57 => ?_)
      · exact T_116 _
      · refine vIf (fun h_69 => ?_) (fun h_69 => ?_)
        · exact T_116 _
        · refine vIf (fun h_85 => ?_) (fun h_85 => ?_)
          · refine vIf (fun h_100 => ?_) (fun h_100 => ?_)
            · exact T_110 _ _ _ hm_55 (by first | assumption | exact z_lt (by assumption) | exact z_lt2 (by assumption) | exact z_lt3 (by assumption) (by first | assumption | decide))
            · exact T_110 _ _ _ hm_55 (by first | assumption | exact z_lt (by assumption) | exact z_lt2 (by assumption) | exact z_lt3 (by assumption) (by first | assumption | decide))
          · exact T_110 _ _ _ hm_55 (by first | assumption | exact z_lt (by assumption) | exact z_lt2 (by assumption) | exact z_lt3 (by assumption) (by first | assumption | decide))
  have T_55 : ∀ (x2_55 : Int32) (x3_55 : Int32) (x4_55 : Int32), ∃ r, D_X3_asker_55 Q M N zFu x2_55 x3_55 x4_55 = some r ∧ (True) := fun x2_55 x3_55 x4_55 => TL_55 zFu x2_55 x3_55 x4_55 (zFu_up _)
  unfold D_X3_asker
  refine vB (v_X3_find) (fun e_15 f_15 q_15 => ?_)
  refine vB (v_X3_isFree) (fun e_21 f_21 q_21 => ?_)
  have b_21 := q_21
  refine vIf (fun h_24 => ?_) (fun h_24 => ?_)
  · refine vB (v_X3_find) (fun e_46 f_46 q_46 => ?_)
    exact T_55 _ _ _
  · exact ⟨_, rfl, trivial⟩
def WM_X4_wishFor (Q : Nat) (a j : Nat) : Prop := (Q + 5 ≤ a ∧ a < Q + 7)
set_option maxRecDepth 100000 in
set_option maxHeartbeats 4000000 in
theorem v_X4_wishFor {Q : Nat} {v0 : Int32} {v1 : Int32} {v2 : Int32} {v3 : Int32} {M0 : zMt}  : ∃ r, D_X4_wishFor Q v0 v1 v2 v3 M0 = some r ∧ ((∀ a j, ¬ WM_X4_wishFor Q a j → r a j = M0 a j)) := by
  have TL_38 : ∀ u : Nat, ∀ (x1_38 : Int32) (x2_38 : Int32) (x3_38 : Int32) (x4_38 : Int32) (x5_38 : Int32) (x6_38 : Int32) (M_38 : zMt), (∀ a j, ¬ WM_X4_wishFor Q a j → M_38 a j = M0 a j) → (2147483648 - Int32.toInt x6_38).toNat < u → ∃ r, D_X4_wishFor_38 Q u x1_38 x2_38 x3_38 x4_38 x5_38 x6_38 M_38 = some r ∧ ((∀ a j, ¬ WM_X4_wishFor Q a j → r a j = M0 a j)) := by
    intro u
    induction u with
    | zero => intro x1_38 x2_38 x3_38 x4_38 x5_38 x6_38 M_38 k_38 hm_38; exact absurd hm_38 (Nat.not_lt_zero _)
    | succ u_38 ih_38 =>
      have T_109 : ∀ (x1_109 : Int32) (x2_109 : Int32) (x3_109 : Int32) (x4_109 : Int32) (x5_109 : Int32) (x6_109 : Int32) (M_109 : zMt), (∀ a j, ¬ WM_X4_wishFor Q a j → M_109 a j = M0 a j) → ((2147483648 - Int32.toInt x6_109).toNat < u_38 + 1) → (Int32.toInt x6_109 < 2147483647) → ∃ r, D_X4_wishFor_109 Q (D_X4_wishFor_38 Q u_38) x1_109 x2_109 x3_109 x4_109 x5_109 x6_109 M_109 = some r ∧ ((∀ a j, ¬ WM_X4_wishFor Q a j → r a j = M0 a j)) := by
        intro x1_109 x2_109 x3_109 x4_109 x5_109 x6_109 M_109 k_109 f0_109 f1_109
        unfold D_X4_wishFor_109
        exact ih_38 _ _ _ _ _ _ _ k_109 (z_up1 f1_109 f0_109)
      intro x1_38 x2_38 x3_38 x4_38 x5_38 x6_38 M_38 k_38 hm_38
      rw [D_X4_wishFor_38]
      refine vIf (fun h_44 => ?_) (fun h_44 => ?_)
      · exact ⟨_, rfl, k_38⟩
      · refine vIf (fun h_54 => ?_) (fun h_54 => ?_)
        · refine vLm (W := WM_X4_wishFor Q) (fun a j h => (congrFun (zwr_row (by unfold WM_X4_wishFor at h; omega)) j).trans (k_38 a j h)) (fun M_65 f_65 k_65 => ?_)
          refine vLm (W := WM_X4_wishFor Q) (fun a j h => (congrFun (zwr_row (by unfold WM_X4_wishFor at h; omega)) j).trans (k_65 a j h)) (fun M_77 f_77 k_77 => ?_)
          refine vLm (W := WM_X4_wishFor Q) (fun a j h => (congrFun (zwr_row (by unfold WM_X4_wishFor at h; omega)) j).trans (k_77 a j h)) (fun M_91 f_91 k_91 => ?_)
          refine vLm (W := WM_X4_wishFor Q) (fun a j h => (congrFun (zwr_row (by unfold WM_X4_wishFor at h; omega)) j).trans (k_91 a j h)) (fun M_106 f_106 k_106 => ?_)
          exact T_109 _ _ _ _ _ _ _ k_106 hm_38 (by first | assumption | exact z_lt (by assumption) | exact z_lt2 (by assumption) | exact z_lt3 (by assumption) (by first | assumption | decide))
        · exact T_109 _ _ _ _ _ _ _ k_38 hm_38 (by first | assumption | exact z_lt (by assumption) | exact z_lt2 (by assumption) | exact z_lt3 (by assumption) (by first | assumption | decide))
  have T_38 : ∀ (x1_38 : Int32) (x2_38 : Int32) (x3_38 : Int32) (x4_38 : Int32) (x5_38 : Int32) (x6_38 : Int32) (M_38 : zMt), (∀ a j, ¬ WM_X4_wishFor Q a j → M_38 a j = M0 a j) → ∃ r, D_X4_wishFor_38 Q zFu x1_38 x2_38 x3_38 x4_38 x5_38 x6_38 M_38 = some r ∧ ((∀ a j, ¬ WM_X4_wishFor Q a j → r a j = M0 a j)) := fun x1_38 x2_38 x3_38 x4_38 x5_38 x6_38 M_38 k_38 => TL_38 zFu x1_38 x2_38 x3_38 x4_38 x5_38 x6_38 M_38 k_38 (zFu_up _)
  have T_32 : ∀ (x1_32 : Int32) (x2_32 : Int32) (x3_32 : Int32) (x4_32 : Int32) (y0_32 : Int32) (y1_32 : Int32) (M_32 : zMt), (∀ a j, ¬ WM_X4_wishFor Q a j → M_32 a j = M0 a j) → (y1_32 = 0 ∨ y1_32 = 1) → ∃ r, D_X4_wishFor_32 Q x1_32 x2_32 x3_32 x4_32 y0_32 y1_32 M_32 = some r ∧ ((∀ a j, ¬ WM_X4_wishFor Q a j → r a j = M0 a j)) := by
    intro x1_32 x2_32 x3_32 x4_32 y0_32 y1_32 M_32 k_32 f0_32
    unfold D_X4_wishFor_32
    exact T_38 _ _ _ _ _ _ _ k_32
  have T_20 : ∀ (x1_20 : Int32) (x2_20 : Int32) (x3_20 : Int32) (x4_20 : Int32) (y0_20 : Int32) (y1_20 : Int32) (M_20 : zMt), (∀ a j, ¬ WM_X4_wishFor Q a j → M_20 a j = M0 a j) → (y0_20 = 0 ∨ y0_20 = 1) → (y1_20 = 0 ∨ y1_20 = 1) → ∃ r, D_X4_wishFor_20 Q x1_20 x2_20 x3_20 x4_20 y0_20 y1_20 M_20 = some r ∧ ((∀ a j, ¬ WM_X4_wishFor Q a j → r a j = M0 a j)) := by
    intro x1_20 x2_20 x3_20 x4_20 y0_20 y1_20 M_20 k_20 f0_20 f1_20
    unfold D_X4_wishFor_20
    refine vIf (fun h_24 => ?_) (fun h_24 => ?_)
    · exact T_32 _ _ _ _ _ _ _ k_20 (by first | exact Or.inl rfl | exact Or.inr rfl | assumption)
    · exact T_32 _ _ _ _ _ _ _ k_20 (by first | exact Or.inl rfl | exact Or.inr rfl | assumption)
  have T_10 : ∀ (x1_10 : Int32) (x2_10 : Int32) (x3_10 : Int32) (x4_10 : Int32) (y0_10 : Int32) (M_10 : zMt), (∀ a j, ¬ WM_X4_wishFor Q a j → M_10 a j = M0 a j) → (y0_10 = 0 ∨ y0_10 = 1) → ∃ r, D_X4_wishFor_10 Q x1_10 x2_10 x3_10 x4_10 y0_10 M_10 = some r ∧ ((∀ a j, ¬ WM_X4_wishFor Q a j → r a j = M0 a j)) := by
    intro x1_10 x2_10 x3_10 x4_10 y0_10 M_10 k_10 f0_10
    unfold D_X4_wishFor_10
    refine vIf (fun h_12 => ?_) (fun h_12 => ?_)
    · exact T_20 _ _ _ _ _ _ _ k_10 (by first | exact Or.inl rfl | exact Or.inr rfl | assumption) (by first | exact Or.inl rfl | exact Or.inr rfl | assumption)
    · exact T_20 _ _ _ _ _ _ _ k_10 (by first | exact Or.inl rfl | exact Or.inr rfl | assumption) (by first | exact Or.inl rfl | exact Or.inr rfl | assumption)
  unfold D_X4_wishFor
  refine vIf (fun h_2 => ?_) (fun h_2 => ?_)
  · exact T_10 _ _ _ _ _ _ (fun _ _ _ => rfl) (by first | exact Or.inl rfl | exact Or.inr rfl | assumption)
  · exact T_10 _ _ _ _ _ _ (fun _ _ _ => rfl) (by first | exact Or.inl rfl | exact Or.inr rfl | assumption)
def WM_X3_readAsks (Q : Nat) (a j : Nat) : Prop := (Q + 6 ≤ a ∧ a < Q + 8) ∨ (Q + 13 ≤ a ∧ a < Q + 14) ∨ (a = Q ∧ (j = 1 ∨ j = 2 ∨ j = 5 ∨ j = 6 ∨ j = 7 ∨ j = 9))
def WN_X3_readAsks (Q : Nat) (a j : Nat) : Prop := (a = Q ∧ (j = 8))
set_option maxRecDepth 100000 in
set_option maxHeartbeats 4000000 in
theorem v_X3_readAsks {Q : Nat}  {M0 : zMt} {N0 : zNt}  : ∃ r, D_X3_readAsks Q M0 N0 = some r ∧ ((∀ a j, ¬ WM_X3_readAsks Q a j → r.2.1 a j = M0 a j) ∧ (∀ a j, ¬ WN_X3_readAsks Q a j → r.2.2 a j = N0 a j) ∧ (r.1 = 0 ∨ r.1 = 1)) := by
  have T_150 : ∀ (x1_150 : Int32) (M_150 : zMt) (N_150 : zNt), (∀ a j, ¬ WM_X3_readAsks Q a j → M_150 a j = M0 a j) → (∀ a j, ¬ WN_X3_readAsks Q a j → N_150 a j = N0 a j) → ∃ r, D_X3_readAsks_150 Q x1_150 M_150 N_150 = some r ∧ ((∀ a j, ¬ WM_X3_readAsks Q a j → r.2.1 a j = M0 a j) ∧ (∀ a j, ¬ WN_X3_readAsks Q a j → r.2.2 a j = N0 a j) ∧ (r.1 = 0 ∨ r.1 = 1)) := by
    intro x1_150 M_150 N_150 k_150 kn_150
    unfold D_X3_readAsks_150
    refine vB (v_X3_endOfLine) (fun e_151 f_151 q_151 => ?_)
    have k_151 : ∀ a j, ¬ WM_X3_readAsks Q a j → e_151.2.1 a j = M0 a j := fun a j h => (q_151.1 a j (by unfold WM_X3_endOfLine; unfold WM_X3_readAsks at h; omega)).trans (k_150 a j h)
    have kn_151 : ∀ a j, ¬ WN_X3_readAsks Q a j → e_151.2.2 a j = N0 a j := fun a j h => (q_151.2.1 a j (by unfold WN_X3_endOfLine; unfold WN_X3_readAsks at h; omega)).trans (kn_150 a j h)
    have b_151 := q_151.2.2
    refine vIf (fun h_154 => ?_) (fun h_154 => ?_)
    · exact ⟨_, rfl, k_151, kn_151, (by first | exact Or.inl rfl | exact Or.inr rfl | assumption)⟩
    · refine vB (v_X4_wishFor) (fun e_188 f_188 q_188 => ?_)
      have k_188 : ∀ a j, ¬ WM_X3_readAsks Q a j → e_188 a j = M0 a j := fun a j h => (q_188 a j (by unfold WM_X4_wishFor; unfold WM_X3_readAsks at h; omega)).trans (k_151 a j h)
      exact ⟨_, rfl, k_188, kn_151, (by first | exact Or.inl rfl | exact Or.inr rfl | assumption)⟩
  have T_125 : ∀ (M_125 : zMt) (N_125 : zNt), (∀ a j, ¬ WM_X3_readAsks Q a j → M_125 a j = M0 a j) → (∀ a j, ¬ WN_X3_readAsks Q a j → N_125 a j = N0 a j) → ∃ r, D_X3_readAsks_125 Q M_125 N_125 = some r ∧ ((∀ a j, ¬ WM_X3_readAsks Q a j → r.2.1 a j = M0 a j) ∧ (∀ a j, ¬ WN_X3_readAsks Q a j → r.2.2 a j = N0 a j) ∧ (r.1 = 0 ∨ r.1 = 1)) := by
    intro M_125 N_125 k_125 kn_125
    unfold D_X3_readAsks_125
    refine vB (v_X3_fail) (fun e_127 f_127 q_127 => ?_)
    have k_127 : ∀ a j, ¬ WM_X3_readAsks Q a j → e_127.2 a j = M0 a j := fun a j h => (q_127.1 a j (by unfold WM_X3_fail; unfold WM_X3_readAsks at h; omega)).trans (k_125 a j h)
    have b_127 := q_127.2
    exact ⟨_, rfl, k_127, kn_125, (by first | exact Or.inl rfl | exact Or.inr rfl | assumption)⟩
  have TL_46 : ∀ u : Nat, ∀ (x1_46 : Int32) (x2_46 : Int32) (M_46 : zMt) (N_46 : zNt), (∀ a j, ¬ WM_X3_readAsks Q a j → M_46 a j = M0 a j) → (∀ a j, ¬ WN_X3_readAsks Q a j → N_46 a j = N0 a j) → (2147483648 - Int32.toInt x2_46).toNat < u → ∃ r, D_X3_readAsks_46 Q u x1_46 x2_46 M_46 N_46 = some r ∧ ((∀ a j, ¬ WM_X3_readAsks Q a j → r.2.1 a j = M0 a j) ∧ (∀ a j, ¬ WN_X3_readAsks Q a j → r.2.2 a j = N0 a j) ∧ (r.1 = 0 ∨ r.1 = 1)) := by
    intro u
    induction u with
    | zero => intro x1_46 x2_46 M_46 N_46 k_46 kn_46 hm_46; exact absurd hm_46 (Nat.not_lt_zero _)
    | succ u_46 ih_46 =>
      have T_64 : ∀ (x1_64 : Int32) (x2_64 : Int32) (M_64 : zMt) (N_64 : zNt), (∀ a j, ¬ WM_X3_readAsks Q a j → M_64 a j = M0 a j) → (∀ a j, ¬ WN_X3_readAsks Q a j → N_64 a j = N0 a j) → ((2147483648 - Int32.toInt x2_64).toNat < u_46 + 1) → (Int32.toInt x2_64 < 2147483647) → ∃ r, D_X3_readAsks_64 Q (D_X3_readAsks_46 Q u_46) x1_64 x2_64 M_64 N_64 = some r ∧ ((∀ a j, ¬ WM_X3_readAsks Q a j → r.2.1 a j = M0 a j) ∧ (∀ a j, ¬ WN_X3_readAsks Q a j → r.2.2 a j = N0 a j) ∧ (r.1 = 0 ∨ r.1 = 1)) := by
        intro x1_64 x2_64 M_64 N_64 k_64 kn_64 f0_64 f1_64
        unfold D_X3_readAsks_64
        refine vB (v_X3_isName) (fun e_65 f_65 q_65 => ?_)
        have b_65 := q_65
        refine vIf (fun h_68 => ?_) (fun h_68 => ?_)
        · refine vB (v_X3_fail) (fun e_73 f_73 q_73 => ?_)
          have k_73 : ∀ a j, ¬ WM_X3_readAsks Q a j → e_73.2 a j = M0 a j := fun a j h => (q_73.1 a j (by unfold WM_X3_fail; unfold WM_X3_readAsks at h; omega)).trans (k_64 a j h)
          have b_73 := q_73.2
          exact ⟨_, rfl, k_73, kn_64, (by first | exact Or.inl rfl | exact Or.inr rfl | assumption)⟩
        · refine vB (v_X3_find) (fun e_92 f_92 q_92 => ?_)
          refine vIf (fun h_98 => ?_) (fun h_98 => ?_)
          · exact T_125 _ _ k_64 kn_64
          · refine vIf (fun h_110 => ?_) (fun h_110 => ?_)
            · exact T_125 _ _ k_64 kn_64
            · refine vIf (fun h_122 => ?_) (fun h_122 => ?_)
              · exact T_125 _ _ k_64 kn_64
              · refine vLm (W := WM_X3_readAsks Q) (fun a j h => (congrFun (zwr_row (by unfold WM_X3_readAsks at h; omega)) j).trans (k_64 a j h)) (fun M_137 f_137 k_137 => ?_)
                refine vB (v_X3_step) (fun e_141 f_141 q_141 => ?_)
                have k_141 : ∀ a j, ¬ WM_X3_readAsks Q a j → e_141.1 a j = M0 a j := fun a j h => (q_141.1 a j (by unfold WM_X3_step; unfold WM_X3_readAsks at h; omega)).trans (k_137 a j h)
                have kn_141 : ∀ a j, ¬ WN_X3_readAsks Q a j → e_141.2 a j = N0 a j := fun a j h => (q_141.2 a j (by unfold WN_X3_step; unfold WN_X3_readAsks at h; omega)).trans (kn_64 a j h)
                exact ih_46 _ _ _ _ k_141 kn_141 (z_up1 f1_64 f0_64)
      intro x1_46 x2_46 M_46 N_46 k_46 kn_46 hm_46
      rw [D_X3_readAsks_46]
      refine vIf (fun h_48 => ?_) (fun h_48 => ?_)
      · exact T_150 _ _ _ k_46 kn_46
      · refine vIf (fun h_53 => ?_) (fun h_53 => ?_)
        · exact T_64 _ _ _ _ k_46 kn_46 hm_46 (by first | assumption | exact z_lt (by assumption) | exact z_lt2 (by assumption) | exact z_lt3 (by assumption) (by first | assumption | decide))
        · refine vIf (fun h_61 => ?_) (fun h_61 => ?_)
          · exact T_150 _ _ _ k_46 kn_46
          · exact T_64 _ _ _ _ k_46 kn_46 hm_46 (by first | assumption | exact z_lt (by assumption) | exact z_lt2 (by assumption) | exact z_lt3 (by assumption) (by first | assumption | decide))
  have T_46 : ∀ (x1_46 : Int32) (x2_46 : Int32) (M_46 : zMt) (N_46 : zNt), (∀ a j, ¬ WM_X3_readAsks Q a j → M_46 a j = M0 a j) → (∀ a j, ¬ WN_X3_readAsks Q a j → N_46 a j = N0 a j) → ∃ r, D_X3_readAsks_46 Q zFu x1_46 x2_46 M_46 N_46 = some r ∧ ((∀ a j, ¬ WM_X3_readAsks Q a j → r.2.1 a j = M0 a j) ∧ (∀ a j, ¬ WN_X3_readAsks Q a j → r.2.2 a j = N0 a j) ∧ (r.1 = 0 ∨ r.1 = 1)) := fun x1_46 x2_46 M_46 N_46 k_46 kn_46 => TL_46 zFu x1_46 x2_46 M_46 N_46 k_46 kn_46 (zFu_up _)
  unfold D_X3_readAsks
  refine vB (v_X3_step) (fun e_1 f_1 q_1 => ?_)
  have k_1 : ∀ a j, ¬ WM_X3_readAsks Q a j → e_1.1 a j = M0 a j := fun a j h => (q_1.1 a j (by unfold WM_X3_step; unfold WM_X3_readAsks at h; omega))
  have kn_1 : ∀ a j, ¬ WN_X3_readAsks Q a j → e_1.2 a j = N0 a j := fun a j h => (q_1.2 a j (by unfold WN_X3_step; unfold WN_X3_readAsks at h; omega))
  refine vB (v_X3_isName) (fun e_5 f_5 q_5 => ?_)
  have b_5 := q_5
  refine vIf (fun h_8 => ?_) (fun h_8 => ?_)
  · refine vB (v_X3_fail) (fun e_13 f_13 q_13 => ?_)
    have k_13 : ∀ a j, ¬ WM_X3_readAsks Q a j → e_13.2 a j = M0 a j := fun a j h => (q_13.1 a j (by unfold WM_X3_fail; unfold WM_X3_readAsks at h; omega)).trans (k_1 a j h)
    have b_13 := q_13.2
    exact ⟨_, rfl, k_13, kn_1, (by first | exact Or.inl rfl | exact Or.inr rfl | assumption)⟩
  · refine vB (v_X3_asker) (fun e_18 f_18 q_18 => ?_)
    refine vIf (fun h_23 => ?_) (fun h_23 => ?_)
    · refine vB (v_X3_fail) (fun e_28 f_28 q_28 => ?_)
      have k_28 : ∀ a j, ¬ WM_X3_readAsks Q a j → e_28.2 a j = M0 a j := fun a j h => (q_28.1 a j (by unfold WM_X3_fail; unfold WM_X3_readAsks at h; omega)).trans (k_1 a j h)
      have b_28 := q_28.2
      exact ⟨_, rfl, k_28, kn_1, (by first | exact Or.inl rfl | exact Or.inr rfl | assumption)⟩
    · refine vB (v_X3_step) (fun e_33 f_33 q_33 => ?_)
      have k_33 : ∀ a j, ¬ WM_X3_readAsks Q a j → e_33.1 a j = M0 a j := fun a j h => (q_33.1 a j (by unfold WM_X3_step; unfold WM_X3_readAsks at h; omega)).trans (k_1 a j h)
      have kn_33 : ∀ a j, ¬ WN_X3_readAsks Q a j → e_33.2 a j = N0 a j := fun a j h => (q_33.2 a j (by unfold WN_X3_step; unfold WN_X3_readAsks at h; omega)).trans (kn_1 a j h)
      refine vLm (W := WM_X3_readAsks Q) (fun a j h => (congrFun (zfil_row (by unfold WM_X3_readAsks at h; omega)) j).trans (k_33 a j h)) (fun M_41 f_41 k_41 => ?_)
      exact T_46 _ _ _ _ k_41 kn_33
def WM_X3_readLaw (Q : Nat) (a j : Nat) : Prop := (a = Q ∧ (j = 1 ∨ j = 2 ∨ j = 5 ∨ j = 6 ∨ j = 7 ∨ j = 9 ∨ j = 11)) ∨ (a = Q + 1 ∧ (j = 3))
def WN_X3_readLaw (Q : Nat) (a j : Nat) : Prop := (a = Q ∧ (j = 8))
set_option maxRecDepth 100000 in
set_option maxHeartbeats 4000000 in
theorem v_X3_readLaw {Q : Nat}  {M0 : zMt} {N0 : zNt}  : ∃ r, D_X3_readLaw Q M0 N0 = some r ∧ ((∀ a j, ¬ WM_X3_readLaw Q a j → r.2.1 a j = M0 a j) ∧ (∀ a j, ¬ WN_X3_readLaw Q a j → r.2.2 a j = N0 a j) ∧ (r.1 = 0 ∨ r.1 = 1)) := by
  have T_59 : ∀ (M_59 : zMt) (N_59 : zNt), (∀ a j, ¬ WM_X3_readLaw Q a j → M_59 a j = M0 a j) → (∀ a j, ¬ WN_X3_readLaw Q a j → N_59 a j = N0 a j) → ∃ r, D_X3_readLaw_59 Q M_59 N_59 = some r ∧ ((∀ a j, ¬ WM_X3_readLaw Q a j → r.2.1 a j = M0 a j) ∧ (∀ a j, ¬ WN_X3_readLaw Q a j → r.2.2 a j = N0 a j) ∧ (r.1 = 0 ∨ r.1 = 1)) := by
    intro M_59 N_59 k_59 kn_59
    unfold D_X3_readLaw_59
    refine vLm (W := WM_X3_readLaw Q) (fun a j h => (zu_ne (by unfold WM_X3_readLaw at h; omega)).trans (k_59 a j h)) (fun M_61 f_61 k_61 => ?_)
    refine vB (v_X3_step) (fun e_65 f_65 q_65 => ?_)
    have k_65 : ∀ a j, ¬ WM_X3_readLaw Q a j → e_65.1 a j = M0 a j := fun a j h => (q_65.1 a j (by unfold WM_X3_step; unfold WM_X3_readLaw at h; omega)).trans (k_61 a j h)
    have kn_65 : ∀ a j, ¬ WN_X3_readLaw Q a j → e_65.2 a j = N0 a j := fun a j h => (q_65.2 a j (by unfold WN_X3_step; unfold WN_X3_readLaw at h; omega)).trans (kn_59 a j h)
    refine vB (v_X3_endOfLine) (fun e_69 f_69 q_69 => ?_)
    have k_69 : ∀ a j, ¬ WM_X3_readLaw Q a j → e_69.2.1 a j = M0 a j := fun a j h => (q_69.1 a j (by unfold WM_X3_endOfLine; unfold WM_X3_readLaw at h; omega)).trans (k_65 a j h)
    have kn_69 : ∀ a j, ¬ WN_X3_readLaw Q a j → e_69.2.2 a j = N0 a j := fun a j h => (q_69.2.1 a j (by unfold WN_X3_endOfLine; unfold WN_X3_readLaw at h; omega)).trans (kn_65 a j h)
    have b_69 := q_69.2.2
    exact ⟨_, rfl, k_69, kn_69, (by first | exact Or.inl rfl | exact Or.inr rfl | assumption)⟩
  unfold D_X3_readLaw
  refine vB (v_X3_step) (fun e_1 f_1 q_1 => ?_)
  have k_1 : ∀ a j, ¬ WM_X3_readLaw Q a j → e_1.1 a j = M0 a j := fun a j h => (q_1.1 a j (by unfold WM_X3_step; unfold WM_X3_readLaw at h; omega))
  have kn_1 : ∀ a j, ¬ WN_X3_readLaw Q a j → e_1.2 a j = N0 a j := fun a j h => (q_1.2 a j (by unfold WN_X3_step; unfold WN_X3_readLaw at h; omega))
  refine vB (v_X3_says (by first | assumption | decide)) (fun e_7 f_7 q_7 => ?_)
  have b_7 := q_7
  refine vIf (fun h_10 => ?_) (fun h_10 => ?_)
  · refine vB (v_X3_says (by first | assumption | decide)) (fun e_27 f_27 q_27 => ?_)
    have b_27 := q_27
    refine vIf (fun h_30 => ?_) (fun h_30 => ?_)
    · refine vB (v_X3_says (by first | assumption | decide)) (fun e_47 f_47 q_47 => ?_)
      have b_47 := q_47
      refine vIf (fun h_50 => ?_) (fun h_50 => ?_)
      · refine vB (v_X3_fail) (fun e_55 f_55 q_55 => ?_)
        have k_55 : ∀ a j, ¬ WM_X3_readLaw Q a j → e_55.2 a j = M0 a j := fun a j h => (q_55.1 a j (by unfold WM_X3_fail; unfold WM_X3_readLaw at h; omega)).trans (k_1 a j h)
        have b_55 := q_55.2
        exact ⟨_, rfl, k_55, kn_1, (by first | exact Or.inl rfl | exact Or.inr rfl | assumption)⟩
      · exact T_59 _ _ k_1 kn_1
    · refine vLm (W := WM_X3_readLaw Q) (fun a j h => (zu_ne (by unfold WM_X3_readLaw at h; omega)).trans (k_1 a j h)) (fun M_38 f_38 k_38 => ?_)
      exact T_59 _ _ k_38 kn_1
  · refine vLm (W := WM_X3_readLaw Q) (fun a j h => (zu_ne (by unfold WM_X3_readLaw at h; omega)).trans (k_1 a j h)) (fun M_18 f_18 k_18 => ?_)
    exact T_59 _ _ k_18 kn_1
def WM_X3_readPrefer (Q : Nat) (a j : Nat) : Prop := (a = Q ∧ (j = 1 ∨ j = 2 ∨ j = 5 ∨ j = 6 ∨ j = 7 ∨ j = 9 ∨ j = 12)) ∨ (a = Q + 1 ∧ (j = 4))
def WN_X3_readPrefer (Q : Nat) (a j : Nat) : Prop := (a = Q ∧ (j = 8))
set_option maxRecDepth 100000 in
set_option maxHeartbeats 4000000 in
theorem v_X3_readPrefer {Q : Nat}  {M0 : zMt} {N0 : zNt}  : ∃ r, D_X3_readPrefer Q M0 N0 = some r ∧ ((∀ a j, ¬ WM_X3_readPrefer Q a j → r.2.1 a j = M0 a j) ∧ (∀ a j, ¬ WN_X3_readPrefer Q a j → r.2.2 a j = N0 a j) ∧ (r.1 = 0 ∨ r.1 = 1)) := by
  unfold D_X3_readPrefer
  refine vB (v_X3_step) (fun e_1 f_1 q_1 => ?_)
  have k_1 : ∀ a j, ¬ WM_X3_readPrefer Q a j → e_1.1 a j = M0 a j := fun a j h => (q_1.1 a j (by unfold WM_X3_step; unfold WM_X3_readPrefer at h; omega))
  have kn_1 : ∀ a j, ¬ WN_X3_readPrefer Q a j → e_1.2 a j = N0 a j := fun a j h => (q_1.2 a j (by unfold WN_X3_step; unfold WN_X3_readPrefer at h; omega))
  refine vB (v_X3_numberUpTo) (fun e_7 f_7 q_7 => ?_)
  have k_7 : ∀ a j, ¬ WM_X3_readPrefer Q a j → e_7.2.1 a j = M0 a j := fun a j h => (q_7.1 a j (by unfold WM_X3_numberUpTo; unfold WM_X3_readPrefer at h; omega)).trans (k_1 a j h)
  have kn_7 : ∀ a j, ¬ WN_X3_readPrefer Q a j → e_7.2.2 a j = N0 a j := fun a j h => (q_7.2.1 a j (by unfold WN_X3_numberUpTo; unfold WN_X3_readPrefer at h; omega)).trans (kn_1 a j h)
  have b_7 := q_7.2.2
  refine vIf (fun h_10 => ?_) (fun h_10 => ?_)
  · exact ⟨_, rfl, k_7, kn_7, (by first | exact Or.inl rfl | exact Or.inr rfl | assumption)⟩
  · refine vLm (W := WM_X3_readPrefer Q) (fun a j h => (zu_ne (by unfold WM_X3_readPrefer at h; omega)).trans (k_7 a j h)) (fun M_17 f_17 k_17 => ?_)
    refine vLm (W := WM_X3_readPrefer Q) (fun a j h => (zu_ne (by unfold WM_X3_readPrefer at h; omega)).trans (k_17 a j h)) (fun M_28 f_28 k_28 => ?_)
    refine vB (v_X3_endOfLine) (fun e_32 f_32 q_32 => ?_)
    have k_32 : ∀ a j, ¬ WM_X3_readPrefer Q a j → e_32.2.1 a j = M0 a j := fun a j h => (q_32.1 a j (by unfold WM_X3_endOfLine; unfold WM_X3_readPrefer at h; omega)).trans (k_28 a j h)
    have kn_32 : ∀ a j, ¬ WN_X3_readPrefer Q a j → e_32.2.2 a j = N0 a j := fun a j h => (q_32.2.1 a j (by unfold WN_X3_endOfLine; unfold WN_X3_readPrefer at h; omega)).trans (kn_7 a j h)
    have b_32 := q_32.2.2
    exact ⟨_, rfl, k_32, kn_32, (by first | exact Or.inl rfl | exact Or.inr rfl | assumption)⟩
def WM_X3_readGuests (Q : Nat) (a j : Nat) : Prop := (a = Q ∧ (j = 1 ∨ j = 2 ∨ j = 5 ∨ j = 6 ∨ j = 7 ∨ j = 9 ∨ j = 13)) ∨ (a = Q + 1 ∧ (j = 5))
def WN_X3_readGuests (Q : Nat) (a j : Nat) : Prop := (a = Q ∧ (j = 8))
set_option maxRecDepth 100000 in
set_option maxHeartbeats 4000000 in
theorem v_X3_readGuests {Q : Nat}  {M0 : zMt} {N0 : zNt}  : ∃ r, D_X3_readGuests Q M0 N0 = some r ∧ ((∀ a j, ¬ WM_X3_readGuests Q a j → r.2.1 a j = M0 a j) ∧ (∀ a j, ¬ WN_X3_readGuests Q a j → r.2.2 a j = N0 a j) ∧ (r.1 = 0 ∨ r.1 = 1)) := by
  unfold D_X3_readGuests
  refine vB (v_X3_step) (fun e_1 f_1 q_1 => ?_)
  have k_1 : ∀ a j, ¬ WM_X3_readGuests Q a j → e_1.1 a j = M0 a j := fun a j h => (q_1.1 a j (by unfold WM_X3_step; unfold WM_X3_readGuests at h; omega))
  have kn_1 : ∀ a j, ¬ WN_X3_readGuests Q a j → e_1.2 a j = N0 a j := fun a j h => (q_1.2 a j (by unfold WN_X3_step; unfold WN_X3_readGuests at h; omega))
  refine vB (v_X3_numberUpTo) (fun e_7 f_7 q_7 => ?_)
  have k_7 : ∀ a j, ¬ WM_X3_readGuests Q a j → e_7.2.1 a j = M0 a j := fun a j h => (q_7.1 a j (by unfold WM_X3_numberUpTo; unfold WM_X3_readGuests at h; omega)).trans (k_1 a j h)
  have kn_7 : ∀ a j, ¬ WN_X3_readGuests Q a j → e_7.2.2 a j = N0 a j := fun a j h => (q_7.2.1 a j (by unfold WN_X3_numberUpTo; unfold WN_X3_readGuests at h; omega)).trans (kn_1 a j h)
  have b_7 := q_7.2.2
  refine vIf (fun h_10 => ?_) (fun h_10 => ?_)
  · exact ⟨_, rfl, k_7, kn_7, (by first | exact Or.inl rfl | exact Or.inr rfl | assumption)⟩
  · refine vLm (W := WM_X3_readGuests Q) (fun a j h => (zu_ne (by unfold WM_X3_readGuests at h; omega)).trans (k_7 a j h)) (fun M_17 f_17 k_17 => ?_)
    refine vLm (W := WM_X3_readGuests Q) (fun a j h => (zu_ne (by unfold WM_X3_readGuests at h; omega)).trans (k_17 a j h)) (fun M_28 f_28 k_28 => ?_)
    refine vB (v_X3_endOfLine) (fun e_32 f_32 q_32 => ?_)
    have k_32 : ∀ a j, ¬ WM_X3_readGuests Q a j → e_32.2.1 a j = M0 a j := fun a j h => (q_32.1 a j (by unfold WM_X3_endOfLine; unfold WM_X3_readGuests at h; omega)).trans (k_28 a j h)
    have kn_32 : ∀ a j, ¬ WN_X3_readGuests Q a j → e_32.2.2 a j = N0 a j := fun a j h => (q_32.2.1 a j (by unfold WN_X3_endOfLine; unfold WN_X3_readGuests at h; omega)).trans (kn_7 a j h)
    have b_32 := q_32.2.2
    exact ⟨_, rfl, k_32, kn_32, (by first | exact Or.inl rfl | exact Or.inr rfl | assumption)⟩
def WM_X3_readLine (Q : Nat) (a j : Nat) : Prop := (Q + 2 ≤ a ∧ a < Q + 8) ∨ (Q + 13 ≤ a ∧ a < Q + 14) ∨ (a = Q ∧ (j = 1 ∨ j = 2 ∨ j = 5 ∨ j = 6 ∨ j = 7 ∨ j = 9 ∨ j = 11 ∨ j = 12 ∨ j = 13)) ∨ (a = Q + 1 ∧ (j = 0 ∨ j = 1 ∨ j = 2 ∨ j = 3 ∨ j = 4 ∨ j = 5))
def WN_X3_readLine (Q : Nat) (a j : Nat) : Prop := (Q + 10 ≤ a ∧ a < Q + 13) ∨ (a = Q ∧ (j = 8 ∨ j = 10))
set_option maxRecDepth 100000 in
set_option maxHeartbeats 4000000 in
theorem v_X3_readLine {Q : Nat}  {M0 : zMt} {N0 : zNt}  : ∃ r, D_X3_readLine Q M0 N0 = some r ∧ ((∀ a j, ¬ WM_X3_readLine Q a j → r.2.1 a j = M0 a j) ∧ (∀ a j, ¬ WN_X3_readLine Q a j → r.2.2 a j = N0 a j) ∧ (r.1 = 0 ∨ r.1 = 1)) := by
  have T_200 : ∀ (y0_200 : Int32) (M_200 : zMt) (N_200 : zNt), (∀ a j, ¬ WM_X3_readLine Q a j → M_200 a j = M0 a j) → (∀ a j, ¬ WN_X3_readLine Q a j → N_200 a j = N0 a j) → (y0_200 = 0 ∨ y0_200 = 1) → ∃ r, D_X3_readLine_200 Q y0_200 M_200 N_200 = some r ∧ ((∀ a j, ¬ WM_X3_readLine Q a j → r.2.1 a j = M0 a j) ∧ (∀ a j, ¬ WN_X3_readLine Q a j → r.2.2 a j = N0 a j) ∧ (r.1 = 0 ∨ r.1 = 1)) := by
    intro y0_200 M_200 N_200 k_200 kn_200 f0_200
    unfold D_X3_readLine_200
    exact ⟨_, rfl, k_200, kn_200, (by first | exact Or.inl rfl | exact Or.inr rfl | assumption)⟩
  have T_171 : ∀ (y0_171 : Int32) (M_171 : zMt) (N_171 : zNt), (∀ a j, ¬ WM_X3_readLine Q a j → M_171 a j = M0 a j) → (∀ a j, ¬ WN_X3_readLine Q a j → N_171 a j = N0 a j) → (y0_171 = 0 ∨ y0_171 = 1) → ∃ r, D_X3_readLine_171 Q y0_171 M_171 N_171 = some r ∧ ((∀ a j, ¬ WM_X3_readLine Q a j → r.2.1 a j = M0 a j) ∧ (∀ a j, ¬ WN_X3_readLine Q a j → r.2.2 a j = N0 a j) ∧ (r.1 = 0 ∨ r.1 = 1)) := by
    intro y0_171 M_171 N_171 k_171 kn_171 f0_171
    unfold D_X3_readLine_171
    exact ⟨_, rfl, k_171, kn_171, (by first | exact Or.inl rfl | exact Or.inr rfl | assumption)⟩
  have T_142 : ∀ (y0_142 : Int32) (M_142 : zMt) (N_142 : zNt), (∀ a j, ¬ WM_X3_readLine Q a j → M_142 a j = M0 a j) → (∀ a j, ¬ WN_X3_readLine Q a j → N_142 a j = N0 a j) → (y0_142 = 0 ∨ y0_142 = 1) → ∃ r, D_X3_readLine_142 Q y0_142 M_142 N_142 = some r ∧ ((∀ a j, ¬ WM_X3_readLine Q a j → r.2.1 a j = M0 a j) ∧ (∀ a j, ¬ WN_X3_readLine Q a j → r.2.2 a j = N0 a j) ∧ (r.1 = 0 ∨ r.1 = 1)) := by
    intro y0_142 M_142 N_142 k_142 kn_142 f0_142
    unfold D_X3_readLine_142
    exact ⟨_, rfl, k_142, kn_142, (by first | exact Or.inl rfl | exact Or.inr rfl | assumption)⟩
  have T_99 : ∀ (y0_99 : Int32) (M_99 : zMt) (N_99 : zNt), (∀ a j, ¬ WM_X3_readLine Q a j → M_99 a j = M0 a j) → (∀ a j, ¬ WN_X3_readLine Q a j → N_99 a j = N0 a j) → (y0_99 = 0 ∨ y0_99 = 1) → ∃ r, D_X3_readLine_99 Q y0_99 M_99 N_99 = some r ∧ ((∀ a j, ¬ WM_X3_readLine Q a j → r.2.1 a j = M0 a j) ∧ (∀ a j, ¬ WN_X3_readLine Q a j → r.2.2 a j = N0 a j) ∧ (r.1 = 0 ∨ r.1 = 1)) := by
    intro y0_99 M_99 N_99 k_99 kn_99 f0_99
    unfold D_X3_readLine_99
    exact ⟨_, rfl, k_99, kn_99, (by first | exact Or.inl rfl | exact Or.inr rfl | assumption)⟩
  have T_66 : ∀ (y0_66 : Int32) (M_66 : zMt) (N_66 : zNt), (∀ a j, ¬ WM_X3_readLine Q a j → M_66 a j = M0 a j) → (∀ a j, ¬ WN_X3_readLine Q a j → N_66 a j = N0 a j) → (y0_66 = 0 ∨ y0_66 = 1) → ∃ r, D_X3_readLine_66 Q y0_66 M_66 N_66 = some r ∧ ((∀ a j, ¬ WM_X3_readLine Q a j → r.2.1 a j = M0 a j) ∧ (∀ a j, ¬ WN_X3_readLine Q a j → r.2.2 a j = N0 a j) ∧ (r.1 = 0 ∨ r.1 = 1)) := by
    intro y0_66 M_66 N_66 k_66 kn_66 f0_66
    unfold D_X3_readLine_66
    exact ⟨_, rfl, k_66, kn_66, (by first | exact Or.inl rfl | exact Or.inr rfl | assumption)⟩
  have T_32 : ∀ (y0_32 : Int32) (M_32 : zMt) (N_32 : zNt), (∀ a j, ¬ WM_X3_readLine Q a j → M_32 a j = M0 a j) → (∀ a j, ¬ WN_X3_readLine Q a j → N_32 a j = N0 a j) → (y0_32 = 0 ∨ y0_32 = 1) → ∃ r, D_X3_readLine_32 Q y0_32 M_32 N_32 = some r ∧ ((∀ a j, ¬ WM_X3_readLine Q a j → r.2.1 a j = M0 a j) ∧ (∀ a j, ¬ WN_X3_readLine Q a j → r.2.2 a j = N0 a j) ∧ (r.1 = 0 ∨ r.1 = 1)) := by
    intro y0_32 M_32 N_32 k_32 kn_32 f0_32
    unfold D_X3_readLine_32
    exact ⟨_, rfl, k_32, kn_32, (by first | exact Or.inl rfl | exact Or.inr rfl | assumption)⟩
  unfold D_X3_readLine
  refine vB (v_X3_says (by first | assumption | decide)) (fun e_3 f_3 q_3 => ?_)
  have b_3 := q_3
  refine vIf (fun h_6 => ?_) (fun h_6 => ?_)
  · refine vB (v_X3_says (by first | assumption | decide)) (fun e_36 f_36 q_36 => ?_)
    have b_36 := q_36
    refine vIf (fun h_39 => ?_) (fun h_39 => ?_)
    · refine vB (v_X3_says (by first | assumption | decide)) (fun e_70 f_70 q_70 => ?_)
      have b_70 := q_70
      refine vIf (fun h_73 => ?_) (fun h_73 => ?_)
      · refine vB (v_X3_says (by first | assumption | decide)) (fun e_103 f_103 q_103 => ?_)
        have b_103 := q_103
        refine vIf (fun h_106 => ?_) (fun h_106 => ?_)
        · refine vB (v_X3_says (by first | assumption | decide)) (fun e_117 f_117 q_117 => ?_)
          have b_117 := q_117
          refine vIf (fun h_120 => ?_) (fun h_120 => ?_)
          · refine vB (v_X3_says (by first | assumption | decide)) (fun e_146 f_146 q_146 => ?_)
            have b_146 := q_146
            refine vIf (fun h_149 => ?_) (fun h_149 => ?_)
            · refine vB (v_X3_says (by first | assumption | decide)) (fun e_175 f_175 q_175 => ?_)
              have b_175 := q_175
              refine vIf (fun h_178 => ?_) (fun h_178 => ?_)
              · refine vB (v_X3_fail) (fun e_203 f_203 q_203 => ?_)
                have k_203 : ∀ a j, ¬ WM_X3_readLine Q a j → e_203.2 a j = M0 a j := fun a j h => (q_203.1 a j (by unfold WM_X3_fail; unfold WM_X3_readLine at h; omega))
                have b_203 := q_203.2
                exact ⟨_, rfl, k_203, (fun _ _ _ => rfl), (by first | exact Or.inl rfl | exact Or.inr rfl | assumption)⟩
              · refine vIf (fun h_185 => ?_) (fun h_185 => ?_)
                · refine vB (v_X3_readGuests) (fun e_197 f_197 q_197 => ?_)
                  have k_197 : ∀ a j, ¬ WM_X3_readLine Q a j → e_197.2.1 a j = M0 a j := fun a j h => (q_197.1 a j (by unfold WM_X3_readGuests; unfold WM_X3_readLine at h; omega))
                  have kn_197 : ∀ a j, ¬ WN_X3_readLine Q a j → e_197.2.2 a j = N0 a j := fun a j h => (q_197.2.1 a j (by unfold WN_X3_readGuests; unfold WN_X3_readLine at h; omega))
                  have b_197 := q_197.2.2
                  exact T_200 _ _ _ k_197 kn_197 (by first | exact Or.inl rfl | exact Or.inr rfl | assumption)
                · refine vB (v_X3_fail) (fun e_190 f_190 q_190 => ?_)
                  have k_190 : ∀ a j, ¬ WM_X3_readLine Q a j → e_190.2 a j = M0 a j := fun a j h => (q_190.1 a j (by unfold WM_X3_fail; unfold WM_X3_readLine at h; omega))
                  have b_190 := q_190.2
                  exact T_200 _ _ _ k_190 (fun _ _ _ => rfl) (by first | exact Or.inl rfl | exact Or.inr rfl | assumption)
            · refine vIf (fun h_156 => ?_) (fun h_156 => ?_)
              · refine vB (v_X3_readPrefer) (fun e_168 f_168 q_168 => ?_)
                have k_168 : ∀ a j, ¬ WM_X3_readLine Q a j → e_168.2.1 a j = M0 a j := fun a j h => (q_168.1 a j (by unfold WM_X3_readPrefer; unfold WM_X3_readLine at h; omega))
                have kn_168 : ∀ a j, ¬ WN_X3_readLine Q a j → e_168.2.2 a j = N0 a j := fun a j h => (q_168.2.1 a j (by unfold WN_X3_readPrefer; unfold WN_X3_readLine at h; omega))
                have b_168 := q_168.2.2
                exact T_171 _ _ _ k_168 kn_168 (by first | exact Or.inl rfl | exact Or.inr rfl | assumption)
              · refine vB (v_X3_fail) (fun e_161 f_161 q_161 => ?_)
                have k_161 : ∀ a j, ¬ WM_X3_readLine Q a j → e_161.2 a j = M0 a j := fun a j h => (q_161.1 a j (by unfold WM_X3_fail; unfold WM_X3_readLine at h; omega))
                have b_161 := q_161.2
                exact T_171 _ _ _ k_161 (fun _ _ _ => rfl) (by first | exact Or.inl rfl | exact Or.inr rfl | assumption)
          · refine vIf (fun h_127 => ?_) (fun h_127 => ?_)
            · refine vB (v_X3_readLaw) (fun e_139 f_139 q_139 => ?_)
              have k_139 : ∀ a j, ¬ WM_X3_readLine Q a j → e_139.2.1 a j = M0 a j := fun a j h => (q_139.1 a j (by unfold WM_X3_readLaw; unfold WM_X3_readLine at h; omega))
              have kn_139 : ∀ a j, ¬ WN_X3_readLine Q a j → e_139.2.2 a j = N0 a j := fun a j h => (q_139.2.1 a j (by unfold WN_X3_readLaw; unfold WN_X3_readLine at h; omega))
              have b_139 := q_139.2.2
              exact T_142 _ _ _ k_139 kn_139 (by first | exact Or.inl rfl | exact Or.inr rfl | assumption)
            · refine vB (v_X3_fail) (fun e_132 f_132 q_132 => ?_)
              have k_132 : ∀ a j, ¬ WM_X3_readLine Q a j → e_132.2 a j = M0 a j := fun a j h => (q_132.1 a j (by unfold WM_X3_fail; unfold WM_X3_readLine at h; omega))
              have b_132 := q_132.2
              exact T_142 _ _ _ k_132 (fun _ _ _ => rfl) (by first | exact Or.inl rfl | exact Or.inr rfl | assumption)
        · refine vB (v_X3_readAsks) (fun e_110 f_110 q_110 => ?_)
          have k_110 : ∀ a j, ¬ WM_X3_readLine Q a j → e_110.2.1 a j = M0 a j := fun a j h => (q_110.1 a j (by unfold WM_X3_readAsks; unfold WM_X3_readLine at h; omega))
          have kn_110 : ∀ a j, ¬ WN_X3_readLine Q a j → e_110.2.2 a j = N0 a j := fun a j h => (q_110.2.1 a j (by unfold WN_X3_readAsks; unfold WN_X3_readLine at h; omega))
          have b_110 := q_110.2.2
          exact ⟨_, rfl, k_110, kn_110, (by first | exact Or.inl rfl | exact Or.inr rfl | assumption)⟩
      · refine vIf (fun h_84 => ?_) (fun h_84 => ?_)
        · refine vB (v_X3_fail) (fun e_96 f_96 q_96 => ?_)
          have k_96 : ∀ a j, ¬ WM_X3_readLine Q a j → e_96.2 a j = M0 a j := fun a j h => (q_96.1 a j (by unfold WM_X3_fail; unfold WM_X3_readLine at h; omega))
          have b_96 := q_96.2
          exact T_99 _ _ _ k_96 (fun _ _ _ => rfl) (by first | exact Or.inl rfl | exact Or.inr rfl | assumption)
        · refine vB (v_X3_readParty) (fun e_88 f_88 q_88 => ?_)
          have k_88 : ∀ a j, ¬ WM_X3_readLine Q a j → e_88.2.1 a j = M0 a j := fun a j h => (q_88.1 a j (by unfold WM_X3_readParty; unfold WM_X3_readLine at h; omega))
          have kn_88 : ∀ a j, ¬ WN_X3_readLine Q a j → e_88.2.2 a j = N0 a j := fun a j h => (q_88.2.1 a j (by unfold WN_X3_readParty; unfold WN_X3_readLine at h; omega))
          have b_88 := q_88.2.2
          exact T_99 _ _ _ k_88 kn_88 (by first | exact Or.inl rfl | exact Or.inr rfl | assumption)
    · refine vIf (fun h_51 => ?_) (fun h_51 => ?_)
      · refine vB (v_X3_fail) (fun e_63 f_63 q_63 => ?_)
        have k_63 : ∀ a j, ¬ WM_X3_readLine Q a j → e_63.2 a j = M0 a j := fun a j h => (q_63.1 a j (by unfold WM_X3_fail; unfold WM_X3_readLine at h; omega))
        have b_63 := q_63.2
        exact T_66 _ _ _ k_63 (fun _ _ _ => rfl) (by first | exact Or.inl rfl | exact Or.inr rfl | assumption)
      · refine vB (v_X3_readHunter) (fun e_55 f_55 q_55 => ?_)
        have k_55 : ∀ a j, ¬ WM_X3_readLine Q a j → e_55.2.1 a j = M0 a j := fun a j h => (q_55.1 a j (by unfold WM_X3_readHunter; unfold WM_X3_readLine at h; omega))
        have kn_55 : ∀ a j, ¬ WN_X3_readLine Q a j → e_55.2.2 a j = N0 a j := fun a j h => (q_55.2.1 a j (by unfold WN_X3_readHunter; unfold WN_X3_readLine at h; omega))
        have b_55 := q_55.2.2
        exact T_66 _ _ _ k_55 kn_55 (by first | exact Or.inl rfl | exact Or.inr rfl | assumption)
  · refine vIf (fun h_17 => ?_) (fun h_17 => ?_)
    · refine vB (v_X3_fail) (fun e_29 f_29 q_29 => ?_)
      have k_29 : ∀ a j, ¬ WM_X3_readLine Q a j → e_29.2 a j = M0 a j := fun a j h => (q_29.1 a j (by unfold WM_X3_fail; unfold WM_X3_readLine at h; omega))
      have b_29 := q_29.2
      exact T_32 _ _ _ k_29 (fun _ _ _ => rfl) (by first | exact Or.inl rfl | exact Or.inr rfl | assumption)
    · refine vB (v_X3_readUnit) (fun e_21 f_21 q_21 => ?_)
      have k_21 : ∀ a j, ¬ WM_X3_readLine Q a j → e_21.2.1 a j = M0 a j := fun a j h => (q_21.1 a j (by unfold WM_X3_readUnit; unfold WM_X3_readLine at h; omega))
      have kn_21 : ∀ a j, ¬ WN_X3_readLine Q a j → e_21.2.2 a j = N0 a j := fun a j h => (q_21.2.1 a j (by unfold WN_X3_readUnit; unfold WN_X3_readLine at h; omega))
      have b_21 := q_21.2.2
      exact T_32 _ _ _ k_21 kn_21 (by first | exact Or.inl rfl | exact Or.inr rfl | assumption)
def WM_X3_read (Q A : Nat) (a j : Nat) : Prop := (Q + 2 ≤ a ∧ a < Q + 10) ∨ (Q + 13 ≤ a ∧ a < Q + 14) ∨ (a = Q ∧ (j = 1 ∨ j = 2 ∨ j = 4 ∨ j = 5 ∨ j = 6 ∨ j = 7 ∨ j = 9 ∨ j = 11 ∨ j = 12 ∨ j = 13)) ∨ (a = Q + 1 ∧ (j = 0 ∨ j = 1 ∨ j = 2 ∨ j = 3 ∨ j = 4 ∨ j = 5 ∨ j = 6))
def WN_X3_read (Q A : Nat) (a j : Nat) : Prop := (Q + 10 ≤ a ∧ a < Q + 13) ∨ (a = Q ∧ (j = 8 ∨ j = 10))
set_option maxRecDepth 100000 in
set_option maxHeartbeats 4000000 in
theorem v_X3_read {Q : Nat} {A : Nat} {nA : Nat} {v0 : Int32} {M0 : zMt} {N0 : zNt}  : ∃ r, D_X3_read Q A nA v0 M0 N0 = some r ∧ ((∀ a j, ¬ WM_X3_read Q A a j → r.2.1 a j = M0 a j) ∧ (∀ a j, ¬ WN_X3_read Q A a j → r.2.2 a j = N0 a j) ∧ (r.1 = 0 ∨ r.1 = 1)) := by
  have T_91 : ∀ (M_91 : zMt) (N_91 : zNt), (∀ a j, ¬ WM_X3_read Q A a j → M_91 a j = M0 a j) → (∀ a j, ¬ WN_X3_read Q A a j → N_91 a j = N0 a j) → ∃ r, D_X3_read_91 Q A nA M_91 N_91 = some r ∧ ((∀ a j, ¬ WM_X3_read Q A a j → r.2.1 a j = M0 a j) ∧ (∀ a j, ¬ WN_X3_read Q A a j → r.2.2 a j = N0 a j) ∧ (r.1 = 0 ∨ r.1 = 1)) := by
    intro M_91 N_91 k_91 kn_91
    unfold D_X3_read_91
    exact ⟨_, rfl, k_91, kn_91, (by first | exact Or.inl rfl | exact Or.inr rfl | assumption)⟩
  have TL_62 : ∀ u : Nat, ∀ (x3_62 : Int32) (M_62 : zMt) (N_62 : zNt), (∀ a j, ¬ WM_X3_read Q A a j → M_62 a j = M0 a j) → (∀ a j, ¬ WN_X3_read Q A a j → N_62 a j = N0 a j) → (2147483648 - Int32.toInt x3_62).toNat < u → ∃ r, D_X3_read_62 Q A nA u x3_62 M_62 N_62 = some r ∧ ((∀ a j, ¬ WM_X3_read Q A a j → r.2.1 a j = M0 a j) ∧ (∀ a j, ¬ WN_X3_read Q A a j → r.2.2 a j = N0 a j) ∧ (r.1 = 0 ∨ r.1 = 1)) := by
    intro u
    induction u with
    | zero => intro x3_62 M_62 N_62 k_62 kn_62 hm_62; exact absurd hm_62 (Nat.not_lt_zero _)
    | succ u_62 ih_62 =>
      intro x3_62 M_62 N_62 k_62 kn_62 hm_62
      rw [D_X3_read_62]
      refine vIf (fun h_66 => ?_) (fun h_66 => ?_)
      · exact T_91 _ _ k_62 kn_62
      · refine vIf (fun h_73 => ?_) (fun h_73 => ?_)
        · exact T_91 _ _ k_62 kn_62
        · refine vB (v_X3_readLine) (fun e_77 f_77 q_77 => ?_)
          have k_77 : ∀ a j, ¬ WM_X3_read Q A a j → e_77.2.1 a j = M0 a j := fun a j h => (q_77.1 a j (by unfold WM_X3_readLine; unfold WM_X3_read at h; omega)).trans (k_62 a j h)
          have kn_77 : ∀ a j, ¬ WN_X3_read Q A a j → e_77.2.2 a j = N0 a j := fun a j h => (q_77.2.1 a j (by unfold WN_X3_readLine; unfold WN_X3_read at h; omega)).trans (kn_62 a j h)
          have b_77 := q_77.2.2
          refine vIf (fun h_80 => ?_) (fun h_80 => ?_)
          · exact ⟨_, rfl, k_77, kn_77, (by first | exact Or.inl rfl | exact Or.inr rfl | assumption)⟩
          · exact ih_62 _ _ _ k_77 kn_77 (z_up1 (by first | assumption | exact z_lt (by assumption) | exact z_lt2 (by assumption) | exact z_lt3 (by assumption) (by first | assumption | decide)) hm_62)
  have T_62 : ∀ (x3_62 : Int32) (M_62 : zMt) (N_62 : zNt), (∀ a j, ¬ WM_X3_read Q A a j → M_62 a j = M0 a j) → (∀ a j, ¬ WN_X3_read Q A a j → N_62 a j = N0 a j) → ∃ r, D_X3_read_62 Q A nA zFu x3_62 M_62 N_62 = some r ∧ ((∀ a j, ¬ WM_X3_read Q A a j → r.2.1 a j = M0 a j) ∧ (∀ a j, ¬ WN_X3_read Q A a j → r.2.2 a j = N0 a j) ∧ (r.1 = 0 ∨ r.1 = 1)) := fun x3_62 M_62 N_62 k_62 kn_62 => TL_62 zFu x3_62 M_62 N_62 k_62 kn_62 (zFu_up _)
  unfold D_X3_read
  refine vLm (W := WM_X3_read Q A) (fun a j h => (congrFun (zcpy_row (by unfold WM_X3_read at h; omega)) j)) (fun M_5 f_5 k_5 => ?_)
  refine vLm (W := WM_X3_read Q A) (fun a j h => (zu_ne (by unfold WM_X3_read at h; omega)).trans (k_5 a j h)) (fun M_16 f_16 k_16 => ?_)
  refine vLm (W := WM_X3_read Q A) (fun a j h => (zu_ne (by unfold WM_X3_read at h; omega)).trans (k_16 a j h)) (fun M_21 f_21 k_21 => ?_)
  refine vLm (W := WM_X3_read Q A) (fun a j h => (zu_ne (by unfold WM_X3_read at h; omega)).trans (k_21 a j h)) (fun M_26 f_26 k_26 => ?_)
  refine vLm (W := WM_X3_read Q A) (fun a j h => (zu_ne (by unfold WM_X3_read at h; omega)).trans (k_26 a j h)) (fun M_31 f_31 k_31 => ?_)
  refine vLm (W := WM_X3_read Q A) (fun a j h => (zu_ne (by unfold WM_X3_read at h; omega)).trans (k_31 a j h)) (fun M_36 f_36 k_36 => ?_)
  refine vB (v_X4_clear) (fun e_43 f_43 q_43 => ?_)
  have k_43 : ∀ a j, ¬ WM_X3_read Q A a j → e_43 a j = M0 a j := fun a j h => (q_43 a j (by unfold WM_X4_clear; unfold WM_X3_read at h; omega)).trans (k_36 a j h)
  refine vLm (W := WM_X3_read Q A) (fun a j h => (zu_ne (by unfold WM_X3_read at h; omega)).trans (k_43 a j h)) (fun M_48 f_48 k_48 => ?_)
  refine vLm (W := WM_X3_read Q A) (fun a j h => (zu_ne (by unfold WM_X3_read at h; omega)).trans (k_48 a j h)) (fun M_53 f_53 k_53 => ?_)
  refine vB (v_X3_step) (fun e_57 f_57 q_57 => ?_)
  have k_57 : ∀ a j, ¬ WM_X3_read Q A a j → e_57.1 a j = M0 a j := fun a j h => (q_57.1 a j (by unfold WM_X3_step; unfold WM_X3_read at h; omega)).trans (k_53 a j h)
  have kn_57 : ∀ a j, ¬ WN_X3_read Q A a j → e_57.2 a j = N0 a j := fun a j h => (q_57.2 a j (by unfold WN_X3_step; unfold WN_X3_read at h; omega))
  exact T_62 _ _ _ k_57 kn_57
def WM_X4_take (Q A : Nat) (a j : Nat) : Prop := (Q + 1 ≤ a ∧ a < Q + 8) ∨ (a = Q ∧ (j = 0 ∨ j = 1 ∨ j = 2 ∨ j = 3 ∨ j = 4 ∨ j = 5 ∨ j = 6))
set_option maxRecDepth 100000 in
set_option maxHeartbeats 4000000 in
theorem v_X4_take {Q : Nat} {A : Nat}  {M0 : zMt}  : ∃ r, D_X4_take Q A M0 = some r ∧ ((∀ a j, ¬ WM_X4_take Q A a j → r a j = M0 a j)) := by
  unfold D_X4_take
  refine vLm (W := WM_X4_take Q A) (fun a j h => (zu_ne (by unfold WM_X4_take at h; omega))) (fun M_5 f_5 k_5 => ?_)
  refine vLm (W := WM_X4_take Q A) (fun a j h => (zu_ne (by unfold WM_X4_take at h; omega)).trans (k_5 a j h)) (fun M_13 f_13 k_13 => ?_)
  refine vLm (W := WM_X4_take Q A) (fun a j h => (zu_ne (by unfold WM_X4_take at h; omega)).trans (k_13 a j h)) (fun M_21 f_21 k_21 => ?_)
  refine vLm (W := WM_X4_take Q A) (fun a j h => (zu_ne (by unfold WM_X4_take at h; omega)).trans (k_21 a j h)) (fun M_29 f_29 k_29 => ?_)
  refine vLm (W := WM_X4_take Q A) (fun a j h => (zu_ne (by unfold WM_X4_take at h; omega)).trans (k_29 a j h)) (fun M_37 f_37 k_37 => ?_)
  refine vLm (W := WM_X4_take Q A) (fun a j h => (zu_ne (by unfold WM_X4_take at h; omega)).trans (k_37 a j h)) (fun M_45 f_45 k_45 => ?_)
  refine vLm (W := WM_X4_take Q A) (fun a j h => (zu_ne (by unfold WM_X4_take at h; omega)).trans (k_45 a j h)) (fun M_53 f_53 k_53 => ?_)
  refine vLm (W := WM_X4_take Q A) (fun a j h => (congrFun (zcpy_row (by unfold WM_X4_take at h; omega)) j).trans (k_53 a j h)) (fun M_64 f_64 k_64 => ?_)
  refine vLm (W := WM_X4_take Q A) (fun a j h => (congrFun (zcpy_row (by unfold WM_X4_take at h; omega)) j).trans (k_64 a j h)) (fun M_75 f_75 k_75 => ?_)
  refine vLm (W := WM_X4_take Q A) (fun a j h => (congrFun (zcpy_row (by unfold WM_X4_take at h; omega)) j).trans (k_75 a j h)) (fun M_86 f_86 k_86 => ?_)
  refine vLm (W := WM_X4_take Q A) (fun a j h => (congrFun (zcpy_row (by unfold WM_X4_take at h; omega)) j).trans (k_86 a j h)) (fun M_97 f_97 k_97 => ?_)
  refine vLm (W := WM_X4_take Q A) (fun a j h => (congrFun (zcpy_row (by unfold WM_X4_take at h; omega)) j).trans (k_97 a j h)) (fun M_108 f_108 k_108 => ?_)
  refine vLm (W := WM_X4_take Q A) (fun a j h => (congrFun (zcpy_row (by unfold WM_X4_take at h; omega)) j).trans (k_108 a j h)) (fun M_119 f_119 k_119 => ?_)
  refine vLm (W := WM_X4_take Q A) (fun a j h => (congrFun (zcpy_row (by unfold WM_X4_take at h; omega)) j).trans (k_119 a j h)) (fun M_130 f_130 k_130 => ?_)
  exact ⟨_, rfl, k_130⟩
def WM_X1_keep (Q A : Nat) (a j : Nat) : Prop := Q ≤ a ∧ a < Q + 66
def WM_X1_giveBack (Q A : Nat) (a j : Nat) : Prop := (a = Q ∧ (j = 0 ∨ j = 1)) ∨ (A ≤ a ∧ a < A + 8)
theorem z_8 {x : Int32} (h : vp_in x 8) (hc : ¬ 8 ≤ x + 1) : vp_in (x + 1) 8 := by
  obtain ⟨e, h8⟩ := z_vin (by decide) h
  generalize x.toNatClampNeg = k at e h8
  subst e
  rw [nI_1] at hc ⊢
  have := (nI_leI (a := 8) (b := k + 1) (by decide) (by omega))
  have h9 : ¬ 8 ≤ k + 1 := fun q => hc (this.mpr q)
  exact vp_in_nI (by omega) (by decide)
theorem z_8m {x : Int32} (h : vp_in x 8) (hc : ¬ x ≤ 0) : vp_in (x - 1) 8 := by
  obtain ⟨e, h8⟩ := z_vin (by decide) h
  generalize x.toNatClampNeg = k at e h8
  subst e
  match k, h8 with
  | 0, _ => exact absurd (by decide) hc
  | 1, _ => unfold vp_in; decide
  | 2, _ => unfold vp_in; decide
  | 3, _ => unfold vp_in; decide
  | 4, _ => unfold vp_in; decide
  | 5, _ => unfold vp_in; decide
  | 6, _ => unfold vp_in; decide
  | 7, _ => unfold vp_in; decide
theorem v_X1_keep_22 {Q A : Nat} {y : Int32} {M0 : zMt} (hy : vp_in y 8) : ∃ r, D_X1_keep_22 Q A y M0 = some r ∧ ((∀ a j, ¬ WM_X1_keep Q A a j → r a j = M0 a j) ∧ vp_in (r Q 1) 8) := by
  unfold D_X1_keep_22
  obtain ⟨e, h8⟩ := z_vin (by decide) hy
  refine vLm (W := WM_X1_keep Q A) (fun a j h => zu_ne (by unfold WM_X1_keep at h; omega)) (fun M1 f1 k1 => ?_)
  refine vI hy ?_
  refine vB v_X4_take (fun M2 f2 q2 => ?_)
  have k2 : ∀ a j, ¬ WM_X1_keep Q A a j → M2 a j = M0 a j := fun a j h => (q2 a j (by unfold WM_X4_take; unfold WM_X1_keep at h; omega)).trans (k1 a j h)
  have t2 : M2 Q 1 = y := by rw [q2 Q 1 (by unfold WM_X4_take; omega), ← f1, zu_eq]
  refine vLm (W := WM_X1_keep Q A) (fun a j h => (zu_ne (by unfold WM_X1_keep at h; omega)).trans (k2 a j h)) (fun M3 f3 k3 => ?_)
  refine ⟨_, rfl, k3, ?_⟩
  rw [← f3, zu_ne (by omega), t2]
  exact hy
theorem v_X1_keep {Q A : Nat} {M0 : zMt} (hvp : vp_in (M0 Q 1) 8) : ∃ r, D_X1_keep Q A M0 = some r ∧ ((∀ a j, ¬ WM_X1_keep Q A a j → r a j = M0 a j) ∧ vp_in (r Q 1) 8) := by
  unfold D_X1_keep
  exact vIf (fun _ => v_X1_keep_22 (by unfold vp_in; decide)) (fun h => v_X1_keep_22 (z_8 hvp h))
theorem v_X1_giveBack {Q A : Nat} {M0 : zMt} (dQA : Q + 66 ≤ A ∨ A + 8 ≤ Q) (hvp : vp_in (M0 Q 1) 8) : ∃ r, D_X1_giveBack Q A M0 = some r ∧ ((∀ a j, ¬ WM_X1_giveBack Q A a j → r.2 a j = M0 a j) ∧ (r.1 = 0 ∨ r.1 = 1) ∧ vp_in (r.2 Q 1) 8) := by
  unfold D_X1_giveBack
  refine vI hvp ?_
  refine vIf (fun _ => ⟨_, rfl, fun _ _ _ => rfl, Or.inl rfl, hvp⟩) (fun _ => ?_)
  refine vB v_X4_take (fun M1 f1 q1 => ?_)
  have k1 : ∀ a j, ¬ WM_X1_giveBack Q A a j → M1 a j = M0 a j := fun a j h => (q1 a j (by unfold WM_X4_take; unfold WM_X1_giveBack at h; omega))
  have t1 : M1 Q 1 = M0 Q 1 := q1 Q 1 (by unfold WM_X4_take; omega)
  refine vLm (W := WM_X1_giveBack Q A) (fun a j h => (zu_ne (by unfold WM_X1_giveBack at h; omega)).trans (k1 a j h)) (fun M2 f2 k2 => ?_)
  have t2 : M2 Q 1 = M0 Q 1 := by rw [← f2, zu_ne (by omega), t1]
  refine vIf (fun h => ?_) (fun h => ?_)
  all_goals
    unfold D_X1_giveBack_52
    refine vLm (W := WM_X1_giveBack Q A) (fun a j h => (zu_ne (by unfold WM_X1_giveBack at h; omega)).trans (k2 a j h)) (fun M3 f3 k3 => ?_)
    refine ⟨_, rfl, k3, Or.inr rfl, ?_⟩
    show vp_in (M3 Q 1) 8
    rw [← f3, zu_eq]
    first | (unfold vp_in; decide) | (rw [t2] at h ⊢; exact z_8m hvp h)

def WM_X4_join (Q : Nat) (a j : Nat) : Prop := (Q + 4 ≤ a ∧ a < Q + 7) ∨ (a = Q ∧ (j = 2))
set_option maxRecDepth 100000 in
set_option maxHeartbeats 4000000 in
theorem v_X4_join {Q : Nat} {v0 : Int32} {v1 : Int32} {M0 : zMt}  : ∃ r, D_X4_join Q v0 v1 M0 = some r ∧ ((∀ a j, ¬ WM_X4_join Q a j → r a j = M0 a j)) := by
  unfold D_X4_join
  refine vB (v_X4_wishFor) (fun e_36 f_36 q_36 => ?_)
  have k_36 : ∀ a j, ¬ WM_X4_join Q a j → e_36 a j = M0 a j := fun a j h => (q_36 a j (by unfold WM_X4_wishFor; unfold WM_X4_join at h; omega))
  refine vB (v_X4_addParty) (fun e_47 f_47 q_47 => ?_)
  have k_47 : ∀ a j, ¬ WM_X4_join Q a j → e_47 a j = M0 a j := fun a j h => (q_47 a j (by unfold WM_X4_addParty; unfold WM_X4_join at h; omega)).trans (k_36 a j h)
  exact ⟨_, rfl, k_47⟩
def WM_X4_dissolve (Q : Nat) (a j : Nat) : Prop := (Q + 4 ≤ a ∧ a < Q + 5) ∨ (a = Q ∧ (j = 2))
set_option maxRecDepth 100000 in
set_option maxHeartbeats 4000000 in
theorem v_X4_dissolve {Q : Nat} {v0 : Int32} {M0 : zMt}  : ∃ r, D_X4_dissolve Q v0 M0 = some r ∧ ((∀ a j, ¬ WM_X4_dissolve Q a j → r a j = M0 a j)) := by
  have TL_2 : ∀ u : Nat, ∀ (x1_2 : Int32) (x2_2 : Int32) (M_2 : zMt), (∀ a j, ¬ WM_X4_dissolve Q a j → M_2 a j = M0 a j) → (2147483648 - Int32.toInt x2_2).toNat < u → ∃ r, D_X4_dissolve_2 Q u x1_2 x2_2 M_2 = some r ∧ ((∀ a j, ¬ WM_X4_dissolve Q a j → r a j = M0 a j)) := by
    intro u
    induction u with
    | zero => intro x1_2 x2_2 M_2 k_2 hm_2; exact absurd hm_2 (Nat.not_lt_zero _)
    | succ u_2 ih_2 =>
      have T_52 : ∀ (x1_52 : Int32) (x2_52 : Int32) (M_52 : zMt), (∀ a j, ¬ WM_X4_dissolve Q a j → M_52 a j = M0 a j) → ((2147483648 - Int32.toInt x2_52).toNat < u_2 + 1) → (Int32.toInt x2_52 < 2147483647) → ∃ r, D_X4_dissolve_52 Q (D_X4_dissolve_2 Q u_2) x1_52 x2_52 M_52 = some r ∧ ((∀ a j, ¬ WM_X4_dissolve Q a j → r a j = M0 a j)) := by
        intro x1_52 x2_52 M_52 k_52 f0_52 f1_52
        unfold D_X4_dissolve_52
        exact ih_2 _ _ _ k_52 (z_up1 f1_52 f0_52)
      intro x1_2 x2_2 M_2 k_2 hm_2
      rw [D_X4_dissolve_2]
      refine vIf (fun h_7 => ?_) (fun h_7 => ?_)
      · refine vLm (W := WM_X4_dissolve Q) (fun a j h => (zu_ne (by unfold WM_X4_dissolve at h; omega)).trans (k_2 a j h)) (fun M_65 f_65 k_65 => ?_)
        exact ⟨_, rfl, k_65⟩
      · refine vIf (fun h_21 => ?_) (fun h_21 => ?_)
        · refine vLm (W := WM_X4_dissolve Q) (fun a j h => (congrFun (zwr_row (by unfold WM_X4_dissolve at h; omega)) j).trans (k_2 a j h)) (fun M_30 f_30 k_30 => ?_)
          exact T_52 _ _ _ k_30 hm_2 (by first | assumption | exact z_lt (by assumption) | exact z_lt2 (by assumption) | exact z_lt3 (by assumption) (by first | assumption | decide))
        · refine vIf (fun h_38 => ?_) (fun h_38 => ?_)
          · exact T_52 _ _ _ k_2 hm_2 (by first | assumption | exact z_lt (by assumption) | exact z_lt2 (by assumption) | exact z_lt3 (by assumption) (by first | assumption | decide))
          · refine vLm (W := WM_X4_dissolve Q) (fun a j h => (congrFun (zwr_row (by unfold WM_X4_dissolve at h; omega)) j).trans (k_2 a j h)) (fun M_49 f_49 k_49 => ?_)
            exact T_52 _ _ _ k_49 hm_2 (by first | assumption | exact z_lt (by assumption) | exact z_lt2 (by assumption) | exact z_lt3 (by assumption) (by first | assumption | decide))
  have T_2 : ∀ (x1_2 : Int32) (x2_2 : Int32) (M_2 : zMt), (∀ a j, ¬ WM_X4_dissolve Q a j → M_2 a j = M0 a j) → ∃ r, D_X4_dissolve_2 Q zFu x1_2 x2_2 M_2 = some r ∧ ((∀ a j, ¬ WM_X4_dissolve Q a j → r a j = M0 a j)) := fun x1_2 x2_2 M_2 k_2 => TL_2 zFu x1_2 x2_2 M_2 k_2 (zFu_up _)
  unfold D_X4_dissolve
  exact T_2 _ _ _ (fun _ _ _ => rfl)
set_option maxRecDepth 100000 in
set_option maxHeartbeats 4000000 in
theorem v_X5_hasFirst {Q : Nat} {A : Nat} {M : zMt} {v0 : Int32}  : ∃ r, D_X5_hasFirst Q A M v0 = some r ∧ ((r = 0 ∨ r = 1)) := by
  have T_34 : ∀ (y0_34 : Int32), (y0_34 = 0 ∨ y0_34 = 1) → ∃ r, D_X5_hasFirst_34 Q A M y0_34 = some r ∧ ((r = 0 ∨ r = 1)) := by
    intro y0_34 f0_34
    unfold D_X5_hasFirst_34
    exact ⟨_, rfl, (by first | exact Or.inl rfl | exact Or.inr rfl | assumption)⟩
  have T_33 : ∃ r, D_X5_hasFirst_33 Q A M = some r ∧ ((r = 0 ∨ r = 1)) := by
    unfold D_X5_hasFirst_33
    exact T_34 _ (by first | exact Or.inl rfl | exact Or.inr rfl | assumption)
  unfold D_X5_hasFirst
  refine vIf (fun h_9 => ?_) (fun h_9 => ?_)
  · exact T_33
  · refine vB (v_X2_wish) (fun e_23 f_23 q_23 => ?_)
    refine vIf (fun h_26 => ?_) (fun h_26 => ?_)
    · exact T_34 _ (by first | exact Or.inl rfl | exact Or.inr rfl | assumption)
    · exact T_33
set_option maxRecDepth 100000 in
set_option maxHeartbeats 4000000 in
theorem v_X5_scoreBehind {Q : Nat} {A : Nat} {M : zMt} {v0 : Int32} {v1 : Int32}  : ∃ r, D_X5_scoreBehind Q A M v0 v1 = some r ∧ (True) := by
  have T_48 : ∀ (y0_48 : Int32), ∃ r, D_X5_scoreBehind_48 Q A M y0_48 = some r ∧ (True) := by
    intro y0_48
    unfold D_X5_scoreBehind_48
    exact ⟨_, rfl, trivial⟩
  unfold D_X5_scoreBehind
  refine vIf (fun h_8 => ?_) (fun h_8 => ?_)
  · exact ⟨_, rfl, trivial⟩
  · refine vIf (fun h_22 => ?_) (fun h_22 => ?_)
    · exact ⟨_, rfl, trivial⟩
    · refine vB (v_X5_hasFirst) (fun e_37 f_37 q_37 => ?_)
      have b_37 := q_37
      refine vIf (fun h_40 => ?_) (fun h_40 => ?_)
      · exact T_48 _
      · exact T_48 _
def WM_X4_live (Q A B : Nat) (a j : Nat) : Prop := (Q + 2 ≤ a ∧ a < Q + 3) ∨ (Q + 7 ≤ a ∧ a < Q + 8)
set_option maxRecDepth 100000 in
set_option maxHeartbeats 4000000 in
theorem v_X4_live {Q : Nat} {A : Nat} {B : Nat}  {M0 : zMt}  : ∃ r, D_X4_live Q A B M0 = some r ∧ ((∀ a j, ¬ WM_X4_live Q A B a j → r a j = M0 a j)) := by
  have TL_2 : ∀ u : Nat, ∀ (x3_2 : Int32) (M_2 : zMt), (∀ a j, ¬ WM_X4_live Q A B a j → M_2 a j = M0 a j) → (2147483648 - Int32.toInt x3_2).toNat < u → ∃ r, D_X4_live_2 Q A B u x3_2 M_2 = some r ∧ ((∀ a j, ¬ WM_X4_live Q A B a j → r a j = M0 a j)) := by
    intro u
    induction u with
    | zero => intro x3_2 M_2 k_2 hm_2; exact absurd hm_2 (Nat.not_lt_zero _)
    | succ u_2 ih_2 =>
      intro x3_2 M_2 k_2 hm_2
      rw [D_X4_live_2]
      refine vIf (fun h_7 => ?_) (fun h_7 => ?_)
      · exact ⟨_, rfl, k_2⟩
      · refine vB (v_X5_scoreBehind) (fun e_37 f_37 q_37 => ?_)
        refine vLm (W := WM_X4_live Q A B) (fun a j h => (congrFun (zwr_row (by unfold WM_X4_live at h; omega)) j).trans (k_2 a j h)) (fun M_40 f_40 k_40 => ?_)
        refine vLm (W := WM_X4_live Q A B) (fun a j h => (congrFun (zwr_row (by unfold WM_X4_live at h; omega)) j).trans (k_40 a j h)) (fun M_57 f_57 k_57 => ?_)
        exact ih_2 _ _ k_57 (z_up1 (by first | assumption | exact z_lt (by assumption) | exact z_lt2 (by assumption) | exact z_lt3 (by assumption) (by first | assumption | decide)) hm_2)
  have T_2 : ∀ (x3_2 : Int32) (M_2 : zMt), (∀ a j, ¬ WM_X4_live Q A B a j → M_2 a j = M0 a j) → ∃ r, D_X4_live_2 Q A B zFu x3_2 M_2 = some r ∧ ((∀ a j, ¬ WM_X4_live Q A B a j → r a j = M0 a j)) := fun x3_2 M_2 k_2 => TL_2 zFu x3_2 M_2 k_2 (zFu_up _)
  unfold D_X4_live
  exact T_2 _ _ (fun _ _ _ => rfl)
set_option maxRecDepth 100000 in
set_option maxHeartbeats 4000000 in
theorem v_X5_holderOf {Q : Nat} {M : zMt} {v0 : Int32} {v1 : Int32}  : ∃ r, D_X5_holderOf Q M v0 v1 = some r ∧ (True) := by
  have TL_5 : ∀ u : Nat, ∀ (x1_5 : Int32) (x2_5 : Int32) (x3_5 : Int32) (x4_5 : Int32), (2147483648 - Int32.toInt x4_5).toNat < u → ∃ r, D_X5_holderOf_5 Q M u x1_5 x2_5 x3_5 x4_5 = some r ∧ (True) := by
    intro u
    induction u with
    | zero => intro x1_5 x2_5 x3_5 x4_5 hm_5; exact absurd hm_5 (Nat.not_lt_zero _)
    | succ u_5 ih_5 =>
      have T_44 : ∀ (x1_44 : Int32) (x2_44 : Int32) (x3_44 : Int32) (x4_44 : Int32), ((2147483648 - Int32.toInt x4_44).toNat < u_5 + 1) → (Int32.toInt x4_44 < 2147483647) → ∃ r, D_X5_holderOf_44 Q M (D_X5_holderOf_5 Q M u_5) x1_44 x2_44 x3_44 x4_44 = some r ∧ (True) := by
        intro x1_44 x2_44 x3_44 x4_44 f0_44 f1_44
        unfold D_X5_holderOf_44
        exact ih_5 _ _ _ _ (z_up1 f1_44 f0_44)
      intro x1_5 x2_5 x3_5 x4_5 hm_5
      rw [D_X5_holderOf_5]
      refine vIf (fun h_11 => ?_) (fun h_11 => ?_)
      · exact ⟨_, rfl, trivial⟩
      · refine vIf (fun h_21 => ?_) (fun h_21 => ?_)
        · refine vIf (fun h_38 => ?_) (fun h_38 => ?_)
          · exact T_44 _ _ _ _ hm_5 (by first | assumption | exact z_lt (by assumption) | exact z_lt2 (by assumption) | exact z_lt3 (by assumption) (by first | assumption | decide))
          · exact ⟨_, rfl, trivial⟩
        · exact T_44 _ _ _ _ hm_5 (by first | assumption | exact z_lt (by assumption) | exact z_lt2 (by assumption) | exact z_lt3 (by assumption) (by first | assumption | decide))
  have T_5 : ∀ (x1_5 : Int32) (x2_5 : Int32) (x3_5 : Int32) (x4_5 : Int32), ∃ r, D_X5_holderOf_5 Q M zFu x1_5 x2_5 x3_5 x4_5 = some r ∧ (True) := fun x1_5 x2_5 x3_5 x4_5 => TL_5 zFu x1_5 x2_5 x3_5 x4_5 (zFu_up _)
  unfold D_X5_holderOf
  exact T_5 _ _ _ _
def WM_X5_lineUp (Q A : Nat) (a j : Nat) : Prop := (Q + 1 ≤ a ∧ a < Q + 2)
set_option maxRecDepth 100000 in
set_option maxHeartbeats 4000000 in
theorem v_X5_lineUp {Q : Nat} {A : Nat} {v0 : Int32} {M0 : zMt}  : ∃ r, D_X5_lineUp Q A v0 M0 = some r ∧ ((∀ a j, ¬ WM_X5_lineUp Q A a j → r a j = M0 a j)) := by
  have T_110 : ∀ (M_110 : zMt), (∀ a j, ¬ WM_X5_lineUp Q A a j → M_110 a j = M0 a j) → ∃ r, D_X5_lineUp_110 Q A M_110 = some r ∧ ((∀ a j, ¬ WM_X5_lineUp Q A a j → r a j = M0 a j)) := by
    intro M_110 k_110
    unfold D_X5_lineUp_110
    exact ⟨_, rfl, k_110⟩
  have TL_22 : ∀ u : Nat, ∀ (x3_22 : Int64) (x5_22 : Int32) (x6_22 : Int32) (x7_22 : Int32) (M_22 : zMt), (∀ a j, ¬ WM_X5_lineUp Q A a j → M_22 a j = M0 a j) → (2147483648 - Int32.toInt x7_22).toNat < u → ∃ r, D_X5_lineUp_22 Q A u x3_22 x5_22 x6_22 x7_22 M_22 = some r ∧ ((∀ a j, ¬ WM_X5_lineUp Q A a j → r a j = M0 a j)) := by
    intro u
    induction u with
    | zero => intro x3_22 x5_22 x6_22 x7_22 M_22 k_22 hm_22; exact absurd hm_22 (Nat.not_lt_zero _)
    | succ u_22 ih_22 =>
      intro x3_22 x5_22 x6_22 x7_22 M_22 k_22 hm_22
      rw [D_X5_lineUp_22]
      refine vIf (fun h_28 => ?_) (fun h_28 => ?_)
      · exact T_110 _ k_22
      · refine vIf (fun h_33 => ?_) (fun h_33 => ?_)
        · exact T_110 _ k_22
        · refine vZl (by first | assumption | exact z_nzl (by assumption)) ?_
          refine vB (v_X5_holderOf) (fun e_63 f_63 q_63 => ?_)
          refine vLm (W := WM_X5_lineUp Q A) (fun a j h => (congrFun (zwr_row (by unfold WM_X5_lineUp at h; omega)) j).trans (k_22 a j h)) (fun M_76 f_76 k_76 => ?_)
          exact ih_22 _ _ _ _ _ k_76 (z_up1 (by first | assumption | exact z_lt (by assumption) | exact z_lt2 (by assumption) | exact z_lt3 (by assumption) (by first | assumption | decide)) hm_22)
  have T_22 : ∀ (x3_22 : Int64) (x5_22 : Int32) (x6_22 : Int32) (x7_22 : Int32) (M_22 : zMt), (∀ a j, ¬ WM_X5_lineUp Q A a j → M_22 a j = M0 a j) → ∃ r, D_X5_lineUp_22 Q A zFu x3_22 x5_22 x6_22 x7_22 M_22 = some r ∧ ((∀ a j, ¬ WM_X5_lineUp Q A a j → r a j = M0 a j)) := fun x3_22 x5_22 x6_22 x7_22 M_22 k_22 => TL_22 zFu x3_22 x5_22 x6_22 x7_22 M_22 k_22 (zFu_up _)
  unfold D_X5_lineUp
  exact T_22 _ _ _ _ _ (fun _ _ _ => rfl)
def WM_X5_bySeed (Q A : Nat) (a j : Nat) : Prop := (Q + 1 ≤ a ∧ a < Q + 8)
set_option maxRecDepth 100000 in
set_option maxHeartbeats 4000000 in
theorem v_X5_bySeed {Q : Nat} {A : Nat} {v0 : Int32} {M0 : zMt}  : ∃ r, D_X5_bySeed Q A v0 M0 = some r ∧ ((∀ a j, ¬ WM_X5_bySeed Q A a j → r a j = M0 a j)) := by
  unfold D_X5_bySeed
  refine vB (v_X5_lineUp) (fun e_3 f_3 q_3 => ?_)
  have k_3 : ∀ a j, ¬ WM_X5_bySeed Q A a j → e_3 a j = M0 a j := fun a j h => (q_3 a j (by unfold WM_X5_lineUp; unfold WM_X5_bySeed at h; omega))
  refine vB (v_X5_settle) (fun e_8 f_8 q_8 => ?_)
  have k_8 : ∀ a j, ¬ WM_X5_bySeed Q A a j → e_8 a j = M0 a j := fun a j h => (q_8 a j (by unfold WM_X5_settle; unfold WM_X5_bySeed at h; omega)).trans (k_3 a j h)
  exact ⟨_, rfl, k_8⟩
set_option maxRecDepth 100000 in
set_option maxHeartbeats 4000000 in
theorem v_X5_rankHeld {Q : Nat} {A : Nat} {M : zMt} {v0 : Int32}  : ∃ r, D_X5_rankHeld Q A M v0 = some r ∧ (True) := by
  have T_24 : ∀ (y0_24 : Int32), ∃ r, D_X5_rankHeld_24 Q A M y0_24 = some r ∧ (True) := by
    intro y0_24
    unfold D_X5_rankHeld_24
    exact ⟨_, rfl, trivial⟩
  unfold D_X5_rankHeld
  refine vB (v_X2_rankOf) (fun e_10 f_10 q_10 => ?_)
  refine vIf (fun h_16 => ?_) (fun h_16 => ?_)
  · exact T_24 _
  · exact T_24 _
set_option maxRecDepth 100000 in
set_option maxHeartbeats 4000000 in
theorem v_X5_isWaiting {Q : Nat} {A : Nat} {M : zMt} {v0 : Int32} {v1 : Int32}  : ∃ r, D_X5_isWaiting Q A M v0 v1 = some r ∧ ((r = 0 ∨ r = 1)) := by
  have T_27 : ∀ (y0_27 : Int32), (y0_27 = 0 ∨ y0_27 = 1) → ∃ r, D_X5_isWaiting_27 Q A M y0_27 = some r ∧ ((r = 0 ∨ r = 1)) := by
    intro y0_27 f0_27
    unfold D_X5_isWaiting_27
    exact ⟨_, rfl, (by first | exact Or.inl rfl | exact Or.inr rfl | assumption)⟩
  have T_26 : ∃ r, D_X5_isWaiting_26 Q A M = some r ∧ ((r = 0 ∨ r = 1)) := by
    unfold D_X5_isWaiting_26
    exact T_27 _ (by first | exact Or.inl rfl | exact Or.inr rfl | assumption)
  unfold D_X5_isWaiting
  refine vIf (fun h_9 => ?_) (fun h_9 => ?_)
  · refine vB (v_X2_rankOf) (fun e_15 f_15 q_15 => ?_)
    refine vIf (fun h_19 => ?_) (fun h_19 => ?_)
    · exact T_26
    · exact T_27 _ (by first | exact Or.inl rfl | exact Or.inr rfl | assumption)
  · exact T_26
set_option maxRecDepth 100000 in
set_option maxHeartbeats 4000000 in
theorem v_X5_holders {Q : Nat} {A : Nat} {M : zMt} {v0 : Int32}  : ∃ r, D_X5_holders Q A M v0 = some r ∧ (True) := by
  have TL_5 : ∀ u : Nat, ∀ (x2_5 : Int32) (x3_5 : Int32) (x4_5 : Int32), (2147483648 - Int32.toInt x4_5).toNat < u → ∃ r, D_X5_holders_5 Q A M u x2_5 x3_5 x4_5 = some r ∧ (True) := by
    intro u
    induction u with
    | zero => intro x2_5 x3_5 x4_5 hm_5; exact absurd hm_5 (Nat.not_lt_zero _)
    | succ u_5 ih_5 =>
      have T_33 : ∀ (x2_33 : Int32) (x4_33 : Int32) (y0_33 : Int32) (y1_33 : Int32), (y1_33 = 0 ∨ y1_33 = 1) → ((2147483648 - Int32.toInt x4_33).toNat < u_5 + 1) → (Int32.toInt x4_33 < 2147483647) → ∃ r, D_X5_holders_33 Q A M (D_X5_holders_5 Q A M u_5) x2_33 x4_33 y0_33 y1_33 = some r ∧ (True) := by
        intro x2_33 x4_33 y0_33 y1_33 f0_33 f1_33 f2_33
        unfold D_X5_holders_33
        exact ih_5 _ _ _ (z_up1 f2_33 f1_33)
      intro x2_5 x3_5 x4_5 hm_5
      rw [D_X5_holders_5]
      refine vIf (fun h_11 => ?_) (fun h_11 => ?_)
      · exact ⟨_, rfl, trivial⟩
      · refine vIf (fun h_25 => ?_) (fun h_25 => ?_)
        · exact T_33 _ _ _ _ (by first | exact Or.inl rfl | exact Or.inr rfl | assumption) hm_5 (by first | assumption | exact z_lt (by assumption) | exact z_lt2 (by assumption) | exact z_lt3 (by assumption) (by first | assumption | decide))
        · exact T_33 _ _ _ _ (by first | exact Or.inl rfl | exact Or.inr rfl | assumption) hm_5 (by first | assumption | exact z_lt (by assumption) | exact z_lt2 (by assumption) | exact z_lt3 (by assumption) (by first | assumption | decide))
  have T_5 : ∀ (x2_5 : Int32) (x3_5 : Int32) (x4_5 : Int32), ∃ r, D_X5_holders_5 Q A M zFu x2_5 x3_5 x4_5 = some r ∧ (True) := fun x2_5 x3_5 x4_5 => TL_5 zFu x2_5 x3_5 x4_5 (zFu_up _)
  unfold D_X5_holders
  exact T_5 _ _ _
set_option maxRecDepth 100000 in
set_option maxHeartbeats 4000000 in
theorem v_X5_fewestPoints {Q : Nat} {A : Nat} {M : zMt} {v0 : Int32}  : ∃ r, D_X5_fewestPoints Q A M v0 = some r ∧ (True) := by
  have TL_5 : ∀ u : Nat, ∀ (x2_5 : Int32) (x3_5 : Int32) (x4_5 : Int32), (2147483648 - Int32.toInt x4_5).toNat < u → ∃ r, D_X5_fewestPoints_5 Q A M u x2_5 x3_5 x4_5 = some r ∧ (True) := by
    intro u
    induction u with
    | zero => intro x2_5 x3_5 x4_5 hm_5; exact absurd hm_5 (Nat.not_lt_zero _)
    | succ u_5 ih_5 =>
      have T_55 : ∀ (x2_55 : Int32) (x3_55 : Int32) (x4_55 : Int32), ((2147483648 - Int32.toInt x4_55).toNat < u_5 + 1) → (Int32.toInt x4_55 < 2147483647) → ∃ r, D_X5_fewestPoints_55 Q A M (D_X5_fewestPoints_5 Q A M u_5) x2_55 x3_55 x4_55 = some r ∧ (True) := by
        intro x2_55 x3_55 x4_55 f0_55 f1_55
        unfold D_X5_fewestPoints_55
        exact ih_5 _ _ _ (z_up1 f1_55 f0_55)
      have T_45 : ∀ (x2_45 : Int32) (x4_45 : Int32), ((2147483648 - Int32.toInt x4_45).toNat < u_5 + 1) → (Int32.toInt x4_45 < 2147483647) → ∃ r, D_X5_fewestPoints_45 Q A M (D_X5_fewestPoints_5 Q A M u_5) x2_45 x4_45 = some r ∧ (True) := by
        intro x2_45 x4_45 f0_45 f1_45
        unfold D_X5_fewestPoints_45
        exact T_55 _ _ _ f0_45 f1_45
      intro x2_5 x3_5 x4_5 hm_5
      rw [D_X5_fewestPoints_5]
      refine vIf (fun h_11 => ?_) (fun h_11 => ?_)
      · exact ⟨_, rfl, trivial⟩
      · refine vIf (fun h_24 => ?_) (fun h_24 => ?_)
        · refine vIf (fun h_29 => ?_) (fun h_29 => ?_)
          · exact T_45 _ _ hm_5 (by first | assumption | exact z_lt (by assumption) | exact z_lt2 (by assumption) | exact z_lt3 (by assumption) (by first | assumption | decide))
          · refine vIf (fun h_42 => ?_) (fun h_42 => ?_)
            · exact T_55 _ _ _ hm_5 (by first | assumption | exact z_lt (by assumption) | exact z_lt2 (by assumption) | exact z_lt3 (by assumption) (by first | assumption | decide))
            · exact T_45 _ _ hm_5 (by first | assumption | exact z_lt (by assumption) | exact z_lt2 (by assumption) | exact z_lt3 (by assumption) (by first | assumption | decide))
        · exact T_55 _ _ _ hm_5 (by first | assumption | exact z_lt (by assumption) | exact z_lt2 (by assumption) | exact z_lt3 (by assumption) (by first | assumption | decide))
  have T_5 : ∀ (x2_5 : Int32) (x3_5 : Int32) (x4_5 : Int32), ∃ r, D_X5_fewestPoints_5 Q A M zFu x2_5 x3_5 x4_5 = some r ∧ (True) := fun x2_5 x3_5 x4_5 => TL_5 zFu x2_5 x3_5 x4_5 (zFu_up _)
  unfold D_X5_fewestPoints
  exact T_5 _ _ _
set_option maxRecDepth 100000 in
set_option maxHeartbeats 4000000 in
theorem v_X5_tagsGiven {Q : Nat} {A : Nat} {M : zMt}   : ∃ r, D_X5_tagsGiven Q A M = some r ∧ (True) := by
  have TL_4 : ∀ u : Nat, ∀ (x2_4 : Int32) (x3_4 : Int32), (2147483648 - Int32.toInt x3_4).toNat < u → ∃ r, D_X5_tagsGiven_4 Q A M u x2_4 x3_4 = some r ∧ (True) := by
    intro u
    induction u with
    | zero => intro x2_4 x3_4 hm_4; exact absurd hm_4 (Nat.not_lt_zero _)
    | succ u_4 ih_4 =>
      have T_37 : ∀ (x3_37 : Int32) (y0_37 : Int32) (y1_37 : Int32), ((2147483648 - Int32.toInt x3_37).toNat < u_4 + 1) → (Int32.toInt x3_37 < 2147483647) → ∃ r, D_X5_tagsGiven_37 Q A M (D_X5_tagsGiven_4 Q A M u_4) x3_37 y0_37 y1_37 = some r ∧ (True) := by
        intro x3_37 y0_37 y1_37 f0_37 f1_37
        unfold D_X5_tagsGiven_37
        exact ih_4 _ _ (z_up1 f1_37 f0_37)
      intro x2_4 x3_4 hm_4
      rw [D_X5_tagsGiven_4]
      refine vIf (fun h_9 => ?_) (fun h_9 => ?_)
      · exact ⟨_, rfl, trivial⟩
      · refine vIf (fun h_22 => ?_) (fun h_22 => ?_)
        · exact T_37 _ _ _ hm_4 (by first | assumption | exact z_lt (by assumption) | exact z_lt2 (by assumption) | exact z_lt3 (by assumption) (by first | assumption | decide))
        · exact T_37 _ _ _ hm_4 (by first | assumption | exact z_lt (by assumption) | exact z_lt2 (by assumption) | exact z_lt3 (by assumption) (by first | assumption | decide))
  have T_4 : ∀ (x2_4 : Int32) (x3_4 : Int32), ∃ r, D_X5_tagsGiven_4 Q A M zFu x2_4 x3_4 = some r ∧ (True) := fun x2_4 x3_4 => TL_4 zFu x2_4 x3_4 (zFu_up _)
  unfold D_X5_tagsGiven
  exact T_4 _ _
def WM_X6_note (Q : Nat) (a j : Nat) : Prop := (Q + 1 ≤ a ∧ a < Q + 4) ∨ (a = Q ∧ (j = 1))
set_option maxRecDepth 100000 in
set_option maxHeartbeats 4000000 in
theorem v_X6_note {Q : Nat} {v0 : Int32} {v1 : Int32} {M0 : zMt}  : ∃ r, D_X6_note Q v0 v1 M0 = some r ∧ ((∀ a j, ¬ WM_X6_note Q a j → r a j = M0 a j)) := by
  have T_109 : ∀ (M_109 : zMt), (∀ a j, ¬ WM_X6_note Q a j → M_109 a j = M0 a j) → ∃ r, D_X6_note_109 Q M_109 = some r ∧ ((∀ a j, ¬ WM_X6_note Q a j → r a j = M0 a j)) := by
    intro M_109 k_109
    unfold D_X6_note_109
    exact ⟨_, rfl, k_109⟩
  unfold D_X6_note
  refine vIf (fun h_24 => ?_) (fun h_24 => ?_)
  · refine vLm (W := WM_X6_note Q) (fun a j h => (congrFun (zwr_row (by unfold WM_X6_note at h; omega)) j)) (fun M_33 f_33 k_33 => ?_)
    refine vLm (W := WM_X6_note Q) (fun a j h => (zu_ne (by unfold WM_X6_note at h; omega)).trans (k_33 a j h)) (fun M_52 f_52 k_52 => ?_)
    exact ⟨_, rfl, k_52⟩
  · refine vLm (W := WM_X6_note Q) (fun a j h => (congrFun (zwr_row (by unfold WM_X6_note at h; omega)) j)) (fun M_62 f_62 k_62 => ?_)
    refine vLm (W := WM_X6_note Q) (fun a j h => (congrFun (zwr_row (by unfold WM_X6_note at h; omega)) j).trans (k_62 a j h)) (fun M_71 f_71 k_71 => ?_)
    refine vB (v_X5_hasFirst) (fun e_83 f_83 q_83 => ?_)
    have b_83 := q_83
    refine vIf (fun h_86 => ?_) (fun h_86 => ?_)
    · exact T_109 _ k_71
    · refine vIf (fun h_97 => ?_) (fun h_97 => ?_)
      · refine vLm (W := WM_X6_note Q) (fun a j h => (congrFun (zwr_row (by unfold WM_X6_note at h; omega)) j).trans (k_71 a j h)) (fun M_106 f_106 k_106 => ?_)
        exact T_109 _ k_106
      · exact T_109 _ k_71
